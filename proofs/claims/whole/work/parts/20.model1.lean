theorem dX10_thrown_0 : decode cX10_thrown 0 = .ok (.aload_n 0, 1) := by decide +kernel
theorem dX10_thrown_1 : decode cX10_thrown 1 = .ok (.getfield 1, 3) := by decide +kernel
theorem dX10_thrown_4 : decode cX10_thrown 4 = .ok (.ireturn, 1) := by decide +kernel
theorem dX10_within_0 : decode cX10_within 0 = .ok (.lload_n 0, 1) := by decide +kernel
theorem dX10_within_1 : decode cX10_within 1 = .ok (.lload_n 2, 1) := by decide +kernel
theorem dX10_within_2 : decode cX10_within 2 = .ok (.lcmp, 1) := by decide +kernel
theorem dX10_within_3 : decode cX10_within 3 = .ok (.ifCond .lt 14, 3) := by decide +kernel
theorem dX10_within_6 : decode cX10_within 6 = .ok (.lload_n 0, 1) := by decide +kernel
theorem dX10_within_7 : decode cX10_within 7 = .ok (.lload 4, 2) := by decide +kernel
theorem dX10_within_9 : decode cX10_within 9 = .ok (.lcmp, 1) := by decide +kernel
theorem dX10_within_10 : decode cX10_within 10 = .ok (.ifCond .gt 7, 3) := by decide +kernel
theorem dX10_within_13 : decode cX10_within 13 = .ok (.iconst 1, 1) := by decide +kernel
theorem dX10_within_14 : decode cX10_within 14 = .ok (.goto 4, 3) := by decide +kernel
theorem dX10_within_17 : decode cX10_within 17 = .ok (.iconst 0, 1) := by decide +kernel
theorem dX10_within_18 : decode cX10_within 18 = .ok (.ireturn, 1) := by decide +kernel
theorem dX10_bits_0 : decode cX10_bits 0 = .ok (.iconst 0, 1) := by decide +kernel
theorem dX10_bits_1 : decode cX10_bits 1 = .ok (.istore_n 1, 1) := by decide +kernel
theorem dX10_bits_2 : decode cX10_bits 2 = .ok (.iload_n 0, 1) := by decide +kernel
theorem dX10_bits_3 : decode cX10_bits 3 = .ok (.istore_n 2, 1) := by decide +kernel
theorem dX10_bits_4 : decode cX10_bits 4 = .ok (.iload_n 2, 1) := by decide +kernel
theorem dX10_bits_5 : decode cX10_bits 5 = .ok (.ifCond .eq 15, 3) := by decide +kernel
theorem dX10_bits_8 : decode cX10_bits 8 = .ok (.iinc 1 1, 3) := by decide +kernel
theorem dX10_bits_11 : decode cX10_bits 11 = .ok (.iload_n 2, 1) := by decide +kernel
theorem dX10_bits_12 : decode cX10_bits 12 = .ok (.iload_n 2, 1) := by decide +kernel
theorem dX10_bits_13 : decode cX10_bits 13 = .ok (.iconst 1, 1) := by decide +kernel
theorem dX10_bits_14 : decode cX10_bits 14 = .ok (.isub, 1) := by decide +kernel
theorem dX10_bits_15 : decode cX10_bits 15 = .ok (.iand, 1) := by decide +kernel
theorem dX10_bits_16 : decode cX10_bits 16 = .ok (.istore_n 2, 1) := by decide +kernel
theorem dX10_bits_17 : decode cX10_bits 17 = .ok (.goto (-13), 3) := by decide +kernel
theorem dX10_bits_20 : decode cX10_bits 20 = .ok (.iload_n 1, 1) := by decide +kernel
theorem dX10_bits_21 : decode cX10_bits 21 = .ok (.ireturn, 1) := by decide +kernel
theorem dX10_size_0 : decode cX10_size 0 = .ok (.iload_n 0, 1) := by decide +kernel
theorem dX10_size_1 : decode cX10_size 1 = .ok (.ifCond .ge 8, 3) := by decide +kernel
theorem dX10_size_4 : decode cX10_size 4 = .ok (.iload_n 0, 1) := by decide +kernel
theorem dX10_size_5 : decode cX10_size 5 = .ok (.ineg, 1) := by decide +kernel
theorem dX10_size_6 : decode cX10_size 6 = .ok (.goto 4, 3) := by decide +kernel
theorem dX10_size_9 : decode cX10_size 9 = .ok (.iload_n 0, 1) := by decide +kernel
theorem dX10_size_10 : decode cX10_size 10 = .ok (.ireturn, 1) := by decide +kernel
theorem dX10_bytesOf_0 : decode cX10_bytesOf 0 = .ok (.bipush 24, 2) := by decide +kernel
theorem dX10_bytesOf_2 : decode cX10_bytesOf 2 = .ok (.istore_n 2, 1) := by decide +kernel
theorem dX10_bytesOf_3 : decode cX10_bytesOf 3 = .ok (.iload_n 2, 1) := by decide +kernel
theorem dX10_bytesOf_4 : decode cX10_bytesOf 4 = .ok (.ifCond .lt 32, 3) := by decide +kernel
theorem dX10_bytesOf_7 : decode cX10_bytesOf 7 = .ok (.aload_n 0, 1) := by decide +kernel
theorem dX10_bytesOf_8 : decode cX10_bytesOf 8 = .ok (.getfield 42, 3) := by decide +kernel
theorem dX10_bytesOf_11 : decode cX10_bytesOf 11 = .ok (.aload_n 0, 1) := by decide +kernel
theorem dX10_bytesOf_12 : decode cX10_bytesOf 12 = .ok (.getfield 94, 3) := by decide +kernel
theorem dX10_bytesOf_15 : decode cX10_bytesOf 15 = .ok (.iload_n 1, 1) := by decide +kernel
theorem dX10_bytesOf_16 : decode cX10_bytesOf 16 = .ok (.iload_n 2, 1) := by decide +kernel
theorem dX10_bytesOf_17 : decode cX10_bytesOf 17 = .ok (.ishr, 1) := by decide +kernel
theorem dX10_bytesOf_18 : decode cX10_bytesOf 18 = .ok (.i2b, 1) := by decide +kernel
theorem dX10_bytesOf_19 : decode cX10_bytesOf 19 = .ok (.bastore, 1) := by decide +kernel
theorem dX10_bytesOf_20 : decode cX10_bytesOf 20 = .ok (.aload_n 0, 1) := by decide +kernel
theorem dX10_bytesOf_21 : decode cX10_bytesOf 21 = .ok (.dup, 1) := by decide +kernel
theorem dX10_bytesOf_22 : decode cX10_bytesOf 22 = .ok (.getfield 94, 3) := by decide +kernel
theorem dX10_bytesOf_25 : decode cX10_bytesOf 25 = .ok (.iconst 1, 1) := by decide +kernel
theorem dX10_bytesOf_26 : decode cX10_bytesOf 26 = .ok (.iadd, 1) := by decide +kernel
theorem dX10_bytesOf_27 : decode cX10_bytesOf 27 = .ok (.putfield 94, 3) := by decide +kernel
theorem dX10_bytesOf_30 : decode cX10_bytesOf 30 = .ok (.iinc 2 (-8), 3) := by decide +kernel
theorem dX10_bytesOf_33 : decode cX10_bytesOf 33 = .ok (.goto (-30), 3) := by decide +kernel
theorem dX10_bytesOf_36 : decode cX10_bytesOf 36 = .ok (.return_, 1) := by decide +kernel
theorem dX10_append_0 : decode cX10_append 0 = .ok (.aload_n 0, 1) := by decide +kernel
theorem dX10_append_1 : decode cX10_append 1 = .ok (.iconst 0, 1) := by decide +kernel
theorem dX10_append_2 : decode cX10_append 2 = .ok (.putfield 1, 3) := by decide +kernel
theorem dX10_append_5 : decode cX10_append 5 = .ok (.aload_n 0, 1) := by decide +kernel
theorem dX10_append_6 : decode cX10_append 6 = .ok (.getfield 94, 3) := by decide +kernel
theorem dX10_append_9 : decode cX10_append 9 = .ok (.bipush 20, 2) := by decide +kernel
theorem dX10_append_11 : decode cX10_append 11 = .ok (.iadd, 1) := by decide +kernel
theorem dX10_append_12 : decode cX10_append 12 = .ok (.sipush 800, 3) := by decide +kernel
theorem dX10_append_15 : decode cX10_append 15 = .ok (.if_icmp .le 6, 3) := by decide +kernel
theorem dX10_append_18 : decode cX10_append 18 = .ok (.bipush (-3), 2) := by decide +kernel
theorem dX10_append_20 : decode cX10_append 20 = .ok (.ireturn, 1) := by decide +kernel
theorem dX10_append_21 : decode cX10_append 21 = .ok (.aload_n 0, 1) := by decide +kernel
theorem dX10_append_22 : decode cX10_append 22 = .ok (.iload_n 1, 1) := by decide +kernel
theorem dX10_append_23 : decode cX10_append 23 = .ok (.invokevirtual 97, 3) := by decide +kernel
theorem dX10_append_26 : decode cX10_append 26 = .ok (.aload_n 0, 1) := by decide +kernel
theorem dX10_append_27 : decode cX10_append 27 = .ok (.iload_n 2, 1) := by decide +kernel
theorem dX10_append_28 : decode cX10_append 28 = .ok (.invokevirtual 97, 3) := by decide +kernel
theorem dX10_append_31 : decode cX10_append 31 = .ok (.aload_n 0, 1) := by decide +kernel
theorem dX10_append_32 : decode cX10_append 32 = .ok (.iload_n 3, 1) := by decide +kernel
theorem dX10_append_33 : decode cX10_append 33 = .ok (.invokevirtual 97, 3) := by decide +kernel
theorem dX10_append_36 : decode cX10_append 36 = .ok (.aload_n 0, 1) := by decide +kernel
theorem dX10_append_37 : decode cX10_append 37 = .ok (.iload 4, 2) := by decide +kernel
theorem dX10_append_39 : decode cX10_append 39 = .ok (.invokevirtual 97, 3) := by decide +kernel
theorem dX10_append_42 : decode cX10_append 42 = .ok (.aload_n 0, 1) := by decide +kernel
theorem dX10_append_43 : decode cX10_append 43 = .ok (.iload 5, 2) := by decide +kernel
theorem dX10_append_45 : decode cX10_append 45 = .ok (.invokevirtual 97, 3) := by decide +kernel
theorem dX10_append_48 : decode cX10_append 48 = .ok (.aload_n 0, 1) := by decide +kernel
theorem dX10_append_49 : decode cX10_append 49 = .ok (.getfield 94, 3) := by decide +kernel
theorem dX10_append_52 : decode cX10_append 52 = .ok (.ireturn, 1) := by decide +kernel
theorem dX10_byteAt_0 : decode cX10_byteAt 0 = .ok (.iload_n 1, 1) := by decide +kernel
theorem dX10_byteAt_1 : decode cX10_byteAt 1 = .ok (.aload_n 0, 1) := by decide +kernel
theorem dX10_byteAt_2 : decode cX10_byteAt 2 = .ok (.getfield 101, 3) := by decide +kernel
theorem dX10_byteAt_5 : decode cX10_byteAt 5 = .ok (.if_icmp .ge 16, 3) := by decide +kernel
theorem dX10_byteAt_8 : decode cX10_byteAt 8 = .ok (.aload_n 0, 1) := by decide +kernel
theorem dX10_byteAt_9 : decode cX10_byteAt 9 = .ok (.getfield 42, 3) := by decide +kernel
theorem dX10_byteAt_12 : decode cX10_byteAt 12 = .ok (.iload_n 1, 1) := by decide +kernel
theorem dX10_byteAt_13 : decode cX10_byteAt 13 = .ok (.baload, 1) := by decide +kernel
theorem dX10_byteAt_14 : decode cX10_byteAt 14 = .ok (.sipush 255, 3) := by decide +kernel
theorem dX10_byteAt_17 : decode cX10_byteAt 17 = .ok (.iand, 1) := by decide +kernel
theorem dX10_byteAt_18 : decode cX10_byteAt 18 = .ok (.goto 5, 3) := by decide +kernel
theorem dX10_byteAt_21 : decode cX10_byteAt 21 = .ok (.bipush (-2), 2) := by decide +kernel
theorem dX10_byteAt_23 : decode cX10_byteAt 23 = .ok (.ireturn, 1) := by decide +kernel
theorem dX10_advance_0 : decode cX10_advance 0 = .ok (.aload_n 0, 1) := by decide +kernel
theorem dX10_advance_1 : decode cX10_advance 1 = .ok (.aload_n 0, 1) := by decide +kernel
theorem dX10_advance_2 : decode cX10_advance 2 = .ok (.getfield 104, 3) := by decide +kernel
theorem dX10_advance_5 : decode cX10_advance 5 = .ok (.invokevirtual 107, 3) := by decide +kernel
theorem dX10_advance_8 : decode cX10_advance 8 = .ok (.bipush 32, 2) := by decide +kernel
theorem dX10_advance_10 : decode cX10_advance 10 = .ok (.if_icmp .eq 16, 3) := by decide +kernel
theorem dX10_advance_13 : decode cX10_advance 13 = .ok (.aload_n 0, 1) := by decide +kernel
theorem dX10_advance_14 : decode cX10_advance 14 = .ok (.aload_n 0, 1) := by decide +kernel
theorem dX10_advance_15 : decode cX10_advance 15 = .ok (.getfield 104, 3) := by decide +kernel
theorem dX10_advance_18 : decode cX10_advance 18 = .ok (.invokevirtual 107, 3) := by decide +kernel
theorem dX10_advance_21 : decode cX10_advance 21 = .ok (.bipush 10, 2) := by decide +kernel
theorem dX10_advance_23 : decode cX10_advance 23 = .ok (.if_icmp .ne 16, 3) := by decide +kernel
theorem dX10_advance_26 : decode cX10_advance 26 = .ok (.aload_n 0, 1) := by decide +kernel
theorem dX10_advance_27 : decode cX10_advance 27 = .ok (.dup, 1) := by decide +kernel
theorem dX10_advance_28 : decode cX10_advance 28 = .ok (.getfield 104, 3) := by decide +kernel
theorem dX10_advance_31 : decode cX10_advance 31 = .ok (.iconst 1, 1) := by decide +kernel
theorem dX10_advance_32 : decode cX10_advance 32 = .ok (.iadd, 1) := by decide +kernel
theorem dX10_advance_33 : decode cX10_advance 33 = .ok (.putfield 104, 3) := by decide +kernel
theorem dX10_advance_36 : decode cX10_advance 36 = .ok (.goto (-36), 3) := by decide +kernel
theorem dX10_advance_39 : decode cX10_advance 39 = .ok (.aload_n 0, 1) := by decide +kernel
theorem dX10_advance_40 : decode cX10_advance 40 = .ok (.aload_n 0, 1) := by decide +kernel
theorem dX10_advance_41 : decode cX10_advance 41 = .ok (.getfield 104, 3) := by decide +kernel
theorem dX10_advance_44 : decode cX10_advance 44 = .ok (.putfield 111, 3) := by decide +kernel
theorem dX10_advance_47 : decode cX10_advance 47 = .ok (.aload_n 0, 1) := by decide +kernel
theorem dX10_advance_48 : decode cX10_advance 48 = .ok (.iconst 0, 1) := by decide +kernel
theorem dX10_advance_49 : decode cX10_advance 49 = .ok (.putfield 114, 3) := by decide +kernel
theorem dX10_advance_52 : decode cX10_advance 52 = .ok (.aload_n 0, 1) := by decide +kernel
theorem dX10_advance_53 : decode cX10_advance 53 = .ok (.aload_n 0, 1) := by decide +kernel
theorem dX10_advance_54 : decode cX10_advance 54 = .ok (.getfield 104, 3) := by decide +kernel
theorem dX10_advance_57 : decode cX10_advance 57 = .ok (.invokevirtual 107, 3) := by decide +kernel
theorem dX10_advance_60 : decode cX10_advance 60 = .ok (.istore_n 1, 1) := by decide +kernel
theorem dX10_advance_61 : decode cX10_advance 61 = .ok (.iload_n 1, 1) := by decide +kernel
theorem dX10_advance_62 : decode cX10_advance 62 = .ok (.bipush (-2), 2) := by decide +kernel
theorem dX10_advance_64 : decode cX10_advance 64 = .ok (.if_icmp .ne 11, 3) := by decide +kernel
theorem dX10_advance_67 : decode cX10_advance 67 = .ok (.aload_n 0, 1) := by decide +kernel
theorem dX10_advance_68 : decode cX10_advance 68 = .ok (.iconst 0, 1) := by decide +kernel
theorem dX10_advance_69 : decode cX10_advance 69 = .ok (.putfield 117, 3) := by decide +kernel
theorem dX10_advance_72 : decode cX10_advance 72 = .ok (.goto 220, 3) := by decide +kernel
theorem dX10_advance_75 : decode cX10_advance 75 = .ok (.iload_n 1, 1) := by decide +kernel
theorem dX10_advance_76 : decode cX10_advance 76 = .ok (.i2l, 1) := by decide +kernel
theorem dX10_advance_77 : decode cX10_advance 77 = .ok (.ldc2_w 120, 3) := by decide +kernel
theorem dX10_advance_80 : decode cX10_advance 80 = .ok (.ldc2_w 122, 3) := by decide +kernel
theorem dX10_advance_83 : decode cX10_advance 83 = .ok (.invokestatic 124, 3) := by decide +kernel
theorem dX10_advance_86 : decode cX10_advance 86 = .ok (.ifCond .eq 63, 3) := by decide +kernel
theorem dX10_advance_89 : decode cX10_advance 89 = .ok (.aload_n 0, 1) := by decide +kernel
theorem dX10_advance_90 : decode cX10_advance 90 = .ok (.aload_n 0, 1) := by decide +kernel
theorem dX10_advance_91 : decode cX10_advance 91 = .ok (.getfield 104, 3) := by decide +kernel
theorem dX10_advance_94 : decode cX10_advance 94 = .ok (.invokevirtual 107, 3) := by decide +kernel
theorem dX10_advance_97 : decode cX10_advance 97 = .ok (.i2l, 1) := by decide +kernel
theorem dX10_advance_98 : decode cX10_advance 98 = .ok (.ldc2_w 120, 3) := by decide +kernel
theorem dX10_advance_101 : decode cX10_advance 101 = .ok (.ldc2_w 122, 3) := by decide +kernel
theorem dX10_advance_104 : decode cX10_advance 104 = .ok (.invokestatic 124, 3) := by decide +kernel
theorem dX10_advance_107 : decode cX10_advance 107 = .ok (.ifCond .eq 16, 3) := by decide +kernel
theorem dX10_advance_110 : decode cX10_advance 110 = .ok (.aload_n 0, 1) := by decide +kernel
theorem dX10_advance_111 : decode cX10_advance 111 = .ok (.dup, 1) := by decide +kernel
theorem dX10_advance_112 : decode cX10_advance 112 = .ok (.getfield 104, 3) := by decide +kernel
theorem dX10_advance_115 : decode cX10_advance 115 = .ok (.iconst 1, 1) := by decide +kernel
theorem dX10_advance_116 : decode cX10_advance 116 = .ok (.iadd, 1) := by decide +kernel
theorem dX10_advance_117 : decode cX10_advance 117 = .ok (.putfield 104, 3) := by decide +kernel
theorem dX10_advance_120 : decode cX10_advance 120 = .ok (.goto (-31), 3) := by decide +kernel
theorem dX10_advance_123 : decode cX10_advance 123 = .ok (.aload_n 0, 1) := by decide +kernel
theorem dX10_advance_124 : decode cX10_advance 124 = .ok (.aload_n 0, 1) := by decide +kernel
theorem dX10_advance_125 : decode cX10_advance 125 = .ok (.getfield 104, 3) := by decide +kernel
theorem dX10_advance_128 : decode cX10_advance 128 = .ok (.aload_n 0, 1) := by decide +kernel
theorem dX10_advance_129 : decode cX10_advance 129 = .ok (.getfield 111, 3) := by decide +kernel
theorem dX10_advance_132 : decode cX10_advance 132 = .ok (.isub, 1) := by decide +kernel
theorem dX10_advance_133 : decode cX10_advance 133 = .ok (.bipush 8, 2) := by decide +kernel
theorem dX10_advance_135 : decode cX10_advance 135 = .ok (.if_icmp .le 7, 3) := by decide +kernel
theorem dX10_advance_138 : decode cX10_advance 138 = .ok (.iconst 4, 1) := by decide +kernel
theorem dX10_advance_139 : decode cX10_advance 139 = .ok (.goto 4, 3) := by decide +kernel
theorem dX10_advance_142 : decode cX10_advance 142 = .ok (.iconst 1, 1) := by decide +kernel
theorem dX10_advance_143 : decode cX10_advance 143 = .ok (.putfield 117, 3) := by decide +kernel
theorem dX10_advance_146 : decode cX10_advance 146 = .ok (.goto 146, 3) := by decide +kernel
theorem dX10_advance_149 : decode cX10_advance 149 = .ok (.iload_n 1, 1) := by decide +kernel
theorem dX10_advance_150 : decode cX10_advance 150 = .ok (.i2l, 1) := by decide +kernel
theorem dX10_advance_151 : decode cX10_advance 151 = .ok (.ldc2_w 128, 3) := by decide +kernel
theorem dX10_advance_154 : decode cX10_advance 154 = .ok (.ldc2_w 130, 3) := by decide +kernel
theorem dX10_advance_157 : decode cX10_advance 157 = .ok (.invokestatic 124, 3) := by decide +kernel
theorem dX10_advance_160 : decode cX10_advance 160 = .ok (.ifCond .eq 107, 3) := by decide +kernel
theorem dX10_advance_163 : decode cX10_advance 163 = .ok (.aload_n 0, 1) := by decide +kernel
theorem dX10_advance_164 : decode cX10_advance 164 = .ok (.aload_n 0, 1) := by decide +kernel
theorem dX10_advance_165 : decode cX10_advance 165 = .ok (.getfield 104, 3) := by decide +kernel
theorem dX10_advance_168 : decode cX10_advance 168 = .ok (.invokevirtual 107, 3) := by decide +kernel
theorem dX10_advance_171 : decode cX10_advance 171 = .ok (.i2l, 1) := by decide +kernel
theorem dX10_advance_172 : decode cX10_advance 172 = .ok (.ldc2_w 128, 3) := by decide +kernel
theorem dX10_advance_175 : decode cX10_advance 175 = .ok (.ldc2_w 130, 3) := by decide +kernel
theorem dX10_advance_178 : decode cX10_advance 178 = .ok (.invokestatic 124, 3) := by decide +kernel
theorem dX10_advance_181 : decode cX10_advance 181 = .ok (.ifCond .eq 60, 3) := by decide +kernel
theorem dX10_advance_184 : decode cX10_advance 184 = .ok (.aload_n 0, 1) := by decide +kernel
theorem dX10_advance_185 : decode cX10_advance 185 = .ok (.aload_n 0, 1) := by decide +kernel
theorem dX10_advance_186 : decode cX10_advance 186 = .ok (.getfield 104, 3) := by decide +kernel
theorem dX10_advance_189 : decode cX10_advance 189 = .ok (.aload_n 0, 1) := by decide +kernel
theorem dX10_advance_190 : decode cX10_advance 190 = .ok (.getfield 111, 3) := by decide +kernel
theorem dX10_advance_193 : decode cX10_advance 193 = .ok (.isub, 1) := by decide +kernel
theorem dX10_advance_194 : decode cX10_advance 194 = .ok (.bipush 6, 2) := by decide +kernel
theorem dX10_advance_196 : decode cX10_advance 196 = .ok (.if_icmp .ge 25, 3) := by decide +kernel
theorem dX10_advance_199 : decode cX10_advance 199 = .ok (.bipush 10, 2) := by decide +kernel
theorem dX10_advance_201 : decode cX10_advance 201 = .ok (.aload_n 0, 1) := by decide +kernel
theorem dX10_advance_202 : decode cX10_advance 202 = .ok (.getfield 114, 3) := by decide +kernel
theorem dX10_advance_205 : decode cX10_advance 205 = .ok (.imul, 1) := by decide +kernel
theorem dX10_advance_206 : decode cX10_advance 206 = .ok (.aload_n 0, 1) := by decide +kernel
theorem dX10_advance_207 : decode cX10_advance 207 = .ok (.aload_n 0, 1) := by decide +kernel
theorem dX10_advance_208 : decode cX10_advance 208 = .ok (.getfield 104, 3) := by decide +kernel
theorem dX10_advance_211 : decode cX10_advance 211 = .ok (.invokevirtual 107, 3) := by decide +kernel
theorem dX10_advance_214 : decode cX10_advance 214 = .ok (.iadd, 1) := by decide +kernel
theorem dX10_advance_215 : decode cX10_advance 215 = .ok (.bipush 48, 2) := by decide +kernel
theorem dX10_advance_217 : decode cX10_advance 217 = .ok (.isub, 1) := by decide +kernel
theorem dX10_advance_218 : decode cX10_advance 218 = .ok (.goto 7, 3) := by decide +kernel
theorem dX10_advance_221 : decode cX10_advance 221 = .ok (.aload_n 0, 1) := by decide +kernel
theorem dX10_advance_222 : decode cX10_advance 222 = .ok (.getfield 114, 3) := by decide +kernel
theorem dX10_advance_225 : decode cX10_advance 225 = .ok (.putfield 114, 3) := by decide +kernel
theorem dX10_advance_228 : decode cX10_advance 228 = .ok (.aload_n 0, 1) := by decide +kernel
theorem dX10_advance_229 : decode cX10_advance 229 = .ok (.dup, 1) := by decide +kernel
theorem dX10_advance_230 : decode cX10_advance 230 = .ok (.getfield 104, 3) := by decide +kernel
theorem dX10_advance_233 : decode cX10_advance 233 = .ok (.iconst 1, 1) := by decide +kernel
theorem dX10_advance_234 : decode cX10_advance 234 = .ok (.iadd, 1) := by decide +kernel
theorem dX10_advance_235 : decode cX10_advance 235 = .ok (.putfield 104, 3) := by decide +kernel
theorem dX10_advance_238 : decode cX10_advance 238 = .ok (.goto (-75), 3) := by decide +kernel
theorem dX10_advance_241 : decode cX10_advance 241 = .ok (.aload_n 0, 1) := by decide +kernel
theorem dX10_advance_242 : decode cX10_advance 242 = .ok (.aload_n 0, 1) := by decide +kernel
theorem dX10_advance_243 : decode cX10_advance 243 = .ok (.getfield 104, 3) := by decide +kernel
theorem dX10_advance_246 : decode cX10_advance 246 = .ok (.aload_n 0, 1) := by decide +kernel
theorem dX10_advance_247 : decode cX10_advance 247 = .ok (.getfield 111, 3) := by decide +kernel
theorem dX10_advance_250 : decode cX10_advance 250 = .ok (.isub, 1) := by decide +kernel
theorem dX10_advance_251 : decode cX10_advance 251 = .ok (.bipush 6, 2) := by decide +kernel
theorem dX10_advance_253 : decode cX10_advance 253 = .ok (.if_icmp .le 7, 3) := by decide +kernel
theorem dX10_advance_256 : decode cX10_advance 256 = .ok (.iconst 4, 1) := by decide +kernel
theorem dX10_advance_257 : decode cX10_advance 257 = .ok (.goto 4, 3) := by decide +kernel
theorem dX10_advance_260 : decode cX10_advance 260 = .ok (.iconst 2, 1) := by decide +kernel
theorem dX10_advance_261 : decode cX10_advance 261 = .ok (.putfield 117, 3) := by decide +kernel
theorem dX10_advance_264 : decode cX10_advance 264 = .ok (.goto 28, 3) := by decide +kernel
theorem dX10_advance_267 : decode cX10_advance 267 = .ok (.aload_n 0, 1) := by decide +kernel
theorem dX10_advance_268 : decode cX10_advance 268 = .ok (.dup, 1) := by decide +kernel
theorem dX10_advance_269 : decode cX10_advance 269 = .ok (.getfield 104, 3) := by decide +kernel
theorem dX10_advance_272 : decode cX10_advance 272 = .ok (.iconst 1, 1) := by decide +kernel
theorem dX10_advance_273 : decode cX10_advance 273 = .ok (.iadd, 1) := by decide +kernel
theorem dX10_advance_274 : decode cX10_advance 274 = .ok (.putfield 104, 3) := by decide +kernel
theorem dX10_advance_277 : decode cX10_advance 277 = .ok (.aload_n 0, 1) := by decide +kernel
theorem dX10_advance_278 : decode cX10_advance 278 = .ok (.iload_n 1, 1) := by decide +kernel
theorem dX10_advance_279 : decode cX10_advance 279 = .ok (.bipush 59, 2) := by decide +kernel
theorem dX10_advance_281 : decode cX10_advance 281 = .ok (.if_icmp .ne 7, 3) := by decide +kernel
theorem dX10_advance_284 : decode cX10_advance 284 = .ok (.iconst 3, 1) := by decide +kernel
theorem dX10_advance_285 : decode cX10_advance 285 = .ok (.goto 4, 3) := by decide +kernel
theorem dX10_advance_288 : decode cX10_advance 288 = .ok (.iconst 4, 1) := by decide +kernel
theorem dX10_advance_289 : decode cX10_advance 289 = .ok (.putfield 117, 3) := by decide +kernel
theorem dX10_advance_292 : decode cX10_advance 292 = .ok (.return_, 1) := by decide +kernel
theorem dX10_isWord_0 : decode cX10_isWord 0 = .ok (.aload_n 0, 1) := by decide +kernel
theorem dX10_isWord_1 : decode cX10_isWord 1 = .ok (.getfield 117, 3) := by decide +kernel
theorem dX10_isWord_4 : decode cX10_isWord 4 = .ok (.iconst 1, 1) := by decide +kernel
theorem dX10_isWord_5 : decode cX10_isWord 5 = .ok (.if_icmp .ne 23, 3) := by decide +kernel
theorem dX10_isWord_8 : decode cX10_isWord 8 = .ok (.aload_n 0, 1) := by decide +kernel
theorem dX10_isWord_9 : decode cX10_isWord 9 = .ok (.getfield 104, 3) := by decide +kernel
theorem dX10_isWord_12 : decode cX10_isWord 12 = .ok (.aload_n 0, 1) := by decide +kernel
theorem dX10_isWord_13 : decode cX10_isWord 13 = .ok (.getfield 111, 3) := by decide +kernel
theorem dX10_isWord_16 : decode cX10_isWord 16 = .ok (.isub, 1) := by decide +kernel
theorem dX10_isWord_17 : decode cX10_isWord 17 = .ok (.aload_n 1, 1) := by decide +kernel
theorem dX10_isWord_18 : decode cX10_isWord 18 = .ok (.invokevirtual 132, 3) := by decide +kernel
theorem dX10_isWord_21 : decode cX10_isWord 21 = .ok (.if_icmp .ne 7, 3) := by decide +kernel
theorem dX10_isWord_24 : decode cX10_isWord 24 = .ok (.iconst 1, 1) := by decide +kernel
theorem dX10_isWord_25 : decode cX10_isWord 25 = .ok (.goto 4, 3) := by decide +kernel
theorem dX10_isWord_28 : decode cX10_isWord 28 = .ok (.iconst 0, 1) := by decide +kernel
theorem dX10_isWord_29 : decode cX10_isWord 29 = .ok (.istore_n 2, 1) := by decide +kernel
theorem dX10_isWord_30 : decode cX10_isWord 30 = .ok (.iconst 0, 1) := by decide +kernel
theorem dX10_isWord_31 : decode cX10_isWord 31 = .ok (.istore_n 3, 1) := by decide +kernel
theorem dX10_isWord_32 : decode cX10_isWord 32 = .ok (.iload_n 3, 1) := by decide +kernel
theorem dX10_isWord_33 : decode cX10_isWord 33 = .ok (.aload_n 1, 1) := by decide +kernel
theorem dX10_isWord_34 : decode cX10_isWord 34 = .ok (.invokevirtual 132, 3) := by decide +kernel
theorem dX10_isWord_37 : decode cX10_isWord 37 = .ok (.if_icmp .ge 38, 3) := by decide +kernel
theorem dX10_isWord_40 : decode cX10_isWord 40 = .ok (.iload_n 2, 1) := by decide +kernel
theorem dX10_isWord_41 : decode cX10_isWord 41 = .ok (.ifCond .eq 34, 3) := by decide +kernel
theorem dX10_isWord_44 : decode cX10_isWord 44 = .ok (.aload_n 0, 1) := by decide +kernel
theorem dX10_isWord_45 : decode cX10_isWord 45 = .ok (.getfield 42, 3) := by decide +kernel
theorem dX10_isWord_48 : decode cX10_isWord 48 = .ok (.aload_n 0, 1) := by decide +kernel
theorem dX10_isWord_49 : decode cX10_isWord 49 = .ok (.getfield 111, 3) := by decide +kernel
theorem dX10_isWord_52 : decode cX10_isWord 52 = .ok (.iload_n 3, 1) := by decide +kernel
theorem dX10_isWord_53 : decode cX10_isWord 53 = .ok (.iadd, 1) := by decide +kernel
theorem dX10_isWord_54 : decode cX10_isWord 54 = .ok (.baload, 1) := by decide +kernel
theorem dX10_isWord_55 : decode cX10_isWord 55 = .ok (.aload_n 1, 1) := by decide +kernel
theorem dX10_isWord_56 : decode cX10_isWord 56 = .ok (.iload_n 3, 1) := by decide +kernel
theorem dX10_isWord_57 : decode cX10_isWord 57 = .ok (.invokevirtual 137, 3) := by decide +kernel
theorem dX10_isWord_60 : decode cX10_isWord 60 = .ok (.if_icmp .ne 7, 3) := by decide +kernel
theorem dX10_isWord_63 : decode cX10_isWord 63 = .ok (.iconst 1, 1) := by decide +kernel
theorem dX10_isWord_64 : decode cX10_isWord 64 = .ok (.goto 4, 3) := by decide +kernel
theorem dX10_isWord_67 : decode cX10_isWord 67 = .ok (.iconst 0, 1) := by decide +kernel
theorem dX10_isWord_68 : decode cX10_isWord 68 = .ok (.istore_n 2, 1) := by decide +kernel
theorem dX10_isWord_69 : decode cX10_isWord 69 = .ok (.iinc 3 1, 3) := by decide +kernel
theorem dX10_isWord_72 : decode cX10_isWord 72 = .ok (.goto (-40), 3) := by decide +kernel
theorem dX10_isWord_75 : decode cX10_isWord 75 = .ok (.iload_n 2, 1) := by decide +kernel
theorem dX10_isWord_76 : decode cX10_isWord 76 = .ok (.ireturn, 1) := by decide +kernel
theorem dX10_fails_0 : decode cX10_fails 0 = .ok (.aload_n 0, 1) := by decide +kernel
theorem dX10_fails_1 : decode cX10_fails 1 = .ok (.getfield 141, 3) := by decide +kernel
theorem dX10_fails_4 : decode cX10_fails 4 = .ok (.ifCond .ne 16, 3) := by decide +kernel
theorem dX10_fails_7 : decode cX10_fails 7 = .ok (.aload_n 0, 1) := by decide +kernel
theorem dX10_fails_8 : decode cX10_fails 8 = .ok (.iload_n 1, 1) := by decide +kernel
theorem dX10_fails_9 : decode cX10_fails 9 = .ok (.putfield 141, 3) := by decide +kernel
theorem dX10_fails_12 : decode cX10_fails 12 = .ok (.aload_n 0, 1) := by decide +kernel
theorem dX10_fails_13 : decode cX10_fails 13 = .ok (.aload_n 0, 1) := by decide +kernel
theorem dX10_fails_14 : decode cX10_fails 14 = .ok (.getfield 111, 3) := by decide +kernel
theorem dX10_fails_17 : decode cX10_fails 17 = .ok (.putfield 46, 3) := by decide +kernel
theorem dX10_fails_20 : decode cX10_fails 20 = .ok (.iconst 0, 1) := by decide +kernel
theorem dX10_fails_21 : decode cX10_fails 21 = .ok (.ireturn, 1) := by decide +kernel
theorem dX10_takes_0 : decode cX10_takes 0 = .ok (.aload_n 0, 1) := by decide +kernel
theorem dX10_takes_1 : decode cX10_takes 1 = .ok (.getfield 117, 3) := by decide +kernel
theorem dX10_takes_4 : decode cX10_takes 4 = .ok (.iconst 2, 1) := by decide +kernel
theorem dX10_takes_5 : decode cX10_takes 5 = .ok (.if_icmp .eq 9, 3) := by decide +kernel
theorem dX10_takes_8 : decode cX10_takes 8 = .ok (.aload_n 0, 1) := by decide +kernel
theorem dX10_takes_9 : decode cX10_takes 9 = .ok (.iconst 1, 1) := by decide +kernel
theorem dX10_takes_10 : decode cX10_takes 10 = .ok (.invokevirtual 144, 3) := by decide +kernel
theorem dX10_takes_13 : decode cX10_takes 13 = .ok (.ireturn, 1) := by decide +kernel
theorem dX10_takes_14 : decode cX10_takes 14 = .ok (.aload_n 0, 1) := by decide +kernel
theorem dX10_takes_15 : decode cX10_takes 15 = .ok (.getfield 114, 3) := by decide +kernel
theorem dX10_takes_18 : decode cX10_takes 18 = .ok (.i2l, 1) := by decide +kernel
theorem dX10_takes_19 : decode cX10_takes 19 = .ok (.iload_n 1, 1) := by decide +kernel
theorem dX10_takes_20 : decode cX10_takes 20 = .ok (.i2l, 1) := by decide +kernel
theorem dX10_takes_21 : decode cX10_takes 21 = .ok (.iload_n 2, 1) := by decide +kernel
theorem dX10_takes_22 : decode cX10_takes 22 = .ok (.i2l, 1) := by decide +kernel
theorem dX10_takes_23 : decode cX10_takes 23 = .ok (.invokestatic 124, 3) := by decide +kernel
theorem dX10_takes_26 : decode cX10_takes 26 = .ok (.ifCond .ne 9, 3) := by decide +kernel
theorem dX10_takes_29 : decode cX10_takes 29 = .ok (.aload_n 0, 1) := by decide +kernel
theorem dX10_takes_30 : decode cX10_takes 30 = .ok (.iconst 3, 1) := by decide +kernel
theorem dX10_takes_31 : decode cX10_takes 31 = .ok (.invokevirtual 144, 3) := by decide +kernel
theorem dX10_takes_34 : decode cX10_takes 34 = .ok (.ireturn, 1) := by decide +kernel
theorem dX10_takes_35 : decode cX10_takes 35 = .ok (.aload_n 0, 1) := by decide +kernel
theorem dX10_takes_36 : decode cX10_takes 36 = .ok (.aload_n 0, 1) := by decide +kernel
theorem dX10_takes_37 : decode cX10_takes 37 = .ok (.getfield 114, 3) := by decide +kernel
theorem dX10_takes_40 : decode cX10_takes 40 = .ok (.putfield 148, 3) := by decide +kernel
theorem dX10_takes_43 : decode cX10_takes 43 = .ok (.aload_n 0, 1) := by decide +kernel
theorem dX10_takes_44 : decode cX10_takes 44 = .ok (.invokevirtual 151, 3) := by decide +kernel
theorem dX10_takes_47 : decode cX10_takes 47 = .ok (.iconst 1, 1) := by decide +kernel
theorem dX10_takes_48 : decode cX10_takes 48 = .ok (.ireturn, 1) := by decide +kernel
theorem dX10_begins_0 : decode cX10_begins 0 = .ok (.iload_n 1, 1) := by decide +kernel
theorem dX10_begins_1 : decode cX10_begins 1 = .ok (.ifCond .ne 9, 3) := by decide +kernel
theorem dX10_begins_4 : decode cX10_begins 4 = .ok (.aload_n 0, 1) := by decide +kernel
theorem dX10_begins_5 : decode cX10_begins 5 = .ok (.iconst 4, 1) := by decide +kernel
theorem dX10_begins_6 : decode cX10_begins 6 = .ok (.invokevirtual 144, 3) := by decide +kernel
theorem dX10_begins_9 : decode cX10_begins 9 = .ok (.ireturn, 1) := by decide +kernel
theorem dX10_begins_10 : decode cX10_begins 10 = .ok (.aload_n 0, 1) := by decide +kernel
theorem dX10_begins_11 : decode cX10_begins 11 = .ok (.invokevirtual 151, 3) := by decide +kernel
theorem dX10_begins_14 : decode cX10_begins 14 = .ok (.iconst 1, 1) := by decide +kernel
theorem dX10_begins_15 : decode cX10_begins 15 = .ok (.ireturn, 1) := by decide +kernel
theorem dX10_traderLine_0 : decode cX10_traderLine 0 = .ok (.aload_n 0, 1) := by decide +kernel
theorem dX10_traderLine_1 : decode cX10_traderLine 1 = .ok (.aload_n 0, 1) := by decide +kernel
theorem dX10_traderLine_2 : decode cX10_traderLine 2 = .ok (.getfield 154, 3) := by decide +kernel
theorem dX10_traderLine_5 : decode cX10_traderLine 5 = .ok (.bipush 8, 2) := by decide +kernel
theorem dX10_traderLine_7 : decode cX10_traderLine 7 = .ok (.if_icmp .ge 7, 3) := by decide +kernel
theorem dX10_traderLine_10 : decode cX10_traderLine 10 = .ok (.iconst 1, 1) := by decide +kernel
theorem dX10_traderLine_11 : decode cX10_traderLine 11 = .ok (.goto 4, 3) := by decide +kernel
theorem dX10_traderLine_14 : decode cX10_traderLine 14 = .ok (.iconst 0, 1) := by decide +kernel
theorem dX10_traderLine_15 : decode cX10_traderLine 15 = .ok (.invokevirtual 157, 3) := by decide +kernel
theorem dX10_traderLine_18 : decode cX10_traderLine 18 = .ok (.ifCond .ne 5, 3) := by decide +kernel
theorem dX10_traderLine_21 : decode cX10_traderLine 21 = .ok (.iconst 0, 1) := by decide +kernel
theorem dX10_traderLine_22 : decode cX10_traderLine 22 = .ok (.ireturn, 1) := by decide +kernel
theorem dX10_traderLine_23 : decode cX10_traderLine 23 = .ok (.aload_n 0, 1) := by decide +kernel
theorem dX10_traderLine_24 : decode cX10_traderLine 24 = .ok (.dup, 1) := by decide +kernel
theorem dX10_traderLine_25 : decode cX10_traderLine 25 = .ok (.getfield 154, 3) := by decide +kernel
theorem dX10_traderLine_28 : decode cX10_traderLine 28 = .ok (.iconst 1, 1) := by decide +kernel
theorem dX10_traderLine_29 : decode cX10_traderLine 29 = .ok (.iadd, 1) := by decide +kernel
theorem dX10_traderLine_30 : decode cX10_traderLine 30 = .ok (.putfield 154, 3) := by decide +kernel
theorem dX10_traderLine_33 : decode cX10_traderLine 33 = .ok (.iconst 1, 1) := by decide +kernel
theorem dX10_traderLine_34 : decode cX10_traderLine 34 = .ok (.ireturn, 1) := by decide +kernel
theorem dX10_scaleLine_0 : decode cX10_scaleLine 0 = .ok (.aload_n 0, 1) := by decide +kernel
theorem dX10_scaleLine_1 : decode cX10_scaleLine 1 = .ok (.getfield 161, 3) := by decide +kernel
theorem dX10_scaleLine_4 : decode cX10_scaleLine 4 = .ok (.istore_n 1, 1) := by decide +kernel
theorem dX10_scaleLine_5 : decode cX10_scaleLine 5 = .ok (.aload_n 0, 1) := by decide +kernel
theorem dX10_scaleLine_6 : decode cX10_scaleLine 6 = .ok (.iload_n 1, 1) := by decide +kernel
theorem dX10_scaleLine_7 : decode cX10_scaleLine 7 = .ok (.bipush 24, 2) := by decide +kernel
theorem dX10_scaleLine_9 : decode cX10_scaleLine 9 = .ok (.if_icmp .ge 7, 3) := by decide +kernel
theorem dX10_scaleLine_12 : decode cX10_scaleLine 12 = .ok (.iconst 1, 1) := by decide +kernel
theorem dX10_scaleLine_13 : decode cX10_scaleLine 13 = .ok (.goto 4, 3) := by decide +kernel
theorem dX10_scaleLine_16 : decode cX10_scaleLine 16 = .ok (.iconst 0, 1) := by decide +kernel
theorem dX10_scaleLine_17 : decode cX10_scaleLine 17 = .ok (.invokevirtual 157, 3) := by decide +kernel
theorem dX10_scaleLine_20 : decode cX10_scaleLine 20 = .ok (.ifCond .eq 17, 3) := by decide +kernel
theorem dX10_scaleLine_23 : decode cX10_scaleLine 23 = .ok (.aload_n 0, 1) := by decide +kernel
theorem dX10_scaleLine_24 : decode cX10_scaleLine 24 = .ok (.iconst 0, 1) := by decide +kernel
theorem dX10_scaleLine_25 : decode cX10_scaleLine 25 = .ok (.aload_n 0, 1) := by decide +kernel
theorem dX10_scaleLine_26 : decode cX10_scaleLine 26 = .ok (.getfield 154, 3) := by decide +kernel
theorem dX10_scaleLine_29 : decode cX10_scaleLine 29 = .ok (.iconst 1, 1) := by decide +kernel
theorem dX10_scaleLine_30 : decode cX10_scaleLine 30 = .ok (.isub, 1) := by decide +kernel
theorem dX10_scaleLine_31 : decode cX10_scaleLine 31 = .ok (.invokevirtual 164, 3) := by decide +kernel
theorem dX10_scaleLine_34 : decode cX10_scaleLine 34 = .ok (.ifCond .ne 5, 3) := by decide +kernel
theorem dX10_scaleLine_37 : decode cX10_scaleLine 37 = .ok (.iconst 0, 1) := by decide +kernel
theorem dX10_scaleLine_38 : decode cX10_scaleLine 38 = .ok (.ireturn, 1) := by decide +kernel
theorem dX10_scaleLine_39 : decode cX10_scaleLine 39 = .ok (.aload_n 0, 1) := by decide +kernel
theorem dX10_scaleLine_40 : decode cX10_scaleLine 40 = .ok (.getfield 49, 3) := by decide +kernel
theorem dX10_scaleLine_43 : decode cX10_scaleLine 43 = .ok (.iload_n 1, 1) := by decide +kernel
theorem dX10_scaleLine_44 : decode cX10_scaleLine 44 = .ok (.aload_n 0, 1) := by decide +kernel
theorem dX10_scaleLine_45 : decode cX10_scaleLine 45 = .ok (.getfield 148, 3) := by decide +kernel
theorem dX10_scaleLine_48 : decode cX10_scaleLine 48 = .ok (.iastore, 1) := by decide +kernel
theorem dX10_scaleLine_49 : decode cX10_scaleLine 49 = .ok (.aload_n 0, 1) := by decide +kernel
theorem dX10_scaleLine_50 : decode cX10_scaleLine 50 = .ok (.iconst 0, 1) := by decide +kernel
theorem dX10_scaleLine_51 : decode cX10_scaleLine 51 = .ok (.iconst 2, 1) := by decide +kernel
theorem dX10_scaleLine_52 : decode cX10_scaleLine 52 = .ok (.invokevirtual 164, 3) := by decide +kernel
theorem dX10_scaleLine_55 : decode cX10_scaleLine 55 = .ok (.ifCond .ne 5, 3) := by decide +kernel
theorem dX10_scaleLine_58 : decode cX10_scaleLine 58 = .ok (.iconst 0, 1) := by decide +kernel
theorem dX10_scaleLine_59 : decode cX10_scaleLine 59 = .ok (.ireturn, 1) := by decide +kernel
theorem dX10_scaleLine_60 : decode cX10_scaleLine 60 = .ok (.aload_n 0, 1) := by decide +kernel
theorem dX10_scaleLine_61 : decode cX10_scaleLine 61 = .ok (.getfield 52, 3) := by decide +kernel
theorem dX10_scaleLine_64 : decode cX10_scaleLine 64 = .ok (.iload_n 1, 1) := by decide +kernel
theorem dX10_scaleLine_65 : decode cX10_scaleLine 65 = .ok (.aload_n 0, 1) := by decide +kernel
theorem dX10_scaleLine_66 : decode cX10_scaleLine 66 = .ok (.getfield 148, 3) := by decide +kernel
theorem dX10_scaleLine_69 : decode cX10_scaleLine 69 = .ok (.iastore, 1) := by decide +kernel
theorem dX10_scaleLine_70 : decode cX10_scaleLine 70 = .ok (.aload_n 0, 1) := by decide +kernel
theorem dX10_scaleLine_71 : decode cX10_scaleLine 71 = .ok (.iconst 1, 1) := by decide +kernel
theorem dX10_scaleLine_72 : decode cX10_scaleLine 72 = .ok (.sipush 1000, 3) := by decide +kernel
theorem dX10_scaleLine_75 : decode cX10_scaleLine 75 = .ok (.invokevirtual 164, 3) := by decide +kernel
theorem dX10_scaleLine_78 : decode cX10_scaleLine 78 = .ok (.ifCond .ne 5, 3) := by decide +kernel
theorem dX10_scaleLine_81 : decode cX10_scaleLine 81 = .ok (.iconst 0, 1) := by decide +kernel
theorem dX10_scaleLine_82 : decode cX10_scaleLine 82 = .ok (.ireturn, 1) := by decide +kernel
theorem dX10_scaleLine_83 : decode cX10_scaleLine 83 = .ok (.aload_n 0, 1) := by decide +kernel
theorem dX10_scaleLine_84 : decode cX10_scaleLine 84 = .ok (.getfield 55, 3) := by decide +kernel
theorem dX10_scaleLine_87 : decode cX10_scaleLine 87 = .ok (.iload_n 1, 1) := by decide +kernel
theorem dX10_scaleLine_88 : decode cX10_scaleLine 88 = .ok (.aload_n 0, 1) := by decide +kernel
theorem dX10_scaleLine_89 : decode cX10_scaleLine 89 = .ok (.getfield 148, 3) := by decide +kernel
theorem dX10_scaleLine_92 : decode cX10_scaleLine 92 = .ok (.iastore, 1) := by decide +kernel
theorem dX10_scaleLine_93 : decode cX10_scaleLine 93 = .ok (.aload_n 0, 1) := by decide +kernel
theorem dX10_scaleLine_94 : decode cX10_scaleLine 94 = .ok (.bipush 20, 2) := by decide +kernel
theorem dX10_scaleLine_96 : decode cX10_scaleLine 96 = .ok (.aload_n 0, 1) := by decide +kernel
theorem dX10_scaleLine_97 : decode cX10_scaleLine 97 = .ok (.getfield 55, 3) := by decide +kernel
theorem dX10_scaleLine_100 : decode cX10_scaleLine 100 = .ok (.iload_n 1, 1) := by decide +kernel
theorem dX10_scaleLine_101 : decode cX10_scaleLine 101 = .ok (.iaload, 1) := by decide +kernel
theorem dX10_scaleLine_102 : decode cX10_scaleLine 102 = .ok (.imul, 1) := by decide +kernel
theorem dX10_scaleLine_103 : decode cX10_scaleLine 103 = .ok (.ldc 168, 2) := by decide +kernel
theorem dX10_scaleLine_105 : decode cX10_scaleLine 105 = .ok (.invokevirtual 164, 3) := by decide +kernel
theorem dX10_scaleLine_108 : decode cX10_scaleLine 108 = .ok (.ifCond .ne 5, 3) := by decide +kernel
theorem dX10_scaleLine_111 : decode cX10_scaleLine 111 = .ok (.iconst 0, 1) := by decide +kernel
theorem dX10_scaleLine_112 : decode cX10_scaleLine 112 = .ok (.ireturn, 1) := by decide +kernel
theorem dX10_scaleLine_113 : decode cX10_scaleLine 113 = .ok (.aload_n 0, 1) := by decide +kernel
theorem dX10_scaleLine_114 : decode cX10_scaleLine 114 = .ok (.getfield 58, 3) := by decide +kernel
theorem dX10_scaleLine_117 : decode cX10_scaleLine 117 = .ok (.iload_n 1, 1) := by decide +kernel
theorem dX10_scaleLine_118 : decode cX10_scaleLine 118 = .ok (.aload_n 0, 1) := by decide +kernel
theorem dX10_scaleLine_119 : decode cX10_scaleLine 119 = .ok (.getfield 148, 3) := by decide +kernel
theorem dX10_scaleLine_122 : decode cX10_scaleLine 122 = .ok (.iastore, 1) := by decide +kernel
theorem dX10_scaleLine_123 : decode cX10_scaleLine 123 = .ok (.aload_n 0, 1) := by decide +kernel
theorem dX10_scaleLine_124 : decode cX10_scaleLine 124 = .ok (.dup, 1) := by decide +kernel
theorem dX10_scaleLine_125 : decode cX10_scaleLine 125 = .ok (.getfield 161, 3) := by decide +kernel
theorem dX10_scaleLine_128 : decode cX10_scaleLine 128 = .ok (.iconst 1, 1) := by decide +kernel
theorem dX10_scaleLine_129 : decode cX10_scaleLine 129 = .ok (.iadd, 1) := by decide +kernel
theorem dX10_scaleLine_130 : decode cX10_scaleLine 130 = .ok (.putfield 161, 3) := by decide +kernel
theorem dX10_scaleLine_133 : decode cX10_scaleLine 133 = .ok (.iconst 1, 1) := by decide +kernel
theorem dX10_scaleLine_134 : decode cX10_scaleLine 134 = .ok (.ireturn, 1) := by decide +kernel
theorem dX10_massLine_0 : decode cX10_massLine 0 = .ok (.aload_n 0, 1) := by decide +kernel
theorem dX10_massLine_1 : decode cX10_massLine 1 = .ok (.getfield 169, 3) := by decide +kernel
theorem dX10_massLine_4 : decode cX10_massLine 4 = .ok (.istore_n 1, 1) := by decide +kernel
theorem dX10_massLine_5 : decode cX10_massLine 5 = .ok (.aload_n 0, 1) := by decide +kernel
theorem dX10_massLine_6 : decode cX10_massLine 6 = .ok (.iload_n 1, 1) := by decide +kernel
theorem dX10_massLine_7 : decode cX10_massLine 7 = .ok (.bipush 10, 2) := by decide +kernel
theorem dX10_massLine_9 : decode cX10_massLine 9 = .ok (.if_icmp .ge 7, 3) := by decide +kernel
theorem dX10_massLine_12 : decode cX10_massLine 12 = .ok (.iconst 1, 1) := by decide +kernel
theorem dX10_massLine_13 : decode cX10_massLine 13 = .ok (.goto 4, 3) := by decide +kernel
theorem dX10_massLine_16 : decode cX10_massLine 16 = .ok (.iconst 0, 1) := by decide +kernel
theorem dX10_massLine_17 : decode cX10_massLine 17 = .ok (.invokevirtual 157, 3) := by decide +kernel
theorem dX10_massLine_20 : decode cX10_massLine 20 = .ok (.ifCond .eq 13, 3) := by decide +kernel
theorem dX10_massLine_23 : decode cX10_massLine 23 = .ok (.aload_n 0, 1) := by decide +kernel
theorem dX10_massLine_24 : decode cX10_massLine 24 = .ok (.iconst 1, 1) := by decide +kernel
theorem dX10_massLine_25 : decode cX10_massLine 25 = .ok (.ldc 168, 2) := by decide +kernel
theorem dX10_massLine_27 : decode cX10_massLine 27 = .ok (.invokevirtual 164, 3) := by decide +kernel
theorem dX10_massLine_30 : decode cX10_massLine 30 = .ok (.ifCond .ne 5, 3) := by decide +kernel
theorem dX10_massLine_33 : decode cX10_massLine 33 = .ok (.iconst 0, 1) := by decide +kernel
theorem dX10_massLine_34 : decode cX10_massLine 34 = .ok (.ireturn, 1) := by decide +kernel
theorem dX10_massLine_35 : decode cX10_massLine 35 = .ok (.aload_n 0, 1) := by decide +kernel
theorem dX10_massLine_36 : decode cX10_massLine 36 = .ok (.getfield 148, 3) := by decide +kernel
theorem dX10_massLine_39 : decode cX10_massLine 39 = .ok (.istore_n 2, 1) := by decide +kernel
theorem dX10_massLine_40 : decode cX10_massLine 40 = .ok (.aload_n 0, 1) := by decide +kernel
theorem dX10_massLine_41 : decode cX10_massLine 41 = .ok (.ldc 172, 2) := by decide +kernel
theorem dX10_massLine_43 : decode cX10_massLine 43 = .ok (.invokevirtual 174, 3) := by decide +kernel
theorem dX10_massLine_46 : decode cX10_massLine 46 = .ok (.istore_n 3, 1) := by decide +kernel
theorem dX10_massLine_47 : decode cX10_massLine 47 = .ok (.iload_n 3, 1) := by decide +kernel
theorem dX10_massLine_48 : decode cX10_massLine 48 = .ok (.ifCond .ne 12, 3) := by decide +kernel
theorem dX10_massLine_51 : decode cX10_massLine 51 = .ok (.aload_n 0, 1) := by decide +kernel
theorem dX10_massLine_52 : decode cX10_massLine 52 = .ok (.ldc 178, 2) := by decide +kernel
theorem dX10_massLine_54 : decode cX10_massLine 54 = .ok (.invokevirtual 174, 3) := by decide +kernel
theorem dX10_massLine_57 : decode cX10_massLine 57 = .ok (.ifCond .eq 54, 3) := by decide +kernel
theorem dX10_massLine_60 : decode cX10_massLine 60 = .ok (.aload_n 0, 1) := by decide +kernel
theorem dX10_massLine_61 : decode cX10_massLine 61 = .ok (.invokevirtual 151, 3) := by decide +kernel
theorem dX10_massLine_64 : decode cX10_massLine 64 = .ok (.aload_n 0, 1) := by decide +kernel
theorem dX10_massLine_65 : decode cX10_massLine 65 = .ok (.iconst 0, 1) := by decide +kernel
theorem dX10_massLine_66 : decode cX10_massLine 66 = .ok (.iload_n 3, 1) := by decide +kernel
theorem dX10_massLine_67 : decode cX10_massLine 67 = .ok (.ifCond .ne 9, 3) := by decide +kernel
theorem dX10_massLine_70 : decode cX10_massLine 70 = .ok (.iload_n 2, 1) := by decide +kernel
theorem dX10_massLine_71 : decode cX10_massLine 71 = .ok (.bipush 99, 2) := by decide +kernel
theorem dX10_massLine_73 : decode cX10_massLine 73 = .ok (.if_icmp .le 8, 3) := by decide +kernel
theorem dX10_massLine_76 : decode cX10_massLine 76 = .ok (.bipush 99, 2) := by decide +kernel
theorem dX10_massLine_78 : decode cX10_massLine 78 = .ok (.goto 6, 3) := by decide +kernel
theorem dX10_massLine_81 : decode cX10_massLine 81 = .ok (.iload_n 2, 1) := by decide +kernel
theorem dX10_massLine_82 : decode cX10_massLine 82 = .ok (.iconst 1, 1) := by decide +kernel
theorem dX10_massLine_83 : decode cX10_massLine 83 = .ok (.isub, 1) := by decide +kernel
theorem dX10_massLine_84 : decode cX10_massLine 84 = .ok (.invokevirtual 164, 3) := by decide +kernel
theorem dX10_massLine_87 : decode cX10_massLine 87 = .ok (.ifCond .ne 5, 3) := by decide +kernel
theorem dX10_massLine_90 : decode cX10_massLine 90 = .ok (.iconst 0, 1) := by decide +kernel
theorem dX10_massLine_91 : decode cX10_massLine 91 = .ok (.ireturn, 1) := by decide +kernel
theorem dX10_massLine_92 : decode cX10_massLine 92 = .ok (.iload_n 2, 1) := by decide +kernel
theorem dX10_massLine_93 : decode cX10_massLine 93 = .ok (.iload_n 3, 1) := by decide +kernel
theorem dX10_massLine_94 : decode cX10_massLine 94 = .ok (.ifCond .eq 10, 3) := by decide +kernel
theorem dX10_massLine_97 : decode cX10_massLine 97 = .ok (.aload_n 0, 1) := by decide +kernel
theorem dX10_massLine_98 : decode cX10_massLine 98 = .ok (.getfield 148, 3) := by decide +kernel
theorem dX10_massLine_101 : decode cX10_massLine 101 = .ok (.goto 8, 3) := by decide +kernel
theorem dX10_massLine_104 : decode cX10_massLine 104 = .ok (.aload_n 0, 1) := by decide +kernel
theorem dX10_massLine_105 : decode cX10_massLine 105 = .ok (.getfield 148, 3) := by decide +kernel
theorem dX10_massLine_108 : decode cX10_massLine 108 = .ok (.ineg, 1) := by decide +kernel
theorem dX10_massLine_109 : decode cX10_massLine 109 = .ok (.iadd, 1) := by decide +kernel
theorem dX10_massLine_110 : decode cX10_massLine 110 = .ok (.istore_n 2, 1) := by decide +kernel
theorem dX10_massLine_111 : decode cX10_massLine 111 = .ok (.aload_n 0, 1) := by decide +kernel
theorem dX10_massLine_112 : decode cX10_massLine 112 = .ok (.getfield 61, 3) := by decide +kernel
theorem dX10_massLine_115 : decode cX10_massLine 115 = .ok (.iload_n 1, 1) := by decide +kernel
theorem dX10_massLine_116 : decode cX10_massLine 116 = .ok (.iload_n 2, 1) := by decide +kernel
theorem dX10_massLine_117 : decode cX10_massLine 117 = .ok (.iastore, 1) := by decide +kernel
theorem dX10_massLine_118 : decode cX10_massLine 118 = .ok (.aload_n 0, 1) := by decide +kernel
theorem dX10_massLine_119 : decode cX10_massLine 119 = .ok (.dup, 1) := by decide +kernel
theorem dX10_massLine_120 : decode cX10_massLine 120 = .ok (.getfield 169, 3) := by decide +kernel
theorem dX10_massLine_123 : decode cX10_massLine 123 = .ok (.iconst 1, 1) := by decide +kernel
theorem dX10_massLine_124 : decode cX10_massLine 124 = .ok (.iadd, 1) := by decide +kernel
theorem dX10_massLine_125 : decode cX10_massLine 125 = .ok (.putfield 169, 3) := by decide +kernel
theorem dX10_massLine_128 : decode cX10_massLine 128 = .ok (.iconst 1, 1) := by decide +kernel
theorem dX10_massLine_129 : decode cX10_massLine 129 = .ok (.ireturn, 1) := by decide +kernel
theorem dX10_setLine_0 : decode cX10_setLine 0 = .ok (.aload_n 0, 1) := by decide +kernel
theorem dX10_setLine_1 : decode cX10_setLine 1 = .ok (.getfield 180, 3) := by decide +kernel
theorem dX10_setLine_4 : decode cX10_setLine 4 = .ok (.istore_n 1, 1) := by decide +kernel
theorem dX10_setLine_5 : decode cX10_setLine 5 = .ok (.aload_n 0, 1) := by decide +kernel
theorem dX10_setLine_6 : decode cX10_setLine 6 = .ok (.iload_n 1, 1) := by decide +kernel
theorem dX10_setLine_7 : decode cX10_setLine 7 = .ok (.iconst 4, 1) := by decide +kernel
theorem dX10_setLine_8 : decode cX10_setLine 8 = .ok (.if_icmp .ge 7, 3) := by decide +kernel
theorem dX10_setLine_11 : decode cX10_setLine 11 = .ok (.iconst 1, 1) := by decide +kernel
theorem dX10_setLine_12 : decode cX10_setLine 12 = .ok (.goto 4, 3) := by decide +kernel
theorem dX10_setLine_15 : decode cX10_setLine 15 = .ok (.iconst 0, 1) := by decide +kernel
theorem dX10_setLine_16 : decode cX10_setLine 16 = .ok (.invokevirtual 157, 3) := by decide +kernel
theorem dX10_setLine_19 : decode cX10_setLine 19 = .ok (.ifCond .eq 13, 3) := by decide +kernel
theorem dX10_setLine_22 : decode cX10_setLine 22 = .ok (.aload_n 0, 1) := by decide +kernel
theorem dX10_setLine_23 : decode cX10_setLine 23 = .ok (.iconst 2, 1) := by decide +kernel
theorem dX10_setLine_24 : decode cX10_setLine 24 = .ok (.bipush 12, 2) := by decide +kernel
theorem dX10_setLine_26 : decode cX10_setLine 26 = .ok (.invokevirtual 164, 3) := by decide +kernel
theorem dX10_setLine_29 : decode cX10_setLine 29 = .ok (.ifCond .ne 5, 3) := by decide +kernel
theorem dX10_setLine_32 : decode cX10_setLine 32 = .ok (.iconst 0, 1) := by decide +kernel
theorem dX10_setLine_33 : decode cX10_setLine 33 = .ok (.ireturn, 1) := by decide +kernel
theorem dX10_setLine_34 : decode cX10_setLine 34 = .ok (.aload_n 0, 1) := by decide +kernel
theorem dX10_setLine_35 : decode cX10_setLine 35 = .ok (.getfield 64, 3) := by decide +kernel
theorem dX10_setLine_38 : decode cX10_setLine 38 = .ok (.iload_n 1, 1) := by decide +kernel
theorem dX10_setLine_39 : decode cX10_setLine 39 = .ok (.aload_n 0, 1) := by decide +kernel
theorem dX10_setLine_40 : decode cX10_setLine 40 = .ok (.getfield 148, 3) := by decide +kernel
theorem dX10_setLine_43 : decode cX10_setLine 43 = .ok (.iastore, 1) := by decide +kernel
theorem dX10_setLine_44 : decode cX10_setLine 44 = .ok (.aload_n 0, 1) := by decide +kernel
theorem dX10_setLine_45 : decode cX10_setLine 45 = .ok (.getfield 67, 3) := by decide +kernel
theorem dX10_setLine_48 : decode cX10_setLine 48 = .ok (.iload_n 1, 1) := by decide +kernel
theorem dX10_setLine_49 : decode cX10_setLine 49 = .ok (.aload_n 0, 1) := by decide +kernel
theorem dX10_setLine_50 : decode cX10_setLine 50 = .ok (.ldc 183, 2) := by decide +kernel
theorem dX10_setLine_52 : decode cX10_setLine 52 = .ok (.invokevirtual 174, 3) := by decide +kernel
theorem dX10_setLine_55 : decode cX10_setLine 55 = .ok (.bastore, 1) := by decide +kernel
theorem dX10_setLine_56 : decode cX10_setLine 56 = .ok (.aload_n 0, 1) := by decide +kernel
theorem dX10_setLine_57 : decode cX10_setLine 57 = .ok (.getfield 67, 3) := by decide +kernel
theorem dX10_setLine_60 : decode cX10_setLine 60 = .ok (.iload_n 1, 1) := by decide +kernel
theorem dX10_setLine_61 : decode cX10_setLine 61 = .ok (.baload, 1) := by decide +kernel
theorem dX10_setLine_62 : decode cX10_setLine 62 = .ok (.ifCond .eq 7, 3) := by decide +kernel
theorem dX10_setLine_65 : decode cX10_setLine 65 = .ok (.aload_n 0, 1) := by decide +kernel
theorem dX10_setLine_66 : decode cX10_setLine 66 = .ok (.invokevirtual 151, 3) := by decide +kernel
theorem dX10_setLine_69 : decode cX10_setLine 69 = .ok (.aload_n 0, 1) := by decide +kernel
theorem dX10_setLine_70 : decode cX10_setLine 70 = .ok (.dup, 1) := by decide +kernel
theorem dX10_setLine_71 : decode cX10_setLine 71 = .ok (.getfield 180, 3) := by decide +kernel
theorem dX10_setLine_74 : decode cX10_setLine 74 = .ok (.iconst 1, 1) := by decide +kernel
theorem dX10_setLine_75 : decode cX10_setLine 75 = .ok (.iadd, 1) := by decide +kernel
theorem dX10_setLine_76 : decode cX10_setLine 76 = .ok (.putfield 180, 3) := by decide +kernel
theorem dX10_setLine_79 : decode cX10_setLine 79 = .ok (.iconst 1, 1) := by decide +kernel
theorem dX10_setLine_80 : decode cX10_setLine 80 = .ok (.ireturn, 1) := by decide +kernel
theorem dX10_termLine_0 : decode cX10_termLine 0 = .ok (.aload_n 0, 1) := by decide +kernel
theorem dX10_termLine_1 : decode cX10_termLine 1 = .ok (.invokevirtual 151, 3) := by decide +kernel
theorem dX10_termLine_4 : decode cX10_termLine 4 = .ok (.aload_n 0, 1) := by decide +kernel
theorem dX10_termLine_5 : decode cX10_termLine 5 = .ok (.getfield 117, 3) := by decide +kernel
theorem dX10_termLine_8 : decode cX10_termLine 8 = .ok (.iconst 2, 1) := by decide +kernel
theorem dX10_termLine_9 : decode cX10_termLine 9 = .ok (.if_icmp .ne 29, 3) := by decide +kernel
theorem dX10_termLine_12 : decode cX10_termLine 12 = .ok (.aload_n 0, 1) := by decide +kernel
theorem dX10_termLine_13 : decode cX10_termLine 13 = .ok (.getfield 114, 3) := by decide +kernel
theorem dX10_termLine_16 : decode cX10_termLine 16 = .ok (.iconst 3, 1) := by decide +kernel
theorem dX10_termLine_17 : decode cX10_termLine 17 = .ok (.if_icmp .ge 21, 3) := by decide +kernel
theorem dX10_termLine_20 : decode cX10_termLine 20 = .ok (.aload_n 0, 1) := by decide +kernel
theorem dX10_termLine_21 : decode cX10_termLine 21 = .ok (.getfield 70, 3) := by decide +kernel
theorem dX10_termLine_24 : decode cX10_termLine 24 = .ok (.aload_n 0, 1) := by decide +kernel
theorem dX10_termLine_25 : decode cX10_termLine 25 = .ok (.getfield 114, 3) := by decide +kernel
theorem dX10_termLine_28 : decode cX10_termLine 28 = .ok (.iaload, 1) := by decide +kernel
theorem dX10_termLine_29 : decode cX10_termLine 29 = .ok (.ifCond .le 9, 3) := by decide +kernel
theorem dX10_termLine_32 : decode cX10_termLine 32 = .ok (.aload_n 0, 1) := by decide +kernel
theorem dX10_termLine_33 : decode cX10_termLine 33 = .ok (.iconst 2, 1) := by decide +kernel
theorem dX10_termLine_34 : decode cX10_termLine 34 = .ok (.invokevirtual 144, 3) := by decide +kernel
theorem dX10_termLine_37 : decode cX10_termLine 37 = .ok (.ireturn, 1) := by decide +kernel
theorem dX10_termLine_38 : decode cX10_termLine 38 = .ok (.aload_n 0, 1) := by decide +kernel
theorem dX10_termLine_39 : decode cX10_termLine 39 = .ok (.iconst 0, 1) := by decide +kernel
theorem dX10_termLine_40 : decode cX10_termLine 40 = .ok (.iconst 2, 1) := by decide +kernel
theorem dX10_termLine_41 : decode cX10_termLine 41 = .ok (.invokevirtual 164, 3) := by decide +kernel
theorem dX10_termLine_44 : decode cX10_termLine 44 = .ok (.ifCond .ne 5, 3) := by decide +kernel
theorem dX10_termLine_47 : decode cX10_termLine 47 = .ok (.iconst 0, 1) := by decide +kernel
theorem dX10_termLine_48 : decode cX10_termLine 48 = .ok (.ireturn, 1) := by decide +kernel
theorem dX10_termLine_49 : decode cX10_termLine 49 = .ok (.aload_n 0, 1) := by decide +kernel
theorem dX10_termLine_50 : decode cX10_termLine 50 = .ok (.getfield 148, 3) := by decide +kernel
theorem dX10_termLine_53 : decode cX10_termLine 53 = .ok (.istore_n 1, 1) := by decide +kernel
theorem dX10_termLine_54 : decode cX10_termLine 54 = .ok (.aload_n 0, 1) := by decide +kernel
theorem dX10_termLine_55 : decode cX10_termLine 55 = .ok (.iconst 1, 1) := by decide +kernel
theorem dX10_termLine_56 : decode cX10_termLine 56 = .ok (.iconst 5, 1) := by decide +kernel
theorem dX10_termLine_57 : decode cX10_termLine 57 = .ok (.invokevirtual 164, 3) := by decide +kernel
theorem dX10_termLine_60 : decode cX10_termLine 60 = .ok (.ifCond .ne 5, 3) := by decide +kernel
theorem dX10_termLine_63 : decode cX10_termLine 63 = .ok (.iconst 0, 1) := by decide +kernel
theorem dX10_termLine_64 : decode cX10_termLine 64 = .ok (.ireturn, 1) := by decide +kernel
theorem dX10_termLine_65 : decode cX10_termLine 65 = .ok (.aload_n 0, 1) := by decide +kernel
theorem dX10_termLine_66 : decode cX10_termLine 66 = .ok (.getfield 70, 3) := by decide +kernel
theorem dX10_termLine_69 : decode cX10_termLine 69 = .ok (.iload_n 1, 1) := by decide +kernel
theorem dX10_termLine_70 : decode cX10_termLine 70 = .ok (.aload_n 0, 1) := by decide +kernel
theorem dX10_termLine_71 : decode cX10_termLine 71 = .ok (.getfield 148, 3) := by decide +kernel
theorem dX10_termLine_74 : decode cX10_termLine 74 = .ok (.iastore, 1) := by decide +kernel
theorem dX10_termLine_75 : decode cX10_termLine 75 = .ok (.iconst 1, 1) := by decide +kernel
theorem dX10_termLine_76 : decode cX10_termLine 76 = .ok (.ireturn, 1) := by decide +kernel
theorem dX10_statement_0 : decode cX10_statement 0 = .ok (.aload_n 0, 1) := by decide +kernel
theorem dX10_statement_1 : decode cX10_statement 1 = .ok (.ldc 185, 2) := by decide +kernel
theorem dX10_statement_3 : decode cX10_statement 3 = .ok (.invokevirtual 174, 3) := by decide +kernel
theorem dX10_statement_6 : decode cX10_statement 6 = .ok (.ifCond .eq 10, 3) := by decide +kernel
theorem dX10_statement_9 : decode cX10_statement 9 = .ok (.aload_n 0, 1) := by decide +kernel
theorem dX10_statement_10 : decode cX10_statement 10 = .ok (.invokevirtual 187, 3) := by decide +kernel
theorem dX10_statement_13 : decode cX10_statement 13 = .ok (.goto 72, 3) := by decide +kernel
theorem dX10_statement_16 : decode cX10_statement 16 = .ok (.aload_n 0, 1) := by decide +kernel
theorem dX10_statement_17 : decode cX10_statement 17 = .ok (.ldc 191, 2) := by decide +kernel
theorem dX10_statement_19 : decode cX10_statement 19 = .ok (.invokevirtual 174, 3) := by decide +kernel
theorem dX10_statement_22 : decode cX10_statement 22 = .ok (.ifCond .eq 10, 3) := by decide +kernel
theorem dX10_statement_25 : decode cX10_statement 25 = .ok (.aload_n 0, 1) := by decide +kernel
theorem dX10_statement_26 : decode cX10_statement 26 = .ok (.invokevirtual 193, 3) := by decide +kernel
theorem dX10_statement_29 : decode cX10_statement 29 = .ok (.goto 56, 3) := by decide +kernel
theorem dX10_statement_32 : decode cX10_statement 32 = .ok (.aload_n 0, 1) := by decide +kernel
theorem dX10_statement_33 : decode cX10_statement 33 = .ok (.ldc 196, 2) := by decide +kernel
theorem dX10_statement_35 : decode cX10_statement 35 = .ok (.invokevirtual 174, 3) := by decide +kernel
theorem dX10_statement_38 : decode cX10_statement 38 = .ok (.ifCond .eq 10, 3) := by decide +kernel
theorem dX10_statement_41 : decode cX10_statement 41 = .ok (.aload_n 0, 1) := by decide +kernel
theorem dX10_statement_42 : decode cX10_statement 42 = .ok (.invokevirtual 197, 3) := by decide +kernel
theorem dX10_statement_45 : decode cX10_statement 45 = .ok (.goto 40, 3) := by decide +kernel
theorem dX10_statement_48 : decode cX10_statement 48 = .ok (.aload_n 0, 1) := by decide +kernel
theorem dX10_statement_49 : decode cX10_statement 49 = .ok (.ldc 200, 2) := by decide +kernel
theorem dX10_statement_51 : decode cX10_statement 51 = .ok (.invokevirtual 174, 3) := by decide +kernel
theorem dX10_statement_54 : decode cX10_statement 54 = .ok (.ifCond .eq 10, 3) := by decide +kernel
theorem dX10_statement_57 : decode cX10_statement 57 = .ok (.aload_n 0, 1) := by decide +kernel
theorem dX10_statement_58 : decode cX10_statement 58 = .ok (.invokevirtual 202, 3) := by decide +kernel
theorem dX10_statement_61 : decode cX10_statement 61 = .ok (.goto 24, 3) := by decide +kernel
theorem dX10_statement_64 : decode cX10_statement 64 = .ok (.aload_n 0, 1) := by decide +kernel
theorem dX10_statement_65 : decode cX10_statement 65 = .ok (.ldc 205, 2) := by decide +kernel
theorem dX10_statement_67 : decode cX10_statement 67 = .ok (.invokevirtual 174, 3) := by decide +kernel
theorem dX10_statement_70 : decode cX10_statement 70 = .ok (.ifCond .eq 10, 3) := by decide +kernel
theorem dX10_statement_73 : decode cX10_statement 73 = .ok (.aload_n 0, 1) := by decide +kernel
theorem dX10_statement_74 : decode cX10_statement 74 = .ok (.invokevirtual 206, 3) := by decide +kernel
theorem dX10_statement_77 : decode cX10_statement 77 = .ok (.goto 8, 3) := by decide +kernel
theorem dX10_statement_80 : decode cX10_statement 80 = .ok (.aload_n 0, 1) := by decide +kernel
theorem dX10_statement_81 : decode cX10_statement 81 = .ok (.iconst 1, 1) := by decide +kernel
theorem dX10_statement_82 : decode cX10_statement 82 = .ok (.invokevirtual 144, 3) := by decide +kernel
theorem dX10_statement_85 : decode cX10_statement 85 = .ok (.istore_n 1, 1) := by decide +kernel
theorem dX10_statement_86 : decode cX10_statement 86 = .ok (.iload_n 1, 1) := by decide +kernel
theorem dX10_statement_87 : decode cX10_statement 87 = .ok (.ifCond .ne 5, 3) := by decide +kernel
theorem dX10_statement_90 : decode cX10_statement 90 = .ok (.iconst 0, 1) := by decide +kernel
theorem dX10_statement_91 : decode cX10_statement 91 = .ok (.ireturn, 1) := by decide +kernel
theorem dX10_statement_92 : decode cX10_statement 92 = .ok (.aload_n 0, 1) := by decide +kernel
theorem dX10_statement_93 : decode cX10_statement 93 = .ok (.getfield 117, 3) := by decide +kernel
theorem dX10_statement_96 : decode cX10_statement 96 = .ok (.iconst 3, 1) := by decide +kernel
theorem dX10_statement_97 : decode cX10_statement 97 = .ok (.if_icmp .eq 9, 3) := by decide +kernel
theorem dX10_statement_100 : decode cX10_statement 100 = .ok (.aload_n 0, 1) := by decide +kernel
theorem dX10_statement_101 : decode cX10_statement 101 = .ok (.iconst 1, 1) := by decide +kernel
theorem dX10_statement_102 : decode cX10_statement 102 = .ok (.invokevirtual 144, 3) := by decide +kernel
theorem dX10_statement_105 : decode cX10_statement 105 = .ok (.ireturn, 1) := by decide +kernel
theorem dX10_statement_106 : decode cX10_statement 106 = .ok (.aload_n 0, 1) := by decide +kernel
theorem dX10_statement_107 : decode cX10_statement 107 = .ok (.invokevirtual 151, 3) := by decide +kernel
theorem dX10_statement_110 : decode cX10_statement 110 = .ok (.iconst 1, 1) := by decide +kernel
theorem dX10_statement_111 : decode cX10_statement 111 = .ok (.ireturn, 1) := by decide +kernel
theorem dX10_copies_0 : decode cX10_copies 0 = .ok (.iconst 0, 1) := by decide +kernel
theorem dX10_copies_1 : decode cX10_copies 1 = .ok (.istore 5, 2) := by decide +kernel
theorem dX10_copies_3 : decode cX10_copies 3 = .ok (.iload 5, 2) := by decide +kernel
theorem dX10_copies_5 : decode cX10_copies 5 = .ok (.iload 4, 2) := by decide +kernel
theorem dX10_copies_7 : decode cX10_copies 7 = .ok (.if_icmp .ge 21, 3) := by decide +kernel
theorem dX10_copies_10 : decode cX10_copies 10 = .ok (.aload_n 2, 1) := by decide +kernel
theorem dX10_copies_11 : decode cX10_copies 11 = .ok (.iload_n 3, 1) := by decide +kernel
theorem dX10_copies_12 : decode cX10_copies 12 = .ok (.iload 5, 2) := by decide +kernel
theorem dX10_copies_14 : decode cX10_copies 14 = .ok (.iadd, 1) := by decide +kernel
theorem dX10_copies_15 : decode cX10_copies 15 = .ok (.aload_n 0, 1) := by decide +kernel
theorem dX10_copies_16 : decode cX10_copies 16 = .ok (.iload_n 1, 1) := by decide +kernel
theorem dX10_copies_17 : decode cX10_copies 17 = .ok (.iload 5, 2) := by decide +kernel
theorem dX10_copies_19 : decode cX10_copies 19 = .ok (.iadd, 1) := by decide +kernel
theorem dX10_copies_20 : decode cX10_copies 20 = .ok (.iaload, 1) := by decide +kernel
theorem dX10_copies_21 : decode cX10_copies 21 = .ok (.iastore, 1) := by decide +kernel
theorem dX10_copies_22 : decode cX10_copies 22 = .ok (.iinc 5 1, 3) := by decide +kernel
theorem dX10_copies_25 : decode cX10_copies 25 = .ok (.goto (-22), 3) := by decide +kernel
theorem dX10_copies_28 : decode cX10_copies 28 = .ok (.return_, 1) := by decide +kernel
theorem dX10_becomes_0 : decode cX10_becomes 0 = .ok (.aload_n 0, 1) := by decide +kernel
theorem dX10_becomes_1 : decode cX10_becomes 1 = .ok (.aload_n 0, 1) := by decide +kernel
theorem dX10_becomes_2 : decode cX10_becomes 2 = .ok (.getfield 154, 3) := by decide +kernel
theorem dX10_becomes_5 : decode cX10_becomes 5 = .ok (.putfield 215, 3) := by decide +kernel
theorem dX10_becomes_8 : decode cX10_becomes 8 = .ok (.aload_n 0, 1) := by decide +kernel
theorem dX10_becomes_9 : decode cX10_becomes 9 = .ok (.aload_n 0, 1) := by decide +kernel
theorem dX10_becomes_10 : decode cX10_becomes 10 = .ok (.getfield 161, 3) := by decide +kernel
theorem dX10_becomes_13 : decode cX10_becomes 13 = .ok (.putfield 218, 3) := by decide +kernel
theorem dX10_becomes_16 : decode cX10_becomes 16 = .ok (.aload_n 0, 1) := by decide +kernel
theorem dX10_becomes_17 : decode cX10_becomes 17 = .ok (.getfield 49, 3) := by decide +kernel
theorem dX10_becomes_20 : decode cX10_becomes 20 = .ok (.iconst 0, 1) := by decide +kernel
theorem dX10_becomes_21 : decode cX10_becomes 21 = .ok (.aload_n 0, 1) := by decide +kernel
theorem dX10_becomes_22 : decode cX10_becomes 22 = .ok (.getfield 17, 3) := by decide +kernel
theorem dX10_becomes_25 : decode cX10_becomes 25 = .ok (.iconst 0, 1) := by decide +kernel
theorem dX10_becomes_26 : decode cX10_becomes 26 = .ok (.bipush 24, 2) := by decide +kernel
theorem dX10_becomes_28 : decode cX10_becomes 28 = .ok (.invokestatic 221, 3) := by decide +kernel
theorem dX10_becomes_31 : decode cX10_becomes 31 = .ok (.aload_n 0, 1) := by decide +kernel
theorem dX10_becomes_32 : decode cX10_becomes 32 = .ok (.getfield 52, 3) := by decide +kernel
theorem dX10_becomes_35 : decode cX10_becomes 35 = .ok (.iconst 0, 1) := by decide +kernel
theorem dX10_becomes_36 : decode cX10_becomes 36 = .ok (.aload_n 0, 1) := by decide +kernel
theorem dX10_becomes_37 : decode cX10_becomes 37 = .ok (.getfield 20, 3) := by decide +kernel
theorem dX10_becomes_40 : decode cX10_becomes 40 = .ok (.iconst 0, 1) := by decide +kernel
theorem dX10_becomes_41 : decode cX10_becomes 41 = .ok (.bipush 24, 2) := by decide +kernel
theorem dX10_becomes_43 : decode cX10_becomes 43 = .ok (.invokestatic 221, 3) := by decide +kernel
theorem dX10_becomes_46 : decode cX10_becomes 46 = .ok (.aload_n 0, 1) := by decide +kernel
theorem dX10_becomes_47 : decode cX10_becomes 47 = .ok (.getfield 55, 3) := by decide +kernel
theorem dX10_becomes_50 : decode cX10_becomes 50 = .ok (.iconst 0, 1) := by decide +kernel
theorem dX10_becomes_51 : decode cX10_becomes 51 = .ok (.aload_n 0, 1) := by decide +kernel
theorem dX10_becomes_52 : decode cX10_becomes 52 = .ok (.getfield 23, 3) := by decide +kernel
theorem dX10_becomes_55 : decode cX10_becomes 55 = .ok (.iconst 0, 1) := by decide +kernel
theorem dX10_becomes_56 : decode cX10_becomes 56 = .ok (.bipush 24, 2) := by decide +kernel
theorem dX10_becomes_58 : decode cX10_becomes 58 = .ok (.invokestatic 221, 3) := by decide +kernel
theorem dX10_becomes_61 : decode cX10_becomes 61 = .ok (.aload_n 0, 1) := by decide +kernel
theorem dX10_becomes_62 : decode cX10_becomes 62 = .ok (.getfield 58, 3) := by decide +kernel
theorem dX10_becomes_65 : decode cX10_becomes 65 = .ok (.iconst 0, 1) := by decide +kernel
theorem dX10_becomes_66 : decode cX10_becomes 66 = .ok (.aload_n 0, 1) := by decide +kernel
theorem dX10_becomes_67 : decode cX10_becomes 67 = .ok (.getfield 26, 3) := by decide +kernel
theorem dX10_becomes_70 : decode cX10_becomes 70 = .ok (.iconst 0, 1) := by decide +kernel
theorem dX10_becomes_71 : decode cX10_becomes 71 = .ok (.bipush 24, 2) := by decide +kernel
theorem dX10_becomes_73 : decode cX10_becomes 73 = .ok (.invokestatic 221, 3) := by decide +kernel
theorem dX10_becomes_76 : decode cX10_becomes 76 = .ok (.aload_n 0, 1) := by decide +kernel
theorem dX10_becomes_77 : decode cX10_becomes 77 = .ok (.aload_n 0, 1) := by decide +kernel
theorem dX10_becomes_78 : decode cX10_becomes 78 = .ok (.getfield 169, 3) := by decide +kernel
theorem dX10_becomes_81 : decode cX10_becomes 81 = .ok (.putfield 225, 3) := by decide +kernel
theorem dX10_becomes_84 : decode cX10_becomes 84 = .ok (.aload_n 0, 1) := by decide +kernel
theorem dX10_becomes_85 : decode cX10_becomes 85 = .ok (.getfield 61, 3) := by decide +kernel
theorem dX10_becomes_88 : decode cX10_becomes 88 = .ok (.iconst 0, 1) := by decide +kernel
theorem dX10_becomes_89 : decode cX10_becomes 89 = .ok (.aload_n 0, 1) := by decide +kernel
theorem dX10_becomes_90 : decode cX10_becomes 90 = .ok (.getfield 29, 3) := by decide +kernel
theorem dX10_becomes_93 : decode cX10_becomes 93 = .ok (.iconst 0, 1) := by decide +kernel
theorem dX10_becomes_94 : decode cX10_becomes 94 = .ok (.bipush 10, 2) := by decide +kernel
theorem dX10_becomes_96 : decode cX10_becomes 96 = .ok (.invokestatic 221, 3) := by decide +kernel
theorem dX10_becomes_99 : decode cX10_becomes 99 = .ok (.aload_n 0, 1) := by decide +kernel
theorem dX10_becomes_100 : decode cX10_becomes 100 = .ok (.aload_n 0, 1) := by decide +kernel
theorem dX10_becomes_101 : decode cX10_becomes 101 = .ok (.getfield 180, 3) := by decide +kernel
theorem dX10_becomes_104 : decode cX10_becomes 104 = .ok (.putfield 228, 3) := by decide +kernel
theorem dX10_becomes_107 : decode cX10_becomes 107 = .ok (.aload_n 0, 1) := by decide +kernel
theorem dX10_becomes_108 : decode cX10_becomes 108 = .ok (.getfield 64, 3) := by decide +kernel
theorem dX10_becomes_111 : decode cX10_becomes 111 = .ok (.iconst 0, 1) := by decide +kernel
theorem dX10_becomes_112 : decode cX10_becomes 112 = .ok (.aload_n 0, 1) := by decide +kernel
theorem dX10_becomes_113 : decode cX10_becomes 113 = .ok (.getfield 32, 3) := by decide +kernel
theorem dX10_becomes_116 : decode cX10_becomes 116 = .ok (.iconst 0, 1) := by decide +kernel
theorem dX10_becomes_117 : decode cX10_becomes 117 = .ok (.iconst 4, 1) := by decide +kernel
theorem dX10_becomes_118 : decode cX10_becomes 118 = .ok (.invokestatic 221, 3) := by decide +kernel
theorem dX10_becomes_121 : decode cX10_becomes 121 = .ok (.iconst 0, 1) := by decide +kernel
theorem dX10_becomes_122 : decode cX10_becomes 122 = .ok (.istore_n 1, 1) := by decide +kernel
theorem dX10_becomes_123 : decode cX10_becomes 123 = .ok (.iload_n 1, 1) := by decide +kernel
theorem dX10_becomes_124 : decode cX10_becomes 124 = .ok (.iconst 3, 1) := by decide +kernel
theorem dX10_becomes_125 : decode cX10_becomes 125 = .ok (.if_icmp .ge 34, 3) := by decide +kernel
theorem dX10_becomes_128 : decode cX10_becomes 128 = .ok (.aload_n 0, 1) := by decide +kernel
theorem dX10_becomes_129 : decode cX10_becomes 129 = .ok (.getfield 39, 3) := by decide +kernel
theorem dX10_becomes_132 : decode cX10_becomes 132 = .ok (.iload_n 1, 1) := by decide +kernel
theorem dX10_becomes_133 : decode cX10_becomes 133 = .ok (.aload_n 0, 1) := by decide +kernel
theorem dX10_becomes_134 : decode cX10_becomes 134 = .ok (.getfield 70, 3) := by decide +kernel
theorem dX10_becomes_137 : decode cX10_becomes 137 = .ok (.iload_n 1, 1) := by decide +kernel
theorem dX10_becomes_138 : decode cX10_becomes 138 = .ok (.iaload, 1) := by decide +kernel
theorem dX10_becomes_139 : decode cX10_becomes 139 = .ok (.ifCond .ne 7, 3) := by decide +kernel
theorem dX10_becomes_142 : decode cX10_becomes 142 = .ok (.iconst 2, 1) := by decide +kernel
theorem dX10_becomes_143 : decode cX10_becomes 143 = .ok (.goto 9, 3) := by decide +kernel
theorem dX10_becomes_146 : decode cX10_becomes 146 = .ok (.aload_n 0, 1) := by decide +kernel
theorem dX10_becomes_147 : decode cX10_becomes 147 = .ok (.getfield 70, 3) := by decide +kernel
theorem dX10_becomes_150 : decode cX10_becomes 150 = .ok (.iload_n 1, 1) := by decide +kernel
theorem dX10_becomes_151 : decode cX10_becomes 151 = .ok (.iaload, 1) := by decide +kernel
theorem dX10_becomes_152 : decode cX10_becomes 152 = .ok (.iastore, 1) := by decide +kernel
theorem dX10_becomes_153 : decode cX10_becomes 153 = .ok (.iinc 1 1, 3) := by decide +kernel
theorem dX10_becomes_156 : decode cX10_becomes 156 = .ok (.goto (-33), 3) := by decide +kernel
theorem dX10_becomes_159 : decode cX10_becomes 159 = .ok (.iconst 0, 1) := by decide +kernel
theorem dX10_becomes_160 : decode cX10_becomes 160 = .ok (.istore_n 1, 1) := by decide +kernel
theorem dX10_becomes_161 : decode cX10_becomes 161 = .ok (.iload_n 1, 1) := by decide +kernel
theorem dX10_becomes_162 : decode cX10_becomes 162 = .ok (.sipush 677, 3) := by decide +kernel
theorem dX10_becomes_165 : decode cX10_becomes 165 = .ok (.if_icmp .ge 16, 3) := by decide +kernel
theorem dX10_becomes_168 : decode cX10_becomes 168 = .ok (.aload_n 0, 1) := by decide +kernel
theorem dX10_becomes_169 : decode cX10_becomes 169 = .ok (.getfield 13, 3) := by decide +kernel
theorem dX10_becomes_172 : decode cX10_becomes 172 = .ok (.iload_n 1, 1) := by decide +kernel
theorem dX10_becomes_173 : decode cX10_becomes 173 = .ok (.iconst 0, 1) := by decide +kernel
theorem dX10_becomes_174 : decode cX10_becomes 174 = .ok (.iastore, 1) := by decide +kernel
theorem dX10_becomes_175 : decode cX10_becomes 175 = .ok (.iinc 1 1, 3) := by decide +kernel
theorem dX10_becomes_178 : decode cX10_becomes 178 = .ok (.goto (-17), 3) := by decide +kernel
theorem dX10_becomes_181 : decode cX10_becomes 181 = .ok (.iconst 0, 1) := by decide +kernel
theorem dX10_becomes_182 : decode cX10_becomes 182 = .ok (.istore_n 1, 1) := by decide +kernel
theorem dX10_becomes_183 : decode cX10_becomes 183 = .ok (.iload_n 1, 1) := by decide +kernel
theorem dX10_becomes_184 : decode cX10_becomes 184 = .ok (.aload_n 0, 1) := by decide +kernel
theorem dX10_becomes_185 : decode cX10_becomes 185 = .ok (.getfield 228, 3) := by decide +kernel
theorem dX10_becomes_188 : decode cX10_becomes 188 = .ok (.if_icmp .ge 85, 3) := by decide +kernel
theorem dX10_becomes_191 : decode cX10_becomes 191 = .ok (.aload_n 0, 1) := by decide +kernel
theorem dX10_becomes_192 : decode cX10_becomes 192 = .ok (.getfield 35, 3) := by decide +kernel
theorem dX10_becomes_195 : decode cX10_becomes 195 = .ok (.iload_n 1, 1) := by decide +kernel
theorem dX10_becomes_196 : decode cX10_becomes 196 = .ok (.aload_n 0, 1) := by decide +kernel
theorem dX10_becomes_197 : decode cX10_becomes 197 = .ok (.getfield 67, 3) := by decide +kernel
theorem dX10_becomes_200 : decode cX10_becomes 200 = .ok (.iload_n 1, 1) := by decide +kernel
theorem dX10_becomes_201 : decode cX10_becomes 201 = .ok (.baload, 1) := by decide +kernel
theorem dX10_becomes_202 : decode cX10_becomes 202 = .ok (.bastore, 1) := by decide +kernel
theorem dX10_becomes_203 : decode cX10_becomes 203 = .ok (.aload_n 0, 1) := by decide +kernel
theorem dX10_becomes_204 : decode cX10_becomes 204 = .ok (.getfield 13, 3) := by decide +kernel
theorem dX10_becomes_207 : decode cX10_becomes 207 = .ok (.sipush 661, 3) := by decide +kernel
theorem dX10_becomes_210 : decode cX10_becomes 210 = .ok (.iload_n 1, 1) := by decide +kernel
theorem dX10_becomes_211 : decode cX10_becomes 211 = .ok (.iadd, 1) := by decide +kernel
theorem dX10_becomes_212 : decode cX10_becomes 212 = .ok (.iconst 1, 1) := by decide +kernel
theorem dX10_becomes_213 : decode cX10_becomes 213 = .ok (.aload_n 0, 1) := by decide +kernel
theorem dX10_becomes_214 : decode cX10_becomes 214 = .ok (.getfield 32, 3) := by decide +kernel
theorem dX10_becomes_217 : decode cX10_becomes 217 = .ok (.iload_n 1, 1) := by decide +kernel
theorem dX10_becomes_218 : decode cX10_becomes 218 = .ok (.iaload, 1) := by decide +kernel
theorem dX10_becomes_219 : decode cX10_becomes 219 = .ok (.ishl, 1) := by decide +kernel
theorem dX10_becomes_220 : decode cX10_becomes 220 = .ok (.iconst 1, 1) := by decide +kernel
theorem dX10_becomes_221 : decode cX10_becomes 221 = .ok (.isub, 1) := by decide +kernel
theorem dX10_becomes_222 : decode cX10_becomes 222 = .ok (.iastore, 1) := by decide +kernel
theorem dX10_becomes_223 : decode cX10_becomes 223 = .ok (.aload_n 0, 1) := by decide +kernel
theorem dX10_becomes_224 : decode cX10_becomes 224 = .ok (.getfield 13, 3) := by decide +kernel
theorem dX10_becomes_227 : decode cX10_becomes 227 = .ok (.sipush 665, 3) := by decide +kernel
theorem dX10_becomes_230 : decode cX10_becomes 230 = .ok (.iload_n 1, 1) := by decide +kernel
theorem dX10_becomes_231 : decode cX10_becomes 231 = .ok (.iadd, 1) := by decide +kernel
theorem dX10_becomes_232 : decode cX10_becomes 232 = .ok (.aload_n 0, 1) := by decide +kernel
theorem dX10_becomes_233 : decode cX10_becomes 233 = .ok (.getfield 13, 3) := by decide +kernel
theorem dX10_becomes_236 : decode cX10_becomes 236 = .ok (.sipush 661, 3) := by decide +kernel
theorem dX10_becomes_239 : decode cX10_becomes 239 = .ok (.iload_n 1, 1) := by decide +kernel
theorem dX10_becomes_240 : decode cX10_becomes 240 = .ok (.iadd, 1) := by decide +kernel
theorem dX10_becomes_241 : decode cX10_becomes 241 = .ok (.iaload, 1) := by decide +kernel
theorem dX10_becomes_242 : decode cX10_becomes 242 = .ok (.iastore, 1) := by decide +kernel
theorem dX10_becomes_243 : decode cX10_becomes 243 = .ok (.aload_n 0, 1) := by decide +kernel
theorem dX10_becomes_244 : decode cX10_becomes 244 = .ok (.getfield 13, 3) := by decide +kernel
theorem dX10_becomes_247 : decode cX10_becomes 247 = .ok (.sipush 669, 3) := by decide +kernel
theorem dX10_becomes_250 : decode cX10_becomes 250 = .ok (.iload_n 1, 1) := by decide +kernel
theorem dX10_becomes_251 : decode cX10_becomes 251 = .ok (.iadd, 1) := by decide +kernel
theorem dX10_becomes_252 : decode cX10_becomes 252 = .ok (.aload_n 0, 1) := by decide +kernel
theorem dX10_becomes_253 : decode cX10_becomes 253 = .ok (.getfield 35, 3) := by decide +kernel
theorem dX10_becomes_256 : decode cX10_becomes 256 = .ok (.iload_n 1, 1) := by decide +kernel
theorem dX10_becomes_257 : decode cX10_becomes 257 = .ok (.baload, 1) := by decide +kernel
theorem dX10_becomes_258 : decode cX10_becomes 258 = .ok (.ifCond .eq 7, 3) := by decide +kernel
theorem dX10_becomes_261 : decode cX10_becomes 261 = .ok (.iconst 1, 1) := by decide +kernel
theorem dX10_becomes_262 : decode cX10_becomes 262 = .ok (.goto 4, 3) := by decide +kernel
theorem dX10_becomes_265 : decode cX10_becomes 265 = .ok (.iconst 0, 1) := by decide +kernel
theorem dX10_becomes_266 : decode cX10_becomes 266 = .ok (.iastore, 1) := by decide +kernel
theorem dX10_becomes_267 : decode cX10_becomes 267 = .ok (.iinc 1 1, 3) := by decide +kernel
theorem dX10_becomes_270 : decode cX10_becomes 270 = .ok (.goto (-87), 3) := by decide +kernel
theorem dX10_becomes_273 : decode cX10_becomes 273 = .ok (.aload_n 0, 1) := by decide +kernel
theorem dX10_becomes_274 : decode cX10_becomes 274 = .ok (.iconst 0, 1) := by decide +kernel
theorem dX10_becomes_275 : decode cX10_becomes 275 = .ok (.putfield 231, 3) := by decide +kernel
theorem dX10_becomes_278 : decode cX10_becomes 278 = .ok (.aload_n 0, 1) := by decide +kernel
theorem dX10_becomes_279 : decode cX10_becomes 279 = .ok (.getfield 91, 3) := by decide +kernel
theorem dX10_becomes_282 : decode cX10_becomes 282 = .ok (.iconst 0, 1) := by decide +kernel
theorem dX10_becomes_283 : decode cX10_becomes 283 = .ok (.iconst 0, 1) := by decide +kernel
theorem dX10_becomes_284 : decode cX10_becomes 284 = .ok (.bastore, 1) := by decide +kernel
theorem dX10_becomes_285 : decode cX10_becomes 285 = .ok (.aload_n 0, 1) := by decide +kernel
theorem dX10_becomes_286 : decode cX10_becomes 286 = .ok (.getfield 91, 3) := by decide +kernel
theorem dX10_becomes_289 : decode cX10_becomes 289 = .ok (.iconst 1, 1) := by decide +kernel
theorem dX10_becomes_290 : decode cX10_becomes 290 = .ok (.iconst 0, 1) := by decide +kernel
theorem dX10_becomes_291 : decode cX10_becomes 291 = .ok (.bastore, 1) := by decide +kernel
theorem dX10_becomes_292 : decode cX10_becomes 292 = .ok (.return_, 1) := by decide +kernel
theorem dX10_parse_0 : decode cX10_parse 0 = .ok (.aload_n 0, 1) := by decide +kernel
theorem dX10_parse_1 : decode cX10_parse 1 = .ok (.iconst 0, 1) := by decide +kernel
theorem dX10_parse_2 : decode cX10_parse 2 = .ok (.putfield 1, 3) := by decide +kernel
theorem dX10_parse_5 : decode cX10_parse 5 = .ok (.iload_n 1, 1) := by decide +kernel
theorem dX10_parse_6 : decode cX10_parse 6 = .ok (.i2l, 1) := by decide +kernel
theorem dX10_parse_7 : decode cX10_parse 7 = .ok (.lconst 0, 1) := by decide +kernel
theorem dX10_parse_8 : decode cX10_parse 8 = .ok (.aload_n 0, 1) := by decide +kernel
theorem dX10_parse_9 : decode cX10_parse 9 = .ok (.getfield 94, 3) := by decide +kernel
theorem dX10_parse_12 : decode cX10_parse 12 = .ok (.i2l, 1) := by decide +kernel
theorem dX10_parse_13 : decode cX10_parse 13 = .ok (.invokestatic 124, 3) := by decide +kernel
theorem dX10_parse_16 : decode cX10_parse 16 = .ok (.ifCond .ne 5, 3) := by decide +kernel
theorem dX10_parse_19 : decode cX10_parse 19 = .ok (.iconst (-1), 1) := by decide +kernel
theorem dX10_parse_20 : decode cX10_parse 20 = .ok (.ireturn, 1) := by decide +kernel
theorem dX10_parse_21 : decode cX10_parse 21 = .ok (.aload_n 0, 1) := by decide +kernel
theorem dX10_parse_22 : decode cX10_parse 22 = .ok (.iload_n 1, 1) := by decide +kernel
theorem dX10_parse_23 : decode cX10_parse 23 = .ok (.putfield 101, 3) := by decide +kernel
theorem dX10_parse_26 : decode cX10_parse 26 = .ok (.aload_n 0, 1) := by decide +kernel
theorem dX10_parse_27 : decode cX10_parse 27 = .ok (.iconst 0, 1) := by decide +kernel
theorem dX10_parse_28 : decode cX10_parse 28 = .ok (.putfield 94, 3) := by decide +kernel
theorem dX10_parse_31 : decode cX10_parse 31 = .ok (.aload_n 0, 1) := by decide +kernel
theorem dX10_parse_32 : decode cX10_parse 32 = .ok (.iconst 0, 1) := by decide +kernel
theorem dX10_parse_33 : decode cX10_parse 33 = .ok (.putfield 104, 3) := by decide +kernel
theorem dX10_parse_36 : decode cX10_parse 36 = .ok (.aload_n 0, 1) := by decide +kernel
theorem dX10_parse_37 : decode cX10_parse 37 = .ok (.iconst 0, 1) := by decide +kernel
theorem dX10_parse_38 : decode cX10_parse 38 = .ok (.putfield 141, 3) := by decide +kernel
theorem dX10_parse_41 : decode cX10_parse 41 = .ok (.aload_n 0, 1) := by decide +kernel
theorem dX10_parse_42 : decode cX10_parse 42 = .ok (.bipush (-2), 2) := by decide +kernel
theorem dX10_parse_44 : decode cX10_parse 44 = .ok (.putfield 46, 3) := by decide +kernel
theorem dX10_parse_47 : decode cX10_parse 47 = .ok (.aload_n 0, 1) := by decide +kernel
theorem dX10_parse_48 : decode cX10_parse 48 = .ok (.iconst 0, 1) := by decide +kernel
theorem dX10_parse_49 : decode cX10_parse 49 = .ok (.putfield 154, 3) := by decide +kernel
theorem dX10_parse_52 : decode cX10_parse 52 = .ok (.aload_n 0, 1) := by decide +kernel
theorem dX10_parse_53 : decode cX10_parse 53 = .ok (.iconst 0, 1) := by decide +kernel
theorem dX10_parse_54 : decode cX10_parse 54 = .ok (.putfield 161, 3) := by decide +kernel
theorem dX10_parse_57 : decode cX10_parse 57 = .ok (.aload_n 0, 1) := by decide +kernel
theorem dX10_parse_58 : decode cX10_parse 58 = .ok (.iconst 0, 1) := by decide +kernel
theorem dX10_parse_59 : decode cX10_parse 59 = .ok (.putfield 169, 3) := by decide +kernel
theorem dX10_parse_62 : decode cX10_parse 62 = .ok (.aload_n 0, 1) := by decide +kernel
theorem dX10_parse_63 : decode cX10_parse 63 = .ok (.iconst 0, 1) := by decide +kernel
theorem dX10_parse_64 : decode cX10_parse 64 = .ok (.putfield 180, 3) := by decide +kernel
theorem dX10_parse_67 : decode cX10_parse 67 = .ok (.iconst 0, 1) := by decide +kernel
theorem dX10_parse_68 : decode cX10_parse 68 = .ok (.istore_n 2, 1) := by decide +kernel
theorem dX10_parse_69 : decode cX10_parse 69 = .ok (.iload_n 2, 1) := by decide +kernel
theorem dX10_parse_70 : decode cX10_parse 70 = .ok (.iconst 3, 1) := by decide +kernel
theorem dX10_parse_71 : decode cX10_parse 71 = .ok (.if_icmp .ge 16, 3) := by decide +kernel
theorem dX10_parse_74 : decode cX10_parse 74 = .ok (.aload_n 0, 1) := by decide +kernel
theorem dX10_parse_75 : decode cX10_parse 75 = .ok (.getfield 70, 3) := by decide +kernel
theorem dX10_parse_78 : decode cX10_parse 78 = .ok (.iload_n 2, 1) := by decide +kernel
theorem dX10_parse_79 : decode cX10_parse 79 = .ok (.iconst 0, 1) := by decide +kernel
theorem dX10_parse_80 : decode cX10_parse 80 = .ok (.iastore, 1) := by decide +kernel
theorem dX10_parse_81 : decode cX10_parse 81 = .ok (.iinc 2 1, 3) := by decide +kernel
theorem dX10_parse_84 : decode cX10_parse 84 = .ok (.goto (-15), 3) := by decide +kernel
theorem dX10_parse_87 : decode cX10_parse 87 = .ok (.aload_n 0, 1) := by decide +kernel
theorem dX10_parse_88 : decode cX10_parse 88 = .ok (.invokevirtual 151, 3) := by decide +kernel
theorem dX10_parse_91 : decode cX10_parse 91 = .ok (.iconst 1, 1) := by decide +kernel
theorem dX10_parse_92 : decode cX10_parse 92 = .ok (.istore_n 2, 1) := by decide +kernel
theorem dX10_parse_93 : decode cX10_parse 93 = .ok (.iload_n 2, 1) := by decide +kernel
theorem dX10_parse_94 : decode cX10_parse 94 = .ok (.ifCond .eq 18, 3) := by decide +kernel
theorem dX10_parse_97 : decode cX10_parse 97 = .ok (.aload_n 0, 1) := by decide +kernel
theorem dX10_parse_98 : decode cX10_parse 98 = .ok (.getfield 117, 3) := by decide +kernel
theorem dX10_parse_101 : decode cX10_parse 101 = .ok (.ifCond .eq 11, 3) := by decide +kernel
theorem dX10_parse_104 : decode cX10_parse 104 = .ok (.aload_n 0, 1) := by decide +kernel
theorem dX10_parse_105 : decode cX10_parse 105 = .ok (.invokevirtual 209, 3) := by decide +kernel
theorem dX10_parse_108 : decode cX10_parse 108 = .ok (.istore_n 2, 1) := by decide +kernel
theorem dX10_parse_109 : decode cX10_parse 109 = .ok (.goto (-16), 3) := by decide +kernel
theorem dX10_parse_112 : decode cX10_parse 112 = .ok (.iload_n 2, 1) := by decide +kernel
theorem dX10_parse_113 : decode cX10_parse 113 = .ok (.ifCond .ne 8, 3) := by decide +kernel
theorem dX10_parse_116 : decode cX10_parse 116 = .ok (.aload_n 0, 1) := by decide +kernel
theorem dX10_parse_117 : decode cX10_parse 117 = .ok (.getfield 141, 3) := by decide +kernel
theorem dX10_parse_120 : decode cX10_parse 120 = .ok (.ireturn, 1) := by decide +kernel
theorem dX10_parse_121 : decode cX10_parse 121 = .ok (.aload_n 0, 1) := by decide +kernel
theorem dX10_parse_122 : decode cX10_parse 122 = .ok (.invokevirtual 212, 3) := by decide +kernel
theorem dX10_parse_125 : decode cX10_parse 125 = .ok (.iconst 0, 1) := by decide +kernel
theorem dX10_parse_126 : decode cX10_parse 126 = .ok (.ireturn, 1) := by decide +kernel
def f_X10_thrown (F : Nat) (S : si_St) : Option (Int32 × si_St) :=
  some ((S.1 87 0), S)
def f_X10_within_h18 (F : Nat) (t0 : Int32) (S : si_St) : Option (Int32 × si_St) :=
  Option.bind (si_bz t0) fun v1 => some (v1, S)
def f_X10_within_h17 (F : Nat) (S : si_St) : Option (Int32 × si_St) :=
  f_X10_within_h18 F 0 S
def f_X10_within (F : Nat) (x0 : Int64) (x2 : Int64) (x4 : Int64) (S : si_St) : Option (Int32 × si_St) :=
  if (lg_cmp x0 x2) < 0 then (f_X10_within_h17 F S) else (if 0 < (lg_cmp x0 x4) then (f_X10_within_h17 F S) else (f_X10_within_h18 F 1 S))
def f_X10_bits_h4 (F : Nat) (r4 : Int32 → Int32 → si_St → Option (Int32 × si_St)) (x1 : Int32) (x2 : Int32) (S : si_St) : Option (Int32 × si_St) :=
  if x2 = 0 then (some (x1, S)) else (Option.bind (some (x1 + 1)) fun v1 => Option.bind (some (x2 &&& (x2 - 1))) fun v2 => r4 v1 v2 S)
def f_X10_bits_l4 (F : Nat) : Nat → Int32 → Int32 → si_St → Option (Int32 × si_St)
 | 0 => fun _ _ _ => none
 | n + 1 => fun x1 x2 S => f_X10_bits_h4 F (f_X10_bits_l4 F n) x1 x2 S
def f_X10_bits (F : Nat) (x0 : Int32) (S : si_St) : Option (Int32 × si_St) :=
  f_X10_bits_l4 F F 0 x0 S
def f_X10_size_h10 (F : Nat) (t0 : Int32) (S : si_St) : Option (Int32 × si_St) :=
  some (t0, S)
def f_X10_size (F : Nat) (x0 : Int32) (S : si_St) : Option (Int32 × si_St) :=
  if 0 ≤ x0 then (f_X10_size_h10 F x0 S) else (f_X10_size_h10 F (-x0) S)
def f_X10_bytesOf_h3 (F : Nat) (r3 : Int32 → Int32 → si_St → Option (si_St)) (x1 : Int32) (x2 : Int32) (S : si_St) : Option (si_St) :=
  if x2 < 0 then (some S) else (Option.bind (si_wr S 97 (S.1 87 15) (vp_nar .byte (si_i2b (x1 >>> (x2 &&& 31))))) fun S1 => Option.bind (si_pt S1 87 15 ((S1.1 87 15) + 1)) fun S2 => Option.bind (some (x2 + (-8))) fun v3 => r3 x1 v3 S2)
def f_X10_bytesOf_l3 (F : Nat) : Nat → Int32 → Int32 → si_St → Option (si_St)
 | 0 => fun _ _ _ => none
 | n + 1 => fun x1 x2 S => f_X10_bytesOf_h3 F (f_X10_bytesOf_l3 F n) x1 x2 S
def f_X10_bytesOf (F : Nat) (x1 : Int32) (S : si_St) : Option (si_St) :=
  f_X10_bytesOf_l3 F F x1 24 S
def f_X10_append (F : Nat) (x1 : Int32) (x2 : Int32) (x3 : Int32) (x4 : Int32) (x5 : Int32) (S : si_St) : Option (Int32 × si_St) :=
  Option.bind (si_pt S 87 0 0) fun S1 => if ((S1.1 87 15) + 20) ≤ 800 then (Option.bind (f_X10_bytesOf F x1 S1) fun S2 => Option.bind (f_X10_bytesOf F x2 S2) fun S3 => Option.bind (f_X10_bytesOf F x3 S3) fun S4 => Option.bind (f_X10_bytesOf F x4 S4) fun S5 => Option.bind (f_X10_bytesOf F x5 S5) fun S6 => some ((S6.1 87 15), S6)) else (some ((-3), S1))
def f_X10_byteAt_h23 (F : Nat) (t0 : Int32) (S : si_St) : Option (Int32 × si_St) :=
  some (t0, S)
def f_X10_byteAt (F : Nat) (x1 : Int32) (S : si_St) : Option (Int32 × si_St) :=
  if (S.1 87 16) ≤ x1 then (f_X10_byteAt_h23 F (-2) S) else (Option.bind (si_rd S 97 x1) fun v1 => f_X10_byteAt_h23 F (v1 &&& 255) S)
def f_X10_advance_h292 (F : Nat) (S : si_St) : Option (si_St) :=
  some S
def f_X10_advance_h289 (F : Nat) (t0 : Int32) (S : si_St) : Option (si_St) :=
  Option.bind (si_pt S 87 19 t0) fun S1 => f_X10_advance_h292 F S1
def f_X10_advance_h261 (F : Nat) (t0 : Int32) (S : si_St) : Option (si_St) :=
  Option.bind (si_pt S 87 19 t0) fun S2 => f_X10_advance_h292 F S2
def f_X10_advance_h225 (F : Nat) (r163 : si_St → Option (si_St)) (t0 : Int32) (S : si_St) : Option (si_St) :=
  Option.bind (si_pt S 87 20 t0) fun S3 => Option.bind (si_pt S3 87 18 ((S3.1 87 18) + 1)) fun S4 => r163 S4
def f_X10_advance_h163 (F : Nat) (r163 : si_St → Option (si_St)) (S : si_St) : Option (si_St) :=
  Option.bind (f_X10_byteAt F (S.1 87 18) S) fun q5 => Option.bind (f_X10_within F (Int32.toInt64 q5.1) (48 : Int64) (57 : Int64) q5.2) fun q6 => if q6.1 = 0 then (if ((q6.2.1 87 18) - (q6.2.1 87 17)) ≤ 6 then (f_X10_advance_h261 F 2 q6.2) else (f_X10_advance_h261 F 4 q6.2)) else (if 6 ≤ ((q6.2.1 87 18) - (q6.2.1 87 17)) then (f_X10_advance_h225 F r163 (q6.2.1 87 20) q6.2) else (Option.bind (f_X10_byteAt F (q6.2.1 87 18) q6.2) fun q7 => f_X10_advance_h225 F r163 (((10 * (q6.2.1 87 20)) + q7.1) - 48) q7.2))
def f_X10_advance_l163 (F : Nat) : Nat → si_St → Option (si_St)
 | 0 => fun _ => none
 | n + 1 => fun S => f_X10_advance_h163 F (f_X10_advance_l163 F n) S
def f_X10_advance_h143 (F : Nat) (t0 : Int32) (S : si_St) : Option (si_St) :=
  Option.bind (si_pt S 87 19 t0) fun S8 => f_X10_advance_h292 F S8
def f_X10_advance_h89 (F : Nat) (r89 : si_St → Option (si_St)) (S : si_St) : Option (si_St) :=
  Option.bind (f_X10_byteAt F (S.1 87 18) S) fun q9 => Option.bind (f_X10_within F (Int32.toInt64 q9.1) (97 : Int64) (122 : Int64) q9.2) fun q10 => if q10.1 = 0 then (if ((q10.2.1 87 18) - (q10.2.1 87 17)) ≤ 8 then (f_X10_advance_h143 F 1 q10.2) else (f_X10_advance_h143 F 4 q10.2)) else (Option.bind (si_pt q10.2 87 18 ((q10.2.1 87 18) + 1)) fun S11 => r89 S11)
def f_X10_advance_l89 (F : Nat) : Nat → si_St → Option (si_St)
 | 0 => fun _ => none
 | n + 1 => fun S => f_X10_advance_h89 F (f_X10_advance_l89 F n) S
def f_X10_advance_h26 (F : Nat) (r0 : si_St → Option (si_St)) (S : si_St) : Option (si_St) :=
  Option.bind (si_pt S 87 18 ((S.1 87 18) + 1)) fun S12 => r0 S12
def f_X10_advance_h0 (F : Nat) (r0 : si_St → Option (si_St)) (S : si_St) : Option (si_St) :=
  Option.bind (f_X10_byteAt F (S.1 87 18) S) fun q13 => if q13.1 = 32 then (f_X10_advance_h26 F r0 q13.2) else (Option.bind (f_X10_byteAt F (q13.2.1 87 18) q13.2) fun q14 => if q14.1 = 10 then (f_X10_advance_h26 F r0 q14.2) else (Option.bind (si_pt q14.2 87 17 (q14.2.1 87 18)) fun S15 => Option.bind (si_pt S15 87 20 0) fun S16 => Option.bind (f_X10_byteAt F (S16.1 87 18) S16) fun q17 => if q17.1 = (-2) then (Option.bind (si_pt q17.2 87 19 0) fun S21 => f_X10_advance_h292 F S21) else (Option.bind (f_X10_within F (Int32.toInt64 q17.1) (97 : Int64) (122 : Int64) q17.2) fun q18 => if q18.1 = 0 then (Option.bind (f_X10_within F (Int32.toInt64 q17.1) (48 : Int64) (57 : Int64) q18.2) fun q19 => if q19.1 = 0 then (Option.bind (si_pt q19.2 87 18 ((q19.2.1 87 18) + 1)) fun S20 => if q17.1 = 59 then (f_X10_advance_h289 F 3 S20) else (f_X10_advance_h289 F 4 S20)) else (f_X10_advance_l163 F F q19.2)) else (f_X10_advance_l89 F F q18.2))))
def f_X10_advance_l0 (F : Nat) : Nat → si_St → Option (si_St)
 | 0 => fun _ => none
 | n + 1 => fun S => f_X10_advance_h0 F (f_X10_advance_l0 F n) S
def f_X10_advance (F : Nat) (S : si_St) : Option (si_St) :=
  f_X10_advance_l0 F F S
def f_X10_isWord_h75 (F : Nat) (g1 : Nat) (x2 : Int32) (S : si_St) : Option (Int32 × si_St) :=
  Option.bind (si_bz x2) fun v1 => some (v1, S)
def f_X10_isWord_h68 (F : Nat) (g1 : Nat) (r32 : Int32 → Int32 → si_St → Option (Int32 × si_St)) (x3 : Int32) (t0 : Int32) (S : si_St) : Option (Int32 × si_St) :=
  Option.bind (some (x3 + 1)) fun v2 => r32 t0 v2 S
def f_X10_isWord_h32 (F : Nat) (g1 : Nat) (r32 : Int32 → Int32 → si_St → Option (Int32 × si_St)) (x2 : Int32) (x3 : Int32) (S : si_St) : Option (Int32 × si_St) :=
  Option.bind (f_J0_length_8abf5 F g1 S) fun q3 => if q3.1 ≤ x3 then (f_X10_isWord_h75 F g1 x2 q3.2) else (if x2 = 0 then (f_X10_isWord_h75 F g1 x2 q3.2) else (Option.bind (si_rd q3.2 97 ((q3.2.1 87 17) + x3)) fun v4 => Option.bind (f_J0_charAt_5068e F g1 x3 q3.2) fun q5 => if v4 = q5.1 then (f_X10_isWord_h68 F g1 r32 x3 1 q5.2) else (f_X10_isWord_h68 F g1 r32 x3 0 q5.2)))
def f_X10_isWord_l32 (F : Nat) (g1 : Nat) : Nat → Int32 → Int32 → si_St → Option (Int32 × si_St)
 | 0 => fun _ _ _ => none
 | n + 1 => fun x2 x3 S => f_X10_isWord_h32 F g1 (f_X10_isWord_l32 F g1 n) x2 x3 S
def f_X10_isWord_h29 (F : Nat) (g1 : Nat) (t0 : Int32) (S : si_St) : Option (Int32 × si_St) :=
  f_X10_isWord_l32 F g1 F t0 0 S
def f_X10_isWord_h28 (F : Nat) (g1 : Nat) (S : si_St) : Option (Int32 × si_St) :=
  f_X10_isWord_h29 F g1 0 S
def f_X10_isWord (F : Nat) (g1 : Nat) (S : si_St) : Option (Int32 × si_St) :=
  if (S.1 87 19) = 1 then (Option.bind (f_J0_length_8abf5 F g1 S) fun q6 => if ((S.1 87 18) - (S.1 87 17)) = q6.1 then (f_X10_isWord_h29 F g1 1 q6.2) else (f_X10_isWord_h28 F g1 q6.2)) else (f_X10_isWord_h28 F g1 S)
def f_X10_fails_h20 (F : Nat) (S : si_St) : Option (Int32 × si_St) :=
  Option.bind (si_bz 0) fun v1 => some (v1, S)
def f_X10_fails (F : Nat) (x1 : Int32) (S : si_St) : Option (Int32 × si_St) :=
  if (S.1 87 21) = 0 then (Option.bind (si_pt S 87 21 x1) fun S2 => Option.bind (si_pt S2 87 22 (S2.1 87 17)) fun S3 => f_X10_fails_h20 F S3) else (f_X10_fails_h20 F S)
def f_X10_takes (F : Nat) (x1 : Int32) (x2 : Int32) (S : si_St) : Option (Int32 × si_St) :=
  if (S.1 87 19) = 2 then (Option.bind (f_X10_within F (Int32.toInt64 (S.1 87 20)) (Int32.toInt64 x1) (Int32.toInt64 x2) S) fun q1 => if q1.1 = 0 then (Option.bind (f_X10_fails F 3 q1.2) fun q5 => Option.bind (si_bz q5.1) fun v6 => some (v6, q5.2)) else (Option.bind (si_pt q1.2 87 23 (q1.2.1 87 20)) fun S2 => Option.bind (f_X10_advance F S2) fun S3 => Option.bind (si_bz 1) fun v4 => some (v4, S3))) else (Option.bind (f_X10_fails F 1 S) fun q7 => Option.bind (si_bz q7.1) fun v8 => some (v8, q7.2))
def f_X10_begins (F : Nat) (x1 : Int32) (S : si_St) : Option (Int32 × si_St) :=
  if x1 = 0 then (Option.bind (f_X10_fails F 4 S) fun q3 => Option.bind (si_bz q3.1) fun v4 => some (v4, q3.2)) else (Option.bind (f_X10_advance F S) fun S1 => Option.bind (si_bz 1) fun v2 => some (v2, S1))
def f_X10_traderLine_h15 (F : Nat) (t0 : Int32) (S : si_St) : Option (Int32 × si_St) :=
  Option.bind (f_X10_begins F t0 S) fun q1 => if q1.1 = 0 then (Option.bind (si_bz 0) fun v4 => some (v4, q1.2)) else (Option.bind (si_pt q1.2 87 24 ((q1.2.1 87 24) + 1)) fun S2 => Option.bind (si_bz 1) fun v3 => some (v3, S2))
def f_X10_traderLine (F : Nat) (S : si_St) : Option (Int32 × si_St) :=
  if 8 ≤ (S.1 87 24) then (f_X10_traderLine_h15 F 0 S) else (f_X10_traderLine_h15 F 1 S)
def f_X10_scaleLine_h37 (F : Nat) (S : si_St) : Option (Int32 × si_St) :=
  Option.bind (si_bz 0) fun v1 => some (v1, S)
def f_X10_scaleLine_h17 (F : Nat) (x1 : Int32) (t0 : Int32) (S : si_St) : Option (Int32 × si_St) :=
  Option.bind (f_X10_begins F t0 S) fun q2 => if q2.1 = 0 then (f_X10_scaleLine_h37 F q2.2) else (Option.bind (f_X10_takes F 0 ((q2.2.1 87 24) - 1) q2.2) fun q3 => if q3.1 = 0 then (f_X10_scaleLine_h37 F q3.2) else (Option.bind (si_wr q3.2 98 x1 (q3.2.1 87 23)) fun S4 => Option.bind (f_X10_takes F 0 2 S4) fun q5 => if q5.1 = 0 then (Option.bind (si_bz 0) fun v16 => some (v16, q5.2)) else (Option.bind (si_wr q5.2 99 x1 (q5.2.1 87 23)) fun S6 => Option.bind (f_X10_takes F 1 1000 S6) fun q7 => if q7.1 = 0 then (Option.bind (si_bz 0) fun v15 => some (v15, q7.2)) else (Option.bind (si_wr q7.2 100 x1 (q7.2.1 87 23)) fun S8 => Option.bind (si_rd S8 100 x1) fun v9 => Option.bind (f_X10_takes F (20 * v9) 999999 S8) fun q10 => if q10.1 = 0 then (Option.bind (si_bz 0) fun v14 => some (v14, q10.2)) else (Option.bind (si_wr q10.2 101 x1 (q10.2.1 87 23)) fun S11 => Option.bind (si_pt S11 87 25 ((S11.1 87 25) + 1)) fun S12 => Option.bind (si_bz 1) fun v13 => some (v13, S12))))))
def f_X10_scaleLine (F : Nat) (S : si_St) : Option (Int32 × si_St) :=
  Option.bind (some (S.1 87 25)) fun v17 => if 24 ≤ v17 then (f_X10_scaleLine_h17 F v17 0 S) else (f_X10_scaleLine_h17 F v17 1 S)
def f_X10_massLine_h33 (F : Nat) (S : si_St) : Option (Int32 × si_St) :=
  Option.bind (si_bz 0) fun v1 => some (v1, S)
def f_X10_massLine_h111 (F : Nat) (x1 : Int32) (x2 : Int32) (S : si_St) : Option (Int32 × si_St) :=
  Option.bind (si_wr S 102 x1 x2) fun S2 => Option.bind (si_pt S2 87 30 ((S2.1 87 30) + 1)) fun S3 => Option.bind (si_bz 1) fun v4 => some (v4, S3)
def f_X10_massLine_h109 (F : Nat) (x1 : Int32) (t0 : Int32) (t1 : Int32) (S : si_St) : Option (Int32 × si_St) :=
  Option.bind (some (t1 + t0)) fun v5 => f_X10_massLine_h111 F x1 v5 S
def f_X10_massLine_h84 (F : Nat) (x1 : Int32) (x2 : Int32) (x3 : Int32) (t0 : Int32) (t1 : Int32) (S : si_St) : Option (Int32 × si_St) :=
  Option.bind (f_X10_takes F t1 t0 S) fun q6 => if q6.1 = 0 then (Option.bind (si_bz 0) fun v7 => some (v7, q6.2)) else (if x3 = 0 then (f_X10_massLine_h109 F x1 (-(q6.2.1 87 23)) x2 q6.2) else (f_X10_massLine_h109 F x1 (q6.2.1 87 23) x2 q6.2))
def f_X10_massLine_h76 (F : Nat) (x1 : Int32) (x2 : Int32) (x3 : Int32) (t0 : Int32) (S : si_St) : Option (Int32 × si_St) :=
  f_X10_massLine_h84 F x1 x2 x3 99 t0 S
def f_X10_massLine_h60 (F : Nat) (x1 : Int32) (x2 : Int32) (x3 : Int32) (S : si_St) : Option (Int32 × si_St) :=
  Option.bind (f_X10_advance F S) fun S8 => if x3 = 0 then (if x2 ≤ 99 then (f_X10_massLine_h84 F x1 x2 x3 (x2 - 1) 0 S8) else (f_X10_massLine_h76 F x1 x2 x3 0 S8)) else (f_X10_massLine_h76 F x1 x2 x3 0 S8)
def f_X10_massLine_h17 (F : Nat) (x1 : Int32) (t0 : Int32) (S : si_St) : Option (Int32 × si_St) :=
  Option.bind (f_X10_begins F t0 S) fun q9 => if q9.1 = 0 then (f_X10_massLine_h33 F q9.2) else (Option.bind (f_X10_takes F 1 999999 q9.2) fun q10 => if q10.1 = 0 then (f_X10_massLine_h33 F q10.2) else (Option.bind (some (q10.2.1 87 23)) fun v11 => Option.bind (f_X10_isWord F 5 q10.2) fun q12 => if q12.1 = 0 then (Option.bind (f_X10_isWord F 6 q12.2) fun q13 => if q13.1 = 0 then (f_X10_massLine_h111 F x1 v11 q13.2) else (f_X10_massLine_h60 F x1 v11 q12.1 q13.2)) else (f_X10_massLine_h60 F x1 v11 q12.1 q12.2)))
def f_X10_massLine (F : Nat) (S : si_St) : Option (Int32 × si_St) :=
  Option.bind (some (S.1 87 30)) fun v14 => if 10 ≤ v14 then (f_X10_massLine_h17 F v14 0 S) else (f_X10_massLine_h17 F v14 1 S)
def f_X10_setLine_h32 (F : Nat) (S : si_St) : Option (Int32 × si_St) :=
  Option.bind (si_bz 0) fun v1 => some (v1, S)
def f_X10_setLine_h69 (F : Nat) (S : si_St) : Option (Int32 × si_St) :=
  Option.bind (si_pt S 87 32 ((S.1 87 32) + 1)) fun S2 => Option.bind (si_bz 1) fun v3 => some (v3, S2)
def f_X10_setLine_h16 (F : Nat) (x1 : Int32) (t0 : Int32) (S : si_St) : Option (Int32 × si_St) :=
  Option.bind (f_X10_begins F t0 S) fun q4 => if q4.1 = 0 then (f_X10_setLine_h32 F q4.2) else (Option.bind (f_X10_takes F 2 12 q4.2) fun q5 => if q5.1 = 0 then (f_X10_setLine_h32 F q5.2) else (Option.bind (si_wr q5.2 103 x1 (q5.2.1 87 23)) fun S6 => Option.bind (f_X10_isWord F 7 S6) fun q7 => Option.bind (si_wz q7.2 104 x1 q7.1) fun S8 => Option.bind (si_rd S8 104 x1) fun v9 => if v9 = 0 then (f_X10_setLine_h69 F S8) else (Option.bind (f_X10_advance F S8) fun S10 => f_X10_setLine_h69 F S10)))
def f_X10_setLine (F : Nat) (S : si_St) : Option (Int32 × si_St) :=
  Option.bind (some (S.1 87 32)) fun v11 => if 4 ≤ v11 then (f_X10_setLine_h16 F v11 0 S) else (f_X10_setLine_h16 F v11 1 S)
def f_X10_termLine_h38 (F : Nat) (S : si_St) : Option (Int32 × si_St) :=
  Option.bind (f_X10_takes F 0 2 S) fun q1 => if q1.1 = 0 then (Option.bind (si_bz 0) fun v7 => some (v7, q1.2)) else (Option.bind (some (q1.2.1 87 23)) fun v2 => Option.bind (f_X10_takes F 1 5 q1.2) fun q3 => if q3.1 = 0 then (Option.bind (si_bz 0) fun v6 => some (v6, q3.2)) else (Option.bind (si_wr q3.2 105 v2 (q3.2.1 87 23)) fun S4 => Option.bind (si_bz 1) fun v5 => some (v5, S4)))
def f_X10_termLine (F : Nat) (S : si_St) : Option (Int32 × si_St) :=
  Option.bind (f_X10_advance F S) fun S8 => if (S8.1 87 19) = 2 then (if 3 ≤ (S8.1 87 20) then (f_X10_termLine_h38 F S8) else (Option.bind (si_rd S8 105 (S8.1 87 20)) fun v9 => if v9 ≤ 0 then (f_X10_termLine_h38 F S8) else (Option.bind (f_X10_fails F 2 S8) fun q10 => Option.bind (si_bz q10.1) fun v11 => some (v11, q10.2)))) else (f_X10_termLine_h38 F S8)
def f_X10_statement_h85 (F : Nat) (t0 : Int32) (S : si_St) : Option (Int32 × si_St) :=
  if t0 = 0 then (Option.bind (si_bz 0) fun v5 => some (v5, S)) else (if (S.1 87 19) = 3 then (Option.bind (f_X10_advance F S) fun S1 => Option.bind (si_bz 1) fun v2 => some (v2, S1)) else (Option.bind (f_X10_fails F 1 S) fun q3 => Option.bind (si_bz q3.1) fun v4 => some (v4, q3.2)))
def f_X10_statement (F : Nat) (S : si_St) : Option (Int32 × si_St) :=
  Option.bind (f_X10_isWord F 0 S) fun q6 => if q6.1 = 0 then (Option.bind (f_X10_isWord F 1 q6.2) fun q7 => if q7.1 = 0 then (Option.bind (f_X10_isWord F 2 q7.2) fun q8 => if q8.1 = 0 then (Option.bind (f_X10_isWord F 3 q8.2) fun q9 => if q9.1 = 0 then (Option.bind (f_X10_isWord F 4 q9.2) fun q10 => if q10.1 = 0 then (Option.bind (f_X10_fails F 1 q10.2) fun q11 => f_X10_statement_h85 F q11.1 q11.2) else (Option.bind (f_X10_termLine F q10.2) fun q12 => f_X10_statement_h85 F q12.1 q12.2)) else (Option.bind (f_X10_setLine F q9.2) fun q13 => f_X10_statement_h85 F q13.1 q13.2)) else (Option.bind (f_X10_massLine F q8.2) fun q14 => f_X10_statement_h85 F q14.1 q14.2)) else (Option.bind (f_X10_scaleLine F q7.2) fun q15 => f_X10_statement_h85 F q15.1 q15.2)) else (Option.bind (f_X10_traderLine F q6.2) fun q16 => f_X10_statement_h85 F q16.1 q16.2)
def f_X10_copies_h3 (F : Nat) (k0 : Nat) (k2 : Nat) (r3 : Int32 → Int32 → Int32 → Int32 → si_St → Option (si_St)) (x1 : Int32) (x3 : Int32) (x4 : Int32) (x5 : Int32) (S : si_St) : Option (si_St) :=
  if x4 ≤ x5 then (some S) else (Option.bind (si_rd S k0 (x1 + x5)) fun v1 => Option.bind (si_wr S k2 (x3 + x5) v1) fun S2 => Option.bind (some (x5 + 1)) fun v3 => r3 x1 x3 x4 v3 S2)
def f_X10_copies_l3 (F : Nat) (k0 : Nat) (k2 : Nat) : Nat → Int32 → Int32 → Int32 → Int32 → si_St → Option (si_St)
 | 0 => fun _ _ _ _ _ => none
 | n + 1 => fun x1 x3 x4 x5 S => f_X10_copies_h3 F k0 k2 (f_X10_copies_l3 F k0 k2 n) x1 x3 x4 x5 S
def f_X10_copies (F : Nat) (k0 : Nat) (k2 : Nat) (x1 : Int32) (x3 : Int32) (x4 : Int32) (S : si_St) : Option (si_St) :=
  f_X10_copies_l3 F k0 k2 F x1 x3 x4 0 S
def f_X10_becomes_h266 (F : Nat) (r183 : Int32 → si_St → Option (si_St)) (x1 : Int32) (t0 : Int32) (t1 : Int32) (S : si_St) : Option (si_St) :=
  Option.bind (si_wr S 88 t1 t0) fun S1 => Option.bind (some (x1 + 1)) fun v2 => r183 v2 S1
def f_X10_becomes_h183 (F : Nat) (r183 : Int32 → si_St → Option (si_St)) (x1 : Int32) (S : si_St) : Option (si_St) :=
  if (S.1 87 10) ≤ x1 then (Option.bind (si_pt S 87 41 0) fun S3 => Option.bind (si_wz S3 112 0 0) fun S4 => Option.bind (si_wz S4 112 1 0) fun S5 => some S5) else (Option.bind (si_rd S 104 x1) fun v6 => Option.bind (si_wz S 95 x1 v6) fun S7 => Option.bind (si_rd S7 94 x1) fun v8 => Option.bind (si_wr S7 88 (661 + x1) ((1 <<< (v8 &&& 31)) - 1)) fun S9 => Option.bind (si_rd S9 88 (661 + x1)) fun v10 => Option.bind (si_wr S9 88 (665 + x1) v10) fun S11 => Option.bind (si_rd S11 95 x1) fun v12 => if v12 = 0 then (f_X10_becomes_h266 F r183 x1 0 (669 + x1) S11) else (f_X10_becomes_h266 F r183 x1 1 (669 + x1) S11))
def f_X10_becomes_l183 (F : Nat) : Nat → Int32 → si_St → Option (si_St)
 | 0 => fun _ _ => none
 | n + 1 => fun x1 S => f_X10_becomes_h183 F (f_X10_becomes_l183 F n) x1 S
def f_X10_becomes_h161 (F : Nat) (r161 : Int32 → si_St → Option (si_St)) (x1 : Int32) (S : si_St) : Option (si_St) :=
  if 677 ≤ x1 then (f_X10_becomes_l183 F F 0 S) else (Option.bind (si_wr S 88 x1 0) fun S13 => Option.bind (some (x1 + 1)) fun v14 => r161 v14 S13)
def f_X10_becomes_l161 (F : Nat) : Nat → Int32 → si_St → Option (si_St)
 | 0 => fun _ _ => none
 | n + 1 => fun x1 S => f_X10_becomes_h161 F (f_X10_becomes_l161 F n) x1 S
def f_X10_becomes_h152 (F : Nat) (r123 : Int32 → si_St → Option (si_St)) (x1 : Int32) (t0 : Int32) (t1 : Int32) (S : si_St) : Option (si_St) :=
  Option.bind (si_wr S 96 t1 t0) fun S15 => Option.bind (some (x1 + 1)) fun v16 => r123 v16 S15
def f_X10_becomes_h123 (F : Nat) (r123 : Int32 → si_St → Option (si_St)) (x1 : Int32) (S : si_St) : Option (si_St) :=
  if 3 ≤ x1 then (f_X10_becomes_l161 F F 0 S) else (Option.bind (si_rd S 105 x1) fun v17 => if v17 = 0 then (f_X10_becomes_h152 F r123 x1 2 x1 S) else (Option.bind (si_rd S 105 x1) fun v18 => f_X10_becomes_h152 F r123 x1 v18 x1 S))
def f_X10_becomes_l123 (F : Nat) : Nat → Int32 → si_St → Option (si_St)
 | 0 => fun _ _ => none
 | n + 1 => fun x1 S => f_X10_becomes_h123 F (f_X10_becomes_l123 F n) x1 S
def f_X10_becomes (F : Nat) (S : si_St) : Option (si_St) :=
  Option.bind (si_pt S 87 2 (S.1 87 24)) fun S19 => Option.bind (si_pt S19 87 3 (S19.1 87 25)) fun S20 => Option.bind (f_X10_copies F 98 89 0 0 24 S20) fun S21 => Option.bind (f_X10_copies F 99 90 0 0 24 S21) fun S22 => Option.bind (f_X10_copies F 100 91 0 0 24 S22) fun S23 => Option.bind (f_X10_copies F 101 92 0 0 24 S23) fun S24 => Option.bind (si_pt S24 87 8 (S24.1 87 30)) fun S25 => Option.bind (f_X10_copies F 102 93 0 0 10 S25) fun S26 => Option.bind (si_pt S26 87 10 (S26.1 87 32)) fun S27 => Option.bind (f_X10_copies F 103 94 0 0 4 S27) fun S28 => f_X10_becomes_l123 F F 0 S28
def f_X10_parse_h112 (F : Nat) (x2 : Int32) (S : si_St) : Option (Int32 × si_St) :=
  if x2 = 0 then (some ((S.1 87 21), S)) else (Option.bind (f_X10_becomes F S) fun S1 => some (0, S1))
def f_X10_parse_h93 (F : Nat) (r93 : Int32 → si_St → Option (Int32 × si_St)) (x2 : Int32) (S : si_St) : Option (Int32 × si_St) :=
  if x2 = 0 then (f_X10_parse_h112 F x2 S) else (if (S.1 87 19) = 0 then (f_X10_parse_h112 F x2 S) else (Option.bind (f_X10_statement F S) fun q2 => r93 q2.1 q2.2))
def f_X10_parse_l93 (F : Nat) : Nat → Int32 → si_St → Option (Int32 × si_St)
 | 0 => fun _ _ => none
 | n + 1 => fun x2 S => f_X10_parse_h93 F (f_X10_parse_l93 F n) x2 S
def f_X10_parse_h69 (F : Nat) (r69 : Int32 → si_St → Option (Int32 × si_St)) (x2 : Int32) (S : si_St) : Option (Int32 × si_St) :=
  if 3 ≤ x2 then (Option.bind (f_X10_advance F S) fun S3 => f_X10_parse_l93 F F 1 S3) else (Option.bind (si_wr S 105 x2 0) fun S4 => Option.bind (some (x2 + 1)) fun v5 => r69 v5 S4)
def f_X10_parse_l69 (F : Nat) : Nat → Int32 → si_St → Option (Int32 × si_St)
 | 0 => fun _ _ => none
 | n + 1 => fun x2 S => f_X10_parse_h69 F (f_X10_parse_l69 F n) x2 S
def f_X10_parse (F : Nat) (x1 : Int32) (S : si_St) : Option (Int32 × si_St) :=
  Option.bind (si_pt S 87 0 0) fun S6 => Option.bind (f_X10_within F (Int32.toInt64 x1) (0 : Int64) (Int32.toInt64 (S6.1 87 15)) S6) fun q7 => if q7.1 = 0 then (some ((-1), q7.2)) else (Option.bind (si_pt q7.2 87 16 x1) fun S8 => Option.bind (si_pt S8 87 15 0) fun S9 => Option.bind (si_pt S9 87 18 0) fun S10 => Option.bind (si_pt S10 87 21 0) fun S11 => Option.bind (si_pt S11 87 22 (-2)) fun S12 => Option.bind (si_pt S12 87 24 0) fun S13 => Option.bind (si_pt S13 87 25 0) fun S14 => Option.bind (si_pt S14 87 30 0) fun S15 => Option.bind (si_pt S15 87 32 0) fun S16 => f_X10_parse_l69 F F 0 S16)
abbrev rm_X10_thrown : Room := { frames := 0, cells := 0, slots := 0, locals := 0 }
set_option maxHeartbeats 4000000 in
set_option maxRecDepth 100000 in
theorem c_X10_thrown (l : Launch) (E : si_Ev) (F : Nat) (S : si_St) (o : Int32 × si_St) (hf : f_X10_thrown F S = some o) : si_Mi l E yX10_thrown cX10_thrown 1 (some .int) rm_X10_thrown [.ref (E.2.1 87)] S o := by
  refine si_ofWi (plainFor_of_name (by decide +kernel)) (Nat.le_of_ble_eq_true rfl) ?_
  intro p e s m args below meth c ls Q A X hw hA hl hret
  have hl : lv_has ls 1 [(0, .ref (E.2.1 87))] := hl
  unfold f_X10_thrown at hf
  refine lv_aload_n X.1 X.2.1 dX10_thrown_0 rfl (lv_at hl 0 rfl) ?_
  refine si_getI X hw si_cl10 0 (by decide) gf_RX10_1 rfl rfl rfl dX10_thrown_1 ?_
  exact hret _ _ _ _ _ _ hf hw dX10_thrown_4
abbrev rm_X10_within : Room := { frames := 0, cells := 0, slots := 0, locals := 0 }
set_option maxHeartbeats 4000000 in
set_option maxRecDepth 100000 in
theorem c_X10_within (l : Launch) (E : si_Ev) (F : Nat) (x0 : Int64) (x2 : Int64) (x4 : Int64) (S : si_St) (o : Int32 × si_St) (hf : f_X10_within F x0 x2 x4 S = some o) : si_Mi l E yX10_within cX10_within 6 (some .boolean) rm_X10_within [.long x0, .long x2, .long x4] S o := by
  refine si_ofWz (plainFor_of_name (by decide +kernel)) (Nat.le_of_ble_eq_true rfl) ?_
  intro p e s m args below meth c ls Q A X hw hA hl hret
  have hl : lv_has ls 6 [(0, .long x0), (2, .long x2), (4, .long x4)] := hl
  have B18 : ∀ (t0 : Int32) (S : si_St) (H : Heap) (locs : List Loc) (ls : Array Slot) , f_X10_within_h18 F t0 S = some o → si_Ws E A s.heap S H locs → lv_has ls 6 [] → W p l e rm_X10_within s m args below meth c H locs 0 0 Q (F0 m 18 ls [.int t0]) := by
    intro t0  S H locs ls  hf hw hl
    unfold f_X10_within_h18 at hf
    obtain ⟨v1, ev1, hf⟩ := si_ob hf
    exact hret _ _ _ _ _ _ (si_bzf ev1 hf) (si_nz (si_bz_inv ev1).1) hw dX10_within_18
  have B17 : ∀ (S : si_St) (H : Heap) (locs : List Loc) (ls : Array Slot) , f_X10_within_h17 F S = some o → si_Ws E A s.heap S H locs → lv_has ls 6 [] → W p l e rm_X10_within s m args below meth c H locs 0 0 Q (F0 m 17 ls []) := by
    intro   S H locs ls  hf hw hl
    unfold f_X10_within_h17 at hf
    refine lv_iconst (v := 0) X.1 X.2.1 dX10_within_17 (by decide) ?_
    exact B18 _ _ _ _ _ hf hw (lv_sub hl [] rfl)
  unfold f_X10_within at hf
  refine lv_lload_n X.1 X.2.1 dX10_within_0 rfl (lv_at hl 0 rfl) ?_
  refine lv_lload_n X.1 X.2.1 dX10_within_1 rfl (lv_at hl 1 rfl) ?_
  refine W.lcmp X.1 X.2.1 dX10_within_2 ?_
  refine lv_if_lt (tgt := 17) X.1 X.2.1 dX10_within_3 (by decide) (fun c3 => ?_) (fun c3 => ?_)
  · have hf := si_ip c3 hf
    exact B17 _ _ _ _ hf hw (lv_sub hl [] rfl)
  · have hf := si_in c3 hf
    refine lv_lload_n X.1 X.2.1 dX10_within_6 rfl (lv_at hl 0 rfl) ?_
    refine lv_lload X.1 X.2.1 dX10_within_7 (lv_at hl 2 rfl) ?_
    refine W.lcmp X.1 X.2.1 dX10_within_9 ?_
    refine lv_if_gt (tgt := 17) X.1 X.2.1 dX10_within_10 (by decide) (fun c10 => ?_) (fun c10 => ?_)
    · have hf := si_ip c10 hf
      exact B17 _ _ _ _ hf hw (lv_sub hl [] rfl)
    · have hf := si_in c10 hf
      refine lv_iconst (v := 1) X.1 X.2.1 dX10_within_13 (by decide) ?_
      refine lv_goto (tgt := 18) X.1 X.2.1 dX10_within_14 (by decide) ?_
      exact B18 _ _ _ _ _ hf hw (lv_sub hl [] rfl)
abbrev rm_X10_bits : Room := { frames := 0, cells := 0, slots := 0, locals := 0 }
set_option maxHeartbeats 4000000 in
set_option maxRecDepth 100000 in
theorem c_X10_bits (l : Launch) (E : si_Ev) (F : Nat) (x0 : Int32) (S : si_St) (o : Int32 × si_St) (hf : f_X10_bits F x0 S = some o) : si_Mi l E yX10_bits cX10_bits 3 (some .int) rm_X10_bits [.int x0] S o := by
  refine si_ofWi (plainFor_of_name (by decide +kernel)) (Nat.le_of_ble_eq_true rfl) ?_
  intro p e s m args below meth c ls Q A X hw hA hl hret
  have hl : lv_has ls 3 [(0, .int x0)] := hl
  have B4 : ∀ (n4 : Nat) (x1 : Int32) (x2 : Int32) (S : si_St) (H : Heap) (locs : List Loc) (ls : Array Slot) , f_X10_bits_l4 F n4 x1 x2 S = some o → si_Ws E A s.heap S H locs → lv_has ls 3 [(1, .int x1), (2, .int x2)] → W p l e rm_X10_bits s m args below meth c H locs 0 0 Q (F0 m 4 ls []) := by
    intro n4
    induction n4 with
    | zero => intro x1 x2  S H locs ls  hf; cases hf
    | succ n4 ih4 =>
      intro x1 x2  S H locs ls  hf hw hl
      have hf : f_X10_bits_h4 F (f_X10_bits_l4 F n4) x1 x2 S = some o := hf
      unfold f_X10_bits_h4 at hf
      refine lv_iload_n X.1 X.2.1 dX10_bits_4 rfl (lv_at hl 1 rfl) ?_
      refine lv_if_eq (tgt := 20) X.1 X.2.1 dX10_bits_5 (by decide) (fun c5 => ?_) (fun c5 => ?_)
      · have hf := si_ip c5 hf
        refine lv_iload_n X.1 X.2.1 dX10_bits_20 rfl (lv_at hl 0 rfl) ?_
        exact hret _ _ _ _ _ _ hf hw dX10_bits_21
      · have hf := si_in c5 hf
        obtain ⟨v1, ev1, hf⟩ := si_ob hf
        refine lv_iinc (v := v1) (lv' := [(1, .int v1), (2, .int x2)]) X.1 X.2.1 dX10_bits_8 hl (k := 0) rfl (Option.some.inj ev1) (by decide) rfl (fun ls hl => ?_)
        refine lv_iload_n X.1 X.2.1 dX10_bits_11 rfl (lv_at hl 1 rfl) ?_
        refine lv_iload_n X.1 X.2.1 dX10_bits_12 rfl (lv_at hl 1 rfl) ?_
        refine lv_iconst (v := 1) X.1 X.2.1 dX10_bits_13 (by decide) ?_
        refine lv_isub X.1 X.2.1 dX10_bits_14 ?_
        refine lv_iand X.1 X.2.1 dX10_bits_15 ?_
        obtain ⟨v2, ev2, hf⟩ := si_ob hf
        refine si_nmI ev2 ?_
        refine lv_istore_n (lv' := [(2, .int v2), (1, .int v1)]) X.1 X.2.1 dX10_bits_16 rfl hl (by decide) rfl (fun ls hl => ?_)
        refine lv_goto (tgt := 4) X.1 X.2.1 dX10_bits_17 (by decide) ?_
        exact ih4 _ _ _ _ _ _ hf hw (lv_sub hl [1, 0] rfl)
  unfold f_X10_bits at hf
  refine lv_iconst (v := 0) X.1 X.2.1 dX10_bits_0 (by decide) ?_
  refine lv_istore_n (lv' := [(1, .int 0), (0, .int x0)]) X.1 X.2.1 dX10_bits_1 rfl hl (by decide) rfl (fun ls hl => ?_)
  refine lv_iload_n X.1 X.2.1 dX10_bits_2 rfl (lv_at hl 1 rfl) ?_
  refine lv_istore_n (lv' := [(2, .int x0), (1, .int 0), (0, .int x0)]) X.1 X.2.1 dX10_bits_3 rfl hl (by decide) rfl (fun ls hl => ?_)
  exact B4 F _ _ _ _ _ _ hf hw (lv_sub hl [1, 0] rfl)
abbrev rm_X10_size : Room := { frames := 0, cells := 0, slots := 0, locals := 0 }
set_option maxHeartbeats 4000000 in
set_option maxRecDepth 100000 in
theorem c_X10_size (l : Launch) (E : si_Ev) (F : Nat) (x0 : Int32) (S : si_St) (o : Int32 × si_St) (hf : f_X10_size F x0 S = some o) : si_Mi l E yX10_size cX10_size 1 (some .int) rm_X10_size [.int x0] S o := by
  refine si_ofWi (plainFor_of_name (by decide +kernel)) (Nat.le_of_ble_eq_true rfl) ?_
  intro p e s m args below meth c ls Q A X hw hA hl hret
  have hl : lv_has ls 1 [(0, .int x0)] := hl
  have B10 : ∀ (t0 : Int32) (S : si_St) (H : Heap) (locs : List Loc) (ls : Array Slot) , f_X10_size_h10 F t0 S = some o → si_Ws E A s.heap S H locs → lv_has ls 1 [] → W p l e rm_X10_size s m args below meth c H locs 0 0 Q (F0 m 10 ls [.int t0]) := by
    intro t0  S H locs ls  hf hw hl
    unfold f_X10_size_h10 at hf
    exact hret _ _ _ _ _ _ hf hw dX10_size_10
  unfold f_X10_size at hf
  refine lv_iload_n X.1 X.2.1 dX10_size_0 rfl (lv_at hl 0 rfl) ?_
  refine lv_if_ge (tgt := 9) X.1 X.2.1 dX10_size_1 (by decide) (fun c1 => ?_) (fun c1 => ?_)
  · have hf := si_ip c1 hf
    refine lv_iload_n X.1 X.2.1 dX10_size_9 rfl (lv_at hl 0 rfl) ?_
    exact B10 _ _ _ _ _ hf hw (lv_sub hl [] rfl)
  · have hf := si_in c1 hf
    refine lv_iload_n X.1 X.2.1 dX10_size_4 rfl (lv_at hl 0 rfl) ?_
    refine lv_ineg X.1 X.2.1 dX10_size_5 ?_
    refine lv_goto (tgt := 10) X.1 X.2.1 dX10_size_6 (by decide) ?_
    exact B10 _ _ _ _ _ hf hw (lv_sub hl [] rfl)
abbrev rm_X10_bytesOf : Room := { frames := 0, cells := 0, slots := 0, locals := 0 }
set_option maxHeartbeats 4000000 in
set_option maxRecDepth 100000 in
theorem c_X10_bytesOf (l : Launch) (E : si_Ev) (F : Nat) (x1 : Int32) (S : si_St) (o : si_St) (hf : f_X10_bytesOf F x1 S = some o) : si_Mv l E yX10_bytesOf cX10_bytesOf 3 rm_X10_bytesOf [.ref (E.2.1 87), .int x1] S o := by
  refine si_ofWv (plainFor_of_name (by decide +kernel)) (Nat.le_of_ble_eq_true rfl) ?_
  intro p e s m args below meth c ls Q A X hw hA hl hret
  have hl : lv_has ls 3 [(0, .ref (E.2.1 87)), (1, .int x1)] := hl
  have B3 : ∀ (n3 : Nat) (x1 : Int32) (x2 : Int32) (S : si_St) (H : Heap) (locs : List Loc) (ls : Array Slot) , f_X10_bytesOf_l3 F n3 x1 x2 S = some o → si_Ws E A s.heap S H locs → lv_has ls 3 [(0, .ref (E.2.1 87)), (1, .int x1), (2, .int x2)] → W p l e rm_X10_bytesOf s m args below meth c H locs 0 0 Q (F0 m 3 ls []) := by
    intro n3
    induction n3 with
    | zero => intro x1 x2  S H locs ls  hf; cases hf
    | succ n3 ih3 =>
      intro x1 x2  S H locs ls  hf hw hl
      have hf : f_X10_bytesOf_h3 F (f_X10_bytesOf_l3 F n3) x1 x2 S = some o := hf
      unfold f_X10_bytesOf_h3 at hf
      refine lv_iload_n X.1 X.2.1 dX10_bytesOf_3 rfl (lv_at hl 2 rfl) ?_
      refine lv_if_lt (tgt := 36) X.1 X.2.1 dX10_bytesOf_4 (by decide) (fun c4 => ?_) (fun c4 => ?_)
      · have hf := si_ip c4 hf
        exact hret _ _ _ _ _ hf hw dX10_bytesOf_36
      · have hf := si_in c4 hf
        refine lv_aload_n X.1 X.2.1 dX10_bytesOf_7 rfl (lv_at hl 0 rfl) ?_
        refine si_getR (k' := 97) (d := 10) X hw si_cl10 14 (by decide) gf_RX10_42 rfl rfl rfl (by decide) rfl dX10_bytesOf_8 ?_
        refine lv_aload_n X.1 X.2.1 dX10_bytesOf_11 rfl (lv_at hl 0 rfl) ?_
        refine si_getI X hw si_cl10 15 (by decide) gf_RX10_94 rfl rfl rfl dX10_bytesOf_12 ?_
        refine lv_iload_n X.1 X.2.1 dX10_bytesOf_15 rfl (lv_at hl 1 rfl) ?_
        refine lv_iload_n X.1 X.2.1 dX10_bytesOf_16 rfl (lv_at hl 2 rfl) ?_
        refine lv_ishr X.1 X.2.1 dX10_bytesOf_17 ?_
        refine lv_i2b (v := (si_i2b (x1 >>> (x2 &&& 31)))) X.1 X.2.1 dX10_bytesOf_18 rfl ?_
        obtain ⟨S1, eS1, hf⟩ := si_ob hf
        refine si_bast X hw rfl eS1 dX10_bytesOf_19 (fun H locs hw => ?_)
        refine lv_aload_n X.1 X.2.1 dX10_bytesOf_20 rfl (lv_at hl 0 rfl) ?_
        refine lv_dup X.1 X.2.1 dX10_bytesOf_21 rfl ?_
        refine si_getI X hw si_cl10 15 (by decide) gf_RX10_94 rfl rfl rfl dX10_bytesOf_22 ?_
        refine lv_iconst (v := 1) X.1 X.2.1 dX10_bytesOf_25 (by decide) ?_
        refine lv_iadd X.1 X.2.1 dX10_bytesOf_26 ?_
        obtain ⟨S2, eS2, hf⟩ := si_ob hf
        refine si_ptI X hw si_cl10 15 (by decide) gf_RX10_94 rfl rfl rfl rfl rfl eS2 dX10_bytesOf_27 (fun H locs hw => ?_)
        obtain ⟨v3, ev3, hf⟩ := si_ob hf
        refine lv_iinc (v := v3) (lv' := [(2, .int v3), (0, .ref (E.2.1 87)), (1, .int x1)]) X.1 X.2.1 dX10_bytesOf_30 hl (k := 2) rfl (Option.some.inj ev3) (by decide) rfl (fun ls hl => ?_)
        refine lv_goto (tgt := 3) X.1 X.2.1 dX10_bytesOf_33 (by decide) ?_
        exact ih3 _ _ _ _ _ _ hf hw (lv_sub hl [1, 2, 0] rfl)
  unfold f_X10_bytesOf at hf
  refine lv_bipush (v := 24) X.1 X.2.1 dX10_bytesOf_0 (by decide) ?_
  refine lv_istore_n (lv' := [(2, .int 24), (0, .ref (E.2.1 87)), (1, .int x1)]) X.1 X.2.1 dX10_bytesOf_2 rfl hl (by decide) rfl (fun ls hl => ?_)
  exact B3 F _ _ _ _ _ _ hf hw (lv_sub hl [1, 2, 0] rfl)
abbrev rm_X10_append : Room := { frames := 1, cells := 0, slots := 0, locals := 22 }
set_option maxHeartbeats 4000000 in
set_option maxRecDepth 100000 in
theorem c_X10_append (l : Launch) (E : si_Ev) (F : Nat) (x1 : Int32) (x2 : Int32) (x3 : Int32) (x4 : Int32) (x5 : Int32) (S : si_St) (o : Int32 × si_St) (hf : f_X10_append F x1 x2 x3 x4 x5 S = some o) : si_Mi l E yX10_append cX10_append 6 (some .int) rm_X10_append [.ref (E.2.1 87), .int x1, .int x2, .int x3, .int x4, .int x5] S o := by
  refine si_ofWi (plainFor_of_name (by decide +kernel)) (Nat.le_of_ble_eq_true rfl) ?_
  intro p e s m args below meth c ls Q A X hw hA hl hret
  have hl : lv_has ls 6 [(0, .ref (E.2.1 87)), (1, .int x1), (2, .int x2), (3, .int x3), (4, .int x4), (5, .int x5)] := hl
  unfold f_X10_append at hf
  refine lv_aload_n X.1 X.2.1 dX10_append_0 rfl (lv_at hl 0 rfl) ?_
  refine lv_iconst (v := 0) X.1 X.2.1 dX10_append_1 (by decide) ?_
  obtain ⟨S1, eS1, hf⟩ := si_ob hf
  refine si_ptI X hw si_cl10 0 (by decide) gf_RX10_1 rfl rfl rfl rfl rfl eS1 dX10_append_2 (fun H locs hw => ?_)
  refine lv_aload_n X.1 X.2.1 dX10_append_5 rfl (lv_at hl 0 rfl) ?_
  refine si_getI X hw si_cl10 15 (by decide) gf_RX10_94 rfl rfl rfl dX10_append_6 ?_
  refine lv_bipush (v := 20) X.1 X.2.1 dX10_append_9 (by decide) ?_
  refine lv_iadd X.1 X.2.1 dX10_append_11 ?_
  refine lv_sipush (v := 800) X.1 X.2.1 dX10_append_12 (by decide) ?_
  refine lv_icmp_le (tgt := 21) X.1 X.2.1 dX10_append_15 (by decide) (fun c15 => ?_) (fun c15 => ?_)
  · have hf := si_ip c15 hf
    refine lv_aload_n X.1 X.2.1 dX10_append_21 rfl (lv_at hl 0 rfl) ?_
    refine lv_iload_n X.1 X.2.1 dX10_append_22 rfl (lv_at hl 1 rfl) ?_
    obtain ⟨S2, eS2, hf⟩ := si_ob hf
    refine si_cVv [.int x1] cal_X10_bytesOf gm_RX10_97 X hw hA hl.1 (c_X10_bytesOf l E F x1 S1 S2 eS2) si_cl10 rfl ⟨⟨rfl, rfl⟩, Nat.le_of_ble_eq_true rfl, Nat.le_of_ble_eq_true rfl⟩ rfl rfl (Nat.le_of_ble_eq_true rfl) ⟨Nat.zero_le _, Nat.zero_le _⟩ dX10_append_23 (fun H locs hw => ?_)
    refine lv_aload_n X.1 X.2.1 dX10_append_26 rfl (lv_at hl 0 rfl) ?_
    refine lv_iload_n X.1 X.2.1 dX10_append_27 rfl (lv_at hl 2 rfl) ?_
    obtain ⟨S3, eS3, hf⟩ := si_ob hf
    refine si_cVv [.int x2] cal_X10_bytesOf gm_RX10_97 X hw hA hl.1 (c_X10_bytesOf l E F x2 S2 S3 eS3) si_cl10 rfl ⟨⟨rfl, rfl⟩, Nat.le_of_ble_eq_true rfl, Nat.le_of_ble_eq_true rfl⟩ rfl rfl (Nat.le_of_ble_eq_true rfl) ⟨Nat.zero_le _, Nat.zero_le _⟩ dX10_append_28 (fun H locs hw => ?_)
    refine lv_aload_n X.1 X.2.1 dX10_append_31 rfl (lv_at hl 0 rfl) ?_
    refine lv_iload_n X.1 X.2.1 dX10_append_32 rfl (lv_at hl 3 rfl) ?_
    obtain ⟨S4, eS4, hf⟩ := si_ob hf
    refine si_cVv [.int x3] cal_X10_bytesOf gm_RX10_97 X hw hA hl.1 (c_X10_bytesOf l E F x3 S3 S4 eS4) si_cl10 rfl ⟨⟨rfl, rfl⟩, Nat.le_of_ble_eq_true rfl, Nat.le_of_ble_eq_true rfl⟩ rfl rfl (Nat.le_of_ble_eq_true rfl) ⟨Nat.zero_le _, Nat.zero_le _⟩ dX10_append_33 (fun H locs hw => ?_)
    refine lv_aload_n X.1 X.2.1 dX10_append_36 rfl (lv_at hl 0 rfl) ?_
    refine lv_iload X.1 X.2.1 dX10_append_37 (lv_at hl 4 rfl) ?_
    obtain ⟨S5, eS5, hf⟩ := si_ob hf
    refine si_cVv [.int x4] cal_X10_bytesOf gm_RX10_97 X hw hA hl.1 (c_X10_bytesOf l E F x4 S4 S5 eS5) si_cl10 rfl ⟨⟨rfl, rfl⟩, Nat.le_of_ble_eq_true rfl, Nat.le_of_ble_eq_true rfl⟩ rfl rfl (Nat.le_of_ble_eq_true rfl) ⟨Nat.zero_le _, Nat.zero_le _⟩ dX10_append_39 (fun H locs hw => ?_)
    refine lv_aload_n X.1 X.2.1 dX10_append_42 rfl (lv_at hl 0 rfl) ?_
    refine lv_iload X.1 X.2.1 dX10_append_43 (lv_at hl 5 rfl) ?_
    obtain ⟨S6, eS6, hf⟩ := si_ob hf
    refine si_cVv [.int x5] cal_X10_bytesOf gm_RX10_97 X hw hA hl.1 (c_X10_bytesOf l E F x5 S5 S6 eS6) si_cl10 rfl ⟨⟨rfl, rfl⟩, Nat.le_of_ble_eq_true rfl, Nat.le_of_ble_eq_true rfl⟩ rfl rfl (Nat.le_of_ble_eq_true rfl) ⟨Nat.zero_le _, Nat.zero_le _⟩ dX10_append_45 (fun H locs hw => ?_)
    refine lv_aload_n X.1 X.2.1 dX10_append_48 rfl (lv_at hl 0 rfl) ?_
    refine si_getI X hw si_cl10 15 (by decide) gf_RX10_94 rfl rfl rfl dX10_append_49 ?_
    exact hret _ _ _ _ _ _ hf hw dX10_append_52
  · have hf := si_in c15 hf
    refine lv_bipush (v := (-3)) X.1 X.2.1 dX10_append_18 (by decide) ?_
    exact hret _ _ _ _ _ _ hf hw dX10_append_20
abbrev rm_X10_byteAt : Room := { frames := 0, cells := 0, slots := 0, locals := 0 }
set_option maxHeartbeats 4000000 in
set_option maxRecDepth 100000 in
theorem c_X10_byteAt (l : Launch) (E : si_Ev) (F : Nat) (x1 : Int32) (S : si_St) (o : Int32 × si_St) (hf : f_X10_byteAt F x1 S = some o) : si_Mi l E yX10_byteAt cX10_byteAt 2 (some .int) rm_X10_byteAt [.ref (E.2.1 87), .int x1] S o := by
  refine si_ofWi (plainFor_of_name (by decide +kernel)) (Nat.le_of_ble_eq_true rfl) ?_
  intro p e s m args below meth c ls Q A X hw hA hl hret
  have hl : lv_has ls 2 [(0, .ref (E.2.1 87)), (1, .int x1)] := hl
  have B23 : ∀ (t0 : Int32) (S : si_St) (H : Heap) (locs : List Loc) (ls : Array Slot) , f_X10_byteAt_h23 F t0 S = some o → si_Ws E A s.heap S H locs → lv_has ls 2 [] → W p l e rm_X10_byteAt s m args below meth c H locs 0 0 Q (F0 m 23 ls [.int t0]) := by
    intro t0  S H locs ls  hf hw hl
    unfold f_X10_byteAt_h23 at hf
    exact hret _ _ _ _ _ _ hf hw dX10_byteAt_23
  unfold f_X10_byteAt at hf
  refine lv_iload_n X.1 X.2.1 dX10_byteAt_0 rfl (lv_at hl 1 rfl) ?_
  refine lv_aload_n X.1 X.2.1 dX10_byteAt_1 rfl (lv_at hl 0 rfl) ?_
  refine si_getI X hw si_cl10 16 (by decide) gf_RX10_101 rfl rfl rfl dX10_byteAt_2 ?_
  refine lv_icmp_ge (tgt := 21) X.1 X.2.1 dX10_byteAt_5 (by decide) (fun c5 => ?_) (fun c5 => ?_)
  · have hf := si_ip c5 hf
    refine lv_bipush (v := (-2)) X.1 X.2.1 dX10_byteAt_21 (by decide) ?_
    exact B23 _ _ _ _ _ hf hw (lv_sub hl [] rfl)
  · have hf := si_in c5 hf
    refine lv_aload_n X.1 X.2.1 dX10_byteAt_8 rfl (lv_at hl 0 rfl) ?_
    refine si_getR (k' := 97) (d := 10) X hw si_cl10 14 (by decide) gf_RX10_42 rfl rfl rfl (by decide) rfl dX10_byteAt_9 ?_
    refine lv_iload_n X.1 X.2.1 dX10_byteAt_12 rfl (lv_at hl 1 rfl) ?_
    obtain ⟨v1, ev1, hf⟩ := si_ob hf
    refine si_bald X hw rfl ev1 dX10_byteAt_13 ?_
    refine lv_sipush (v := 255) X.1 X.2.1 dX10_byteAt_14 (by decide) ?_
    refine lv_iand X.1 X.2.1 dX10_byteAt_17 ?_
    refine lv_goto (tgt := 23) X.1 X.2.1 dX10_byteAt_18 (by decide) ?_
    exact B23 _ _ _ _ _ hf hw (lv_sub hl [] rfl)
abbrev rm_X10_advance : Room := { frames := 1, cells := 0, slots := 0, locals := 25 }
set_option maxHeartbeats 4000000 in
set_option maxRecDepth 100000 in
theorem c_X10_advance (l : Launch) (E : si_Ev) (F : Nat) (S : si_St) (o : si_St) (hf : f_X10_advance F S = some o) : si_Mv l E yX10_advance cX10_advance 2 rm_X10_advance [.ref (E.2.1 87)] S o := by
  refine si_ofWv (plainFor_of_name (by decide +kernel)) (Nat.le_of_ble_eq_true rfl) ?_
  intro p e s m args below meth c ls Q A X hw hA hl hret
  have hl : lv_has ls 2 [(0, .ref (E.2.1 87))] := hl
  have B292 : ∀ (S : si_St) (H : Heap) (locs : List Loc) (ls : Array Slot) , f_X10_advance_h292 F S = some o → si_Ws E A s.heap S H locs → lv_has ls 2 [] → W p l e rm_X10_advance s m args below meth c H locs 0 0 Q (F0 m 292 ls []) := by
    intro   S H locs ls  hf hw hl
    unfold f_X10_advance_h292 at hf
    exact hret _ _ _ _ _ hf hw dX10_advance_292
  have B289 : ∀ (t0 : Int32) (S : si_St) (H : Heap) (locs : List Loc) (ls : Array Slot) , f_X10_advance_h289 F t0 S = some o → si_Ws E A s.heap S H locs → lv_has ls 2 [] → W p l e rm_X10_advance s m args below meth c H locs 0 0 Q (F0 m 289 ls [.int t0, .ref (E.2.1 87)]) := by
    intro t0  S H locs ls  hf hw hl
    unfold f_X10_advance_h289 at hf
    obtain ⟨S1, eS1, hf⟩ := si_ob hf
    refine si_ptI X hw si_cl10 19 (by decide) gf_RX10_117 rfl rfl rfl rfl rfl eS1 dX10_advance_289 (fun H locs hw => ?_)
    exact B292 _ _ _ _ hf hw (lv_sub hl [] rfl)
  have B261 : ∀ (t0 : Int32) (S : si_St) (H : Heap) (locs : List Loc) (ls : Array Slot) , f_X10_advance_h261 F t0 S = some o → si_Ws E A s.heap S H locs → lv_has ls 2 [] → W p l e rm_X10_advance s m args below meth c H locs 0 0 Q (F0 m 261 ls [.int t0, .ref (E.2.1 87)]) := by
    intro t0  S H locs ls  hf hw hl
    unfold f_X10_advance_h261 at hf
    obtain ⟨S2, eS2, hf⟩ := si_ob hf
    refine si_ptI X hw si_cl10 19 (by decide) gf_RX10_117 rfl rfl rfl rfl rfl eS2 dX10_advance_261 (fun H locs hw => ?_)
    refine lv_goto (tgt := 292) X.1 X.2.1 dX10_advance_264 (by decide) ?_
    exact B292 _ _ _ _ hf hw (lv_sub hl [] rfl)
  have B163 : ∀ (n163 : Nat) (S : si_St) (H : Heap) (locs : List Loc) (ls : Array Slot) , f_X10_advance_l163 F n163 S = some o → si_Ws E A s.heap S H locs → lv_has ls 2 [(0, .ref (E.2.1 87))] → W p l e rm_X10_advance s m args below meth c H locs 0 0 Q (F0 m 163 ls []) := by
    intro n163
    induction n163 with
    | zero => intro   S H locs ls  hf; cases hf
    | succ n163 ih163 =>
      have B225 : ∀ (t0 : Int32) (S : si_St) (H : Heap) (locs : List Loc) (ls : Array Slot) , f_X10_advance_h225 F (f_X10_advance_l163 F n163) t0 S = some o → si_Ws E A s.heap S H locs → lv_has ls 2 [(0, .ref (E.2.1 87))] → W p l e rm_X10_advance s m args below meth c H locs 0 0 Q (F0 m 225 ls [.int t0, .ref (E.2.1 87)]) := by
        intro t0  S H locs ls  hf hw hl
        unfold f_X10_advance_h225 at hf
        obtain ⟨S3, eS3, hf⟩ := si_ob hf
        refine si_ptI X hw si_cl10 20 (by decide) gf_RX10_114 rfl rfl rfl rfl rfl eS3 dX10_advance_225 (fun H locs hw => ?_)
        refine lv_aload_n X.1 X.2.1 dX10_advance_228 rfl (lv_at hl 0 rfl) ?_
        refine lv_dup X.1 X.2.1 dX10_advance_229 rfl ?_
        refine si_getI X hw si_cl10 18 (by decide) gf_RX10_104 rfl rfl rfl dX10_advance_230 ?_
        refine lv_iconst (v := 1) X.1 X.2.1 dX10_advance_233 (by decide) ?_
        refine lv_iadd X.1 X.2.1 dX10_advance_234 ?_
        obtain ⟨S4, eS4, hf⟩ := si_ob hf
        refine si_ptI X hw si_cl10 18 (by decide) gf_RX10_104 rfl rfl rfl rfl rfl eS4 dX10_advance_235 (fun H locs hw => ?_)
        refine lv_goto (tgt := 163) X.1 X.2.1 dX10_advance_238 (by decide) ?_
        exact ih163 _ _ _ _ hf hw (lv_sub hl [0] rfl)
      intro   S H locs ls  hf hw hl
      have hf : f_X10_advance_h163 F (f_X10_advance_l163 F n163) S = some o := hf
      unfold f_X10_advance_h163 at hf
      refine lv_aload_n X.1 X.2.1 dX10_advance_163 rfl (lv_at hl 0 rfl) ?_
      refine lv_aload_n X.1 X.2.1 dX10_advance_164 rfl (lv_at hl 0 rfl) ?_
      refine si_getI X hw si_cl10 18 (by decide) gf_RX10_104 rfl rfl rfl dX10_advance_165 ?_
      obtain ⟨q5, eq5, hf⟩ := si_ob hf
      refine si_cVi [.int (S.1 87 18)] cal_X10_byteAt gm_RX10_107 X hw hA hl.1 (c_X10_byteAt l E F (S.1 87 18) S q5 eq5) si_cl10 rfl ⟨⟨rfl, rfl⟩, Nat.le_of_ble_eq_true rfl, Nat.le_of_ble_eq_true rfl⟩ rfl rfl (Nat.le_of_ble_eq_true rfl) ⟨Nat.zero_le _, Nat.zero_le _⟩ dX10_advance_168 (fun H locs hw => ?_)
      refine lv_i2l (v := (Int32.toInt64 q5.1)) X.1 X.2.1 dX10_advance_171 rfl ?_
      refine lv_ldc2 (v := (48 : Int64)) X.1 X.2.1 X.2.2.2.1 (si_wd X gk_RX10_128) dX10_advance_172 ?_
      refine lv_ldc2 (v := (57 : Int64)) X.1 X.2.1 X.2.2.2.1 (si_wd X gk_RX10_130) dX10_advance_175 ?_
      obtain ⟨q6, eq6, hf⟩ := si_ob hf
      refine si_cSi [.long (Int32.toInt64 q5.1), .long (48 : Int64), .long (57 : Int64)] cal_X10_within gm_RX10_124 X hw hA hl.1 (c_X10_within l E F (Int32.toInt64 q5.1) (48 : Int64) (57 : Int64) q5.2 q6 eq6) ⟨⟨rfl, rfl⟩, Nat.le_of_ble_eq_true rfl, Nat.le_of_ble_eq_true rfl⟩ rfl rfl (Nat.le_of_ble_eq_true rfl) ⟨Nat.zero_le _, Nat.zero_le _⟩ dX10_advance_178 (fun H locs hw => ?_)
      refine lv_if_eq (tgt := 241) X.1 X.2.1 dX10_advance_181 (by decide) (fun c181 => ?_) (fun c181 => ?_)
      · have hf := si_ip c181 hf
        refine lv_aload_n X.1 X.2.1 dX10_advance_241 rfl (lv_at hl 0 rfl) ?_
        refine lv_aload_n X.1 X.2.1 dX10_advance_242 rfl (lv_at hl 0 rfl) ?_
        refine si_getI X hw si_cl10 18 (by decide) gf_RX10_104 rfl rfl rfl dX10_advance_243 ?_
        refine lv_aload_n X.1 X.2.1 dX10_advance_246 rfl (lv_at hl 0 rfl) ?_
        refine si_getI X hw si_cl10 17 (by decide) gf_RX10_111 rfl rfl rfl dX10_advance_247 ?_
        refine lv_isub X.1 X.2.1 dX10_advance_250 ?_
        refine lv_bipush (v := 6) X.1 X.2.1 dX10_advance_251 (by decide) ?_
        refine lv_icmp_le (tgt := 260) X.1 X.2.1 dX10_advance_253 (by decide) (fun c253 => ?_) (fun c253 => ?_)
        · have hf := si_ip c253 hf
          refine lv_iconst (v := 2) X.1 X.2.1 dX10_advance_260 (by decide) ?_
          exact B261 _ _ _ _ _ hf hw (lv_sub hl [] rfl)
        · have hf := si_in c253 hf
          refine lv_iconst (v := 4) X.1 X.2.1 dX10_advance_256 (by decide) ?_
          refine lv_goto (tgt := 261) X.1 X.2.1 dX10_advance_257 (by decide) ?_
          exact B261 _ _ _ _ _ hf hw (lv_sub hl [] rfl)
      · have hf := si_in c181 hf
        refine lv_aload_n X.1 X.2.1 dX10_advance_184 rfl (lv_at hl 0 rfl) ?_
        refine lv_aload_n X.1 X.2.1 dX10_advance_185 rfl (lv_at hl 0 rfl) ?_
        refine si_getI X hw si_cl10 18 (by decide) gf_RX10_104 rfl rfl rfl dX10_advance_186 ?_
        refine lv_aload_n X.1 X.2.1 dX10_advance_189 rfl (lv_at hl 0 rfl) ?_
        refine si_getI X hw si_cl10 17 (by decide) gf_RX10_111 rfl rfl rfl dX10_advance_190 ?_
        refine lv_isub X.1 X.2.1 dX10_advance_193 ?_
        refine lv_bipush (v := 6) X.1 X.2.1 dX10_advance_194 (by decide) ?_
        refine lv_icmp_ge (tgt := 221) X.1 X.2.1 dX10_advance_196 (by decide) (fun c196 => ?_) (fun c196 => ?_)
        · have hf := si_ip c196 hf
          refine lv_aload_n X.1 X.2.1 dX10_advance_221 rfl (lv_at hl 0 rfl) ?_
          refine si_getI X hw si_cl10 20 (by decide) gf_RX10_114 rfl rfl rfl dX10_advance_222 ?_
          exact B225 _ _ _ _ _ hf hw (lv_sub hl [0] rfl)
        · have hf := si_in c196 hf
          refine lv_bipush (v := 10) X.1 X.2.1 dX10_advance_199 (by decide) ?_
          refine lv_aload_n X.1 X.2.1 dX10_advance_201 rfl (lv_at hl 0 rfl) ?_
          refine si_getI X hw si_cl10 20 (by decide) gf_RX10_114 rfl rfl rfl dX10_advance_202 ?_
          refine lv_imul X.1 X.2.1 dX10_advance_205 ?_
          refine lv_aload_n X.1 X.2.1 dX10_advance_206 rfl (lv_at hl 0 rfl) ?_
          refine lv_aload_n X.1 X.2.1 dX10_advance_207 rfl (lv_at hl 0 rfl) ?_
          refine si_getI X hw si_cl10 18 (by decide) gf_RX10_104 rfl rfl rfl dX10_advance_208 ?_
          obtain ⟨q7, eq7, hf⟩ := si_ob hf
          refine si_cVi [.int (q6.2.1 87 18)] cal_X10_byteAt gm_RX10_107 X hw hA hl.1 (c_X10_byteAt l E F (q6.2.1 87 18) q6.2 q7 eq7) si_cl10 rfl ⟨⟨rfl, rfl⟩, Nat.le_of_ble_eq_true rfl, Nat.le_of_ble_eq_true rfl⟩ rfl rfl (Nat.le_of_ble_eq_true rfl) ⟨Nat.zero_le _, Nat.zero_le _⟩ dX10_advance_211 (fun H locs hw => ?_)
          refine lv_iadd X.1 X.2.1 dX10_advance_214 ?_
          refine lv_bipush (v := 48) X.1 X.2.1 dX10_advance_215 (by decide) ?_
          refine lv_isub X.1 X.2.1 dX10_advance_217 ?_
          refine lv_goto (tgt := 225) X.1 X.2.1 dX10_advance_218 (by decide) ?_
          exact B225 _ _ _ _ _ hf hw (lv_sub hl [0] rfl)
  have B143 : ∀ (t0 : Int32) (S : si_St) (H : Heap) (locs : List Loc) (ls : Array Slot) , f_X10_advance_h143 F t0 S = some o → si_Ws E A s.heap S H locs → lv_has ls 2 [] → W p l e rm_X10_advance s m args below meth c H locs 0 0 Q (F0 m 143 ls [.int t0, .ref (E.2.1 87)]) := by
    intro t0  S H locs ls  hf hw hl
    unfold f_X10_advance_h143 at hf
    obtain ⟨S8, eS8, hf⟩ := si_ob hf
    refine si_ptI X hw si_cl10 19 (by decide) gf_RX10_117 rfl rfl rfl rfl rfl eS8 dX10_advance_143 (fun H locs hw => ?_)
    refine lv_goto (tgt := 292) X.1 X.2.1 dX10_advance_146 (by decide) ?_
    exact B292 _ _ _ _ hf hw (lv_sub hl [] rfl)
  have B89 : ∀ (n89 : Nat) (S : si_St) (H : Heap) (locs : List Loc) (ls : Array Slot) , f_X10_advance_l89 F n89 S = some o → si_Ws E A s.heap S H locs → lv_has ls 2 [(0, .ref (E.2.1 87))] → W p l e rm_X10_advance s m args below meth c H locs 0 0 Q (F0 m 89 ls []) := by
    intro n89
    induction n89 with
    | zero => intro   S H locs ls  hf; cases hf
    | succ n89 ih89 =>
      intro   S H locs ls  hf hw hl
      have hf : f_X10_advance_h89 F (f_X10_advance_l89 F n89) S = some o := hf
      unfold f_X10_advance_h89 at hf
      refine lv_aload_n X.1 X.2.1 dX10_advance_89 rfl (lv_at hl 0 rfl) ?_
      refine lv_aload_n X.1 X.2.1 dX10_advance_90 rfl (lv_at hl 0 rfl) ?_
      refine si_getI X hw si_cl10 18 (by decide) gf_RX10_104 rfl rfl rfl dX10_advance_91 ?_
      obtain ⟨q9, eq9, hf⟩ := si_ob hf
      refine si_cVi [.int (S.1 87 18)] cal_X10_byteAt gm_RX10_107 X hw hA hl.1 (c_X10_byteAt l E F (S.1 87 18) S q9 eq9) si_cl10 rfl ⟨⟨rfl, rfl⟩, Nat.le_of_ble_eq_true rfl, Nat.le_of_ble_eq_true rfl⟩ rfl rfl (Nat.le_of_ble_eq_true rfl) ⟨Nat.zero_le _, Nat.zero_le _⟩ dX10_advance_94 (fun H locs hw => ?_)
      refine lv_i2l (v := (Int32.toInt64 q9.1)) X.1 X.2.1 dX10_advance_97 rfl ?_
      refine lv_ldc2 (v := (97 : Int64)) X.1 X.2.1 X.2.2.2.1 (si_wd X gk_RX10_120) dX10_advance_98 ?_
      refine lv_ldc2 (v := (122 : Int64)) X.1 X.2.1 X.2.2.2.1 (si_wd X gk_RX10_122) dX10_advance_101 ?_
      obtain ⟨q10, eq10, hf⟩ := si_ob hf
      refine si_cSi [.long (Int32.toInt64 q9.1), .long (97 : Int64), .long (122 : Int64)] cal_X10_within gm_RX10_124 X hw hA hl.1 (c_X10_within l E F (Int32.toInt64 q9.1) (97 : Int64) (122 : Int64) q9.2 q10 eq10) ⟨⟨rfl, rfl⟩, Nat.le_of_ble_eq_true rfl, Nat.le_of_ble_eq_true rfl⟩ rfl rfl (Nat.le_of_ble_eq_true rfl) ⟨Nat.zero_le _, Nat.zero_le _⟩ dX10_advance_104 (fun H locs hw => ?_)
      refine lv_if_eq (tgt := 123) X.1 X.2.1 dX10_advance_107 (by decide) (fun c107 => ?_) (fun c107 => ?_)
      · have hf := si_ip c107 hf
        refine lv_aload_n X.1 X.2.1 dX10_advance_123 rfl (lv_at hl 0 rfl) ?_
        refine lv_aload_n X.1 X.2.1 dX10_advance_124 rfl (lv_at hl 0 rfl) ?_
        refine si_getI X hw si_cl10 18 (by decide) gf_RX10_104 rfl rfl rfl dX10_advance_125 ?_
        refine lv_aload_n X.1 X.2.1 dX10_advance_128 rfl (lv_at hl 0 rfl) ?_
        refine si_getI X hw si_cl10 17 (by decide) gf_RX10_111 rfl rfl rfl dX10_advance_129 ?_
        refine lv_isub X.1 X.2.1 dX10_advance_132 ?_
        refine lv_bipush (v := 8) X.1 X.2.1 dX10_advance_133 (by decide) ?_
        refine lv_icmp_le (tgt := 142) X.1 X.2.1 dX10_advance_135 (by decide) (fun c135 => ?_) (fun c135 => ?_)
        · have hf := si_ip c135 hf
          refine lv_iconst (v := 1) X.1 X.2.1 dX10_advance_142 (by decide) ?_
          exact B143 _ _ _ _ _ hf hw (lv_sub hl [] rfl)
        · have hf := si_in c135 hf
          refine lv_iconst (v := 4) X.1 X.2.1 dX10_advance_138 (by decide) ?_
          refine lv_goto (tgt := 143) X.1 X.2.1 dX10_advance_139 (by decide) ?_
          exact B143 _ _ _ _ _ hf hw (lv_sub hl [] rfl)
      · have hf := si_in c107 hf
        refine lv_aload_n X.1 X.2.1 dX10_advance_110 rfl (lv_at hl 0 rfl) ?_
        refine lv_dup X.1 X.2.1 dX10_advance_111 rfl ?_
        refine si_getI X hw si_cl10 18 (by decide) gf_RX10_104 rfl rfl rfl dX10_advance_112 ?_
        refine lv_iconst (v := 1) X.1 X.2.1 dX10_advance_115 (by decide) ?_
        refine lv_iadd X.1 X.2.1 dX10_advance_116 ?_
        obtain ⟨S11, eS11, hf⟩ := si_ob hf
        refine si_ptI X hw si_cl10 18 (by decide) gf_RX10_104 rfl rfl rfl rfl rfl eS11 dX10_advance_117 (fun H locs hw => ?_)
        refine lv_goto (tgt := 89) X.1 X.2.1 dX10_advance_120 (by decide) ?_
        exact ih89 _ _ _ _ hf hw (lv_sub hl [0] rfl)
  have B0 : ∀ (n0 : Nat) (S : si_St) (H : Heap) (locs : List Loc) (ls : Array Slot) , f_X10_advance_l0 F n0 S = some o → si_Ws E A s.heap S H locs → lv_has ls 2 [(0, .ref (E.2.1 87))] → W p l e rm_X10_advance s m args below meth c H locs 0 0 Q (F0 m 0 ls []) := by
    intro n0
    induction n0 with
    | zero => intro   S H locs ls  hf; cases hf
    | succ n0 ih0 =>
      have B26 : ∀ (S : si_St) (H : Heap) (locs : List Loc) (ls : Array Slot) , f_X10_advance_h26 F (f_X10_advance_l0 F n0) S = some o → si_Ws E A s.heap S H locs → lv_has ls 2 [(0, .ref (E.2.1 87))] → W p l e rm_X10_advance s m args below meth c H locs 0 0 Q (F0 m 26 ls []) := by
        intro   S H locs ls  hf hw hl
        unfold f_X10_advance_h26 at hf
        refine lv_aload_n X.1 X.2.1 dX10_advance_26 rfl (lv_at hl 0 rfl) ?_
        refine lv_dup X.1 X.2.1 dX10_advance_27 rfl ?_
        refine si_getI X hw si_cl10 18 (by decide) gf_RX10_104 rfl rfl rfl dX10_advance_28 ?_
        refine lv_iconst (v := 1) X.1 X.2.1 dX10_advance_31 (by decide) ?_
        refine lv_iadd X.1 X.2.1 dX10_advance_32 ?_
        obtain ⟨S12, eS12, hf⟩ := si_ob hf
        refine si_ptI X hw si_cl10 18 (by decide) gf_RX10_104 rfl rfl rfl rfl rfl eS12 dX10_advance_33 (fun H locs hw => ?_)
        refine lv_goto (tgt := 0) X.1 X.2.1 dX10_advance_36 (by decide) ?_
        exact ih0 _ _ _ _ hf hw (lv_sub hl [0] rfl)
      intro   S H locs ls  hf hw hl
      have hf : f_X10_advance_h0 F (f_X10_advance_l0 F n0) S = some o := hf
      unfold f_X10_advance_h0 at hf
      refine lv_aload_n X.1 X.2.1 dX10_advance_0 rfl (lv_at hl 0 rfl) ?_
      refine lv_aload_n X.1 X.2.1 dX10_advance_1 rfl (lv_at hl 0 rfl) ?_
      refine si_getI X hw si_cl10 18 (by decide) gf_RX10_104 rfl rfl rfl dX10_advance_2 ?_
      obtain ⟨q13, eq13, hf⟩ := si_ob hf
      refine si_cVi [.int (S.1 87 18)] cal_X10_byteAt gm_RX10_107 X hw hA hl.1 (c_X10_byteAt l E F (S.1 87 18) S q13 eq13) si_cl10 rfl ⟨⟨rfl, rfl⟩, Nat.le_of_ble_eq_true rfl, Nat.le_of_ble_eq_true rfl⟩ rfl rfl (Nat.le_of_ble_eq_true rfl) ⟨Nat.zero_le _, Nat.zero_le _⟩ dX10_advance_5 (fun H locs hw => ?_)
      refine lv_bipush (v := 32) X.1 X.2.1 dX10_advance_8 (by decide) ?_
      refine lv_icmp_eq (tgt := 26) X.1 X.2.1 dX10_advance_10 (by decide) (fun c10 => ?_) (fun c10 => ?_)
      · have hf := si_ip c10 hf
        exact B26 _ _ _ _ hf hw (lv_sub hl [0] rfl)
      · have hf := si_in c10 hf
        refine lv_aload_n X.1 X.2.1 dX10_advance_13 rfl (lv_at hl 0 rfl) ?_
        refine lv_aload_n X.1 X.2.1 dX10_advance_14 rfl (lv_at hl 0 rfl) ?_
        refine si_getI X hw si_cl10 18 (by decide) gf_RX10_104 rfl rfl rfl dX10_advance_15 ?_
        obtain ⟨q14, eq14, hf⟩ := si_ob hf
        refine si_cVi [.int (q13.2.1 87 18)] cal_X10_byteAt gm_RX10_107 X hw hA hl.1 (c_X10_byteAt l E F (q13.2.1 87 18) q13.2 q14 eq14) si_cl10 rfl ⟨⟨rfl, rfl⟩, Nat.le_of_ble_eq_true rfl, Nat.le_of_ble_eq_true rfl⟩ rfl rfl (Nat.le_of_ble_eq_true rfl) ⟨Nat.zero_le _, Nat.zero_le _⟩ dX10_advance_18 (fun H locs hw => ?_)
        refine lv_bipush (v := 10) X.1 X.2.1 dX10_advance_21 (by decide) ?_
        refine lv_icmp_ne (tgt := 39) X.1 X.2.1 dX10_advance_23 (by decide) (fun c23 => ?_) (fun c23 => ?_)
        · have hf := si_in c23 hf
          refine lv_aload_n X.1 X.2.1 dX10_advance_39 rfl (lv_at hl 0 rfl) ?_
          refine lv_aload_n X.1 X.2.1 dX10_advance_40 rfl (lv_at hl 0 rfl) ?_
          refine si_getI X hw si_cl10 18 (by decide) gf_RX10_104 rfl rfl rfl dX10_advance_41 ?_
          obtain ⟨S15, eS15, hf⟩ := si_ob hf
          refine si_ptI X hw si_cl10 17 (by decide) gf_RX10_111 rfl rfl rfl rfl rfl eS15 dX10_advance_44 (fun H locs hw => ?_)
          refine lv_aload_n X.1 X.2.1 dX10_advance_47 rfl (lv_at hl 0 rfl) ?_
          refine lv_iconst (v := 0) X.1 X.2.1 dX10_advance_48 (by decide) ?_
          obtain ⟨S16, eS16, hf⟩ := si_ob hf
          refine si_ptI X hw si_cl10 20 (by decide) gf_RX10_114 rfl rfl rfl rfl rfl eS16 dX10_advance_49 (fun H locs hw => ?_)
          refine lv_aload_n X.1 X.2.1 dX10_advance_52 rfl (lv_at hl 0 rfl) ?_
          refine lv_aload_n X.1 X.2.1 dX10_advance_53 rfl (lv_at hl 0 rfl) ?_
          refine si_getI X hw si_cl10 18 (by decide) gf_RX10_104 rfl rfl rfl dX10_advance_54 ?_
          obtain ⟨q17, eq17, hf⟩ := si_ob hf
          refine si_cVi [.int (S16.1 87 18)] cal_X10_byteAt gm_RX10_107 X hw hA hl.1 (c_X10_byteAt l E F (S16.1 87 18) S16 q17 eq17) si_cl10 rfl ⟨⟨rfl, rfl⟩, Nat.le_of_ble_eq_true rfl, Nat.le_of_ble_eq_true rfl⟩ rfl rfl (Nat.le_of_ble_eq_true rfl) ⟨Nat.zero_le _, Nat.zero_le _⟩ dX10_advance_57 (fun H locs hw => ?_)
          refine lv_istore_n (lv' := [(1, .int q17.1), (0, .ref (E.2.1 87))]) X.1 X.2.1 dX10_advance_60 rfl hl (by decide) rfl (fun ls hl => ?_)
          refine lv_iload_n X.1 X.2.1 dX10_advance_61 rfl (lv_at hl 0 rfl) ?_
          refine lv_bipush (v := (-2)) X.1 X.2.1 dX10_advance_62 (by decide) ?_
          refine lv_icmp_ne (tgt := 75) X.1 X.2.1 dX10_advance_64 (by decide) (fun c64 => ?_) (fun c64 => ?_)
          · have hf := si_in c64 hf
            refine lv_iload_n X.1 X.2.1 dX10_advance_75 rfl (lv_at hl 0 rfl) ?_
            refine lv_i2l (v := (Int32.toInt64 q17.1)) X.1 X.2.1 dX10_advance_76 rfl ?_
            refine lv_ldc2 (v := (97 : Int64)) X.1 X.2.1 X.2.2.2.1 (si_wd X gk_RX10_120) dX10_advance_77 ?_
            refine lv_ldc2 (v := (122 : Int64)) X.1 X.2.1 X.2.2.2.1 (si_wd X gk_RX10_122) dX10_advance_80 ?_
            obtain ⟨q18, eq18, hf⟩ := si_ob hf
            refine si_cSi [.long (Int32.toInt64 q17.1), .long (97 : Int64), .long (122 : Int64)] cal_X10_within gm_RX10_124 X hw hA hl.1 (c_X10_within l E F (Int32.toInt64 q17.1) (97 : Int64) (122 : Int64) q17.2 q18 eq18) ⟨⟨rfl, rfl⟩, Nat.le_of_ble_eq_true rfl, Nat.le_of_ble_eq_true rfl⟩ rfl rfl (Nat.le_of_ble_eq_true rfl) ⟨Nat.zero_le _, Nat.zero_le _⟩ dX10_advance_83 (fun H locs hw => ?_)
            refine lv_if_eq (tgt := 149) X.1 X.2.1 dX10_advance_86 (by decide) (fun c86 => ?_) (fun c86 => ?_)
            · have hf := si_ip c86 hf
              refine lv_iload_n X.1 X.2.1 dX10_advance_149 rfl (lv_at hl 0 rfl) ?_
              refine lv_i2l (v := (Int32.toInt64 q17.1)) X.1 X.2.1 dX10_advance_150 rfl ?_
              refine lv_ldc2 (v := (48 : Int64)) X.1 X.2.1 X.2.2.2.1 (si_wd X gk_RX10_128) dX10_advance_151 ?_
              refine lv_ldc2 (v := (57 : Int64)) X.1 X.2.1 X.2.2.2.1 (si_wd X gk_RX10_130) dX10_advance_154 ?_
              obtain ⟨q19, eq19, hf⟩ := si_ob hf
              refine si_cSi [.long (Int32.toInt64 q17.1), .long (48 : Int64), .long (57 : Int64)] cal_X10_within gm_RX10_124 X hw hA hl.1 (c_X10_within l E F (Int32.toInt64 q17.1) (48 : Int64) (57 : Int64) q18.2 q19 eq19) ⟨⟨rfl, rfl⟩, Nat.le_of_ble_eq_true rfl, Nat.le_of_ble_eq_true rfl⟩ rfl rfl (Nat.le_of_ble_eq_true rfl) ⟨Nat.zero_le _, Nat.zero_le _⟩ dX10_advance_157 (fun H locs hw => ?_)
              refine lv_if_eq (tgt := 267) X.1 X.2.1 dX10_advance_160 (by decide) (fun c160 => ?_) (fun c160 => ?_)
              · have hf := si_ip c160 hf
                refine lv_aload_n X.1 X.2.1 dX10_advance_267 rfl (lv_at hl 1 rfl) ?_
                refine lv_dup X.1 X.2.1 dX10_advance_268 rfl ?_
                refine si_getI X hw si_cl10 18 (by decide) gf_RX10_104 rfl rfl rfl dX10_advance_269 ?_
                refine lv_iconst (v := 1) X.1 X.2.1 dX10_advance_272 (by decide) ?_
                refine lv_iadd X.1 X.2.1 dX10_advance_273 ?_
                obtain ⟨S20, eS20, hf⟩ := si_ob hf
                refine si_ptI X hw si_cl10 18 (by decide) gf_RX10_104 rfl rfl rfl rfl rfl eS20 dX10_advance_274 (fun H locs hw => ?_)
                refine lv_aload_n X.1 X.2.1 dX10_advance_277 rfl (lv_at hl 1 rfl) ?_
                refine lv_iload_n X.1 X.2.1 dX10_advance_278 rfl (lv_at hl 0 rfl) ?_
                refine lv_bipush (v := 59) X.1 X.2.1 dX10_advance_279 (by decide) ?_
                refine lv_icmp_ne (tgt := 288) X.1 X.2.1 dX10_advance_281 (by decide) (fun c281 => ?_) (fun c281 => ?_)
                · have hf := si_in c281 hf
                  refine lv_iconst (v := 4) X.1 X.2.1 dX10_advance_288 (by decide) ?_
                  exact B289 _ _ _ _ _ hf hw (lv_sub hl [] rfl)
                · have hf := si_ip c281 hf
                  refine lv_iconst (v := 3) X.1 X.2.1 dX10_advance_284 (by decide) ?_
                  refine lv_goto (tgt := 289) X.1 X.2.1 dX10_advance_285 (by decide) ?_
                  exact B289 _ _ _ _ _ hf hw (lv_sub hl [] rfl)
              · have hf := si_in c160 hf
                exact B163 F _ _ _ _ hf hw (lv_sub hl [1] rfl)
            · have hf := si_in c86 hf
              exact B89 F _ _ _ _ hf hw (lv_sub hl [1] rfl)
          · have hf := si_ip c64 hf
            refine lv_aload_n X.1 X.2.1 dX10_advance_67 rfl (lv_at hl 1 rfl) ?_
            refine lv_iconst (v := 0) X.1 X.2.1 dX10_advance_68 (by decide) ?_
            obtain ⟨S21, eS21, hf⟩ := si_ob hf
            refine si_ptI X hw si_cl10 19 (by decide) gf_RX10_117 rfl rfl rfl rfl rfl eS21 dX10_advance_69 (fun H locs hw => ?_)
            refine lv_goto (tgt := 292) X.1 X.2.1 dX10_advance_72 (by decide) ?_
            exact B292 _ _ _ _ hf hw (lv_sub hl [] rfl)
        · have hf := si_ip c23 hf
          exact B26 _ _ _ _ hf hw (lv_sub hl [0] rfl)
  unfold f_X10_advance at hf
  exact B0 F _ _ _ _ hf hw (lv_sub hl [0] rfl)
abbrev rm_X10_isWord : Room := { frames := 4, cells := 0, slots := 0, locals := 85 }
set_option maxHeartbeats 4000000 in
set_option maxRecDepth 100000 in
theorem c_X10_isWord (l : Launch) (E : si_Ev) (F : Nat) (g1 : Nat) (hg1 : g1 < 13) (S : si_St) (o : Int32 × si_St) (hf : f_X10_isWord F g1 S = some o) : si_Mi l E yX10_isWord cX10_isWord 4 (some .boolean) rm_X10_isWord [.ref (E.2.1 87), .ref (E.2.2.2.1 g1)] S o := by
  refine si_ofWz (plainFor_of_name (by decide +kernel)) (Nat.le_of_ble_eq_true rfl) ?_
  intro p e s m args below meth c ls Q A X hw hA hl hret
  have hl : lv_has ls 4 [(0, .ref (E.2.1 87)), (1, .ref (E.2.2.2.1 g1))] := hl
  have B75 : ∀ (x2 : Int32) (S : si_St) (H : Heap) (locs : List Loc) (ls : Array Slot) , f_X10_isWord_h75 F g1 x2 S = some o → si_Ws E A s.heap S H locs → lv_has ls 4 [(2, .int x2)] → W p l e rm_X10_isWord s m args below meth c H locs 0 0 Q (F0 m 75 ls []) := by
    intro x2  S H locs ls  hf hw hl
    unfold f_X10_isWord_h75 at hf
    refine lv_iload_n X.1 X.2.1 dX10_isWord_75 rfl (lv_at hl 0 rfl) ?_
    obtain ⟨v1, ev1, hf⟩ := si_ob hf
    exact hret _ _ _ _ _ _ (si_bzf ev1 hf) (si_nz (si_bz_inv ev1).1) hw dX10_isWord_76
  have B32 : ∀ (n32 : Nat) (x2 : Int32) (x3 : Int32) (S : si_St) (H : Heap) (locs : List Loc) (ls : Array Slot) , f_X10_isWord_l32 F g1 n32 x2 x3 S = some o → si_Ws E A s.heap S H locs → lv_has ls 4 [(0, .ref (E.2.1 87)), (1, .ref (E.2.2.2.1 g1)), (2, .int x2), (3, .int x3)] → W p l e rm_X10_isWord s m args below meth c H locs 0 0 Q (F0 m 32 ls []) := by
    intro n32
    induction n32 with
    | zero => intro x2 x3  S H locs ls  hf; cases hf
    | succ n32 ih32 =>
      have B68 : ∀ (x3 : Int32) (t0 : Int32) (S : si_St) (H : Heap) (locs : List Loc) (ls : Array Slot) , f_X10_isWord_h68 F g1 (f_X10_isWord_l32 F g1 n32) x3 t0 S = some o → si_Ws E A s.heap S H locs → lv_has ls 4 [(0, .ref (E.2.1 87)), (1, .ref (E.2.2.2.1 g1)), (3, .int x3)] → W p l e rm_X10_isWord s m args below meth c H locs 0 0 Q (F0 m 68 ls [.int t0]) := by
        intro x3 t0  S H locs ls  hf hw hl
        unfold f_X10_isWord_h68 at hf
        refine lv_istore_n (lv' := [(2, .int t0), (0, .ref (E.2.1 87)), (1, .ref (E.2.2.2.1 g1)), (3, .int x3)]) X.1 X.2.1 dX10_isWord_68 rfl hl (by decide) rfl (fun ls hl => ?_)
        obtain ⟨v2, ev2, hf⟩ := si_ob hf
        refine lv_iinc (v := v2) (lv' := [(3, .int v2), (2, .int t0), (0, .ref (E.2.1 87)), (1, .ref (E.2.2.2.1 g1))]) X.1 X.2.1 dX10_isWord_69 hl (k := 3) rfl (Option.some.inj ev2) (by decide) rfl (fun ls hl => ?_)
        refine lv_goto (tgt := 32) X.1 X.2.1 dX10_isWord_72 (by decide) ?_
        exact ih32 _ _ _ _ _ _ hf hw (lv_sub hl [2, 3, 1, 0] rfl)
      intro x2 x3  S H locs ls  hf hw hl
      have hf : f_X10_isWord_h32 F g1 (f_X10_isWord_l32 F g1 n32) x2 x3 S = some o := hf
      unfold f_X10_isWord_h32 at hf
      refine lv_iload_n X.1 X.2.1 dX10_isWord_32 rfl (lv_at hl 3 rfl) ?_
      refine lv_aload_n X.1 X.2.1 dX10_isWord_33 rfl (lv_at hl 1 rfl) ?_
      obtain ⟨q3, eq3, hf⟩ := si_ob hf
      refine si_cVS [] cal_J0_length_8abf5 gm_RX10_132 X hw hA hl.1 (c_J0_length_8abf5 l E F g1 hg1 S q3 eq3) hg1 ⟨⟨rfl, rfl⟩, Nat.le_of_ble_eq_true rfl, Nat.le_of_ble_eq_true rfl⟩ rfl rfl (Nat.le_of_ble_eq_true rfl) ⟨Nat.zero_le _, Nat.zero_le _⟩ dX10_isWord_34 (fun H locs hw => ?_)
      refine lv_icmp_ge (tgt := 75) X.1 X.2.1 dX10_isWord_37 (by decide) (fun c37 => ?_) (fun c37 => ?_)
      · have hf := si_ip c37 hf
        exact B75 _ _ _ _ _ hf hw (lv_sub hl [2] rfl)
      · have hf := si_in c37 hf
        refine lv_iload_n X.1 X.2.1 dX10_isWord_40 rfl (lv_at hl 2 rfl) ?_
        refine lv_if_eq (tgt := 75) X.1 X.2.1 dX10_isWord_41 (by decide) (fun c41 => ?_) (fun c41 => ?_)
        · have hf := si_ip c41 hf
          exact B75 _ _ _ _ _ hf hw (lv_sub hl [2] rfl)
        · have hf := si_in c41 hf
          refine lv_aload_n X.1 X.2.1 dX10_isWord_44 rfl (lv_at hl 0 rfl) ?_
          refine si_getR (k' := 97) (d := 10) X hw si_cl10 14 (by decide) gf_RX10_42 rfl rfl rfl (by decide) rfl dX10_isWord_45 ?_
          refine lv_aload_n X.1 X.2.1 dX10_isWord_48 rfl (lv_at hl 0 rfl) ?_
          refine si_getI X hw si_cl10 17 (by decide) gf_RX10_111 rfl rfl rfl dX10_isWord_49 ?_
          refine lv_iload_n X.1 X.2.1 dX10_isWord_52 rfl (lv_at hl 3 rfl) ?_
          refine lv_iadd X.1 X.2.1 dX10_isWord_53 ?_
          obtain ⟨v4, ev4, hf⟩ := si_ob hf
          refine si_bald X hw rfl ev4 dX10_isWord_54 ?_
          refine lv_aload_n X.1 X.2.1 dX10_isWord_55 rfl (lv_at hl 1 rfl) ?_
          refine lv_iload_n X.1 X.2.1 dX10_isWord_56 rfl (lv_at hl 3 rfl) ?_
          obtain ⟨q5, eq5, hf⟩ := si_ob hf
          refine si_cVS [.int x3] cal_J0_charAt_5068e gm_RX10_137 X hw hA hl.1 (c_J0_charAt_5068e l E F g1 hg1 x3 q3.2 q5 eq5) hg1 ⟨⟨rfl, rfl⟩, Nat.le_of_ble_eq_true rfl, Nat.le_of_ble_eq_true rfl⟩ rfl rfl (Nat.le_of_ble_eq_true rfl) ⟨Nat.zero_le _, Nat.zero_le _⟩ dX10_isWord_57 (fun H locs hw => ?_)
          refine lv_icmp_ne (tgt := 67) X.1 X.2.1 dX10_isWord_60 (by decide) (fun c60 => ?_) (fun c60 => ?_)
          · have hf := si_in c60 hf
            refine lv_iconst (v := 0) X.1 X.2.1 dX10_isWord_67 (by decide) ?_
            exact B68 _ _ _ _ _ _ hf hw (lv_sub hl [0, 1, 3] rfl)
          · have hf := si_ip c60 hf
            refine lv_iconst (v := 1) X.1 X.2.1 dX10_isWord_63 (by decide) ?_
            refine lv_goto (tgt := 68) X.1 X.2.1 dX10_isWord_64 (by decide) ?_
            exact B68 _ _ _ _ _ _ hf hw (lv_sub hl [0, 1, 3] rfl)
  have B29 : ∀ (t0 : Int32) (S : si_St) (H : Heap) (locs : List Loc) (ls : Array Slot) , f_X10_isWord_h29 F g1 t0 S = some o → si_Ws E A s.heap S H locs → lv_has ls 4 [(0, .ref (E.2.1 87)), (1, .ref (E.2.2.2.1 g1))] → W p l e rm_X10_isWord s m args below meth c H locs 0 0 Q (F0 m 29 ls [.int t0]) := by
    intro t0  S H locs ls  hf hw hl
    unfold f_X10_isWord_h29 at hf
    refine lv_istore_n (lv' := [(2, .int t0), (0, .ref (E.2.1 87)), (1, .ref (E.2.2.2.1 g1))]) X.1 X.2.1 dX10_isWord_29 rfl hl (by decide) rfl (fun ls hl => ?_)
    refine lv_iconst (v := 0) X.1 X.2.1 dX10_isWord_30 (by decide) ?_
    refine lv_istore_n (lv' := [(3, .int 0), (2, .int t0), (0, .ref (E.2.1 87)), (1, .ref (E.2.2.2.1 g1))]) X.1 X.2.1 dX10_isWord_31 rfl hl (by decide) rfl (fun ls hl => ?_)
    exact B32 F _ _ _ _ _ _ hf hw (lv_sub hl [2, 3, 1, 0] rfl)
  have B28 : ∀ (S : si_St) (H : Heap) (locs : List Loc) (ls : Array Slot) , f_X10_isWord_h28 F g1 S = some o → si_Ws E A s.heap S H locs → lv_has ls 4 [(0, .ref (E.2.1 87)), (1, .ref (E.2.2.2.1 g1))] → W p l e rm_X10_isWord s m args below meth c H locs 0 0 Q (F0 m 28 ls []) := by
    intro   S H locs ls  hf hw hl
    unfold f_X10_isWord_h28 at hf
    refine lv_iconst (v := 0) X.1 X.2.1 dX10_isWord_28 (by decide) ?_
    exact B29 _ _ _ _ _ hf hw (lv_sub hl [0, 1] rfl)
  unfold f_X10_isWord at hf
  refine lv_aload_n X.1 X.2.1 dX10_isWord_0 rfl (lv_at hl 0 rfl) ?_
  refine si_getI X hw si_cl10 19 (by decide) gf_RX10_117 rfl rfl rfl dX10_isWord_1 ?_
  refine lv_iconst (v := 1) X.1 X.2.1 dX10_isWord_4 (by decide) ?_
  refine lv_icmp_ne (tgt := 28) X.1 X.2.1 dX10_isWord_5 (by decide) (fun c5 => ?_) (fun c5 => ?_)
  · have hf := si_in c5 hf
    exact B28 _ _ _ _ hf hw (lv_sub hl [0, 1] rfl)
  · have hf := si_ip c5 hf
    refine lv_aload_n X.1 X.2.1 dX10_isWord_8 rfl (lv_at hl 0 rfl) ?_
    refine si_getI X hw si_cl10 18 (by decide) gf_RX10_104 rfl rfl rfl dX10_isWord_9 ?_
    refine lv_aload_n X.1 X.2.1 dX10_isWord_12 rfl (lv_at hl 0 rfl) ?_
    refine si_getI X hw si_cl10 17 (by decide) gf_RX10_111 rfl rfl rfl dX10_isWord_13 ?_
    refine lv_isub X.1 X.2.1 dX10_isWord_16 ?_
    refine lv_aload_n X.1 X.2.1 dX10_isWord_17 rfl (lv_at hl 1 rfl) ?_
    obtain ⟨q6, eq6, hf⟩ := si_ob hf
    refine si_cVS [] cal_J0_length_8abf5 gm_RX10_132 X hw hA hl.1 (c_J0_length_8abf5 l E F g1 hg1 S q6 eq6) hg1 ⟨⟨rfl, rfl⟩, Nat.le_of_ble_eq_true rfl, Nat.le_of_ble_eq_true rfl⟩ rfl rfl (Nat.le_of_ble_eq_true rfl) ⟨Nat.zero_le _, Nat.zero_le _⟩ dX10_isWord_18 (fun H locs hw => ?_)
    refine lv_icmp_ne (tgt := 28) X.1 X.2.1 dX10_isWord_21 (by decide) (fun c21 => ?_) (fun c21 => ?_)
    · have hf := si_in c21 hf
      exact B28 _ _ _ _ hf hw (lv_sub hl [0, 1] rfl)
    · have hf := si_ip c21 hf
      refine lv_iconst (v := 1) X.1 X.2.1 dX10_isWord_24 (by decide) ?_
      refine lv_goto (tgt := 29) X.1 X.2.1 dX10_isWord_25 (by decide) ?_
      exact B29 _ _ _ _ _ hf hw (lv_sub hl [0, 1] rfl)
abbrev rm_X10_fails : Room := { frames := 0, cells := 0, slots := 0, locals := 0 }
set_option maxHeartbeats 4000000 in
set_option maxRecDepth 100000 in
theorem c_X10_fails (l : Launch) (E : si_Ev) (F : Nat) (x1 : Int32) (S : si_St) (o : Int32 × si_St) (hf : f_X10_fails F x1 S = some o) : si_Mi l E yX10_fails cX10_fails 2 (some .boolean) rm_X10_fails [.ref (E.2.1 87), .int x1] S o := by
  refine si_ofWz (plainFor_of_name (by decide +kernel)) (Nat.le_of_ble_eq_true rfl) ?_
  intro p e s m args below meth c ls Q A X hw hA hl hret
  have hl : lv_has ls 2 [(0, .ref (E.2.1 87)), (1, .int x1)] := hl
  have B20 : ∀ (S : si_St) (H : Heap) (locs : List Loc) (ls : Array Slot) , f_X10_fails_h20 F S = some o → si_Ws E A s.heap S H locs → lv_has ls 2 [] → W p l e rm_X10_fails s m args below meth c H locs 0 0 Q (F0 m 20 ls []) := by
    intro   S H locs ls  hf hw hl
    unfold f_X10_fails_h20 at hf
    refine lv_iconst (v := 0) X.1 X.2.1 dX10_fails_20 (by decide) ?_
    obtain ⟨v1, ev1, hf⟩ := si_ob hf
    exact hret _ _ _ _ _ _ (si_bzf ev1 hf) (si_nz (si_bz_inv ev1).1) hw dX10_fails_21
  unfold f_X10_fails at hf
  refine lv_aload_n X.1 X.2.1 dX10_fails_0 rfl (lv_at hl 0 rfl) ?_
  refine si_getI X hw si_cl10 21 (by decide) gf_RX10_141 rfl rfl rfl dX10_fails_1 ?_
  refine lv_if_ne (tgt := 20) X.1 X.2.1 dX10_fails_4 (by decide) (fun c4 => ?_) (fun c4 => ?_)
  · have hf := si_in c4 hf
    exact B20 _ _ _ _ hf hw (lv_sub hl [] rfl)
  · have hf := si_ip c4 hf
    refine lv_aload_n X.1 X.2.1 dX10_fails_7 rfl (lv_at hl 0 rfl) ?_
    refine lv_iload_n X.1 X.2.1 dX10_fails_8 rfl (lv_at hl 1 rfl) ?_
    obtain ⟨S2, eS2, hf⟩ := si_ob hf
    refine si_ptI X hw si_cl10 21 (by decide) gf_RX10_141 rfl rfl rfl rfl rfl eS2 dX10_fails_9 (fun H locs hw => ?_)
    refine lv_aload_n X.1 X.2.1 dX10_fails_12 rfl (lv_at hl 0 rfl) ?_
    refine lv_aload_n X.1 X.2.1 dX10_fails_13 rfl (lv_at hl 0 rfl) ?_
    refine si_getI X hw si_cl10 17 (by decide) gf_RX10_111 rfl rfl rfl dX10_fails_14 ?_
    obtain ⟨S3, eS3, hf⟩ := si_ob hf
    refine si_ptI X hw si_cl10 22 (by decide) gf_RX10_46 rfl rfl rfl rfl rfl eS3 dX10_fails_17 (fun H locs hw => ?_)
    exact B20 _ _ _ _ hf hw (lv_sub hl [] rfl)
abbrev rm_X10_takes : Room := { frames := 2, cells := 0, slots := 0, locals := 46 }
set_option maxHeartbeats 4000000 in
set_option maxRecDepth 100000 in
theorem c_X10_takes (l : Launch) (E : si_Ev) (F : Nat) (x1 : Int32) (x2 : Int32) (S : si_St) (o : Int32 × si_St) (hf : f_X10_takes F x1 x2 S = some o) : si_Mi l E yX10_takes cX10_takes 3 (some .boolean) rm_X10_takes [.ref (E.2.1 87), .int x1, .int x2] S o := by
  refine si_ofWz (plainFor_of_name (by decide +kernel)) (Nat.le_of_ble_eq_true rfl) ?_
  intro p e s m args below meth c ls Q A X hw hA hl hret
  have hl : lv_has ls 3 [(0, .ref (E.2.1 87)), (1, .int x1), (2, .int x2)] := hl
  unfold f_X10_takes at hf
  refine lv_aload_n X.1 X.2.1 dX10_takes_0 rfl (lv_at hl 0 rfl) ?_
  refine si_getI X hw si_cl10 19 (by decide) gf_RX10_117 rfl rfl rfl dX10_takes_1 ?_
  refine lv_iconst (v := 2) X.1 X.2.1 dX10_takes_4 (by decide) ?_
  refine lv_icmp_eq (tgt := 14) X.1 X.2.1 dX10_takes_5 (by decide) (fun c5 => ?_) (fun c5 => ?_)
  · have hf := si_ip c5 hf
    refine lv_aload_n X.1 X.2.1 dX10_takes_14 rfl (lv_at hl 0 rfl) ?_
    refine si_getI X hw si_cl10 20 (by decide) gf_RX10_114 rfl rfl rfl dX10_takes_15 ?_
    refine lv_i2l (v := (Int32.toInt64 (S.1 87 20))) X.1 X.2.1 dX10_takes_18 rfl ?_
    refine lv_iload_n X.1 X.2.1 dX10_takes_19 rfl (lv_at hl 1 rfl) ?_
    refine lv_i2l (v := (Int32.toInt64 x1)) X.1 X.2.1 dX10_takes_20 rfl ?_
    refine lv_iload_n X.1 X.2.1 dX10_takes_21 rfl (lv_at hl 2 rfl) ?_
    refine lv_i2l (v := (Int32.toInt64 x2)) X.1 X.2.1 dX10_takes_22 rfl ?_
    obtain ⟨q1, eq1, hf⟩ := si_ob hf
    refine si_cSi [.long (Int32.toInt64 (S.1 87 20)), .long (Int32.toInt64 x1), .long (Int32.toInt64 x2)] cal_X10_within gm_RX10_124 X hw hA hl.1 (c_X10_within l E F (Int32.toInt64 (S.1 87 20)) (Int32.toInt64 x1) (Int32.toInt64 x2) S q1 eq1) ⟨⟨rfl, rfl⟩, Nat.le_of_ble_eq_true rfl, Nat.le_of_ble_eq_true rfl⟩ rfl rfl (Nat.le_of_ble_eq_true rfl) ⟨Nat.zero_le _, Nat.zero_le _⟩ dX10_takes_23 (fun H locs hw => ?_)
    refine lv_if_ne (tgt := 35) X.1 X.2.1 dX10_takes_26 (by decide) (fun c26 => ?_) (fun c26 => ?_)
    · have hf := si_in c26 hf
      refine lv_aload_n X.1 X.2.1 dX10_takes_35 rfl (lv_at hl 0 rfl) ?_
      refine lv_aload_n X.1 X.2.1 dX10_takes_36 rfl (lv_at hl 0 rfl) ?_
      refine si_getI X hw si_cl10 20 (by decide) gf_RX10_114 rfl rfl rfl dX10_takes_37 ?_
      obtain ⟨S2, eS2, hf⟩ := si_ob hf
      refine si_ptI X hw si_cl10 23 (by decide) gf_RX10_148 rfl rfl rfl rfl rfl eS2 dX10_takes_40 (fun H locs hw => ?_)
      refine lv_aload_n X.1 X.2.1 dX10_takes_43 rfl (lv_at hl 0 rfl) ?_
      obtain ⟨S3, eS3, hf⟩ := si_ob hf
      refine si_cVv [] cal_X10_advance gm_RX10_151 X hw hA hl.1 (c_X10_advance l E F S2 S3 eS3) si_cl10 rfl ⟨⟨rfl, rfl⟩, Nat.le_of_ble_eq_true rfl, Nat.le_of_ble_eq_true rfl⟩ rfl rfl (Nat.le_of_ble_eq_true rfl) ⟨Nat.zero_le _, Nat.zero_le _⟩ dX10_takes_44 (fun H locs hw => ?_)
      refine lv_iconst (v := 1) X.1 X.2.1 dX10_takes_47 (by decide) ?_
      obtain ⟨v4, ev4, hf⟩ := si_ob hf
      exact hret _ _ _ _ _ _ (si_bzf ev4 hf) (si_nz (si_bz_inv ev4).1) hw dX10_takes_48
    · have hf := si_ip c26 hf
      refine lv_aload_n X.1 X.2.1 dX10_takes_29 rfl (lv_at hl 0 rfl) ?_
      refine lv_iconst (v := 3) X.1 X.2.1 dX10_takes_30 (by decide) ?_
      obtain ⟨q5, eq5, hf⟩ := si_ob hf
      refine si_cVi [.int 3] cal_X10_fails gm_RX10_144 X hw hA hl.1 (c_X10_fails l E F 3 q1.2 q5 eq5) si_cl10 rfl ⟨⟨rfl, rfl⟩, Nat.le_of_ble_eq_true rfl, Nat.le_of_ble_eq_true rfl⟩ rfl rfl (Nat.le_of_ble_eq_true rfl) ⟨Nat.zero_le _, Nat.zero_le _⟩ dX10_takes_31 (fun H locs hw => ?_)
      obtain ⟨v6, ev6, hf⟩ := si_ob hf
      exact hret _ _ _ _ _ _ (si_bzf ev6 hf) (si_nz (si_bz_inv ev6).1) hw dX10_takes_34
  · have hf := si_in c5 hf
    refine lv_aload_n X.1 X.2.1 dX10_takes_8 rfl (lv_at hl 0 rfl) ?_
    refine lv_iconst (v := 1) X.1 X.2.1 dX10_takes_9 (by decide) ?_
    obtain ⟨q7, eq7, hf⟩ := si_ob hf
    refine si_cVi [.int 1] cal_X10_fails gm_RX10_144 X hw hA hl.1 (c_X10_fails l E F 1 S q7 eq7) si_cl10 rfl ⟨⟨rfl, rfl⟩, Nat.le_of_ble_eq_true rfl, Nat.le_of_ble_eq_true rfl⟩ rfl rfl (Nat.le_of_ble_eq_true rfl) ⟨Nat.zero_le _, Nat.zero_le _⟩ dX10_takes_10 (fun H locs hw => ?_)
    obtain ⟨v8, ev8, hf⟩ := si_ob hf
    exact hret _ _ _ _ _ _ (si_bzf ev8 hf) (si_nz (si_bz_inv ev8).1) hw dX10_takes_13
abbrev rm_X10_begins : Room := { frames := 2, cells := 0, slots := 0, locals := 46 }
set_option maxHeartbeats 4000000 in
set_option maxRecDepth 100000 in
theorem c_X10_begins (l : Launch) (E : si_Ev) (F : Nat) (x1 : Int32) (S : si_St) (o : Int32 × si_St) (hf : f_X10_begins F x1 S = some o) : si_Mi l E yX10_begins cX10_begins 2 (some .boolean) rm_X10_begins [.ref (E.2.1 87), .int x1] S o := by
  refine si_ofWz (plainFor_of_name (by decide +kernel)) (Nat.le_of_ble_eq_true rfl) ?_
  intro p e s m args below meth c ls Q A X hw hA hl hret
  have hl : lv_has ls 2 [(0, .ref (E.2.1 87)), (1, .int x1)] := hl
  unfold f_X10_begins at hf
  refine lv_iload_n X.1 X.2.1 dX10_begins_0 rfl (lv_at hl 1 rfl) ?_
  refine lv_if_ne (tgt := 10) X.1 X.2.1 dX10_begins_1 (by decide) (fun c1 => ?_) (fun c1 => ?_)
  · have hf := si_in c1 hf
    refine lv_aload_n X.1 X.2.1 dX10_begins_10 rfl (lv_at hl 0 rfl) ?_
    obtain ⟨S1, eS1, hf⟩ := si_ob hf
    refine si_cVv [] cal_X10_advance gm_RX10_151 X hw hA hl.1 (c_X10_advance l E F S S1 eS1) si_cl10 rfl ⟨⟨rfl, rfl⟩, Nat.le_of_ble_eq_true rfl, Nat.le_of_ble_eq_true rfl⟩ rfl rfl (Nat.le_of_ble_eq_true rfl) ⟨Nat.zero_le _, Nat.zero_le _⟩ dX10_begins_11 (fun H locs hw => ?_)
    refine lv_iconst (v := 1) X.1 X.2.1 dX10_begins_14 (by decide) ?_
    obtain ⟨v2, ev2, hf⟩ := si_ob hf
    exact hret _ _ _ _ _ _ (si_bzf ev2 hf) (si_nz (si_bz_inv ev2).1) hw dX10_begins_15
  · have hf := si_ip c1 hf
    refine lv_aload_n X.1 X.2.1 dX10_begins_4 rfl (lv_at hl 0 rfl) ?_
    refine lv_iconst (v := 4) X.1 X.2.1 dX10_begins_5 (by decide) ?_
    obtain ⟨q3, eq3, hf⟩ := si_ob hf
    refine si_cVi [.int 4] cal_X10_fails gm_RX10_144 X hw hA hl.1 (c_X10_fails l E F 4 S q3 eq3) si_cl10 rfl ⟨⟨rfl, rfl⟩, Nat.le_of_ble_eq_true rfl, Nat.le_of_ble_eq_true rfl⟩ rfl rfl (Nat.le_of_ble_eq_true rfl) ⟨Nat.zero_le _, Nat.zero_le _⟩ dX10_begins_6 (fun H locs hw => ?_)
    obtain ⟨v4, ev4, hf⟩ := si_ob hf
    exact hret _ _ _ _ _ _ (si_bzf ev4 hf) (si_nz (si_bz_inv ev4).1) hw dX10_begins_9
abbrev rm_X10_traderLine : Room := { frames := 3, cells := 0, slots := 0, locals := 67 }
set_option maxHeartbeats 4000000 in
set_option maxRecDepth 100000 in
theorem c_X10_traderLine (l : Launch) (E : si_Ev) (F : Nat) (S : si_St) (o : Int32 × si_St) (hf : f_X10_traderLine F S = some o) : si_Mi l E yX10_traderLine cX10_traderLine 1 (some .boolean) rm_X10_traderLine [.ref (E.2.1 87)] S o := by
  refine si_ofWz (plainFor_of_name (by decide +kernel)) (Nat.le_of_ble_eq_true rfl) ?_
  intro p e s m args below meth c ls Q A X hw hA hl hret
  have hl : lv_has ls 1 [(0, .ref (E.2.1 87))] := hl
  have B15 : ∀ (t0 : Int32) (S : si_St) (H : Heap) (locs : List Loc) (ls : Array Slot) , f_X10_traderLine_h15 F t0 S = some o → si_Ws E A s.heap S H locs → lv_has ls 1 [(0, .ref (E.2.1 87))] → W p l e rm_X10_traderLine s m args below meth c H locs 0 0 Q (F0 m 15 ls [.int t0, .ref (E.2.1 87)]) := by
    intro t0  S H locs ls  hf hw hl
    unfold f_X10_traderLine_h15 at hf
    obtain ⟨q1, eq1, hf⟩ := si_ob hf
    refine si_cVi [.int t0] cal_X10_begins gm_RX10_157 X hw hA hl.1 (c_X10_begins l E F t0 S q1 eq1) si_cl10 rfl ⟨⟨rfl, rfl⟩, Nat.le_of_ble_eq_true rfl, Nat.le_of_ble_eq_true rfl⟩ rfl rfl (Nat.le_of_ble_eq_true rfl) ⟨Nat.zero_le _, Nat.zero_le _⟩ dX10_traderLine_15 (fun H locs hw => ?_)
    refine lv_if_ne (tgt := 23) X.1 X.2.1 dX10_traderLine_18 (by decide) (fun c18 => ?_) (fun c18 => ?_)
    · have hf := si_in c18 hf
      refine lv_aload_n X.1 X.2.1 dX10_traderLine_23 rfl (lv_at hl 0 rfl) ?_
      refine lv_dup X.1 X.2.1 dX10_traderLine_24 rfl ?_
      refine si_getI X hw si_cl10 24 (by decide) gf_RX10_154 rfl rfl rfl dX10_traderLine_25 ?_
      refine lv_iconst (v := 1) X.1 X.2.1 dX10_traderLine_28 (by decide) ?_
      refine lv_iadd X.1 X.2.1 dX10_traderLine_29 ?_
      obtain ⟨S2, eS2, hf⟩ := si_ob hf
      refine si_ptI X hw si_cl10 24 (by decide) gf_RX10_154 rfl rfl rfl rfl rfl eS2 dX10_traderLine_30 (fun H locs hw => ?_)
      refine lv_iconst (v := 1) X.1 X.2.1 dX10_traderLine_33 (by decide) ?_
      obtain ⟨v3, ev3, hf⟩ := si_ob hf
      exact hret _ _ _ _ _ _ (si_bzf ev3 hf) (si_nz (si_bz_inv ev3).1) hw dX10_traderLine_34
    · have hf := si_ip c18 hf
      refine lv_iconst (v := 0) X.1 X.2.1 dX10_traderLine_21 (by decide) ?_
      obtain ⟨v4, ev4, hf⟩ := si_ob hf
      exact hret _ _ _ _ _ _ (si_bzf ev4 hf) (si_nz (si_bz_inv ev4).1) hw dX10_traderLine_22
  unfold f_X10_traderLine at hf
  refine lv_aload_n X.1 X.2.1 dX10_traderLine_0 rfl (lv_at hl 0 rfl) ?_
  refine lv_aload_n X.1 X.2.1 dX10_traderLine_1 rfl (lv_at hl 0 rfl) ?_
  refine si_getI X hw si_cl10 24 (by decide) gf_RX10_154 rfl rfl rfl dX10_traderLine_2 ?_
  refine lv_bipush (v := 8) X.1 X.2.1 dX10_traderLine_5 (by decide) ?_
  refine lv_icmp_ge (tgt := 14) X.1 X.2.1 dX10_traderLine_7 (by decide) (fun c7 => ?_) (fun c7 => ?_)
  · have hf := si_ip c7 hf
    refine lv_iconst (v := 0) X.1 X.2.1 dX10_traderLine_14 (by decide) ?_
    exact B15 _ _ _ _ _ hf hw (lv_sub hl [0] rfl)
  · have hf := si_in c7 hf
    refine lv_iconst (v := 1) X.1 X.2.1 dX10_traderLine_10 (by decide) ?_
    refine lv_goto (tgt := 15) X.1 X.2.1 dX10_traderLine_11 (by decide) ?_
    exact B15 _ _ _ _ _ hf hw (lv_sub hl [0] rfl)
abbrev rm_X10_scaleLine : Room := { frames := 3, cells := 0, slots := 0, locals := 68 }
set_option maxHeartbeats 4000000 in
set_option maxRecDepth 100000 in
theorem c_X10_scaleLine (l : Launch) (E : si_Ev) (F : Nat) (S : si_St) (o : Int32 × si_St) (hf : f_X10_scaleLine F S = some o) : si_Mi l E yX10_scaleLine cX10_scaleLine 2 (some .boolean) rm_X10_scaleLine [.ref (E.2.1 87)] S o := by
  refine si_ofWz (plainFor_of_name (by decide +kernel)) (Nat.le_of_ble_eq_true rfl) ?_
  intro p e s m args below meth c ls Q A X hw hA hl hret
  have hl : lv_has ls 2 [(0, .ref (E.2.1 87))] := hl
  have B37 : ∀ (S : si_St) (H : Heap) (locs : List Loc) (ls : Array Slot) , f_X10_scaleLine_h37 F S = some o → si_Ws E A s.heap S H locs → lv_has ls 2 [] → W p l e rm_X10_scaleLine s m args below meth c H locs 0 0 Q (F0 m 37 ls []) := by
    intro   S H locs ls  hf hw hl
    unfold f_X10_scaleLine_h37 at hf
    refine lv_iconst (v := 0) X.1 X.2.1 dX10_scaleLine_37 (by decide) ?_
    obtain ⟨v1, ev1, hf⟩ := si_ob hf
    exact hret _ _ _ _ _ _ (si_bzf ev1 hf) (si_nz (si_bz_inv ev1).1) hw dX10_scaleLine_38
  have B17 : ∀ (x1 : Int32) (t0 : Int32) (S : si_St) (H : Heap) (locs : List Loc) (ls : Array Slot) , f_X10_scaleLine_h17 F x1 t0 S = some o → si_Ws E A s.heap S H locs → lv_has ls 2 [(0, .ref (E.2.1 87)), (1, .int x1)] → W p l e rm_X10_scaleLine s m args below meth c H locs 0 0 Q (F0 m 17 ls [.int t0, .ref (E.2.1 87)]) := by
    intro x1 t0  S H locs ls  hf hw hl
    unfold f_X10_scaleLine_h17 at hf
    obtain ⟨q2, eq2, hf⟩ := si_ob hf
    refine si_cVi [.int t0] cal_X10_begins gm_RX10_157 X hw hA hl.1 (c_X10_begins l E F t0 S q2 eq2) si_cl10 rfl ⟨⟨rfl, rfl⟩, Nat.le_of_ble_eq_true rfl, Nat.le_of_ble_eq_true rfl⟩ rfl rfl (Nat.le_of_ble_eq_true rfl) ⟨Nat.zero_le _, Nat.zero_le _⟩ dX10_scaleLine_17 (fun H locs hw => ?_)
    refine lv_if_eq (tgt := 37) X.1 X.2.1 dX10_scaleLine_20 (by decide) (fun c20 => ?_) (fun c20 => ?_)
    · have hf := si_ip c20 hf
      exact B37 _ _ _ _ hf hw (lv_sub hl [] rfl)
    · have hf := si_in c20 hf
      refine lv_aload_n X.1 X.2.1 dX10_scaleLine_23 rfl (lv_at hl 0 rfl) ?_
      refine lv_iconst (v := 0) X.1 X.2.1 dX10_scaleLine_24 (by decide) ?_
      refine lv_aload_n X.1 X.2.1 dX10_scaleLine_25 rfl (lv_at hl 0 rfl) ?_
      refine si_getI X hw si_cl10 24 (by decide) gf_RX10_154 rfl rfl rfl dX10_scaleLine_26 ?_
      refine lv_iconst (v := 1) X.1 X.2.1 dX10_scaleLine_29 (by decide) ?_
      refine lv_isub X.1 X.2.1 dX10_scaleLine_30 ?_
      obtain ⟨q3, eq3, hf⟩ := si_ob hf
      refine si_cVi [.int 0, .int ((q2.2.1 87 24) - 1)] cal_X10_takes gm_RX10_164 X hw hA hl.1 (c_X10_takes l E F 0 ((q2.2.1 87 24) - 1) q2.2 q3 eq3) si_cl10 rfl ⟨⟨rfl, rfl⟩, Nat.le_of_ble_eq_true rfl, Nat.le_of_ble_eq_true rfl⟩ rfl rfl (Nat.le_of_ble_eq_true rfl) ⟨Nat.zero_le _, Nat.zero_le _⟩ dX10_scaleLine_31 (fun H locs hw => ?_)
      refine lv_if_ne (tgt := 39) X.1 X.2.1 dX10_scaleLine_34 (by decide) (fun c34 => ?_) (fun c34 => ?_)
      · have hf := si_in c34 hf
        refine lv_aload_n X.1 X.2.1 dX10_scaleLine_39 rfl (lv_at hl 0 rfl) ?_
        refine si_getR (k' := 98) (d := 11) X hw si_cl10 26 (by decide) gf_RX10_49 rfl rfl rfl (by decide) rfl dX10_scaleLine_40 ?_
        refine lv_iload_n X.1 X.2.1 dX10_scaleLine_43 rfl (lv_at hl 1 rfl) ?_
        refine lv_aload_n X.1 X.2.1 dX10_scaleLine_44 rfl (lv_at hl 0 rfl) ?_
        refine si_getI X hw si_cl10 23 (by decide) gf_RX10_148 rfl rfl rfl dX10_scaleLine_45 ?_
        obtain ⟨S4, eS4, hf⟩ := si_ob hf
        refine si_iast X hw rfl eS4 dX10_scaleLine_48 (fun H locs hw => ?_)
        refine lv_aload_n X.1 X.2.1 dX10_scaleLine_49 rfl (lv_at hl 0 rfl) ?_
        refine lv_iconst (v := 0) X.1 X.2.1 dX10_scaleLine_50 (by decide) ?_
        refine lv_iconst (v := 2) X.1 X.2.1 dX10_scaleLine_51 (by decide) ?_
        obtain ⟨q5, eq5, hf⟩ := si_ob hf
        refine si_cVi [.int 0, .int 2] cal_X10_takes gm_RX10_164 X hw hA hl.1 (c_X10_takes l E F 0 2 S4 q5 eq5) si_cl10 rfl ⟨⟨rfl, rfl⟩, Nat.le_of_ble_eq_true rfl, Nat.le_of_ble_eq_true rfl⟩ rfl rfl (Nat.le_of_ble_eq_true rfl) ⟨Nat.zero_le _, Nat.zero_le _⟩ dX10_scaleLine_52 (fun H locs hw => ?_)
        refine lv_if_ne (tgt := 60) X.1 X.2.1 dX10_scaleLine_55 (by decide) (fun c55 => ?_) (fun c55 => ?_)
        · have hf := si_in c55 hf
          refine lv_aload_n X.1 X.2.1 dX10_scaleLine_60 rfl (lv_at hl 0 rfl) ?_
          refine si_getR (k' := 99) (d := 12) X hw si_cl10 27 (by decide) gf_RX10_52 rfl rfl rfl (by decide) rfl dX10_scaleLine_61 ?_
          refine lv_iload_n X.1 X.2.1 dX10_scaleLine_64 rfl (lv_at hl 1 rfl) ?_
          refine lv_aload_n X.1 X.2.1 dX10_scaleLine_65 rfl (lv_at hl 0 rfl) ?_
          refine si_getI X hw si_cl10 23 (by decide) gf_RX10_148 rfl rfl rfl dX10_scaleLine_66 ?_
          obtain ⟨S6, eS6, hf⟩ := si_ob hf
          refine si_iast X hw rfl eS6 dX10_scaleLine_69 (fun H locs hw => ?_)
          refine lv_aload_n X.1 X.2.1 dX10_scaleLine_70 rfl (lv_at hl 0 rfl) ?_
          refine lv_iconst (v := 1) X.1 X.2.1 dX10_scaleLine_71 (by decide) ?_
          refine lv_sipush (v := 1000) X.1 X.2.1 dX10_scaleLine_72 (by decide) ?_
          obtain ⟨q7, eq7, hf⟩ := si_ob hf
          refine si_cVi [.int 1, .int 1000] cal_X10_takes gm_RX10_164 X hw hA hl.1 (c_X10_takes l E F 1 1000 S6 q7 eq7) si_cl10 rfl ⟨⟨rfl, rfl⟩, Nat.le_of_ble_eq_true rfl, Nat.le_of_ble_eq_true rfl⟩ rfl rfl (Nat.le_of_ble_eq_true rfl) ⟨Nat.zero_le _, Nat.zero_le _⟩ dX10_scaleLine_75 (fun H locs hw => ?_)
          refine lv_if_ne (tgt := 83) X.1 X.2.1 dX10_scaleLine_78 (by decide) (fun c78 => ?_) (fun c78 => ?_)
          · have hf := si_in c78 hf
            refine lv_aload_n X.1 X.2.1 dX10_scaleLine_83 rfl (lv_at hl 0 rfl) ?_
            refine si_getR (k' := 100) (d := 13) X hw si_cl10 28 (by decide) gf_RX10_55 rfl rfl rfl (by decide) rfl dX10_scaleLine_84 ?_
            refine lv_iload_n X.1 X.2.1 dX10_scaleLine_87 rfl (lv_at hl 1 rfl) ?_
            refine lv_aload_n X.1 X.2.1 dX10_scaleLine_88 rfl (lv_at hl 0 rfl) ?_
            refine si_getI X hw si_cl10 23 (by decide) gf_RX10_148 rfl rfl rfl dX10_scaleLine_89 ?_
            obtain ⟨S8, eS8, hf⟩ := si_ob hf
            refine si_iast X hw rfl eS8 dX10_scaleLine_92 (fun H locs hw => ?_)
            refine lv_aload_n X.1 X.2.1 dX10_scaleLine_93 rfl (lv_at hl 0 rfl) ?_
            refine lv_bipush (v := 20) X.1 X.2.1 dX10_scaleLine_94 (by decide) ?_
            refine lv_aload_n X.1 X.2.1 dX10_scaleLine_96 rfl (lv_at hl 0 rfl) ?_
            refine si_getR (k' := 100) (d := 13) X hw si_cl10 28 (by decide) gf_RX10_55 rfl rfl rfl (by decide) rfl dX10_scaleLine_97 ?_
            refine lv_iload_n X.1 X.2.1 dX10_scaleLine_100 rfl (lv_at hl 1 rfl) ?_
            obtain ⟨v9, ev9, hf⟩ := si_ob hf
            refine si_iald X hw rfl ev9 dX10_scaleLine_101 ?_
            refine lv_imul X.1 X.2.1 dX10_scaleLine_102 ?_
            refine lv_ldc (v := 999999) X.1 X.2.1 X.2.2.2.1 (si_wd X gk_RX10_168) dX10_scaleLine_103 ?_
            obtain ⟨q10, eq10, hf⟩ := si_ob hf
            refine si_cVi [.int (20 * v9), .int 999999] cal_X10_takes gm_RX10_164 X hw hA hl.1 (c_X10_takes l E F (20 * v9) 999999 S8 q10 eq10) si_cl10 rfl ⟨⟨rfl, rfl⟩, Nat.le_of_ble_eq_true rfl, Nat.le_of_ble_eq_true rfl⟩ rfl rfl (Nat.le_of_ble_eq_true rfl) ⟨Nat.zero_le _, Nat.zero_le _⟩ dX10_scaleLine_105 (fun H locs hw => ?_)
            refine lv_if_ne (tgt := 113) X.1 X.2.1 dX10_scaleLine_108 (by decide) (fun c108 => ?_) (fun c108 => ?_)
            · have hf := si_in c108 hf
              refine lv_aload_n X.1 X.2.1 dX10_scaleLine_113 rfl (lv_at hl 0 rfl) ?_
              refine si_getR (k' := 101) (d := 14) X hw si_cl10 29 (by decide) gf_RX10_58 rfl rfl rfl (by decide) rfl dX10_scaleLine_114 ?_
              refine lv_iload_n X.1 X.2.1 dX10_scaleLine_117 rfl (lv_at hl 1 rfl) ?_
              refine lv_aload_n X.1 X.2.1 dX10_scaleLine_118 rfl (lv_at hl 0 rfl) ?_
              refine si_getI X hw si_cl10 23 (by decide) gf_RX10_148 rfl rfl rfl dX10_scaleLine_119 ?_
              obtain ⟨S11, eS11, hf⟩ := si_ob hf
              refine si_iast X hw rfl eS11 dX10_scaleLine_122 (fun H locs hw => ?_)
              refine lv_aload_n X.1 X.2.1 dX10_scaleLine_123 rfl (lv_at hl 0 rfl) ?_
              refine lv_dup X.1 X.2.1 dX10_scaleLine_124 rfl ?_
              refine si_getI X hw si_cl10 25 (by decide) gf_RX10_161 rfl rfl rfl dX10_scaleLine_125 ?_
              refine lv_iconst (v := 1) X.1 X.2.1 dX10_scaleLine_128 (by decide) ?_
              refine lv_iadd X.1 X.2.1 dX10_scaleLine_129 ?_
              obtain ⟨S12, eS12, hf⟩ := si_ob hf
              refine si_ptI X hw si_cl10 25 (by decide) gf_RX10_161 rfl rfl rfl rfl rfl eS12 dX10_scaleLine_130 (fun H locs hw => ?_)
              refine lv_iconst (v := 1) X.1 X.2.1 dX10_scaleLine_133 (by decide) ?_
              obtain ⟨v13, ev13, hf⟩ := si_ob hf
              exact hret _ _ _ _ _ _ (si_bzf ev13 hf) (si_nz (si_bz_inv ev13).1) hw dX10_scaleLine_134
            · have hf := si_ip c108 hf
              refine lv_iconst (v := 0) X.1 X.2.1 dX10_scaleLine_111 (by decide) ?_
              obtain ⟨v14, ev14, hf⟩ := si_ob hf
              exact hret _ _ _ _ _ _ (si_bzf ev14 hf) (si_nz (si_bz_inv ev14).1) hw dX10_scaleLine_112
          · have hf := si_ip c78 hf
            refine lv_iconst (v := 0) X.1 X.2.1 dX10_scaleLine_81 (by decide) ?_
            obtain ⟨v15, ev15, hf⟩ := si_ob hf
            exact hret _ _ _ _ _ _ (si_bzf ev15 hf) (si_nz (si_bz_inv ev15).1) hw dX10_scaleLine_82
        · have hf := si_ip c55 hf
          refine lv_iconst (v := 0) X.1 X.2.1 dX10_scaleLine_58 (by decide) ?_
          obtain ⟨v16, ev16, hf⟩ := si_ob hf
          exact hret _ _ _ _ _ _ (si_bzf ev16 hf) (si_nz (si_bz_inv ev16).1) hw dX10_scaleLine_59
      · have hf := si_ip c34 hf
        exact B37 _ _ _ _ hf hw (lv_sub hl [] rfl)
  unfold f_X10_scaleLine at hf
  refine lv_aload_n X.1 X.2.1 dX10_scaleLine_0 rfl (lv_at hl 0 rfl) ?_
  refine si_getI X hw si_cl10 25 (by decide) gf_RX10_161 rfl rfl rfl dX10_scaleLine_1 ?_
  obtain ⟨v17, ev17, hf⟩ := si_ob hf
  refine si_nmI ev17 ?_
  refine lv_istore_n (lv' := [(1, .int v17), (0, .ref (E.2.1 87))]) X.1 X.2.1 dX10_scaleLine_4 rfl hl (by decide) rfl (fun ls hl => ?_)
  refine lv_aload_n X.1 X.2.1 dX10_scaleLine_5 rfl (lv_at hl 1 rfl) ?_
  refine lv_iload_n X.1 X.2.1 dX10_scaleLine_6 rfl (lv_at hl 0 rfl) ?_
  refine lv_bipush (v := 24) X.1 X.2.1 dX10_scaleLine_7 (by decide) ?_
  refine lv_icmp_ge (tgt := 16) X.1 X.2.1 dX10_scaleLine_9 (by decide) (fun c9 => ?_) (fun c9 => ?_)
  · have hf := si_ip c9 hf
    refine lv_iconst (v := 0) X.1 X.2.1 dX10_scaleLine_16 (by decide) ?_
    exact B17 _ _ _ _ _ _ hf hw (lv_sub hl [1, 0] rfl)
  · have hf := si_in c9 hf
    refine lv_iconst (v := 1) X.1 X.2.1 dX10_scaleLine_12 (by decide) ?_
    refine lv_goto (tgt := 17) X.1 X.2.1 dX10_scaleLine_13 (by decide) ?_
    exact B17 _ _ _ _ _ _ hf hw (lv_sub hl [1, 0] rfl)
abbrev rm_X10_massLine : Room := { frames := 5, cells := 0, slots := 0, locals := 108 }
set_option maxHeartbeats 4000000 in
set_option maxRecDepth 100000 in
theorem c_X10_massLine (l : Launch) (E : si_Ev) (F : Nat) (S : si_St) (o : Int32 × si_St) (hf : f_X10_massLine F S = some o) : si_Mi l E yX10_massLine cX10_massLine 4 (some .boolean) rm_X10_massLine [.ref (E.2.1 87)] S o := by
  refine si_ofWz (plainFor_of_name (by decide +kernel)) (Nat.le_of_ble_eq_true rfl) ?_
  intro p e s m args below meth c ls Q A X hw hA hl hret
  have hl : lv_has ls 4 [(0, .ref (E.2.1 87))] := hl
  have B33 : ∀ (S : si_St) (H : Heap) (locs : List Loc) (ls : Array Slot) , f_X10_massLine_h33 F S = some o → si_Ws E A s.heap S H locs → lv_has ls 4 [] → W p l e rm_X10_massLine s m args below meth c H locs 0 0 Q (F0 m 33 ls []) := by
    intro   S H locs ls  hf hw hl
    unfold f_X10_massLine_h33 at hf
    refine lv_iconst (v := 0) X.1 X.2.1 dX10_massLine_33 (by decide) ?_
    obtain ⟨v1, ev1, hf⟩ := si_ob hf
    exact hret _ _ _ _ _ _ (si_bzf ev1 hf) (si_nz (si_bz_inv ev1).1) hw dX10_massLine_34
  have B111 : ∀ (x1 : Int32) (x2 : Int32) (S : si_St) (H : Heap) (locs : List Loc) (ls : Array Slot) , f_X10_massLine_h111 F x1 x2 S = some o → si_Ws E A s.heap S H locs → lv_has ls 4 [(0, .ref (E.2.1 87)), (1, .int x1), (2, .int x2)] → W p l e rm_X10_massLine s m args below meth c H locs 0 0 Q (F0 m 111 ls []) := by
    intro x1 x2  S H locs ls  hf hw hl
    unfold f_X10_massLine_h111 at hf
    refine lv_aload_n X.1 X.2.1 dX10_massLine_111 rfl (lv_at hl 0 rfl) ?_
    refine si_getR (k' := 102) (d := 15) X hw si_cl10 31 (by decide) gf_RX10_61 rfl rfl rfl (by decide) rfl dX10_massLine_112 ?_
    refine lv_iload_n X.1 X.2.1 dX10_massLine_115 rfl (lv_at hl 1 rfl) ?_
    refine lv_iload_n X.1 X.2.1 dX10_massLine_116 rfl (lv_at hl 2 rfl) ?_
    obtain ⟨S2, eS2, hf⟩ := si_ob hf
    refine si_iast X hw rfl eS2 dX10_massLine_117 (fun H locs hw => ?_)
    refine lv_aload_n X.1 X.2.1 dX10_massLine_118 rfl (lv_at hl 0 rfl) ?_
    refine lv_dup X.1 X.2.1 dX10_massLine_119 rfl ?_
    refine si_getI X hw si_cl10 30 (by decide) gf_RX10_169 rfl rfl rfl dX10_massLine_120 ?_
    refine lv_iconst (v := 1) X.1 X.2.1 dX10_massLine_123 (by decide) ?_
    refine lv_iadd X.1 X.2.1 dX10_massLine_124 ?_
    obtain ⟨S3, eS3, hf⟩ := si_ob hf
    refine si_ptI X hw si_cl10 30 (by decide) gf_RX10_169 rfl rfl rfl rfl rfl eS3 dX10_massLine_125 (fun H locs hw => ?_)
    refine lv_iconst (v := 1) X.1 X.2.1 dX10_massLine_128 (by decide) ?_
    obtain ⟨v4, ev4, hf⟩ := si_ob hf
    exact hret _ _ _ _ _ _ (si_bzf ev4 hf) (si_nz (si_bz_inv ev4).1) hw dX10_massLine_129
  have B109 : ∀ (x1 : Int32) (t0 : Int32) (t1 : Int32) (S : si_St) (H : Heap) (locs : List Loc) (ls : Array Slot) , f_X10_massLine_h109 F x1 t0 t1 S = some o → si_Ws E A s.heap S H locs → lv_has ls 4 [(0, .ref (E.2.1 87)), (1, .int x1)] → W p l e rm_X10_massLine s m args below meth c H locs 0 0 Q (F0 m 109 ls [.int t0, .int t1]) := by
    intro x1 t0 t1  S H locs ls  hf hw hl
    unfold f_X10_massLine_h109 at hf
    refine lv_iadd X.1 X.2.1 dX10_massLine_109 ?_
    obtain ⟨v5, ev5, hf⟩ := si_ob hf
    refine si_nmI ev5 ?_
    refine lv_istore_n (lv' := [(2, .int v5), (0, .ref (E.2.1 87)), (1, .int x1)]) X.1 X.2.1 dX10_massLine_110 rfl hl (by decide) rfl (fun ls hl => ?_)
    exact B111 _ _ _ _ _ _ hf hw (lv_sub hl [1, 2, 0] rfl)
  have B84 : ∀ (x1 : Int32) (x2 : Int32) (x3 : Int32) (t0 : Int32) (t1 : Int32) (S : si_St) (H : Heap) (locs : List Loc) (ls : Array Slot) , f_X10_massLine_h84 F x1 x2 x3 t0 t1 S = some o → si_Ws E A s.heap S H locs → lv_has ls 4 [(0, .ref (E.2.1 87)), (1, .int x1), (2, .int x2), (3, .int x3)] → W p l e rm_X10_massLine s m args below meth c H locs 0 0 Q (F0 m 84 ls [.int t0, .int t1, .ref (E.2.1 87)]) := by
    intro x1 x2 x3 t0 t1  S H locs ls  hf hw hl
    unfold f_X10_massLine_h84 at hf
    obtain ⟨q6, eq6, hf⟩ := si_ob hf
    refine si_cVi [.int t1, .int t0] cal_X10_takes gm_RX10_164 X hw hA hl.1 (c_X10_takes l E F t1 t0 S q6 eq6) si_cl10 rfl ⟨⟨rfl, rfl⟩, Nat.le_of_ble_eq_true rfl, Nat.le_of_ble_eq_true rfl⟩ rfl rfl (Nat.le_of_ble_eq_true rfl) ⟨Nat.zero_le _, Nat.zero_le _⟩ dX10_massLine_84 (fun H locs hw => ?_)
    refine lv_if_ne (tgt := 92) X.1 X.2.1 dX10_massLine_87 (by decide) (fun c87 => ?_) (fun c87 => ?_)
    · have hf := si_in c87 hf
      refine lv_iload_n X.1 X.2.1 dX10_massLine_92 rfl (lv_at hl 2 rfl) ?_
      refine lv_iload_n X.1 X.2.1 dX10_massLine_93 rfl (lv_at hl 3 rfl) ?_
      refine lv_if_eq (tgt := 104) X.1 X.2.1 dX10_massLine_94 (by decide) (fun c94 => ?_) (fun c94 => ?_)
      · have hf := si_ip c94 hf
        refine lv_aload_n X.1 X.2.1 dX10_massLine_104 rfl (lv_at hl 0 rfl) ?_
        refine si_getI X hw si_cl10 23 (by decide) gf_RX10_148 rfl rfl rfl dX10_massLine_105 ?_
        refine lv_ineg X.1 X.2.1 dX10_massLine_108 ?_
        exact B109 _ _ _ _ _ _ _ hf hw (lv_sub hl [0, 1] rfl)
      · have hf := si_in c94 hf
        refine lv_aload_n X.1 X.2.1 dX10_massLine_97 rfl (lv_at hl 0 rfl) ?_
        refine si_getI X hw si_cl10 23 (by decide) gf_RX10_148 rfl rfl rfl dX10_massLine_98 ?_
        refine lv_goto (tgt := 109) X.1 X.2.1 dX10_massLine_101 (by decide) ?_
        exact B109 _ _ _ _ _ _ _ hf hw (lv_sub hl [0, 1] rfl)
    · have hf := si_ip c87 hf
      refine lv_iconst (v := 0) X.1 X.2.1 dX10_massLine_90 (by decide) ?_
      obtain ⟨v7, ev7, hf⟩ := si_ob hf
      exact hret _ _ _ _ _ _ (si_bzf ev7 hf) (si_nz (si_bz_inv ev7).1) hw dX10_massLine_91
  have B76 : ∀ (x1 : Int32) (x2 : Int32) (x3 : Int32) (t0 : Int32) (S : si_St) (H : Heap) (locs : List Loc) (ls : Array Slot) , f_X10_massLine_h76 F x1 x2 x3 t0 S = some o → si_Ws E A s.heap S H locs → lv_has ls 4 [(0, .ref (E.2.1 87)), (1, .int x1), (2, .int x2), (3, .int x3)] → W p l e rm_X10_massLine s m args below meth c H locs 0 0 Q (F0 m 76 ls [.int t0, .ref (E.2.1 87)]) := by
    intro x1 x2 x3 t0  S H locs ls  hf hw hl
    unfold f_X10_massLine_h76 at hf
    refine lv_bipush (v := 99) X.1 X.2.1 dX10_massLine_76 (by decide) ?_
    refine lv_goto (tgt := 84) X.1 X.2.1 dX10_massLine_78 (by decide) ?_
    exact B84 _ _ _ _ _ _ _ _ _ hf hw (lv_sub hl [0, 1, 2, 3] rfl)
  have B60 : ∀ (x1 : Int32) (x2 : Int32) (x3 : Int32) (S : si_St) (H : Heap) (locs : List Loc) (ls : Array Slot) , f_X10_massLine_h60 F x1 x2 x3 S = some o → si_Ws E A s.heap S H locs → lv_has ls 4 [(0, .ref (E.2.1 87)), (1, .int x1), (2, .int x2), (3, .int x3)] → W p l e rm_X10_massLine s m args below meth c H locs 0 0 Q (F0 m 60 ls []) := by
    intro x1 x2 x3  S H locs ls  hf hw hl
    unfold f_X10_massLine_h60 at hf
    refine lv_aload_n X.1 X.2.1 dX10_massLine_60 rfl (lv_at hl 0 rfl) ?_
    obtain ⟨S8, eS8, hf⟩ := si_ob hf
    refine si_cVv [] cal_X10_advance gm_RX10_151 X hw hA hl.1 (c_X10_advance l E F S S8 eS8) si_cl10 rfl ⟨⟨rfl, rfl⟩, Nat.le_of_ble_eq_true rfl, Nat.le_of_ble_eq_true rfl⟩ rfl rfl (Nat.le_of_ble_eq_true rfl) ⟨Nat.zero_le _, Nat.zero_le _⟩ dX10_massLine_61 (fun H locs hw => ?_)
    refine lv_aload_n X.1 X.2.1 dX10_massLine_64 rfl (lv_at hl 0 rfl) ?_
    refine lv_iconst (v := 0) X.1 X.2.1 dX10_massLine_65 (by decide) ?_
    refine lv_iload_n X.1 X.2.1 dX10_massLine_66 rfl (lv_at hl 3 rfl) ?_
    refine lv_if_ne (tgt := 76) X.1 X.2.1 dX10_massLine_67 (by decide) (fun c67 => ?_) (fun c67 => ?_)
    · have hf := si_in c67 hf
      exact B76 _ _ _ _ _ _ _ _ hf hw (lv_sub hl [0, 1, 2, 3] rfl)
    · have hf := si_ip c67 hf
      refine lv_iload_n X.1 X.2.1 dX10_massLine_70 rfl (lv_at hl 2 rfl) ?_
      refine lv_bipush (v := 99) X.1 X.2.1 dX10_massLine_71 (by decide) ?_
      refine lv_icmp_le (tgt := 81) X.1 X.2.1 dX10_massLine_73 (by decide) (fun c73 => ?_) (fun c73 => ?_)
      · have hf := si_ip c73 hf
        refine lv_iload_n X.1 X.2.1 dX10_massLine_81 rfl (lv_at hl 2 rfl) ?_
        refine lv_iconst (v := 1) X.1 X.2.1 dX10_massLine_82 (by decide) ?_
        refine lv_isub X.1 X.2.1 dX10_massLine_83 ?_
        exact B84 _ _ _ _ _ _ _ _ _ hf hw (lv_sub hl [0, 1, 2, 3] rfl)
      · have hf := si_in c73 hf
        exact B76 _ _ _ _ _ _ _ _ hf hw (lv_sub hl [0, 1, 2, 3] rfl)
  have B17 : ∀ (x1 : Int32) (t0 : Int32) (S : si_St) (H : Heap) (locs : List Loc) (ls : Array Slot) , f_X10_massLine_h17 F x1 t0 S = some o → si_Ws E A s.heap S H locs → lv_has ls 4 [(0, .ref (E.2.1 87)), (1, .int x1)] → W p l e rm_X10_massLine s m args below meth c H locs 0 0 Q (F0 m 17 ls [.int t0, .ref (E.2.1 87)]) := by
    intro x1 t0  S H locs ls  hf hw hl
    unfold f_X10_massLine_h17 at hf
    obtain ⟨q9, eq9, hf⟩ := si_ob hf
    refine si_cVi [.int t0] cal_X10_begins gm_RX10_157 X hw hA hl.1 (c_X10_begins l E F t0 S q9 eq9) si_cl10 rfl ⟨⟨rfl, rfl⟩, Nat.le_of_ble_eq_true rfl, Nat.le_of_ble_eq_true rfl⟩ rfl rfl (Nat.le_of_ble_eq_true rfl) ⟨Nat.zero_le _, Nat.zero_le _⟩ dX10_massLine_17 (fun H locs hw => ?_)
    refine lv_if_eq (tgt := 33) X.1 X.2.1 dX10_massLine_20 (by decide) (fun c20 => ?_) (fun c20 => ?_)
    · have hf := si_ip c20 hf
      exact B33 _ _ _ _ hf hw (lv_sub hl [] rfl)
    · have hf := si_in c20 hf
      refine lv_aload_n X.1 X.2.1 dX10_massLine_23 rfl (lv_at hl 0 rfl) ?_
      refine lv_iconst (v := 1) X.1 X.2.1 dX10_massLine_24 (by decide) ?_
      refine lv_ldc (v := 999999) X.1 X.2.1 X.2.2.2.1 (si_wd X gk_RX10_168) dX10_massLine_25 ?_
      obtain ⟨q10, eq10, hf⟩ := si_ob hf
      refine si_cVi [.int 1, .int 999999] cal_X10_takes gm_RX10_164 X hw hA hl.1 (c_X10_takes l E F 1 999999 q9.2 q10 eq10) si_cl10 rfl ⟨⟨rfl, rfl⟩, Nat.le_of_ble_eq_true rfl, Nat.le_of_ble_eq_true rfl⟩ rfl rfl (Nat.le_of_ble_eq_true rfl) ⟨Nat.zero_le _, Nat.zero_le _⟩ dX10_massLine_27 (fun H locs hw => ?_)
      refine lv_if_ne (tgt := 35) X.1 X.2.1 dX10_massLine_30 (by decide) (fun c30 => ?_) (fun c30 => ?_)
      · have hf := si_in c30 hf
        refine lv_aload_n X.1 X.2.1 dX10_massLine_35 rfl (lv_at hl 0 rfl) ?_
        refine si_getI X hw si_cl10 23 (by decide) gf_RX10_148 rfl rfl rfl dX10_massLine_36 ?_
        obtain ⟨v11, ev11, hf⟩ := si_ob hf
        refine si_nmI ev11 ?_
        refine lv_istore_n (lv' := [(2, .int v11), (0, .ref (E.2.1 87)), (1, .int x1)]) X.1 X.2.1 dX10_massLine_39 rfl hl (by decide) rfl (fun ls hl => ?_)
        refine lv_aload_n X.1 X.2.1 dX10_massLine_40 rfl (lv_at hl 1 rfl) ?_
        refine si_ldcS X (si_sr 13 rfl) rfl dX10_massLine_41 ?_
        obtain ⟨q12, eq12, hf⟩ := si_ob hf
        refine si_cVi [.ref (E.2.2.2.1 5)] cal_X10_isWord gm_RX10_174 X hw hA hl.1 (c_X10_isWord l E F 5 (by decide) q10.2 q12 eq12) si_cl10 rfl ⟨⟨rfl, rfl⟩, Nat.le_of_ble_eq_true rfl, Nat.le_of_ble_eq_true rfl⟩ rfl rfl (Nat.le_of_ble_eq_true rfl) ⟨Nat.zero_le _, Nat.zero_le _⟩ dX10_massLine_43 (fun H locs hw => ?_)
        refine lv_istore_n (lv' := [(3, .int q12.1), (2, .int v11), (0, .ref (E.2.1 87)), (1, .int x1)]) X.1 X.2.1 dX10_massLine_46 rfl hl (by decide) rfl (fun ls hl => ?_)
        refine lv_iload_n X.1 X.2.1 dX10_massLine_47 rfl (lv_at hl 0 rfl) ?_
        refine lv_if_ne (tgt := 60) X.1 X.2.1 dX10_massLine_48 (by decide) (fun c48 => ?_) (fun c48 => ?_)
        · have hf := si_in c48 hf
          exact B60 _ _ _ _ _ _ _ hf hw (lv_sub hl [2, 3, 1, 0] rfl)
        · have hf := si_ip c48 hf
          refine lv_aload_n X.1 X.2.1 dX10_massLine_51 rfl (lv_at hl 2 rfl) ?_
          refine si_ldcS X (si_sr 14 rfl) rfl dX10_massLine_52 ?_
          obtain ⟨q13, eq13, hf⟩ := si_ob hf
          refine si_cVi [.ref (E.2.2.2.1 6)] cal_X10_isWord gm_RX10_174 X hw hA hl.1 (c_X10_isWord l E F 6 (by decide) q12.2 q13 eq13) si_cl10 rfl ⟨⟨rfl, rfl⟩, Nat.le_of_ble_eq_true rfl, Nat.le_of_ble_eq_true rfl⟩ rfl rfl (Nat.le_of_ble_eq_true rfl) ⟨Nat.zero_le _, Nat.zero_le _⟩ dX10_massLine_54 (fun H locs hw => ?_)
          refine lv_if_eq (tgt := 111) X.1 X.2.1 dX10_massLine_57 (by decide) (fun c57 => ?_) (fun c57 => ?_)
          · have hf := si_ip c57 hf
            exact B111 _ _ _ _ _ _ hf hw (lv_sub hl [2, 3, 1] rfl)
          · have hf := si_in c57 hf
            exact B60 _ _ _ _ _ _ _ hf hw (lv_sub hl [2, 3, 1, 0] rfl)
      · have hf := si_ip c30 hf
        exact B33 _ _ _ _ hf hw (lv_sub hl [] rfl)
  unfold f_X10_massLine at hf
  refine lv_aload_n X.1 X.2.1 dX10_massLine_0 rfl (lv_at hl 0 rfl) ?_
  refine si_getI X hw si_cl10 30 (by decide) gf_RX10_169 rfl rfl rfl dX10_massLine_1 ?_
  obtain ⟨v14, ev14, hf⟩ := si_ob hf
  refine si_nmI ev14 ?_
  refine lv_istore_n (lv' := [(1, .int v14), (0, .ref (E.2.1 87))]) X.1 X.2.1 dX10_massLine_4 rfl hl (by decide) rfl (fun ls hl => ?_)
  refine lv_aload_n X.1 X.2.1 dX10_massLine_5 rfl (lv_at hl 1 rfl) ?_
  refine lv_iload_n X.1 X.2.1 dX10_massLine_6 rfl (lv_at hl 0 rfl) ?_
  refine lv_bipush (v := 10) X.1 X.2.1 dX10_massLine_7 (by decide) ?_
  refine lv_icmp_ge (tgt := 16) X.1 X.2.1 dX10_massLine_9 (by decide) (fun c9 => ?_) (fun c9 => ?_)
  · have hf := si_ip c9 hf
    refine lv_iconst (v := 0) X.1 X.2.1 dX10_massLine_16 (by decide) ?_
    exact B17 _ _ _ _ _ _ hf hw (lv_sub hl [1, 0] rfl)
  · have hf := si_in c9 hf
    refine lv_iconst (v := 1) X.1 X.2.1 dX10_massLine_12 (by decide) ?_
    refine lv_goto (tgt := 17) X.1 X.2.1 dX10_massLine_13 (by decide) ?_
    exact B17 _ _ _ _ _ _ hf hw (lv_sub hl [1, 0] rfl)
abbrev rm_X10_setLine : Room := { frames := 5, cells := 0, slots := 0, locals := 108 }
set_option maxHeartbeats 4000000 in
set_option maxRecDepth 100000 in
theorem c_X10_setLine (l : Launch) (E : si_Ev) (F : Nat) (S : si_St) (o : Int32 × si_St) (hf : f_X10_setLine F S = some o) : si_Mi l E yX10_setLine cX10_setLine 2 (some .boolean) rm_X10_setLine [.ref (E.2.1 87)] S o := by
  refine si_ofWz (plainFor_of_name (by decide +kernel)) (Nat.le_of_ble_eq_true rfl) ?_
  intro p e s m args below meth c ls Q A X hw hA hl hret
  have hl : lv_has ls 2 [(0, .ref (E.2.1 87))] := hl
  have B32 : ∀ (S : si_St) (H : Heap) (locs : List Loc) (ls : Array Slot) , f_X10_setLine_h32 F S = some o → si_Ws E A s.heap S H locs → lv_has ls 2 [] → W p l e rm_X10_setLine s m args below meth c H locs 0 0 Q (F0 m 32 ls []) := by
    intro   S H locs ls  hf hw hl
    unfold f_X10_setLine_h32 at hf
    refine lv_iconst (v := 0) X.1 X.2.1 dX10_setLine_32 (by decide) ?_
    obtain ⟨v1, ev1, hf⟩ := si_ob hf
    exact hret _ _ _ _ _ _ (si_bzf ev1 hf) (si_nz (si_bz_inv ev1).1) hw dX10_setLine_33
  have B69 : ∀ (S : si_St) (H : Heap) (locs : List Loc) (ls : Array Slot) , f_X10_setLine_h69 F S = some o → si_Ws E A s.heap S H locs → lv_has ls 2 [(0, .ref (E.2.1 87))] → W p l e rm_X10_setLine s m args below meth c H locs 0 0 Q (F0 m 69 ls []) := by
    intro   S H locs ls  hf hw hl
    unfold f_X10_setLine_h69 at hf
    refine lv_aload_n X.1 X.2.1 dX10_setLine_69 rfl (lv_at hl 0 rfl) ?_
    refine lv_dup X.1 X.2.1 dX10_setLine_70 rfl ?_
    refine si_getI X hw si_cl10 32 (by decide) gf_RX10_180 rfl rfl rfl dX10_setLine_71 ?_
    refine lv_iconst (v := 1) X.1 X.2.1 dX10_setLine_74 (by decide) ?_
    refine lv_iadd X.1 X.2.1 dX10_setLine_75 ?_
    obtain ⟨S2, eS2, hf⟩ := si_ob hf
    refine si_ptI X hw si_cl10 32 (by decide) gf_RX10_180 rfl rfl rfl rfl rfl eS2 dX10_setLine_76 (fun H locs hw => ?_)
    refine lv_iconst (v := 1) X.1 X.2.1 dX10_setLine_79 (by decide) ?_
    obtain ⟨v3, ev3, hf⟩ := si_ob hf
    exact hret _ _ _ _ _ _ (si_bzf ev3 hf) (si_nz (si_bz_inv ev3).1) hw dX10_setLine_80
  have B16 : ∀ (x1 : Int32) (t0 : Int32) (S : si_St) (H : Heap) (locs : List Loc) (ls : Array Slot) , f_X10_setLine_h16 F x1 t0 S = some o → si_Ws E A s.heap S H locs → lv_has ls 2 [(0, .ref (E.2.1 87)), (1, .int x1)] → W p l e rm_X10_setLine s m args below meth c H locs 0 0 Q (F0 m 16 ls [.int t0, .ref (E.2.1 87)]) := by
    intro x1 t0  S H locs ls  hf hw hl
    unfold f_X10_setLine_h16 at hf
    obtain ⟨q4, eq4, hf⟩ := si_ob hf
    refine si_cVi [.int t0] cal_X10_begins gm_RX10_157 X hw hA hl.1 (c_X10_begins l E F t0 S q4 eq4) si_cl10 rfl ⟨⟨rfl, rfl⟩, Nat.le_of_ble_eq_true rfl, Nat.le_of_ble_eq_true rfl⟩ rfl rfl (Nat.le_of_ble_eq_true rfl) ⟨Nat.zero_le _, Nat.zero_le _⟩ dX10_setLine_16 (fun H locs hw => ?_)
    refine lv_if_eq (tgt := 32) X.1 X.2.1 dX10_setLine_19 (by decide) (fun c19 => ?_) (fun c19 => ?_)
    · have hf := si_ip c19 hf
      exact B32 _ _ _ _ hf hw (lv_sub hl [] rfl)
    · have hf := si_in c19 hf
      refine lv_aload_n X.1 X.2.1 dX10_setLine_22 rfl (lv_at hl 0 rfl) ?_
      refine lv_iconst (v := 2) X.1 X.2.1 dX10_setLine_23 (by decide) ?_
      refine lv_bipush (v := 12) X.1 X.2.1 dX10_setLine_24 (by decide) ?_
      obtain ⟨q5, eq5, hf⟩ := si_ob hf
      refine si_cVi [.int 2, .int 12] cal_X10_takes gm_RX10_164 X hw hA hl.1 (c_X10_takes l E F 2 12 q4.2 q5 eq5) si_cl10 rfl ⟨⟨rfl, rfl⟩, Nat.le_of_ble_eq_true rfl, Nat.le_of_ble_eq_true rfl⟩ rfl rfl (Nat.le_of_ble_eq_true rfl) ⟨Nat.zero_le _, Nat.zero_le _⟩ dX10_setLine_26 (fun H locs hw => ?_)
      refine lv_if_ne (tgt := 34) X.1 X.2.1 dX10_setLine_29 (by decide) (fun c29 => ?_) (fun c29 => ?_)
      · have hf := si_in c29 hf
        refine lv_aload_n X.1 X.2.1 dX10_setLine_34 rfl (lv_at hl 0 rfl) ?_
        refine si_getR (k' := 103) (d := 16) X hw si_cl10 33 (by decide) gf_RX10_64 rfl rfl rfl (by decide) rfl dX10_setLine_35 ?_
        refine lv_iload_n X.1 X.2.1 dX10_setLine_38 rfl (lv_at hl 1 rfl) ?_
        refine lv_aload_n X.1 X.2.1 dX10_setLine_39 rfl (lv_at hl 0 rfl) ?_
        refine si_getI X hw si_cl10 23 (by decide) gf_RX10_148 rfl rfl rfl dX10_setLine_40 ?_
        obtain ⟨S6, eS6, hf⟩ := si_ob hf
        refine si_iast X hw rfl eS6 dX10_setLine_43 (fun H locs hw => ?_)
        refine lv_aload_n X.1 X.2.1 dX10_setLine_44 rfl (lv_at hl 0 rfl) ?_
        refine si_getR (k' := 104) (d := 17) X hw si_cl10 34 (by decide) gf_RX10_67 rfl rfl rfl (by decide) rfl dX10_setLine_45 ?_
        refine lv_iload_n X.1 X.2.1 dX10_setLine_48 rfl (lv_at hl 1 rfl) ?_
        refine lv_aload_n X.1 X.2.1 dX10_setLine_49 rfl (lv_at hl 0 rfl) ?_
        refine si_ldcS X (si_sr 15 rfl) rfl dX10_setLine_50 ?_
        obtain ⟨q7, eq7, hf⟩ := si_ob hf
        refine si_cVi [.ref (E.2.2.2.1 7)] cal_X10_isWord gm_RX10_174 X hw hA hl.1 (c_X10_isWord l E F 7 (by decide) S6 q7 eq7) si_cl10 rfl ⟨⟨rfl, rfl⟩, Nat.le_of_ble_eq_true rfl, Nat.le_of_ble_eq_true rfl⟩ rfl rfl (Nat.le_of_ble_eq_true rfl) ⟨Nat.zero_le _, Nat.zero_le _⟩ dX10_setLine_52 (fun H locs hw => ?_)
        obtain ⟨S8, eS8, hf⟩ := si_ob hf
        refine si_wzst X hw rfl eS8 dX10_setLine_55 (fun H locs hw => ?_)
        refine lv_aload_n X.1 X.2.1 dX10_setLine_56 rfl (lv_at hl 0 rfl) ?_
        refine si_getR (k' := 104) (d := 17) X hw si_cl10 34 (by decide) gf_RX10_67 rfl rfl rfl (by decide) rfl dX10_setLine_57 ?_
        refine lv_iload_n X.1 X.2.1 dX10_setLine_60 rfl (lv_at hl 1 rfl) ?_
        obtain ⟨v9, ev9, hf⟩ := si_ob hf
        refine si_zald X hw rfl ev9 dX10_setLine_61 ?_
        refine lv_if_eq (tgt := 69) X.1 X.2.1 dX10_setLine_62 (by decide) (fun c62 => ?_) (fun c62 => ?_)
        · have hf := si_ip c62 hf
          exact B69 _ _ _ _ hf hw (lv_sub hl [0] rfl)
        · have hf := si_in c62 hf
          refine lv_aload_n X.1 X.2.1 dX10_setLine_65 rfl (lv_at hl 0 rfl) ?_
          obtain ⟨S10, eS10, hf⟩ := si_ob hf
          refine si_cVv [] cal_X10_advance gm_RX10_151 X hw hA hl.1 (c_X10_advance l E F S8 S10 eS10) si_cl10 rfl ⟨⟨rfl, rfl⟩, Nat.le_of_ble_eq_true rfl, Nat.le_of_ble_eq_true rfl⟩ rfl rfl (Nat.le_of_ble_eq_true rfl) ⟨Nat.zero_le _, Nat.zero_le _⟩ dX10_setLine_66 (fun H locs hw => ?_)
          exact B69 _ _ _ _ hf hw (lv_sub hl [0] rfl)
      · have hf := si_ip c29 hf
        exact B32 _ _ _ _ hf hw (lv_sub hl [] rfl)
  unfold f_X10_setLine at hf
  refine lv_aload_n X.1 X.2.1 dX10_setLine_0 rfl (lv_at hl 0 rfl) ?_
  refine si_getI X hw si_cl10 32 (by decide) gf_RX10_180 rfl rfl rfl dX10_setLine_1 ?_
  obtain ⟨v11, ev11, hf⟩ := si_ob hf
  refine si_nmI ev11 ?_
  refine lv_istore_n (lv' := [(1, .int v11), (0, .ref (E.2.1 87))]) X.1 X.2.1 dX10_setLine_4 rfl hl (by decide) rfl (fun ls hl => ?_)
  refine lv_aload_n X.1 X.2.1 dX10_setLine_5 rfl (lv_at hl 1 rfl) ?_
  refine lv_iload_n X.1 X.2.1 dX10_setLine_6 rfl (lv_at hl 0 rfl) ?_
  refine lv_iconst (v := 4) X.1 X.2.1 dX10_setLine_7 (by decide) ?_
  refine lv_icmp_ge (tgt := 15) X.1 X.2.1 dX10_setLine_8 (by decide) (fun c8 => ?_) (fun c8 => ?_)
  · have hf := si_ip c8 hf
    refine lv_iconst (v := 0) X.1 X.2.1 dX10_setLine_15 (by decide) ?_
    exact B16 _ _ _ _ _ _ hf hw (lv_sub hl [1, 0] rfl)
  · have hf := si_in c8 hf
    refine lv_iconst (v := 1) X.1 X.2.1 dX10_setLine_11 (by decide) ?_
    refine lv_goto (tgt := 16) X.1 X.2.1 dX10_setLine_12 (by decide) ?_
    exact B16 _ _ _ _ _ _ hf hw (lv_sub hl [1, 0] rfl)
abbrev rm_X10_termLine : Room := { frames := 3, cells := 0, slots := 0, locals := 68 }
set_option maxHeartbeats 4000000 in
set_option maxRecDepth 100000 in
theorem c_X10_termLine (l : Launch) (E : si_Ev) (F : Nat) (S : si_St) (o : Int32 × si_St) (hf : f_X10_termLine F S = some o) : si_Mi l E yX10_termLine cX10_termLine 2 (some .boolean) rm_X10_termLine [.ref (E.2.1 87)] S o := by
  refine si_ofWz (plainFor_of_name (by decide +kernel)) (Nat.le_of_ble_eq_true rfl) ?_
  intro p e s m args below meth c ls Q A X hw hA hl hret
  have hl : lv_has ls 2 [(0, .ref (E.2.1 87))] := hl
  have B38 : ∀ (S : si_St) (H : Heap) (locs : List Loc) (ls : Array Slot) , f_X10_termLine_h38 F S = some o → si_Ws E A s.heap S H locs → lv_has ls 2 [(0, .ref (E.2.1 87))] → W p l e rm_X10_termLine s m args below meth c H locs 0 0 Q (F0 m 38 ls []) := by
    intro   S H locs ls  hf hw hl
    unfold f_X10_termLine_h38 at hf
    refine lv_aload_n X.1 X.2.1 dX10_termLine_38 rfl (lv_at hl 0 rfl) ?_
    refine lv_iconst (v := 0) X.1 X.2.1 dX10_termLine_39 (by decide) ?_
    refine lv_iconst (v := 2) X.1 X.2.1 dX10_termLine_40 (by decide) ?_
    obtain ⟨q1, eq1, hf⟩ := si_ob hf
    refine si_cVi [.int 0, .int 2] cal_X10_takes gm_RX10_164 X hw hA hl.1 (c_X10_takes l E F 0 2 S q1 eq1) si_cl10 rfl ⟨⟨rfl, rfl⟩, Nat.le_of_ble_eq_true rfl, Nat.le_of_ble_eq_true rfl⟩ rfl rfl (Nat.le_of_ble_eq_true rfl) ⟨Nat.zero_le _, Nat.zero_le _⟩ dX10_termLine_41 (fun H locs hw => ?_)
    refine lv_if_ne (tgt := 49) X.1 X.2.1 dX10_termLine_44 (by decide) (fun c44 => ?_) (fun c44 => ?_)
    · have hf := si_in c44 hf
      refine lv_aload_n X.1 X.2.1 dX10_termLine_49 rfl (lv_at hl 0 rfl) ?_
      refine si_getI X hw si_cl10 23 (by decide) gf_RX10_148 rfl rfl rfl dX10_termLine_50 ?_
      obtain ⟨v2, ev2, hf⟩ := si_ob hf
      refine si_nmI ev2 ?_
      refine lv_istore_n (lv' := [(1, .int v2), (0, .ref (E.2.1 87))]) X.1 X.2.1 dX10_termLine_53 rfl hl (by decide) rfl (fun ls hl => ?_)
      refine lv_aload_n X.1 X.2.1 dX10_termLine_54 rfl (lv_at hl 1 rfl) ?_
      refine lv_iconst (v := 1) X.1 X.2.1 dX10_termLine_55 (by decide) ?_
      refine lv_iconst (v := 5) X.1 X.2.1 dX10_termLine_56 (by decide) ?_
      obtain ⟨q3, eq3, hf⟩ := si_ob hf
      refine si_cVi [.int 1, .int 5] cal_X10_takes gm_RX10_164 X hw hA hl.1 (c_X10_takes l E F 1 5 q1.2 q3 eq3) si_cl10 rfl ⟨⟨rfl, rfl⟩, Nat.le_of_ble_eq_true rfl, Nat.le_of_ble_eq_true rfl⟩ rfl rfl (Nat.le_of_ble_eq_true rfl) ⟨Nat.zero_le _, Nat.zero_le _⟩ dX10_termLine_57 (fun H locs hw => ?_)
      refine lv_if_ne (tgt := 65) X.1 X.2.1 dX10_termLine_60 (by decide) (fun c60 => ?_) (fun c60 => ?_)
      · have hf := si_in c60 hf
        refine lv_aload_n X.1 X.2.1 dX10_termLine_65 rfl (lv_at hl 1 rfl) ?_
        refine si_getR (k' := 105) (d := 18) X hw si_cl10 35 (by decide) gf_RX10_70 rfl rfl rfl (by decide) rfl dX10_termLine_66 ?_
        refine lv_iload_n X.1 X.2.1 dX10_termLine_69 rfl (lv_at hl 0 rfl) ?_
        refine lv_aload_n X.1 X.2.1 dX10_termLine_70 rfl (lv_at hl 1 rfl) ?_
        refine si_getI X hw si_cl10 23 (by decide) gf_RX10_148 rfl rfl rfl dX10_termLine_71 ?_
        obtain ⟨S4, eS4, hf⟩ := si_ob hf
        refine si_iast X hw rfl eS4 dX10_termLine_74 (fun H locs hw => ?_)
        refine lv_iconst (v := 1) X.1 X.2.1 dX10_termLine_75 (by decide) ?_
        obtain ⟨v5, ev5, hf⟩ := si_ob hf
        exact hret _ _ _ _ _ _ (si_bzf ev5 hf) (si_nz (si_bz_inv ev5).1) hw dX10_termLine_76
      · have hf := si_ip c60 hf
        refine lv_iconst (v := 0) X.1 X.2.1 dX10_termLine_63 (by decide) ?_
        obtain ⟨v6, ev6, hf⟩ := si_ob hf
        exact hret _ _ _ _ _ _ (si_bzf ev6 hf) (si_nz (si_bz_inv ev6).1) hw dX10_termLine_64
    · have hf := si_ip c44 hf
      refine lv_iconst (v := 0) X.1 X.2.1 dX10_termLine_47 (by decide) ?_
      obtain ⟨v7, ev7, hf⟩ := si_ob hf
      exact hret _ _ _ _ _ _ (si_bzf ev7 hf) (si_nz (si_bz_inv ev7).1) hw dX10_termLine_48
  unfold f_X10_termLine at hf
  refine lv_aload_n X.1 X.2.1 dX10_termLine_0 rfl (lv_at hl 0 rfl) ?_
  obtain ⟨S8, eS8, hf⟩ := si_ob hf
  refine si_cVv [] cal_X10_advance gm_RX10_151 X hw hA hl.1 (c_X10_advance l E F S S8 eS8) si_cl10 rfl ⟨⟨rfl, rfl⟩, Nat.le_of_ble_eq_true rfl, Nat.le_of_ble_eq_true rfl⟩ rfl rfl (Nat.le_of_ble_eq_true rfl) ⟨Nat.zero_le _, Nat.zero_le _⟩ dX10_termLine_1 (fun H locs hw => ?_)
  refine lv_aload_n X.1 X.2.1 dX10_termLine_4 rfl (lv_at hl 0 rfl) ?_
  refine si_getI X hw si_cl10 19 (by decide) gf_RX10_117 rfl rfl rfl dX10_termLine_5 ?_
  refine lv_iconst (v := 2) X.1 X.2.1 dX10_termLine_8 (by decide) ?_
  refine lv_icmp_ne (tgt := 38) X.1 X.2.1 dX10_termLine_9 (by decide) (fun c9 => ?_) (fun c9 => ?_)
  · have hf := si_in c9 hf
    exact B38 _ _ _ _ hf hw (lv_sub hl [0] rfl)
  · have hf := si_ip c9 hf
    refine lv_aload_n X.1 X.2.1 dX10_termLine_12 rfl (lv_at hl 0 rfl) ?_
    refine si_getI X hw si_cl10 20 (by decide) gf_RX10_114 rfl rfl rfl dX10_termLine_13 ?_
    refine lv_iconst (v := 3) X.1 X.2.1 dX10_termLine_16 (by decide) ?_
    refine lv_icmp_ge (tgt := 38) X.1 X.2.1 dX10_termLine_17 (by decide) (fun c17 => ?_) (fun c17 => ?_)
    · have hf := si_ip c17 hf
      exact B38 _ _ _ _ hf hw (lv_sub hl [0] rfl)
    · have hf := si_in c17 hf
      refine lv_aload_n X.1 X.2.1 dX10_termLine_20 rfl (lv_at hl 0 rfl) ?_
      refine si_getR (k' := 105) (d := 18) X hw si_cl10 35 (by decide) gf_RX10_70 rfl rfl rfl (by decide) rfl dX10_termLine_21 ?_
      refine lv_aload_n X.1 X.2.1 dX10_termLine_24 rfl (lv_at hl 0 rfl) ?_
      refine si_getI X hw si_cl10 20 (by decide) gf_RX10_114 rfl rfl rfl dX10_termLine_25 ?_
      obtain ⟨v9, ev9, hf⟩ := si_ob hf
      refine si_iald X hw rfl ev9 dX10_termLine_28 ?_
      refine lv_if_le (tgt := 38) X.1 X.2.1 dX10_termLine_29 (by decide) (fun c29 => ?_) (fun c29 => ?_)
      · have hf := si_ip c29 hf
        exact B38 _ _ _ _ hf hw (lv_sub hl [0] rfl)
      · have hf := si_in c29 hf
        refine lv_aload_n X.1 X.2.1 dX10_termLine_32 rfl (lv_at hl 0 rfl) ?_
        refine lv_iconst (v := 2) X.1 X.2.1 dX10_termLine_33 (by decide) ?_
        obtain ⟨q10, eq10, hf⟩ := si_ob hf
        refine si_cVi [.int 2] cal_X10_fails gm_RX10_144 X hw hA hl.1 (c_X10_fails l E F 2 S8 q10 eq10) si_cl10 rfl ⟨⟨rfl, rfl⟩, Nat.le_of_ble_eq_true rfl, Nat.le_of_ble_eq_true rfl⟩ rfl rfl (Nat.le_of_ble_eq_true rfl) ⟨Nat.zero_le _, Nat.zero_le _⟩ dX10_termLine_34 (fun H locs hw => ?_)
        obtain ⟨v11, ev11, hf⟩ := si_ob hf
        exact hret _ _ _ _ _ _ (si_bzf ev11 hf) (si_nz (si_bz_inv ev11).1) hw dX10_termLine_37
abbrev rm_X10_statement : Room := { frames := 6, cells := 0, slots := 0, locals := 131 }
set_option maxHeartbeats 4000000 in
set_option maxRecDepth 100000 in
theorem c_X10_statement (l : Launch) (E : si_Ev) (F : Nat) (S : si_St) (o : Int32 × si_St) (hf : f_X10_statement F S = some o) : si_Mi l E yX10_statement cX10_statement 2 (some .boolean) rm_X10_statement [.ref (E.2.1 87)] S o := by
  refine si_ofWz (plainFor_of_name (by decide +kernel)) (Nat.le_of_ble_eq_true rfl) ?_
  intro p e s m args below meth c ls Q A X hw hA hl hret
  have hl : lv_has ls 2 [(0, .ref (E.2.1 87))] := hl
  have B85 : ∀ (t0 : Int32) (S : si_St) (H : Heap) (locs : List Loc) (ls : Array Slot) , f_X10_statement_h85 F t0 S = some o → si_Ws E A s.heap S H locs → lv_has ls 2 [(0, .ref (E.2.1 87))] → W p l e rm_X10_statement s m args below meth c H locs 0 0 Q (F0 m 85 ls [.int t0]) := by
    intro t0  S H locs ls  hf hw hl
    unfold f_X10_statement_h85 at hf
    refine lv_istore_n (lv' := [(1, .int t0), (0, .ref (E.2.1 87))]) X.1 X.2.1 dX10_statement_85 rfl hl (by decide) rfl (fun ls hl => ?_)
    refine lv_iload_n X.1 X.2.1 dX10_statement_86 rfl (lv_at hl 0 rfl) ?_
    refine lv_if_ne (tgt := 92) X.1 X.2.1 dX10_statement_87 (by decide) (fun c87 => ?_) (fun c87 => ?_)
    · have hf := si_in c87 hf
      refine lv_aload_n X.1 X.2.1 dX10_statement_92 rfl (lv_at hl 1 rfl) ?_
      refine si_getI X hw si_cl10 19 (by decide) gf_RX10_117 rfl rfl rfl dX10_statement_93 ?_
      refine lv_iconst (v := 3) X.1 X.2.1 dX10_statement_96 (by decide) ?_
      refine lv_icmp_eq (tgt := 106) X.1 X.2.1 dX10_statement_97 (by decide) (fun c97 => ?_) (fun c97 => ?_)
      · have hf := si_ip c97 hf
        refine lv_aload_n X.1 X.2.1 dX10_statement_106 rfl (lv_at hl 1 rfl) ?_
        obtain ⟨S1, eS1, hf⟩ := si_ob hf
        refine si_cVv [] cal_X10_advance gm_RX10_151 X hw hA hl.1 (c_X10_advance l E F S S1 eS1) si_cl10 rfl ⟨⟨rfl, rfl⟩, Nat.le_of_ble_eq_true rfl, Nat.le_of_ble_eq_true rfl⟩ rfl rfl (Nat.le_of_ble_eq_true rfl) ⟨Nat.zero_le _, Nat.zero_le _⟩ dX10_statement_107 (fun H locs hw => ?_)
        refine lv_iconst (v := 1) X.1 X.2.1 dX10_statement_110 (by decide) ?_
        obtain ⟨v2, ev2, hf⟩ := si_ob hf
        exact hret _ _ _ _ _ _ (si_bzf ev2 hf) (si_nz (si_bz_inv ev2).1) hw dX10_statement_111
      · have hf := si_in c97 hf
        refine lv_aload_n X.1 X.2.1 dX10_statement_100 rfl (lv_at hl 1 rfl) ?_
        refine lv_iconst (v := 1) X.1 X.2.1 dX10_statement_101 (by decide) ?_
        obtain ⟨q3, eq3, hf⟩ := si_ob hf
        refine si_cVi [.int 1] cal_X10_fails gm_RX10_144 X hw hA hl.1 (c_X10_fails l E F 1 S q3 eq3) si_cl10 rfl ⟨⟨rfl, rfl⟩, Nat.le_of_ble_eq_true rfl, Nat.le_of_ble_eq_true rfl⟩ rfl rfl (Nat.le_of_ble_eq_true rfl) ⟨Nat.zero_le _, Nat.zero_le _⟩ dX10_statement_102 (fun H locs hw => ?_)
        obtain ⟨v4, ev4, hf⟩ := si_ob hf
        exact hret _ _ _ _ _ _ (si_bzf ev4 hf) (si_nz (si_bz_inv ev4).1) hw dX10_statement_105
    · have hf := si_ip c87 hf
      refine lv_iconst (v := 0) X.1 X.2.1 dX10_statement_90 (by decide) ?_
      obtain ⟨v5, ev5, hf⟩ := si_ob hf
      exact hret _ _ _ _ _ _ (si_bzf ev5 hf) (si_nz (si_bz_inv ev5).1) hw dX10_statement_91
  unfold f_X10_statement at hf
  refine lv_aload_n X.1 X.2.1 dX10_statement_0 rfl (lv_at hl 0 rfl) ?_
  refine si_ldcS X (si_sr 16 rfl) rfl dX10_statement_1 ?_
  obtain ⟨q6, eq6, hf⟩ := si_ob hf
  refine si_cVi [.ref (E.2.2.2.1 0)] cal_X10_isWord gm_RX10_174 X hw hA hl.1 (c_X10_isWord l E F 0 (by decide) S q6 eq6) si_cl10 rfl ⟨⟨rfl, rfl⟩, Nat.le_of_ble_eq_true rfl, Nat.le_of_ble_eq_true rfl⟩ rfl rfl (Nat.le_of_ble_eq_true rfl) ⟨Nat.zero_le _, Nat.zero_le _⟩ dX10_statement_3 (fun H locs hw => ?_)
  refine lv_if_eq (tgt := 16) X.1 X.2.1 dX10_statement_6 (by decide) (fun c6 => ?_) (fun c6 => ?_)
  · have hf := si_ip c6 hf
    refine lv_aload_n X.1 X.2.1 dX10_statement_16 rfl (lv_at hl 0 rfl) ?_
    refine si_ldcS X (si_sr 17 rfl) rfl dX10_statement_17 ?_
    obtain ⟨q7, eq7, hf⟩ := si_ob hf
    refine si_cVi [.ref (E.2.2.2.1 1)] cal_X10_isWord gm_RX10_174 X hw hA hl.1 (c_X10_isWord l E F 1 (by decide) q6.2 q7 eq7) si_cl10 rfl ⟨⟨rfl, rfl⟩, Nat.le_of_ble_eq_true rfl, Nat.le_of_ble_eq_true rfl⟩ rfl rfl (Nat.le_of_ble_eq_true rfl) ⟨Nat.zero_le _, Nat.zero_le _⟩ dX10_statement_19 (fun H locs hw => ?_)
    refine lv_if_eq (tgt := 32) X.1 X.2.1 dX10_statement_22 (by decide) (fun c22 => ?_) (fun c22 => ?_)
    · have hf := si_ip c22 hf
      refine lv_aload_n X.1 X.2.1 dX10_statement_32 rfl (lv_at hl 0 rfl) ?_
      refine si_ldcS X (si_sr 18 rfl) rfl dX10_statement_33 ?_
      obtain ⟨q8, eq8, hf⟩ := si_ob hf
      refine si_cVi [.ref (E.2.2.2.1 2)] cal_X10_isWord gm_RX10_174 X hw hA hl.1 (c_X10_isWord l E F 2 (by decide) q7.2 q8 eq8) si_cl10 rfl ⟨⟨rfl, rfl⟩, Nat.le_of_ble_eq_true rfl, Nat.le_of_ble_eq_true rfl⟩ rfl rfl (Nat.le_of_ble_eq_true rfl) ⟨Nat.zero_le _, Nat.zero_le _⟩ dX10_statement_35 (fun H locs hw => ?_)
      refine lv_if_eq (tgt := 48) X.1 X.2.1 dX10_statement_38 (by decide) (fun c38 => ?_) (fun c38 => ?_)
      · have hf := si_ip c38 hf
        refine lv_aload_n X.1 X.2.1 dX10_statement_48 rfl (lv_at hl 0 rfl) ?_
        refine si_ldcS X (si_sr 19 rfl) rfl dX10_statement_49 ?_
        obtain ⟨q9, eq9, hf⟩ := si_ob hf
        refine si_cVi [.ref (E.2.2.2.1 3)] cal_X10_isWord gm_RX10_174 X hw hA hl.1 (c_X10_isWord l E F 3 (by decide) q8.2 q9 eq9) si_cl10 rfl ⟨⟨rfl, rfl⟩, Nat.le_of_ble_eq_true rfl, Nat.le_of_ble_eq_true rfl⟩ rfl rfl (Nat.le_of_ble_eq_true rfl) ⟨Nat.zero_le _, Nat.zero_le _⟩ dX10_statement_51 (fun H locs hw => ?_)
        refine lv_if_eq (tgt := 64) X.1 X.2.1 dX10_statement_54 (by decide) (fun c54 => ?_) (fun c54 => ?_)
        · have hf := si_ip c54 hf
          refine lv_aload_n X.1 X.2.1 dX10_statement_64 rfl (lv_at hl 0 rfl) ?_
          refine si_ldcS X (si_sr 20 rfl) rfl dX10_statement_65 ?_
          obtain ⟨q10, eq10, hf⟩ := si_ob hf
          refine si_cVi [.ref (E.2.2.2.1 4)] cal_X10_isWord gm_RX10_174 X hw hA hl.1 (c_X10_isWord l E F 4 (by decide) q9.2 q10 eq10) si_cl10 rfl ⟨⟨rfl, rfl⟩, Nat.le_of_ble_eq_true rfl, Nat.le_of_ble_eq_true rfl⟩ rfl rfl (Nat.le_of_ble_eq_true rfl) ⟨Nat.zero_le _, Nat.zero_le _⟩ dX10_statement_67 (fun H locs hw => ?_)
          refine lv_if_eq (tgt := 80) X.1 X.2.1 dX10_statement_70 (by decide) (fun c70 => ?_) (fun c70 => ?_)
          · have hf := si_ip c70 hf
            refine lv_aload_n X.1 X.2.1 dX10_statement_80 rfl (lv_at hl 0 rfl) ?_
            refine lv_iconst (v := 1) X.1 X.2.1 dX10_statement_81 (by decide) ?_
            obtain ⟨q11, eq11, hf⟩ := si_ob hf
            refine si_cVi [.int 1] cal_X10_fails gm_RX10_144 X hw hA hl.1 (c_X10_fails l E F 1 q10.2 q11 eq11) si_cl10 rfl ⟨⟨rfl, rfl⟩, Nat.le_of_ble_eq_true rfl, Nat.le_of_ble_eq_true rfl⟩ rfl rfl (Nat.le_of_ble_eq_true rfl) ⟨Nat.zero_le _, Nat.zero_le _⟩ dX10_statement_82 (fun H locs hw => ?_)
            exact B85 _ _ _ _ _ hf hw (lv_sub hl [0] rfl)
          · have hf := si_in c70 hf
            refine lv_aload_n X.1 X.2.1 dX10_statement_73 rfl (lv_at hl 0 rfl) ?_
            obtain ⟨q12, eq12, hf⟩ := si_ob hf
            refine si_cVi [] cal_X10_termLine gm_RX10_206 X hw hA hl.1 (c_X10_termLine l E F q10.2 q12 eq12) si_cl10 rfl ⟨⟨rfl, rfl⟩, Nat.le_of_ble_eq_true rfl, Nat.le_of_ble_eq_true rfl⟩ rfl rfl (Nat.le_of_ble_eq_true rfl) ⟨Nat.zero_le _, Nat.zero_le _⟩ dX10_statement_74 (fun H locs hw => ?_)
            refine lv_goto (tgt := 85) X.1 X.2.1 dX10_statement_77 (by decide) ?_
            exact B85 _ _ _ _ _ hf hw (lv_sub hl [0] rfl)
        · have hf := si_in c54 hf
          refine lv_aload_n X.1 X.2.1 dX10_statement_57 rfl (lv_at hl 0 rfl) ?_
          obtain ⟨q13, eq13, hf⟩ := si_ob hf
          refine si_cVi [] cal_X10_setLine gm_RX10_202 X hw hA hl.1 (c_X10_setLine l E F q9.2 q13 eq13) si_cl10 rfl ⟨⟨rfl, rfl⟩, Nat.le_of_ble_eq_true rfl, Nat.le_of_ble_eq_true rfl⟩ rfl rfl (Nat.le_of_ble_eq_true rfl) ⟨Nat.zero_le _, Nat.zero_le _⟩ dX10_statement_58 (fun H locs hw => ?_)
          refine lv_goto (tgt := 85) X.1 X.2.1 dX10_statement_61 (by decide) ?_
          exact B85 _ _ _ _ _ hf hw (lv_sub hl [0] rfl)
      · have hf := si_in c38 hf
        refine lv_aload_n X.1 X.2.1 dX10_statement_41 rfl (lv_at hl 0 rfl) ?_
        obtain ⟨q14, eq14, hf⟩ := si_ob hf
        refine si_cVi [] cal_X10_massLine gm_RX10_197 X hw hA hl.1 (c_X10_massLine l E F q8.2 q14 eq14) si_cl10 rfl ⟨⟨rfl, rfl⟩, Nat.le_of_ble_eq_true rfl, Nat.le_of_ble_eq_true rfl⟩ rfl rfl (Nat.le_of_ble_eq_true rfl) ⟨Nat.zero_le _, Nat.zero_le _⟩ dX10_statement_42 (fun H locs hw => ?_)
        refine lv_goto (tgt := 85) X.1 X.2.1 dX10_statement_45 (by decide) ?_
        exact B85 _ _ _ _ _ hf hw (lv_sub hl [0] rfl)
    · have hf := si_in c22 hf
      refine lv_aload_n X.1 X.2.1 dX10_statement_25 rfl (lv_at hl 0 rfl) ?_
      obtain ⟨q15, eq15, hf⟩ := si_ob hf
      refine si_cVi [] cal_X10_scaleLine gm_RX10_193 X hw hA hl.1 (c_X10_scaleLine l E F q7.2 q15 eq15) si_cl10 rfl ⟨⟨rfl, rfl⟩, Nat.le_of_ble_eq_true rfl, Nat.le_of_ble_eq_true rfl⟩ rfl rfl (Nat.le_of_ble_eq_true rfl) ⟨Nat.zero_le _, Nat.zero_le _⟩ dX10_statement_26 (fun H locs hw => ?_)
      refine lv_goto (tgt := 85) X.1 X.2.1 dX10_statement_29 (by decide) ?_
      exact B85 _ _ _ _ _ hf hw (lv_sub hl [0] rfl)
  · have hf := si_in c6 hf
    refine lv_aload_n X.1 X.2.1 dX10_statement_9 rfl (lv_at hl 0 rfl) ?_
    obtain ⟨q16, eq16, hf⟩ := si_ob hf
    refine si_cVi [] cal_X10_traderLine gm_RX10_187 X hw hA hl.1 (c_X10_traderLine l E F q6.2 q16 eq16) si_cl10 rfl ⟨⟨rfl, rfl⟩, Nat.le_of_ble_eq_true rfl, Nat.le_of_ble_eq_true rfl⟩ rfl rfl (Nat.le_of_ble_eq_true rfl) ⟨Nat.zero_le _, Nat.zero_le _⟩ dX10_statement_10 (fun H locs hw => ?_)
    refine lv_goto (tgt := 85) X.1 X.2.1 dX10_statement_13 (by decide) ?_
    exact B85 _ _ _ _ _ hf hw (lv_sub hl [0] rfl)
abbrev rm_X10_copies : Room := { frames := 0, cells := 0, slots := 0, locals := 0 }
set_option maxHeartbeats 4000000 in
set_option maxRecDepth 100000 in
theorem c_X10_copies (l : Launch) (E : si_Ev) (F : Nat) (k0 : Nat) (k2 : Nat) (hk0 : si_kd k0 = 12) (hk2 : si_kd k2 = 12) (x1 : Int32) (x3 : Int32) (x4 : Int32) (S : si_St) (o : si_St) (hf : f_X10_copies F k0 k2 x1 x3 x4 S = some o) : si_Mv l E yX10_copies cX10_copies 6 rm_X10_copies [.ref (E.2.1 k0), .int x1, .ref (E.2.1 k2), .int x3, .int x4] S o := by
  refine si_ofWv (plainFor_of_name (by decide +kernel)) (Nat.le_of_ble_eq_true rfl) ?_
  intro p e s m args below meth c ls Q A X hw hA hl hret
  have hl : lv_has ls 6 [(0, .ref (E.2.1 k0)), (1, .int x1), (2, .ref (E.2.1 k2)), (3, .int x3), (4, .int x4)] := hl
  have B3 : ∀ (n3 : Nat) (x1 : Int32) (x3 : Int32) (x4 : Int32) (x5 : Int32) (S : si_St) (H : Heap) (locs : List Loc) (ls : Array Slot) , f_X10_copies_l3 F k0 k2 n3 x1 x3 x4 x5 S = some o → si_Ws E A s.heap S H locs → lv_has ls 6 [(0, .ref (E.2.1 k0)), (1, .int x1), (2, .ref (E.2.1 k2)), (3, .int x3), (4, .int x4), (5, .int x5)] → W p l e rm_X10_copies s m args below meth c H locs 0 0 Q (F0 m 3 ls []) := by
    intro n3
    induction n3 with
    | zero => intro x1 x3 x4 x5  S H locs ls  hf; cases hf
    | succ n3 ih3 =>
      intro x1 x3 x4 x5  S H locs ls  hf hw hl
      have hf : f_X10_copies_h3 F k0 k2 (f_X10_copies_l3 F k0 k2 n3) x1 x3 x4 x5 S = some o := hf
      unfold f_X10_copies_h3 at hf
      refine lv_iload X.1 X.2.1 dX10_copies_3 (lv_at hl 5 rfl) ?_
      refine lv_iload X.1 X.2.1 dX10_copies_5 (lv_at hl 4 rfl) ?_
      refine lv_icmp_ge (tgt := 28) X.1 X.2.1 dX10_copies_7 (by decide) (fun c7 => ?_) (fun c7 => ?_)
      · have hf := si_ip c7 hf
        exact hret _ _ _ _ _ hf hw dX10_copies_28
      · have hf := si_in c7 hf
        refine lv_aload_n X.1 X.2.1 dX10_copies_10 rfl (lv_at hl 2 rfl) ?_
        refine lv_iload_n X.1 X.2.1 dX10_copies_11 rfl (lv_at hl 3 rfl) ?_
        refine lv_iload X.1 X.2.1 dX10_copies_12 (lv_at hl 5 rfl) ?_
        refine lv_iadd X.1 X.2.1 dX10_copies_14 ?_
        refine lv_aload_n X.1 X.2.1 dX10_copies_15 rfl (lv_at hl 0 rfl) ?_
        refine lv_iload_n X.1 X.2.1 dX10_copies_16 rfl (lv_at hl 1 rfl) ?_
        refine lv_iload X.1 X.2.1 dX10_copies_17 (lv_at hl 5 rfl) ?_
        refine lv_iadd X.1 X.2.1 dX10_copies_19 ?_
        obtain ⟨v1, ev1, hf⟩ := si_ob hf
        refine si_iald X hw hk0 ev1 dX10_copies_20 ?_
        obtain ⟨S2, eS2, hf⟩ := si_ob hf
        refine si_iast X hw hk2 eS2 dX10_copies_21 (fun H locs hw => ?_)
        obtain ⟨v3, ev3, hf⟩ := si_ob hf
        refine lv_iinc (v := v3) (lv' := [(5, .int v3), (0, .ref (E.2.1 k0)), (1, .int x1), (2, .ref (E.2.1 k2)), (3, .int x3), (4, .int x4)]) X.1 X.2.1 dX10_copies_22 hl (k := 5) rfl (Option.some.inj ev3) (by decide) rfl (fun ls hl => ?_)
        refine lv_goto (tgt := 3) X.1 X.2.1 dX10_copies_25 (by decide) ?_
        exact ih3 _ _ _ _ _ _ _ _ hf hw (lv_sub hl [1, 2, 3, 4, 5, 0] rfl)
  unfold f_X10_copies at hf
  refine lv_iconst (v := 0) X.1 X.2.1 dX10_copies_0 (by decide) ?_
  refine lv_istore (lv' := [(5, .int 0), (0, .ref (E.2.1 k0)), (1, .int x1), (2, .ref (E.2.1 k2)), (3, .int x3), (4, .int x4)]) X.1 X.2.1 dX10_copies_1 hl (by decide) rfl (fun ls hl => ?_)
  exact B3 F _ _ _ _ _ _ _ _ hf hw (lv_sub hl [1, 2, 3, 4, 5, 0] rfl)
abbrev rm_X10_becomes : Room := { frames := 1, cells := 0, slots := 0, locals := 25 }
set_option maxHeartbeats 4000000 in
set_option maxRecDepth 100000 in
theorem c_X10_becomes (l : Launch) (E : si_Ev) (F : Nat) (S : si_St) (o : si_St) (hf : f_X10_becomes F S = some o) : si_Mv l E yX10_becomes cX10_becomes 2 rm_X10_becomes [.ref (E.2.1 87)] S o := by
  refine si_ofWv (plainFor_of_name (by decide +kernel)) (Nat.le_of_ble_eq_true rfl) ?_
  intro p e s m args below meth c ls Q A X hw hA hl hret
  have hl : lv_has ls 2 [(0, .ref (E.2.1 87))] := hl
  have B183 : ∀ (n183 : Nat) (x1 : Int32) (S : si_St) (H : Heap) (locs : List Loc) (ls : Array Slot) , f_X10_becomes_l183 F n183 x1 S = some o → si_Ws E A s.heap S H locs → lv_has ls 2 [(0, .ref (E.2.1 87)), (1, .int x1)] → W p l e rm_X10_becomes s m args below meth c H locs 0 0 Q (F0 m 183 ls []) := by
    intro n183
    induction n183 with
    | zero => intro x1  S H locs ls  hf; cases hf
    | succ n183 ih183 =>
      have B266 : ∀ (x1 : Int32) (t0 : Int32) (t1 : Int32) (S : si_St) (H : Heap) (locs : List Loc) (ls : Array Slot) , f_X10_becomes_h266 F (f_X10_becomes_l183 F n183) x1 t0 t1 S = some o → si_Ws E A s.heap S H locs → lv_has ls 2 [(0, .ref (E.2.1 87)), (1, .int x1)] → W p l e rm_X10_becomes s m args below meth c H locs 0 0 Q (F0 m 266 ls [.int t0, .int t1, .ref (E.2.1 88)]) := by
        intro x1 t0 t1  S H locs ls  hf hw hl
        unfold f_X10_becomes_h266 at hf
        obtain ⟨S1, eS1, hf⟩ := si_ob hf
        refine si_iast X hw rfl eS1 dX10_becomes_266 (fun H locs hw => ?_)
        obtain ⟨v2, ev2, hf⟩ := si_ob hf
        refine lv_iinc (v := v2) (lv' := [(1, .int v2), (0, .ref (E.2.1 87))]) X.1 X.2.1 dX10_becomes_267 hl (k := 1) rfl (Option.some.inj ev2) (by decide) rfl (fun ls hl => ?_)
        refine lv_goto (tgt := 183) X.1 X.2.1 dX10_becomes_270 (by decide) ?_
        exact ih183 _ _ _ _ _ hf hw (lv_sub hl [1, 0] rfl)
      intro x1  S H locs ls  hf hw hl
      have hf : f_X10_becomes_h183 F (f_X10_becomes_l183 F n183) x1 S = some o := hf
      unfold f_X10_becomes_h183 at hf
      refine lv_iload_n X.1 X.2.1 dX10_becomes_183 rfl (lv_at hl 1 rfl) ?_
      refine lv_aload_n X.1 X.2.1 dX10_becomes_184 rfl (lv_at hl 0 rfl) ?_
      refine si_getI X hw si_cl10 10 (by decide) gf_RX10_228 rfl rfl rfl dX10_becomes_185 ?_
      refine lv_icmp_ge (tgt := 273) X.1 X.2.1 dX10_becomes_188 (by decide) (fun c188 => ?_) (fun c188 => ?_)
      · have hf := si_ip c188 hf
        refine lv_aload_n X.1 X.2.1 dX10_becomes_273 rfl (lv_at hl 0 rfl) ?_
        refine lv_iconst (v := 0) X.1 X.2.1 dX10_becomes_274 (by decide) ?_
        obtain ⟨S3, eS3, hf⟩ := si_ob hf
        refine si_ptI X hw si_cl10 41 (by decide) gf_RX10_231 rfl rfl rfl rfl rfl eS3 dX10_becomes_275 (fun H locs hw => ?_)
        refine lv_aload_n X.1 X.2.1 dX10_becomes_278 rfl (lv_at hl 0 rfl) ?_
        refine si_getR (k' := 112) (d := 25) X hw si_cl10 44 (by decide) gf_RX10_91 rfl rfl rfl (by decide) rfl dX10_becomes_279 ?_
        refine lv_iconst (v := 0) X.1 X.2.1 dX10_becomes_282 (by decide) ?_
        refine lv_iconst (v := 0) X.1 X.2.1 dX10_becomes_283 (by decide) ?_
        obtain ⟨S4, eS4, hf⟩ := si_ob hf
        refine si_wzst X hw rfl eS4 dX10_becomes_284 (fun H locs hw => ?_)
        refine lv_aload_n X.1 X.2.1 dX10_becomes_285 rfl (lv_at hl 0 rfl) ?_
        refine si_getR (k' := 112) (d := 25) X hw si_cl10 44 (by decide) gf_RX10_91 rfl rfl rfl (by decide) rfl dX10_becomes_286 ?_
        refine lv_iconst (v := 1) X.1 X.2.1 dX10_becomes_289 (by decide) ?_
        refine lv_iconst (v := 0) X.1 X.2.1 dX10_becomes_290 (by decide) ?_
        obtain ⟨S5, eS5, hf⟩ := si_ob hf
        refine si_wzst X hw rfl eS5 dX10_becomes_291 (fun H locs hw => ?_)
        exact hret _ _ _ _ _ hf hw dX10_becomes_292
      · have hf := si_in c188 hf
        refine lv_aload_n X.1 X.2.1 dX10_becomes_191 rfl (lv_at hl 0 rfl) ?_
        refine si_getR (k' := 95) (d := 8) X hw si_cl10 12 (by decide) gf_RX10_35 rfl rfl rfl (by decide) rfl dX10_becomes_192 ?_
        refine lv_iload_n X.1 X.2.1 dX10_becomes_195 rfl (lv_at hl 1 rfl) ?_
        refine lv_aload_n X.1 X.2.1 dX10_becomes_196 rfl (lv_at hl 0 rfl) ?_
        refine si_getR (k' := 104) (d := 17) X hw si_cl10 34 (by decide) gf_RX10_67 rfl rfl rfl (by decide) rfl dX10_becomes_197 ?_
        refine lv_iload_n X.1 X.2.1 dX10_becomes_200 rfl (lv_at hl 1 rfl) ?_
        obtain ⟨v6, ev6, hf⟩ := si_ob hf
        refine si_zald X hw rfl ev6 dX10_becomes_201 ?_
        obtain ⟨S7, eS7, hf⟩ := si_ob hf
        refine si_wzst X hw rfl eS7 dX10_becomes_202 (fun H locs hw => ?_)
        refine lv_aload_n X.1 X.2.1 dX10_becomes_203 rfl (lv_at hl 0 rfl) ?_
        refine si_getR (k' := 88) (d := 1) X hw si_cl10 1 (by decide) gf_RX10_13 rfl rfl rfl (by decide) rfl dX10_becomes_204 ?_
        refine lv_sipush (v := 661) X.1 X.2.1 dX10_becomes_207 (by decide) ?_
        refine lv_iload_n X.1 X.2.1 dX10_becomes_210 rfl (lv_at hl 1 rfl) ?_
        refine lv_iadd X.1 X.2.1 dX10_becomes_211 ?_
        refine lv_iconst (v := 1) X.1 X.2.1 dX10_becomes_212 (by decide) ?_
        refine lv_aload_n X.1 X.2.1 dX10_becomes_213 rfl (lv_at hl 0 rfl) ?_
        refine si_getR (k' := 94) (d := 7) X hw si_cl10 11 (by decide) gf_RX10_32 rfl rfl rfl (by decide) rfl dX10_becomes_214 ?_
        refine lv_iload_n X.1 X.2.1 dX10_becomes_217 rfl (lv_at hl 1 rfl) ?_
        obtain ⟨v8, ev8, hf⟩ := si_ob hf
        refine si_iald X hw rfl ev8 dX10_becomes_218 ?_
        refine lv_ishl X.1 X.2.1 dX10_becomes_219 ?_
        refine lv_iconst (v := 1) X.1 X.2.1 dX10_becomes_220 (by decide) ?_
        refine lv_isub X.1 X.2.1 dX10_becomes_221 ?_
        obtain ⟨S9, eS9, hf⟩ := si_ob hf
        refine si_iast X hw rfl eS9 dX10_becomes_222 (fun H locs hw => ?_)
        refine lv_aload_n X.1 X.2.1 dX10_becomes_223 rfl (lv_at hl 0 rfl) ?_
        refine si_getR (k' := 88) (d := 1) X hw si_cl10 1 (by decide) gf_RX10_13 rfl rfl rfl (by decide) rfl dX10_becomes_224 ?_
        refine lv_sipush (v := 665) X.1 X.2.1 dX10_becomes_227 (by decide) ?_
        refine lv_iload_n X.1 X.2.1 dX10_becomes_230 rfl (lv_at hl 1 rfl) ?_
        refine lv_iadd X.1 X.2.1 dX10_becomes_231 ?_
        refine lv_aload_n X.1 X.2.1 dX10_becomes_232 rfl (lv_at hl 0 rfl) ?_
        refine si_getR (k' := 88) (d := 1) X hw si_cl10 1 (by decide) gf_RX10_13 rfl rfl rfl (by decide) rfl dX10_becomes_233 ?_
        refine lv_sipush (v := 661) X.1 X.2.1 dX10_becomes_236 (by decide) ?_
        refine lv_iload_n X.1 X.2.1 dX10_becomes_239 rfl (lv_at hl 1 rfl) ?_
        refine lv_iadd X.1 X.2.1 dX10_becomes_240 ?_
        obtain ⟨v10, ev10, hf⟩ := si_ob hf
        refine si_iald X hw rfl ev10 dX10_becomes_241 ?_
        obtain ⟨S11, eS11, hf⟩ := si_ob hf
        refine si_iast X hw rfl eS11 dX10_becomes_242 (fun H locs hw => ?_)
        refine lv_aload_n X.1 X.2.1 dX10_becomes_243 rfl (lv_at hl 0 rfl) ?_
        refine si_getR (k' := 88) (d := 1) X hw si_cl10 1 (by decide) gf_RX10_13 rfl rfl rfl (by decide) rfl dX10_becomes_244 ?_
        refine lv_sipush (v := 669) X.1 X.2.1 dX10_becomes_247 (by decide) ?_
        refine lv_iload_n X.1 X.2.1 dX10_becomes_250 rfl (lv_at hl 1 rfl) ?_
        refine lv_iadd X.1 X.2.1 dX10_becomes_251 ?_
        refine lv_aload_n X.1 X.2.1 dX10_becomes_252 rfl (lv_at hl 0 rfl) ?_
        refine si_getR (k' := 95) (d := 8) X hw si_cl10 12 (by decide) gf_RX10_35 rfl rfl rfl (by decide) rfl dX10_becomes_253 ?_
        refine lv_iload_n X.1 X.2.1 dX10_becomes_256 rfl (lv_at hl 1 rfl) ?_
        obtain ⟨v12, ev12, hf⟩ := si_ob hf
        refine si_zald X hw rfl ev12 dX10_becomes_257 ?_
        refine lv_if_eq (tgt := 265) X.1 X.2.1 dX10_becomes_258 (by decide) (fun c258 => ?_) (fun c258 => ?_)
        · have hf := si_ip c258 hf
          refine lv_iconst (v := 0) X.1 X.2.1 dX10_becomes_265 (by decide) ?_
          exact B266 _ _ _ _ _ _ _ hf hw (lv_sub hl [0, 1] rfl)
        · have hf := si_in c258 hf
          refine lv_iconst (v := 1) X.1 X.2.1 dX10_becomes_261 (by decide) ?_
          refine lv_goto (tgt := 266) X.1 X.2.1 dX10_becomes_262 (by decide) ?_
          exact B266 _ _ _ _ _ _ _ hf hw (lv_sub hl [0, 1] rfl)
  have B161 : ∀ (n161 : Nat) (x1 : Int32) (S : si_St) (H : Heap) (locs : List Loc) (ls : Array Slot) , f_X10_becomes_l161 F n161 x1 S = some o → si_Ws E A s.heap S H locs → lv_has ls 2 [(0, .ref (E.2.1 87)), (1, .int x1)] → W p l e rm_X10_becomes s m args below meth c H locs 0 0 Q (F0 m 161 ls []) := by
    intro n161
    induction n161 with
    | zero => intro x1  S H locs ls  hf; cases hf
    | succ n161 ih161 =>
      intro x1  S H locs ls  hf hw hl
      have hf : f_X10_becomes_h161 F (f_X10_becomes_l161 F n161) x1 S = some o := hf
      unfold f_X10_becomes_h161 at hf
      refine lv_iload_n X.1 X.2.1 dX10_becomes_161 rfl (lv_at hl 1 rfl) ?_
      refine lv_sipush (v := 677) X.1 X.2.1 dX10_becomes_162 (by decide) ?_
      refine lv_icmp_ge (tgt := 181) X.1 X.2.1 dX10_becomes_165 (by decide) (fun c165 => ?_) (fun c165 => ?_)
      · have hf := si_ip c165 hf
        refine lv_iconst (v := 0) X.1 X.2.1 dX10_becomes_181 (by decide) ?_
        refine lv_istore_n (lv' := [(1, .int 0), (0, .ref (E.2.1 87))]) X.1 X.2.1 dX10_becomes_182 rfl hl (by decide) rfl (fun ls hl => ?_)
        exact B183 F _ _ _ _ _ hf hw (lv_sub hl [1, 0] rfl)
      · have hf := si_in c165 hf
        refine lv_aload_n X.1 X.2.1 dX10_becomes_168 rfl (lv_at hl 0 rfl) ?_
        refine si_getR (k' := 88) (d := 1) X hw si_cl10 1 (by decide) gf_RX10_13 rfl rfl rfl (by decide) rfl dX10_becomes_169 ?_
        refine lv_iload_n X.1 X.2.1 dX10_becomes_172 rfl (lv_at hl 1 rfl) ?_
        refine lv_iconst (v := 0) X.1 X.2.1 dX10_becomes_173 (by decide) ?_
        obtain ⟨S13, eS13, hf⟩ := si_ob hf
        refine si_iast X hw rfl eS13 dX10_becomes_174 (fun H locs hw => ?_)
        obtain ⟨v14, ev14, hf⟩ := si_ob hf
        refine lv_iinc (v := v14) (lv' := [(1, .int v14), (0, .ref (E.2.1 87))]) X.1 X.2.1 dX10_becomes_175 hl (k := 1) rfl (Option.some.inj ev14) (by decide) rfl (fun ls hl => ?_)
        refine lv_goto (tgt := 161) X.1 X.2.1 dX10_becomes_178 (by decide) ?_
        exact ih161 _ _ _ _ _ hf hw (lv_sub hl [1, 0] rfl)
  have B123 : ∀ (n123 : Nat) (x1 : Int32) (S : si_St) (H : Heap) (locs : List Loc) (ls : Array Slot) , f_X10_becomes_l123 F n123 x1 S = some o → si_Ws E A s.heap S H locs → lv_has ls 2 [(0, .ref (E.2.1 87)), (1, .int x1)] → W p l e rm_X10_becomes s m args below meth c H locs 0 0 Q (F0 m 123 ls []) := by
    intro n123
    induction n123 with
    | zero => intro x1  S H locs ls  hf; cases hf
    | succ n123 ih123 =>
      have B152 : ∀ (x1 : Int32) (t0 : Int32) (t1 : Int32) (S : si_St) (H : Heap) (locs : List Loc) (ls : Array Slot) , f_X10_becomes_h152 F (f_X10_becomes_l123 F n123) x1 t0 t1 S = some o → si_Ws E A s.heap S H locs → lv_has ls 2 [(0, .ref (E.2.1 87)), (1, .int x1)] → W p l e rm_X10_becomes s m args below meth c H locs 0 0 Q (F0 m 152 ls [.int t0, .int t1, .ref (E.2.1 96)]) := by
        intro x1 t0 t1  S H locs ls  hf hw hl
        unfold f_X10_becomes_h152 at hf
        obtain ⟨S15, eS15, hf⟩ := si_ob hf
        refine si_iast X hw rfl eS15 dX10_becomes_152 (fun H locs hw => ?_)
        obtain ⟨v16, ev16, hf⟩ := si_ob hf
        refine lv_iinc (v := v16) (lv' := [(1, .int v16), (0, .ref (E.2.1 87))]) X.1 X.2.1 dX10_becomes_153 hl (k := 1) rfl (Option.some.inj ev16) (by decide) rfl (fun ls hl => ?_)
        refine lv_goto (tgt := 123) X.1 X.2.1 dX10_becomes_156 (by decide) ?_
        exact ih123 _ _ _ _ _ hf hw (lv_sub hl [1, 0] rfl)
      intro x1  S H locs ls  hf hw hl
      have hf : f_X10_becomes_h123 F (f_X10_becomes_l123 F n123) x1 S = some o := hf
      unfold f_X10_becomes_h123 at hf
      refine lv_iload_n X.1 X.2.1 dX10_becomes_123 rfl (lv_at hl 1 rfl) ?_
      refine lv_iconst (v := 3) X.1 X.2.1 dX10_becomes_124 (by decide) ?_
      refine lv_icmp_ge (tgt := 159) X.1 X.2.1 dX10_becomes_125 (by decide) (fun c125 => ?_) (fun c125 => ?_)
      · have hf := si_ip c125 hf
        refine lv_iconst (v := 0) X.1 X.2.1 dX10_becomes_159 (by decide) ?_
        refine lv_istore_n (lv' := [(1, .int 0), (0, .ref (E.2.1 87))]) X.1 X.2.1 dX10_becomes_160 rfl hl (by decide) rfl (fun ls hl => ?_)
        exact B161 F _ _ _ _ _ hf hw (lv_sub hl [1, 0] rfl)
      · have hf := si_in c125 hf
        refine lv_aload_n X.1 X.2.1 dX10_becomes_128 rfl (lv_at hl 0 rfl) ?_
        refine si_getR (k' := 96) (d := 9) X hw si_cl10 13 (by decide) gf_RX10_39 rfl rfl rfl (by decide) rfl dX10_becomes_129 ?_
        refine lv_iload_n X.1 X.2.1 dX10_becomes_132 rfl (lv_at hl 1 rfl) ?_
        refine lv_aload_n X.1 X.2.1 dX10_becomes_133 rfl (lv_at hl 0 rfl) ?_
        refine si_getR (k' := 105) (d := 18) X hw si_cl10 35 (by decide) gf_RX10_70 rfl rfl rfl (by decide) rfl dX10_becomes_134 ?_
        refine lv_iload_n X.1 X.2.1 dX10_becomes_137 rfl (lv_at hl 1 rfl) ?_
        obtain ⟨v17, ev17, hf⟩ := si_ob hf
        refine si_iald X hw rfl ev17 dX10_becomes_138 ?_
        refine lv_if_ne (tgt := 146) X.1 X.2.1 dX10_becomes_139 (by decide) (fun c139 => ?_) (fun c139 => ?_)
        · have hf := si_in c139 hf
          refine lv_aload_n X.1 X.2.1 dX10_becomes_146 rfl (lv_at hl 0 rfl) ?_
          refine si_getR (k' := 105) (d := 18) X hw si_cl10 35 (by decide) gf_RX10_70 rfl rfl rfl (by decide) rfl dX10_becomes_147 ?_
          refine lv_iload_n X.1 X.2.1 dX10_becomes_150 rfl (lv_at hl 1 rfl) ?_
          obtain ⟨v18, ev18, hf⟩ := si_ob hf
          refine si_iald X hw rfl ev18 dX10_becomes_151 ?_
          exact B152 _ _ _ _ _ _ _ hf hw (lv_sub hl [0, 1] rfl)
        · have hf := si_ip c139 hf
          refine lv_iconst (v := 2) X.1 X.2.1 dX10_becomes_142 (by decide) ?_
          refine lv_goto (tgt := 152) X.1 X.2.1 dX10_becomes_143 (by decide) ?_
          exact B152 _ _ _ _ _ _ _ hf hw (lv_sub hl [0, 1] rfl)
  unfold f_X10_becomes at hf
  refine lv_aload_n X.1 X.2.1 dX10_becomes_0 rfl (lv_at hl 0 rfl) ?_
  refine lv_aload_n X.1 X.2.1 dX10_becomes_1 rfl (lv_at hl 0 rfl) ?_
  refine si_getI X hw si_cl10 24 (by decide) gf_RX10_154 rfl rfl rfl dX10_becomes_2 ?_
  obtain ⟨S19, eS19, hf⟩ := si_ob hf
  refine si_ptI X hw si_cl10 2 (by decide) gf_RX10_215 rfl rfl rfl rfl rfl eS19 dX10_becomes_5 (fun H locs hw => ?_)
  refine lv_aload_n X.1 X.2.1 dX10_becomes_8 rfl (lv_at hl 0 rfl) ?_
  refine lv_aload_n X.1 X.2.1 dX10_becomes_9 rfl (lv_at hl 0 rfl) ?_
  refine si_getI X hw si_cl10 25 (by decide) gf_RX10_161 rfl rfl rfl dX10_becomes_10 ?_
  obtain ⟨S20, eS20, hf⟩ := si_ob hf
  refine si_ptI X hw si_cl10 3 (by decide) gf_RX10_218 rfl rfl rfl rfl rfl eS20 dX10_becomes_13 (fun H locs hw => ?_)
  refine lv_aload_n X.1 X.2.1 dX10_becomes_16 rfl (lv_at hl 0 rfl) ?_
  refine si_getR (k' := 98) (d := 11) X hw si_cl10 26 (by decide) gf_RX10_49 rfl rfl rfl (by decide) rfl dX10_becomes_17 ?_
  refine lv_iconst (v := 0) X.1 X.2.1 dX10_becomes_20 (by decide) ?_
  refine lv_aload_n X.1 X.2.1 dX10_becomes_21 rfl (lv_at hl 0 rfl) ?_
  refine si_getR (k' := 89) (d := 2) X hw si_cl10 4 (by decide) gf_RX10_17 rfl rfl rfl (by decide) rfl dX10_becomes_22 ?_
  refine lv_iconst (v := 0) X.1 X.2.1 dX10_becomes_25 (by decide) ?_
  refine lv_bipush (v := 24) X.1 X.2.1 dX10_becomes_26 (by decide) ?_
  obtain ⟨S21, eS21, hf⟩ := si_ob hf
  refine si_cSv [.ref (E.2.1 98), .int 0, .ref (E.2.1 89), .int 0, .int 24] cal_X10_copies gm_RX10_221 X hw hA hl.1 (c_X10_copies l E F 98 89 rfl rfl 0 0 24 S20 S21 eS21) ⟨⟨rfl, rfl⟩, Nat.le_of_ble_eq_true rfl, Nat.le_of_ble_eq_true rfl⟩ rfl rfl (Nat.le_of_ble_eq_true rfl) ⟨Nat.zero_le _, Nat.zero_le _⟩ dX10_becomes_28 (fun H locs hw => ?_)
  refine lv_aload_n X.1 X.2.1 dX10_becomes_31 rfl (lv_at hl 0 rfl) ?_
  refine si_getR (k' := 99) (d := 12) X hw si_cl10 27 (by decide) gf_RX10_52 rfl rfl rfl (by decide) rfl dX10_becomes_32 ?_
  refine lv_iconst (v := 0) X.1 X.2.1 dX10_becomes_35 (by decide) ?_
  refine lv_aload_n X.1 X.2.1 dX10_becomes_36 rfl (lv_at hl 0 rfl) ?_
  refine si_getR (k' := 90) (d := 3) X hw si_cl10 5 (by decide) gf_RX10_20 rfl rfl rfl (by decide) rfl dX10_becomes_37 ?_
  refine lv_iconst (v := 0) X.1 X.2.1 dX10_becomes_40 (by decide) ?_
  refine lv_bipush (v := 24) X.1 X.2.1 dX10_becomes_41 (by decide) ?_
  obtain ⟨S22, eS22, hf⟩ := si_ob hf
  refine si_cSv [.ref (E.2.1 99), .int 0, .ref (E.2.1 90), .int 0, .int 24] cal_X10_copies gm_RX10_221 X hw hA hl.1 (c_X10_copies l E F 99 90 rfl rfl 0 0 24 S21 S22 eS22) ⟨⟨rfl, rfl⟩, Nat.le_of_ble_eq_true rfl, Nat.le_of_ble_eq_true rfl⟩ rfl rfl (Nat.le_of_ble_eq_true rfl) ⟨Nat.zero_le _, Nat.zero_le _⟩ dX10_becomes_43 (fun H locs hw => ?_)
  refine lv_aload_n X.1 X.2.1 dX10_becomes_46 rfl (lv_at hl 0 rfl) ?_
  refine si_getR (k' := 100) (d := 13) X hw si_cl10 28 (by decide) gf_RX10_55 rfl rfl rfl (by decide) rfl dX10_becomes_47 ?_
  refine lv_iconst (v := 0) X.1 X.2.1 dX10_becomes_50 (by decide) ?_
  refine lv_aload_n X.1 X.2.1 dX10_becomes_51 rfl (lv_at hl 0 rfl) ?_
  refine si_getR (k' := 91) (d := 4) X hw si_cl10 6 (by decide) gf_RX10_23 rfl rfl rfl (by decide) rfl dX10_becomes_52 ?_
  refine lv_iconst (v := 0) X.1 X.2.1 dX10_becomes_55 (by decide) ?_
  refine lv_bipush (v := 24) X.1 X.2.1 dX10_becomes_56 (by decide) ?_
  obtain ⟨S23, eS23, hf⟩ := si_ob hf
  refine si_cSv [.ref (E.2.1 100), .int 0, .ref (E.2.1 91), .int 0, .int 24] cal_X10_copies gm_RX10_221 X hw hA hl.1 (c_X10_copies l E F 100 91 rfl rfl 0 0 24 S22 S23 eS23) ⟨⟨rfl, rfl⟩, Nat.le_of_ble_eq_true rfl, Nat.le_of_ble_eq_true rfl⟩ rfl rfl (Nat.le_of_ble_eq_true rfl) ⟨Nat.zero_le _, Nat.zero_le _⟩ dX10_becomes_58 (fun H locs hw => ?_)
  refine lv_aload_n X.1 X.2.1 dX10_becomes_61 rfl (lv_at hl 0 rfl) ?_
  refine si_getR (k' := 101) (d := 14) X hw si_cl10 29 (by decide) gf_RX10_58 rfl rfl rfl (by decide) rfl dX10_becomes_62 ?_
  refine lv_iconst (v := 0) X.1 X.2.1 dX10_becomes_65 (by decide) ?_
  refine lv_aload_n X.1 X.2.1 dX10_becomes_66 rfl (lv_at hl 0 rfl) ?_
  refine si_getR (k' := 92) (d := 5) X hw si_cl10 7 (by decide) gf_RX10_26 rfl rfl rfl (by decide) rfl dX10_becomes_67 ?_
  refine lv_iconst (v := 0) X.1 X.2.1 dX10_becomes_70 (by decide) ?_
  refine lv_bipush (v := 24) X.1 X.2.1 dX10_becomes_71 (by decide) ?_
  obtain ⟨S24, eS24, hf⟩ := si_ob hf
  refine si_cSv [.ref (E.2.1 101), .int 0, .ref (E.2.1 92), .int 0, .int 24] cal_X10_copies gm_RX10_221 X hw hA hl.1 (c_X10_copies l E F 101 92 rfl rfl 0 0 24 S23 S24 eS24) ⟨⟨rfl, rfl⟩, Nat.le_of_ble_eq_true rfl, Nat.le_of_ble_eq_true rfl⟩ rfl rfl (Nat.le_of_ble_eq_true rfl) ⟨Nat.zero_le _, Nat.zero_le _⟩ dX10_becomes_73 (fun H locs hw => ?_)
  refine lv_aload_n X.1 X.2.1 dX10_becomes_76 rfl (lv_at hl 0 rfl) ?_
  refine lv_aload_n X.1 X.2.1 dX10_becomes_77 rfl (lv_at hl 0 rfl) ?_
  refine si_getI X hw si_cl10 30 (by decide) gf_RX10_169 rfl rfl rfl dX10_becomes_78 ?_
  obtain ⟨S25, eS25, hf⟩ := si_ob hf
  refine si_ptI X hw si_cl10 8 (by decide) gf_RX10_225 rfl rfl rfl rfl rfl eS25 dX10_becomes_81 (fun H locs hw => ?_)
  refine lv_aload_n X.1 X.2.1 dX10_becomes_84 rfl (lv_at hl 0 rfl) ?_
  refine si_getR (k' := 102) (d := 15) X hw si_cl10 31 (by decide) gf_RX10_61 rfl rfl rfl (by decide) rfl dX10_becomes_85 ?_
  refine lv_iconst (v := 0) X.1 X.2.1 dX10_becomes_88 (by decide) ?_
  refine lv_aload_n X.1 X.2.1 dX10_becomes_89 rfl (lv_at hl 0 rfl) ?_
  refine si_getR (k' := 93) (d := 6) X hw si_cl10 9 (by decide) gf_RX10_29 rfl rfl rfl (by decide) rfl dX10_becomes_90 ?_
  refine lv_iconst (v := 0) X.1 X.2.1 dX10_becomes_93 (by decide) ?_
  refine lv_bipush (v := 10) X.1 X.2.1 dX10_becomes_94 (by decide) ?_
  obtain ⟨S26, eS26, hf⟩ := si_ob hf
  refine si_cSv [.ref (E.2.1 102), .int 0, .ref (E.2.1 93), .int 0, .int 10] cal_X10_copies gm_RX10_221 X hw hA hl.1 (c_X10_copies l E F 102 93 rfl rfl 0 0 10 S25 S26 eS26) ⟨⟨rfl, rfl⟩, Nat.le_of_ble_eq_true rfl, Nat.le_of_ble_eq_true rfl⟩ rfl rfl (Nat.le_of_ble_eq_true rfl) ⟨Nat.zero_le _, Nat.zero_le _⟩ dX10_becomes_96 (fun H locs hw => ?_)
  refine lv_aload_n X.1 X.2.1 dX10_becomes_99 rfl (lv_at hl 0 rfl) ?_
  refine lv_aload_n X.1 X.2.1 dX10_becomes_100 rfl (lv_at hl 0 rfl) ?_
  refine si_getI X hw si_cl10 32 (by decide) gf_RX10_180 rfl rfl rfl dX10_becomes_101 ?_
  obtain ⟨S27, eS27, hf⟩ := si_ob hf
  refine si_ptI X hw si_cl10 10 (by decide) gf_RX10_228 rfl rfl rfl rfl rfl eS27 dX10_becomes_104 (fun H locs hw => ?_)
  refine lv_aload_n X.1 X.2.1 dX10_becomes_107 rfl (lv_at hl 0 rfl) ?_
  refine si_getR (k' := 103) (d := 16) X hw si_cl10 33 (by decide) gf_RX10_64 rfl rfl rfl (by decide) rfl dX10_becomes_108 ?_
  refine lv_iconst (v := 0) X.1 X.2.1 dX10_becomes_111 (by decide) ?_
  refine lv_aload_n X.1 X.2.1 dX10_becomes_112 rfl (lv_at hl 0 rfl) ?_
  refine si_getR (k' := 94) (d := 7) X hw si_cl10 11 (by decide) gf_RX10_32 rfl rfl rfl (by decide) rfl dX10_becomes_113 ?_
  refine lv_iconst (v := 0) X.1 X.2.1 dX10_becomes_116 (by decide) ?_
  refine lv_iconst (v := 4) X.1 X.2.1 dX10_becomes_117 (by decide) ?_
  obtain ⟨S28, eS28, hf⟩ := si_ob hf
  refine si_cSv [.ref (E.2.1 103), .int 0, .ref (E.2.1 94), .int 0, .int 4] cal_X10_copies gm_RX10_221 X hw hA hl.1 (c_X10_copies l E F 103 94 rfl rfl 0 0 4 S27 S28 eS28) ⟨⟨rfl, rfl⟩, Nat.le_of_ble_eq_true rfl, Nat.le_of_ble_eq_true rfl⟩ rfl rfl (Nat.le_of_ble_eq_true rfl) ⟨Nat.zero_le _, Nat.zero_le _⟩ dX10_becomes_118 (fun H locs hw => ?_)
  refine lv_iconst (v := 0) X.1 X.2.1 dX10_becomes_121 (by decide) ?_
  refine lv_istore_n (lv' := [(1, .int 0), (0, .ref (E.2.1 87))]) X.1 X.2.1 dX10_becomes_122 rfl hl (by decide) rfl (fun ls hl => ?_)
  exact B123 F _ _ _ _ _ hf hw (lv_sub hl [1, 0] rfl)
abbrev rm_X10_parse : Room := { frames := 7, cells := 0, slots := 0, locals := 152 }
set_option maxHeartbeats 4000000 in
set_option maxRecDepth 100000 in
theorem c_X10_parse (l : Launch) (E : si_Ev) (F : Nat) (x1 : Int32) (S : si_St) (o : Int32 × si_St) (hf : f_X10_parse F x1 S = some o) : si_Mi l E yX10_parse cX10_parse 3 (some .int) rm_X10_parse [.ref (E.2.1 87), .int x1] S o := by
  refine si_ofWi (plainFor_of_name (by decide +kernel)) (Nat.le_of_ble_eq_true rfl) ?_
  intro p e s m args below meth c ls Q A X hw hA hl hret
  have hl : lv_has ls 3 [(0, .ref (E.2.1 87)), (1, .int x1)] := hl
  have B112 : ∀ (x2 : Int32) (S : si_St) (H : Heap) (locs : List Loc) (ls : Array Slot) , f_X10_parse_h112 F x2 S = some o → si_Ws E A s.heap S H locs → lv_has ls 3 [(0, .ref (E.2.1 87)), (2, .int x2)] → W p l e rm_X10_parse s m args below meth c H locs 0 0 Q (F0 m 112 ls []) := by
    intro x2  S H locs ls  hf hw hl
    unfold f_X10_parse_h112 at hf
    refine lv_iload_n X.1 X.2.1 dX10_parse_112 rfl (lv_at hl 1 rfl) ?_
    refine lv_if_ne (tgt := 121) X.1 X.2.1 dX10_parse_113 (by decide) (fun c113 => ?_) (fun c113 => ?_)
    · have hf := si_in c113 hf
      refine lv_aload_n X.1 X.2.1 dX10_parse_121 rfl (lv_at hl 0 rfl) ?_
      obtain ⟨S1, eS1, hf⟩ := si_ob hf
      refine si_cVv [] cal_X10_becomes gm_RX10_212 X hw hA hl.1 (c_X10_becomes l E F S S1 eS1) si_cl10 rfl ⟨⟨rfl, rfl⟩, Nat.le_of_ble_eq_true rfl, Nat.le_of_ble_eq_true rfl⟩ rfl rfl (Nat.le_of_ble_eq_true rfl) ⟨Nat.zero_le _, Nat.zero_le _⟩ dX10_parse_122 (fun H locs hw => ?_)
      refine lv_iconst (v := 0) X.1 X.2.1 dX10_parse_125 (by decide) ?_
      exact hret _ _ _ _ _ _ hf hw dX10_parse_126
    · have hf := si_ip c113 hf
      refine lv_aload_n X.1 X.2.1 dX10_parse_116 rfl (lv_at hl 0 rfl) ?_
      refine si_getI X hw si_cl10 21 (by decide) gf_RX10_141 rfl rfl rfl dX10_parse_117 ?_
      exact hret _ _ _ _ _ _ hf hw dX10_parse_120
  have B93 : ∀ (n93 : Nat) (x2 : Int32) (S : si_St) (H : Heap) (locs : List Loc) (ls : Array Slot) , f_X10_parse_l93 F n93 x2 S = some o → si_Ws E A s.heap S H locs → lv_has ls 3 [(0, .ref (E.2.1 87)), (2, .int x2)] → W p l e rm_X10_parse s m args below meth c H locs 0 0 Q (F0 m 93 ls []) := by
    intro n93
    induction n93 with
    | zero => intro x2  S H locs ls  hf; cases hf
    | succ n93 ih93 =>
      intro x2  S H locs ls  hf hw hl
      have hf : f_X10_parse_h93 F (f_X10_parse_l93 F n93) x2 S = some o := hf
      unfold f_X10_parse_h93 at hf
      refine lv_iload_n X.1 X.2.1 dX10_parse_93 rfl (lv_at hl 1 rfl) ?_
      refine lv_if_eq (tgt := 112) X.1 X.2.1 dX10_parse_94 (by decide) (fun c94 => ?_) (fun c94 => ?_)
      · have hf := si_ip c94 hf
        exact B112 _ _ _ _ _ hf hw (lv_sub hl [0, 1] rfl)
      · have hf := si_in c94 hf
        refine lv_aload_n X.1 X.2.1 dX10_parse_97 rfl (lv_at hl 0 rfl) ?_
        refine si_getI X hw si_cl10 19 (by decide) gf_RX10_117 rfl rfl rfl dX10_parse_98 ?_
        refine lv_if_eq (tgt := 112) X.1 X.2.1 dX10_parse_101 (by decide) (fun c101 => ?_) (fun c101 => ?_)
        · have hf := si_ip c101 hf
          exact B112 _ _ _ _ _ hf hw (lv_sub hl [0, 1] rfl)
        · have hf := si_in c101 hf
          refine lv_aload_n X.1 X.2.1 dX10_parse_104 rfl (lv_at hl 0 rfl) ?_
          obtain ⟨q2, eq2, hf⟩ := si_ob hf
          refine si_cVi [] cal_X10_statement gm_RX10_209 X hw hA hl.1 (c_X10_statement l E F S q2 eq2) si_cl10 rfl ⟨⟨rfl, rfl⟩, Nat.le_of_ble_eq_true rfl, Nat.le_of_ble_eq_true rfl⟩ rfl rfl (Nat.le_of_ble_eq_true rfl) ⟨Nat.zero_le _, Nat.zero_le _⟩ dX10_parse_105 (fun H locs hw => ?_)
          refine lv_istore_n (lv' := [(2, .int q2.1), (0, .ref (E.2.1 87))]) X.1 X.2.1 dX10_parse_108 rfl hl (by decide) rfl (fun ls hl => ?_)
          refine lv_goto (tgt := 93) X.1 X.2.1 dX10_parse_109 (by decide) ?_
          exact ih93 _ _ _ _ _ hf hw (lv_sub hl [1, 0] rfl)
  have B69 : ∀ (n69 : Nat) (x2 : Int32) (S : si_St) (H : Heap) (locs : List Loc) (ls : Array Slot) , f_X10_parse_l69 F n69 x2 S = some o → si_Ws E A s.heap S H locs → lv_has ls 3 [(0, .ref (E.2.1 87)), (2, .int x2)] → W p l e rm_X10_parse s m args below meth c H locs 0 0 Q (F0 m 69 ls []) := by
    intro n69
    induction n69 with
    | zero => intro x2  S H locs ls  hf; cases hf
    | succ n69 ih69 =>
      intro x2  S H locs ls  hf hw hl
      have hf : f_X10_parse_h69 F (f_X10_parse_l69 F n69) x2 S = some o := hf
      unfold f_X10_parse_h69 at hf
      refine lv_iload_n X.1 X.2.1 dX10_parse_69 rfl (lv_at hl 1 rfl) ?_
      refine lv_iconst (v := 3) X.1 X.2.1 dX10_parse_70 (by decide) ?_
      refine lv_icmp_ge (tgt := 87) X.1 X.2.1 dX10_parse_71 (by decide) (fun c71 => ?_) (fun c71 => ?_)
      · have hf := si_ip c71 hf
        refine lv_aload_n X.1 X.2.1 dX10_parse_87 rfl (lv_at hl 0 rfl) ?_
        obtain ⟨S3, eS3, hf⟩ := si_ob hf
        refine si_cVv [] cal_X10_advance gm_RX10_151 X hw hA hl.1 (c_X10_advance l E F S S3 eS3) si_cl10 rfl ⟨⟨rfl, rfl⟩, Nat.le_of_ble_eq_true rfl, Nat.le_of_ble_eq_true rfl⟩ rfl rfl (Nat.le_of_ble_eq_true rfl) ⟨Nat.zero_le _, Nat.zero_le _⟩ dX10_parse_88 (fun H locs hw => ?_)
        refine lv_iconst (v := 1) X.1 X.2.1 dX10_parse_91 (by decide) ?_
        refine lv_istore_n (lv' := [(2, .int 1), (0, .ref (E.2.1 87))]) X.1 X.2.1 dX10_parse_92 rfl hl (by decide) rfl (fun ls hl => ?_)
        exact B93 F _ _ _ _ _ hf hw (lv_sub hl [1, 0] rfl)
      · have hf := si_in c71 hf
        refine lv_aload_n X.1 X.2.1 dX10_parse_74 rfl (lv_at hl 0 rfl) ?_
        refine si_getR (k' := 105) (d := 18) X hw si_cl10 35 (by decide) gf_RX10_70 rfl rfl rfl (by decide) rfl dX10_parse_75 ?_
        refine lv_iload_n X.1 X.2.1 dX10_parse_78 rfl (lv_at hl 1 rfl) ?_
        refine lv_iconst (v := 0) X.1 X.2.1 dX10_parse_79 (by decide) ?_
        obtain ⟨S4, eS4, hf⟩ := si_ob hf
        refine si_iast X hw rfl eS4 dX10_parse_80 (fun H locs hw => ?_)
        obtain ⟨v5, ev5, hf⟩ := si_ob hf
        refine lv_iinc (v := v5) (lv' := [(2, .int v5), (0, .ref (E.2.1 87))]) X.1 X.2.1 dX10_parse_81 hl (k := 1) rfl (Option.some.inj ev5) (by decide) rfl (fun ls hl => ?_)
        refine lv_goto (tgt := 69) X.1 X.2.1 dX10_parse_84 (by decide) ?_
        exact ih69 _ _ _ _ _ hf hw (lv_sub hl [1, 0] rfl)
  unfold f_X10_parse at hf
  refine lv_aload_n X.1 X.2.1 dX10_parse_0 rfl (lv_at hl 0 rfl) ?_
  refine lv_iconst (v := 0) X.1 X.2.1 dX10_parse_1 (by decide) ?_
  obtain ⟨S6, eS6, hf⟩ := si_ob hf
  refine si_ptI X hw si_cl10 0 (by decide) gf_RX10_1 rfl rfl rfl rfl rfl eS6 dX10_parse_2 (fun H locs hw => ?_)
  refine lv_iload_n X.1 X.2.1 dX10_parse_5 rfl (lv_at hl 1 rfl) ?_
  refine lv_i2l (v := (Int32.toInt64 x1)) X.1 X.2.1 dX10_parse_6 rfl ?_
  refine lv_lconst (v := (0 : Int64)) X.1 X.2.1 dX10_parse_7 (by decide) ?_
  refine lv_aload_n X.1 X.2.1 dX10_parse_8 rfl (lv_at hl 0 rfl) ?_
  refine si_getI X hw si_cl10 15 (by decide) gf_RX10_94 rfl rfl rfl dX10_parse_9 ?_
  refine lv_i2l (v := (Int32.toInt64 (S6.1 87 15))) X.1 X.2.1 dX10_parse_12 rfl ?_
  obtain ⟨q7, eq7, hf⟩ := si_ob hf
  refine si_cSi [.long (Int32.toInt64 x1), .long (0 : Int64), .long (Int32.toInt64 (S6.1 87 15))] cal_X10_within gm_RX10_124 X hw hA hl.1 (c_X10_within l E F (Int32.toInt64 x1) (0 : Int64) (Int32.toInt64 (S6.1 87 15)) S6 q7 eq7) ⟨⟨rfl, rfl⟩, Nat.le_of_ble_eq_true rfl, Nat.le_of_ble_eq_true rfl⟩ rfl rfl (Nat.le_of_ble_eq_true rfl) ⟨Nat.zero_le _, Nat.zero_le _⟩ dX10_parse_13 (fun H locs hw => ?_)
  refine lv_if_ne (tgt := 21) X.1 X.2.1 dX10_parse_16 (by decide) (fun c16 => ?_) (fun c16 => ?_)
  · have hf := si_in c16 hf
    refine lv_aload_n X.1 X.2.1 dX10_parse_21 rfl (lv_at hl 0 rfl) ?_
    refine lv_iload_n X.1 X.2.1 dX10_parse_22 rfl (lv_at hl 1 rfl) ?_
    obtain ⟨S8, eS8, hf⟩ := si_ob hf
    refine si_ptI X hw si_cl10 16 (by decide) gf_RX10_101 rfl rfl rfl rfl rfl eS8 dX10_parse_23 (fun H locs hw => ?_)
    refine lv_aload_n X.1 X.2.1 dX10_parse_26 rfl (lv_at hl 0 rfl) ?_
    refine lv_iconst (v := 0) X.1 X.2.1 dX10_parse_27 (by decide) ?_
    obtain ⟨S9, eS9, hf⟩ := si_ob hf
    refine si_ptI X hw si_cl10 15 (by decide) gf_RX10_94 rfl rfl rfl rfl rfl eS9 dX10_parse_28 (fun H locs hw => ?_)
    refine lv_aload_n X.1 X.2.1 dX10_parse_31 rfl (lv_at hl 0 rfl) ?_
    refine lv_iconst (v := 0) X.1 X.2.1 dX10_parse_32 (by decide) ?_
    obtain ⟨S10, eS10, hf⟩ := si_ob hf
    refine si_ptI X hw si_cl10 18 (by decide) gf_RX10_104 rfl rfl rfl rfl rfl eS10 dX10_parse_33 (fun H locs hw => ?_)
    refine lv_aload_n X.1 X.2.1 dX10_parse_36 rfl (lv_at hl 0 rfl) ?_
    refine lv_iconst (v := 0) X.1 X.2.1 dX10_parse_37 (by decide) ?_
    obtain ⟨S11, eS11, hf⟩ := si_ob hf
    refine si_ptI X hw si_cl10 21 (by decide) gf_RX10_141 rfl rfl rfl rfl rfl eS11 dX10_parse_38 (fun H locs hw => ?_)
    refine lv_aload_n X.1 X.2.1 dX10_parse_41 rfl (lv_at hl 0 rfl) ?_
    refine lv_bipush (v := (-2)) X.1 X.2.1 dX10_parse_42 (by decide) ?_
    obtain ⟨S12, eS12, hf⟩ := si_ob hf
    refine si_ptI X hw si_cl10 22 (by decide) gf_RX10_46 rfl rfl rfl rfl rfl eS12 dX10_parse_44 (fun H locs hw => ?_)
    refine lv_aload_n X.1 X.2.1 dX10_parse_47 rfl (lv_at hl 0 rfl) ?_
    refine lv_iconst (v := 0) X.1 X.2.1 dX10_parse_48 (by decide) ?_
    obtain ⟨S13, eS13, hf⟩ := si_ob hf
    refine si_ptI X hw si_cl10 24 (by decide) gf_RX10_154 rfl rfl rfl rfl rfl eS13 dX10_parse_49 (fun H locs hw => ?_)
    refine lv_aload_n X.1 X.2.1 dX10_parse_52 rfl (lv_at hl 0 rfl) ?_
    refine lv_iconst (v := 0) X.1 X.2.1 dX10_parse_53 (by decide) ?_
    obtain ⟨S14, eS14, hf⟩ := si_ob hf
    refine si_ptI X hw si_cl10 25 (by decide) gf_RX10_161 rfl rfl rfl rfl rfl eS14 dX10_parse_54 (fun H locs hw => ?_)
    refine lv_aload_n X.1 X.2.1 dX10_parse_57 rfl (lv_at hl 0 rfl) ?_
    refine lv_iconst (v := 0) X.1 X.2.1 dX10_parse_58 (by decide) ?_
    obtain ⟨S15, eS15, hf⟩ := si_ob hf
    refine si_ptI X hw si_cl10 30 (by decide) gf_RX10_169 rfl rfl rfl rfl rfl eS15 dX10_parse_59 (fun H locs hw => ?_)
    refine lv_aload_n X.1 X.2.1 dX10_parse_62 rfl (lv_at hl 0 rfl) ?_
    refine lv_iconst (v := 0) X.1 X.2.1 dX10_parse_63 (by decide) ?_
    obtain ⟨S16, eS16, hf⟩ := si_ob hf
    refine si_ptI X hw si_cl10 32 (by decide) gf_RX10_180 rfl rfl rfl rfl rfl eS16 dX10_parse_64 (fun H locs hw => ?_)
    refine lv_iconst (v := 0) X.1 X.2.1 dX10_parse_67 (by decide) ?_
    refine lv_istore_n (lv' := [(2, .int 0), (0, .ref (E.2.1 87)), (1, .int x1)]) X.1 X.2.1 dX10_parse_68 rfl hl (by decide) rfl (fun ls hl => ?_)
    exact B69 F _ _ _ _ _ hf hw (lv_sub hl [1, 0] rfl)
  · have hf := si_ip c16 hf
    refine lv_iconst (v := (-1)) X.1 X.2.1 dX10_parse_19 (by decide) ?_
    exact hret _ _ _ _ _ _ hf hw dX10_parse_20

theorem dX11_byteAt_0 : decode cX11_byteAt 0 = .ok (.iload_n 1, 1) := by decide +kernel
theorem dX11_byteAt_1 : decode cX11_byteAt 1 = .ok (.aload_n 0, 1) := by decide +kernel
theorem dX11_byteAt_2 : decode cX11_byteAt 2 = .ok (.getfield 73, 3) := by decide +kernel
theorem dX11_byteAt_5 : decode cX11_byteAt 5 = .ok (.if_icmp .ge 16, 3) := by decide +kernel
theorem dX11_byteAt_8 : decode cX11_byteAt 8 = .ok (.aload_n 0, 1) := by decide +kernel
theorem dX11_byteAt_9 : decode cX11_byteAt 9 = .ok (.getfield 8, 3) := by decide +kernel
theorem dX11_byteAt_12 : decode cX11_byteAt 12 = .ok (.sipush 10340, 3) := by decide +kernel
theorem dX11_byteAt_15 : decode cX11_byteAt 15 = .ok (.iload_n 1, 1) := by decide +kernel
theorem dX11_byteAt_16 : decode cX11_byteAt 16 = .ok (.iadd, 1) := by decide +kernel
theorem dX11_byteAt_17 : decode cX11_byteAt 17 = .ok (.iaload, 1) := by decide +kernel
theorem dX11_byteAt_18 : decode cX11_byteAt 18 = .ok (.goto 4, 3) := by decide +kernel
theorem dX11_byteAt_21 : decode cX11_byteAt 21 = .ok (.iconst (-1), 1) := by decide +kernel
theorem dX11_byteAt_22 : decode cX11_byteAt 22 = .ok (.ireturn, 1) := by decide +kernel

theorem dX11_isLetter_0 : decode cX11_isLetter 0 = .ok (.iload_n 0, 1) := by decide +kernel
theorem dX11_isLetter_1 : decode cX11_isLetter 1 = .ok (.bipush 97, 2) := by decide +kernel
theorem dX11_isLetter_3 : decode cX11_isLetter 3 = .ok (.if_icmp .lt 13, 3) := by decide +kernel
theorem dX11_isLetter_6 : decode cX11_isLetter 6 = .ok (.iload_n 0, 1) := by decide +kernel
theorem dX11_isLetter_7 : decode cX11_isLetter 7 = .ok (.bipush 122, 2) := by decide +kernel
theorem dX11_isLetter_9 : decode cX11_isLetter 9 = .ok (.if_icmp .gt 7, 3) := by decide +kernel
theorem dX11_isLetter_12 : decode cX11_isLetter 12 = .ok (.iconst 1, 1) := by decide +kernel
theorem dX11_isLetter_13 : decode cX11_isLetter 13 = .ok (.goto 4, 3) := by decide +kernel
theorem dX11_isLetter_16 : decode cX11_isLetter 16 = .ok (.iconst 0, 1) := by decide +kernel
theorem dX11_isLetter_17 : decode cX11_isLetter 17 = .ok (.ireturn, 1) := by decide +kernel

theorem dX11_isDigit_0 : decode cX11_isDigit 0 = .ok (.iload_n 0, 1) := by decide +kernel
theorem dX11_isDigit_1 : decode cX11_isDigit 1 = .ok (.bipush 48, 2) := by decide +kernel
theorem dX11_isDigit_3 : decode cX11_isDigit 3 = .ok (.if_icmp .lt 13, 3) := by decide +kernel
theorem dX11_isDigit_6 : decode cX11_isDigit 6 = .ok (.iload_n 0, 1) := by decide +kernel
theorem dX11_isDigit_7 : decode cX11_isDigit 7 = .ok (.bipush 57, 2) := by decide +kernel
theorem dX11_isDigit_9 : decode cX11_isDigit 9 = .ok (.if_icmp .gt 7, 3) := by decide +kernel
theorem dX11_isDigit_12 : decode cX11_isDigit 12 = .ok (.iconst 1, 1) := by decide +kernel
theorem dX11_isDigit_13 : decode cX11_isDigit 13 = .ok (.goto 4, 3) := by decide +kernel
theorem dX11_isDigit_16 : decode cX11_isDigit 16 = .ok (.iconst 0, 1) := by decide +kernel
theorem dX11_isDigit_17 : decode cX11_isDigit 17 = .ok (.ireturn, 1) := by decide +kernel

theorem dX11_two_0 : decode cX11_two 0 = .ok (.ldc2_w 77, 3) := by decide +kernel
theorem dX11_two_3 : decode cX11_two 3 = .ok (.iload_n 0, 1) := by decide +kernel
theorem dX11_two_4 : decode cX11_two 4 = .ok (.bipush 96, 2) := by decide +kernel
theorem dX11_two_6 : decode cX11_two 6 = .ok (.isub, 1) := by decide +kernel
theorem dX11_two_7 : decode cX11_two 7 = .ok (.i2l, 1) := by decide +kernel
theorem dX11_two_8 : decode cX11_two 8 = .ok (.lmul, 1) := by decide +kernel
theorem dX11_two_9 : decode cX11_two 9 = .ok (.iload_n 1, 1) := by decide +kernel
theorem dX11_two_10 : decode cX11_two 10 = .ok (.i2l, 1) := by decide +kernel
theorem dX11_two_11 : decode cX11_two 11 = .ok (.ladd, 1) := by decide +kernel
theorem dX11_two_12 : decode cX11_two 12 = .ok (.ldc2_w 79, 3) := by decide +kernel
theorem dX11_two_15 : decode cX11_two 15 = .ok (.lsub, 1) := by decide +kernel
theorem dX11_two_16 : decode cX11_two 16 = .ok (.lreturn, 1) := by decide +kernel

theorem dX11_four_0 : decode cX11_four 0 = .ok (.iload_n 0, 1) := by decide +kernel
theorem dX11_four_1 : decode cX11_four 1 = .ok (.iload_n 1, 1) := by decide +kernel
theorem dX11_four_2 : decode cX11_four 2 = .ok (.invokestatic 81, 3) := by decide +kernel
theorem dX11_four_5 : decode cX11_four 5 = .ok (.ldc2_w 85, 3) := by decide +kernel
theorem dX11_four_8 : decode cX11_four 8 = .ok (.lmul, 1) := by decide +kernel
theorem dX11_four_9 : decode cX11_four 9 = .ok (.iload_n 2, 1) := by decide +kernel
theorem dX11_four_10 : decode cX11_four 10 = .ok (.iload_n 3, 1) := by decide +kernel
theorem dX11_four_11 : decode cX11_four 11 = .ok (.invokestatic 81, 3) := by decide +kernel
theorem dX11_four_14 : decode cX11_four 14 = .ok (.ladd, 1) := by decide +kernel
theorem dX11_four_15 : decode cX11_four 15 = .ok (.lreturn, 1) := by decide +kernel

theorem dX11_wordOf_0 : decode cX11_wordOf 0 = .ok (.lload_n 0, 1) := by decide +kernel
theorem dX11_wordOf_1 : decode cX11_wordOf 1 = .ok (.bipush 104, 2) := by decide +kernel
theorem dX11_wordOf_3 : decode cX11_wordOf 3 = .ok (.bipush 111, 2) := by decide +kernel
theorem dX11_wordOf_5 : decode cX11_wordOf 5 = .ok (.bipush 117, 2) := by decide +kernel
theorem dX11_wordOf_7 : decode cX11_wordOf 7 = .ok (.bipush 114, 2) := by decide +kernel
theorem dX11_wordOf_9 : decode cX11_wordOf 9 = .ok (.invokestatic 87, 3) := by decide +kernel
theorem dX11_wordOf_12 : decode cX11_wordOf 12 = .ok (.lcmp, 1) := by decide +kernel
theorem dX11_wordOf_13 : decode cX11_wordOf 13 = .ok (.ifCond .ne 5, 3) := by decide +kernel
theorem dX11_wordOf_16 : decode cX11_wordOf 16 = .ok (.iconst 0, 1) := by decide +kernel
theorem dX11_wordOf_17 : decode cX11_wordOf 17 = .ok (.ireturn, 1) := by decide +kernel
theorem dX11_wordOf_18 : decode cX11_wordOf 18 = .ok (.lload_n 0, 1) := by decide +kernel
theorem dX11_wordOf_19 : decode cX11_wordOf 19 = .ok (.bipush 108, 2) := by decide +kernel
theorem dX11_wordOf_21 : decode cX11_wordOf 21 = .ok (.bipush 101, 2) := by decide +kernel
theorem dX11_wordOf_23 : decode cX11_wordOf 23 = .ok (.bipush 118, 2) := by decide +kernel
theorem dX11_wordOf_25 : decode cX11_wordOf 25 = .ok (.bipush 101, 2) := by decide +kernel
theorem dX11_wordOf_27 : decode cX11_wordOf 27 = .ok (.invokestatic 87, 3) := by decide +kernel
theorem dX11_wordOf_30 : decode cX11_wordOf 30 = .ok (.ldc2_w 77, 3) := by decide +kernel
theorem dX11_wordOf_33 : decode cX11_wordOf 33 = .ok (.lmul, 1) := by decide +kernel
theorem dX11_wordOf_34 : decode cX11_wordOf 34 = .ok (.ldc2_w 91, 3) := by decide +kernel
theorem dX11_wordOf_37 : decode cX11_wordOf 37 = .ok (.ladd, 1) := by decide +kernel
theorem dX11_wordOf_38 : decode cX11_wordOf 38 = .ok (.ldc2_w 79, 3) := by decide +kernel
theorem dX11_wordOf_41 : decode cX11_wordOf 41 = .ok (.lsub, 1) := by decide +kernel
theorem dX11_wordOf_42 : decode cX11_wordOf 42 = .ok (.lcmp, 1) := by decide +kernel
theorem dX11_wordOf_43 : decode cX11_wordOf 43 = .ok (.ifCond .ne 5, 3) := by decide +kernel
theorem dX11_wordOf_46 : decode cX11_wordOf 46 = .ok (.iconst 1, 1) := by decide +kernel
theorem dX11_wordOf_47 : decode cX11_wordOf 47 = .ok (.ireturn, 1) := by decide +kernel
theorem dX11_wordOf_48 : decode cX11_wordOf 48 = .ok (.lload_n 0, 1) := by decide +kernel
theorem dX11_wordOf_49 : decode cX11_wordOf 49 = .ok (.bipush 114, 2) := by decide +kernel
theorem dX11_wordOf_51 : decode cX11_wordOf 51 = .ok (.bipush 105, 2) := by decide +kernel
theorem dX11_wordOf_53 : decode cX11_wordOf 53 = .ok (.bipush 100, 2) := by decide +kernel
theorem dX11_wordOf_55 : decode cX11_wordOf 55 = .ok (.bipush 103, 2) := by decide +kernel
theorem dX11_wordOf_57 : decode cX11_wordOf 57 = .ok (.invokestatic 87, 3) := by decide +kernel
theorem dX11_wordOf_60 : decode cX11_wordOf 60 = .ok (.ldc2_w 77, 3) := by decide +kernel
theorem dX11_wordOf_63 : decode cX11_wordOf 63 = .ok (.lmul, 1) := by decide +kernel
theorem dX11_wordOf_64 : decode cX11_wordOf 64 = .ok (.ldc2_w 93, 3) := by decide +kernel
theorem dX11_wordOf_67 : decode cX11_wordOf 67 = .ok (.ladd, 1) := by decide +kernel
theorem dX11_wordOf_68 : decode cX11_wordOf 68 = .ok (.ldc2_w 79, 3) := by decide +kernel
theorem dX11_wordOf_71 : decode cX11_wordOf 71 = .ok (.lsub, 1) := by decide +kernel
theorem dX11_wordOf_72 : decode cX11_wordOf 72 = .ok (.lcmp, 1) := by decide +kernel
theorem dX11_wordOf_73 : decode cX11_wordOf 73 = .ok (.ifCond .ne 5, 3) := by decide +kernel
theorem dX11_wordOf_76 : decode cX11_wordOf 76 = .ok (.iconst 2, 1) := by decide +kernel
theorem dX11_wordOf_77 : decode cX11_wordOf 77 = .ok (.ireturn, 1) := by decide +kernel
theorem dX11_wordOf_78 : decode cX11_wordOf 78 = .ok (.lload_n 0, 1) := by decide +kernel
theorem dX11_wordOf_79 : decode cX11_wordOf 79 = .ok (.bipush 102, 2) := by decide +kernel
theorem dX11_wordOf_81 : decode cX11_wordOf 81 = .ok (.bipush 117, 2) := by decide +kernel
theorem dX11_wordOf_83 : decode cX11_wordOf 83 = .ok (.bipush 101, 2) := by decide +kernel
theorem dX11_wordOf_85 : decode cX11_wordOf 85 = .ok (.bipush 108, 2) := by decide +kernel
theorem dX11_wordOf_87 : decode cX11_wordOf 87 = .ok (.invokestatic 87, 3) := by decide +kernel
theorem dX11_wordOf_90 : decode cX11_wordOf 90 = .ok (.lcmp, 1) := by decide +kernel
theorem dX11_wordOf_91 : decode cX11_wordOf 91 = .ok (.ifCond .ne 5, 3) := by decide +kernel
theorem dX11_wordOf_94 : decode cX11_wordOf 94 = .ok (.iconst 3, 1) := by decide +kernel
theorem dX11_wordOf_95 : decode cX11_wordOf 95 = .ok (.ireturn, 1) := by decide +kernel
theorem dX11_wordOf_96 : decode cX11_wordOf 96 = .ok (.lload_n 0, 1) := by decide +kernel
theorem dX11_wordOf_97 : decode cX11_wordOf 97 = .ok (.bipush 104, 2) := by decide +kernel
theorem dX11_wordOf_99 : decode cX11_wordOf 99 = .ok (.bipush 101, 2) := by decide +kernel
theorem dX11_wordOf_101 : decode cX11_wordOf 101 = .ok (.bipush 108, 2) := by decide +kernel
theorem dX11_wordOf_103 : decode cX11_wordOf 103 = .ok (.bipush 100, 2) := by decide +kernel
theorem dX11_wordOf_105 : decode cX11_wordOf 105 = .ok (.invokestatic 87, 3) := by decide +kernel
theorem dX11_wordOf_108 : decode cX11_wordOf 108 = .ok (.lcmp, 1) := by decide +kernel
theorem dX11_wordOf_109 : decode cX11_wordOf 109 = .ok (.ifCond .ne 5, 3) := by decide +kernel
theorem dX11_wordOf_112 : decode cX11_wordOf 112 = .ok (.iconst 4, 1) := by decide +kernel
theorem dX11_wordOf_113 : decode cX11_wordOf 113 = .ok (.ireturn, 1) := by decide +kernel
theorem dX11_wordOf_114 : decode cX11_wordOf 114 = .ok (.lload_n 0, 1) := by decide +kernel
theorem dX11_wordOf_115 : decode cX11_wordOf 115 = .ok (.bipush 110, 2) := by decide +kernel
theorem dX11_wordOf_117 : decode cX11_wordOf 117 = .ok (.bipush 101, 2) := by decide +kernel
theorem dX11_wordOf_119 : decode cX11_wordOf 119 = .ok (.bipush 97, 2) := by decide +kernel
theorem dX11_wordOf_121 : decode cX11_wordOf 121 = .ok (.bipush 114, 2) := by decide +kernel
theorem dX11_wordOf_123 : decode cX11_wordOf 123 = .ok (.invokestatic 87, 3) := by decide +kernel
theorem dX11_wordOf_126 : decode cX11_wordOf 126 = .ok (.lcmp, 1) := by decide +kernel
theorem dX11_wordOf_127 : decode cX11_wordOf 127 = .ok (.ifCond .ne 5, 3) := by decide +kernel
theorem dX11_wordOf_130 : decode cX11_wordOf 130 = .ok (.iconst 5, 1) := by decide +kernel
theorem dX11_wordOf_131 : decode cX11_wordOf 131 = .ok (.ireturn, 1) := by decide +kernel
theorem dX11_wordOf_132 : decode cX11_wordOf 132 = .ok (.lload_n 0, 1) := by decide +kernel
theorem dX11_wordOf_133 : decode cX11_wordOf 133 = .ok (.bipush 114, 2) := by decide +kernel
theorem dX11_wordOf_135 : decode cX11_wordOf 135 = .ok (.bipush 111, 2) := by decide +kernel
theorem dX11_wordOf_137 : decode cX11_wordOf 137 = .ok (.invokestatic 81, 3) := by decide +kernel
theorem dX11_wordOf_140 : decode cX11_wordOf 140 = .ok (.ldc2_w 77, 3) := by decide +kernel
theorem dX11_wordOf_143 : decode cX11_wordOf 143 = .ok (.lmul, 1) := by decide +kernel
theorem dX11_wordOf_144 : decode cX11_wordOf 144 = .ok (.ldc2_w 95, 3) := by decide +kernel
theorem dX11_wordOf_147 : decode cX11_wordOf 147 = .ok (.ladd, 1) := by decide +kernel
theorem dX11_wordOf_148 : decode cX11_wordOf 148 = .ok (.ldc2_w 79, 3) := by decide +kernel
theorem dX11_wordOf_151 : decode cX11_wordOf 151 = .ok (.lsub, 1) := by decide +kernel
theorem dX11_wordOf_152 : decode cX11_wordOf 152 = .ok (.lcmp, 1) := by decide +kernel
theorem dX11_wordOf_153 : decode cX11_wordOf 153 = .ok (.ifCond .ne 6, 3) := by decide +kernel
theorem dX11_wordOf_156 : decode cX11_wordOf 156 = .ok (.bipush 6, 2) := by decide +kernel
theorem dX11_wordOf_158 : decode cX11_wordOf 158 = .ok (.ireturn, 1) := by decide +kernel
theorem dX11_wordOf_159 : decode cX11_wordOf 159 = .ok (.lload_n 0, 1) := by decide +kernel
theorem dX11_wordOf_160 : decode cX11_wordOf 160 = .ok (.bipush 99, 2) := by decide +kernel
theorem dX11_wordOf_162 : decode cX11_wordOf 162 = .ok (.bipush 111, 2) := by decide +kernel
theorem dX11_wordOf_164 : decode cX11_wordOf 164 = .ok (.bipush 108, 2) := by decide +kernel
theorem dX11_wordOf_166 : decode cX11_wordOf 166 = .ok (.bipush 117, 2) := by decide +kernel
theorem dX11_wordOf_168 : decode cX11_wordOf 168 = .ok (.invokestatic 87, 3) := by decide +kernel
theorem dX11_wordOf_171 : decode cX11_wordOf 171 = .ok (.ldc2_w 85, 3) := by decide +kernel
theorem dX11_wordOf_174 : decode cX11_wordOf 174 = .ok (.lmul, 1) := by decide +kernel
theorem dX11_wordOf_175 : decode cX11_wordOf 175 = .ok (.bipush 109, 2) := by decide +kernel
theorem dX11_wordOf_177 : decode cX11_wordOf 177 = .ok (.bipush 110, 2) := by decide +kernel
theorem dX11_wordOf_179 : decode cX11_wordOf 179 = .ok (.invokestatic 81, 3) := by decide +kernel
theorem dX11_wordOf_182 : decode cX11_wordOf 182 = .ok (.ladd, 1) := by decide +kernel
theorem dX11_wordOf_183 : decode cX11_wordOf 183 = .ok (.lcmp, 1) := by decide +kernel
theorem dX11_wordOf_184 : decode cX11_wordOf 184 = .ok (.ifCond .ne 6, 3) := by decide +kernel
theorem dX11_wordOf_187 : decode cX11_wordOf 187 = .ok (.bipush 7, 2) := by decide +kernel
theorem dX11_wordOf_189 : decode cX11_wordOf 189 = .ok (.ireturn, 1) := by decide +kernel
theorem dX11_wordOf_190 : decode cX11_wordOf 190 = .ok (.lload_n 0, 1) := by decide +kernel
theorem dX11_wordOf_191 : decode cX11_wordOf 191 = .ok (.bipush 110, 2) := by decide +kernel
theorem dX11_wordOf_193 : decode cX11_wordOf 193 = .ok (.bipush 111, 2) := by decide +kernel
theorem dX11_wordOf_195 : decode cX11_wordOf 195 = .ok (.bipush 114, 2) := by decide +kernel
theorem dX11_wordOf_197 : decode cX11_wordOf 197 = .ok (.bipush 116, 2) := by decide +kernel
theorem dX11_wordOf_199 : decode cX11_wordOf 199 = .ok (.invokestatic 87, 3) := by decide +kernel
theorem dX11_wordOf_202 : decode cX11_wordOf 202 = .ok (.ldc2_w 77, 3) := by decide +kernel
theorem dX11_wordOf_205 : decode cX11_wordOf 205 = .ok (.lmul, 1) := by decide +kernel
theorem dX11_wordOf_206 : decode cX11_wordOf 206 = .ok (.ldc2_w 97, 3) := by decide +kernel
theorem dX11_wordOf_209 : decode cX11_wordOf 209 = .ok (.ladd, 1) := by decide +kernel
theorem dX11_wordOf_210 : decode cX11_wordOf 210 = .ok (.ldc2_w 79, 3) := by decide +kernel
theorem dX11_wordOf_213 : decode cX11_wordOf 213 = .ok (.lsub, 1) := by decide +kernel
theorem dX11_wordOf_214 : decode cX11_wordOf 214 = .ok (.lcmp, 1) := by decide +kernel
theorem dX11_wordOf_215 : decode cX11_wordOf 215 = .ok (.ifCond .ne 6, 3) := by decide +kernel
theorem dX11_wordOf_218 : decode cX11_wordOf 218 = .ok (.bipush 8, 2) := by decide +kernel
theorem dX11_wordOf_220 : decode cX11_wordOf 220 = .ok (.ireturn, 1) := by decide +kernel
theorem dX11_wordOf_221 : decode cX11_wordOf 221 = .ok (.lload_n 0, 1) := by decide +kernel
theorem dX11_wordOf_222 : decode cX11_wordOf 222 = .ok (.bipush 101, 2) := by decide +kernel
theorem dX11_wordOf_224 : decode cX11_wordOf 224 = .ok (.bipush 97, 2) := by decide +kernel
theorem dX11_wordOf_226 : decode cX11_wordOf 226 = .ok (.bipush 115, 2) := by decide +kernel
theorem dX11_wordOf_228 : decode cX11_wordOf 228 = .ok (.bipush 116, 2) := by decide +kernel
theorem dX11_wordOf_230 : decode cX11_wordOf 230 = .ok (.invokestatic 87, 3) := by decide +kernel
theorem dX11_wordOf_233 : decode cX11_wordOf 233 = .ok (.lcmp, 1) := by decide +kernel
theorem dX11_wordOf_234 : decode cX11_wordOf 234 = .ok (.ifCond .ne 6, 3) := by decide +kernel
theorem dX11_wordOf_237 : decode cX11_wordOf 237 = .ok (.bipush 9, 2) := by decide +kernel
theorem dX11_wordOf_239 : decode cX11_wordOf 239 = .ok (.ireturn, 1) := by decide +kernel
theorem dX11_wordOf_240 : decode cX11_wordOf 240 = .ok (.lload_n 0, 1) := by decide +kernel
theorem dX11_wordOf_241 : decode cX11_wordOf 241 = .ok (.bipush 115, 2) := by decide +kernel
theorem dX11_wordOf_243 : decode cX11_wordOf 243 = .ok (.bipush 111, 2) := by decide +kernel
theorem dX11_wordOf_245 : decode cX11_wordOf 245 = .ok (.bipush 117, 2) := by decide +kernel
theorem dX11_wordOf_247 : decode cX11_wordOf 247 = .ok (.bipush 116, 2) := by decide +kernel
theorem dX11_wordOf_249 : decode cX11_wordOf 249 = .ok (.invokestatic 87, 3) := by decide +kernel
theorem dX11_wordOf_252 : decode cX11_wordOf 252 = .ok (.ldc2_w 77, 3) := by decide +kernel
theorem dX11_wordOf_255 : decode cX11_wordOf 255 = .ok (.lmul, 1) := by decide +kernel
theorem dX11_wordOf_256 : decode cX11_wordOf 256 = .ok (.ldc2_w 97, 3) := by decide +kernel
theorem dX11_wordOf_259 : decode cX11_wordOf 259 = .ok (.ladd, 1) := by decide +kernel
theorem dX11_wordOf_260 : decode cX11_wordOf 260 = .ok (.ldc2_w 79, 3) := by decide +kernel
theorem dX11_wordOf_263 : decode cX11_wordOf 263 = .ok (.lsub, 1) := by decide +kernel
theorem dX11_wordOf_264 : decode cX11_wordOf 264 = .ok (.lcmp, 1) := by decide +kernel
theorem dX11_wordOf_265 : decode cX11_wordOf 265 = .ok (.ifCond .ne 6, 3) := by decide +kernel
theorem dX11_wordOf_268 : decode cX11_wordOf 268 = .ok (.bipush 10, 2) := by decide +kernel
theorem dX11_wordOf_270 : decode cX11_wordOf 270 = .ok (.ireturn, 1) := by decide +kernel
theorem dX11_wordOf_271 : decode cX11_wordOf 271 = .ok (.lload_n 0, 1) := by decide +kernel
theorem dX11_wordOf_272 : decode cX11_wordOf 272 = .ok (.bipush 119, 2) := by decide +kernel
theorem dX11_wordOf_274 : decode cX11_wordOf 274 = .ok (.bipush 101, 2) := by decide +kernel
theorem dX11_wordOf_276 : decode cX11_wordOf 276 = .ok (.bipush 115, 2) := by decide +kernel
theorem dX11_wordOf_278 : decode cX11_wordOf 278 = .ok (.bipush 116, 2) := by decide +kernel
theorem dX11_wordOf_280 : decode cX11_wordOf 280 = .ok (.invokestatic 87, 3) := by decide +kernel
theorem dX11_wordOf_283 : decode cX11_wordOf 283 = .ok (.lcmp, 1) := by decide +kernel
theorem dX11_wordOf_284 : decode cX11_wordOf 284 = .ok (.ifCond .ne 6, 3) := by decide +kernel
theorem dX11_wordOf_287 : decode cX11_wordOf 287 = .ok (.bipush 11, 2) := by decide +kernel
theorem dX11_wordOf_289 : decode cX11_wordOf 289 = .ok (.ireturn, 1) := by decide +kernel
theorem dX11_wordOf_290 : decode cX11_wordOf 290 = .ok (.lload_n 0, 1) := by decide +kernel
theorem dX11_wordOf_291 : decode cX11_wordOf 291 = .ok (.bipush 116, 2) := by decide +kernel
theorem dX11_wordOf_293 : decode cX11_wordOf 293 = .ok (.bipush 111, 2) := by decide +kernel
theorem dX11_wordOf_295 : decode cX11_wordOf 295 = .ok (.bipush 108, 2) := by decide +kernel
theorem dX11_wordOf_297 : decode cX11_wordOf 297 = .ok (.bipush 100, 2) := by decide +kernel
theorem dX11_wordOf_299 : decode cX11_wordOf 299 = .ok (.invokestatic 87, 3) := by decide +kernel
theorem dX11_wordOf_302 : decode cX11_wordOf 302 = .ok (.lcmp, 1) := by decide +kernel
theorem dX11_wordOf_303 : decode cX11_wordOf 303 = .ok (.ifCond .ne 6, 3) := by decide +kernel
theorem dX11_wordOf_306 : decode cX11_wordOf 306 = .ok (.bipush 12, 2) := by decide +kernel
theorem dX11_wordOf_308 : decode cX11_wordOf 308 = .ok (.ireturn, 1) := by decide +kernel
theorem dX11_wordOf_309 : decode cX11_wordOf 309 = .ok (.lload_n 0, 1) := by decide +kernel
theorem dX11_wordOf_310 : decode cX11_wordOf 310 = .ok (.bipush 119, 2) := by decide +kernel
theorem dX11_wordOf_312 : decode cX11_wordOf 312 = .ok (.bipush 97, 2) := by decide +kernel
theorem dX11_wordOf_314 : decode cX11_wordOf 314 = .ok (.bipush 105, 2) := by decide +kernel
theorem dX11_wordOf_316 : decode cX11_wordOf 316 = .ok (.bipush 116, 2) := by decide +kernel
theorem dX11_wordOf_318 : decode cX11_wordOf 318 = .ok (.invokestatic 87, 3) := by decide +kernel
theorem dX11_wordOf_321 : decode cX11_wordOf 321 = .ok (.lcmp, 1) := by decide +kernel
theorem dX11_wordOf_322 : decode cX11_wordOf 322 = .ok (.ifCond .ne 6, 3) := by decide +kernel
theorem dX11_wordOf_325 : decode cX11_wordOf 325 = .ok (.bipush 24, 2) := by decide +kernel
theorem dX11_wordOf_327 : decode cX11_wordOf 327 = .ok (.ireturn, 1) := by decide +kernel
theorem dX11_wordOf_328 : decode cX11_wordOf 328 = .ok (.lload_n 0, 1) := by decide +kernel
theorem dX11_wordOf_329 : decode cX11_wordOf 329 = .ok (.bipush 99, 2) := by decide +kernel
theorem dX11_wordOf_331 : decode cX11_wordOf 331 = .ok (.bipush 117, 2) := by decide +kernel
theorem dX11_wordOf_333 : decode cX11_wordOf 333 = .ok (.invokestatic 81, 3) := by decide +kernel
theorem dX11_wordOf_336 : decode cX11_wordOf 336 = .ok (.ldc2_w 77, 3) := by decide +kernel
theorem dX11_wordOf_339 : decode cX11_wordOf 339 = .ok (.lmul, 1) := by decide +kernel
theorem dX11_wordOf_340 : decode cX11_wordOf 340 = .ok (.ldc2_w 99, 3) := by decide +kernel
theorem dX11_wordOf_343 : decode cX11_wordOf 343 = .ok (.ladd, 1) := by decide +kernel
theorem dX11_wordOf_344 : decode cX11_wordOf 344 = .ok (.ldc2_w 79, 3) := by decide +kernel
theorem dX11_wordOf_347 : decode cX11_wordOf 347 = .ok (.lsub, 1) := by decide +kernel
theorem dX11_wordOf_348 : decode cX11_wordOf 348 = .ok (.lcmp, 1) := by decide +kernel
theorem dX11_wordOf_349 : decode cX11_wordOf 349 = .ok (.ifCond .ne 6, 3) := by decide +kernel
theorem dX11_wordOf_352 : decode cX11_wordOf 352 = .ok (.bipush 25, 2) := by decide +kernel
theorem dX11_wordOf_354 : decode cX11_wordOf 354 = .ok (.ireturn, 1) := by decide +kernel
theorem dX11_wordOf_355 : decode cX11_wordOf 355 = .ok (.lload_n 0, 1) := by decide +kernel
theorem dX11_wordOf_356 : decode cX11_wordOf 356 = .ok (.bipush 99, 2) := by decide +kernel
theorem dX11_wordOf_358 : decode cX11_wordOf 358 = .ok (.bipush 97, 2) := by decide +kernel
theorem dX11_wordOf_360 : decode cX11_wordOf 360 = .ok (.bipush 108, 2) := by decide +kernel
theorem dX11_wordOf_362 : decode cX11_wordOf 362 = .ok (.bipush 108, 2) := by decide +kernel
theorem dX11_wordOf_364 : decode cX11_wordOf 364 = .ok (.invokestatic 87, 3) := by decide +kernel
theorem dX11_wordOf_367 : decode cX11_wordOf 367 = .ok (.lcmp, 1) := by decide +kernel
theorem dX11_wordOf_368 : decode cX11_wordOf 368 = .ok (.ifCond .ne 6, 3) := by decide +kernel
theorem dX11_wordOf_371 : decode cX11_wordOf 371 = .ok (.bipush 26, 2) := by decide +kernel
theorem dX11_wordOf_373 : decode cX11_wordOf 373 = .ok (.ireturn, 1) := by decide +kernel
theorem dX11_wordOf_374 : decode cX11_wordOf 374 = .ok (.lload_n 0, 1) := by decide +kernel
theorem dX11_wordOf_375 : decode cX11_wordOf 375 = .ok (.bipush 105, 2) := by decide +kernel
theorem dX11_wordOf_377 : decode cX11_wordOf 377 = .ok (.bipush 102, 2) := by decide +kernel
theorem dX11_wordOf_379 : decode cX11_wordOf 379 = .ok (.invokestatic 81, 3) := by decide +kernel
theorem dX11_wordOf_382 : decode cX11_wordOf 382 = .ok (.lcmp, 1) := by decide +kernel
theorem dX11_wordOf_383 : decode cX11_wordOf 383 = .ok (.ifCond .ne 6, 3) := by decide +kernel
theorem dX11_wordOf_386 : decode cX11_wordOf 386 = .ok (.bipush 30, 2) := by decide +kernel
theorem dX11_wordOf_388 : decode cX11_wordOf 388 = .ok (.ireturn, 1) := by decide +kernel
theorem dX11_wordOf_389 : decode cX11_wordOf 389 = .ok (.lload_n 0, 1) := by decide +kernel
theorem dX11_wordOf_390 : decode cX11_wordOf 390 = .ok (.bipush 111, 2) := by decide +kernel
theorem dX11_wordOf_392 : decode cX11_wordOf 392 = .ok (.bipush 114, 2) := by decide +kernel
theorem dX11_wordOf_394 : decode cX11_wordOf 394 = .ok (.invokestatic 81, 3) := by decide +kernel
theorem dX11_wordOf_397 : decode cX11_wordOf 397 = .ok (.lcmp, 1) := by decide +kernel
theorem dX11_wordOf_398 : decode cX11_wordOf 398 = .ok (.ifCond .ne 6, 3) := by decide +kernel
theorem dX11_wordOf_401 : decode cX11_wordOf 401 = .ok (.bipush 31, 2) := by decide +kernel
theorem dX11_wordOf_403 : decode cX11_wordOf 403 = .ok (.ireturn, 1) := by decide +kernel
theorem dX11_wordOf_404 : decode cX11_wordOf 404 = .ok (.lload_n 0, 1) := by decide +kernel
theorem dX11_wordOf_405 : decode cX11_wordOf 405 = .ok (.bipush 97, 2) := by decide +kernel
theorem dX11_wordOf_407 : decode cX11_wordOf 407 = .ok (.bipush 110, 2) := by decide +kernel
theorem dX11_wordOf_409 : decode cX11_wordOf 409 = .ok (.invokestatic 81, 3) := by decide +kernel
theorem dX11_wordOf_412 : decode cX11_wordOf 412 = .ok (.ldc2_w 77, 3) := by decide +kernel
theorem dX11_wordOf_415 : decode cX11_wordOf 415 = .ok (.lmul, 1) := by decide +kernel
theorem dX11_wordOf_416 : decode cX11_wordOf 416 = .ok (.ldc2_w 101, 3) := by decide +kernel
theorem dX11_wordOf_419 : decode cX11_wordOf 419 = .ok (.ladd, 1) := by decide +kernel
theorem dX11_wordOf_420 : decode cX11_wordOf 420 = .ok (.ldc2_w 79, 3) := by decide +kernel
theorem dX11_wordOf_423 : decode cX11_wordOf 423 = .ok (.lsub, 1) := by decide +kernel
theorem dX11_wordOf_424 : decode cX11_wordOf 424 = .ok (.lcmp, 1) := by decide +kernel
theorem dX11_wordOf_425 : decode cX11_wordOf 425 = .ok (.ifCond .ne 6, 3) := by decide +kernel
theorem dX11_wordOf_428 : decode cX11_wordOf 428 = .ok (.bipush 32, 2) := by decide +kernel
theorem dX11_wordOf_430 : decode cX11_wordOf 430 = .ok (.ireturn, 1) := by decide +kernel
theorem dX11_wordOf_431 : decode cX11_wordOf 431 = .ok (.lload_n 0, 1) := by decide +kernel
theorem dX11_wordOf_432 : decode cX11_wordOf 432 = .ok (.bipush 110, 2) := by decide +kernel
theorem dX11_wordOf_434 : decode cX11_wordOf 434 = .ok (.bipush 111, 2) := by decide +kernel
theorem dX11_wordOf_436 : decode cX11_wordOf 436 = .ok (.invokestatic 81, 3) := by decide +kernel
theorem dX11_wordOf_439 : decode cX11_wordOf 439 = .ok (.ldc2_w 77, 3) := by decide +kernel
theorem dX11_wordOf_442 : decode cX11_wordOf 442 = .ok (.lmul, 1) := by decide +kernel
theorem dX11_wordOf_443 : decode cX11_wordOf 443 = .ok (.ldc2_w 99, 3) := by decide +kernel
theorem dX11_wordOf_446 : decode cX11_wordOf 446 = .ok (.ladd, 1) := by decide +kernel
theorem dX11_wordOf_447 : decode cX11_wordOf 447 = .ok (.ldc2_w 79, 3) := by decide +kernel
theorem dX11_wordOf_450 : decode cX11_wordOf 450 = .ok (.lsub, 1) := by decide +kernel
theorem dX11_wordOf_451 : decode cX11_wordOf 451 = .ok (.lcmp, 1) := by decide +kernel
theorem dX11_wordOf_452 : decode cX11_wordOf 452 = .ok (.ifCond .ne 6, 3) := by decide +kernel
theorem dX11_wordOf_455 : decode cX11_wordOf 455 = .ok (.bipush 33, 2) := by decide +kernel
theorem dX11_wordOf_457 : decode cX11_wordOf 457 = .ok (.ireturn, 1) := by decide +kernel
theorem dX11_wordOf_458 : decode cX11_wordOf 458 = .ok (.bipush 99, 2) := by decide +kernel
theorem dX11_wordOf_460 : decode cX11_wordOf 460 = .ok (.ireturn, 1) := by decide +kernel

theorem dX11_isSignByte_0 : decode cX11_isSignByte 0 = .ok (.iload_n 0, 1) := by decide +kernel
theorem dX11_isSignByte_1 : decode cX11_isSignByte 1 = .ok (.bipush 40, 2) := by decide +kernel
theorem dX11_isSignByte_3 : decode cX11_isSignByte 3 = .ok (.if_icmp .eq 39, 3) := by decide +kernel
theorem dX11_isSignByte_6 : decode cX11_isSignByte 6 = .ok (.iload_n 0, 1) := by decide +kernel
theorem dX11_isSignByte_7 : decode cX11_isSignByte 7 = .ok (.bipush 41, 2) := by decide +kernel
theorem dX11_isSignByte_9 : decode cX11_isSignByte 9 = .ok (.if_icmp .eq 33, 3) := by decide +kernel
theorem dX11_isSignByte_12 : decode cX11_isSignByte 12 = .ok (.iload_n 0, 1) := by decide +kernel
theorem dX11_isSignByte_13 : decode cX11_isSignByte 13 = .ok (.bipush 58, 2) := by decide +kernel
theorem dX11_isSignByte_15 : decode cX11_isSignByte 15 = .ok (.if_icmp .eq 27, 3) := by decide +kernel
theorem dX11_isSignByte_18 : decode cX11_isSignByte 18 = .ok (.iload_n 0, 1) := by decide +kernel
theorem dX11_isSignByte_19 : decode cX11_isSignByte 19 = .ok (.bipush 59, 2) := by decide +kernel
theorem dX11_isSignByte_21 : decode cX11_isSignByte 21 = .ok (.if_icmp .eq 21, 3) := by decide +kernel
theorem dX11_isSignByte_24 : decode cX11_isSignByte 24 = .ok (.iload_n 0, 1) := by decide +kernel
theorem dX11_isSignByte_25 : decode cX11_isSignByte 25 = .ok (.bipush 61, 2) := by decide +kernel
theorem dX11_isSignByte_27 : decode cX11_isSignByte 27 = .ok (.if_icmp .eq 15, 3) := by decide +kernel
theorem dX11_isSignByte_30 : decode cX11_isSignByte 30 = .ok (.iload_n 0, 1) := by decide +kernel
theorem dX11_isSignByte_31 : decode cX11_isSignByte 31 = .ok (.bipush 60, 2) := by decide +kernel
theorem dX11_isSignByte_33 : decode cX11_isSignByte 33 = .ok (.if_icmp .eq 9, 3) := by decide +kernel
theorem dX11_isSignByte_36 : decode cX11_isSignByte 36 = .ok (.iload_n 0, 1) := by decide +kernel
theorem dX11_isSignByte_37 : decode cX11_isSignByte 37 = .ok (.bipush 62, 2) := by decide +kernel
theorem dX11_isSignByte_39 : decode cX11_isSignByte 39 = .ok (.if_icmp .ne 7, 3) := by decide +kernel
theorem dX11_isSignByte_42 : decode cX11_isSignByte 42 = .ok (.iconst 1, 1) := by decide +kernel
theorem dX11_isSignByte_43 : decode cX11_isSignByte 43 = .ok (.goto 4, 3) := by decide +kernel
theorem dX11_isSignByte_46 : decode cX11_isSignByte 46 = .ok (.iconst 0, 1) := by decide +kernel
theorem dX11_isSignByte_47 : decode cX11_isSignByte 47 = .ok (.ireturn, 1) := by decide +kernel

theorem dX11_advance_0 : decode cX11_advance 0 = .ok (.aload_n 0, 1) := by decide +kernel
theorem dX11_advance_1 : decode cX11_advance 1 = .ok (.aload_n 0, 1) := by decide +kernel
theorem dX11_advance_2 : decode cX11_advance 2 = .ok (.getfield 103, 3) := by decide +kernel
theorem dX11_advance_5 : decode cX11_advance 5 = .ok (.invokevirtual 106, 3) := by decide +kernel
theorem dX11_advance_8 : decode cX11_advance 8 = .ok (.bipush 10, 2) := by decide +kernel
theorem dX11_advance_10 : decode cX11_advance 10 = .ok (.if_icmp .eq 16, 3) := by decide +kernel
theorem dX11_advance_13 : decode cX11_advance 13 = .ok (.aload_n 0, 1) := by decide +kernel
theorem dX11_advance_14 : decode cX11_advance 14 = .ok (.aload_n 0, 1) := by decide +kernel
theorem dX11_advance_15 : decode cX11_advance 15 = .ok (.getfield 103, 3) := by decide +kernel
theorem dX11_advance_18 : decode cX11_advance 18 = .ok (.invokevirtual 106, 3) := by decide +kernel
theorem dX11_advance_21 : decode cX11_advance 21 = .ok (.bipush 32, 2) := by decide +kernel
theorem dX11_advance_23 : decode cX11_advance 23 = .ok (.if_icmp .ne 16, 3) := by decide +kernel
theorem dX11_advance_26 : decode cX11_advance 26 = .ok (.aload_n 0, 1) := by decide +kernel
theorem dX11_advance_27 : decode cX11_advance 27 = .ok (.dup, 1) := by decide +kernel
theorem dX11_advance_28 : decode cX11_advance 28 = .ok (.getfield 103, 3) := by decide +kernel
theorem dX11_advance_31 : decode cX11_advance 31 = .ok (.iconst 1, 1) := by decide +kernel
theorem dX11_advance_32 : decode cX11_advance 32 = .ok (.iadd, 1) := by decide +kernel
theorem dX11_advance_33 : decode cX11_advance 33 = .ok (.putfield 103, 3) := by decide +kernel
theorem dX11_advance_36 : decode cX11_advance 36 = .ok (.goto (-36), 3) := by decide +kernel
theorem dX11_advance_39 : decode cX11_advance 39 = .ok (.aload_n 0, 1) := by decide +kernel
theorem dX11_advance_40 : decode cX11_advance 40 = .ok (.aload_n 0, 1) := by decide +kernel
theorem dX11_advance_41 : decode cX11_advance 41 = .ok (.getfield 103, 3) := by decide +kernel
theorem dX11_advance_44 : decode cX11_advance 44 = .ok (.putfield 110, 3) := by decide +kernel
theorem dX11_advance_47 : decode cX11_advance 47 = .ok (.aload_n 0, 1) := by decide +kernel
theorem dX11_advance_48 : decode cX11_advance 48 = .ok (.aload_n 0, 1) := by decide +kernel
theorem dX11_advance_49 : decode cX11_advance 49 = .ok (.getfield 103, 3) := by decide +kernel
theorem dX11_advance_52 : decode cX11_advance 52 = .ok (.invokevirtual 106, 3) := by decide +kernel
theorem dX11_advance_55 : decode cX11_advance 55 = .ok (.istore_n 1, 1) := by decide +kernel
theorem dX11_advance_56 : decode cX11_advance 56 = .ok (.iload_n 1, 1) := by decide +kernel
theorem dX11_advance_57 : decode cX11_advance 57 = .ok (.ifCond .ge 11, 3) := by decide +kernel
theorem dX11_advance_60 : decode cX11_advance 60 = .ok (.aload_n 0, 1) := by decide +kernel
theorem dX11_advance_61 : decode cX11_advance 61 = .ok (.iconst 0, 1) := by decide +kernel
theorem dX11_advance_62 : decode cX11_advance 62 = .ok (.putfield 113, 3) := by decide +kernel
theorem dX11_advance_65 : decode cX11_advance 65 = .ok (.goto 252, 3) := by decide +kernel
theorem dX11_advance_68 : decode cX11_advance 68 = .ok (.iload_n 1, 1) := by decide +kernel
theorem dX11_advance_69 : decode cX11_advance 69 = .ok (.invokestatic 116, 3) := by decide +kernel
theorem dX11_advance_72 : decode cX11_advance 72 = .ok (.ifCond .eq 114, 3) := by decide +kernel
theorem dX11_advance_75 : decode cX11_advance 75 = .ok (.lconst 0, 1) := by decide +kernel
theorem dX11_advance_76 : decode cX11_advance 76 = .ok (.lstore_n 2, 1) := by decide +kernel
theorem dX11_advance_77 : decode cX11_advance 77 = .ok (.aload_n 0, 1) := by decide +kernel
theorem dX11_advance_78 : decode cX11_advance 78 = .ok (.aload_n 0, 1) := by decide +kernel
theorem dX11_advance_79 : decode cX11_advance 79 = .ok (.getfield 103, 3) := by decide +kernel
theorem dX11_advance_82 : decode cX11_advance 82 = .ok (.invokevirtual 106, 3) := by decide +kernel
theorem dX11_advance_85 : decode cX11_advance 85 = .ok (.invokestatic 116, 3) := by decide +kernel
theorem dX11_advance_88 : decode cX11_advance 88 = .ok (.ifCond .eq 50, 3) := by decide +kernel
theorem dX11_advance_91 : decode cX11_advance 91 = .ok (.aload_n 0, 1) := by decide +kernel
theorem dX11_advance_92 : decode cX11_advance 92 = .ok (.getfield 103, 3) := by decide +kernel
theorem dX11_advance_95 : decode cX11_advance 95 = .ok (.aload_n 0, 1) := by decide +kernel
theorem dX11_advance_96 : decode cX11_advance 96 = .ok (.getfield 110, 3) := by decide +kernel
theorem dX11_advance_99 : decode cX11_advance 99 = .ok (.isub, 1) := by decide +kernel
theorem dX11_advance_100 : decode cX11_advance 100 = .ok (.bipush 7, 2) := by decide +kernel
theorem dX11_advance_102 : decode cX11_advance 102 = .ok (.if_icmp .ge 23, 3) := by decide +kernel
theorem dX11_advance_105 : decode cX11_advance 105 = .ok (.ldc2_w 77, 3) := by decide +kernel
theorem dX11_advance_108 : decode cX11_advance 108 = .ok (.lload_n 2, 1) := by decide +kernel
theorem dX11_advance_109 : decode cX11_advance 109 = .ok (.lmul, 1) := by decide +kernel
theorem dX11_advance_110 : decode cX11_advance 110 = .ok (.aload_n 0, 1) := by decide +kernel
theorem dX11_advance_111 : decode cX11_advance 111 = .ok (.aload_n 0, 1) := by decide +kernel
theorem dX11_advance_112 : decode cX11_advance 112 = .ok (.getfield 103, 3) := by decide +kernel
theorem dX11_advance_115 : decode cX11_advance 115 = .ok (.invokevirtual 106, 3) := by decide +kernel
theorem dX11_advance_118 : decode cX11_advance 118 = .ok (.i2l, 1) := by decide +kernel
theorem dX11_advance_119 : decode cX11_advance 119 = .ok (.ladd, 1) := by decide +kernel
theorem dX11_advance_120 : decode cX11_advance 120 = .ok (.ldc2_w 79, 3) := by decide +kernel
theorem dX11_advance_123 : decode cX11_advance 123 = .ok (.lsub, 1) := by decide +kernel
theorem dX11_advance_124 : decode cX11_advance 124 = .ok (.lstore_n 2, 1) := by decide +kernel
theorem dX11_advance_125 : decode cX11_advance 125 = .ok (.aload_n 0, 1) := by decide +kernel
theorem dX11_advance_126 : decode cX11_advance 126 = .ok (.dup, 1) := by decide +kernel
theorem dX11_advance_127 : decode cX11_advance 127 = .ok (.getfield 103, 3) := by decide +kernel
theorem dX11_advance_130 : decode cX11_advance 130 = .ok (.iconst 1, 1) := by decide +kernel
theorem dX11_advance_131 : decode cX11_advance 131 = .ok (.iadd, 1) := by decide +kernel
theorem dX11_advance_132 : decode cX11_advance 132 = .ok (.putfield 103, 3) := by decide +kernel
theorem dX11_advance_135 : decode cX11_advance 135 = .ok (.goto (-58), 3) := by decide +kernel
theorem dX11_advance_138 : decode cX11_advance 138 = .ok (.aload_n 0, 1) := by decide +kernel
theorem dX11_advance_139 : decode cX11_advance 139 = .ok (.aload_n 0, 1) := by decide +kernel
theorem dX11_advance_140 : decode cX11_advance 140 = .ok (.getfield 103, 3) := by decide +kernel
theorem dX11_advance_143 : decode cX11_advance 143 = .ok (.aload_n 0, 1) := by decide +kernel
theorem dX11_advance_144 : decode cX11_advance 144 = .ok (.getfield 110, 3) := by decide +kernel
theorem dX11_advance_147 : decode cX11_advance 147 = .ok (.isub, 1) := by decide +kernel
theorem dX11_advance_148 : decode cX11_advance 148 = .ok (.bipush 6, 2) := by decide +kernel
theorem dX11_advance_150 : decode cX11_advance 150 = .ok (.if_icmp .le 8, 3) := by decide +kernel
theorem dX11_advance_153 : decode cX11_advance 153 = .ok (.bipush 99, 2) := by decide +kernel
theorem dX11_advance_155 : decode cX11_advance 155 = .ok (.goto 7, 3) := by decide +kernel
theorem dX11_advance_158 : decode cX11_advance 158 = .ok (.lload_n 2, 1) := by decide +kernel
theorem dX11_advance_159 : decode cX11_advance 159 = .ok (.invokestatic 120, 3) := by decide +kernel
theorem dX11_advance_162 : decode cX11_advance 162 = .ok (.putfield 124, 3) := by decide +kernel
theorem dX11_advance_165 : decode cX11_advance 165 = .ok (.aload_n 0, 1) := by decide +kernel
theorem dX11_advance_166 : decode cX11_advance 166 = .ok (.aload_n 0, 1) := by decide +kernel
theorem dX11_advance_167 : decode cX11_advance 167 = .ok (.getfield 124, 3) := by decide +kernel
theorem dX11_advance_170 : decode cX11_advance 170 = .ok (.bipush 99, 2) := by decide +kernel
theorem dX11_advance_172 : decode cX11_advance 172 = .ok (.if_icmp .ne 7, 3) := by decide +kernel
theorem dX11_advance_175 : decode cX11_advance 175 = .ok (.iconst 4, 1) := by decide +kernel
theorem dX11_advance_176 : decode cX11_advance 176 = .ok (.goto 4, 3) := by decide +kernel
theorem dX11_advance_179 : decode cX11_advance 179 = .ok (.iconst 3, 1) := by decide +kernel
theorem dX11_advance_180 : decode cX11_advance 180 = .ok (.putfield 113, 3) := by decide +kernel
theorem dX11_advance_183 : decode cX11_advance 183 = .ok (.goto 134, 3) := by decide +kernel
theorem dX11_advance_186 : decode cX11_advance 186 = .ok (.iload_n 1, 1) := by decide +kernel
theorem dX11_advance_187 : decode cX11_advance 187 = .ok (.invokestatic 127, 3) := by decide +kernel
theorem dX11_advance_190 : decode cX11_advance 190 = .ok (.ifCond .eq 96, 3) := by decide +kernel
theorem dX11_advance_193 : decode cX11_advance 193 = .ok (.aload_n 0, 1) := by decide +kernel
theorem dX11_advance_194 : decode cX11_advance 194 = .ok (.iconst 0, 1) := by decide +kernel
theorem dX11_advance_195 : decode cX11_advance 195 = .ok (.putfield 130, 3) := by decide +kernel
theorem dX11_advance_198 : decode cX11_advance 198 = .ok (.aload_n 0, 1) := by decide +kernel
theorem dX11_advance_199 : decode cX11_advance 199 = .ok (.aload_n 0, 1) := by decide +kernel
theorem dX11_advance_200 : decode cX11_advance 200 = .ok (.getfield 103, 3) := by decide +kernel
theorem dX11_advance_203 : decode cX11_advance 203 = .ok (.invokevirtual 106, 3) := by decide +kernel
theorem dX11_advance_206 : decode cX11_advance 206 = .ok (.invokestatic 127, 3) := by decide +kernel
theorem dX11_advance_209 : decode cX11_advance 209 = .ok (.ifCond .eq 52, 3) := by decide +kernel
theorem dX11_advance_212 : decode cX11_advance 212 = .ok (.aload_n 0, 1) := by decide +kernel
theorem dX11_advance_213 : decode cX11_advance 213 = .ok (.getfield 103, 3) := by decide +kernel
theorem dX11_advance_216 : decode cX11_advance 216 = .ok (.aload_n 0, 1) := by decide +kernel
theorem dX11_advance_217 : decode cX11_advance 217 = .ok (.getfield 110, 3) := by decide +kernel
theorem dX11_advance_220 : decode cX11_advance 220 = .ok (.isub, 1) := by decide +kernel
theorem dX11_advance_221 : decode cX11_advance 221 = .ok (.iconst 4, 1) := by decide +kernel
theorem dX11_advance_222 : decode cX11_advance 222 = .ok (.if_icmp .ge 26, 3) := by decide +kernel
theorem dX11_advance_225 : decode cX11_advance 225 = .ok (.aload_n 0, 1) := by decide +kernel
theorem dX11_advance_226 : decode cX11_advance 226 = .ok (.bipush 10, 2) := by decide +kernel
theorem dX11_advance_228 : decode cX11_advance 228 = .ok (.aload_n 0, 1) := by decide +kernel
theorem dX11_advance_229 : decode cX11_advance 229 = .ok (.getfield 130, 3) := by decide +kernel
theorem dX11_advance_232 : decode cX11_advance 232 = .ok (.imul, 1) := by decide +kernel
theorem dX11_advance_233 : decode cX11_advance 233 = .ok (.aload_n 0, 1) := by decide +kernel
theorem dX11_advance_234 : decode cX11_advance 234 = .ok (.aload_n 0, 1) := by decide +kernel
theorem dX11_advance_235 : decode cX11_advance 235 = .ok (.getfield 103, 3) := by decide +kernel
theorem dX11_advance_238 : decode cX11_advance 238 = .ok (.invokevirtual 106, 3) := by decide +kernel
theorem dX11_advance_241 : decode cX11_advance 241 = .ok (.iadd, 1) := by decide +kernel
theorem dX11_advance_242 : decode cX11_advance 242 = .ok (.bipush 48, 2) := by decide +kernel
theorem dX11_advance_244 : decode cX11_advance 244 = .ok (.isub, 1) := by decide +kernel
theorem dX11_advance_245 : decode cX11_advance 245 = .ok (.putfield 130, 3) := by decide +kernel
theorem dX11_advance_248 : decode cX11_advance 248 = .ok (.aload_n 0, 1) := by decide +kernel
theorem dX11_advance_249 : decode cX11_advance 249 = .ok (.dup, 1) := by decide +kernel
theorem dX11_advance_250 : decode cX11_advance 250 = .ok (.getfield 103, 3) := by decide +kernel
theorem dX11_advance_253 : decode cX11_advance 253 = .ok (.iconst 1, 1) := by decide +kernel
theorem dX11_advance_254 : decode cX11_advance 254 = .ok (.iadd, 1) := by decide +kernel
theorem dX11_advance_255 : decode cX11_advance 255 = .ok (.putfield 103, 3) := by decide +kernel
theorem dX11_advance_258 : decode cX11_advance 258 = .ok (.goto (-60), 3) := by decide +kernel
theorem dX11_advance_261 : decode cX11_advance 261 = .ok (.aload_n 0, 1) := by decide +kernel
theorem dX11_advance_262 : decode cX11_advance 262 = .ok (.aload_n 0, 1) := by decide +kernel
theorem dX11_advance_263 : decode cX11_advance 263 = .ok (.getfield 103, 3) := by decide +kernel
theorem dX11_advance_266 : decode cX11_advance 266 = .ok (.aload_n 0, 1) := by decide +kernel
theorem dX11_advance_267 : decode cX11_advance 267 = .ok (.getfield 110, 3) := by decide +kernel
theorem dX11_advance_270 : decode cX11_advance 270 = .ok (.isub, 1) := by decide +kernel
theorem dX11_advance_271 : decode cX11_advance 271 = .ok (.iconst 4, 1) := by decide +kernel
theorem dX11_advance_272 : decode cX11_advance 272 = .ok (.if_icmp .le 7, 3) := by decide +kernel
theorem dX11_advance_275 : decode cX11_advance 275 = .ok (.iconst 4, 1) := by decide +kernel
theorem dX11_advance_276 : decode cX11_advance 276 = .ok (.goto 4, 3) := by decide +kernel
theorem dX11_advance_279 : decode cX11_advance 279 = .ok (.iconst 1, 1) := by decide +kernel
theorem dX11_advance_280 : decode cX11_advance 280 = .ok (.putfield 113, 3) := by decide +kernel
theorem dX11_advance_283 : decode cX11_advance 283 = .ok (.goto 34, 3) := by decide +kernel
theorem dX11_advance_286 : decode cX11_advance 286 = .ok (.aload_n 0, 1) := by decide +kernel
theorem dX11_advance_287 : decode cX11_advance 287 = .ok (.dup, 1) := by decide +kernel
theorem dX11_advance_288 : decode cX11_advance 288 = .ok (.getfield 103, 3) := by decide +kernel
theorem dX11_advance_291 : decode cX11_advance 291 = .ok (.iconst 1, 1) := by decide +kernel
theorem dX11_advance_292 : decode cX11_advance 292 = .ok (.iadd, 1) := by decide +kernel
theorem dX11_advance_293 : decode cX11_advance 293 = .ok (.putfield 103, 3) := by decide +kernel
theorem dX11_advance_296 : decode cX11_advance 296 = .ok (.aload_n 0, 1) := by decide +kernel
theorem dX11_advance_297 : decode cX11_advance 297 = .ok (.iload_n 1, 1) := by decide +kernel
theorem dX11_advance_298 : decode cX11_advance 298 = .ok (.putfield 133, 3) := by decide +kernel
theorem dX11_advance_301 : decode cX11_advance 301 = .ok (.aload_n 0, 1) := by decide +kernel
theorem dX11_advance_302 : decode cX11_advance 302 = .ok (.iload_n 1, 1) := by decide +kernel
theorem dX11_advance_303 : decode cX11_advance 303 = .ok (.invokestatic 136, 3) := by decide +kernel
theorem dX11_advance_306 : decode cX11_advance 306 = .ok (.ifCond .eq 7, 3) := by decide +kernel
theorem dX11_advance_309 : decode cX11_advance 309 = .ok (.iconst 2, 1) := by decide +kernel
theorem dX11_advance_310 : decode cX11_advance 310 = .ok (.goto 4, 3) := by decide +kernel
theorem dX11_advance_313 : decode cX11_advance 313 = .ok (.iconst 4, 1) := by decide +kernel
theorem dX11_advance_314 : decode cX11_advance 314 = .ok (.putfield 113, 3) := by decide +kernel
theorem dX11_advance_317 : decode cX11_advance 317 = .ok (.return_, 1) := by decide +kernel

/-! X11_byteAt -/
def wX11_byteAt (Q : Int32 → Prop) (x1 : Int32) (f_size : Int32) (r_all : Nat → Int32) : Prop :=
  ((f_size ≤ x1 → (Q (-1 : Int32))) ∧ (¬ f_size ≤ x1 → (vp_in ((10340 : Int32) + x1) 53700 ∧ (Q (r_all ((10340 : Int32) + x1).toNatClampNeg)))))
abbrev vX11_byteAt (cI cZ : ClassId) (h h_all h_has h_line h_act h_pile h_comes h_leaves h_tried h_met : Nat) (f_next : Int32) (f_where : Int32) (f_token : Int32) (f_number : Int32) (f_sign : Int32) (f_word : Int32) (f_wrong : Int32) (f_open : Int32) (f_lines : Int32) (f_acts : Int32) (f_size : Int32) (r_all : Nat → Int32) : va_W := [(h, .inr (10, [.ref h_all, .ref h_has, .int f_size, .int f_next, .int f_where, .int f_token, .int f_number, .int f_sign, .int f_word, .int f_wrong, .int f_open, .int f_lines, .int f_acts, .ref h_line, .ref h_act, .ref h_pile, .ref h_comes, .ref h_leaves, .ref h_tried, .ref h_met])), (h_all, .inl (cI, 53700, .inl r_all))]
abbrev rmX11_byteAt : Room := { frames := 0, cells := 0, slots := 0, locals := 0 }
abbrev qX11_byteAt (dC : Nat → ClassId) (dI : Nat → Nat → Nat) (cI cZ cO cW : ClassId) (h h_all h_has h_line h_act h_pile h_comes h_leaves h_tried h_met : Nat) (f_next : Int32) (f_where : Int32) (f_token : Int32) (f_number : Int32) (f_sign : Int32) (f_word : Int32) (f_wrong : Int32) (f_open : Int32) (f_lines : Int32) (f_acts : Int32) (f_size : Int32) (r_all : Nat → Int32) (Q : Int32 → Prop) (A : Nat → Prop) : Array Value → State → Outcome → State → Prop := va_Qi (fun (r : Int32) (u : Unit) => Q r) (fun (u : Unit) (t : State) => va_P (dC, dI) vwCl (vX11_byteAt cI cZ h h_all h_has h_line h_act h_pile h_comes h_leaves h_tried h_met f_next f_where f_token f_number f_sign f_word f_wrong f_open f_lines f_acts f_size r_all) t.heap ∧ va_K (dC, dI) vwCl (tysA cI cZ cO cW) t ∧ va_D A (vX11_byteAt cI cZ h h_all h_has h_line h_act h_pile h_comes h_leaves h_tried h_met f_next f_where f_token f_number f_sign f_word f_wrong f_open f_lines f_acts f_size r_all)) A
def zsX11_byteAt : List Cond := Cond.code yX11_byteAt cX11_byteAt 2 (some .int) :: GW
set_option maxHeartbeats 4000000 in
set_option maxRecDepth 100000 in
theorem tX11_byteAt_e {p : Program} {l : Launch} {e : Env} {s : State} {m : MethodId} {args : Array Value} {below : List Frame} {meth : Method} {c : Code} {dC : Nat → ClassId} {dI : Nat → Nat → Nat} {cI cZ cO cW : ClassId} {A : Nat → Prop} {h h_all h_has h_line h_act h_pile h_comes h_leaves h_tried h_met : Nat} {f_next f_where f_token f_number f_sign f_word f_wrong f_open f_lines f_acts : Int32} {Q : Int32 → Prop} (hC : Cx p s m args meth c cX11_byteAt (some .int) 2 GW RX11) (hK : va_K (dC, dI) vwCl (tysA cI cZ cO cW) s) (hA : ∀ q : Nat, s.heap.size ≤ q → A q) :
    ∀ (x1 : Int32) (f_size : Int32) (r_all : Nat → Int32) (H : Heap) (locs : List Loc) (ls : Array Slot), wX11_byteAt Q x1 f_size r_all → va_P (dC, dI) vwCl (vX11_byteAt cI cZ h h_all h_has h_line h_act h_pile h_comes h_leaves h_tried h_met f_next f_where f_token f_number f_sign f_word f_wrong f_open f_lines f_acts f_size r_all) H → va_D A (vX11_byteAt cI cZ h h_all h_has h_line h_act h_pile h_comes h_leaves h_tried h_met f_next f_where f_token f_number f_sign f_word f_wrong f_open f_lines f_acts f_size r_all) → va_S A s.heap H locs → lv_has ls 2 [(0, .ref h), (1, .int x1)] → W p l e rmX11_byteAt s m args below meth c H locs 0 0 (MQ below (qX11_byteAt dC dI cI cZ cO cW h h_all h_has h_line h_act h_pile h_comes h_leaves h_tried h_met f_next f_where f_token f_number f_sign f_word f_wrong f_open f_lines f_acts f_size r_all Q A) args s 0 0 A) (F0 m 0 ls []) := by
  obtain ⟨hx, hb, hr, hml, hown, hts, hlocks⟩ := id hC
  intro x1 f_size r_all H locs ls hw hP hD hS hl
  refine lv_iload_n hx hb dX11_byteAt_0 rfl (lv_at hl 1 rfl) ?_
  refine lv_aload_n hx hb dX11_byteAt_1 rfl (lv_at hl 0 rfl) ?_
  refine va_get (D := (dC, dI)) (ci := 10) (v := .int f_size) (C := RX11) (T := TX11) (N := 20) hx hb hts gu_X11 hown hK hP 0 rfl rfl 2 (by decide) (hts _ gw_663) (fun _ h9 => h9) rfl dX11_byteAt_2 ?_
  refine lv_icmp_ge (tgt := 21) hx hb dX11_byteAt_5 (by decide) (fun c_1 => ?_) (fun c_1 => ?_)
  · have hw := hw.1 c_1
    refine lv_iconst (v := (-1 : Int32)) hx hb dX11_byteAt_21 (by decide) ?_
    have hP9 := hP.sub (ws' := (vX11_byteAt cI cZ h h_all h_has h_line h_act h_pile h_comes h_leaves h_tried h_met f_next f_where f_token f_number f_sign f_word f_wrong f_open f_lines f_acts f_size r_all)) [0, 1] rfl
    have hD9 := hD.sub (ws' := (vX11_byteAt cI cZ h h_all h_has h_line h_act h_pile h_comes h_leaves h_tried h_met f_next f_where f_token f_number f_sign f_word f_wrong f_open f_lines f_acts f_size r_all)) [0, 1] (by decide) rfl
    exact W.iret (v := (-1 : Int32)) hx hb hr (fun t ht hW => ⟨⟨(-1 : Int32), (), rfl, hw, by rw [ht]; exact hP9, va_K.moved hW.alike hK, hD9⟩, hS.F ht⟩) hS.2.2 dX11_byteAt_22
  · have hw := hw.2 c_1
    refine lv_aload_n hx hb dX11_byteAt_8 rfl (lv_at hl 0 rfl) ?_
    refine va_get (D := (dC, dI)) (ci := 10) (v := .ref h_all) (C := RX11) (T := TX11) (N := 20) hx hb hts gu_X11 hown hK hP 0 rfl rfl 0 (by decide) (hts _ gw_607) (fun _ h9 => h9) rfl dX11_byteAt_9 ?_
    refine lv_sipush (v := (10340 : Int32)) hx hb dX11_byteAt_12 (by decide) ?_
    refine lv_iload_n hx hb dX11_byteAt_15 rfl (lv_at hl 1 rfl) ?_
    refine lv_iadd hx hb dX11_byteAt_16 ?_
    obtain ⟨h_2, hw⟩ := hw
    refine va_iald hx hb hK hP 1 0 rfl rfl h_2 dX11_byteAt_17 ?_
    refine lv_goto (tgt := 22) hx hb dX11_byteAt_18 (by decide) ?_
    have hP9 := hP.sub (ws' := (vX11_byteAt cI cZ h h_all h_has h_line h_act h_pile h_comes h_leaves h_tried h_met f_next f_where f_token f_number f_sign f_word f_wrong f_open f_lines f_acts f_size r_all)) [0, 1] rfl
    have hD9 := hD.sub (ws' := (vX11_byteAt cI cZ h h_all h_has h_line h_act h_pile h_comes h_leaves h_tried h_met f_next f_where f_token f_number f_sign f_word f_wrong f_open f_lines f_acts f_size r_all)) [0, 1] (by decide) rfl
    exact W.iret (v := (r_all ((10340 : Int32) + x1).toNatClampNeg)) hx hb hr (fun t ht hW => ⟨⟨(r_all ((10340 : Int32) + x1).toNatClampNeg), (), rfl, hw, by rw [ht]; exact hP9, va_K.moved hW.alike hK, hD9⟩, hS.F ht⟩) hS.2.2 dX11_byteAt_22
set_option maxHeartbeats 4000000 in
set_option maxRecDepth 100000 in
theorem kX11_byteAt (l : Launch) (dC : Nat → ClassId) (dI : Nat → Nat → Nat) (cI cZ cO cW : ClassId) (h h_all h_has h_line h_act h_pile h_comes h_leaves h_tried h_met : Nat)  (sz : Nat) (f_next : Int32) (f_where : Int32) (f_token : Int32) (f_number : Int32) (f_sign : Int32) (f_word : Int32) (f_wrong : Int32) (f_open : Int32) (f_lines : Int32) (f_acts : Int32) (f_size : Int32) (r_all : Nat → Int32) (x1 : Int32) (Q : Int32 → Prop) (hw : wX11_byteAt Q x1 f_size r_all) : Met l yX11_byteAt zsX11_byteAt rmX11_byteAt (va_Pc [.ref h, .int x1] (fun U => U.heap.size = sz ∧ va_P (dC, dI) vwCl (vX11_byteAt cI cZ h h_all h_has h_line h_act h_pile h_comes h_leaves h_tried h_met f_next f_where f_token f_number f_sign f_word f_wrong f_open f_lines f_acts f_size r_all) U.heap ∧ va_K (dC, dI) vwCl (tysA cI cZ cO cW) U ∧ va_D (fun _ => True) (vX11_byteAt cI cZ h h_all h_has h_line h_act h_pile h_comes h_leaves h_tried h_met f_next f_where f_token f_number f_sign f_word f_wrong f_open f_lines f_acts f_size r_all))) (qX11_byteAt dC dI cI cZ cO cW h h_all h_has h_line h_act h_pile h_comes h_leaves h_tried h_met f_next f_where f_token f_number f_sign f_word f_wrong f_open f_lines f_acts f_size r_all Q (va_A (vX11_byteAt cI cZ h h_all h_has h_line h_act h_pile h_comes h_leaves h_tried h_met f_next f_where f_token f_number f_sign f_word f_wrong f_open f_lines f_acts f_size r_all) sz)) 0 0 (va_A (vX11_byteAt cI cZ h h_all h_has h_line h_act h_pile h_comes h_leaves h_tried h_met f_next f_where f_token f_number f_sign f_word f_wrong f_open f_lines f_acts f_size r_all) sz) := by
  refine Met.ofW (cc := cX11_byteAt) (maxL := 2) (ret := (some .int)) (by decide) rfl ?_
  intro p e s m args below meth c s₁ B hml hv
  obtain ⟨rfl, hsz, hP, hK, hD0⟩ := hv
  subst hsz
  have hC : Cx p s m ([.ref h, .int x1] : List Value).toArray meth c cX11_byteAt (some .int) 2 GW RX11 := ⟨B.exec, B.bytes, B.returns, hml, findClass_of_methodNamed B.named, fun w h => atoms_spec (ws := zsX11_byteAt) B.pre w (List.mem_cons_of_mem _ h), B.notSynchronized⟩
  have hD := hD0.self (sz := s.heap.size)
  generalize hAe : va_A (vX11_byteAt cI cZ h h_all h_has h_line h_act h_pile h_comes h_leaves h_tried h_met f_next f_where f_token f_number f_sign f_word f_wrong f_open f_lines f_acts f_size r_all) s.heap.size = A at hD ⊢
  have hA : ∀ q : Nat, s.heap.size ≤ q → A q := fun q h => by rw [← hAe]; exact Or.inr h
  have hl := lv_entry ([.ref h, .int x1]) (n := 2) (Nat.le_of_ble_eq_true rfl)
  rw [lg_entry_eq]
  generalize (lg_sl ([.ref h, .int x1]) ++ List.replicate (2 - (lg_sl ([.ref h, .int x1])).length) Slot.unset).toArray = ls at hl ⊢
  exact tX11_byteAt_e hC hK hA x1 f_size r_all _ _ ls hw hP hD va_S.rf hl

/-! X11_isLetter -/
def wX11_isLetter (Q : Int32 → Prop) (x0 : Int32)  : Prop :=
  ((x0 < (97 : Int32) → (Q (0 : Int32))) ∧ (¬ x0 < (97 : Int32) → (((122 : Int32) < x0 → (Q (0 : Int32))) ∧ (¬ (122 : Int32) < x0 → (Q (1 : Int32))))))
abbrev rmX11_isLetter : Room := { frames := 0, cells := 0, slots := 0, locals := 0 }
abbrev qX11_isLetter (dC : Nat → ClassId) (dI : Nat → Nat → Nat) (cI cZ cO cW : ClassId)  (Q : Int32 → Prop) (A : Nat → Prop) : Array Value → State → Outcome → State → Prop := va_Qi (fun (r : Int32) (u : Unit) => Q r) (fun (u : Unit) (t : State) => va_P (dC, dI) vwCl ([] : va_W) t.heap ∧ va_K (dC, dI) vwCl (tysA cI cZ cO cW) t ∧ va_D A ([] : va_W)) A
def zsX11_isLetter : List Cond := Cond.code yX11_isLetter cX11_isLetter 1 (some .boolean) :: GW
set_option maxHeartbeats 4000000 in
set_option maxRecDepth 100000 in
theorem tX11_isLetter_e {p : Program} {l : Launch} {e : Env} {s : State} {m : MethodId} {args : Array Value} {below : List Frame} {meth : Method} {c : Code} {dC : Nat → ClassId} {dI : Nat → Nat → Nat} {cI cZ cO cW : ClassId} {A : Nat → Prop} {Q : Int32 → Prop} (hC : Cx p s m args meth c cX11_isLetter (some .boolean) 1 GW RX11) (hK : va_K (dC, dI) vwCl (tysA cI cZ cO cW) s) (hA : ∀ q : Nat, s.heap.size ≤ q → A q) :
    ∀ (x0 : Int32) (H : Heap) (locs : List Loc) (ls : Array Slot), wX11_isLetter Q x0  → va_P (dC, dI) vwCl ([] : va_W) H → va_D A ([] : va_W) → va_S A s.heap H locs → lv_has ls 1 [(0, .int x0)] → W p l e rmX11_isLetter s m args below meth c H locs 0 0 (MQ below (qX11_isLetter dC dI cI cZ cO cW Q A) args s 0 0 A) (F0 m 0 ls []) := by
  obtain ⟨hx, hb, hr, hml, hown, hts, hlocks⟩ := id hC
  intro x0 H locs ls hw hP hD hS hl
  refine lv_iload_n hx hb dX11_isLetter_0 rfl (lv_at hl 0 rfl) ?_
  refine lv_bipush (v := (97 : Int32)) hx hb dX11_isLetter_1 (by decide) ?_
  refine lv_icmp_lt (tgt := 16) hx hb dX11_isLetter_3 (by decide) (fun c_1 => ?_) (fun c_1 => ?_)
  · have hw := hw.1 c_1
    refine lv_iconst (v := (0 : Int32)) hx hb dX11_isLetter_16 (by decide) ?_
    have hP9 := hP.sub (ws' := ([] : va_W)) [] rfl
    have hD9 := hD.sub (ws' := ([] : va_W)) [] (by decide) rfl
    exact W.zret (v := (0 : Int32)) (ty := .boolean) hx hb hr rfl (fun t ht hW => ⟨⟨(0 : Int32), (), rfl, hw, by rw [ht]; exact hP9, va_K.moved hW.alike hK, hD9⟩, hS.F ht⟩) hS.2.2 dX11_isLetter_17
  · have hw := hw.2 c_1
    refine lv_iload_n hx hb dX11_isLetter_6 rfl (lv_at hl 0 rfl) ?_
    refine lv_bipush (v := (122 : Int32)) hx hb dX11_isLetter_7 (by decide) ?_
    refine lv_icmp_gt (tgt := 16) hx hb dX11_isLetter_9 (by decide) (fun c_2 => ?_) (fun c_2 => ?_)
    · have hw := hw.1 c_2
      refine lv_iconst (v := (0 : Int32)) hx hb dX11_isLetter_16 (by decide) ?_
      have hP9 := hP.sub (ws' := ([] : va_W)) [] rfl
      have hD9 := hD.sub (ws' := ([] : va_W)) [] (by decide) rfl
      exact W.zret (v := (0 : Int32)) (ty := .boolean) hx hb hr rfl (fun t ht hW => ⟨⟨(0 : Int32), (), rfl, hw, by rw [ht]; exact hP9, va_K.moved hW.alike hK, hD9⟩, hS.F ht⟩) hS.2.2 dX11_isLetter_17
    · have hw := hw.2 c_2
      refine lv_iconst (v := (1 : Int32)) hx hb dX11_isLetter_12 (by decide) ?_
      refine lv_goto (tgt := 17) hx hb dX11_isLetter_13 (by decide) ?_
      have hP9 := hP.sub (ws' := ([] : va_W)) [] rfl
      have hD9 := hD.sub (ws' := ([] : va_W)) [] (by decide) rfl
      exact W.zret (v := (1 : Int32)) (ty := .boolean) hx hb hr rfl (fun t ht hW => ⟨⟨(1 : Int32), (), rfl, hw, by rw [ht]; exact hP9, va_K.moved hW.alike hK, hD9⟩, hS.F ht⟩) hS.2.2 dX11_isLetter_17
set_option maxHeartbeats 4000000 in
set_option maxRecDepth 100000 in
theorem kX11_isLetter (l : Launch) (dC : Nat → ClassId) (dI : Nat → Nat → Nat) (cI cZ cO cW : ClassId)  (sz : Nat)  (x0 : Int32) (Q : Int32 → Prop) (hw : wX11_isLetter Q x0 ) : Met l yX11_isLetter zsX11_isLetter rmX11_isLetter (va_Pc [.int x0] (fun U => U.heap.size = sz ∧ va_P (dC, dI) vwCl ([] : va_W) U.heap ∧ va_K (dC, dI) vwCl (tysA cI cZ cO cW) U ∧ va_D (fun _ => True) ([] : va_W))) (qX11_isLetter dC dI cI cZ cO cW Q (va_A ([] : va_W) sz)) 0 0 (va_A ([] : va_W) sz) := by
  refine Met.ofW (cc := cX11_isLetter) (maxL := 1) (ret := (some .boolean)) (by decide) rfl ?_
  intro p e s m args below meth c s₁ B hml hv
  obtain ⟨rfl, hsz, hP, hK, hD0⟩ := hv
  subst hsz
  have hC : Cx p s m ([.int x0] : List Value).toArray meth c cX11_isLetter (some .boolean) 1 GW RX11 := ⟨B.exec, B.bytes, B.returns, hml, findClass_of_methodNamed B.named, fun w h => atoms_spec (ws := zsX11_isLetter) B.pre w (List.mem_cons_of_mem _ h), B.notSynchronized⟩
  have hD := hD0.self (sz := s.heap.size)
  generalize hAe : va_A ([] : va_W) s.heap.size = A at hD ⊢
  have hA : ∀ q : Nat, s.heap.size ≤ q → A q := fun q h => by rw [← hAe]; exact Or.inr h
  have hl := lv_entry ([.int x0]) (n := 1) (Nat.le_of_ble_eq_true rfl)
  rw [lg_entry_eq]
  generalize (lg_sl ([.int x0]) ++ List.replicate (1 - (lg_sl ([.int x0])).length) Slot.unset).toArray = ls at hl ⊢
  exact tX11_isLetter_e hC hK hA x0 _ _ ls hw hP hD va_S.rf hl

/-! X11_isDigit -/
def wX11_isDigit (Q : Int32 → Prop) (x0 : Int32)  : Prop :=
  ((x0 < (48 : Int32) → (Q (0 : Int32))) ∧ (¬ x0 < (48 : Int32) → (((57 : Int32) < x0 → (Q (0 : Int32))) ∧ (¬ (57 : Int32) < x0 → (Q (1 : Int32))))))
abbrev rmX11_isDigit : Room := { frames := 0, cells := 0, slots := 0, locals := 0 }
abbrev qX11_isDigit (dC : Nat → ClassId) (dI : Nat → Nat → Nat) (cI cZ cO cW : ClassId)  (Q : Int32 → Prop) (A : Nat → Prop) : Array Value → State → Outcome → State → Prop := va_Qi (fun (r : Int32) (u : Unit) => Q r) (fun (u : Unit) (t : State) => va_P (dC, dI) vwCl ([] : va_W) t.heap ∧ va_K (dC, dI) vwCl (tysA cI cZ cO cW) t ∧ va_D A ([] : va_W)) A
def zsX11_isDigit : List Cond := Cond.code yX11_isDigit cX11_isDigit 1 (some .boolean) :: GW
set_option maxHeartbeats 4000000 in
set_option maxRecDepth 100000 in
theorem tX11_isDigit_e {p : Program} {l : Launch} {e : Env} {s : State} {m : MethodId} {args : Array Value} {below : List Frame} {meth : Method} {c : Code} {dC : Nat → ClassId} {dI : Nat → Nat → Nat} {cI cZ cO cW : ClassId} {A : Nat → Prop} {Q : Int32 → Prop} (hC : Cx p s m args meth c cX11_isDigit (some .boolean) 1 GW RX11) (hK : va_K (dC, dI) vwCl (tysA cI cZ cO cW) s) (hA : ∀ q : Nat, s.heap.size ≤ q → A q) :
    ∀ (x0 : Int32) (H : Heap) (locs : List Loc) (ls : Array Slot), wX11_isDigit Q x0  → va_P (dC, dI) vwCl ([] : va_W) H → va_D A ([] : va_W) → va_S A s.heap H locs → lv_has ls 1 [(0, .int x0)] → W p l e rmX11_isDigit s m args below meth c H locs 0 0 (MQ below (qX11_isDigit dC dI cI cZ cO cW Q A) args s 0 0 A) (F0 m 0 ls []) := by
  obtain ⟨hx, hb, hr, hml, hown, hts, hlocks⟩ := id hC
  intro x0 H locs ls hw hP hD hS hl
  refine lv_iload_n hx hb dX11_isDigit_0 rfl (lv_at hl 0 rfl) ?_
  refine lv_bipush (v := (48 : Int32)) hx hb dX11_isDigit_1 (by decide) ?_
  refine lv_icmp_lt (tgt := 16) hx hb dX11_isDigit_3 (by decide) (fun c_1 => ?_) (fun c_1 => ?_)
  · have hw := hw.1 c_1
    refine lv_iconst (v := (0 : Int32)) hx hb dX11_isDigit_16 (by decide) ?_
    have hP9 := hP.sub (ws' := ([] : va_W)) [] rfl
    have hD9 := hD.sub (ws' := ([] : va_W)) [] (by decide) rfl
    exact W.zret (v := (0 : Int32)) (ty := .boolean) hx hb hr rfl (fun t ht hW => ⟨⟨(0 : Int32), (), rfl, hw, by rw [ht]; exact hP9, va_K.moved hW.alike hK, hD9⟩, hS.F ht⟩) hS.2.2 dX11_isDigit_17
  · have hw := hw.2 c_1
    refine lv_iload_n hx hb dX11_isDigit_6 rfl (lv_at hl 0 rfl) ?_
    refine lv_bipush (v := (57 : Int32)) hx hb dX11_isDigit_7 (by decide) ?_
    refine lv_icmp_gt (tgt := 16) hx hb dX11_isDigit_9 (by decide) (fun c_2 => ?_) (fun c_2 => ?_)
    · have hw := hw.1 c_2
      refine lv_iconst (v := (0 : Int32)) hx hb dX11_isDigit_16 (by decide) ?_
      have hP9 := hP.sub (ws' := ([] : va_W)) [] rfl
      have hD9 := hD.sub (ws' := ([] : va_W)) [] (by decide) rfl
      exact W.zret (v := (0 : Int32)) (ty := .boolean) hx hb hr rfl (fun t ht hW => ⟨⟨(0 : Int32), (), rfl, hw, by rw [ht]; exact hP9, va_K.moved hW.alike hK, hD9⟩, hS.F ht⟩) hS.2.2 dX11_isDigit_17
    · have hw := hw.2 c_2
      refine lv_iconst (v := (1 : Int32)) hx hb dX11_isDigit_12 (by decide) ?_
      refine lv_goto (tgt := 17) hx hb dX11_isDigit_13 (by decide) ?_
      have hP9 := hP.sub (ws' := ([] : va_W)) [] rfl
      have hD9 := hD.sub (ws' := ([] : va_W)) [] (by decide) rfl
      exact W.zret (v := (1 : Int32)) (ty := .boolean) hx hb hr rfl (fun t ht hW => ⟨⟨(1 : Int32), (), rfl, hw, by rw [ht]; exact hP9, va_K.moved hW.alike hK, hD9⟩, hS.F ht⟩) hS.2.2 dX11_isDigit_17
set_option maxHeartbeats 4000000 in
set_option maxRecDepth 100000 in
theorem kX11_isDigit (l : Launch) (dC : Nat → ClassId) (dI : Nat → Nat → Nat) (cI cZ cO cW : ClassId)  (sz : Nat)  (x0 : Int32) (Q : Int32 → Prop) (hw : wX11_isDigit Q x0 ) : Met l yX11_isDigit zsX11_isDigit rmX11_isDigit (va_Pc [.int x0] (fun U => U.heap.size = sz ∧ va_P (dC, dI) vwCl ([] : va_W) U.heap ∧ va_K (dC, dI) vwCl (tysA cI cZ cO cW) U ∧ va_D (fun _ => True) ([] : va_W))) (qX11_isDigit dC dI cI cZ cO cW Q (va_A ([] : va_W) sz)) 0 0 (va_A ([] : va_W) sz) := by
  refine Met.ofW (cc := cX11_isDigit) (maxL := 1) (ret := (some .boolean)) (by decide) rfl ?_
  intro p e s m args below meth c s₁ B hml hv
  obtain ⟨rfl, hsz, hP, hK, hD0⟩ := hv
  subst hsz
  have hC : Cx p s m ([.int x0] : List Value).toArray meth c cX11_isDigit (some .boolean) 1 GW RX11 := ⟨B.exec, B.bytes, B.returns, hml, findClass_of_methodNamed B.named, fun w h => atoms_spec (ws := zsX11_isDigit) B.pre w (List.mem_cons_of_mem _ h), B.notSynchronized⟩
  have hD := hD0.self (sz := s.heap.size)
  generalize hAe : va_A ([] : va_W) s.heap.size = A at hD ⊢
  have hA : ∀ q : Nat, s.heap.size ≤ q → A q := fun q h => by rw [← hAe]; exact Or.inr h
  have hl := lv_entry ([.int x0]) (n := 1) (Nat.le_of_ble_eq_true rfl)
  rw [lg_entry_eq]
  generalize (lg_sl ([.int x0]) ++ List.replicate (1 - (lg_sl ([.int x0])).length) Slot.unset).toArray = ls at hl ⊢
  exact tX11_isDigit_e hC hK hA x0 _ _ ls hw hP hD va_S.rf hl

/-! X11_two -/
def wX11_two (Q : Int64 → Prop) (x0 : Int32) (x1 : Int32)  : Prop :=
  (Q ((((32 : Int64) * (x0 - (96 : Int32)).toInt64) + x1.toInt64) - (96 : Int64)))
abbrev rmX11_two : Room := { frames := 0, cells := 0, slots := 0, locals := 0 }
abbrev qX11_two (dC : Nat → ClassId) (dI : Nat → Nat → Nat) (cI cZ cO cW : ClassId)  (Q : Int64 → Prop) (A : Nat → Prop) : Array Value → State → Outcome → State → Prop := va_Ql (fun (r : Int64) (u : Unit) => Q r) (fun (u : Unit) (t : State) => va_P (dC, dI) vwCl ([] : va_W) t.heap ∧ va_K (dC, dI) vwCl (tysA cI cZ cO cW) t ∧ va_D A ([] : va_W)) A
def zsX11_two : List Cond := Cond.code yX11_two cX11_two 2 (some .long) :: GW
set_option maxHeartbeats 4000000 in
set_option maxRecDepth 100000 in
theorem tX11_two_e {p : Program} {l : Launch} {e : Env} {s : State} {m : MethodId} {args : Array Value} {below : List Frame} {meth : Method} {c : Code} {dC : Nat → ClassId} {dI : Nat → Nat → Nat} {cI cZ cO cW : ClassId} {A : Nat → Prop} {Q : Int64 → Prop} (hC : Cx p s m args meth c cX11_two (some .long) 2 GW RX11) (hK : va_K (dC, dI) vwCl (tysA cI cZ cO cW) s) (hA : ∀ q : Nat, s.heap.size ≤ q → A q) :
    ∀ (x0 : Int32) (x1 : Int32) (H : Heap) (locs : List Loc) (ls : Array Slot), wX11_two Q x0 x1  → va_P (dC, dI) vwCl ([] : va_W) H → va_D A ([] : va_W) → va_S A s.heap H locs → lv_has ls 2 [(0, .int x0), (1, .int x1)] → W p l e rmX11_two s m args below meth c H locs 0 0 (MQ below (qX11_two dC dI cI cZ cO cW Q A) args s 0 0 A) (F0 m 0 ls []) := by
  obtain ⟨hx, hb, hr, hml, hown, hts, hlocks⟩ := id hC
  intro x0 x1 H locs ls hw hP hD hS hl
  refine lv_ldc2 (v := (32 : Int64)) hx hb hown (hts _ gw_667) dX11_two_0 ?_
  refine lv_iload_n hx hb dX11_two_3 rfl (lv_at hl 0 rfl) ?_
  refine lv_bipush (v := (96 : Int32)) hx hb dX11_two_4 (by decide) ?_
  refine lv_isub hx hb dX11_two_6 ?_
  refine lv_i2l (v := (x0 - (96 : Int32)).toInt64) hx hb dX11_two_7 rfl ?_
  refine lv_lmul hx hb dX11_two_8 ?_
  refine lv_iload_n hx hb dX11_two_9 rfl (lv_at hl 1 rfl) ?_
  refine lv_i2l (v := x1.toInt64) hx hb dX11_two_10 rfl ?_
  refine lv_ladd hx hb dX11_two_11 ?_
  refine lv_ldc2 (v := (96 : Int64)) hx hb hown (hts _ gw_668) dX11_two_12 ?_
  refine lv_lsub hx hb dX11_two_15 ?_
  have hP9 := hP.sub (ws' := ([] : va_W)) [] rfl
  have hD9 := hD.sub (ws' := ([] : va_W)) [] (by decide) rfl
  exact W.lret (v := ((((32 : Int64) * (x0 - (96 : Int32)).toInt64) + x1.toInt64) - (96 : Int64))) hx hb hr (fun t ht hW => ⟨⟨((((32 : Int64) * (x0 - (96 : Int32)).toInt64) + x1.toInt64) - (96 : Int64)), (), rfl, hw, by rw [ht]; exact hP9, va_K.moved hW.alike hK, hD9⟩, hS.F ht⟩) hS.2.2 dX11_two_16
set_option maxHeartbeats 4000000 in
set_option maxRecDepth 100000 in
theorem kX11_two (l : Launch) (dC : Nat → ClassId) (dI : Nat → Nat → Nat) (cI cZ cO cW : ClassId)  (sz : Nat)  (x0 : Int32) (x1 : Int32) (Q : Int64 → Prop) (hw : wX11_two Q x0 x1 ) : Met l yX11_two zsX11_two rmX11_two (va_Pc [.int x0, .int x1] (fun U => U.heap.size = sz ∧ va_P (dC, dI) vwCl ([] : va_W) U.heap ∧ va_K (dC, dI) vwCl (tysA cI cZ cO cW) U ∧ va_D (fun _ => True) ([] : va_W))) (qX11_two dC dI cI cZ cO cW Q (va_A ([] : va_W) sz)) 0 0 (va_A ([] : va_W) sz) := by
  refine Met.ofW (cc := cX11_two) (maxL := 2) (ret := (some .long)) (by decide) rfl ?_
  intro p e s m args below meth c s₁ B hml hv
  obtain ⟨rfl, hsz, hP, hK, hD0⟩ := hv
  subst hsz
  have hC : Cx p s m ([.int x0, .int x1] : List Value).toArray meth c cX11_two (some .long) 2 GW RX11 := ⟨B.exec, B.bytes, B.returns, hml, findClass_of_methodNamed B.named, fun w h => atoms_spec (ws := zsX11_two) B.pre w (List.mem_cons_of_mem _ h), B.notSynchronized⟩
  have hD := hD0.self (sz := s.heap.size)
  generalize hAe : va_A ([] : va_W) s.heap.size = A at hD ⊢
  have hA : ∀ q : Nat, s.heap.size ≤ q → A q := fun q h => by rw [← hAe]; exact Or.inr h
  have hl := lv_entry ([.int x0, .int x1]) (n := 2) (Nat.le_of_ble_eq_true rfl)
  rw [lg_entry_eq]
  generalize (lg_sl ([.int x0, .int x1]) ++ List.replicate (2 - (lg_sl ([.int x0, .int x1])).length) Slot.unset).toArray = ls at hl ⊢
  exact tX11_two_e hC hK hA x0 x1 _ _ ls hw hP hD va_S.rf hl

/-! X11_four -/
def wX11_four (Q : Int64 → Prop) (x0 : Int32) (x1 : Int32) (x2 : Int32) (x3 : Int32)  : Prop :=
  (wX11_two (fun r_1 => (wX11_two (fun r_2 => (Q ((r_1 * (1024 : Int64)) + r_2))) x2 x3)) x0 x1)
abbrev rmX11_four : Room := { frames := 1, cells := 0, slots := 0, locals := 21 }
abbrev qX11_four (dC : Nat → ClassId) (dI : Nat → Nat → Nat) (cI cZ cO cW : ClassId)  (Q : Int64 → Prop) (A : Nat → Prop) : Array Value → State → Outcome → State → Prop := va_Ql (fun (r : Int64) (u : Unit) => Q r) (fun (u : Unit) (t : State) => va_P (dC, dI) vwCl ([] : va_W) t.heap ∧ va_K (dC, dI) vwCl (tysA cI cZ cO cW) t ∧ va_D A ([] : va_W)) A
def zsX11_four : List Cond := Cond.code yX11_four cX11_four 4 (some .long) :: GW
set_option maxHeartbeats 4000000 in
set_option maxRecDepth 100000 in
theorem tX11_four_e {p : Program} {l : Launch} {e : Env} {s : State} {m : MethodId} {args : Array Value} {below : List Frame} {meth : Method} {c : Code} {dC : Nat → ClassId} {dI : Nat → Nat → Nat} {cI cZ cO cW : ClassId} {A : Nat → Prop} {Q : Int64 → Prop} (hC : Cx p s m args meth c cX11_four (some .long) 4 GW RX11) (hK : va_K (dC, dI) vwCl (tysA cI cZ cO cW) s) (hA : ∀ q : Nat, s.heap.size ≤ q → A q) :
    ∀ (x0 : Int32) (x1 : Int32) (x2 : Int32) (x3 : Int32) (H : Heap) (locs : List Loc) (ls : Array Slot), wX11_four Q x0 x1 x2 x3  → va_P (dC, dI) vwCl ([] : va_W) H → va_D A ([] : va_W) → va_S A s.heap H locs → lv_has ls 4 [(0, .int x0), (1, .int x1), (2, .int x2), (3, .int x3)] → W p l e rmX11_four s m args below meth c H locs 0 0 (MQ below (qX11_four dC dI cI cZ cO cW Q A) args s 0 0 A) (F0 m 0 ls []) := by
  obtain ⟨hx, hb, hr, hml, hown, hts, hlocks⟩ := id hC
  intro x0 x1 x2 x3 H locs ls hw hP hD hS hl
  refine lv_iload_n hx hb dX11_four_0 rfl (lv_at hl 0 rfl) ?_
  refine lv_iload_n hx hb dX11_four_1 rfl (lv_at hl 1 rfl) ?_
  have hPc := hP.sub (ws' := []) [] rfl
  have hDc := hD.sub (ws' := []) [] (by decide) rfl
  have hFc := va_free (wc := []) hD hS hA [] rfl
  refine va_calll (va_runS (As := [.int x0, .int x1]) (rest := []) ⟨hx, hb, hml, hown, hts⟩ (kX11_two l dC dI cI cZ cO cW H.size x0 x1 _ hw) (va_cwS 2 hts (gS gw_671 gw_672 gw_622 (gM gw_666)) rfl rfl rfl (by decide +kernel) ⟨Nat.le_of_ble_eq_true rfl, Nat.le_of_ble_eq_true rfl⟩) (ps_of hPc hK hDc) rfl rfl hl.1 rfl (lv_room (Nat.le_of_ble_eq_true rfl)) dX11_four_2 ⟨Nat.zero_le _, Nat.zero_le _⟩) hS (fun q _ h => hFc q h) hFc (fun r_1 u t H locs ht hvm hw hB hz1 hk1 hS => ?_)
  obtain ⟨hP, hD⟩ := af_join (wr := []) (w1 := []) hB ht hP hD [] [] rfl rfl (by decide) (by decide) hk1 hFc
  have hP : va_P (dC, dI) vwCl [] _ := hP
  have hD : va_D A [] := hD
  refine lv_ldc2 (v := (1024 : Int64)) hx hb hown (hts _ gw_670) dX11_four_5 ?_
  refine lv_lmul hx hb dX11_four_8 ?_
  refine lv_iload_n hx hb dX11_four_9 rfl (lv_at hl 2 rfl) ?_
  refine lv_iload_n hx hb dX11_four_10 rfl (lv_at hl 3 rfl) ?_
  have hPc := hP.sub (ws' := []) [] rfl
  have hDc := hD.sub (ws' := []) [] (by decide) rfl
  have hFc := va_free (wc := []) hD hS hA [] rfl
  refine va_calll (va_runS (As := [.int x2, .int x3]) (rest := [.long (r_1 * (1024 : Int64))]) ⟨hx, hb, hml, hown, hts⟩ (kX11_two l dC dI cI cZ cO cW H.size x2 x3 _ hw) (va_cwS 2 hts (gS gw_671 gw_672 gw_622 (gM gw_666)) rfl rfl rfl (by decide +kernel) ⟨Nat.le_of_ble_eq_true rfl, Nat.le_of_ble_eq_true rfl⟩) (ps_of hPc hK hDc) rfl rfl hl.1 rfl (lv_room (Nat.le_of_ble_eq_true rfl)) dX11_four_11 ⟨Nat.zero_le _, Nat.zero_le _⟩) hS (fun q _ h => hFc q h) hFc (fun r_2 u t H locs ht hvm hw hB hz1 hk1 hS => ?_)
  obtain ⟨hP, hD⟩ := af_join (wr := []) (w1 := []) hB ht hP hD [] [] rfl rfl (by decide) (by decide) hk1 hFc
  have hP : va_P (dC, dI) vwCl [] _ := hP
  have hD : va_D A [] := hD
  refine lv_ladd hx hb dX11_four_14 ?_
  have hP9 := hP.sub (ws' := ([] : va_W)) [] rfl
  have hD9 := hD.sub (ws' := ([] : va_W)) [] (by decide) rfl
  exact W.lret (v := ((r_1 * (1024 : Int64)) + r_2)) hx hb hr (fun t ht hW => ⟨⟨((r_1 * (1024 : Int64)) + r_2), (), rfl, hw, by rw [ht]; exact hP9, va_K.moved hW.alike hK, hD9⟩, hS.F ht⟩) hS.2.2 dX11_four_15
set_option maxHeartbeats 4000000 in
set_option maxRecDepth 100000 in
theorem kX11_four (l : Launch) (dC : Nat → ClassId) (dI : Nat → Nat → Nat) (cI cZ cO cW : ClassId)  (sz : Nat)  (x0 : Int32) (x1 : Int32) (x2 : Int32) (x3 : Int32) (Q : Int64 → Prop) (hw : wX11_four Q x0 x1 x2 x3 ) : Met l yX11_four zsX11_four rmX11_four (va_Pc [.int x0, .int x1, .int x2, .int x3] (fun U => U.heap.size = sz ∧ va_P (dC, dI) vwCl ([] : va_W) U.heap ∧ va_K (dC, dI) vwCl (tysA cI cZ cO cW) U ∧ va_D (fun _ => True) ([] : va_W))) (qX11_four dC dI cI cZ cO cW Q (va_A ([] : va_W) sz)) 0 0 (va_A ([] : va_W) sz) := by
  refine Met.ofW (cc := cX11_four) (maxL := 4) (ret := (some .long)) (by decide) rfl ?_
  intro p e s m args below meth c s₁ B hml hv
  obtain ⟨rfl, hsz, hP, hK, hD0⟩ := hv
  subst hsz
  have hC : Cx p s m ([.int x0, .int x1, .int x2, .int x3] : List Value).toArray meth c cX11_four (some .long) 4 GW RX11 := ⟨B.exec, B.bytes, B.returns, hml, findClass_of_methodNamed B.named, fun w h => atoms_spec (ws := zsX11_four) B.pre w (List.mem_cons_of_mem _ h), B.notSynchronized⟩
  have hD := hD0.self (sz := s.heap.size)
  generalize hAe : va_A ([] : va_W) s.heap.size = A at hD ⊢
  have hA : ∀ q : Nat, s.heap.size ≤ q → A q := fun q h => by rw [← hAe]; exact Or.inr h
  have hl := lv_entry ([.int x0, .int x1, .int x2, .int x3]) (n := 4) (Nat.le_of_ble_eq_true rfl)
  rw [lg_entry_eq]
  generalize (lg_sl ([.int x0, .int x1, .int x2, .int x3]) ++ List.replicate (4 - (lg_sl ([.int x0, .int x1, .int x2, .int x3])).length) Slot.unset).toArray = ls at hl ⊢
  exact tX11_four_e hC hK hA x0 x1 x2 x3 _ _ ls hw hP hD va_S.rf hl

/-! X11_wordOf -/
def wX11_wordOf_431 (Q : Int32 → Prop)   (x0 : Int64) : Prop :=
  (wX11_two (fun r_1 => ((¬ (lg_cmp x0 (((r_1 * (32 : Int64)) + (116 : Int64)) - (96 : Int64))) = 0 → (Q (99 : Int32))) ∧ ((lg_cmp x0 (((r_1 * (32 : Int64)) + (116 : Int64)) - (96 : Int64))) = 0 → (Q (33 : Int32))))) (110 : Int32) (111 : Int32))
def wX11_wordOf_404 (Q : Int32 → Prop)   (x0 : Int64) : Prop :=
  (wX11_two (fun r_3 => ((¬ (lg_cmp x0 (((r_3 * (32 : Int64)) + (100 : Int64)) - (96 : Int64))) = 0 → (wX11_wordOf_431 Q x0)) ∧ ((lg_cmp x0 (((r_3 * (32 : Int64)) + (100 : Int64)) - (96 : Int64))) = 0 → (Q (32 : Int32))))) (97 : Int32) (110 : Int32))
def wX11_wordOf_389 (Q : Int32 → Prop)   (x0 : Int64) : Prop :=
  (wX11_two (fun r_5 => ((¬ (lg_cmp x0 r_5) = 0 → (wX11_wordOf_404 Q x0)) ∧ ((lg_cmp x0 r_5) = 0 → (Q (31 : Int32))))) (111 : Int32) (114 : Int32))
def wX11_wordOf_374 (Q : Int32 → Prop)   (x0 : Int64) : Prop :=
  (wX11_two (fun r_7 => ((¬ (lg_cmp x0 r_7) = 0 → (wX11_wordOf_389 Q x0)) ∧ ((lg_cmp x0 r_7) = 0 → (Q (30 : Int32))))) (105 : Int32) (102 : Int32))
def wX11_wordOf_355 (Q : Int32 → Prop)   (x0 : Int64) : Prop :=
  (wX11_four (fun r_9 => ((¬ (lg_cmp x0 r_9) = 0 → (wX11_wordOf_374 Q x0)) ∧ ((lg_cmp x0 r_9) = 0 → (Q (26 : Int32))))) (99 : Int32) (97 : Int32) (108 : Int32) (108 : Int32))
def wX11_wordOf_328 (Q : Int32 → Prop)   (x0 : Int64) : Prop :=
  (wX11_two (fun r_11 => ((¬ (lg_cmp x0 (((r_11 * (32 : Int64)) + (116 : Int64)) - (96 : Int64))) = 0 → (wX11_wordOf_355 Q x0)) ∧ ((lg_cmp x0 (((r_11 * (32 : Int64)) + (116 : Int64)) - (96 : Int64))) = 0 → (Q (25 : Int32))))) (99 : Int32) (117 : Int32))
def wX11_wordOf_309 (Q : Int32 → Prop)   (x0 : Int64) : Prop :=
  (wX11_four (fun r_13 => ((¬ (lg_cmp x0 r_13) = 0 → (wX11_wordOf_328 Q x0)) ∧ ((lg_cmp x0 r_13) = 0 → (Q (24 : Int32))))) (119 : Int32) (97 : Int32) (105 : Int32) (116 : Int32))
def wX11_wordOf_290 (Q : Int32 → Prop)   (x0 : Int64) : Prop :=
  (wX11_four (fun r_15 => ((¬ (lg_cmp x0 r_15) = 0 → (wX11_wordOf_309 Q x0)) ∧ ((lg_cmp x0 r_15) = 0 → (Q (12 : Int32))))) (116 : Int32) (111 : Int32) (108 : Int32) (100 : Int32))
def wX11_wordOf_271 (Q : Int32 → Prop)   (x0 : Int64) : Prop :=
  (wX11_four (fun r_17 => ((¬ (lg_cmp x0 r_17) = 0 → (wX11_wordOf_290 Q x0)) ∧ ((lg_cmp x0 r_17) = 0 → (Q (11 : Int32))))) (119 : Int32) (101 : Int32) (115 : Int32) (116 : Int32))
def wX11_wordOf_240 (Q : Int32 → Prop)   (x0 : Int64) : Prop :=
  (wX11_four (fun r_19 => ((¬ (lg_cmp x0 (((r_19 * (32 : Int64)) + (104 : Int64)) - (96 : Int64))) = 0 → (wX11_wordOf_271 Q x0)) ∧ ((lg_cmp x0 (((r_19 * (32 : Int64)) + (104 : Int64)) - (96 : Int64))) = 0 → (Q (10 : Int32))))) (115 : Int32) (111 : Int32) (117 : Int32) (116 : Int32))
def wX11_wordOf_221 (Q : Int32 → Prop)   (x0 : Int64) : Prop :=
  (wX11_four (fun r_21 => ((¬ (lg_cmp x0 r_21) = 0 → (wX11_wordOf_240 Q x0)) ∧ ((lg_cmp x0 r_21) = 0 → (Q (9 : Int32))))) (101 : Int32) (97 : Int32) (115 : Int32) (116 : Int32))
def wX11_wordOf_190 (Q : Int32 → Prop)   (x0 : Int64) : Prop :=
  (wX11_four (fun r_23 => ((¬ (lg_cmp x0 (((r_23 * (32 : Int64)) + (104 : Int64)) - (96 : Int64))) = 0 → (wX11_wordOf_221 Q x0)) ∧ ((lg_cmp x0 (((r_23 * (32 : Int64)) + (104 : Int64)) - (96 : Int64))) = 0 → (Q (8 : Int32))))) (110 : Int32) (111 : Int32) (114 : Int32) (116 : Int32))
def wX11_wordOf_159 (Q : Int32 → Prop)   (x0 : Int64) : Prop :=
  (wX11_four (fun r_25 => (wX11_two (fun r_26 => ((¬ (lg_cmp x0 ((r_25 * (1024 : Int64)) + r_26)) = 0 → (wX11_wordOf_190 Q x0)) ∧ ((lg_cmp x0 ((r_25 * (1024 : Int64)) + r_26)) = 0 → (Q (7 : Int32))))) (109 : Int32) (110 : Int32))) (99 : Int32) (111 : Int32) (108 : Int32) (117 : Int32))
def wX11_wordOf_132 (Q : Int32 → Prop)   (x0 : Int64) : Prop :=
  (wX11_two (fun r_28 => ((¬ (lg_cmp x0 (((r_28 * (32 : Int64)) + (119 : Int64)) - (96 : Int64))) = 0 → (wX11_wordOf_159 Q x0)) ∧ ((lg_cmp x0 (((r_28 * (32 : Int64)) + (119 : Int64)) - (96 : Int64))) = 0 → (Q (6 : Int32))))) (114 : Int32) (111 : Int32))
def wX11_wordOf_114 (Q : Int32 → Prop)   (x0 : Int64) : Prop :=
  (wX11_four (fun r_30 => ((¬ (lg_cmp x0 r_30) = 0 → (wX11_wordOf_132 Q x0)) ∧ ((lg_cmp x0 r_30) = 0 → (Q (5 : Int32))))) (110 : Int32) (101 : Int32) (97 : Int32) (114 : Int32))
def wX11_wordOf_96 (Q : Int32 → Prop)   (x0 : Int64) : Prop :=
  (wX11_four (fun r_32 => ((¬ (lg_cmp x0 r_32) = 0 → (wX11_wordOf_114 Q x0)) ∧ ((lg_cmp x0 r_32) = 0 → (Q (4 : Int32))))) (104 : Int32) (101 : Int32) (108 : Int32) (100 : Int32))
def wX11_wordOf_78 (Q : Int32 → Prop)   (x0 : Int64) : Prop :=
  (wX11_four (fun r_34 => ((¬ (lg_cmp x0 r_34) = 0 → (wX11_wordOf_96 Q x0)) ∧ ((lg_cmp x0 r_34) = 0 → (Q (3 : Int32))))) (102 : Int32) (117 : Int32) (101 : Int32) (108 : Int32))
def wX11_wordOf_48 (Q : Int32 → Prop)   (x0 : Int64) : Prop :=
  (wX11_four (fun r_36 => ((¬ (lg_cmp x0 (((r_36 * (32 : Int64)) + (101 : Int64)) - (96 : Int64))) = 0 → (wX11_wordOf_78 Q x0)) ∧ ((lg_cmp x0 (((r_36 * (32 : Int64)) + (101 : Int64)) - (96 : Int64))) = 0 → (Q (2 : Int32))))) (114 : Int32) (105 : Int32) (100 : Int32) (103 : Int32))
def wX11_wordOf_18 (Q : Int32 → Prop)   (x0 : Int64) : Prop :=
  (wX11_four (fun r_38 => ((¬ (lg_cmp x0 (((r_38 * (32 : Int64)) + (108 : Int64)) - (96 : Int64))) = 0 → (wX11_wordOf_48 Q x0)) ∧ ((lg_cmp x0 (((r_38 * (32 : Int64)) + (108 : Int64)) - (96 : Int64))) = 0 → (Q (1 : Int32))))) (108 : Int32) (101 : Int32) (118 : Int32) (101 : Int32))
def wX11_wordOf (Q : Int32 → Prop) (x0 : Int64)  : Prop :=
  (wX11_four (fun r_40 => ((¬ (lg_cmp x0 r_40) = 0 → (wX11_wordOf_18 Q x0)) ∧ ((lg_cmp x0 r_40) = 0 → (Q (0 : Int32))))) (104 : Int32) (111 : Int32) (117 : Int32) (114 : Int32))
abbrev rmX11_wordOf : Room := { frames := 2, cells := 0, slots := 0, locals := 44 }
abbrev qX11_wordOf (dC : Nat → ClassId) (dI : Nat → Nat → Nat) (cI cZ cO cW : ClassId)  (Q : Int32 → Prop) (A : Nat → Prop) : Array Value → State → Outcome → State → Prop := va_Qi (fun (r : Int32) (u : Unit) => Q r) (fun (u : Unit) (t : State) => va_P (dC, dI) vwCl ([] : va_W) t.heap ∧ va_K (dC, dI) vwCl (tysA cI cZ cO cW) t ∧ va_D A ([] : va_W)) A
def zsX11_wordOf : List Cond := Cond.code yX11_wordOf cX11_wordOf 2 (some .int) :: GW
set_option maxHeartbeats 4000000 in
set_option maxRecDepth 100000 in
theorem tX11_wordOf_431 {p : Program} {l : Launch} {e : Env} {s : State} {m : MethodId} {args : Array Value} {below : List Frame} {meth : Method} {c : Code} {dC : Nat → ClassId} {dI : Nat → Nat → Nat} {cI cZ cO cW : ClassId} {A : Nat → Prop} {Q : Int32 → Prop}  (hC : Cx p s m args meth c cX11_wordOf (some .int) 2 GW RX11) (hK : va_K (dC, dI) vwCl (tysA cI cZ cO cW) s) (hA : ∀ q : Nat, s.heap.size ≤ q → A q) :
    ∀ (x0 : Int64) (H : Heap) (locs : List Loc) (ls : Array Slot), wX11_wordOf_431 Q  x0 → va_P (dC, dI) vwCl ([] : va_W) H → va_D A ([] : va_W) → va_S A s.heap H locs → lv_has ls 2 [(0, .long x0)] → W p l e rmX11_wordOf s m args below meth c H locs 0 0 (MQ below (qX11_wordOf dC dI cI cZ cO cW Q A) args s 0 0 A) (F0 m 431 ls []) := by
  obtain ⟨hx, hb, hr, hml, hown, hts, hlocks⟩ := id hC
  intro x0 H locs ls hw hP hD hS hl
  refine lv_lload_n hx hb dX11_wordOf_431 rfl (lv_at hl 0 rfl) ?_
  refine lv_bipush (v := (110 : Int32)) hx hb dX11_wordOf_432 (by decide) ?_
  refine lv_bipush (v := (111 : Int32)) hx hb dX11_wordOf_434 (by decide) ?_
  have hPc := hP.sub (ws' := []) [] rfl
  have hDc := hD.sub (ws' := []) [] (by decide) rfl
  have hFc := va_free (wc := []) hD hS hA [] rfl
  refine va_calll (va_runS (As := [.int (110 : Int32), .int (111 : Int32)]) (rest := [.long x0]) ⟨hx, hb, hml, hown, hts⟩ (kX11_two l dC dI cI cZ cO cW H.size (110 : Int32) (111 : Int32) _ hw) (va_cwS 2 hts (gS gw_671 gw_672 gw_622 (gM gw_666)) rfl rfl rfl (by decide +kernel) ⟨Nat.le_of_ble_eq_true rfl, Nat.le_of_ble_eq_true rfl⟩) (ps_of hPc hK hDc) rfl rfl hl.1 rfl (lv_room (Nat.le_of_ble_eq_true rfl)) dX11_wordOf_436 ⟨Nat.zero_le _, Nat.zero_le _⟩) hS (fun q _ h => hFc q h) hFc (fun r_1 u t H locs ht hvm hw hB hz1 hk1 hS => ?_)
  obtain ⟨hP, hD⟩ := af_join (wr := []) (w1 := []) hB ht hP hD [] [] rfl rfl (by decide) (by decide) hk1 hFc
  have hP : va_P (dC, dI) vwCl [] _ := hP
  have hD : va_D A [] := hD
  refine lv_ldc2 (v := (32 : Int64)) hx hb hown (hts _ gw_667) dX11_wordOf_439 ?_
  refine lv_lmul hx hb dX11_wordOf_442 ?_
  refine lv_ldc2 (v := (116 : Int64)) hx hb hown (hts _ gw_678) dX11_wordOf_443 ?_
  refine lv_ladd hx hb dX11_wordOf_446 ?_
  refine lv_ldc2 (v := (96 : Int64)) hx hb hown (hts _ gw_668) dX11_wordOf_447 ?_
  refine lv_lsub hx hb dX11_wordOf_450 ?_
  refine W.lcmp hx hb dX11_wordOf_451 ?_
  refine lv_if_ne (tgt := 458) hx hb dX11_wordOf_452 (by decide) (fun c_2 => ?_) (fun c_2 => ?_)
  · have hw := hw.1 c_2
    refine lv_bipush (v := (99 : Int32)) hx hb dX11_wordOf_458 (by decide) ?_
    have hP9 := hP.sub (ws' := ([] : va_W)) [] rfl
    have hD9 := hD.sub (ws' := ([] : va_W)) [] (by decide) rfl
    exact W.iret (v := (99 : Int32)) hx hb hr (fun t ht hW => ⟨⟨(99 : Int32), (), rfl, hw, by rw [ht]; exact hP9, va_K.moved hW.alike hK, hD9⟩, hS.F ht⟩) hS.2.2 dX11_wordOf_460
  · have hw := hw.2 c_2
    refine lv_bipush (v := (33 : Int32)) hx hb dX11_wordOf_455 (by decide) ?_
    have hP9 := hP.sub (ws' := ([] : va_W)) [] rfl
    have hD9 := hD.sub (ws' := ([] : va_W)) [] (by decide) rfl
    exact W.iret (v := (33 : Int32)) hx hb hr (fun t ht hW => ⟨⟨(33 : Int32), (), rfl, hw, by rw [ht]; exact hP9, va_K.moved hW.alike hK, hD9⟩, hS.F ht⟩) hS.2.2 dX11_wordOf_457
set_option maxHeartbeats 4000000 in
set_option maxRecDepth 100000 in
theorem tX11_wordOf_404 {p : Program} {l : Launch} {e : Env} {s : State} {m : MethodId} {args : Array Value} {below : List Frame} {meth : Method} {c : Code} {dC : Nat → ClassId} {dI : Nat → Nat → Nat} {cI cZ cO cW : ClassId} {A : Nat → Prop} {Q : Int32 → Prop}  (hC : Cx p s m args meth c cX11_wordOf (some .int) 2 GW RX11) (hK : va_K (dC, dI) vwCl (tysA cI cZ cO cW) s) (hA : ∀ q : Nat, s.heap.size ≤ q → A q) :
    ∀ (x0 : Int64) (H : Heap) (locs : List Loc) (ls : Array Slot), wX11_wordOf_404 Q  x0 → va_P (dC, dI) vwCl ([] : va_W) H → va_D A ([] : va_W) → va_S A s.heap H locs → lv_has ls 2 [(0, .long x0)] → W p l e rmX11_wordOf s m args below meth c H locs 0 0 (MQ below (qX11_wordOf dC dI cI cZ cO cW Q A) args s 0 0 A) (F0 m 404 ls []) := by
  obtain ⟨hx, hb, hr, hml, hown, hts, hlocks⟩ := id hC
  intro x0 H locs ls hw hP hD hS hl
  refine lv_lload_n hx hb dX11_wordOf_404 rfl (lv_at hl 0 rfl) ?_
  refine lv_bipush (v := (97 : Int32)) hx hb dX11_wordOf_405 (by decide) ?_
  refine lv_bipush (v := (110 : Int32)) hx hb dX11_wordOf_407 (by decide) ?_
  have hPc := hP.sub (ws' := []) [] rfl
  have hDc := hD.sub (ws' := []) [] (by decide) rfl
  have hFc := va_free (wc := []) hD hS hA [] rfl
  refine va_calll (va_runS (As := [.int (97 : Int32), .int (110 : Int32)]) (rest := [.long x0]) ⟨hx, hb, hml, hown, hts⟩ (kX11_two l dC dI cI cZ cO cW H.size (97 : Int32) (110 : Int32) _ hw) (va_cwS 2 hts (gS gw_671 gw_672 gw_622 (gM gw_666)) rfl rfl rfl (by decide +kernel) ⟨Nat.le_of_ble_eq_true rfl, Nat.le_of_ble_eq_true rfl⟩) (ps_of hPc hK hDc) rfl rfl hl.1 rfl (lv_room (Nat.le_of_ble_eq_true rfl)) dX11_wordOf_409 ⟨Nat.zero_le _, Nat.zero_le _⟩) hS (fun q _ h => hFc q h) hFc (fun r_3 u t H locs ht hvm hw hB hz1 hk1 hS => ?_)
  obtain ⟨hP, hD⟩ := af_join (wr := []) (w1 := []) hB ht hP hD [] [] rfl rfl (by decide) (by decide) hk1 hFc
  have hP : va_P (dC, dI) vwCl [] _ := hP
  have hD : va_D A [] := hD
  refine lv_ldc2 (v := (32 : Int64)) hx hb hown (hts _ gw_667) dX11_wordOf_412 ?_
  refine lv_lmul hx hb dX11_wordOf_415 ?_
  refine lv_ldc2 (v := (100 : Int64)) hx hb hown (hts _ gw_679) dX11_wordOf_416 ?_
  refine lv_ladd hx hb dX11_wordOf_419 ?_
  refine lv_ldc2 (v := (96 : Int64)) hx hb hown (hts _ gw_668) dX11_wordOf_420 ?_
  refine lv_lsub hx hb dX11_wordOf_423 ?_
  refine W.lcmp hx hb dX11_wordOf_424 ?_
  refine lv_if_ne (tgt := 431) hx hb dX11_wordOf_425 (by decide) (fun c_4 => ?_) (fun c_4 => ?_)
  · have hw := hw.1 c_4
    exact tX11_wordOf_431 hC hK hA  x0 _ _ ls hw (hP.sub [] rfl) (hD.sub [] (by decide) rfl) hS (lv_sub hl [0] rfl)
  · have hw := hw.2 c_4
    refine lv_bipush (v := (32 : Int32)) hx hb dX11_wordOf_428 (by decide) ?_
    have hP9 := hP.sub (ws' := ([] : va_W)) [] rfl
    have hD9 := hD.sub (ws' := ([] : va_W)) [] (by decide) rfl
    exact W.iret (v := (32 : Int32)) hx hb hr (fun t ht hW => ⟨⟨(32 : Int32), (), rfl, hw, by rw [ht]; exact hP9, va_K.moved hW.alike hK, hD9⟩, hS.F ht⟩) hS.2.2 dX11_wordOf_430
set_option maxHeartbeats 4000000 in
set_option maxRecDepth 100000 in
theorem tX11_wordOf_389 {p : Program} {l : Launch} {e : Env} {s : State} {m : MethodId} {args : Array Value} {below : List Frame} {meth : Method} {c : Code} {dC : Nat → ClassId} {dI : Nat → Nat → Nat} {cI cZ cO cW : ClassId} {A : Nat → Prop} {Q : Int32 → Prop}  (hC : Cx p s m args meth c cX11_wordOf (some .int) 2 GW RX11) (hK : va_K (dC, dI) vwCl (tysA cI cZ cO cW) s) (hA : ∀ q : Nat, s.heap.size ≤ q → A q) :
    ∀ (x0 : Int64) (H : Heap) (locs : List Loc) (ls : Array Slot), wX11_wordOf_389 Q  x0 → va_P (dC, dI) vwCl ([] : va_W) H → va_D A ([] : va_W) → va_S A s.heap H locs → lv_has ls 2 [(0, .long x0)] → W p l e rmX11_wordOf s m args below meth c H locs 0 0 (MQ below (qX11_wordOf dC dI cI cZ cO cW Q A) args s 0 0 A) (F0 m 389 ls []) := by
  obtain ⟨hx, hb, hr, hml, hown, hts, hlocks⟩ := id hC
  intro x0 H locs ls hw hP hD hS hl
  refine lv_lload_n hx hb dX11_wordOf_389 rfl (lv_at hl 0 rfl) ?_
  refine lv_bipush (v := (111 : Int32)) hx hb dX11_wordOf_390 (by decide) ?_
  refine lv_bipush (v := (114 : Int32)) hx hb dX11_wordOf_392 (by decide) ?_
  have hPc := hP.sub (ws' := []) [] rfl
  have hDc := hD.sub (ws' := []) [] (by decide) rfl
  have hFc := va_free (wc := []) hD hS hA [] rfl
  refine va_calll (va_runS (As := [.int (111 : Int32), .int (114 : Int32)]) (rest := [.long x0]) ⟨hx, hb, hml, hown, hts⟩ (kX11_two l dC dI cI cZ cO cW H.size (111 : Int32) (114 : Int32) _ hw) (va_cwS 2 hts (gS gw_671 gw_672 gw_622 (gM gw_666)) rfl rfl rfl (by decide +kernel) ⟨Nat.le_of_ble_eq_true rfl, Nat.le_of_ble_eq_true rfl⟩) (ps_of hPc hK hDc) rfl rfl hl.1 rfl (lv_room (Nat.le_of_ble_eq_true rfl)) dX11_wordOf_394 ⟨Nat.zero_le _, Nat.zero_le _⟩) hS (fun q _ h => hFc q h) hFc (fun r_5 u t H locs ht hvm hw hB hz1 hk1 hS => ?_)
  obtain ⟨hP, hD⟩ := af_join (wr := []) (w1 := []) hB ht hP hD [] [] rfl rfl (by decide) (by decide) hk1 hFc
  have hP : va_P (dC, dI) vwCl [] _ := hP
  have hD : va_D A [] := hD
  refine W.lcmp hx hb dX11_wordOf_397 ?_
  refine lv_if_ne (tgt := 404) hx hb dX11_wordOf_398 (by decide) (fun c_6 => ?_) (fun c_6 => ?_)
  · have hw := hw.1 c_6
    exact tX11_wordOf_404 hC hK hA  x0 _ _ ls hw (hP.sub [] rfl) (hD.sub [] (by decide) rfl) hS (lv_sub hl [0] rfl)
  · have hw := hw.2 c_6
    refine lv_bipush (v := (31 : Int32)) hx hb dX11_wordOf_401 (by decide) ?_
    have hP9 := hP.sub (ws' := ([] : va_W)) [] rfl
    have hD9 := hD.sub (ws' := ([] : va_W)) [] (by decide) rfl
    exact W.iret (v := (31 : Int32)) hx hb hr (fun t ht hW => ⟨⟨(31 : Int32), (), rfl, hw, by rw [ht]; exact hP9, va_K.moved hW.alike hK, hD9⟩, hS.F ht⟩) hS.2.2 dX11_wordOf_403
set_option maxHeartbeats 4000000 in
set_option maxRecDepth 100000 in
theorem tX11_wordOf_374 {p : Program} {l : Launch} {e : Env} {s : State} {m : MethodId} {args : Array Value} {below : List Frame} {meth : Method} {c : Code} {dC : Nat → ClassId} {dI : Nat → Nat → Nat} {cI cZ cO cW : ClassId} {A : Nat → Prop} {Q : Int32 → Prop}  (hC : Cx p s m args meth c cX11_wordOf (some .int) 2 GW RX11) (hK : va_K (dC, dI) vwCl (tysA cI cZ cO cW) s) (hA : ∀ q : Nat, s.heap.size ≤ q → A q) :
    ∀ (x0 : Int64) (H : Heap) (locs : List Loc) (ls : Array Slot), wX11_wordOf_374 Q  x0 → va_P (dC, dI) vwCl ([] : va_W) H → va_D A ([] : va_W) → va_S A s.heap H locs → lv_has ls 2 [(0, .long x0)] → W p l e rmX11_wordOf s m args below meth c H locs 0 0 (MQ below (qX11_wordOf dC dI cI cZ cO cW Q A) args s 0 0 A) (F0 m 374 ls []) := by
  obtain ⟨hx, hb, hr, hml, hown, hts, hlocks⟩ := id hC
  intro x0 H locs ls hw hP hD hS hl
  refine lv_lload_n hx hb dX11_wordOf_374 rfl (lv_at hl 0 rfl) ?_
  refine lv_bipush (v := (105 : Int32)) hx hb dX11_wordOf_375 (by decide) ?_
  refine lv_bipush (v := (102 : Int32)) hx hb dX11_wordOf_377 (by decide) ?_
  have hPc := hP.sub (ws' := []) [] rfl
  have hDc := hD.sub (ws' := []) [] (by decide) rfl
  have hFc := va_free (wc := []) hD hS hA [] rfl
  refine va_calll (va_runS (As := [.int (105 : Int32), .int (102 : Int32)]) (rest := [.long x0]) ⟨hx, hb, hml, hown, hts⟩ (kX11_two l dC dI cI cZ cO cW H.size (105 : Int32) (102 : Int32) _ hw) (va_cwS 2 hts (gS gw_671 gw_672 gw_622 (gM gw_666)) rfl rfl rfl (by decide +kernel) ⟨Nat.le_of_ble_eq_true rfl, Nat.le_of_ble_eq_true rfl⟩) (ps_of hPc hK hDc) rfl rfl hl.1 rfl (lv_room (Nat.le_of_ble_eq_true rfl)) dX11_wordOf_379 ⟨Nat.zero_le _, Nat.zero_le _⟩) hS (fun q _ h => hFc q h) hFc (fun r_7 u t H locs ht hvm hw hB hz1 hk1 hS => ?_)
  obtain ⟨hP, hD⟩ := af_join (wr := []) (w1 := []) hB ht hP hD [] [] rfl rfl (by decide) (by decide) hk1 hFc
  have hP : va_P (dC, dI) vwCl [] _ := hP
  have hD : va_D A [] := hD
  refine W.lcmp hx hb dX11_wordOf_382 ?_
  refine lv_if_ne (tgt := 389) hx hb dX11_wordOf_383 (by decide) (fun c_8 => ?_) (fun c_8 => ?_)
  · have hw := hw.1 c_8
    exact tX11_wordOf_389 hC hK hA  x0 _ _ ls hw (hP.sub [] rfl) (hD.sub [] (by decide) rfl) hS (lv_sub hl [0] rfl)
  · have hw := hw.2 c_8
    refine lv_bipush (v := (30 : Int32)) hx hb dX11_wordOf_386 (by decide) ?_
    have hP9 := hP.sub (ws' := ([] : va_W)) [] rfl
    have hD9 := hD.sub (ws' := ([] : va_W)) [] (by decide) rfl
    exact W.iret (v := (30 : Int32)) hx hb hr (fun t ht hW => ⟨⟨(30 : Int32), (), rfl, hw, by rw [ht]; exact hP9, va_K.moved hW.alike hK, hD9⟩, hS.F ht⟩) hS.2.2 dX11_wordOf_388
set_option maxHeartbeats 4000000 in
set_option maxRecDepth 100000 in
theorem tX11_wordOf_355 {p : Program} {l : Launch} {e : Env} {s : State} {m : MethodId} {args : Array Value} {below : List Frame} {meth : Method} {c : Code} {dC : Nat → ClassId} {dI : Nat → Nat → Nat} {cI cZ cO cW : ClassId} {A : Nat → Prop} {Q : Int32 → Prop}  (hC : Cx p s m args meth c cX11_wordOf (some .int) 2 GW RX11) (hK : va_K (dC, dI) vwCl (tysA cI cZ cO cW) s) (hA : ∀ q : Nat, s.heap.size ≤ q → A q) :
    ∀ (x0 : Int64) (H : Heap) (locs : List Loc) (ls : Array Slot), wX11_wordOf_355 Q  x0 → va_P (dC, dI) vwCl ([] : va_W) H → va_D A ([] : va_W) → va_S A s.heap H locs → lv_has ls 2 [(0, .long x0)] → W p l e rmX11_wordOf s m args below meth c H locs 0 0 (MQ below (qX11_wordOf dC dI cI cZ cO cW Q A) args s 0 0 A) (F0 m 355 ls []) := by
  obtain ⟨hx, hb, hr, hml, hown, hts, hlocks⟩ := id hC
  intro x0 H locs ls hw hP hD hS hl
  refine lv_lload_n hx hb dX11_wordOf_355 rfl (lv_at hl 0 rfl) ?_
  refine lv_bipush (v := (99 : Int32)) hx hb dX11_wordOf_356 (by decide) ?_
  refine lv_bipush (v := (97 : Int32)) hx hb dX11_wordOf_358 (by decide) ?_
  refine lv_bipush (v := (108 : Int32)) hx hb dX11_wordOf_360 (by decide) ?_
  refine lv_bipush (v := (108 : Int32)) hx hb dX11_wordOf_362 (by decide) ?_
  have hPc := hP.sub (ws' := []) [] rfl
  have hDc := hD.sub (ws' := []) [] (by decide) rfl
  have hFc := va_free (wc := []) hD hS hA [] rfl
  refine va_calll (va_runS (As := [.int (99 : Int32), .int (97 : Int32), .int (108 : Int32), .int (108 : Int32)]) (rest := [.long x0]) ⟨hx, hb, hml, hown, hts⟩ (kX11_four l dC dI cI cZ cO cW H.size (99 : Int32) (97 : Int32) (108 : Int32) (108 : Int32) _ hw) (va_cwS 4 hts (gS gw_680 gw_681 gw_622 (gM gw_669)) rfl rfl rfl (by decide +kernel) ⟨Nat.le_of_ble_eq_true rfl, Nat.le_of_ble_eq_true rfl⟩) (ps_of hPc hK hDc) rfl rfl hl.1 rfl (lv_room (Nat.le_of_ble_eq_true rfl)) dX11_wordOf_364 ⟨Nat.zero_le _, Nat.zero_le _⟩) hS (fun q _ h => hFc q h) hFc (fun r_9 u t H locs ht hvm hw hB hz1 hk1 hS => ?_)
  obtain ⟨hP, hD⟩ := af_join (wr := []) (w1 := []) hB ht hP hD [] [] rfl rfl (by decide) (by decide) hk1 hFc
  have hP : va_P (dC, dI) vwCl [] _ := hP
  have hD : va_D A [] := hD
  refine W.lcmp hx hb dX11_wordOf_367 ?_
  refine lv_if_ne (tgt := 374) hx hb dX11_wordOf_368 (by decide) (fun c_10 => ?_) (fun c_10 => ?_)
  · have hw := hw.1 c_10
    exact tX11_wordOf_374 hC hK hA  x0 _ _ ls hw (hP.sub [] rfl) (hD.sub [] (by decide) rfl) hS (lv_sub hl [0] rfl)
  · have hw := hw.2 c_10
    refine lv_bipush (v := (26 : Int32)) hx hb dX11_wordOf_371 (by decide) ?_
    have hP9 := hP.sub (ws' := ([] : va_W)) [] rfl
    have hD9 := hD.sub (ws' := ([] : va_W)) [] (by decide) rfl
    exact W.iret (v := (26 : Int32)) hx hb hr (fun t ht hW => ⟨⟨(26 : Int32), (), rfl, hw, by rw [ht]; exact hP9, va_K.moved hW.alike hK, hD9⟩, hS.F ht⟩) hS.2.2 dX11_wordOf_373
set_option maxHeartbeats 4000000 in
set_option maxRecDepth 100000 in
theorem tX11_wordOf_328 {p : Program} {l : Launch} {e : Env} {s : State} {m : MethodId} {args : Array Value} {below : List Frame} {meth : Method} {c : Code} {dC : Nat → ClassId} {dI : Nat → Nat → Nat} {cI cZ cO cW : ClassId} {A : Nat → Prop} {Q : Int32 → Prop}  (hC : Cx p s m args meth c cX11_wordOf (some .int) 2 GW RX11) (hK : va_K (dC, dI) vwCl (tysA cI cZ cO cW) s) (hA : ∀ q : Nat, s.heap.size ≤ q → A q) :
    ∀ (x0 : Int64) (H : Heap) (locs : List Loc) (ls : Array Slot), wX11_wordOf_328 Q  x0 → va_P (dC, dI) vwCl ([] : va_W) H → va_D A ([] : va_W) → va_S A s.heap H locs → lv_has ls 2 [(0, .long x0)] → W p l e rmX11_wordOf s m args below meth c H locs 0 0 (MQ below (qX11_wordOf dC dI cI cZ cO cW Q A) args s 0 0 A) (F0 m 328 ls []) := by
  obtain ⟨hx, hb, hr, hml, hown, hts, hlocks⟩ := id hC
  intro x0 H locs ls hw hP hD hS hl
  refine lv_lload_n hx hb dX11_wordOf_328 rfl (lv_at hl 0 rfl) ?_
  refine lv_bipush (v := (99 : Int32)) hx hb dX11_wordOf_329 (by decide) ?_
  refine lv_bipush (v := (117 : Int32)) hx hb dX11_wordOf_331 (by decide) ?_
  have hPc := hP.sub (ws' := []) [] rfl
  have hDc := hD.sub (ws' := []) [] (by decide) rfl
  have hFc := va_free (wc := []) hD hS hA [] rfl
  refine va_calll (va_runS (As := [.int (99 : Int32), .int (117 : Int32)]) (rest := [.long x0]) ⟨hx, hb, hml, hown, hts⟩ (kX11_two l dC dI cI cZ cO cW H.size (99 : Int32) (117 : Int32) _ hw) (va_cwS 2 hts (gS gw_671 gw_672 gw_622 (gM gw_666)) rfl rfl rfl (by decide +kernel) ⟨Nat.le_of_ble_eq_true rfl, Nat.le_of_ble_eq_true rfl⟩) (ps_of hPc hK hDc) rfl rfl hl.1 rfl (lv_room (Nat.le_of_ble_eq_true rfl)) dX11_wordOf_333 ⟨Nat.zero_le _, Nat.zero_le _⟩) hS (fun q _ h => hFc q h) hFc (fun r_11 u t H locs ht hvm hw hB hz1 hk1 hS => ?_)
  obtain ⟨hP, hD⟩ := af_join (wr := []) (w1 := []) hB ht hP hD [] [] rfl rfl (by decide) (by decide) hk1 hFc
  have hP : va_P (dC, dI) vwCl [] _ := hP
  have hD : va_D A [] := hD
  refine lv_ldc2 (v := (32 : Int64)) hx hb hown (hts _ gw_667) dX11_wordOf_336 ?_
  refine lv_lmul hx hb dX11_wordOf_339 ?_
  refine lv_ldc2 (v := (116 : Int64)) hx hb hown (hts _ gw_678) dX11_wordOf_340 ?_
  refine lv_ladd hx hb dX11_wordOf_343 ?_
  refine lv_ldc2 (v := (96 : Int64)) hx hb hown (hts _ gw_668) dX11_wordOf_344 ?_
  refine lv_lsub hx hb dX11_wordOf_347 ?_
  refine W.lcmp hx hb dX11_wordOf_348 ?_
  refine lv_if_ne (tgt := 355) hx hb dX11_wordOf_349 (by decide) (fun c_12 => ?_) (fun c_12 => ?_)
  · have hw := hw.1 c_12
    exact tX11_wordOf_355 hC hK hA  x0 _ _ ls hw (hP.sub [] rfl) (hD.sub [] (by decide) rfl) hS (lv_sub hl [0] rfl)
  · have hw := hw.2 c_12
    refine lv_bipush (v := (25 : Int32)) hx hb dX11_wordOf_352 (by decide) ?_
    have hP9 := hP.sub (ws' := ([] : va_W)) [] rfl
    have hD9 := hD.sub (ws' := ([] : va_W)) [] (by decide) rfl
    exact W.iret (v := (25 : Int32)) hx hb hr (fun t ht hW => ⟨⟨(25 : Int32), (), rfl, hw, by rw [ht]; exact hP9, va_K.moved hW.alike hK, hD9⟩, hS.F ht⟩) hS.2.2 dX11_wordOf_354
set_option maxHeartbeats 4000000 in
set_option maxRecDepth 100000 in
theorem tX11_wordOf_309 {p : Program} {l : Launch} {e : Env} {s : State} {m : MethodId} {args : Array Value} {below : List Frame} {meth : Method} {c : Code} {dC : Nat → ClassId} {dI : Nat → Nat → Nat} {cI cZ cO cW : ClassId} {A : Nat → Prop} {Q : Int32 → Prop}  (hC : Cx p s m args meth c cX11_wordOf (some .int) 2 GW RX11) (hK : va_K (dC, dI) vwCl (tysA cI cZ cO cW) s) (hA : ∀ q : Nat, s.heap.size ≤ q → A q) :
    ∀ (x0 : Int64) (H : Heap) (locs : List Loc) (ls : Array Slot), wX11_wordOf_309 Q  x0 → va_P (dC, dI) vwCl ([] : va_W) H → va_D A ([] : va_W) → va_S A s.heap H locs → lv_has ls 2 [(0, .long x0)] → W p l e rmX11_wordOf s m args below meth c H locs 0 0 (MQ below (qX11_wordOf dC dI cI cZ cO cW Q A) args s 0 0 A) (F0 m 309 ls []) := by
  obtain ⟨hx, hb, hr, hml, hown, hts, hlocks⟩ := id hC
  intro x0 H locs ls hw hP hD hS hl
  refine lv_lload_n hx hb dX11_wordOf_309 rfl (lv_at hl 0 rfl) ?_
  refine lv_bipush (v := (119 : Int32)) hx hb dX11_wordOf_310 (by decide) ?_
  refine lv_bipush (v := (97 : Int32)) hx hb dX11_wordOf_312 (by decide) ?_
  refine lv_bipush (v := (105 : Int32)) hx hb dX11_wordOf_314 (by decide) ?_
  refine lv_bipush (v := (116 : Int32)) hx hb dX11_wordOf_316 (by decide) ?_
  have hPc := hP.sub (ws' := []) [] rfl
  have hDc := hD.sub (ws' := []) [] (by decide) rfl
  have hFc := va_free (wc := []) hD hS hA [] rfl
  refine va_calll (va_runS (As := [.int (119 : Int32), .int (97 : Int32), .int (105 : Int32), .int (116 : Int32)]) (rest := [.long x0]) ⟨hx, hb, hml, hown, hts⟩ (kX11_four l dC dI cI cZ cO cW H.size (119 : Int32) (97 : Int32) (105 : Int32) (116 : Int32) _ hw) (va_cwS 4 hts (gS gw_680 gw_681 gw_622 (gM gw_669)) rfl rfl rfl (by decide +kernel) ⟨Nat.le_of_ble_eq_true rfl, Nat.le_of_ble_eq_true rfl⟩) (ps_of hPc hK hDc) rfl rfl hl.1 rfl (lv_room (Nat.le_of_ble_eq_true rfl)) dX11_wordOf_318 ⟨Nat.zero_le _, Nat.zero_le _⟩) hS (fun q _ h => hFc q h) hFc (fun r_13 u t H locs ht hvm hw hB hz1 hk1 hS => ?_)
  obtain ⟨hP, hD⟩ := af_join (wr := []) (w1 := []) hB ht hP hD [] [] rfl rfl (by decide) (by decide) hk1 hFc
  have hP : va_P (dC, dI) vwCl [] _ := hP
  have hD : va_D A [] := hD
  refine W.lcmp hx hb dX11_wordOf_321 ?_
  refine lv_if_ne (tgt := 328) hx hb dX11_wordOf_322 (by decide) (fun c_14 => ?_) (fun c_14 => ?_)
  · have hw := hw.1 c_14
    exact tX11_wordOf_328 hC hK hA  x0 _ _ ls hw (hP.sub [] rfl) (hD.sub [] (by decide) rfl) hS (lv_sub hl [0] rfl)
  · have hw := hw.2 c_14
    refine lv_bipush (v := (24 : Int32)) hx hb dX11_wordOf_325 (by decide) ?_
    have hP9 := hP.sub (ws' := ([] : va_W)) [] rfl
    have hD9 := hD.sub (ws' := ([] : va_W)) [] (by decide) rfl
    exact W.iret (v := (24 : Int32)) hx hb hr (fun t ht hW => ⟨⟨(24 : Int32), (), rfl, hw, by rw [ht]; exact hP9, va_K.moved hW.alike hK, hD9⟩, hS.F ht⟩) hS.2.2 dX11_wordOf_327
set_option maxHeartbeats 4000000 in
set_option maxRecDepth 100000 in
theorem tX11_wordOf_290 {p : Program} {l : Launch} {e : Env} {s : State} {m : MethodId} {args : Array Value} {below : List Frame} {meth : Method} {c : Code} {dC : Nat → ClassId} {dI : Nat → Nat → Nat} {cI cZ cO cW : ClassId} {A : Nat → Prop} {Q : Int32 → Prop}  (hC : Cx p s m args meth c cX11_wordOf (some .int) 2 GW RX11) (hK : va_K (dC, dI) vwCl (tysA cI cZ cO cW) s) (hA : ∀ q : Nat, s.heap.size ≤ q → A q) :
    ∀ (x0 : Int64) (H : Heap) (locs : List Loc) (ls : Array Slot), wX11_wordOf_290 Q  x0 → va_P (dC, dI) vwCl ([] : va_W) H → va_D A ([] : va_W) → va_S A s.heap H locs → lv_has ls 2 [(0, .long x0)] → W p l e rmX11_wordOf s m args below meth c H locs 0 0 (MQ below (qX11_wordOf dC dI cI cZ cO cW Q A) args s 0 0 A) (F0 m 290 ls []) := by
  obtain ⟨hx, hb, hr, hml, hown, hts, hlocks⟩ := id hC
  intro x0 H locs ls hw hP hD hS hl
  refine lv_lload_n hx hb dX11_wordOf_290 rfl (lv_at hl 0 rfl) ?_
  refine lv_bipush (v := (116 : Int32)) hx hb dX11_wordOf_291 (by decide) ?_
  refine lv_bipush (v := (111 : Int32)) hx hb dX11_wordOf_293 (by decide) ?_
  refine lv_bipush (v := (108 : Int32)) hx hb dX11_wordOf_295 (by decide) ?_
  refine lv_bipush (v := (100 : Int32)) hx hb dX11_wordOf_297 (by decide) ?_
  have hPc := hP.sub (ws' := []) [] rfl
  have hDc := hD.sub (ws' := []) [] (by decide) rfl
  have hFc := va_free (wc := []) hD hS hA [] rfl
  refine va_calll (va_runS (As := [.int (116 : Int32), .int (111 : Int32), .int (108 : Int32), .int (100 : Int32)]) (rest := [.long x0]) ⟨hx, hb, hml, hown, hts⟩ (kX11_four l dC dI cI cZ cO cW H.size (116 : Int32) (111 : Int32) (108 : Int32) (100 : Int32) _ hw) (va_cwS 4 hts (gS gw_680 gw_681 gw_622 (gM gw_669)) rfl rfl rfl (by decide +kernel) ⟨Nat.le_of_ble_eq_true rfl, Nat.le_of_ble_eq_true rfl⟩) (ps_of hPc hK hDc) rfl rfl hl.1 rfl (lv_room (Nat.le_of_ble_eq_true rfl)) dX11_wordOf_299 ⟨Nat.zero_le _, Nat.zero_le _⟩) hS (fun q _ h => hFc q h) hFc (fun r_15 u t H locs ht hvm hw hB hz1 hk1 hS => ?_)
  obtain ⟨hP, hD⟩ := af_join (wr := []) (w1 := []) hB ht hP hD [] [] rfl rfl (by decide) (by decide) hk1 hFc
  have hP : va_P (dC, dI) vwCl [] _ := hP
  have hD : va_D A [] := hD
  refine W.lcmp hx hb dX11_wordOf_302 ?_
  refine lv_if_ne (tgt := 309) hx hb dX11_wordOf_303 (by decide) (fun c_16 => ?_) (fun c_16 => ?_)
  · have hw := hw.1 c_16
    exact tX11_wordOf_309 hC hK hA  x0 _ _ ls hw (hP.sub [] rfl) (hD.sub [] (by decide) rfl) hS (lv_sub hl [0] rfl)
  · have hw := hw.2 c_16
    refine lv_bipush (v := (12 : Int32)) hx hb dX11_wordOf_306 (by decide) ?_
    have hP9 := hP.sub (ws' := ([] : va_W)) [] rfl
    have hD9 := hD.sub (ws' := ([] : va_W)) [] (by decide) rfl
    exact W.iret (v := (12 : Int32)) hx hb hr (fun t ht hW => ⟨⟨(12 : Int32), (), rfl, hw, by rw [ht]; exact hP9, va_K.moved hW.alike hK, hD9⟩, hS.F ht⟩) hS.2.2 dX11_wordOf_308
set_option maxHeartbeats 4000000 in
set_option maxRecDepth 100000 in
theorem tX11_wordOf_271 {p : Program} {l : Launch} {e : Env} {s : State} {m : MethodId} {args : Array Value} {below : List Frame} {meth : Method} {c : Code} {dC : Nat → ClassId} {dI : Nat → Nat → Nat} {cI cZ cO cW : ClassId} {A : Nat → Prop} {Q : Int32 → Prop}  (hC : Cx p s m args meth c cX11_wordOf (some .int) 2 GW RX11) (hK : va_K (dC, dI) vwCl (tysA cI cZ cO cW) s) (hA : ∀ q : Nat, s.heap.size ≤ q → A q) :
    ∀ (x0 : Int64) (H : Heap) (locs : List Loc) (ls : Array Slot), wX11_wordOf_271 Q  x0 → va_P (dC, dI) vwCl ([] : va_W) H → va_D A ([] : va_W) → va_S A s.heap H locs → lv_has ls 2 [(0, .long x0)] → W p l e rmX11_wordOf s m args below meth c H locs 0 0 (MQ below (qX11_wordOf dC dI cI cZ cO cW Q A) args s 0 0 A) (F0 m 271 ls []) := by
  obtain ⟨hx, hb, hr, hml, hown, hts, hlocks⟩ := id hC
  intro x0 H locs ls hw hP hD hS hl
  refine lv_lload_n hx hb dX11_wordOf_271 rfl (lv_at hl 0 rfl) ?_
  refine lv_bipush (v := (119 : Int32)) hx hb dX11_wordOf_272 (by decide) ?_
  refine lv_bipush (v := (101 : Int32)) hx hb dX11_wordOf_274 (by decide) ?_
  refine lv_bipush (v := (115 : Int32)) hx hb dX11_wordOf_276 (by decide) ?_
  refine lv_bipush (v := (116 : Int32)) hx hb dX11_wordOf_278 (by decide) ?_
  have hPc := hP.sub (ws' := []) [] rfl
  have hDc := hD.sub (ws' := []) [] (by decide) rfl
  have hFc := va_free (wc := []) hD hS hA [] rfl
  refine va_calll (va_runS (As := [.int (119 : Int32), .int (101 : Int32), .int (115 : Int32), .int (116 : Int32)]) (rest := [.long x0]) ⟨hx, hb, hml, hown, hts⟩ (kX11_four l dC dI cI cZ cO cW H.size (119 : Int32) (101 : Int32) (115 : Int32) (116 : Int32) _ hw) (va_cwS 4 hts (gS gw_680 gw_681 gw_622 (gM gw_669)) rfl rfl rfl (by decide +kernel) ⟨Nat.le_of_ble_eq_true rfl, Nat.le_of_ble_eq_true rfl⟩) (ps_of hPc hK hDc) rfl rfl hl.1 rfl (lv_room (Nat.le_of_ble_eq_true rfl)) dX11_wordOf_280 ⟨Nat.zero_le _, Nat.zero_le _⟩) hS (fun q _ h => hFc q h) hFc (fun r_17 u t H locs ht hvm hw hB hz1 hk1 hS => ?_)
  obtain ⟨hP, hD⟩ := af_join (wr := []) (w1 := []) hB ht hP hD [] [] rfl rfl (by decide) (by decide) hk1 hFc
  have hP : va_P (dC, dI) vwCl [] _ := hP
  have hD : va_D A [] := hD
  refine W.lcmp hx hb dX11_wordOf_283 ?_
  refine lv_if_ne (tgt := 290) hx hb dX11_wordOf_284 (by decide) (fun c_18 => ?_) (fun c_18 => ?_)
  · have hw := hw.1 c_18
    exact tX11_wordOf_290 hC hK hA  x0 _ _ ls hw (hP.sub [] rfl) (hD.sub [] (by decide) rfl) hS (lv_sub hl [0] rfl)
  · have hw := hw.2 c_18
    refine lv_bipush (v := (11 : Int32)) hx hb dX11_wordOf_287 (by decide) ?_
    have hP9 := hP.sub (ws' := ([] : va_W)) [] rfl
    have hD9 := hD.sub (ws' := ([] : va_W)) [] (by decide) rfl
    exact W.iret (v := (11 : Int32)) hx hb hr (fun t ht hW => ⟨⟨(11 : Int32), (), rfl, hw, by rw [ht]; exact hP9, va_K.moved hW.alike hK, hD9⟩, hS.F ht⟩) hS.2.2 dX11_wordOf_289
set_option maxHeartbeats 4000000 in
set_option maxRecDepth 100000 in
theorem tX11_wordOf_240 {p : Program} {l : Launch} {e : Env} {s : State} {m : MethodId} {args : Array Value} {below : List Frame} {meth : Method} {c : Code} {dC : Nat → ClassId} {dI : Nat → Nat → Nat} {cI cZ cO cW : ClassId} {A : Nat → Prop} {Q : Int32 → Prop}  (hC : Cx p s m args meth c cX11_wordOf (some .int) 2 GW RX11) (hK : va_K (dC, dI) vwCl (tysA cI cZ cO cW) s) (hA : ∀ q : Nat, s.heap.size ≤ q → A q) :
    ∀ (x0 : Int64) (H : Heap) (locs : List Loc) (ls : Array Slot), wX11_wordOf_240 Q  x0 → va_P (dC, dI) vwCl ([] : va_W) H → va_D A ([] : va_W) → va_S A s.heap H locs → lv_has ls 2 [(0, .long x0)] → W p l e rmX11_wordOf s m args below meth c H locs 0 0 (MQ below (qX11_wordOf dC dI cI cZ cO cW Q A) args s 0 0 A) (F0 m 240 ls []) := by
  obtain ⟨hx, hb, hr, hml, hown, hts, hlocks⟩ := id hC
  intro x0 H locs ls hw hP hD hS hl
  refine lv_lload_n hx hb dX11_wordOf_240 rfl (lv_at hl 0 rfl) ?_
  refine lv_bipush (v := (115 : Int32)) hx hb dX11_wordOf_241 (by decide) ?_
  refine lv_bipush (v := (111 : Int32)) hx hb dX11_wordOf_243 (by decide) ?_
  refine lv_bipush (v := (117 : Int32)) hx hb dX11_wordOf_245 (by decide) ?_
  refine lv_bipush (v := (116 : Int32)) hx hb dX11_wordOf_247 (by decide) ?_
  have hPc := hP.sub (ws' := []) [] rfl
  have hDc := hD.sub (ws' := []) [] (by decide) rfl
  have hFc := va_free (wc := []) hD hS hA [] rfl
  refine va_calll (va_runS (As := [.int (115 : Int32), .int (111 : Int32), .int (117 : Int32), .int (116 : Int32)]) (rest := [.long x0]) ⟨hx, hb, hml, hown, hts⟩ (kX11_four l dC dI cI cZ cO cW H.size (115 : Int32) (111 : Int32) (117 : Int32) (116 : Int32) _ hw) (va_cwS 4 hts (gS gw_680 gw_681 gw_622 (gM gw_669)) rfl rfl rfl (by decide +kernel) ⟨Nat.le_of_ble_eq_true rfl, Nat.le_of_ble_eq_true rfl⟩) (ps_of hPc hK hDc) rfl rfl hl.1 rfl (lv_room (Nat.le_of_ble_eq_true rfl)) dX11_wordOf_249 ⟨Nat.zero_le _, Nat.zero_le _⟩) hS (fun q _ h => hFc q h) hFc (fun r_19 u t H locs ht hvm hw hB hz1 hk1 hS => ?_)
  obtain ⟨hP, hD⟩ := af_join (wr := []) (w1 := []) hB ht hP hD [] [] rfl rfl (by decide) (by decide) hk1 hFc
  have hP : va_P (dC, dI) vwCl [] _ := hP
  have hD : va_D A [] := hD
  refine lv_ldc2 (v := (32 : Int64)) hx hb hown (hts _ gw_667) dX11_wordOf_252 ?_
  refine lv_lmul hx hb dX11_wordOf_255 ?_
  refine lv_ldc2 (v := (104 : Int64)) hx hb hown (hts _ gw_677) dX11_wordOf_256 ?_
  refine lv_ladd hx hb dX11_wordOf_259 ?_
  refine lv_ldc2 (v := (96 : Int64)) hx hb hown (hts _ gw_668) dX11_wordOf_260 ?_
  refine lv_lsub hx hb dX11_wordOf_263 ?_
  refine W.lcmp hx hb dX11_wordOf_264 ?_
  refine lv_if_ne (tgt := 271) hx hb dX11_wordOf_265 (by decide) (fun c_20 => ?_) (fun c_20 => ?_)
  · have hw := hw.1 c_20
    exact tX11_wordOf_271 hC hK hA  x0 _ _ ls hw (hP.sub [] rfl) (hD.sub [] (by decide) rfl) hS (lv_sub hl [0] rfl)
  · have hw := hw.2 c_20
    refine lv_bipush (v := (10 : Int32)) hx hb dX11_wordOf_268 (by decide) ?_
    have hP9 := hP.sub (ws' := ([] : va_W)) [] rfl
    have hD9 := hD.sub (ws' := ([] : va_W)) [] (by decide) rfl
    exact W.iret (v := (10 : Int32)) hx hb hr (fun t ht hW => ⟨⟨(10 : Int32), (), rfl, hw, by rw [ht]; exact hP9, va_K.moved hW.alike hK, hD9⟩, hS.F ht⟩) hS.2.2 dX11_wordOf_270
set_option maxHeartbeats 4000000 in
set_option maxRecDepth 100000 in
theorem tX11_wordOf_221 {p : Program} {l : Launch} {e : Env} {s : State} {m : MethodId} {args : Array Value} {below : List Frame} {meth : Method} {c : Code} {dC : Nat → ClassId} {dI : Nat → Nat → Nat} {cI cZ cO cW : ClassId} {A : Nat → Prop} {Q : Int32 → Prop}  (hC : Cx p s m args meth c cX11_wordOf (some .int) 2 GW RX11) (hK : va_K (dC, dI) vwCl (tysA cI cZ cO cW) s) (hA : ∀ q : Nat, s.heap.size ≤ q → A q) :
    ∀ (x0 : Int64) (H : Heap) (locs : List Loc) (ls : Array Slot), wX11_wordOf_221 Q  x0 → va_P (dC, dI) vwCl ([] : va_W) H → va_D A ([] : va_W) → va_S A s.heap H locs → lv_has ls 2 [(0, .long x0)] → W p l e rmX11_wordOf s m args below meth c H locs 0 0 (MQ below (qX11_wordOf dC dI cI cZ cO cW Q A) args s 0 0 A) (F0 m 221 ls []) := by
  obtain ⟨hx, hb, hr, hml, hown, hts, hlocks⟩ := id hC
  intro x0 H locs ls hw hP hD hS hl
  refine lv_lload_n hx hb dX11_wordOf_221 rfl (lv_at hl 0 rfl) ?_
  refine lv_bipush (v := (101 : Int32)) hx hb dX11_wordOf_222 (by decide) ?_
  refine lv_bipush (v := (97 : Int32)) hx hb dX11_wordOf_224 (by decide) ?_
  refine lv_bipush (v := (115 : Int32)) hx hb dX11_wordOf_226 (by decide) ?_
  refine lv_bipush (v := (116 : Int32)) hx hb dX11_wordOf_228 (by decide) ?_
  have hPc := hP.sub (ws' := []) [] rfl
  have hDc := hD.sub (ws' := []) [] (by decide) rfl
  have hFc := va_free (wc := []) hD hS hA [] rfl
  refine va_calll (va_runS (As := [.int (101 : Int32), .int (97 : Int32), .int (115 : Int32), .int (116 : Int32)]) (rest := [.long x0]) ⟨hx, hb, hml, hown, hts⟩ (kX11_four l dC dI cI cZ cO cW H.size (101 : Int32) (97 : Int32) (115 : Int32) (116 : Int32) _ hw) (va_cwS 4 hts (gS gw_680 gw_681 gw_622 (gM gw_669)) rfl rfl rfl (by decide +kernel) ⟨Nat.le_of_ble_eq_true rfl, Nat.le_of_ble_eq_true rfl⟩) (ps_of hPc hK hDc) rfl rfl hl.1 rfl (lv_room (Nat.le_of_ble_eq_true rfl)) dX11_wordOf_230 ⟨Nat.zero_le _, Nat.zero_le _⟩) hS (fun q _ h => hFc q h) hFc (fun r_21 u t H locs ht hvm hw hB hz1 hk1 hS => ?_)
  obtain ⟨hP, hD⟩ := af_join (wr := []) (w1 := []) hB ht hP hD [] [] rfl rfl (by decide) (by decide) hk1 hFc
  have hP : va_P (dC, dI) vwCl [] _ := hP
  have hD : va_D A [] := hD
  refine W.lcmp hx hb dX11_wordOf_233 ?_
  refine lv_if_ne (tgt := 240) hx hb dX11_wordOf_234 (by decide) (fun c_22 => ?_) (fun c_22 => ?_)
  · have hw := hw.1 c_22
    exact tX11_wordOf_240 hC hK hA  x0 _ _ ls hw (hP.sub [] rfl) (hD.sub [] (by decide) rfl) hS (lv_sub hl [0] rfl)
  · have hw := hw.2 c_22
    refine lv_bipush (v := (9 : Int32)) hx hb dX11_wordOf_237 (by decide) ?_
    have hP9 := hP.sub (ws' := ([] : va_W)) [] rfl
    have hD9 := hD.sub (ws' := ([] : va_W)) [] (by decide) rfl
    exact W.iret (v := (9 : Int32)) hx hb hr (fun t ht hW => ⟨⟨(9 : Int32), (), rfl, hw, by rw [ht]; exact hP9, va_K.moved hW.alike hK, hD9⟩, hS.F ht⟩) hS.2.2 dX11_wordOf_239
set_option maxHeartbeats 4000000 in
set_option maxRecDepth 100000 in
theorem tX11_wordOf_190 {p : Program} {l : Launch} {e : Env} {s : State} {m : MethodId} {args : Array Value} {below : List Frame} {meth : Method} {c : Code} {dC : Nat → ClassId} {dI : Nat → Nat → Nat} {cI cZ cO cW : ClassId} {A : Nat → Prop} {Q : Int32 → Prop}  (hC : Cx p s m args meth c cX11_wordOf (some .int) 2 GW RX11) (hK : va_K (dC, dI) vwCl (tysA cI cZ cO cW) s) (hA : ∀ q : Nat, s.heap.size ≤ q → A q) :
    ∀ (x0 : Int64) (H : Heap) (locs : List Loc) (ls : Array Slot), wX11_wordOf_190 Q  x0 → va_P (dC, dI) vwCl ([] : va_W) H → va_D A ([] : va_W) → va_S A s.heap H locs → lv_has ls 2 [(0, .long x0)] → W p l e rmX11_wordOf s m args below meth c H locs 0 0 (MQ below (qX11_wordOf dC dI cI cZ cO cW Q A) args s 0 0 A) (F0 m 190 ls []) := by
  obtain ⟨hx, hb, hr, hml, hown, hts, hlocks⟩ := id hC
  intro x0 H locs ls hw hP hD hS hl
  refine lv_lload_n hx hb dX11_wordOf_190 rfl (lv_at hl 0 rfl) ?_
  refine lv_bipush (v := (110 : Int32)) hx hb dX11_wordOf_191 (by decide) ?_
  refine lv_bipush (v := (111 : Int32)) hx hb dX11_wordOf_193 (by decide) ?_
  refine lv_bipush (v := (114 : Int32)) hx hb dX11_wordOf_195 (by decide) ?_
  refine lv_bipush (v := (116 : Int32)) hx hb dX11_wordOf_197 (by decide) ?_
  have hPc := hP.sub (ws' := []) [] rfl
  have hDc := hD.sub (ws' := []) [] (by decide) rfl
  have hFc := va_free (wc := []) hD hS hA [] rfl
  refine va_calll (va_runS (As := [.int (110 : Int32), .int (111 : Int32), .int (114 : Int32), .int (116 : Int32)]) (rest := [.long x0]) ⟨hx, hb, hml, hown, hts⟩ (kX11_four l dC dI cI cZ cO cW H.size (110 : Int32) (111 : Int32) (114 : Int32) (116 : Int32) _ hw) (va_cwS 4 hts (gS gw_680 gw_681 gw_622 (gM gw_669)) rfl rfl rfl (by decide +kernel) ⟨Nat.le_of_ble_eq_true rfl, Nat.le_of_ble_eq_true rfl⟩) (ps_of hPc hK hDc) rfl rfl hl.1 rfl (lv_room (Nat.le_of_ble_eq_true rfl)) dX11_wordOf_199 ⟨Nat.zero_le _, Nat.zero_le _⟩) hS (fun q _ h => hFc q h) hFc (fun r_23 u t H locs ht hvm hw hB hz1 hk1 hS => ?_)
  obtain ⟨hP, hD⟩ := af_join (wr := []) (w1 := []) hB ht hP hD [] [] rfl rfl (by decide) (by decide) hk1 hFc
  have hP : va_P (dC, dI) vwCl [] _ := hP
  have hD : va_D A [] := hD
  refine lv_ldc2 (v := (32 : Int64)) hx hb hown (hts _ gw_667) dX11_wordOf_202 ?_
  refine lv_lmul hx hb dX11_wordOf_205 ?_
  refine lv_ldc2 (v := (104 : Int64)) hx hb hown (hts _ gw_677) dX11_wordOf_206 ?_
  refine lv_ladd hx hb dX11_wordOf_209 ?_
  refine lv_ldc2 (v := (96 : Int64)) hx hb hown (hts _ gw_668) dX11_wordOf_210 ?_
  refine lv_lsub hx hb dX11_wordOf_213 ?_
  refine W.lcmp hx hb dX11_wordOf_214 ?_
  refine lv_if_ne (tgt := 221) hx hb dX11_wordOf_215 (by decide) (fun c_24 => ?_) (fun c_24 => ?_)
  · have hw := hw.1 c_24
    exact tX11_wordOf_221 hC hK hA  x0 _ _ ls hw (hP.sub [] rfl) (hD.sub [] (by decide) rfl) hS (lv_sub hl [0] rfl)
  · have hw := hw.2 c_24
    refine lv_bipush (v := (8 : Int32)) hx hb dX11_wordOf_218 (by decide) ?_
    have hP9 := hP.sub (ws' := ([] : va_W)) [] rfl
    have hD9 := hD.sub (ws' := ([] : va_W)) [] (by decide) rfl
    exact W.iret (v := (8 : Int32)) hx hb hr (fun t ht hW => ⟨⟨(8 : Int32), (), rfl, hw, by rw [ht]; exact hP9, va_K.moved hW.alike hK, hD9⟩, hS.F ht⟩) hS.2.2 dX11_wordOf_220
set_option maxHeartbeats 4000000 in
set_option maxRecDepth 100000 in
theorem tX11_wordOf_159 {p : Program} {l : Launch} {e : Env} {s : State} {m : MethodId} {args : Array Value} {below : List Frame} {meth : Method} {c : Code} {dC : Nat → ClassId} {dI : Nat → Nat → Nat} {cI cZ cO cW : ClassId} {A : Nat → Prop} {Q : Int32 → Prop}  (hC : Cx p s m args meth c cX11_wordOf (some .int) 2 GW RX11) (hK : va_K (dC, dI) vwCl (tysA cI cZ cO cW) s) (hA : ∀ q : Nat, s.heap.size ≤ q → A q) :
    ∀ (x0 : Int64) (H : Heap) (locs : List Loc) (ls : Array Slot), wX11_wordOf_159 Q  x0 → va_P (dC, dI) vwCl ([] : va_W) H → va_D A ([] : va_W) → va_S A s.heap H locs → lv_has ls 2 [(0, .long x0)] → W p l e rmX11_wordOf s m args below meth c H locs 0 0 (MQ below (qX11_wordOf dC dI cI cZ cO cW Q A) args s 0 0 A) (F0 m 159 ls []) := by
  obtain ⟨hx, hb, hr, hml, hown, hts, hlocks⟩ := id hC
  intro x0 H locs ls hw hP hD hS hl
  refine lv_lload_n hx hb dX11_wordOf_159 rfl (lv_at hl 0 rfl) ?_
  refine lv_bipush (v := (99 : Int32)) hx hb dX11_wordOf_160 (by decide) ?_
  refine lv_bipush (v := (111 : Int32)) hx hb dX11_wordOf_162 (by decide) ?_
  refine lv_bipush (v := (108 : Int32)) hx hb dX11_wordOf_164 (by decide) ?_
  refine lv_bipush (v := (117 : Int32)) hx hb dX11_wordOf_166 (by decide) ?_
  have hPc := hP.sub (ws' := []) [] rfl
  have hDc := hD.sub (ws' := []) [] (by decide) rfl
  have hFc := va_free (wc := []) hD hS hA [] rfl
  refine va_calll (va_runS (As := [.int (99 : Int32), .int (111 : Int32), .int (108 : Int32), .int (117 : Int32)]) (rest := [.long x0]) ⟨hx, hb, hml, hown, hts⟩ (kX11_four l dC dI cI cZ cO cW H.size (99 : Int32) (111 : Int32) (108 : Int32) (117 : Int32) _ hw) (va_cwS 4 hts (gS gw_680 gw_681 gw_622 (gM gw_669)) rfl rfl rfl (by decide +kernel) ⟨Nat.le_of_ble_eq_true rfl, Nat.le_of_ble_eq_true rfl⟩) (ps_of hPc hK hDc) rfl rfl hl.1 rfl (lv_room (Nat.le_of_ble_eq_true rfl)) dX11_wordOf_168 ⟨Nat.zero_le _, Nat.zero_le _⟩) hS (fun q _ h => hFc q h) hFc (fun r_25 u t H locs ht hvm hw hB hz1 hk1 hS => ?_)
  obtain ⟨hP, hD⟩ := af_join (wr := []) (w1 := []) hB ht hP hD [] [] rfl rfl (by decide) (by decide) hk1 hFc
  have hP : va_P (dC, dI) vwCl [] _ := hP
  have hD : va_D A [] := hD
  refine lv_ldc2 (v := (1024 : Int64)) hx hb hown (hts _ gw_670) dX11_wordOf_171 ?_
  refine lv_lmul hx hb dX11_wordOf_174 ?_
  refine lv_bipush (v := (109 : Int32)) hx hb dX11_wordOf_175 (by decide) ?_
  refine lv_bipush (v := (110 : Int32)) hx hb dX11_wordOf_177 (by decide) ?_
  have hPc := hP.sub (ws' := []) [] rfl
  have hDc := hD.sub (ws' := []) [] (by decide) rfl
  have hFc := va_free (wc := []) hD hS hA [] rfl
  refine va_calll (va_runS (As := [.int (109 : Int32), .int (110 : Int32)]) (rest := [.long (r_25 * (1024 : Int64)), .long x0]) ⟨hx, hb, hml, hown, hts⟩ (kX11_two l dC dI cI cZ cO cW H.size (109 : Int32) (110 : Int32) _ hw) (va_cwS 2 hts (gS gw_671 gw_672 gw_622 (gM gw_666)) rfl rfl rfl (by decide +kernel) ⟨Nat.le_of_ble_eq_true rfl, Nat.le_of_ble_eq_true rfl⟩) (ps_of hPc hK hDc) rfl rfl hl.1 rfl (lv_room (Nat.le_of_ble_eq_true rfl)) dX11_wordOf_179 ⟨Nat.zero_le _, Nat.zero_le _⟩) hS (fun q _ h => hFc q h) hFc (fun r_26 u t H locs ht hvm hw hB hz1 hk1 hS => ?_)
  obtain ⟨hP, hD⟩ := af_join (wr := []) (w1 := []) hB ht hP hD [] [] rfl rfl (by decide) (by decide) hk1 hFc
  have hP : va_P (dC, dI) vwCl [] _ := hP
  have hD : va_D A [] := hD
  refine lv_ladd hx hb dX11_wordOf_182 ?_
  refine W.lcmp hx hb dX11_wordOf_183 ?_
  refine lv_if_ne (tgt := 190) hx hb dX11_wordOf_184 (by decide) (fun c_27 => ?_) (fun c_27 => ?_)
  · have hw := hw.1 c_27
    exact tX11_wordOf_190 hC hK hA  x0 _ _ ls hw (hP.sub [] rfl) (hD.sub [] (by decide) rfl) hS (lv_sub hl [0] rfl)
  · have hw := hw.2 c_27
    refine lv_bipush (v := (7 : Int32)) hx hb dX11_wordOf_187 (by decide) ?_
    have hP9 := hP.sub (ws' := ([] : va_W)) [] rfl
    have hD9 := hD.sub (ws' := ([] : va_W)) [] (by decide) rfl
    exact W.iret (v := (7 : Int32)) hx hb hr (fun t ht hW => ⟨⟨(7 : Int32), (), rfl, hw, by rw [ht]; exact hP9, va_K.moved hW.alike hK, hD9⟩, hS.F ht⟩) hS.2.2 dX11_wordOf_189
set_option maxHeartbeats 4000000 in
set_option maxRecDepth 100000 in
theorem tX11_wordOf_132 {p : Program} {l : Launch} {e : Env} {s : State} {m : MethodId} {args : Array Value} {below : List Frame} {meth : Method} {c : Code} {dC : Nat → ClassId} {dI : Nat → Nat → Nat} {cI cZ cO cW : ClassId} {A : Nat → Prop} {Q : Int32 → Prop}  (hC : Cx p s m args meth c cX11_wordOf (some .int) 2 GW RX11) (hK : va_K (dC, dI) vwCl (tysA cI cZ cO cW) s) (hA : ∀ q : Nat, s.heap.size ≤ q → A q) :
    ∀ (x0 : Int64) (H : Heap) (locs : List Loc) (ls : Array Slot), wX11_wordOf_132 Q  x0 → va_P (dC, dI) vwCl ([] : va_W) H → va_D A ([] : va_W) → va_S A s.heap H locs → lv_has ls 2 [(0, .long x0)] → W p l e rmX11_wordOf s m args below meth c H locs 0 0 (MQ below (qX11_wordOf dC dI cI cZ cO cW Q A) args s 0 0 A) (F0 m 132 ls []) := by
  obtain ⟨hx, hb, hr, hml, hown, hts, hlocks⟩ := id hC
  intro x0 H locs ls hw hP hD hS hl
  refine lv_lload_n hx hb dX11_wordOf_132 rfl (lv_at hl 0 rfl) ?_
  refine lv_bipush (v := (114 : Int32)) hx hb dX11_wordOf_133 (by decide) ?_
  refine lv_bipush (v := (111 : Int32)) hx hb dX11_wordOf_135 (by decide) ?_
  have hPc := hP.sub (ws' := []) [] rfl
  have hDc := hD.sub (ws' := []) [] (by decide) rfl
  have hFc := va_free (wc := []) hD hS hA [] rfl
  refine va_calll (va_runS (As := [.int (114 : Int32), .int (111 : Int32)]) (rest := [.long x0]) ⟨hx, hb, hml, hown, hts⟩ (kX11_two l dC dI cI cZ cO cW H.size (114 : Int32) (111 : Int32) _ hw) (va_cwS 2 hts (gS gw_671 gw_672 gw_622 (gM gw_666)) rfl rfl rfl (by decide +kernel) ⟨Nat.le_of_ble_eq_true rfl, Nat.le_of_ble_eq_true rfl⟩) (ps_of hPc hK hDc) rfl rfl hl.1 rfl (lv_room (Nat.le_of_ble_eq_true rfl)) dX11_wordOf_137 ⟨Nat.zero_le _, Nat.zero_le _⟩) hS (fun q _ h => hFc q h) hFc (fun r_28 u t H locs ht hvm hw hB hz1 hk1 hS => ?_)
  obtain ⟨hP, hD⟩ := af_join (wr := []) (w1 := []) hB ht hP hD [] [] rfl rfl (by decide) (by decide) hk1 hFc
  have hP : va_P (dC, dI) vwCl [] _ := hP
  have hD : va_D A [] := hD
  refine lv_ldc2 (v := (32 : Int64)) hx hb hown (hts _ gw_667) dX11_wordOf_140 ?_
  refine lv_lmul hx hb dX11_wordOf_143 ?_
  refine lv_ldc2 (v := (119 : Int64)) hx hb hown (hts _ gw_676) dX11_wordOf_144 ?_
  refine lv_ladd hx hb dX11_wordOf_147 ?_
  refine lv_ldc2 (v := (96 : Int64)) hx hb hown (hts _ gw_668) dX11_wordOf_148 ?_
  refine lv_lsub hx hb dX11_wordOf_151 ?_
  refine W.lcmp hx hb dX11_wordOf_152 ?_
  refine lv_if_ne (tgt := 159) hx hb dX11_wordOf_153 (by decide) (fun c_29 => ?_) (fun c_29 => ?_)
  · have hw := hw.1 c_29
    exact tX11_wordOf_159 hC hK hA  x0 _ _ ls hw (hP.sub [] rfl) (hD.sub [] (by decide) rfl) hS (lv_sub hl [0] rfl)
  · have hw := hw.2 c_29
    refine lv_bipush (v := (6 : Int32)) hx hb dX11_wordOf_156 (by decide) ?_
    have hP9 := hP.sub (ws' := ([] : va_W)) [] rfl
    have hD9 := hD.sub (ws' := ([] : va_W)) [] (by decide) rfl
    exact W.iret (v := (6 : Int32)) hx hb hr (fun t ht hW => ⟨⟨(6 : Int32), (), rfl, hw, by rw [ht]; exact hP9, va_K.moved hW.alike hK, hD9⟩, hS.F ht⟩) hS.2.2 dX11_wordOf_158
set_option maxHeartbeats 4000000 in
set_option maxRecDepth 100000 in
theorem tX11_wordOf_114 {p : Program} {l : Launch} {e : Env} {s : State} {m : MethodId} {args : Array Value} {below : List Frame} {meth : Method} {c : Code} {dC : Nat → ClassId} {dI : Nat → Nat → Nat} {cI cZ cO cW : ClassId} {A : Nat → Prop} {Q : Int32 → Prop}  (hC : Cx p s m args meth c cX11_wordOf (some .int) 2 GW RX11) (hK : va_K (dC, dI) vwCl (tysA cI cZ cO cW) s) (hA : ∀ q : Nat, s.heap.size ≤ q → A q) :
    ∀ (x0 : Int64) (H : Heap) (locs : List Loc) (ls : Array Slot), wX11_wordOf_114 Q  x0 → va_P (dC, dI) vwCl ([] : va_W) H → va_D A ([] : va_W) → va_S A s.heap H locs → lv_has ls 2 [(0, .long x0)] → W p l e rmX11_wordOf s m args below meth c H locs 0 0 (MQ below (qX11_wordOf dC dI cI cZ cO cW Q A) args s 0 0 A) (F0 m 114 ls []) := by
  obtain ⟨hx, hb, hr, hml, hown, hts, hlocks⟩ := id hC
  intro x0 H locs ls hw hP hD hS hl
  refine lv_lload_n hx hb dX11_wordOf_114 rfl (lv_at hl 0 rfl) ?_
  refine lv_bipush (v := (110 : Int32)) hx hb dX11_wordOf_115 (by decide) ?_
  refine lv_bipush (v := (101 : Int32)) hx hb dX11_wordOf_117 (by decide) ?_
  refine lv_bipush (v := (97 : Int32)) hx hb dX11_wordOf_119 (by decide) ?_
  refine lv_bipush (v := (114 : Int32)) hx hb dX11_wordOf_121 (by decide) ?_
  have hPc := hP.sub (ws' := []) [] rfl
  have hDc := hD.sub (ws' := []) [] (by decide) rfl
  have hFc := va_free (wc := []) hD hS hA [] rfl
  refine va_calll (va_runS (As := [.int (110 : Int32), .int (101 : Int32), .int (97 : Int32), .int (114 : Int32)]) (rest := [.long x0]) ⟨hx, hb, hml, hown, hts⟩ (kX11_four l dC dI cI cZ cO cW H.size (110 : Int32) (101 : Int32) (97 : Int32) (114 : Int32) _ hw) (va_cwS 4 hts (gS gw_680 gw_681 gw_622 (gM gw_669)) rfl rfl rfl (by decide +kernel) ⟨Nat.le_of_ble_eq_true rfl, Nat.le_of_ble_eq_true rfl⟩) (ps_of hPc hK hDc) rfl rfl hl.1 rfl (lv_room (Nat.le_of_ble_eq_true rfl)) dX11_wordOf_123 ⟨Nat.zero_le _, Nat.zero_le _⟩) hS (fun q _ h => hFc q h) hFc (fun r_30 u t H locs ht hvm hw hB hz1 hk1 hS => ?_)
  obtain ⟨hP, hD⟩ := af_join (wr := []) (w1 := []) hB ht hP hD [] [] rfl rfl (by decide) (by decide) hk1 hFc
  have hP : va_P (dC, dI) vwCl [] _ := hP
  have hD : va_D A [] := hD
  refine W.lcmp hx hb dX11_wordOf_126 ?_
  refine lv_if_ne (tgt := 132) hx hb dX11_wordOf_127 (by decide) (fun c_31 => ?_) (fun c_31 => ?_)
  · have hw := hw.1 c_31
    exact tX11_wordOf_132 hC hK hA  x0 _ _ ls hw (hP.sub [] rfl) (hD.sub [] (by decide) rfl) hS (lv_sub hl [0] rfl)
  · have hw := hw.2 c_31
    refine lv_iconst (v := (5 : Int32)) hx hb dX11_wordOf_130 (by decide) ?_
    have hP9 := hP.sub (ws' := ([] : va_W)) [] rfl
    have hD9 := hD.sub (ws' := ([] : va_W)) [] (by decide) rfl
    exact W.iret (v := (5 : Int32)) hx hb hr (fun t ht hW => ⟨⟨(5 : Int32), (), rfl, hw, by rw [ht]; exact hP9, va_K.moved hW.alike hK, hD9⟩, hS.F ht⟩) hS.2.2 dX11_wordOf_131
set_option maxHeartbeats 4000000 in
set_option maxRecDepth 100000 in
theorem tX11_wordOf_96 {p : Program} {l : Launch} {e : Env} {s : State} {m : MethodId} {args : Array Value} {below : List Frame} {meth : Method} {c : Code} {dC : Nat → ClassId} {dI : Nat → Nat → Nat} {cI cZ cO cW : ClassId} {A : Nat → Prop} {Q : Int32 → Prop}  (hC : Cx p s m args meth c cX11_wordOf (some .int) 2 GW RX11) (hK : va_K (dC, dI) vwCl (tysA cI cZ cO cW) s) (hA : ∀ q : Nat, s.heap.size ≤ q → A q) :
    ∀ (x0 : Int64) (H : Heap) (locs : List Loc) (ls : Array Slot), wX11_wordOf_96 Q  x0 → va_P (dC, dI) vwCl ([] : va_W) H → va_D A ([] : va_W) → va_S A s.heap H locs → lv_has ls 2 [(0, .long x0)] → W p l e rmX11_wordOf s m args below meth c H locs 0 0 (MQ below (qX11_wordOf dC dI cI cZ cO cW Q A) args s 0 0 A) (F0 m 96 ls []) := by
  obtain ⟨hx, hb, hr, hml, hown, hts, hlocks⟩ := id hC
  intro x0 H locs ls hw hP hD hS hl
  refine lv_lload_n hx hb dX11_wordOf_96 rfl (lv_at hl 0 rfl) ?_
  refine lv_bipush (v := (104 : Int32)) hx hb dX11_wordOf_97 (by decide) ?_
  refine lv_bipush (v := (101 : Int32)) hx hb dX11_wordOf_99 (by decide) ?_
  refine lv_bipush (v := (108 : Int32)) hx hb dX11_wordOf_101 (by decide) ?_
  refine lv_bipush (v := (100 : Int32)) hx hb dX11_wordOf_103 (by decide) ?_
  have hPc := hP.sub (ws' := []) [] rfl
  have hDc := hD.sub (ws' := []) [] (by decide) rfl
  have hFc := va_free (wc := []) hD hS hA [] rfl
  refine va_calll (va_runS (As := [.int (104 : Int32), .int (101 : Int32), .int (108 : Int32), .int (100 : Int32)]) (rest := [.long x0]) ⟨hx, hb, hml, hown, hts⟩ (kX11_four l dC dI cI cZ cO cW H.size (104 : Int32) (101 : Int32) (108 : Int32) (100 : Int32) _ hw) (va_cwS 4 hts (gS gw_680 gw_681 gw_622 (gM gw_669)) rfl rfl rfl (by decide +kernel) ⟨Nat.le_of_ble_eq_true rfl, Nat.le_of_ble_eq_true rfl⟩) (ps_of hPc hK hDc) rfl rfl hl.1 rfl (lv_room (Nat.le_of_ble_eq_true rfl)) dX11_wordOf_105 ⟨Nat.zero_le _, Nat.zero_le _⟩) hS (fun q _ h => hFc q h) hFc (fun r_32 u t H locs ht hvm hw hB hz1 hk1 hS => ?_)
  obtain ⟨hP, hD⟩ := af_join (wr := []) (w1 := []) hB ht hP hD [] [] rfl rfl (by decide) (by decide) hk1 hFc
  have hP : va_P (dC, dI) vwCl [] _ := hP
  have hD : va_D A [] := hD
  refine W.lcmp hx hb dX11_wordOf_108 ?_
  refine lv_if_ne (tgt := 114) hx hb dX11_wordOf_109 (by decide) (fun c_33 => ?_) (fun c_33 => ?_)
  · have hw := hw.1 c_33
    exact tX11_wordOf_114 hC hK hA  x0 _ _ ls hw (hP.sub [] rfl) (hD.sub [] (by decide) rfl) hS (lv_sub hl [0] rfl)
  · have hw := hw.2 c_33
    refine lv_iconst (v := (4 : Int32)) hx hb dX11_wordOf_112 (by decide) ?_
    have hP9 := hP.sub (ws' := ([] : va_W)) [] rfl
    have hD9 := hD.sub (ws' := ([] : va_W)) [] (by decide) rfl
    exact W.iret (v := (4 : Int32)) hx hb hr (fun t ht hW => ⟨⟨(4 : Int32), (), rfl, hw, by rw [ht]; exact hP9, va_K.moved hW.alike hK, hD9⟩, hS.F ht⟩) hS.2.2 dX11_wordOf_113
set_option maxHeartbeats 4000000 in
set_option maxRecDepth 100000 in
theorem tX11_wordOf_78 {p : Program} {l : Launch} {e : Env} {s : State} {m : MethodId} {args : Array Value} {below : List Frame} {meth : Method} {c : Code} {dC : Nat → ClassId} {dI : Nat → Nat → Nat} {cI cZ cO cW : ClassId} {A : Nat → Prop} {Q : Int32 → Prop}  (hC : Cx p s m args meth c cX11_wordOf (some .int) 2 GW RX11) (hK : va_K (dC, dI) vwCl (tysA cI cZ cO cW) s) (hA : ∀ q : Nat, s.heap.size ≤ q → A q) :
    ∀ (x0 : Int64) (H : Heap) (locs : List Loc) (ls : Array Slot), wX11_wordOf_78 Q  x0 → va_P (dC, dI) vwCl ([] : va_W) H → va_D A ([] : va_W) → va_S A s.heap H locs → lv_has ls 2 [(0, .long x0)] → W p l e rmX11_wordOf s m args below meth c H locs 0 0 (MQ below (qX11_wordOf dC dI cI cZ cO cW Q A) args s 0 0 A) (F0 m 78 ls []) := by
  obtain ⟨hx, hb, hr, hml, hown, hts, hlocks⟩ := id hC
  intro x0 H locs ls hw hP hD hS hl
  refine lv_lload_n hx hb dX11_wordOf_78 rfl (lv_at hl 0 rfl) ?_
  refine lv_bipush (v := (102 : Int32)) hx hb dX11_wordOf_79 (by decide) ?_
  refine lv_bipush (v := (117 : Int32)) hx hb dX11_wordOf_81 (by decide) ?_
  refine lv_bipush (v := (101 : Int32)) hx hb dX11_wordOf_83 (by decide) ?_
  refine lv_bipush (v := (108 : Int32)) hx hb dX11_wordOf_85 (by decide) ?_
  have hPc := hP.sub (ws' := []) [] rfl
  have hDc := hD.sub (ws' := []) [] (by decide) rfl
  have hFc := va_free (wc := []) hD hS hA [] rfl
  refine va_calll (va_runS (As := [.int (102 : Int32), .int (117 : Int32), .int (101 : Int32), .int (108 : Int32)]) (rest := [.long x0]) ⟨hx, hb, hml, hown, hts⟩ (kX11_four l dC dI cI cZ cO cW H.size (102 : Int32) (117 : Int32) (101 : Int32) (108 : Int32) _ hw) (va_cwS 4 hts (gS gw_680 gw_681 gw_622 (gM gw_669)) rfl rfl rfl (by decide +kernel) ⟨Nat.le_of_ble_eq_true rfl, Nat.le_of_ble_eq_true rfl⟩) (ps_of hPc hK hDc) rfl rfl hl.1 rfl (lv_room (Nat.le_of_ble_eq_true rfl)) dX11_wordOf_87 ⟨Nat.zero_le _, Nat.zero_le _⟩) hS (fun q _ h => hFc q h) hFc (fun r_34 u t H locs ht hvm hw hB hz1 hk1 hS => ?_)
  obtain ⟨hP, hD⟩ := af_join (wr := []) (w1 := []) hB ht hP hD [] [] rfl rfl (by decide) (by decide) hk1 hFc
  have hP : va_P (dC, dI) vwCl [] _ := hP
  have hD : va_D A [] := hD
  refine W.lcmp hx hb dX11_wordOf_90 ?_
  refine lv_if_ne (tgt := 96) hx hb dX11_wordOf_91 (by decide) (fun c_35 => ?_) (fun c_35 => ?_)
  · have hw := hw.1 c_35
    exact tX11_wordOf_96 hC hK hA  x0 _ _ ls hw (hP.sub [] rfl) (hD.sub [] (by decide) rfl) hS (lv_sub hl [0] rfl)
  · have hw := hw.2 c_35
    refine lv_iconst (v := (3 : Int32)) hx hb dX11_wordOf_94 (by decide) ?_
    have hP9 := hP.sub (ws' := ([] : va_W)) [] rfl
    have hD9 := hD.sub (ws' := ([] : va_W)) [] (by decide) rfl
    exact W.iret (v := (3 : Int32)) hx hb hr (fun t ht hW => ⟨⟨(3 : Int32), (), rfl, hw, by rw [ht]; exact hP9, va_K.moved hW.alike hK, hD9⟩, hS.F ht⟩) hS.2.2 dX11_wordOf_95
set_option maxHeartbeats 4000000 in
set_option maxRecDepth 100000 in
theorem tX11_wordOf_48 {p : Program} {l : Launch} {e : Env} {s : State} {m : MethodId} {args : Array Value} {below : List Frame} {meth : Method} {c : Code} {dC : Nat → ClassId} {dI : Nat → Nat → Nat} {cI cZ cO cW : ClassId} {A : Nat → Prop} {Q : Int32 → Prop}  (hC : Cx p s m args meth c cX11_wordOf (some .int) 2 GW RX11) (hK : va_K (dC, dI) vwCl (tysA cI cZ cO cW) s) (hA : ∀ q : Nat, s.heap.size ≤ q → A q) :
    ∀ (x0 : Int64) (H : Heap) (locs : List Loc) (ls : Array Slot), wX11_wordOf_48 Q  x0 → va_P (dC, dI) vwCl ([] : va_W) H → va_D A ([] : va_W) → va_S A s.heap H locs → lv_has ls 2 [(0, .long x0)] → W p l e rmX11_wordOf s m args below meth c H locs 0 0 (MQ below (qX11_wordOf dC dI cI cZ cO cW Q A) args s 0 0 A) (F0 m 48 ls []) := by
  obtain ⟨hx, hb, hr, hml, hown, hts, hlocks⟩ := id hC
  intro x0 H locs ls hw hP hD hS hl
  refine lv_lload_n hx hb dX11_wordOf_48 rfl (lv_at hl 0 rfl) ?_
  refine lv_bipush (v := (114 : Int32)) hx hb dX11_wordOf_49 (by decide) ?_
  refine lv_bipush (v := (105 : Int32)) hx hb dX11_wordOf_51 (by decide) ?_
  refine lv_bipush (v := (100 : Int32)) hx hb dX11_wordOf_53 (by decide) ?_
  refine lv_bipush (v := (103 : Int32)) hx hb dX11_wordOf_55 (by decide) ?_
  have hPc := hP.sub (ws' := []) [] rfl
  have hDc := hD.sub (ws' := []) [] (by decide) rfl
  have hFc := va_free (wc := []) hD hS hA [] rfl
  refine va_calll (va_runS (As := [.int (114 : Int32), .int (105 : Int32), .int (100 : Int32), .int (103 : Int32)]) (rest := [.long x0]) ⟨hx, hb, hml, hown, hts⟩ (kX11_four l dC dI cI cZ cO cW H.size (114 : Int32) (105 : Int32) (100 : Int32) (103 : Int32) _ hw) (va_cwS 4 hts (gS gw_680 gw_681 gw_622 (gM gw_669)) rfl rfl rfl (by decide +kernel) ⟨Nat.le_of_ble_eq_true rfl, Nat.le_of_ble_eq_true rfl⟩) (ps_of hPc hK hDc) rfl rfl hl.1 rfl (lv_room (Nat.le_of_ble_eq_true rfl)) dX11_wordOf_57 ⟨Nat.zero_le _, Nat.zero_le _⟩) hS (fun q _ h => hFc q h) hFc (fun r_36 u t H locs ht hvm hw hB hz1 hk1 hS => ?_)
  obtain ⟨hP, hD⟩ := af_join (wr := []) (w1 := []) hB ht hP hD [] [] rfl rfl (by decide) (by decide) hk1 hFc
  have hP : va_P (dC, dI) vwCl [] _ := hP
  have hD : va_D A [] := hD
  refine lv_ldc2 (v := (32 : Int64)) hx hb hown (hts _ gw_667) dX11_wordOf_60 ?_
  refine lv_lmul hx hb dX11_wordOf_63 ?_
  refine lv_ldc2 (v := (101 : Int64)) hx hb hown (hts _ gw_675) dX11_wordOf_64 ?_
  refine lv_ladd hx hb dX11_wordOf_67 ?_
  refine lv_ldc2 (v := (96 : Int64)) hx hb hown (hts _ gw_668) dX11_wordOf_68 ?_
  refine lv_lsub hx hb dX11_wordOf_71 ?_
  refine W.lcmp hx hb dX11_wordOf_72 ?_
  refine lv_if_ne (tgt := 78) hx hb dX11_wordOf_73 (by decide) (fun c_37 => ?_) (fun c_37 => ?_)
  · have hw := hw.1 c_37
    exact tX11_wordOf_78 hC hK hA  x0 _ _ ls hw (hP.sub [] rfl) (hD.sub [] (by decide) rfl) hS (lv_sub hl [0] rfl)
  · have hw := hw.2 c_37
    refine lv_iconst (v := (2 : Int32)) hx hb dX11_wordOf_76 (by decide) ?_
    have hP9 := hP.sub (ws' := ([] : va_W)) [] rfl
    have hD9 := hD.sub (ws' := ([] : va_W)) [] (by decide) rfl
    exact W.iret (v := (2 : Int32)) hx hb hr (fun t ht hW => ⟨⟨(2 : Int32), (), rfl, hw, by rw [ht]; exact hP9, va_K.moved hW.alike hK, hD9⟩, hS.F ht⟩) hS.2.2 dX11_wordOf_77
set_option maxHeartbeats 4000000 in
set_option maxRecDepth 100000 in
theorem tX11_wordOf_18 {p : Program} {l : Launch} {e : Env} {s : State} {m : MethodId} {args : Array Value} {below : List Frame} {meth : Method} {c : Code} {dC : Nat → ClassId} {dI : Nat → Nat → Nat} {cI cZ cO cW : ClassId} {A : Nat → Prop} {Q : Int32 → Prop}  (hC : Cx p s m args meth c cX11_wordOf (some .int) 2 GW RX11) (hK : va_K (dC, dI) vwCl (tysA cI cZ cO cW) s) (hA : ∀ q : Nat, s.heap.size ≤ q → A q) :
    ∀ (x0 : Int64) (H : Heap) (locs : List Loc) (ls : Array Slot), wX11_wordOf_18 Q  x0 → va_P (dC, dI) vwCl ([] : va_W) H → va_D A ([] : va_W) → va_S A s.heap H locs → lv_has ls 2 [(0, .long x0)] → W p l e rmX11_wordOf s m args below meth c H locs 0 0 (MQ below (qX11_wordOf dC dI cI cZ cO cW Q A) args s 0 0 A) (F0 m 18 ls []) := by
  obtain ⟨hx, hb, hr, hml, hown, hts, hlocks⟩ := id hC
  intro x0 H locs ls hw hP hD hS hl
  refine lv_lload_n hx hb dX11_wordOf_18 rfl (lv_at hl 0 rfl) ?_
  refine lv_bipush (v := (108 : Int32)) hx hb dX11_wordOf_19 (by decide) ?_
  refine lv_bipush (v := (101 : Int32)) hx hb dX11_wordOf_21 (by decide) ?_
  refine lv_bipush (v := (118 : Int32)) hx hb dX11_wordOf_23 (by decide) ?_
  refine lv_bipush (v := (101 : Int32)) hx hb dX11_wordOf_25 (by decide) ?_
  have hPc := hP.sub (ws' := []) [] rfl
  have hDc := hD.sub (ws' := []) [] (by decide) rfl
  have hFc := va_free (wc := []) hD hS hA [] rfl
  refine va_calll (va_runS (As := [.int (108 : Int32), .int (101 : Int32), .int (118 : Int32), .int (101 : Int32)]) (rest := [.long x0]) ⟨hx, hb, hml, hown, hts⟩ (kX11_four l dC dI cI cZ cO cW H.size (108 : Int32) (101 : Int32) (118 : Int32) (101 : Int32) _ hw) (va_cwS 4 hts (gS gw_680 gw_681 gw_622 (gM gw_669)) rfl rfl rfl (by decide +kernel) ⟨Nat.le_of_ble_eq_true rfl, Nat.le_of_ble_eq_true rfl⟩) (ps_of hPc hK hDc) rfl rfl hl.1 rfl (lv_room (Nat.le_of_ble_eq_true rfl)) dX11_wordOf_27 ⟨Nat.zero_le _, Nat.zero_le _⟩) hS (fun q _ h => hFc q h) hFc (fun r_38 u t H locs ht hvm hw hB hz1 hk1 hS => ?_)
  obtain ⟨hP, hD⟩ := af_join (wr := []) (w1 := []) hB ht hP hD [] [] rfl rfl (by decide) (by decide) hk1 hFc
  have hP : va_P (dC, dI) vwCl [] _ := hP
  have hD : va_D A [] := hD
  refine lv_ldc2 (v := (32 : Int64)) hx hb hown (hts _ gw_667) dX11_wordOf_30 ?_
  refine lv_lmul hx hb dX11_wordOf_33 ?_
  refine lv_ldc2 (v := (108 : Int64)) hx hb hown (hts _ gw_674) dX11_wordOf_34 ?_
  refine lv_ladd hx hb dX11_wordOf_37 ?_
  refine lv_ldc2 (v := (96 : Int64)) hx hb hown (hts _ gw_668) dX11_wordOf_38 ?_
  refine lv_lsub hx hb dX11_wordOf_41 ?_
  refine W.lcmp hx hb dX11_wordOf_42 ?_
  refine lv_if_ne (tgt := 48) hx hb dX11_wordOf_43 (by decide) (fun c_39 => ?_) (fun c_39 => ?_)
  · have hw := hw.1 c_39
    exact tX11_wordOf_48 hC hK hA  x0 _ _ ls hw (hP.sub [] rfl) (hD.sub [] (by decide) rfl) hS (lv_sub hl [0] rfl)
  · have hw := hw.2 c_39
    refine lv_iconst (v := (1 : Int32)) hx hb dX11_wordOf_46 (by decide) ?_
    have hP9 := hP.sub (ws' := ([] : va_W)) [] rfl
    have hD9 := hD.sub (ws' := ([] : va_W)) [] (by decide) rfl
    exact W.iret (v := (1 : Int32)) hx hb hr (fun t ht hW => ⟨⟨(1 : Int32), (), rfl, hw, by rw [ht]; exact hP9, va_K.moved hW.alike hK, hD9⟩, hS.F ht⟩) hS.2.2 dX11_wordOf_47
set_option maxHeartbeats 4000000 in
set_option maxRecDepth 100000 in
theorem tX11_wordOf_e {p : Program} {l : Launch} {e : Env} {s : State} {m : MethodId} {args : Array Value} {below : List Frame} {meth : Method} {c : Code} {dC : Nat → ClassId} {dI : Nat → Nat → Nat} {cI cZ cO cW : ClassId} {A : Nat → Prop} {Q : Int32 → Prop} (hC : Cx p s m args meth c cX11_wordOf (some .int) 2 GW RX11) (hK : va_K (dC, dI) vwCl (tysA cI cZ cO cW) s) (hA : ∀ q : Nat, s.heap.size ≤ q → A q) :
    ∀ (x0 : Int64) (H : Heap) (locs : List Loc) (ls : Array Slot), wX11_wordOf Q x0  → va_P (dC, dI) vwCl ([] : va_W) H → va_D A ([] : va_W) → va_S A s.heap H locs → lv_has ls 2 [(0, .long x0)] → W p l e rmX11_wordOf s m args below meth c H locs 0 0 (MQ below (qX11_wordOf dC dI cI cZ cO cW Q A) args s 0 0 A) (F0 m 0 ls []) := by
  obtain ⟨hx, hb, hr, hml, hown, hts, hlocks⟩ := id hC
  intro x0 H locs ls hw hP hD hS hl
  refine lv_lload_n hx hb dX11_wordOf_0 rfl (lv_at hl 0 rfl) ?_
  refine lv_bipush (v := (104 : Int32)) hx hb dX11_wordOf_1 (by decide) ?_
  refine lv_bipush (v := (111 : Int32)) hx hb dX11_wordOf_3 (by decide) ?_
  refine lv_bipush (v := (117 : Int32)) hx hb dX11_wordOf_5 (by decide) ?_
  refine lv_bipush (v := (114 : Int32)) hx hb dX11_wordOf_7 (by decide) ?_
  have hPc := hP.sub (ws' := []) [] rfl
  have hDc := hD.sub (ws' := []) [] (by decide) rfl
  have hFc := va_free (wc := []) hD hS hA [] rfl
  refine va_calll (va_runS (As := [.int (104 : Int32), .int (111 : Int32), .int (117 : Int32), .int (114 : Int32)]) (rest := [.long x0]) ⟨hx, hb, hml, hown, hts⟩ (kX11_four l dC dI cI cZ cO cW H.size (104 : Int32) (111 : Int32) (117 : Int32) (114 : Int32) _ hw) (va_cwS 4 hts (gS gw_680 gw_681 gw_622 (gM gw_669)) rfl rfl rfl (by decide +kernel) ⟨Nat.le_of_ble_eq_true rfl, Nat.le_of_ble_eq_true rfl⟩) (ps_of hPc hK hDc) rfl rfl hl.1 rfl (lv_room (Nat.le_of_ble_eq_true rfl)) dX11_wordOf_9 ⟨Nat.zero_le _, Nat.zero_le _⟩) hS (fun q _ h => hFc q h) hFc (fun r_40 u t H locs ht hvm hw hB hz1 hk1 hS => ?_)
  obtain ⟨hP, hD⟩ := af_join (wr := []) (w1 := []) hB ht hP hD [] [] rfl rfl (by decide) (by decide) hk1 hFc
  have hP : va_P (dC, dI) vwCl [] _ := hP
  have hD : va_D A [] := hD
  refine W.lcmp hx hb dX11_wordOf_12 ?_
  refine lv_if_ne (tgt := 18) hx hb dX11_wordOf_13 (by decide) (fun c_41 => ?_) (fun c_41 => ?_)
  · have hw := hw.1 c_41
    exact tX11_wordOf_18 hC hK hA  x0 _ _ ls hw (hP.sub [] rfl) (hD.sub [] (by decide) rfl) hS (lv_sub hl [0] rfl)
  · have hw := hw.2 c_41
    refine lv_iconst (v := (0 : Int32)) hx hb dX11_wordOf_16 (by decide) ?_
    have hP9 := hP.sub (ws' := ([] : va_W)) [] rfl
    have hD9 := hD.sub (ws' := ([] : va_W)) [] (by decide) rfl
    exact W.iret (v := (0 : Int32)) hx hb hr (fun t ht hW => ⟨⟨(0 : Int32), (), rfl, hw, by rw [ht]; exact hP9, va_K.moved hW.alike hK, hD9⟩, hS.F ht⟩) hS.2.2 dX11_wordOf_17
set_option maxHeartbeats 4000000 in
set_option maxRecDepth 100000 in
theorem kX11_wordOf (l : Launch) (dC : Nat → ClassId) (dI : Nat → Nat → Nat) (cI cZ cO cW : ClassId)  (sz : Nat)  (x0 : Int64) (Q : Int32 → Prop) (hw : wX11_wordOf Q x0 ) : Met l yX11_wordOf zsX11_wordOf rmX11_wordOf (va_Pc [.long x0] (fun U => U.heap.size = sz ∧ va_P (dC, dI) vwCl ([] : va_W) U.heap ∧ va_K (dC, dI) vwCl (tysA cI cZ cO cW) U ∧ va_D (fun _ => True) ([] : va_W))) (qX11_wordOf dC dI cI cZ cO cW Q (va_A ([] : va_W) sz)) 0 0 (va_A ([] : va_W) sz) := by
  refine Met.ofW (cc := cX11_wordOf) (maxL := 2) (ret := (some .int)) (by decide) rfl ?_
  intro p e s m args below meth c s₁ B hml hv
  obtain ⟨rfl, hsz, hP, hK, hD0⟩ := hv
  subst hsz
  have hC : Cx p s m ([.long x0] : List Value).toArray meth c cX11_wordOf (some .int) 2 GW RX11 := ⟨B.exec, B.bytes, B.returns, hml, findClass_of_methodNamed B.named, fun w h => atoms_spec (ws := zsX11_wordOf) B.pre w (List.mem_cons_of_mem _ h), B.notSynchronized⟩
  have hD := hD0.self (sz := s.heap.size)
  generalize hAe : va_A ([] : va_W) s.heap.size = A at hD ⊢
  have hA : ∀ q : Nat, s.heap.size ≤ q → A q := fun q h => by rw [← hAe]; exact Or.inr h
  have hl := lv_entry ([.long x0]) (n := 2) (Nat.le_of_ble_eq_true rfl)
  rw [lg_entry_eq]
  generalize (lg_sl ([.long x0]) ++ List.replicate (2 - (lg_sl ([.long x0])).length) Slot.unset).toArray = ls at hl ⊢
  exact tX11_wordOf_e hC hK hA x0 _ _ ls hw hP hD va_S.rf hl

/-! X11_isSignByte -/
def wX11_isSignByte_42 (Q : Int32 → Prop)    : Prop :=
  (Q (1 : Int32))
def wX11_isSignByte (Q : Int32 → Prop) (x0 : Int32)  : Prop :=
  ((x0 = (40 : Int32) → (wX11_isSignByte_42 Q )) ∧ (¬ x0 = (40 : Int32) → ((x0 = (41 : Int32) → (wX11_isSignByte_42 Q )) ∧ (¬ x0 = (41 : Int32) → ((x0 = (58 : Int32) → (wX11_isSignByte_42 Q )) ∧ (¬ x0 = (58 : Int32) → ((x0 = (59 : Int32) → (wX11_isSignByte_42 Q )) ∧ (¬ x0 = (59 : Int32) → ((x0 = (61 : Int32) → (wX11_isSignByte_42 Q )) ∧ (¬ x0 = (61 : Int32) → ((x0 = (60 : Int32) → (wX11_isSignByte_42 Q )) ∧ (¬ x0 = (60 : Int32) → ((¬ x0 = (62 : Int32) → (Q (0 : Int32))) ∧ (x0 = (62 : Int32) → (wX11_isSignByte_42 Q )))))))))))))))
abbrev rmX11_isSignByte : Room := { frames := 0, cells := 0, slots := 0, locals := 0 }
abbrev qX11_isSignByte (dC : Nat → ClassId) (dI : Nat → Nat → Nat) (cI cZ cO cW : ClassId)  (Q : Int32 → Prop) (A : Nat → Prop) : Array Value → State → Outcome → State → Prop := va_Qi (fun (r : Int32) (u : Unit) => Q r) (fun (u : Unit) (t : State) => va_P (dC, dI) vwCl ([] : va_W) t.heap ∧ va_K (dC, dI) vwCl (tysA cI cZ cO cW) t ∧ va_D A ([] : va_W)) A
def zsX11_isSignByte : List Cond := Cond.code yX11_isSignByte cX11_isSignByte 1 (some .boolean) :: GW
set_option maxHeartbeats 4000000 in
set_option maxRecDepth 100000 in
theorem tX11_isSignByte_42 {p : Program} {l : Launch} {e : Env} {s : State} {m : MethodId} {args : Array Value} {below : List Frame} {meth : Method} {c : Code} {dC : Nat → ClassId} {dI : Nat → Nat → Nat} {cI cZ cO cW : ClassId} {A : Nat → Prop} {Q : Int32 → Prop}  (hC : Cx p s m args meth c cX11_isSignByte (some .boolean) 1 GW RX11) (hK : va_K (dC, dI) vwCl (tysA cI cZ cO cW) s) (hA : ∀ q : Nat, s.heap.size ≤ q → A q) :
    ∀  (H : Heap) (locs : List Loc) (ls : Array Slot), wX11_isSignByte_42 Q   → va_P (dC, dI) vwCl ([] : va_W) H → va_D A ([] : va_W) → va_S A s.heap H locs → lv_has ls 1 [] → W p l e rmX11_isSignByte s m args below meth c H locs 0 0 (MQ below (qX11_isSignByte dC dI cI cZ cO cW Q A) args s 0 0 A) (F0 m 42 ls []) := by
  obtain ⟨hx, hb, hr, hml, hown, hts, hlocks⟩ := id hC
  intro  H locs ls hw hP hD hS hl
  refine lv_iconst (v := (1 : Int32)) hx hb dX11_isSignByte_42 (by decide) ?_
  refine lv_goto (tgt := 47) hx hb dX11_isSignByte_43 (by decide) ?_
  have hP9 := hP.sub (ws' := ([] : va_W)) [] rfl
  have hD9 := hD.sub (ws' := ([] : va_W)) [] (by decide) rfl
  exact W.zret (v := (1 : Int32)) (ty := .boolean) hx hb hr rfl (fun t ht hW => ⟨⟨(1 : Int32), (), rfl, hw, by rw [ht]; exact hP9, va_K.moved hW.alike hK, hD9⟩, hS.F ht⟩) hS.2.2 dX11_isSignByte_47
set_option maxHeartbeats 4000000 in
set_option maxRecDepth 100000 in
theorem tX11_isSignByte_e {p : Program} {l : Launch} {e : Env} {s : State} {m : MethodId} {args : Array Value} {below : List Frame} {meth : Method} {c : Code} {dC : Nat → ClassId} {dI : Nat → Nat → Nat} {cI cZ cO cW : ClassId} {A : Nat → Prop} {Q : Int32 → Prop} (hC : Cx p s m args meth c cX11_isSignByte (some .boolean) 1 GW RX11) (hK : va_K (dC, dI) vwCl (tysA cI cZ cO cW) s) (hA : ∀ q : Nat, s.heap.size ≤ q → A q) :
    ∀ (x0 : Int32) (H : Heap) (locs : List Loc) (ls : Array Slot), wX11_isSignByte Q x0  → va_P (dC, dI) vwCl ([] : va_W) H → va_D A ([] : va_W) → va_S A s.heap H locs → lv_has ls 1 [(0, .int x0)] → W p l e rmX11_isSignByte s m args below meth c H locs 0 0 (MQ below (qX11_isSignByte dC dI cI cZ cO cW Q A) args s 0 0 A) (F0 m 0 ls []) := by
  obtain ⟨hx, hb, hr, hml, hown, hts, hlocks⟩ := id hC
  intro x0 H locs ls hw hP hD hS hl
  refine lv_iload_n hx hb dX11_isSignByte_0 rfl (lv_at hl 0 rfl) ?_
  refine lv_bipush (v := (40 : Int32)) hx hb dX11_isSignByte_1 (by decide) ?_
  refine lv_icmp_eq (tgt := 42) hx hb dX11_isSignByte_3 (by decide) (fun c_1 => ?_) (fun c_1 => ?_)
  · have hw := hw.1 c_1
    exact tX11_isSignByte_42 hC hK hA  _ _ ls hw (hP.sub [] rfl) (hD.sub [] (by decide) rfl) hS (lv_sub hl [] rfl)
  · have hw := hw.2 c_1
    refine lv_iload_n hx hb dX11_isSignByte_6 rfl (lv_at hl 0 rfl) ?_
    refine lv_bipush (v := (41 : Int32)) hx hb dX11_isSignByte_7 (by decide) ?_
    refine lv_icmp_eq (tgt := 42) hx hb dX11_isSignByte_9 (by decide) (fun c_2 => ?_) (fun c_2 => ?_)
    · have hw := hw.1 c_2
      exact tX11_isSignByte_42 hC hK hA  _ _ ls hw (hP.sub [] rfl) (hD.sub [] (by decide) rfl) hS (lv_sub hl [] rfl)
    · have hw := hw.2 c_2
      refine lv_iload_n hx hb dX11_isSignByte_12 rfl (lv_at hl 0 rfl) ?_
      refine lv_bipush (v := (58 : Int32)) hx hb dX11_isSignByte_13 (by decide) ?_
      refine lv_icmp_eq (tgt := 42) hx hb dX11_isSignByte_15 (by decide) (fun c_3 => ?_) (fun c_3 => ?_)
      · have hw := hw.1 c_3
        exact tX11_isSignByte_42 hC hK hA  _ _ ls hw (hP.sub [] rfl) (hD.sub [] (by decide) rfl) hS (lv_sub hl [] rfl)
      · have hw := hw.2 c_3
        refine lv_iload_n hx hb dX11_isSignByte_18 rfl (lv_at hl 0 rfl) ?_
        refine lv_bipush (v := (59 : Int32)) hx hb dX11_isSignByte_19 (by decide) ?_
        refine lv_icmp_eq (tgt := 42) hx hb dX11_isSignByte_21 (by decide) (fun c_4 => ?_) (fun c_4 => ?_)
        · have hw := hw.1 c_4
          exact tX11_isSignByte_42 hC hK hA  _ _ ls hw (hP.sub [] rfl) (hD.sub [] (by decide) rfl) hS (lv_sub hl [] rfl)
        · have hw := hw.2 c_4
          refine lv_iload_n hx hb dX11_isSignByte_24 rfl (lv_at hl 0 rfl) ?_
          refine lv_bipush (v := (61 : Int32)) hx hb dX11_isSignByte_25 (by decide) ?_
          refine lv_icmp_eq (tgt := 42) hx hb dX11_isSignByte_27 (by decide) (fun c_5 => ?_) (fun c_5 => ?_)
          · have hw := hw.1 c_5
            exact tX11_isSignByte_42 hC hK hA  _ _ ls hw (hP.sub [] rfl) (hD.sub [] (by decide) rfl) hS (lv_sub hl [] rfl)
          · have hw := hw.2 c_5
            refine lv_iload_n hx hb dX11_isSignByte_30 rfl (lv_at hl 0 rfl) ?_
            refine lv_bipush (v := (60 : Int32)) hx hb dX11_isSignByte_31 (by decide) ?_
            refine lv_icmp_eq (tgt := 42) hx hb dX11_isSignByte_33 (by decide) (fun c_6 => ?_) (fun c_6 => ?_)
            · have hw := hw.1 c_6
              exact tX11_isSignByte_42 hC hK hA  _ _ ls hw (hP.sub [] rfl) (hD.sub [] (by decide) rfl) hS (lv_sub hl [] rfl)
            · have hw := hw.2 c_6
              refine lv_iload_n hx hb dX11_isSignByte_36 rfl (lv_at hl 0 rfl) ?_
              refine lv_bipush (v := (62 : Int32)) hx hb dX11_isSignByte_37 (by decide) ?_
              refine lv_icmp_ne (tgt := 46) hx hb dX11_isSignByte_39 (by decide) (fun c_7 => ?_) (fun c_7 => ?_)
              · have hw := hw.1 c_7
                refine lv_iconst (v := (0 : Int32)) hx hb dX11_isSignByte_46 (by decide) ?_
                have hP9 := hP.sub (ws' := ([] : va_W)) [] rfl
                have hD9 := hD.sub (ws' := ([] : va_W)) [] (by decide) rfl
                exact W.zret (v := (0 : Int32)) (ty := .boolean) hx hb hr rfl (fun t ht hW => ⟨⟨(0 : Int32), (), rfl, hw, by rw [ht]; exact hP9, va_K.moved hW.alike hK, hD9⟩, hS.F ht⟩) hS.2.2 dX11_isSignByte_47
              · have hw := hw.2 c_7
                exact tX11_isSignByte_42 hC hK hA  _ _ ls hw (hP.sub [] rfl) (hD.sub [] (by decide) rfl) hS (lv_sub hl [] rfl)
set_option maxHeartbeats 4000000 in
set_option maxRecDepth 100000 in
theorem kX11_isSignByte (l : Launch) (dC : Nat → ClassId) (dI : Nat → Nat → Nat) (cI cZ cO cW : ClassId)  (sz : Nat)  (x0 : Int32) (Q : Int32 → Prop) (hw : wX11_isSignByte Q x0 ) : Met l yX11_isSignByte zsX11_isSignByte rmX11_isSignByte (va_Pc [.int x0] (fun U => U.heap.size = sz ∧ va_P (dC, dI) vwCl ([] : va_W) U.heap ∧ va_K (dC, dI) vwCl (tysA cI cZ cO cW) U ∧ va_D (fun _ => True) ([] : va_W))) (qX11_isSignByte dC dI cI cZ cO cW Q (va_A ([] : va_W) sz)) 0 0 (va_A ([] : va_W) sz) := by
  refine Met.ofW (cc := cX11_isSignByte) (maxL := 1) (ret := (some .boolean)) (by decide) rfl ?_
  intro p e s m args below meth c s₁ B hml hv
  obtain ⟨rfl, hsz, hP, hK, hD0⟩ := hv
  subst hsz
  have hC : Cx p s m ([.int x0] : List Value).toArray meth c cX11_isSignByte (some .boolean) 1 GW RX11 := ⟨B.exec, B.bytes, B.returns, hml, findClass_of_methodNamed B.named, fun w h => atoms_spec (ws := zsX11_isSignByte) B.pre w (List.mem_cons_of_mem _ h), B.notSynchronized⟩
  have hD := hD0.self (sz := s.heap.size)
  generalize hAe : va_A ([] : va_W) s.heap.size = A at hD ⊢
  have hA : ∀ q : Nat, s.heap.size ≤ q → A q := fun q h => by rw [← hAe]; exact Or.inr h
  have hl := lv_entry ([.int x0]) (n := 1) (Nat.le_of_ble_eq_true rfl)
  rw [lg_entry_eq]
  generalize (lg_sl ([.int x0]) ++ List.replicate (1 - (lg_sl ([.int x0])).length) Slot.unset).toArray = ls at hl ⊢
  exact tX11_isSignByte_e hC hK hA x0 _ _ ls hw hP hD va_S.rf hl

/-! X11_advance -/
def wX11_advance_26 (Q : Int32 → Int32 → Int32 → Int32 → Int32 → Int32 → Prop) (K_0 : Int32 → Int32 → Int32 → Int32 → Int32 → Int32 → Int32 → (Nat → Int32) → Prop)  (f_size : Int32) (f_next : Int32) (f_where : Int32) (f_token : Int32) (f_number : Int32) (f_sign : Int32) (f_word : Int32) (r_all : (Nat → Int32)) : Prop :=
  (K_0 f_size (f_next + (1 : Int32)) f_where f_token f_number f_sign f_word r_all)
def wX11_advance_125 (Q : Int32 → Int32 → Int32 → Int32 → Int32 → Int32 → Prop) (K_77 : Int64 → Int32 → Int32 → Int32 → Int32 → Int32 → Int32 → Int32 → (Nat → Int32) → Prop)  (x2 : Int64) (f_size : Int32) (f_next : Int32) (f_where : Int32) (f_token : Int32) (f_number : Int32) (f_sign : Int32) (f_word : Int32) (r_all : (Nat → Int32)) : Prop :=
  (K_77 x2 f_size (f_next + (1 : Int32)) f_where f_token f_number f_sign f_word r_all)
def wX11_advance_180 (Q : Int32 → Int32 → Int32 → Int32 → Int32 → Int32 → Prop)   (s1 : Int32) (f_size : Int32) (f_next : Int32) (f_where : Int32) (f_token : Int32) (f_number : Int32) (f_sign : Int32) (f_word : Int32) (r_all : (Nat → Int32)) : Prop :=
  (Q f_next f_where s1 f_number f_sign f_word)
def wX11_advance_162 (Q : Int32 → Int32 → Int32 → Int32 → Int32 → Int32 → Prop)   (s1 : Int32) (f_size : Int32) (f_next : Int32) (f_where : Int32) (f_token : Int32) (f_number : Int32) (f_sign : Int32) (f_word : Int32) (r_all : (Nat → Int32)) : Prop :=
  ((¬ s1 = (99 : Int32) → (wX11_advance_180 Q (3 : Int32) f_size f_next f_where f_token f_number f_sign s1 r_all)) ∧ (s1 = (99 : Int32) → (wX11_advance_180 Q (4 : Int32) f_size f_next f_where f_token f_number f_sign s1 r_all)))
def wX11_advance_77 (Q : Int32 → Int32 → Int32 → Int32 → Int32 → Int32 → Prop)   : Nat → Int64 → Int32 → Int32 → Int32 → Int32 → Int32 → Int32 → Int32 → (Nat → Int32) → Prop
  | 0, _, _, _, _, _, _, _, _, _ => False
  | n + 1, x2, f_size, f_next, f_where, f_token, f_number, f_sign, f_word, r_all => (wX11_byteAt (fun r_2 => (wX11_isLetter (fun r_3 => ((r_3 = 0 → (((f_next - f_where) ≤ (6 : Int32) → (wX11_wordOf (fun r_6 => (wX11_advance_162 Q r_6 f_size f_next f_where f_token f_number f_sign f_word r_all)) x2)) ∧ (¬ (f_next - f_where) ≤ (6 : Int32) → (wX11_advance_162 Q (99 : Int32) f_size f_next f_where f_token f_number f_sign f_word r_all)))) ∧ (¬ r_3 = 0 → (((7 : Int32) ≤ (f_next - f_where) → (wX11_advance_125 Q (wX11_advance_77 Q n) x2 f_size f_next f_where f_token f_number f_sign f_word r_all)) ∧ (¬ (7 : Int32) ≤ (f_next - f_where) → (wX11_byteAt (fun r_8 => (wX11_advance_125 Q (wX11_advance_77 Q n) ((((32 : Int64) * x2) + r_8.toInt64) - (96 : Int64)) f_size f_next f_where f_token f_number f_sign f_word r_all)) f_next f_size r_all)))))) r_2)) f_next f_size r_all)
def wX11_advance_248 (Q : Int32 → Int32 → Int32 → Int32 → Int32 → Int32 → Prop) (K_198 : Int32 → Int32 → Int32 → Int32 → Int32 → Int32 → Int32 → (Nat → Int32) → Prop)  (f_size : Int32) (f_next : Int32) (f_where : Int32) (f_token : Int32) (f_number : Int32) (f_sign : Int32) (f_word : Int32) (r_all : (Nat → Int32)) : Prop :=
  (K_198 f_size (f_next + (1 : Int32)) f_where f_token f_number f_sign f_word r_all)
def wX11_advance_280 (Q : Int32 → Int32 → Int32 → Int32 → Int32 → Int32 → Prop)   (s1 : Int32) (f_size : Int32) (f_next : Int32) (f_where : Int32) (f_token : Int32) (f_number : Int32) (f_sign : Int32) (f_word : Int32) (r_all : (Nat → Int32)) : Prop :=
  (Q f_next f_where s1 f_number f_sign f_word)
def wX11_advance_198 (Q : Int32 → Int32 → Int32 → Int32 → Int32 → Int32 → Prop)   : Nat → Int32 → Int32 → Int32 → Int32 → Int32 → Int32 → Int32 → (Nat → Int32) → Prop
  | 0, _, _, _, _, _, _, _, _ => False
  | n + 1, f_size, f_next, f_where, f_token, f_number, f_sign, f_word, r_all => (wX11_byteAt (fun r_9 => (wX11_isDigit (fun r_10 => ((r_10 = 0 → (((f_next - f_where) ≤ (4 : Int32) → (wX11_advance_280 Q (1 : Int32) f_size f_next f_where f_token f_number f_sign f_word r_all)) ∧ (¬ (f_next - f_where) ≤ (4 : Int32) → (wX11_advance_280 Q (4 : Int32) f_size f_next f_where f_token f_number f_sign f_word r_all)))) ∧ (¬ r_10 = 0 → (((4 : Int32) ≤ (f_next - f_where) → (wX11_advance_248 Q (wX11_advance_198 Q n) f_size f_next f_where f_token f_number f_sign f_word r_all)) ∧ (¬ (4 : Int32) ≤ (f_next - f_where) → (wX11_byteAt (fun r_14 => (wX11_advance_248 Q (wX11_advance_198 Q n) f_size f_next f_where f_token ((((10 : Int32) * f_number) + r_14) - (48 : Int32)) f_sign f_word r_all)) f_next f_size r_all)))))) r_9)) f_next f_size r_all)
def wX11_advance_314 (Q : Int32 → Int32 → Int32 → Int32 → Int32 → Int32 → Prop)   (s1 : Int32) (f_size : Int32) (f_next : Int32) (f_where : Int32) (f_token : Int32) (f_number : Int32) (f_sign : Int32) (f_word : Int32) (r_all : (Nat → Int32)) : Prop :=
  (Q f_next f_where s1 f_number f_sign f_word)
def wX11_advance_0 (Q : Int32 → Int32 → Int32 → Int32 → Int32 → Int32 → Prop)   : Nat → Int32 → Int32 → Int32 → Int32 → Int32 → Int32 → Int32 → (Nat → Int32) → Prop
  | 0, _, _, _, _, _, _, _, _ => False
  | n + 1, f_size, f_next, f_where, f_token, f_number, f_sign, f_word, r_all => (wX11_byteAt (fun r_15 => ((r_15 = (10 : Int32) → (wX11_advance_26 Q (wX11_advance_0 Q n) f_size f_next f_where f_token f_number f_sign f_word r_all)) ∧ (¬ r_15 = (10 : Int32) → (wX11_byteAt (fun r_17 => ((¬ r_17 = (32 : Int32) → (wX11_byteAt (fun r_19 => ((0 ≤ r_19 → (wX11_isLetter (fun r_21 => ((r_21 = 0 → (wX11_isDigit (fun r_23 => ((r_23 = 0 → (wX11_isSignByte (fun r_25 => ((r_25 = 0 → (wX11_advance_314 Q (4 : Int32) f_size (f_next + (1 : Int32)) f_next f_token f_number r_19 f_word r_all)) ∧ (¬ r_25 = 0 → (wX11_advance_314 Q (2 : Int32) f_size (f_next + (1 : Int32)) f_next f_token f_number r_19 f_word r_all)))) r_19)) ∧ (¬ r_23 = 0 → (∃ j_, wX11_advance_198 Q j_ f_size f_next f_next f_token (0 : Int32) f_sign f_word r_all)))) r_19)) ∧ (¬ r_21 = 0 → (∃ j_, wX11_advance_77 Q j_ (0 : Int64) f_size f_next f_next f_token f_number f_sign f_word r_all)))) r_19)) ∧ (¬ 0 ≤ r_19 → (Q f_next f_next (0 : Int32) f_number f_sign f_word)))) f_next f_size r_all)) ∧ (r_17 = (32 : Int32) → (wX11_advance_26 Q (wX11_advance_0 Q n) f_size f_next f_where f_token f_number f_sign f_word r_all)))) f_next f_size r_all)))) f_next f_size r_all)
def wX11_advance (Q : Int32 → Int32 → Int32 → Int32 → Int32 → Int32 → Prop)  (f_size : Int32) (f_next : Int32) (f_where : Int32) (f_token : Int32) (f_number : Int32) (f_sign : Int32) (f_word : Int32) (r_all : Nat → Int32) : Prop :=
  (∃ j_, wX11_advance_0 Q j_ f_size f_next f_where f_token f_number f_sign f_word r_all)
abbrev vX11_advance (cI cZ : ClassId) (h h_all h_has h_line h_act h_pile h_comes h_leaves h_tried h_met : Nat) (f_wrong : Int32) (f_open : Int32) (f_lines : Int32) (f_acts : Int32) (f_size : Int32) (f_next : Int32) (f_where : Int32) (f_token : Int32) (f_number : Int32) (f_sign : Int32) (f_word : Int32) (r_all : Nat → Int32) : va_W := [(h, .inr (10, [.ref h_all, .ref h_has, .int f_size, .int f_next, .int f_where, .int f_token, .int f_number, .int f_sign, .int f_word, .int f_wrong, .int f_open, .int f_lines, .int f_acts, .ref h_line, .ref h_act, .ref h_pile, .ref h_comes, .ref h_leaves, .ref h_tried, .ref h_met])), (h_all, .inl (cI, 53700, .inl r_all))]
abbrev rmX11_advance : Room := { frames := 3, cells := 0, slots := 0, locals := 65 }
abbrev qX11_advance (dC : Nat → ClassId) (dI : Nat → Nat → Nat) (cI cZ cO cW : ClassId) (h h_all h_has h_line h_act h_pile h_comes h_leaves h_tried h_met : Nat) (f_wrong : Int32) (f_open : Int32) (f_lines : Int32) (f_acts : Int32) (f_size : Int32) (r_all : Nat → Int32) (Q : Int32 → Int32 → Int32 → Int32 → Int32 → Int32 → Prop) (A : Nat → Prop) : Array Value → State → Outcome → State → Prop := va_Qv (fun (u : Int32 × Int32 × Int32 × Int32 × Int32 × Int32) => Q u.1 u.2.1 u.2.2.1 u.2.2.2.1 u.2.2.2.2.1 u.2.2.2.2.2) (fun (u : Int32 × Int32 × Int32 × Int32 × Int32 × Int32) (t : State) => va_P (dC, dI) vwCl (vX11_advance cI cZ h h_all h_has h_line h_act h_pile h_comes h_leaves h_tried h_met f_wrong f_open f_lines f_acts f_size u.1 u.2.1 u.2.2.1 u.2.2.2.1 u.2.2.2.2.1 u.2.2.2.2.2 r_all) t.heap ∧ va_K (dC, dI) vwCl (tysA cI cZ cO cW) t ∧ va_D A (vX11_advance cI cZ h h_all h_has h_line h_act h_pile h_comes h_leaves h_tried h_met f_wrong f_open f_lines f_acts f_size u.1 u.2.1 u.2.2.1 u.2.2.2.1 u.2.2.2.2.1 u.2.2.2.2.2 r_all)) A
def zsX11_advance : List Cond := Cond.code yX11_advance cX11_advance 4 none :: GW
set_option maxHeartbeats 4000000 in
set_option maxRecDepth 100000 in
theorem tX11_advance_26 {p : Program} {l : Launch} {e : Env} {s : State} {m : MethodId} {args : Array Value} {below : List Frame} {meth : Method} {c : Code} {dC : Nat → ClassId} {dI : Nat → Nat → Nat} {cI cZ cO cW : ClassId} {A : Nat → Prop} {h h_all h_has h_line h_act h_pile h_comes h_leaves h_tried h_met : Nat} {f_wrong f_open f_lines f_acts : Int32} {Q : Int32 → Int32 → Int32 → Int32 → Int32 → Int32 → Prop} {K_0 : Int32 → Int32 → Int32 → Int32 → Int32 → Int32 → Int32 → (Nat → Int32) → Prop} (hC : Cx p s m args meth c cX11_advance none 4 GW RX11) (hK : va_K (dC, dI) vwCl (tysA cI cZ cO cW) s) (hA : ∀ q : Nat, s.heap.size ≤ q → A q) (hk_0 : ∀ (f_size : Int32) (f_next : Int32) (f_where : Int32) (f_token : Int32) (f_number : Int32) (f_sign : Int32) (f_word : Int32) (r_all : (Nat → Int32)) (H : Heap) (locs : List Loc) (ls : Array Slot), K_0 f_size f_next f_where f_token f_number f_sign f_word r_all → va_P (dC, dI) vwCl (vX11_advance cI cZ h h_all h_has h_line h_act h_pile h_comes h_leaves h_tried h_met f_wrong f_open f_lines f_acts f_size f_next f_where f_token f_number f_sign f_word r_all) H → va_D A (vX11_advance cI cZ h h_all h_has h_line h_act h_pile h_comes h_leaves h_tried h_met f_wrong f_open f_lines f_acts f_size f_next f_where f_token f_number f_sign f_word r_all) → va_S A s.heap H locs → lv_has ls 4 [(0, .ref h)] → W p l e rmX11_advance s m args below meth c H locs 0 0 (MQ below (qX11_advance dC dI cI cZ cO cW h h_all h_has h_line h_act h_pile h_comes h_leaves h_tried h_met f_wrong f_open f_lines f_acts f_size r_all Q A) args s 0 0 A) (F0 m 0 ls [])) :
    ∀ (f_size : Int32) (f_next : Int32) (f_where : Int32) (f_token : Int32) (f_number : Int32) (f_sign : Int32) (f_word : Int32) (r_all : (Nat → Int32)) (H : Heap) (locs : List Loc) (ls : Array Slot), wX11_advance_26 Q K_0 f_size f_next f_where f_token f_number f_sign f_word r_all → va_P (dC, dI) vwCl (vX11_advance cI cZ h h_all h_has h_line h_act h_pile h_comes h_leaves h_tried h_met f_wrong f_open f_lines f_acts f_size f_next f_where f_token f_number f_sign f_word r_all) H → va_D A (vX11_advance cI cZ h h_all h_has h_line h_act h_pile h_comes h_leaves h_tried h_met f_wrong f_open f_lines f_acts f_size f_next f_where f_token f_number f_sign f_word r_all) → va_S A s.heap H locs → lv_has ls 4 [(0, .ref h)] → W p l e rmX11_advance s m args below meth c H locs 0 0 (MQ below (qX11_advance dC dI cI cZ cO cW h h_all h_has h_line h_act h_pile h_comes h_leaves h_tried h_met f_wrong f_open f_lines f_acts f_size r_all Q A) args s 0 0 A) (F0 m 26 ls []) := by
  obtain ⟨hx, hb, hr, hml, hown, hts, hlocks⟩ := id hC
  intro f_size f_next f_where f_token f_number f_sign f_word r_all H locs ls hw hP hD hS hl
  refine lv_aload_n hx hb dX11_advance_26 rfl (lv_at hl 0 rfl) ?_
  refine lv_dup hx hb dX11_advance_27 rfl ?_
  refine va_get (D := (dC, dI)) (ci := 10) (v := .int f_next) (C := RX11) (T := TX11) (N := 20) hx hb hts gu_X11 hown hK hP 0 rfl rfl 3 (by decide) (hts _ gw_683) (fun _ h9 => h9) rfl dX11_advance_28 ?_
  refine lv_iconst (v := (1 : Int32)) hx hb dX11_advance_31 (by decide) ?_
  refine lv_iadd hx hb dX11_advance_32 ?_
  refine va_put (D := (dC, dI)) (ci := 10) (v := .int (f_next + (1 : Int32))) (ty := .int) (C := RX11) (T := TX11) (N := 20) hx hb hts gu_X11 tyX11 tyX11_ok nmX11 hown hK hP hD hS 0 rfl rfl 3 (by decide) (hts _ gw_683) (fun _ h9 => h9) rfl (tyX11_ok 3 (by decide)) rfl rfl (Nat.le_of_ble_eq_true rfl) dX11_advance_33 (fun H locs hP hD hS => ?_)
  have hP : va_P (dC, dI) vwCl [(h, .inr (10, [.ref h_all, .ref h_has, .int f_size, .int (f_next + (1 : Int32)), .int f_where, .int f_token, .int f_number, .int f_sign, .int f_word, .int f_wrong, .int f_open, .int f_lines, .int f_acts, .ref h_line, .ref h_act, .ref h_pile, .ref h_comes, .ref h_leaves, .ref h_tried, .ref h_met])), (h_all, .inl (cI, 53700, .inl r_all))] _ := hP
  have hD : va_D A [(h, .inr (10, [.ref h_all, .ref h_has, .int f_size, .int (f_next + (1 : Int32)), .int f_where, .int f_token, .int f_number, .int f_sign, .int f_word, .int f_wrong, .int f_open, .int f_lines, .int f_acts, .ref h_line, .ref h_act, .ref h_pile, .ref h_comes, .ref h_leaves, .ref h_tried, .ref h_met])), (h_all, .inl (cI, 53700, .inl r_all))] := hD
  refine lv_goto (tgt := 0) hx hb dX11_advance_36 (by decide) ?_
  exact hk_0 f_size (f_next + (1 : Int32)) f_where f_token f_number f_sign f_word r_all _ _ ls hw (hP.sub [0, 1] rfl) (hD.sub [0, 1] (by decide) rfl) hS (lv_sub hl [0] rfl)
set_option maxHeartbeats 4000000 in
set_option maxRecDepth 100000 in
theorem tX11_advance_125 {p : Program} {l : Launch} {e : Env} {s : State} {m : MethodId} {args : Array Value} {below : List Frame} {meth : Method} {c : Code} {dC : Nat → ClassId} {dI : Nat → Nat → Nat} {cI cZ cO cW : ClassId} {A : Nat → Prop} {h h_all h_has h_line h_act h_pile h_comes h_leaves h_tried h_met : Nat} {f_wrong f_open f_lines f_acts : Int32} {Q : Int32 → Int32 → Int32 → Int32 → Int32 → Int32 → Prop} {K_77 : Int64 → Int32 → Int32 → Int32 → Int32 → Int32 → Int32 → Int32 → (Nat → Int32) → Prop} (hC : Cx p s m args meth c cX11_advance none 4 GW RX11) (hK : va_K (dC, dI) vwCl (tysA cI cZ cO cW) s) (hA : ∀ q : Nat, s.heap.size ≤ q → A q) (hk_77 : ∀ (x2 : Int64) (f_size : Int32) (f_next : Int32) (f_where : Int32) (f_token : Int32) (f_number : Int32) (f_sign : Int32) (f_word : Int32) (r_all : (Nat → Int32)) (H : Heap) (locs : List Loc) (ls : Array Slot), K_77 x2 f_size f_next f_where f_token f_number f_sign f_word r_all → va_P (dC, dI) vwCl (vX11_advance cI cZ h h_all h_has h_line h_act h_pile h_comes h_leaves h_tried h_met f_wrong f_open f_lines f_acts f_size f_next f_where f_token f_number f_sign f_word r_all) H → va_D A (vX11_advance cI cZ h h_all h_has h_line h_act h_pile h_comes h_leaves h_tried h_met f_wrong f_open f_lines f_acts f_size f_next f_where f_token f_number f_sign f_word r_all) → va_S A s.heap H locs → lv_has ls 4 [(0, .ref h), (2, .long x2)] → W p l e rmX11_advance s m args below meth c H locs 0 0 (MQ below (qX11_advance dC dI cI cZ cO cW h h_all h_has h_line h_act h_pile h_comes h_leaves h_tried h_met f_wrong f_open f_lines f_acts f_size r_all Q A) args s 0 0 A) (F0 m 77 ls [])) :
    ∀ (x2 : Int64) (f_size : Int32) (f_next : Int32) (f_where : Int32) (f_token : Int32) (f_number : Int32) (f_sign : Int32) (f_word : Int32) (r_all : (Nat → Int32)) (H : Heap) (locs : List Loc) (ls : Array Slot), wX11_advance_125 Q K_77 x2 f_size f_next f_where f_token f_number f_sign f_word r_all → va_P (dC, dI) vwCl (vX11_advance cI cZ h h_all h_has h_line h_act h_pile h_comes h_leaves h_tried h_met f_wrong f_open f_lines f_acts f_size f_next f_where f_token f_number f_sign f_word r_all) H → va_D A (vX11_advance cI cZ h h_all h_has h_line h_act h_pile h_comes h_leaves h_tried h_met f_wrong f_open f_lines f_acts f_size f_next f_where f_token f_number f_sign f_word r_all) → va_S A s.heap H locs → lv_has ls 4 [(0, .ref h), (2, .long x2)] → W p l e rmX11_advance s m args below meth c H locs 0 0 (MQ below (qX11_advance dC dI cI cZ cO cW h h_all h_has h_line h_act h_pile h_comes h_leaves h_tried h_met f_wrong f_open f_lines f_acts f_size r_all Q A) args s 0 0 A) (F0 m 125 ls []) := by
  obtain ⟨hx, hb, hr, hml, hown, hts, hlocks⟩ := id hC
  intro x2 f_size f_next f_where f_token f_number f_sign f_word r_all H locs ls hw hP hD hS hl
  refine lv_aload_n hx hb dX11_advance_125 rfl (lv_at hl 0 rfl) ?_
  refine lv_dup hx hb dX11_advance_126 rfl ?_
  refine va_get (D := (dC, dI)) (ci := 10) (v := .int f_next) (C := RX11) (T := TX11) (N := 20) hx hb hts gu_X11 hown hK hP 0 rfl rfl 3 (by decide) (hts _ gw_683) (fun _ h9 => h9) rfl dX11_advance_127 ?_
  refine lv_iconst (v := (1 : Int32)) hx hb dX11_advance_130 (by decide) ?_
  refine lv_iadd hx hb dX11_advance_131 ?_
  refine va_put (D := (dC, dI)) (ci := 10) (v := .int (f_next + (1 : Int32))) (ty := .int) (C := RX11) (T := TX11) (N := 20) hx hb hts gu_X11 tyX11 tyX11_ok nmX11 hown hK hP hD hS 0 rfl rfl 3 (by decide) (hts _ gw_683) (fun _ h9 => h9) rfl (tyX11_ok 3 (by decide)) rfl rfl (Nat.le_of_ble_eq_true rfl) dX11_advance_132 (fun H locs hP hD hS => ?_)
  have hP : va_P (dC, dI) vwCl [(h, .inr (10, [.ref h_all, .ref h_has, .int f_size, .int (f_next + (1 : Int32)), .int f_where, .int f_token, .int f_number, .int f_sign, .int f_word, .int f_wrong, .int f_open, .int f_lines, .int f_acts, .ref h_line, .ref h_act, .ref h_pile, .ref h_comes, .ref h_leaves, .ref h_tried, .ref h_met])), (h_all, .inl (cI, 53700, .inl r_all))] _ := hP
  have hD : va_D A [(h, .inr (10, [.ref h_all, .ref h_has, .int f_size, .int (f_next + (1 : Int32)), .int f_where, .int f_token, .int f_number, .int f_sign, .int f_word, .int f_wrong, .int f_open, .int f_lines, .int f_acts, .ref h_line, .ref h_act, .ref h_pile, .ref h_comes, .ref h_leaves, .ref h_tried, .ref h_met])), (h_all, .inl (cI, 53700, .inl r_all))] := hD
  refine lv_goto (tgt := 77) hx hb dX11_advance_135 (by decide) ?_
  exact hk_77 x2 f_size (f_next + (1 : Int32)) f_where f_token f_number f_sign f_word r_all _ _ ls hw (hP.sub [0, 1] rfl) (hD.sub [0, 1] (by decide) rfl) hS (lv_sub hl [0, 1] rfl)
set_option maxHeartbeats 4000000 in
set_option maxRecDepth 100000 in
theorem tX11_advance_180 {p : Program} {l : Launch} {e : Env} {s : State} {m : MethodId} {args : Array Value} {below : List Frame} {meth : Method} {c : Code} {dC : Nat → ClassId} {dI : Nat → Nat → Nat} {cI cZ cO cW : ClassId} {A : Nat → Prop} {h h_all h_has h_line h_act h_pile h_comes h_leaves h_tried h_met : Nat} {f_wrong f_open f_lines f_acts : Int32} {Q : Int32 → Int32 → Int32 → Int32 → Int32 → Int32 → Prop}  (hC : Cx p s m args meth c cX11_advance none 4 GW RX11) (hK : va_K (dC, dI) vwCl (tysA cI cZ cO cW) s) (hA : ∀ q : Nat, s.heap.size ≤ q → A q) :
    ∀ (s1 : Int32) (f_size : Int32) (f_next : Int32) (f_where : Int32) (f_token : Int32) (f_number : Int32) (f_sign : Int32) (f_word : Int32) (r_all : (Nat → Int32)) (H : Heap) (locs : List Loc) (ls : Array Slot), wX11_advance_180 Q  s1 f_size f_next f_where f_token f_number f_sign f_word r_all → va_P (dC, dI) vwCl (vX11_advance cI cZ h h_all h_has h_line h_act h_pile h_comes h_leaves h_tried h_met f_wrong f_open f_lines f_acts f_size f_next f_where f_token f_number f_sign f_word r_all) H → va_D A (vX11_advance cI cZ h h_all h_has h_line h_act h_pile h_comes h_leaves h_tried h_met f_wrong f_open f_lines f_acts f_size f_next f_where f_token f_number f_sign f_word r_all) → va_S A s.heap H locs → lv_has ls 4 [] → W p l e rmX11_advance s m args below meth c H locs 0 0 (MQ below (qX11_advance dC dI cI cZ cO cW h h_all h_has h_line h_act h_pile h_comes h_leaves h_tried h_met f_wrong f_open f_lines f_acts f_size r_all Q A) args s 0 0 A) (F0 m 180 ls [.int s1, .ref h]) := by
  obtain ⟨hx, hb, hr, hml, hown, hts, hlocks⟩ := id hC
  intro s1 f_size f_next f_where f_token f_number f_sign f_word r_all H locs ls hw hP hD hS hl
  refine va_put (D := (dC, dI)) (ci := 10) (v := .int s1) (ty := .int) (C := RX11) (T := TX11) (N := 20) hx hb hts gu_X11 tyX11 tyX11_ok nmX11 hown hK hP hD hS 0 rfl rfl 5 (by decide) (hts _ gw_685) (fun _ h9 => h9) rfl (tyX11_ok 5 (by decide)) rfl rfl (Nat.le_of_ble_eq_true rfl) dX11_advance_180 (fun H locs hP hD hS => ?_)
  have hP : va_P (dC, dI) vwCl [(h, .inr (10, [.ref h_all, .ref h_has, .int f_size, .int f_next, .int f_where, .int s1, .int f_number, .int f_sign, .int f_word, .int f_wrong, .int f_open, .int f_lines, .int f_acts, .ref h_line, .ref h_act, .ref h_pile, .ref h_comes, .ref h_leaves, .ref h_tried, .ref h_met])), (h_all, .inl (cI, 53700, .inl r_all))] _ := hP
  have hD : va_D A [(h, .inr (10, [.ref h_all, .ref h_has, .int f_size, .int f_next, .int f_where, .int s1, .int f_number, .int f_sign, .int f_word, .int f_wrong, .int f_open, .int f_lines, .int f_acts, .ref h_line, .ref h_act, .ref h_pile, .ref h_comes, .ref h_leaves, .ref h_tried, .ref h_met])), (h_all, .inl (cI, 53700, .inl r_all))] := hD
  refine lv_goto (tgt := 317) hx hb dX11_advance_183 (by decide) ?_
  have hP9 := hP.sub (ws' := (vX11_advance cI cZ h h_all h_has h_line h_act h_pile h_comes h_leaves h_tried h_met f_wrong f_open f_lines f_acts f_size f_next f_where s1 f_number f_sign f_word r_all)) [0, 1] rfl
  have hD9 := hD.sub (ws' := (vX11_advance cI cZ h h_all h_has h_line h_act h_pile h_comes h_leaves h_tried h_met f_wrong f_open f_lines f_acts f_size f_next f_where s1 f_number f_sign f_word r_all)) [0, 1] (by decide) rfl
  exact W.vret hx hb hr (fun t ht hW => ⟨⟨(f_next, f_where, s1, f_number, f_sign, f_word), rfl, hw, by rw [ht]; exact hP9, va_K.moved hW.alike hK, hD9⟩, hS.F ht⟩) hS.2.2 dX11_advance_317
set_option maxHeartbeats 4000000 in
set_option maxRecDepth 100000 in
theorem tX11_advance_162 {p : Program} {l : Launch} {e : Env} {s : State} {m : MethodId} {args : Array Value} {below : List Frame} {meth : Method} {c : Code} {dC : Nat → ClassId} {dI : Nat → Nat → Nat} {cI cZ cO cW : ClassId} {A : Nat → Prop} {h h_all h_has h_line h_act h_pile h_comes h_leaves h_tried h_met : Nat} {f_wrong f_open f_lines f_acts : Int32} {Q : Int32 → Int32 → Int32 → Int32 → Int32 → Int32 → Prop}  (hC : Cx p s m args meth c cX11_advance none 4 GW RX11) (hK : va_K (dC, dI) vwCl (tysA cI cZ cO cW) s) (hA : ∀ q : Nat, s.heap.size ≤ q → A q) :
    ∀ (s1 : Int32) (f_size : Int32) (f_next : Int32) (f_where : Int32) (f_token : Int32) (f_number : Int32) (f_sign : Int32) (f_word : Int32) (r_all : (Nat → Int32)) (H : Heap) (locs : List Loc) (ls : Array Slot), wX11_advance_162 Q  s1 f_size f_next f_where f_token f_number f_sign f_word r_all → va_P (dC, dI) vwCl (vX11_advance cI cZ h h_all h_has h_line h_act h_pile h_comes h_leaves h_tried h_met f_wrong f_open f_lines f_acts f_size f_next f_where f_token f_number f_sign f_word r_all) H → va_D A (vX11_advance cI cZ h h_all h_has h_line h_act h_pile h_comes h_leaves h_tried h_met f_wrong f_open f_lines f_acts f_size f_next f_where f_token f_number f_sign f_word r_all) → va_S A s.heap H locs → lv_has ls 4 [(0, .ref h)] → W p l e rmX11_advance s m args below meth c H locs 0 0 (MQ below (qX11_advance dC dI cI cZ cO cW h h_all h_has h_line h_act h_pile h_comes h_leaves h_tried h_met f_wrong f_open f_lines f_acts f_size r_all Q A) args s 0 0 A) (F0 m 162 ls [.int s1, .ref h]) := by
  obtain ⟨hx, hb, hr, hml, hown, hts, hlocks⟩ := id hC
  intro s1 f_size f_next f_where f_token f_number f_sign f_word r_all H locs ls hw hP hD hS hl
  refine va_put (D := (dC, dI)) (ci := 10) (v := .int s1) (ty := .int) (C := RX11) (T := TX11) (N := 20) hx hb hts gu_X11 tyX11 tyX11_ok nmX11 hown hK hP hD hS 0 rfl rfl 8 (by decide) (hts _ gw_686) (fun _ h9 => h9) rfl (tyX11_ok 8 (by decide)) rfl rfl (Nat.le_of_ble_eq_true rfl) dX11_advance_162 (fun H locs hP hD hS => ?_)
  have hP : va_P (dC, dI) vwCl [(h, .inr (10, [.ref h_all, .ref h_has, .int f_size, .int f_next, .int f_where, .int f_token, .int f_number, .int f_sign, .int s1, .int f_wrong, .int f_open, .int f_lines, .int f_acts, .ref h_line, .ref h_act, .ref h_pile, .ref h_comes, .ref h_leaves, .ref h_tried, .ref h_met])), (h_all, .inl (cI, 53700, .inl r_all))] _ := hP
  have hD : va_D A [(h, .inr (10, [.ref h_all, .ref h_has, .int f_size, .int f_next, .int f_where, .int f_token, .int f_number, .int f_sign, .int s1, .int f_wrong, .int f_open, .int f_lines, .int f_acts, .ref h_line, .ref h_act, .ref h_pile, .ref h_comes, .ref h_leaves, .ref h_tried, .ref h_met])), (h_all, .inl (cI, 53700, .inl r_all))] := hD
  refine lv_aload_n hx hb dX11_advance_165 rfl (lv_at hl 0 rfl) ?_
  refine lv_aload_n hx hb dX11_advance_166 rfl (lv_at hl 0 rfl) ?_
  refine va_get (D := (dC, dI)) (ci := 10) (v := .int s1) (C := RX11) (T := TX11) (N := 20) hx hb hts gu_X11 hown hK hP 0 rfl rfl 8 (by decide) (hts _ gw_686) (fun _ h9 => h9) rfl dX11_advance_167 ?_
  refine lv_bipush (v := (99 : Int32)) hx hb dX11_advance_170 (by decide) ?_
  refine lv_icmp_ne (tgt := 179) hx hb dX11_advance_172 (by decide) (fun c_1 => ?_) (fun c_1 => ?_)
  · have hw := hw.1 c_1
    refine lv_iconst (v := (3 : Int32)) hx hb dX11_advance_179 (by decide) ?_
    exact tX11_advance_180 hC hK hA  (3 : Int32) f_size f_next f_where f_token f_number f_sign s1 r_all _ _ ls hw (hP.sub [0, 1] rfl) (hD.sub [0, 1] (by decide) rfl) hS (lv_sub hl [] rfl)
  · have hw := hw.2 c_1
    refine lv_iconst (v := (4 : Int32)) hx hb dX11_advance_175 (by decide) ?_
    refine lv_goto (tgt := 180) hx hb dX11_advance_176 (by decide) ?_
    exact tX11_advance_180 hC hK hA  (4 : Int32) f_size f_next f_where f_token f_number f_sign s1 r_all _ _ ls hw (hP.sub [0, 1] rfl) (hD.sub [0, 1] (by decide) rfl) hS (lv_sub hl [] rfl)
set_option maxHeartbeats 4000000 in
set_option maxRecDepth 100000 in
theorem tX11_advance_77 {p : Program} {l : Launch} {e : Env} {s : State} {m : MethodId} {args : Array Value} {below : List Frame} {meth : Method} {c : Code} {dC : Nat → ClassId} {dI : Nat → Nat → Nat} {cI cZ cO cW : ClassId} {A : Nat → Prop} {h h_all h_has h_line h_act h_pile h_comes h_leaves h_tried h_met : Nat} {f_wrong f_open f_lines f_acts : Int32} {Q : Int32 → Int32 → Int32 → Int32 → Int32 → Int32 → Prop}  (hC : Cx p s m args meth c cX11_advance none 4 GW RX11) (hK : va_K (dC, dI) vwCl (tysA cI cZ cO cW) s) (hA : ∀ q : Nat, s.heap.size ≤ q → A q) :
    ∀ (n : Nat) (x2 : Int64) (f_size : Int32) (f_next : Int32) (f_where : Int32) (f_token : Int32) (f_number : Int32) (f_sign : Int32) (f_word : Int32) (r_all : (Nat → Int32)) (H : Heap) (locs : List Loc) (ls : Array Slot), wX11_advance_77 Q  n x2 f_size f_next f_where f_token f_number f_sign f_word r_all → va_P (dC, dI) vwCl (vX11_advance cI cZ h h_all h_has h_line h_act h_pile h_comes h_leaves h_tried h_met f_wrong f_open f_lines f_acts f_size f_next f_where f_token f_number f_sign f_word r_all) H → va_D A (vX11_advance cI cZ h h_all h_has h_line h_act h_pile h_comes h_leaves h_tried h_met f_wrong f_open f_lines f_acts f_size f_next f_where f_token f_number f_sign f_word r_all) → va_S A s.heap H locs → lv_has ls 4 [(0, .ref h), (2, .long x2)] → W p l e rmX11_advance s m args below meth c H locs 0 0 (MQ below (qX11_advance dC dI cI cZ cO cW h h_all h_has h_line h_act h_pile h_comes h_leaves h_tried h_met f_wrong f_open f_lines f_acts f_size r_all Q A) args s 0 0 A) (F0 m 77 ls []) := by
  obtain ⟨hx, hb, hr, hml, hown, hts, hlocks⟩ := id hC
  intro n
  induction n with
  | zero =>
    intro  x2 f_size f_next f_where f_token f_number f_sign f_word r_all H locs ls hw
    exact hw.elim
  | succ n ih =>
    intro  x2 f_size f_next f_where f_token f_number f_sign f_word r_all H locs ls hw hP hD hS hl
    refine lv_aload_n hx hb dX11_advance_77 rfl (lv_at hl 0 rfl) ?_
    refine lv_aload_n hx hb dX11_advance_78 rfl (lv_at hl 0 rfl) ?_
    refine va_get (D := (dC, dI)) (ci := 10) (v := .int f_next) (C := RX11) (T := TX11) (N := 20) hx hb hts gu_X11 hown hK hP 0 rfl rfl 3 (by decide) (hts _ gw_683) (fun _ h9 => h9) rfl dX11_advance_79 ?_
    have hPc := hP.sub (ws' := [(h, .inr (10, [.ref h_all, .ref h_has, .int f_size, .int f_next, .int f_where, .int f_token, .int f_number, .int f_sign, .int f_word, .int f_wrong, .int f_open, .int f_lines, .int f_acts, .ref h_line, .ref h_act, .ref h_pile, .ref h_comes, .ref h_leaves, .ref h_tried, .ref h_met])), (h_all, .inl (cI, 53700, .inl r_all))]) [0, 1] rfl
    have hDc := hD.sub (ws' := [(h, .inr (10, [.ref h_all, .ref h_has, .int f_size, .int f_next, .int f_where, .int f_token, .int f_number, .int f_sign, .int f_word, .int f_wrong, .int f_open, .int f_lines, .int f_acts, .ref h_line, .ref h_act, .ref h_pile, .ref h_comes, .ref h_leaves, .ref h_tried, .ref h_met])), (h_all, .inl (cI, 53700, .inl r_all))]) [0, 1] (by decide) rfl
    have hFc := va_free (wc := [(h, .inr (10, [.ref h_all, .ref h_has, .int f_size, .int f_next, .int f_where, .int f_token, .int f_number, .int f_sign, .int f_word, .int f_wrong, .int f_open, .int f_lines, .int f_acts, .ref h_line, .ref h_act, .ref h_pile, .ref h_comes, .ref h_leaves, .ref h_tried, .ref h_met])), (h_all, .inl (cI, 53700, .inl r_all))]) hD hS hA [0, 1] rfl
    refine va_calli (va_runV (As := [.int f_next]) (rest := []) ⟨hx, hb, hml, hown, hts⟩ (kX11_byteAt l dC dI cI cZ cO cW h h_all h_has h_line h_act h_pile h_comes h_leaves h_tried h_met H.size f_next f_where f_token f_number f_sign f_word f_wrong f_open f_lines f_acts f_size r_all f_next _ hw) (cwV 1 hts (gV gw_689 gw_690 gw_691 gw_622 (gM gw_662)) rfl rfl rfl (by decide +kernel) ⟨Nat.le_of_ble_eq_true rfl, Nat.le_of_ble_eq_true rfl⟩) (pv_of hPc hK hDc (va_recv hK hPc (ci := 10) (q0 := 0) rfl rfl)) rfl rfl hl.1 rfl (lv_room (Nat.le_of_ble_eq_true rfl)) dX11_advance_82 ⟨Nat.zero_le _, Nat.zero_le _⟩) hS (fun q _ h => hFc q h) hFc (fun r_2 u t H locs ht hvm hw hB hz1 hk1 hS => ?_)
    obtain ⟨hP, hD⟩ := af_join (wr := []) (w1 := [(h, .inr (10, [.ref h_all, .ref h_has, .int f_size, .int f_next, .int f_where, .int f_token, .int f_number, .int f_sign, .int f_word, .int f_wrong, .int f_open, .int f_lines, .int f_acts, .ref h_line, .ref h_act, .ref h_pile, .ref h_comes, .ref h_leaves, .ref h_tried, .ref h_met])), (h_all, .inl (cI, 53700, .inl r_all))]) hB ht hP hD [0, 1] [] rfl rfl (by decide) (by decide) hk1 hFc
    have hP : va_P (dC, dI) vwCl [(h, .inr (10, [.ref h_all, .ref h_has, .int f_size, .int f_next, .int f_where, .int f_token, .int f_number, .int f_sign, .int f_word, .int f_wrong, .int f_open, .int f_lines, .int f_acts, .ref h_line, .ref h_act, .ref h_pile, .ref h_comes, .ref h_leaves, .ref h_tried, .ref h_met])), (h_all, .inl (cI, 53700, .inl r_all))] _ := hP
    have hD : va_D A [(h, .inr (10, [.ref h_all, .ref h_has, .int f_size, .int f_next, .int f_where, .int f_token, .int f_number, .int f_sign, .int f_word, .int f_wrong, .int f_open, .int f_lines, .int f_acts, .ref h_line, .ref h_act, .ref h_pile, .ref h_comes, .ref h_leaves, .ref h_tried, .ref h_met])), (h_all, .inl (cI, 53700, .inl r_all))] := hD
    have hPc := hP.sub (ws' := []) [] rfl
    have hDc := hD.sub (ws' := []) [] (by decide) rfl
    have hFc := va_free (wc := []) hD hS hA [] rfl
    refine va_calli (va_runS (As := [.int r_2]) (rest := []) ⟨hx, hb, hml, hown, hts⟩ (kX11_isLetter l dC dI cI cZ cO cW H.size r_2 _ hw) (va_cwS 1 hts (gS gw_692 gw_693 gw_622 (gM gw_664)) rfl rfl rfl (by decide +kernel) ⟨Nat.le_of_ble_eq_true rfl, Nat.le_of_ble_eq_true rfl⟩) (ps_of hPc hK hDc) rfl rfl hl.1 rfl (lv_room (Nat.le_of_ble_eq_true rfl)) dX11_advance_85 ⟨Nat.zero_le _, Nat.zero_le _⟩) hS (fun q _ h => hFc q h) hFc (fun r_3 u t H locs ht hvm hw hB hz1 hk1 hS => ?_)
    obtain ⟨hP, hD⟩ := af_join (wr := [(h, .inr (10, [.ref h_all, .ref h_has, .int f_size, .int f_next, .int f_where, .int f_token, .int f_number, .int f_sign, .int f_word, .int f_wrong, .int f_open, .int f_lines, .int f_acts, .ref h_line, .ref h_act, .ref h_pile, .ref h_comes, .ref h_leaves, .ref h_tried, .ref h_met])), (h_all, .inl (cI, 53700, .inl r_all))]) (w1 := []) hB ht hP hD [] [0, 1] rfl rfl (by decide) (by decide) hk1 hFc
    have hP : va_P (dC, dI) vwCl [(h, .inr (10, [.ref h_all, .ref h_has, .int f_size, .int f_next, .int f_where, .int f_token, .int f_number, .int f_sign, .int f_word, .int f_wrong, .int f_open, .int f_lines, .int f_acts, .ref h_line, .ref h_act, .ref h_pile, .ref h_comes, .ref h_leaves, .ref h_tried, .ref h_met])), (h_all, .inl (cI, 53700, .inl r_all))] _ := hP
    have hD : va_D A [(h, .inr (10, [.ref h_all, .ref h_has, .int f_size, .int f_next, .int f_where, .int f_token, .int f_number, .int f_sign, .int f_word, .int f_wrong, .int f_open, .int f_lines, .int f_acts, .ref h_line, .ref h_act, .ref h_pile, .ref h_comes, .ref h_leaves, .ref h_tried, .ref h_met])), (h_all, .inl (cI, 53700, .inl r_all))] := hD
    refine lv_if_eq (tgt := 138) hx hb dX11_advance_88 (by decide) (fun c_4 => ?_) (fun c_4 => ?_)
    · have hw := hw.1 c_4
      refine lv_aload_n hx hb dX11_advance_138 rfl (lv_at hl 0 rfl) ?_
      refine lv_aload_n hx hb dX11_advance_139 rfl (lv_at hl 0 rfl) ?_
      refine va_get (D := (dC, dI)) (ci := 10) (v := .int f_next) (C := RX11) (T := TX11) (N := 20) hx hb hts gu_X11 hown hK hP 0 rfl rfl 3 (by decide) (hts _ gw_683) (fun _ h9 => h9) rfl dX11_advance_140 ?_
      refine lv_aload_n hx hb dX11_advance_143 rfl (lv_at hl 0 rfl) ?_
      refine va_get (D := (dC, dI)) (ci := 10) (v := .int f_where) (C := RX11) (T := TX11) (N := 20) hx hb hts gu_X11 hown hK hP 0 rfl rfl 4 (by decide) (hts _ gw_684) (fun _ h9 => h9) rfl dX11_advance_144 ?_
      refine lv_isub hx hb dX11_advance_147 ?_
      refine lv_bipush (v := (6 : Int32)) hx hb dX11_advance_148 (by decide) ?_
      refine lv_icmp_le (tgt := 158) hx hb dX11_advance_150 (by decide) (fun c_5 => ?_) (fun c_5 => ?_)
      · have hw := hw.1 c_5
        refine lv_lload_n hx hb dX11_advance_158 rfl (lv_at hl 1 rfl) ?_
        have hPc := hP.sub (ws' := []) [] rfl
        have hDc := hD.sub (ws' := []) [] (by decide) rfl
        have hFc := va_free (wc := []) hD hS hA [] rfl
        refine va_calli (va_runS (As := [.long x2]) (rest := [.ref h]) ⟨hx, hb, hml, hown, hts⟩ (kX11_wordOf l dC dI cI cZ cO cW H.size x2 _ hw) (va_cwS 1 hts (gS gw_694 gw_695 gw_622 (gM gw_673)) rfl rfl rfl (by decide +kernel) ⟨Nat.le_of_ble_eq_true rfl, Nat.le_of_ble_eq_true rfl⟩) (ps_of hPc hK hDc) rfl rfl hl.1 rfl (lv_room (Nat.le_of_ble_eq_true rfl)) dX11_advance_159 ⟨Nat.zero_le _, Nat.zero_le _⟩) hS (fun q _ h => hFc q h) hFc (fun r_6 u t H locs ht hvm hw hB hz1 hk1 hS => ?_)
        obtain ⟨hP, hD⟩ := af_join (wr := [(h, .inr (10, [.ref h_all, .ref h_has, .int f_size, .int f_next, .int f_where, .int f_token, .int f_number, .int f_sign, .int f_word, .int f_wrong, .int f_open, .int f_lines, .int f_acts, .ref h_line, .ref h_act, .ref h_pile, .ref h_comes, .ref h_leaves, .ref h_tried, .ref h_met])), (h_all, .inl (cI, 53700, .inl r_all))]) (w1 := []) hB ht hP hD [] [0, 1] rfl rfl (by decide) (by decide) hk1 hFc
        have hP : va_P (dC, dI) vwCl [(h, .inr (10, [.ref h_all, .ref h_has, .int f_size, .int f_next, .int f_where, .int f_token, .int f_number, .int f_sign, .int f_word, .int f_wrong, .int f_open, .int f_lines, .int f_acts, .ref h_line, .ref h_act, .ref h_pile, .ref h_comes, .ref h_leaves, .ref h_tried, .ref h_met])), (h_all, .inl (cI, 53700, .inl r_all))] _ := hP
        have hD : va_D A [(h, .inr (10, [.ref h_all, .ref h_has, .int f_size, .int f_next, .int f_where, .int f_token, .int f_number, .int f_sign, .int f_word, .int f_wrong, .int f_open, .int f_lines, .int f_acts, .ref h_line, .ref h_act, .ref h_pile, .ref h_comes, .ref h_leaves, .ref h_tried, .ref h_met])), (h_all, .inl (cI, 53700, .inl r_all))] := hD
        exact tX11_advance_162 hC hK hA  r_6 f_size f_next f_where f_token f_number f_sign f_word r_all _ _ ls hw (hP.sub [0, 1] rfl) (hD.sub [0, 1] (by decide) rfl) hS (lv_sub hl [0] rfl)
      · have hw := hw.2 c_5
        refine lv_bipush (v := (99 : Int32)) hx hb dX11_advance_153 (by decide) ?_
        refine lv_goto (tgt := 162) hx hb dX11_advance_155 (by decide) ?_
        exact tX11_advance_162 hC hK hA  (99 : Int32) f_size f_next f_where f_token f_number f_sign f_word r_all _ _ ls hw (hP.sub [0, 1] rfl) (hD.sub [0, 1] (by decide) rfl) hS (lv_sub hl [0] rfl)
    · have hw := hw.2 c_4
      refine lv_aload_n hx hb dX11_advance_91 rfl (lv_at hl 0 rfl) ?_
      refine va_get (D := (dC, dI)) (ci := 10) (v := .int f_next) (C := RX11) (T := TX11) (N := 20) hx hb hts gu_X11 hown hK hP 0 rfl rfl 3 (by decide) (hts _ gw_683) (fun _ h9 => h9) rfl dX11_advance_92 ?_
      refine lv_aload_n hx hb dX11_advance_95 rfl (lv_at hl 0 rfl) ?_
      refine va_get (D := (dC, dI)) (ci := 10) (v := .int f_where) (C := RX11) (T := TX11) (N := 20) hx hb hts gu_X11 hown hK hP 0 rfl rfl 4 (by decide) (hts _ gw_684) (fun _ h9 => h9) rfl dX11_advance_96 ?_
      refine lv_isub hx hb dX11_advance_99 ?_
      refine lv_bipush (v := (7 : Int32)) hx hb dX11_advance_100 (by decide) ?_
      refine lv_icmp_ge (tgt := 125) hx hb dX11_advance_102 (by decide) (fun c_7 => ?_) (fun c_7 => ?_)
      · have hw := hw.1 c_7
        exact tX11_advance_125 hC hK hA ih x2 f_size f_next f_where f_token f_number f_sign f_word r_all _ _ ls hw (hP.sub [0, 1] rfl) (hD.sub [0, 1] (by decide) rfl) hS (lv_sub hl [0, 1] rfl)
      · have hw := hw.2 c_7
        refine lv_ldc2 (v := (32 : Int64)) hx hb hown (hts _ gw_667) dX11_advance_105 ?_
        refine lv_lload_n hx hb dX11_advance_108 rfl (lv_at hl 1 rfl) ?_
        refine lv_lmul hx hb dX11_advance_109 ?_
        refine lv_aload_n hx hb dX11_advance_110 rfl (lv_at hl 0 rfl) ?_
        refine lv_aload_n hx hb dX11_advance_111 rfl (lv_at hl 0 rfl) ?_
        refine va_get (D := (dC, dI)) (ci := 10) (v := .int f_next) (C := RX11) (T := TX11) (N := 20) hx hb hts gu_X11 hown hK hP 0 rfl rfl 3 (by decide) (hts _ gw_683) (fun _ h9 => h9) rfl dX11_advance_112 ?_
        have hPc := hP.sub (ws' := [(h, .inr (10, [.ref h_all, .ref h_has, .int f_size, .int f_next, .int f_where, .int f_token, .int f_number, .int f_sign, .int f_word, .int f_wrong, .int f_open, .int f_lines, .int f_acts, .ref h_line, .ref h_act, .ref h_pile, .ref h_comes, .ref h_leaves, .ref h_tried, .ref h_met])), (h_all, .inl (cI, 53700, .inl r_all))]) [0, 1] rfl
        have hDc := hD.sub (ws' := [(h, .inr (10, [.ref h_all, .ref h_has, .int f_size, .int f_next, .int f_where, .int f_token, .int f_number, .int f_sign, .int f_word, .int f_wrong, .int f_open, .int f_lines, .int f_acts, .ref h_line, .ref h_act, .ref h_pile, .ref h_comes, .ref h_leaves, .ref h_tried, .ref h_met])), (h_all, .inl (cI, 53700, .inl r_all))]) [0, 1] (by decide) rfl
        have hFc := va_free (wc := [(h, .inr (10, [.ref h_all, .ref h_has, .int f_size, .int f_next, .int f_where, .int f_token, .int f_number, .int f_sign, .int f_word, .int f_wrong, .int f_open, .int f_lines, .int f_acts, .ref h_line, .ref h_act, .ref h_pile, .ref h_comes, .ref h_leaves, .ref h_tried, .ref h_met])), (h_all, .inl (cI, 53700, .inl r_all))]) hD hS hA [0, 1] rfl
        refine va_calli (va_runV (As := [.int f_next]) (rest := [.long ((32 : Int64) * x2)]) ⟨hx, hb, hml, hown, hts⟩ (kX11_byteAt l dC dI cI cZ cO cW h h_all h_has h_line h_act h_pile h_comes h_leaves h_tried h_met H.size f_next f_where f_token f_number f_sign f_word f_wrong f_open f_lines f_acts f_size r_all f_next _ hw) (cwV 1 hts (gV gw_689 gw_690 gw_691 gw_622 (gM gw_662)) rfl rfl rfl (by decide +kernel) ⟨Nat.le_of_ble_eq_true rfl, Nat.le_of_ble_eq_true rfl⟩) (pv_of hPc hK hDc (va_recv hK hPc (ci := 10) (q0 := 0) rfl rfl)) rfl rfl hl.1 rfl (lv_room (Nat.le_of_ble_eq_true rfl)) dX11_advance_115 ⟨Nat.zero_le _, Nat.zero_le _⟩) hS (fun q _ h => hFc q h) hFc (fun r_8 u t H locs ht hvm hw hB hz1 hk1 hS => ?_)
        obtain ⟨hP, hD⟩ := af_join (wr := []) (w1 := [(h, .inr (10, [.ref h_all, .ref h_has, .int f_size, .int f_next, .int f_where, .int f_token, .int f_number, .int f_sign, .int f_word, .int f_wrong, .int f_open, .int f_lines, .int f_acts, .ref h_line, .ref h_act, .ref h_pile, .ref h_comes, .ref h_leaves, .ref h_tried, .ref h_met])), (h_all, .inl (cI, 53700, .inl r_all))]) hB ht hP hD [0, 1] [] rfl rfl (by decide) (by decide) hk1 hFc
        have hP : va_P (dC, dI) vwCl [(h, .inr (10, [.ref h_all, .ref h_has, .int f_size, .int f_next, .int f_where, .int f_token, .int f_number, .int f_sign, .int f_word, .int f_wrong, .int f_open, .int f_lines, .int f_acts, .ref h_line, .ref h_act, .ref h_pile, .ref h_comes, .ref h_leaves, .ref h_tried, .ref h_met])), (h_all, .inl (cI, 53700, .inl r_all))] _ := hP
        have hD : va_D A [(h, .inr (10, [.ref h_all, .ref h_has, .int f_size, .int f_next, .int f_where, .int f_token, .int f_number, .int f_sign, .int f_word, .int f_wrong, .int f_open, .int f_lines, .int f_acts, .ref h_line, .ref h_act, .ref h_pile, .ref h_comes, .ref h_leaves, .ref h_tried, .ref h_met])), (h_all, .inl (cI, 53700, .inl r_all))] := hD
        refine lv_i2l (v := r_8.toInt64) hx hb dX11_advance_118 rfl ?_
        refine lv_ladd hx hb dX11_advance_119 ?_
        refine lv_ldc2 (v := (96 : Int64)) hx hb hown (hts _ gw_668) dX11_advance_120 ?_
        refine lv_lsub hx hb dX11_advance_123 ?_
        refine lv_lstore_n (lv' := [(2, .long ((((32 : Int64) * x2) + r_8.toInt64) - (96 : Int64))), (0, .ref h)]) hx hb dX11_advance_124 rfl hl (by decide) rfl (fun ls hl => ?_)
        exact tX11_advance_125 hC hK hA ih ((((32 : Int64) * x2) + r_8.toInt64) - (96 : Int64)) f_size f_next f_where f_token f_number f_sign f_word r_all _ _ ls hw (hP.sub [0, 1] rfl) (hD.sub [0, 1] (by decide) rfl) hS (lv_sub hl [1, 0] rfl)
set_option maxHeartbeats 4000000 in
set_option maxRecDepth 100000 in
theorem tX11_advance_248 {p : Program} {l : Launch} {e : Env} {s : State} {m : MethodId} {args : Array Value} {below : List Frame} {meth : Method} {c : Code} {dC : Nat → ClassId} {dI : Nat → Nat → Nat} {cI cZ cO cW : ClassId} {A : Nat → Prop} {h h_all h_has h_line h_act h_pile h_comes h_leaves h_tried h_met : Nat} {f_wrong f_open f_lines f_acts : Int32} {Q : Int32 → Int32 → Int32 → Int32 → Int32 → Int32 → Prop} {K_198 : Int32 → Int32 → Int32 → Int32 → Int32 → Int32 → Int32 → (Nat → Int32) → Prop} (hC : Cx p s m args meth c cX11_advance none 4 GW RX11) (hK : va_K (dC, dI) vwCl (tysA cI cZ cO cW) s) (hA : ∀ q : Nat, s.heap.size ≤ q → A q) (hk_198 : ∀ (f_size : Int32) (f_next : Int32) (f_where : Int32) (f_token : Int32) (f_number : Int32) (f_sign : Int32) (f_word : Int32) (r_all : (Nat → Int32)) (H : Heap) (locs : List Loc) (ls : Array Slot), K_198 f_size f_next f_where f_token f_number f_sign f_word r_all → va_P (dC, dI) vwCl (vX11_advance cI cZ h h_all h_has h_line h_act h_pile h_comes h_leaves h_tried h_met f_wrong f_open f_lines f_acts f_size f_next f_where f_token f_number f_sign f_word r_all) H → va_D A (vX11_advance cI cZ h h_all h_has h_line h_act h_pile h_comes h_leaves h_tried h_met f_wrong f_open f_lines f_acts f_size f_next f_where f_token f_number f_sign f_word r_all) → va_S A s.heap H locs → lv_has ls 4 [(0, .ref h)] → W p l e rmX11_advance s m args below meth c H locs 0 0 (MQ below (qX11_advance dC dI cI cZ cO cW h h_all h_has h_line h_act h_pile h_comes h_leaves h_tried h_met f_wrong f_open f_lines f_acts f_size r_all Q A) args s 0 0 A) (F0 m 198 ls [])) :
    ∀ (f_size : Int32) (f_next : Int32) (f_where : Int32) (f_token : Int32) (f_number : Int32) (f_sign : Int32) (f_word : Int32) (r_all : (Nat → Int32)) (H : Heap) (locs : List Loc) (ls : Array Slot), wX11_advance_248 Q K_198 f_size f_next f_where f_token f_number f_sign f_word r_all → va_P (dC, dI) vwCl (vX11_advance cI cZ h h_all h_has h_line h_act h_pile h_comes h_leaves h_tried h_met f_wrong f_open f_lines f_acts f_size f_next f_where f_token f_number f_sign f_word r_all) H → va_D A (vX11_advance cI cZ h h_all h_has h_line h_act h_pile h_comes h_leaves h_tried h_met f_wrong f_open f_lines f_acts f_size f_next f_where f_token f_number f_sign f_word r_all) → va_S A s.heap H locs → lv_has ls 4 [(0, .ref h)] → W p l e rmX11_advance s m args below meth c H locs 0 0 (MQ below (qX11_advance dC dI cI cZ cO cW h h_all h_has h_line h_act h_pile h_comes h_leaves h_tried h_met f_wrong f_open f_lines f_acts f_size r_all Q A) args s 0 0 A) (F0 m 248 ls []) := by
  obtain ⟨hx, hb, hr, hml, hown, hts, hlocks⟩ := id hC
  intro f_size f_next f_where f_token f_number f_sign f_word r_all H locs ls hw hP hD hS hl
  refine lv_aload_n hx hb dX11_advance_248 rfl (lv_at hl 0 rfl) ?_
  refine lv_dup hx hb dX11_advance_249 rfl ?_
  refine va_get (D := (dC, dI)) (ci := 10) (v := .int f_next) (C := RX11) (T := TX11) (N := 20) hx hb hts gu_X11 hown hK hP 0 rfl rfl 3 (by decide) (hts _ gw_683) (fun _ h9 => h9) rfl dX11_advance_250 ?_
  refine lv_iconst (v := (1 : Int32)) hx hb dX11_advance_253 (by decide) ?_
  refine lv_iadd hx hb dX11_advance_254 ?_
  refine va_put (D := (dC, dI)) (ci := 10) (v := .int (f_next + (1 : Int32))) (ty := .int) (C := RX11) (T := TX11) (N := 20) hx hb hts gu_X11 tyX11 tyX11_ok nmX11 hown hK hP hD hS 0 rfl rfl 3 (by decide) (hts _ gw_683) (fun _ h9 => h9) rfl (tyX11_ok 3 (by decide)) rfl rfl (Nat.le_of_ble_eq_true rfl) dX11_advance_255 (fun H locs hP hD hS => ?_)
  have hP : va_P (dC, dI) vwCl [(h, .inr (10, [.ref h_all, .ref h_has, .int f_size, .int (f_next + (1 : Int32)), .int f_where, .int f_token, .int f_number, .int f_sign, .int f_word, .int f_wrong, .int f_open, .int f_lines, .int f_acts, .ref h_line, .ref h_act, .ref h_pile, .ref h_comes, .ref h_leaves, .ref h_tried, .ref h_met])), (h_all, .inl (cI, 53700, .inl r_all))] _ := hP
  have hD : va_D A [(h, .inr (10, [.ref h_all, .ref h_has, .int f_size, .int (f_next + (1 : Int32)), .int f_where, .int f_token, .int f_number, .int f_sign, .int f_word, .int f_wrong, .int f_open, .int f_lines, .int f_acts, .ref h_line, .ref h_act, .ref h_pile, .ref h_comes, .ref h_leaves, .ref h_tried, .ref h_met])), (h_all, .inl (cI, 53700, .inl r_all))] := hD
  refine lv_goto (tgt := 198) hx hb dX11_advance_258 (by decide) ?_
  exact hk_198 f_size (f_next + (1 : Int32)) f_where f_token f_number f_sign f_word r_all _ _ ls hw (hP.sub [0, 1] rfl) (hD.sub [0, 1] (by decide) rfl) hS (lv_sub hl [0] rfl)
set_option maxHeartbeats 4000000 in
set_option maxRecDepth 100000 in
theorem tX11_advance_280 {p : Program} {l : Launch} {e : Env} {s : State} {m : MethodId} {args : Array Value} {below : List Frame} {meth : Method} {c : Code} {dC : Nat → ClassId} {dI : Nat → Nat → Nat} {cI cZ cO cW : ClassId} {A : Nat → Prop} {h h_all h_has h_line h_act h_pile h_comes h_leaves h_tried h_met : Nat} {f_wrong f_open f_lines f_acts : Int32} {Q : Int32 → Int32 → Int32 → Int32 → Int32 → Int32 → Prop}  (hC : Cx p s m args meth c cX11_advance none 4 GW RX11) (hK : va_K (dC, dI) vwCl (tysA cI cZ cO cW) s) (hA : ∀ q : Nat, s.heap.size ≤ q → A q) :
    ∀ (s1 : Int32) (f_size : Int32) (f_next : Int32) (f_where : Int32) (f_token : Int32) (f_number : Int32) (f_sign : Int32) (f_word : Int32) (r_all : (Nat → Int32)) (H : Heap) (locs : List Loc) (ls : Array Slot), wX11_advance_280 Q  s1 f_size f_next f_where f_token f_number f_sign f_word r_all → va_P (dC, dI) vwCl (vX11_advance cI cZ h h_all h_has h_line h_act h_pile h_comes h_leaves h_tried h_met f_wrong f_open f_lines f_acts f_size f_next f_where f_token f_number f_sign f_word r_all) H → va_D A (vX11_advance cI cZ h h_all h_has h_line h_act h_pile h_comes h_leaves h_tried h_met f_wrong f_open f_lines f_acts f_size f_next f_where f_token f_number f_sign f_word r_all) → va_S A s.heap H locs → lv_has ls 4 [] → W p l e rmX11_advance s m args below meth c H locs 0 0 (MQ below (qX11_advance dC dI cI cZ cO cW h h_all h_has h_line h_act h_pile h_comes h_leaves h_tried h_met f_wrong f_open f_lines f_acts f_size r_all Q A) args s 0 0 A) (F0 m 280 ls [.int s1, .ref h]) := by
  obtain ⟨hx, hb, hr, hml, hown, hts, hlocks⟩ := id hC
  intro s1 f_size f_next f_where f_token f_number f_sign f_word r_all H locs ls hw hP hD hS hl
  refine va_put (D := (dC, dI)) (ci := 10) (v := .int s1) (ty := .int) (C := RX11) (T := TX11) (N := 20) hx hb hts gu_X11 tyX11 tyX11_ok nmX11 hown hK hP hD hS 0 rfl rfl 5 (by decide) (hts _ gw_685) (fun _ h9 => h9) rfl (tyX11_ok 5 (by decide)) rfl rfl (Nat.le_of_ble_eq_true rfl) dX11_advance_280 (fun H locs hP hD hS => ?_)
  have hP : va_P (dC, dI) vwCl [(h, .inr (10, [.ref h_all, .ref h_has, .int f_size, .int f_next, .int f_where, .int s1, .int f_number, .int f_sign, .int f_word, .int f_wrong, .int f_open, .int f_lines, .int f_acts, .ref h_line, .ref h_act, .ref h_pile, .ref h_comes, .ref h_leaves, .ref h_tried, .ref h_met])), (h_all, .inl (cI, 53700, .inl r_all))] _ := hP
  have hD : va_D A [(h, .inr (10, [.ref h_all, .ref h_has, .int f_size, .int f_next, .int f_where, .int s1, .int f_number, .int f_sign, .int f_word, .int f_wrong, .int f_open, .int f_lines, .int f_acts, .ref h_line, .ref h_act, .ref h_pile, .ref h_comes, .ref h_leaves, .ref h_tried, .ref h_met])), (h_all, .inl (cI, 53700, .inl r_all))] := hD
  refine lv_goto (tgt := 317) hx hb dX11_advance_283 (by decide) ?_
  have hP9 := hP.sub (ws' := (vX11_advance cI cZ h h_all h_has h_line h_act h_pile h_comes h_leaves h_tried h_met f_wrong f_open f_lines f_acts f_size f_next f_where s1 f_number f_sign f_word r_all)) [0, 1] rfl
  have hD9 := hD.sub (ws' := (vX11_advance cI cZ h h_all h_has h_line h_act h_pile h_comes h_leaves h_tried h_met f_wrong f_open f_lines f_acts f_size f_next f_where s1 f_number f_sign f_word r_all)) [0, 1] (by decide) rfl
  exact W.vret hx hb hr (fun t ht hW => ⟨⟨(f_next, f_where, s1, f_number, f_sign, f_word), rfl, hw, by rw [ht]; exact hP9, va_K.moved hW.alike hK, hD9⟩, hS.F ht⟩) hS.2.2 dX11_advance_317
set_option maxHeartbeats 4000000 in
set_option maxRecDepth 100000 in
theorem tX11_advance_198 {p : Program} {l : Launch} {e : Env} {s : State} {m : MethodId} {args : Array Value} {below : List Frame} {meth : Method} {c : Code} {dC : Nat → ClassId} {dI : Nat → Nat → Nat} {cI cZ cO cW : ClassId} {A : Nat → Prop} {h h_all h_has h_line h_act h_pile h_comes h_leaves h_tried h_met : Nat} {f_wrong f_open f_lines f_acts : Int32} {Q : Int32 → Int32 → Int32 → Int32 → Int32 → Int32 → Prop}  (hC : Cx p s m args meth c cX11_advance none 4 GW RX11) (hK : va_K (dC, dI) vwCl (tysA cI cZ cO cW) s) (hA : ∀ q : Nat, s.heap.size ≤ q → A q) :
    ∀ (n : Nat) (f_size : Int32) (f_next : Int32) (f_where : Int32) (f_token : Int32) (f_number : Int32) (f_sign : Int32) (f_word : Int32) (r_all : (Nat → Int32)) (H : Heap) (locs : List Loc) (ls : Array Slot), wX11_advance_198 Q  n f_size f_next f_where f_token f_number f_sign f_word r_all → va_P (dC, dI) vwCl (vX11_advance cI cZ h h_all h_has h_line h_act h_pile h_comes h_leaves h_tried h_met f_wrong f_open f_lines f_acts f_size f_next f_where f_token f_number f_sign f_word r_all) H → va_D A (vX11_advance cI cZ h h_all h_has h_line h_act h_pile h_comes h_leaves h_tried h_met f_wrong f_open f_lines f_acts f_size f_next f_where f_token f_number f_sign f_word r_all) → va_S A s.heap H locs → lv_has ls 4 [(0, .ref h)] → W p l e rmX11_advance s m args below meth c H locs 0 0 (MQ below (qX11_advance dC dI cI cZ cO cW h h_all h_has h_line h_act h_pile h_comes h_leaves h_tried h_met f_wrong f_open f_lines f_acts f_size r_all Q A) args s 0 0 A) (F0 m 198 ls []) := by
  obtain ⟨hx, hb, hr, hml, hown, hts, hlocks⟩ := id hC
  intro n
  induction n with
  | zero =>
    intro  f_size f_next f_where f_token f_number f_sign f_word r_all H locs ls hw
    exact hw.elim
  | succ n ih =>
    intro  f_size f_next f_where f_token f_number f_sign f_word r_all H locs ls hw hP hD hS hl
    refine lv_aload_n hx hb dX11_advance_198 rfl (lv_at hl 0 rfl) ?_
    refine lv_aload_n hx hb dX11_advance_199 rfl (lv_at hl 0 rfl) ?_
    refine va_get (D := (dC, dI)) (ci := 10) (v := .int f_next) (C := RX11) (T := TX11) (N := 20) hx hb hts gu_X11 hown hK hP 0 rfl rfl 3 (by decide) (hts _ gw_683) (fun _ h9 => h9) rfl dX11_advance_200 ?_
    have hPc := hP.sub (ws' := [(h, .inr (10, [.ref h_all, .ref h_has, .int f_size, .int f_next, .int f_where, .int f_token, .int f_number, .int f_sign, .int f_word, .int f_wrong, .int f_open, .int f_lines, .int f_acts, .ref h_line, .ref h_act, .ref h_pile, .ref h_comes, .ref h_leaves, .ref h_tried, .ref h_met])), (h_all, .inl (cI, 53700, .inl r_all))]) [0, 1] rfl
    have hDc := hD.sub (ws' := [(h, .inr (10, [.ref h_all, .ref h_has, .int f_size, .int f_next, .int f_where, .int f_token, .int f_number, .int f_sign, .int f_word, .int f_wrong, .int f_open, .int f_lines, .int f_acts, .ref h_line, .ref h_act, .ref h_pile, .ref h_comes, .ref h_leaves, .ref h_tried, .ref h_met])), (h_all, .inl (cI, 53700, .inl r_all))]) [0, 1] (by decide) rfl
    have hFc := va_free (wc := [(h, .inr (10, [.ref h_all, .ref h_has, .int f_size, .int f_next, .int f_where, .int f_token, .int f_number, .int f_sign, .int f_word, .int f_wrong, .int f_open, .int f_lines, .int f_acts, .ref h_line, .ref h_act, .ref h_pile, .ref h_comes, .ref h_leaves, .ref h_tried, .ref h_met])), (h_all, .inl (cI, 53700, .inl r_all))]) hD hS hA [0, 1] rfl
    refine va_calli (va_runV (As := [.int f_next]) (rest := []) ⟨hx, hb, hml, hown, hts⟩ (kX11_byteAt l dC dI cI cZ cO cW h h_all h_has h_line h_act h_pile h_comes h_leaves h_tried h_met H.size f_next f_where f_token f_number f_sign f_word f_wrong f_open f_lines f_acts f_size r_all f_next _ hw) (cwV 1 hts (gV gw_689 gw_690 gw_691 gw_622 (gM gw_662)) rfl rfl rfl (by decide +kernel) ⟨Nat.le_of_ble_eq_true rfl, Nat.le_of_ble_eq_true rfl⟩) (pv_of hPc hK hDc (va_recv hK hPc (ci := 10) (q0 := 0) rfl rfl)) rfl rfl hl.1 rfl (lv_room (Nat.le_of_ble_eq_true rfl)) dX11_advance_203 ⟨Nat.zero_le _, Nat.zero_le _⟩) hS (fun q _ h => hFc q h) hFc (fun r_9 u t H locs ht hvm hw hB hz1 hk1 hS => ?_)
    obtain ⟨hP, hD⟩ := af_join (wr := []) (w1 := [(h, .inr (10, [.ref h_all, .ref h_has, .int f_size, .int f_next, .int f_where, .int f_token, .int f_number, .int f_sign, .int f_word, .int f_wrong, .int f_open, .int f_lines, .int f_acts, .ref h_line, .ref h_act, .ref h_pile, .ref h_comes, .ref h_leaves, .ref h_tried, .ref h_met])), (h_all, .inl (cI, 53700, .inl r_all))]) hB ht hP hD [0, 1] [] rfl rfl (by decide) (by decide) hk1 hFc
    have hP : va_P (dC, dI) vwCl [(h, .inr (10, [.ref h_all, .ref h_has, .int f_size, .int f_next, .int f_where, .int f_token, .int f_number, .int f_sign, .int f_word, .int f_wrong, .int f_open, .int f_lines, .int f_acts, .ref h_line, .ref h_act, .ref h_pile, .ref h_comes, .ref h_leaves, .ref h_tried, .ref h_met])), (h_all, .inl (cI, 53700, .inl r_all))] _ := hP
    have hD : va_D A [(h, .inr (10, [.ref h_all, .ref h_has, .int f_size, .int f_next, .int f_where, .int f_token, .int f_number, .int f_sign, .int f_word, .int f_wrong, .int f_open, .int f_lines, .int f_acts, .ref h_line, .ref h_act, .ref h_pile, .ref h_comes, .ref h_leaves, .ref h_tried, .ref h_met])), (h_all, .inl (cI, 53700, .inl r_all))] := hD
    have hPc := hP.sub (ws' := []) [] rfl
    have hDc := hD.sub (ws' := []) [] (by decide) rfl
    have hFc := va_free (wc := []) hD hS hA [] rfl
    refine va_calli (va_runS (As := [.int r_9]) (rest := []) ⟨hx, hb, hml, hown, hts⟩ (kX11_isDigit l dC dI cI cZ cO cW H.size r_9 _ hw) (va_cwS 1 hts (gS gw_696 gw_697 gw_622 (gM gw_665)) rfl rfl rfl (by decide +kernel) ⟨Nat.le_of_ble_eq_true rfl, Nat.le_of_ble_eq_true rfl⟩) (ps_of hPc hK hDc) rfl rfl hl.1 rfl (lv_room (Nat.le_of_ble_eq_true rfl)) dX11_advance_206 ⟨Nat.zero_le _, Nat.zero_le _⟩) hS (fun q _ h => hFc q h) hFc (fun r_10 u t H locs ht hvm hw hB hz1 hk1 hS => ?_)
    obtain ⟨hP, hD⟩ := af_join (wr := [(h, .inr (10, [.ref h_all, .ref h_has, .int f_size, .int f_next, .int f_where, .int f_token, .int f_number, .int f_sign, .int f_word, .int f_wrong, .int f_open, .int f_lines, .int f_acts, .ref h_line, .ref h_act, .ref h_pile, .ref h_comes, .ref h_leaves, .ref h_tried, .ref h_met])), (h_all, .inl (cI, 53700, .inl r_all))]) (w1 := []) hB ht hP hD [] [0, 1] rfl rfl (by decide) (by decide) hk1 hFc
    have hP : va_P (dC, dI) vwCl [(h, .inr (10, [.ref h_all, .ref h_has, .int f_size, .int f_next, .int f_where, .int f_token, .int f_number, .int f_sign, .int f_word, .int f_wrong, .int f_open, .int f_lines, .int f_acts, .ref h_line, .ref h_act, .ref h_pile, .ref h_comes, .ref h_leaves, .ref h_tried, .ref h_met])), (h_all, .inl (cI, 53700, .inl r_all))] _ := hP
    have hD : va_D A [(h, .inr (10, [.ref h_all, .ref h_has, .int f_size, .int f_next, .int f_where, .int f_token, .int f_number, .int f_sign, .int f_word, .int f_wrong, .int f_open, .int f_lines, .int f_acts, .ref h_line, .ref h_act, .ref h_pile, .ref h_comes, .ref h_leaves, .ref h_tried, .ref h_met])), (h_all, .inl (cI, 53700, .inl r_all))] := hD
    refine lv_if_eq (tgt := 261) hx hb dX11_advance_209 (by decide) (fun c_11 => ?_) (fun c_11 => ?_)
    · have hw := hw.1 c_11
      refine lv_aload_n hx hb dX11_advance_261 rfl (lv_at hl 0 rfl) ?_
      refine lv_aload_n hx hb dX11_advance_262 rfl (lv_at hl 0 rfl) ?_
      refine va_get (D := (dC, dI)) (ci := 10) (v := .int f_next) (C := RX11) (T := TX11) (N := 20) hx hb hts gu_X11 hown hK hP 0 rfl rfl 3 (by decide) (hts _ gw_683) (fun _ h9 => h9) rfl dX11_advance_263 ?_
      refine lv_aload_n hx hb dX11_advance_266 rfl (lv_at hl 0 rfl) ?_
      refine va_get (D := (dC, dI)) (ci := 10) (v := .int f_where) (C := RX11) (T := TX11) (N := 20) hx hb hts gu_X11 hown hK hP 0 rfl rfl 4 (by decide) (hts _ gw_684) (fun _ h9 => h9) rfl dX11_advance_267 ?_
      refine lv_isub hx hb dX11_advance_270 ?_
      refine lv_iconst (v := (4 : Int32)) hx hb dX11_advance_271 (by decide) ?_
      refine lv_icmp_le (tgt := 279) hx hb dX11_advance_272 (by decide) (fun c_12 => ?_) (fun c_12 => ?_)
      · have hw := hw.1 c_12
        refine lv_iconst (v := (1 : Int32)) hx hb dX11_advance_279 (by decide) ?_
        exact tX11_advance_280 hC hK hA  (1 : Int32) f_size f_next f_where f_token f_number f_sign f_word r_all _ _ ls hw (hP.sub [0, 1] rfl) (hD.sub [0, 1] (by decide) rfl) hS (lv_sub hl [] rfl)
      · have hw := hw.2 c_12
        refine lv_iconst (v := (4 : Int32)) hx hb dX11_advance_275 (by decide) ?_
        refine lv_goto (tgt := 280) hx hb dX11_advance_276 (by decide) ?_
        exact tX11_advance_280 hC hK hA  (4 : Int32) f_size f_next f_where f_token f_number f_sign f_word r_all _ _ ls hw (hP.sub [0, 1] rfl) (hD.sub [0, 1] (by decide) rfl) hS (lv_sub hl [] rfl)
    · have hw := hw.2 c_11
      refine lv_aload_n hx hb dX11_advance_212 rfl (lv_at hl 0 rfl) ?_
      refine va_get (D := (dC, dI)) (ci := 10) (v := .int f_next) (C := RX11) (T := TX11) (N := 20) hx hb hts gu_X11 hown hK hP 0 rfl rfl 3 (by decide) (hts _ gw_683) (fun _ h9 => h9) rfl dX11_advance_213 ?_
      refine lv_aload_n hx hb dX11_advance_216 rfl (lv_at hl 0 rfl) ?_
      refine va_get (D := (dC, dI)) (ci := 10) (v := .int f_where) (C := RX11) (T := TX11) (N := 20) hx hb hts gu_X11 hown hK hP 0 rfl rfl 4 (by decide) (hts _ gw_684) (fun _ h9 => h9) rfl dX11_advance_217 ?_
      refine lv_isub hx hb dX11_advance_220 ?_
      refine lv_iconst (v := (4 : Int32)) hx hb dX11_advance_221 (by decide) ?_
      refine lv_icmp_ge (tgt := 248) hx hb dX11_advance_222 (by decide) (fun c_13 => ?_) (fun c_13 => ?_)
      · have hw := hw.1 c_13
        exact tX11_advance_248 hC hK hA ih f_size f_next f_where f_token f_number f_sign f_word r_all _ _ ls hw (hP.sub [0, 1] rfl) (hD.sub [0, 1] (by decide) rfl) hS (lv_sub hl [0] rfl)
      · have hw := hw.2 c_13
        refine lv_aload_n hx hb dX11_advance_225 rfl (lv_at hl 0 rfl) ?_
        refine lv_bipush (v := (10 : Int32)) hx hb dX11_advance_226 (by decide) ?_
        refine lv_aload_n hx hb dX11_advance_228 rfl (lv_at hl 0 rfl) ?_
        refine va_get (D := (dC, dI)) (ci := 10) (v := .int f_number) (C := RX11) (T := TX11) (N := 20) hx hb hts gu_X11 hown hK hP 0 rfl rfl 6 (by decide) (hts _ gw_687) (fun _ h9 => h9) rfl dX11_advance_229 ?_
        refine lv_imul hx hb dX11_advance_232 ?_
        refine lv_aload_n hx hb dX11_advance_233 rfl (lv_at hl 0 rfl) ?_
        refine lv_aload_n hx hb dX11_advance_234 rfl (lv_at hl 0 rfl) ?_
        refine va_get (D := (dC, dI)) (ci := 10) (v := .int f_next) (C := RX11) (T := TX11) (N := 20) hx hb hts gu_X11 hown hK hP 0 rfl rfl 3 (by decide) (hts _ gw_683) (fun _ h9 => h9) rfl dX11_advance_235 ?_
        have hPc := hP.sub (ws' := [(h, .inr (10, [.ref h_all, .ref h_has, .int f_size, .int f_next, .int f_where, .int f_token, .int f_number, .int f_sign, .int f_word, .int f_wrong, .int f_open, .int f_lines, .int f_acts, .ref h_line, .ref h_act, .ref h_pile, .ref h_comes, .ref h_leaves, .ref h_tried, .ref h_met])), (h_all, .inl (cI, 53700, .inl r_all))]) [0, 1] rfl
        have hDc := hD.sub (ws' := [(h, .inr (10, [.ref h_all, .ref h_has, .int f_size, .int f_next, .int f_where, .int f_token, .int f_number, .int f_sign, .int f_word, .int f_wrong, .int f_open, .int f_lines, .int f_acts, .ref h_line, .ref h_act, .ref h_pile, .ref h_comes, .ref h_leaves, .ref h_tried, .ref h_met])), (h_all, .inl (cI, 53700, .inl r_all))]) [0, 1] (by decide) rfl
        have hFc := va_free (wc := [(h, .inr (10, [.ref h_all, .ref h_has, .int f_size, .int f_next, .int f_where, .int f_token, .int f_number, .int f_sign, .int f_word, .int f_wrong, .int f_open, .int f_lines, .int f_acts, .ref h_line, .ref h_act, .ref h_pile, .ref h_comes, .ref h_leaves, .ref h_tried, .ref h_met])), (h_all, .inl (cI, 53700, .inl r_all))]) hD hS hA [0, 1] rfl
        refine va_calli (va_runV (As := [.int f_next]) (rest := [.int ((10 : Int32) * f_number), .ref h]) ⟨hx, hb, hml, hown, hts⟩ (kX11_byteAt l dC dI cI cZ cO cW h h_all h_has h_line h_act h_pile h_comes h_leaves h_tried h_met H.size f_next f_where f_token f_number f_sign f_word f_wrong f_open f_lines f_acts f_size r_all f_next _ hw) (cwV 1 hts (gV gw_689 gw_690 gw_691 gw_622 (gM gw_662)) rfl rfl rfl (by decide +kernel) ⟨Nat.le_of_ble_eq_true rfl, Nat.le_of_ble_eq_true rfl⟩) (pv_of hPc hK hDc (va_recv hK hPc (ci := 10) (q0 := 0) rfl rfl)) rfl rfl hl.1 rfl (lv_room (Nat.le_of_ble_eq_true rfl)) dX11_advance_238 ⟨Nat.zero_le _, Nat.zero_le _⟩) hS (fun q _ h => hFc q h) hFc (fun r_14 u t H locs ht hvm hw hB hz1 hk1 hS => ?_)
        obtain ⟨hP, hD⟩ := af_join (wr := []) (w1 := [(h, .inr (10, [.ref h_all, .ref h_has, .int f_size, .int f_next, .int f_where, .int f_token, .int f_number, .int f_sign, .int f_word, .int f_wrong, .int f_open, .int f_lines, .int f_acts, .ref h_line, .ref h_act, .ref h_pile, .ref h_comes, .ref h_leaves, .ref h_tried, .ref h_met])), (h_all, .inl (cI, 53700, .inl r_all))]) hB ht hP hD [0, 1] [] rfl rfl (by decide) (by decide) hk1 hFc
        have hP : va_P (dC, dI) vwCl [(h, .inr (10, [.ref h_all, .ref h_has, .int f_size, .int f_next, .int f_where, .int f_token, .int f_number, .int f_sign, .int f_word, .int f_wrong, .int f_open, .int f_lines, .int f_acts, .ref h_line, .ref h_act, .ref h_pile, .ref h_comes, .ref h_leaves, .ref h_tried, .ref h_met])), (h_all, .inl (cI, 53700, .inl r_all))] _ := hP
        have hD : va_D A [(h, .inr (10, [.ref h_all, .ref h_has, .int f_size, .int f_next, .int f_where, .int f_token, .int f_number, .int f_sign, .int f_word, .int f_wrong, .int f_open, .int f_lines, .int f_acts, .ref h_line, .ref h_act, .ref h_pile, .ref h_comes, .ref h_leaves, .ref h_tried, .ref h_met])), (h_all, .inl (cI, 53700, .inl r_all))] := hD
        refine lv_iadd hx hb dX11_advance_241 ?_
        refine lv_bipush (v := (48 : Int32)) hx hb dX11_advance_242 (by decide) ?_
        refine lv_isub hx hb dX11_advance_244 ?_
        refine va_put (D := (dC, dI)) (ci := 10) (v := .int ((((10 : Int32) * f_number) + r_14) - (48 : Int32))) (ty := .int) (C := RX11) (T := TX11) (N := 20) hx hb hts gu_X11 tyX11 tyX11_ok nmX11 hown hK hP hD hS 0 rfl rfl 6 (by decide) (hts _ gw_687) (fun _ h9 => h9) rfl (tyX11_ok 6 (by decide)) rfl rfl (Nat.le_of_ble_eq_true rfl) dX11_advance_245 (fun H locs hP hD hS => ?_)
        have hP : va_P (dC, dI) vwCl [(h, .inr (10, [.ref h_all, .ref h_has, .int f_size, .int f_next, .int f_where, .int f_token, .int ((((10 : Int32) * f_number) + r_14) - (48 : Int32)), .int f_sign, .int f_word, .int f_wrong, .int f_open, .int f_lines, .int f_acts, .ref h_line, .ref h_act, .ref h_pile, .ref h_comes, .ref h_leaves, .ref h_tried, .ref h_met])), (h_all, .inl (cI, 53700, .inl r_all))] _ := hP
        have hD : va_D A [(h, .inr (10, [.ref h_all, .ref h_has, .int f_size, .int f_next, .int f_where, .int f_token, .int ((((10 : Int32) * f_number) + r_14) - (48 : Int32)), .int f_sign, .int f_word, .int f_wrong, .int f_open, .int f_lines, .int f_acts, .ref h_line, .ref h_act, .ref h_pile, .ref h_comes, .ref h_leaves, .ref h_tried, .ref h_met])), (h_all, .inl (cI, 53700, .inl r_all))] := hD
        exact tX11_advance_248 hC hK hA ih f_size f_next f_where f_token ((((10 : Int32) * f_number) + r_14) - (48 : Int32)) f_sign f_word r_all _ _ ls hw (hP.sub [0, 1] rfl) (hD.sub [0, 1] (by decide) rfl) hS (lv_sub hl [0] rfl)
set_option maxHeartbeats 4000000 in
set_option maxRecDepth 100000 in
theorem tX11_advance_314 {p : Program} {l : Launch} {e : Env} {s : State} {m : MethodId} {args : Array Value} {below : List Frame} {meth : Method} {c : Code} {dC : Nat → ClassId} {dI : Nat → Nat → Nat} {cI cZ cO cW : ClassId} {A : Nat → Prop} {h h_all h_has h_line h_act h_pile h_comes h_leaves h_tried h_met : Nat} {f_wrong f_open f_lines f_acts : Int32} {Q : Int32 → Int32 → Int32 → Int32 → Int32 → Int32 → Prop}  (hC : Cx p s m args meth c cX11_advance none 4 GW RX11) (hK : va_K (dC, dI) vwCl (tysA cI cZ cO cW) s) (hA : ∀ q : Nat, s.heap.size ≤ q → A q) :
    ∀ (s1 : Int32) (f_size : Int32) (f_next : Int32) (f_where : Int32) (f_token : Int32) (f_number : Int32) (f_sign : Int32) (f_word : Int32) (r_all : (Nat → Int32)) (H : Heap) (locs : List Loc) (ls : Array Slot), wX11_advance_314 Q  s1 f_size f_next f_where f_token f_number f_sign f_word r_all → va_P (dC, dI) vwCl (vX11_advance cI cZ h h_all h_has h_line h_act h_pile h_comes h_leaves h_tried h_met f_wrong f_open f_lines f_acts f_size f_next f_where f_token f_number f_sign f_word r_all) H → va_D A (vX11_advance cI cZ h h_all h_has h_line h_act h_pile h_comes h_leaves h_tried h_met f_wrong f_open f_lines f_acts f_size f_next f_where f_token f_number f_sign f_word r_all) → va_S A s.heap H locs → lv_has ls 4 [] → W p l e rmX11_advance s m args below meth c H locs 0 0 (MQ below (qX11_advance dC dI cI cZ cO cW h h_all h_has h_line h_act h_pile h_comes h_leaves h_tried h_met f_wrong f_open f_lines f_acts f_size r_all Q A) args s 0 0 A) (F0 m 314 ls [.int s1, .ref h]) := by
  obtain ⟨hx, hb, hr, hml, hown, hts, hlocks⟩ := id hC
  intro s1 f_size f_next f_where f_token f_number f_sign f_word r_all H locs ls hw hP hD hS hl
  refine va_put (D := (dC, dI)) (ci := 10) (v := .int s1) (ty := .int) (C := RX11) (T := TX11) (N := 20) hx hb hts gu_X11 tyX11 tyX11_ok nmX11 hown hK hP hD hS 0 rfl rfl 5 (by decide) (hts _ gw_685) (fun _ h9 => h9) rfl (tyX11_ok 5 (by decide)) rfl rfl (Nat.le_of_ble_eq_true rfl) dX11_advance_314 (fun H locs hP hD hS => ?_)
  have hP : va_P (dC, dI) vwCl [(h, .inr (10, [.ref h_all, .ref h_has, .int f_size, .int f_next, .int f_where, .int s1, .int f_number, .int f_sign, .int f_word, .int f_wrong, .int f_open, .int f_lines, .int f_acts, .ref h_line, .ref h_act, .ref h_pile, .ref h_comes, .ref h_leaves, .ref h_tried, .ref h_met])), (h_all, .inl (cI, 53700, .inl r_all))] _ := hP
  have hD : va_D A [(h, .inr (10, [.ref h_all, .ref h_has, .int f_size, .int f_next, .int f_where, .int s1, .int f_number, .int f_sign, .int f_word, .int f_wrong, .int f_open, .int f_lines, .int f_acts, .ref h_line, .ref h_act, .ref h_pile, .ref h_comes, .ref h_leaves, .ref h_tried, .ref h_met])), (h_all, .inl (cI, 53700, .inl r_all))] := hD
  have hP9 := hP.sub (ws' := (vX11_advance cI cZ h h_all h_has h_line h_act h_pile h_comes h_leaves h_tried h_met f_wrong f_open f_lines f_acts f_size f_next f_where s1 f_number f_sign f_word r_all)) [0, 1] rfl
  have hD9 := hD.sub (ws' := (vX11_advance cI cZ h h_all h_has h_line h_act h_pile h_comes h_leaves h_tried h_met f_wrong f_open f_lines f_acts f_size f_next f_where s1 f_number f_sign f_word r_all)) [0, 1] (by decide) rfl
  exact W.vret hx hb hr (fun t ht hW => ⟨⟨(f_next, f_where, s1, f_number, f_sign, f_word), rfl, hw, by rw [ht]; exact hP9, va_K.moved hW.alike hK, hD9⟩, hS.F ht⟩) hS.2.2 dX11_advance_317
set_option maxHeartbeats 4000000 in
set_option maxRecDepth 100000 in
theorem tX11_advance_0 {p : Program} {l : Launch} {e : Env} {s : State} {m : MethodId} {args : Array Value} {below : List Frame} {meth : Method} {c : Code} {dC : Nat → ClassId} {dI : Nat → Nat → Nat} {cI cZ cO cW : ClassId} {A : Nat → Prop} {h h_all h_has h_line h_act h_pile h_comes h_leaves h_tried h_met : Nat} {f_wrong f_open f_lines f_acts : Int32} {Q : Int32 → Int32 → Int32 → Int32 → Int32 → Int32 → Prop}  (hC : Cx p s m args meth c cX11_advance none 4 GW RX11) (hK : va_K (dC, dI) vwCl (tysA cI cZ cO cW) s) (hA : ∀ q : Nat, s.heap.size ≤ q → A q) :
    ∀ (n : Nat) (f_size : Int32) (f_next : Int32) (f_where : Int32) (f_token : Int32) (f_number : Int32) (f_sign : Int32) (f_word : Int32) (r_all : (Nat → Int32)) (H : Heap) (locs : List Loc) (ls : Array Slot), wX11_advance_0 Q  n f_size f_next f_where f_token f_number f_sign f_word r_all → va_P (dC, dI) vwCl (vX11_advance cI cZ h h_all h_has h_line h_act h_pile h_comes h_leaves h_tried h_met f_wrong f_open f_lines f_acts f_size f_next f_where f_token f_number f_sign f_word r_all) H → va_D A (vX11_advance cI cZ h h_all h_has h_line h_act h_pile h_comes h_leaves h_tried h_met f_wrong f_open f_lines f_acts f_size f_next f_where f_token f_number f_sign f_word r_all) → va_S A s.heap H locs → lv_has ls 4 [(0, .ref h)] → W p l e rmX11_advance s m args below meth c H locs 0 0 (MQ below (qX11_advance dC dI cI cZ cO cW h h_all h_has h_line h_act h_pile h_comes h_leaves h_tried h_met f_wrong f_open f_lines f_acts f_size r_all Q A) args s 0 0 A) (F0 m 0 ls []) := by
  obtain ⟨hx, hb, hr, hml, hown, hts, hlocks⟩ := id hC
  intro n
  induction n with
  | zero =>
    intro  f_size f_next f_where f_token f_number f_sign f_word r_all H locs ls hw
    exact hw.elim
  | succ n ih =>
    intro  f_size f_next f_where f_token f_number f_sign f_word r_all H locs ls hw hP hD hS hl
    refine lv_aload_n hx hb dX11_advance_0 rfl (lv_at hl 0 rfl) ?_
    refine lv_aload_n hx hb dX11_advance_1 rfl (lv_at hl 0 rfl) ?_
    refine va_get (D := (dC, dI)) (ci := 10) (v := .int f_next) (C := RX11) (T := TX11) (N := 20) hx hb hts gu_X11 hown hK hP 0 rfl rfl 3 (by decide) (hts _ gw_683) (fun _ h9 => h9) rfl dX11_advance_2 ?_
    have hPc := hP.sub (ws' := [(h, .inr (10, [.ref h_all, .ref h_has, .int f_size, .int f_next, .int f_where, .int f_token, .int f_number, .int f_sign, .int f_word, .int f_wrong, .int f_open, .int f_lines, .int f_acts, .ref h_line, .ref h_act, .ref h_pile, .ref h_comes, .ref h_leaves, .ref h_tried, .ref h_met])), (h_all, .inl (cI, 53700, .inl r_all))]) [0, 1] rfl
    have hDc := hD.sub (ws' := [(h, .inr (10, [.ref h_all, .ref h_has, .int f_size, .int f_next, .int f_where, .int f_token, .int f_number, .int f_sign, .int f_word, .int f_wrong, .int f_open, .int f_lines, .int f_acts, .ref h_line, .ref h_act, .ref h_pile, .ref h_comes, .ref h_leaves, .ref h_tried, .ref h_met])), (h_all, .inl (cI, 53700, .inl r_all))]) [0, 1] (by decide) rfl
    have hFc := va_free (wc := [(h, .inr (10, [.ref h_all, .ref h_has, .int f_size, .int f_next, .int f_where, .int f_token, .int f_number, .int f_sign, .int f_word, .int f_wrong, .int f_open, .int f_lines, .int f_acts, .ref h_line, .ref h_act, .ref h_pile, .ref h_comes, .ref h_leaves, .ref h_tried, .ref h_met])), (h_all, .inl (cI, 53700, .inl r_all))]) hD hS hA [0, 1] rfl
    refine va_calli (va_runV (As := [.int f_next]) (rest := []) ⟨hx, hb, hml, hown, hts⟩ (kX11_byteAt l dC dI cI cZ cO cW h h_all h_has h_line h_act h_pile h_comes h_leaves h_tried h_met H.size f_next f_where f_token f_number f_sign f_word f_wrong f_open f_lines f_acts f_size r_all f_next _ hw) (cwV 1 hts (gV gw_689 gw_690 gw_691 gw_622 (gM gw_662)) rfl rfl rfl (by decide +kernel) ⟨Nat.le_of_ble_eq_true rfl, Nat.le_of_ble_eq_true rfl⟩) (pv_of hPc hK hDc (va_recv hK hPc (ci := 10) (q0 := 0) rfl rfl)) rfl rfl hl.1 rfl (lv_room (Nat.le_of_ble_eq_true rfl)) dX11_advance_5 ⟨Nat.zero_le _, Nat.zero_le _⟩) hS (fun q _ h => hFc q h) hFc (fun r_15 u t H locs ht hvm hw hB hz1 hk1 hS => ?_)
    obtain ⟨hP, hD⟩ := af_join (wr := []) (w1 := [(h, .inr (10, [.ref h_all, .ref h_has, .int f_size, .int f_next, .int f_where, .int f_token, .int f_number, .int f_sign, .int f_word, .int f_wrong, .int f_open, .int f_lines, .int f_acts, .ref h_line, .ref h_act, .ref h_pile, .ref h_comes, .ref h_leaves, .ref h_tried, .ref h_met])), (h_all, .inl (cI, 53700, .inl r_all))]) hB ht hP hD [0, 1] [] rfl rfl (by decide) (by decide) hk1 hFc
    have hP : va_P (dC, dI) vwCl [(h, .inr (10, [.ref h_all, .ref h_has, .int f_size, .int f_next, .int f_where, .int f_token, .int f_number, .int f_sign, .int f_word, .int f_wrong, .int f_open, .int f_lines, .int f_acts, .ref h_line, .ref h_act, .ref h_pile, .ref h_comes, .ref h_leaves, .ref h_tried, .ref h_met])), (h_all, .inl (cI, 53700, .inl r_all))] _ := hP
    have hD : va_D A [(h, .inr (10, [.ref h_all, .ref h_has, .int f_size, .int f_next, .int f_where, .int f_token, .int f_number, .int f_sign, .int f_word, .int f_wrong, .int f_open, .int f_lines, .int f_acts, .ref h_line, .ref h_act, .ref h_pile, .ref h_comes, .ref h_leaves, .ref h_tried, .ref h_met])), (h_all, .inl (cI, 53700, .inl r_all))] := hD
    refine lv_bipush (v := (10 : Int32)) hx hb dX11_advance_8 (by decide) ?_
    refine lv_icmp_eq (tgt := 26) hx hb dX11_advance_10 (by decide) (fun c_16 => ?_) (fun c_16 => ?_)
    · have hw := hw.1 c_16
      exact tX11_advance_26 hC hK hA ih f_size f_next f_where f_token f_number f_sign f_word r_all _ _ ls hw (hP.sub [0, 1] rfl) (hD.sub [0, 1] (by decide) rfl) hS (lv_sub hl [0] rfl)
    · have hw := hw.2 c_16
      refine lv_aload_n hx hb dX11_advance_13 rfl (lv_at hl 0 rfl) ?_
      refine lv_aload_n hx hb dX11_advance_14 rfl (lv_at hl 0 rfl) ?_
      refine va_get (D := (dC, dI)) (ci := 10) (v := .int f_next) (C := RX11) (T := TX11) (N := 20) hx hb hts gu_X11 hown hK hP 0 rfl rfl 3 (by decide) (hts _ gw_683) (fun _ h9 => h9) rfl dX11_advance_15 ?_
      have hPc := hP.sub (ws' := [(h, .inr (10, [.ref h_all, .ref h_has, .int f_size, .int f_next, .int f_where, .int f_token, .int f_number, .int f_sign, .int f_word, .int f_wrong, .int f_open, .int f_lines, .int f_acts, .ref h_line, .ref h_act, .ref h_pile, .ref h_comes, .ref h_leaves, .ref h_tried, .ref h_met])), (h_all, .inl (cI, 53700, .inl r_all))]) [0, 1] rfl
      have hDc := hD.sub (ws' := [(h, .inr (10, [.ref h_all, .ref h_has, .int f_size, .int f_next, .int f_where, .int f_token, .int f_number, .int f_sign, .int f_word, .int f_wrong, .int f_open, .int f_lines, .int f_acts, .ref h_line, .ref h_act, .ref h_pile, .ref h_comes, .ref h_leaves, .ref h_tried, .ref h_met])), (h_all, .inl (cI, 53700, .inl r_all))]) [0, 1] (by decide) rfl
      have hFc := va_free (wc := [(h, .inr (10, [.ref h_all, .ref h_has, .int f_size, .int f_next, .int f_where, .int f_token, .int f_number, .int f_sign, .int f_word, .int f_wrong, .int f_open, .int f_lines, .int f_acts, .ref h_line, .ref h_act, .ref h_pile, .ref h_comes, .ref h_leaves, .ref h_tried, .ref h_met])), (h_all, .inl (cI, 53700, .inl r_all))]) hD hS hA [0, 1] rfl
      refine va_calli (va_runV (As := [.int f_next]) (rest := []) ⟨hx, hb, hml, hown, hts⟩ (kX11_byteAt l dC dI cI cZ cO cW h h_all h_has h_line h_act h_pile h_comes h_leaves h_tried h_met H.size f_next f_where f_token f_number f_sign f_word f_wrong f_open f_lines f_acts f_size r_all f_next _ hw) (cwV 1 hts (gV gw_689 gw_690 gw_691 gw_622 (gM gw_662)) rfl rfl rfl (by decide +kernel) ⟨Nat.le_of_ble_eq_true rfl, Nat.le_of_ble_eq_true rfl⟩) (pv_of hPc hK hDc (va_recv hK hPc (ci := 10) (q0 := 0) rfl rfl)) rfl rfl hl.1 rfl (lv_room (Nat.le_of_ble_eq_true rfl)) dX11_advance_18 ⟨Nat.zero_le _, Nat.zero_le _⟩) hS (fun q _ h => hFc q h) hFc (fun r_17 u t H locs ht hvm hw hB hz1 hk1 hS => ?_)
      obtain ⟨hP, hD⟩ := af_join (wr := []) (w1 := [(h, .inr (10, [.ref h_all, .ref h_has, .int f_size, .int f_next, .int f_where, .int f_token, .int f_number, .int f_sign, .int f_word, .int f_wrong, .int f_open, .int f_lines, .int f_acts, .ref h_line, .ref h_act, .ref h_pile, .ref h_comes, .ref h_leaves, .ref h_tried, .ref h_met])), (h_all, .inl (cI, 53700, .inl r_all))]) hB ht hP hD [0, 1] [] rfl rfl (by decide) (by decide) hk1 hFc
      have hP : va_P (dC, dI) vwCl [(h, .inr (10, [.ref h_all, .ref h_has, .int f_size, .int f_next, .int f_where, .int f_token, .int f_number, .int f_sign, .int f_word, .int f_wrong, .int f_open, .int f_lines, .int f_acts, .ref h_line, .ref h_act, .ref h_pile, .ref h_comes, .ref h_leaves, .ref h_tried, .ref h_met])), (h_all, .inl (cI, 53700, .inl r_all))] _ := hP
      have hD : va_D A [(h, .inr (10, [.ref h_all, .ref h_has, .int f_size, .int f_next, .int f_where, .int f_token, .int f_number, .int f_sign, .int f_word, .int f_wrong, .int f_open, .int f_lines, .int f_acts, .ref h_line, .ref h_act, .ref h_pile, .ref h_comes, .ref h_leaves, .ref h_tried, .ref h_met])), (h_all, .inl (cI, 53700, .inl r_all))] := hD
      refine lv_bipush (v := (32 : Int32)) hx hb dX11_advance_21 (by decide) ?_
      refine lv_icmp_ne (tgt := 39) hx hb dX11_advance_23 (by decide) (fun c_18 => ?_) (fun c_18 => ?_)
      · have hw := hw.1 c_18
        refine lv_aload_n hx hb dX11_advance_39 rfl (lv_at hl 0 rfl) ?_
        refine lv_aload_n hx hb dX11_advance_40 rfl (lv_at hl 0 rfl) ?_
        refine va_get (D := (dC, dI)) (ci := 10) (v := .int f_next) (C := RX11) (T := TX11) (N := 20) hx hb hts gu_X11 hown hK hP 0 rfl rfl 3 (by decide) (hts _ gw_683) (fun _ h9 => h9) rfl dX11_advance_41 ?_
        refine va_put (D := (dC, dI)) (ci := 10) (v := .int f_next) (ty := .int) (C := RX11) (T := TX11) (N := 20) hx hb hts gu_X11 tyX11 tyX11_ok nmX11 hown hK hP hD hS 0 rfl rfl 4 (by decide) (hts _ gw_684) (fun _ h9 => h9) rfl (tyX11_ok 4 (by decide)) rfl rfl (Nat.le_of_ble_eq_true rfl) dX11_advance_44 (fun H locs hP hD hS => ?_)
        have hP : va_P (dC, dI) vwCl [(h, .inr (10, [.ref h_all, .ref h_has, .int f_size, .int f_next, .int f_next, .int f_token, .int f_number, .int f_sign, .int f_word, .int f_wrong, .int f_open, .int f_lines, .int f_acts, .ref h_line, .ref h_act, .ref h_pile, .ref h_comes, .ref h_leaves, .ref h_tried, .ref h_met])), (h_all, .inl (cI, 53700, .inl r_all))] _ := hP
        have hD : va_D A [(h, .inr (10, [.ref h_all, .ref h_has, .int f_size, .int f_next, .int f_next, .int f_token, .int f_number, .int f_sign, .int f_word, .int f_wrong, .int f_open, .int f_lines, .int f_acts, .ref h_line, .ref h_act, .ref h_pile, .ref h_comes, .ref h_leaves, .ref h_tried, .ref h_met])), (h_all, .inl (cI, 53700, .inl r_all))] := hD
        refine lv_aload_n hx hb dX11_advance_47 rfl (lv_at hl 0 rfl) ?_
        refine lv_aload_n hx hb dX11_advance_48 rfl (lv_at hl 0 rfl) ?_
        refine va_get (D := (dC, dI)) (ci := 10) (v := .int f_next) (C := RX11) (T := TX11) (N := 20) hx hb hts gu_X11 hown hK hP 0 rfl rfl 3 (by decide) (hts _ gw_683) (fun _ h9 => h9) rfl dX11_advance_49 ?_
        have hPc := hP.sub (ws' := [(h, .inr (10, [.ref h_all, .ref h_has, .int f_size, .int f_next, .int f_next, .int f_token, .int f_number, .int f_sign, .int f_word, .int f_wrong, .int f_open, .int f_lines, .int f_acts, .ref h_line, .ref h_act, .ref h_pile, .ref h_comes, .ref h_leaves, .ref h_tried, .ref h_met])), (h_all, .inl (cI, 53700, .inl r_all))]) [0, 1] rfl
        have hDc := hD.sub (ws' := [(h, .inr (10, [.ref h_all, .ref h_has, .int f_size, .int f_next, .int f_next, .int f_token, .int f_number, .int f_sign, .int f_word, .int f_wrong, .int f_open, .int f_lines, .int f_acts, .ref h_line, .ref h_act, .ref h_pile, .ref h_comes, .ref h_leaves, .ref h_tried, .ref h_met])), (h_all, .inl (cI, 53700, .inl r_all))]) [0, 1] (by decide) rfl
        have hFc := va_free (wc := [(h, .inr (10, [.ref h_all, .ref h_has, .int f_size, .int f_next, .int f_next, .int f_token, .int f_number, .int f_sign, .int f_word, .int f_wrong, .int f_open, .int f_lines, .int f_acts, .ref h_line, .ref h_act, .ref h_pile, .ref h_comes, .ref h_leaves, .ref h_tried, .ref h_met])), (h_all, .inl (cI, 53700, .inl r_all))]) hD hS hA [0, 1] rfl
        refine va_calli (va_runV (As := [.int f_next]) (rest := []) ⟨hx, hb, hml, hown, hts⟩ (kX11_byteAt l dC dI cI cZ cO cW h h_all h_has h_line h_act h_pile h_comes h_leaves h_tried h_met H.size f_next f_next f_token f_number f_sign f_word f_wrong f_open f_lines f_acts f_size r_all f_next _ hw) (cwV 1 hts (gV gw_689 gw_690 gw_691 gw_622 (gM gw_662)) rfl rfl rfl (by decide +kernel) ⟨Nat.le_of_ble_eq_true rfl, Nat.le_of_ble_eq_true rfl⟩) (pv_of hPc hK hDc (va_recv hK hPc (ci := 10) (q0 := 0) rfl rfl)) rfl rfl hl.1 rfl (lv_room (Nat.le_of_ble_eq_true rfl)) dX11_advance_52 ⟨Nat.zero_le _, Nat.zero_le _⟩) hS (fun q _ h => hFc q h) hFc (fun r_19 u t H locs ht hvm hw hB hz1 hk1 hS => ?_)
        obtain ⟨hP, hD⟩ := af_join (wr := []) (w1 := [(h, .inr (10, [.ref h_all, .ref h_has, .int f_size, .int f_next, .int f_next, .int f_token, .int f_number, .int f_sign, .int f_word, .int f_wrong, .int f_open, .int f_lines, .int f_acts, .ref h_line, .ref h_act, .ref h_pile, .ref h_comes, .ref h_leaves, .ref h_tried, .ref h_met])), (h_all, .inl (cI, 53700, .inl r_all))]) hB ht hP hD [0, 1] [] rfl rfl (by decide) (by decide) hk1 hFc
        have hP : va_P (dC, dI) vwCl [(h, .inr (10, [.ref h_all, .ref h_has, .int f_size, .int f_next, .int f_next, .int f_token, .int f_number, .int f_sign, .int f_word, .int f_wrong, .int f_open, .int f_lines, .int f_acts, .ref h_line, .ref h_act, .ref h_pile, .ref h_comes, .ref h_leaves, .ref h_tried, .ref h_met])), (h_all, .inl (cI, 53700, .inl r_all))] _ := hP
        have hD : va_D A [(h, .inr (10, [.ref h_all, .ref h_has, .int f_size, .int f_next, .int f_next, .int f_token, .int f_number, .int f_sign, .int f_word, .int f_wrong, .int f_open, .int f_lines, .int f_acts, .ref h_line, .ref h_act, .ref h_pile, .ref h_comes, .ref h_leaves, .ref h_tried, .ref h_met])), (h_all, .inl (cI, 53700, .inl r_all))] := hD
        refine lv_istore_n (lv' := [(1, .int r_19), (0, .ref h)]) hx hb dX11_advance_55 rfl hl (by decide) rfl (fun ls hl => ?_)
        refine lv_iload_n hx hb dX11_advance_56 rfl (lv_at hl 0 rfl) ?_
        refine lv_if_ge (tgt := 68) hx hb dX11_advance_57 (by decide) (fun c_20 => ?_) (fun c_20 => ?_)
        · have hw := hw.1 c_20
          refine lv_iload_n hx hb dX11_advance_68 rfl (lv_at hl 0 rfl) ?_
          have hPc := hP.sub (ws' := []) [] rfl
          have hDc := hD.sub (ws' := []) [] (by decide) rfl
          have hFc := va_free (wc := []) hD hS hA [] rfl
          refine va_calli (va_runS (As := [.int r_19]) (rest := []) ⟨hx, hb, hml, hown, hts⟩ (kX11_isLetter l dC dI cI cZ cO cW H.size r_19 _ hw) (va_cwS 1 hts (gS gw_692 gw_693 gw_622 (gM gw_664)) rfl rfl rfl (by decide +kernel) ⟨Nat.le_of_ble_eq_true rfl, Nat.le_of_ble_eq_true rfl⟩) (ps_of hPc hK hDc) rfl rfl hl.1 rfl (lv_room (Nat.le_of_ble_eq_true rfl)) dX11_advance_69 ⟨Nat.zero_le _, Nat.zero_le _⟩) hS (fun q _ h => hFc q h) hFc (fun r_21 u t H locs ht hvm hw hB hz1 hk1 hS => ?_)
          obtain ⟨hP, hD⟩ := af_join (wr := [(h, .inr (10, [.ref h_all, .ref h_has, .int f_size, .int f_next, .int f_next, .int f_token, .int f_number, .int f_sign, .int f_word, .int f_wrong, .int f_open, .int f_lines, .int f_acts, .ref h_line, .ref h_act, .ref h_pile, .ref h_comes, .ref h_leaves, .ref h_tried, .ref h_met])), (h_all, .inl (cI, 53700, .inl r_all))]) (w1 := []) hB ht hP hD [] [0, 1] rfl rfl (by decide) (by decide) hk1 hFc
          have hP : va_P (dC, dI) vwCl [(h, .inr (10, [.ref h_all, .ref h_has, .int f_size, .int f_next, .int f_next, .int f_token, .int f_number, .int f_sign, .int f_word, .int f_wrong, .int f_open, .int f_lines, .int f_acts, .ref h_line, .ref h_act, .ref h_pile, .ref h_comes, .ref h_leaves, .ref h_tried, .ref h_met])), (h_all, .inl (cI, 53700, .inl r_all))] _ := hP
          have hD : va_D A [(h, .inr (10, [.ref h_all, .ref h_has, .int f_size, .int f_next, .int f_next, .int f_token, .int f_number, .int f_sign, .int f_word, .int f_wrong, .int f_open, .int f_lines, .int f_acts, .ref h_line, .ref h_act, .ref h_pile, .ref h_comes, .ref h_leaves, .ref h_tried, .ref h_met])), (h_all, .inl (cI, 53700, .inl r_all))] := hD
          refine lv_if_eq (tgt := 186) hx hb dX11_advance_72 (by decide) (fun c_22 => ?_) (fun c_22 => ?_)
          · have hw := hw.1 c_22
            refine lv_iload_n hx hb dX11_advance_186 rfl (lv_at hl 0 rfl) ?_
            have hPc := hP.sub (ws' := []) [] rfl
            have hDc := hD.sub (ws' := []) [] (by decide) rfl
            have hFc := va_free (wc := []) hD hS hA [] rfl
            refine va_calli (va_runS (As := [.int r_19]) (rest := []) ⟨hx, hb, hml, hown, hts⟩ (kX11_isDigit l dC dI cI cZ cO cW H.size r_19 _ hw) (va_cwS 1 hts (gS gw_696 gw_697 gw_622 (gM gw_665)) rfl rfl rfl (by decide +kernel) ⟨Nat.le_of_ble_eq_true rfl, Nat.le_of_ble_eq_true rfl⟩) (ps_of hPc hK hDc) rfl rfl hl.1 rfl (lv_room (Nat.le_of_ble_eq_true rfl)) dX11_advance_187 ⟨Nat.zero_le _, Nat.zero_le _⟩) hS (fun q _ h => hFc q h) hFc (fun r_23 u t H locs ht hvm hw hB hz1 hk1 hS => ?_)
            obtain ⟨hP, hD⟩ := af_join (wr := [(h, .inr (10, [.ref h_all, .ref h_has, .int f_size, .int f_next, .int f_next, .int f_token, .int f_number, .int f_sign, .int f_word, .int f_wrong, .int f_open, .int f_lines, .int f_acts, .ref h_line, .ref h_act, .ref h_pile, .ref h_comes, .ref h_leaves, .ref h_tried, .ref h_met])), (h_all, .inl (cI, 53700, .inl r_all))]) (w1 := []) hB ht hP hD [] [0, 1] rfl rfl (by decide) (by decide) hk1 hFc
            have hP : va_P (dC, dI) vwCl [(h, .inr (10, [.ref h_all, .ref h_has, .int f_size, .int f_next, .int f_next, .int f_token, .int f_number, .int f_sign, .int f_word, .int f_wrong, .int f_open, .int f_lines, .int f_acts, .ref h_line, .ref h_act, .ref h_pile, .ref h_comes, .ref h_leaves, .ref h_tried, .ref h_met])), (h_all, .inl (cI, 53700, .inl r_all))] _ := hP
            have hD : va_D A [(h, .inr (10, [.ref h_all, .ref h_has, .int f_size, .int f_next, .int f_next, .int f_token, .int f_number, .int f_sign, .int f_word, .int f_wrong, .int f_open, .int f_lines, .int f_acts, .ref h_line, .ref h_act, .ref h_pile, .ref h_comes, .ref h_leaves, .ref h_tried, .ref h_met])), (h_all, .inl (cI, 53700, .inl r_all))] := hD
            refine lv_if_eq (tgt := 286) hx hb dX11_advance_190 (by decide) (fun c_24 => ?_) (fun c_24 => ?_)
            · have hw := hw.1 c_24
              refine lv_aload_n hx hb dX11_advance_286 rfl (lv_at hl 1 rfl) ?_
              refine lv_dup hx hb dX11_advance_287 rfl ?_
              refine va_get (D := (dC, dI)) (ci := 10) (v := .int f_next) (C := RX11) (T := TX11) (N := 20) hx hb hts gu_X11 hown hK hP 0 rfl rfl 3 (by decide) (hts _ gw_683) (fun _ h9 => h9) rfl dX11_advance_288 ?_
              refine lv_iconst (v := (1 : Int32)) hx hb dX11_advance_291 (by decide) ?_
              refine lv_iadd hx hb dX11_advance_292 ?_
              refine va_put (D := (dC, dI)) (ci := 10) (v := .int (f_next + (1 : Int32))) (ty := .int) (C := RX11) (T := TX11) (N := 20) hx hb hts gu_X11 tyX11 tyX11_ok nmX11 hown hK hP hD hS 0 rfl rfl 3 (by decide) (hts _ gw_683) (fun _ h9 => h9) rfl (tyX11_ok 3 (by decide)) rfl rfl (Nat.le_of_ble_eq_true rfl) dX11_advance_293 (fun H locs hP hD hS => ?_)
              have hP : va_P (dC, dI) vwCl [(h, .inr (10, [.ref h_all, .ref h_has, .int f_size, .int (f_next + (1 : Int32)), .int f_next, .int f_token, .int f_number, .int f_sign, .int f_word, .int f_wrong, .int f_open, .int f_lines, .int f_acts, .ref h_line, .ref h_act, .ref h_pile, .ref h_comes, .ref h_leaves, .ref h_tried, .ref h_met])), (h_all, .inl (cI, 53700, .inl r_all))] _ := hP
              have hD : va_D A [(h, .inr (10, [.ref h_all, .ref h_has, .int f_size, .int (f_next + (1 : Int32)), .int f_next, .int f_token, .int f_number, .int f_sign, .int f_word, .int f_wrong, .int f_open, .int f_lines, .int f_acts, .ref h_line, .ref h_act, .ref h_pile, .ref h_comes, .ref h_leaves, .ref h_tried, .ref h_met])), (h_all, .inl (cI, 53700, .inl r_all))] := hD
              refine lv_aload_n hx hb dX11_advance_296 rfl (lv_at hl 1 rfl) ?_
              refine lv_iload_n hx hb dX11_advance_297 rfl (lv_at hl 0 rfl) ?_
              refine va_put (D := (dC, dI)) (ci := 10) (v := .int r_19) (ty := .int) (C := RX11) (T := TX11) (N := 20) hx hb hts gu_X11 tyX11 tyX11_ok nmX11 hown hK hP hD hS 0 rfl rfl 7 (by decide) (hts _ gw_688) (fun _ h9 => h9) rfl (tyX11_ok 7 (by decide)) rfl rfl (Nat.le_of_ble_eq_true rfl) dX11_advance_298 (fun H locs hP hD hS => ?_)
              have hP : va_P (dC, dI) vwCl [(h, .inr (10, [.ref h_all, .ref h_has, .int f_size, .int (f_next + (1 : Int32)), .int f_next, .int f_token, .int f_number, .int r_19, .int f_word, .int f_wrong, .int f_open, .int f_lines, .int f_acts, .ref h_line, .ref h_act, .ref h_pile, .ref h_comes, .ref h_leaves, .ref h_tried, .ref h_met])), (h_all, .inl (cI, 53700, .inl r_all))] _ := hP
              have hD : va_D A [(h, .inr (10, [.ref h_all, .ref h_has, .int f_size, .int (f_next + (1 : Int32)), .int f_next, .int f_token, .int f_number, .int r_19, .int f_word, .int f_wrong, .int f_open, .int f_lines, .int f_acts, .ref h_line, .ref h_act, .ref h_pile, .ref h_comes, .ref h_leaves, .ref h_tried, .ref h_met])), (h_all, .inl (cI, 53700, .inl r_all))] := hD
              refine lv_aload_n hx hb dX11_advance_301 rfl (lv_at hl 1 rfl) ?_
              refine lv_iload_n hx hb dX11_advance_302 rfl (lv_at hl 0 rfl) ?_
              have hPc := hP.sub (ws' := []) [] rfl
              have hDc := hD.sub (ws' := []) [] (by decide) rfl
              have hFc := va_free (wc := []) hD hS hA [] rfl
              refine va_calli (va_runS (As := [.int r_19]) (rest := [.ref h]) ⟨hx, hb, hml, hown, hts⟩ (kX11_isSignByte l dC dI cI cZ cO cW H.size r_19 _ hw) (va_cwS 1 hts (gS gw_698 gw_699 gw_622 (gM gw_682)) rfl rfl rfl (by decide +kernel) ⟨Nat.le_of_ble_eq_true rfl, Nat.le_of_ble_eq_true rfl⟩) (ps_of hPc hK hDc) rfl rfl hl.1 rfl (lv_room (Nat.le_of_ble_eq_true rfl)) dX11_advance_303 ⟨Nat.zero_le _, Nat.zero_le _⟩) hS (fun q _ h => hFc q h) hFc (fun r_25 u t H locs ht hvm hw hB hz1 hk1 hS => ?_)
              obtain ⟨hP, hD⟩ := af_join (wr := [(h, .inr (10, [.ref h_all, .ref h_has, .int f_size, .int (f_next + (1 : Int32)), .int f_next, .int f_token, .int f_number, .int r_19, .int f_word, .int f_wrong, .int f_open, .int f_lines, .int f_acts, .ref h_line, .ref h_act, .ref h_pile, .ref h_comes, .ref h_leaves, .ref h_tried, .ref h_met])), (h_all, .inl (cI, 53700, .inl r_all))]) (w1 := []) hB ht hP hD [] [0, 1] rfl rfl (by decide) (by decide) hk1 hFc
              have hP : va_P (dC, dI) vwCl [(h, .inr (10, [.ref h_all, .ref h_has, .int f_size, .int (f_next + (1 : Int32)), .int f_next, .int f_token, .int f_number, .int r_19, .int f_word, .int f_wrong, .int f_open, .int f_lines, .int f_acts, .ref h_line, .ref h_act, .ref h_pile, .ref h_comes, .ref h_leaves, .ref h_tried, .ref h_met])), (h_all, .inl (cI, 53700, .inl r_all))] _ := hP
              have hD : va_D A [(h, .inr (10, [.ref h_all, .ref h_has, .int f_size, .int (f_next + (1 : Int32)), .int f_next, .int f_token, .int f_number, .int r_19, .int f_word, .int f_wrong, .int f_open, .int f_lines, .int f_acts, .ref h_line, .ref h_act, .ref h_pile, .ref h_comes, .ref h_leaves, .ref h_tried, .ref h_met])), (h_all, .inl (cI, 53700, .inl r_all))] := hD
              refine lv_if_eq (tgt := 313) hx hb dX11_advance_306 (by decide) (fun c_26 => ?_) (fun c_26 => ?_)
              · have hw := hw.1 c_26
                refine lv_iconst (v := (4 : Int32)) hx hb dX11_advance_313 (by decide) ?_
                exact tX11_advance_314 hC hK hA  (4 : Int32) f_size (f_next + (1 : Int32)) f_next f_token f_number r_19 f_word r_all _ _ ls hw (hP.sub [0, 1] rfl) (hD.sub [0, 1] (by decide) rfl) hS (lv_sub hl [] rfl)
              · have hw := hw.2 c_26
                refine lv_iconst (v := (2 : Int32)) hx hb dX11_advance_309 (by decide) ?_
                refine lv_goto (tgt := 314) hx hb dX11_advance_310 (by decide) ?_
                exact tX11_advance_314 hC hK hA  (2 : Int32) f_size (f_next + (1 : Int32)) f_next f_token f_number r_19 f_word r_all _ _ ls hw (hP.sub [0, 1] rfl) (hD.sub [0, 1] (by decide) rfl) hS (lv_sub hl [] rfl)
            · have hw := hw.2 c_24
              refine lv_aload_n hx hb dX11_advance_193 rfl (lv_at hl 1 rfl) ?_
              refine lv_iconst (v := (0 : Int32)) hx hb dX11_advance_194 (by decide) ?_
              refine va_put (D := (dC, dI)) (ci := 10) (v := .int (0 : Int32)) (ty := .int) (C := RX11) (T := TX11) (N := 20) hx hb hts gu_X11 tyX11 tyX11_ok nmX11 hown hK hP hD hS 0 rfl rfl 6 (by decide) (hts _ gw_687) (fun _ h9 => h9) rfl (tyX11_ok 6 (by decide)) rfl rfl (Nat.le_of_ble_eq_true rfl) dX11_advance_195 (fun H locs hP hD hS => ?_)
              have hP : va_P (dC, dI) vwCl [(h, .inr (10, [.ref h_all, .ref h_has, .int f_size, .int f_next, .int f_next, .int f_token, .int (0 : Int32), .int f_sign, .int f_word, .int f_wrong, .int f_open, .int f_lines, .int f_acts, .ref h_line, .ref h_act, .ref h_pile, .ref h_comes, .ref h_leaves, .ref h_tried, .ref h_met])), (h_all, .inl (cI, 53700, .inl r_all))] _ := hP
              have hD : va_D A [(h, .inr (10, [.ref h_all, .ref h_has, .int f_size, .int f_next, .int f_next, .int f_token, .int (0 : Int32), .int f_sign, .int f_word, .int f_wrong, .int f_open, .int f_lines, .int f_acts, .ref h_line, .ref h_act, .ref h_pile, .ref h_comes, .ref h_leaves, .ref h_tried, .ref h_met])), (h_all, .inl (cI, 53700, .inl r_all))] := hD
              obtain ⟨n_27, hw⟩ := hw
              exact tX11_advance_198 hC hK hA  n_27 f_size f_next f_next f_token (0 : Int32) f_sign f_word r_all _ _ ls hw (hP.sub [0, 1] rfl) (hD.sub [0, 1] (by decide) rfl) hS (lv_sub hl [1] rfl)
          · have hw := hw.2 c_22
            refine lv_lconst (v := (0 : Int64)) hx hb dX11_advance_75 rfl ?_
            refine lv_lstore_n (lv' := [(2, .long (0 : Int64)), (1, .int r_19), (0, .ref h)]) hx hb dX11_advance_76 rfl hl (by decide) rfl (fun ls hl => ?_)
            obtain ⟨n_28, hw⟩ := hw
            exact tX11_advance_77 hC hK hA  n_28 (0 : Int64) f_size f_next f_next f_token f_number f_sign f_word r_all _ _ ls hw (hP.sub [0, 1] rfl) (hD.sub [0, 1] (by decide) rfl) hS (lv_sub hl [2, 0] rfl)
        · have hw := hw.2 c_20
          refine lv_aload_n hx hb dX11_advance_60 rfl (lv_at hl 1 rfl) ?_
          refine lv_iconst (v := (0 : Int32)) hx hb dX11_advance_61 (by decide) ?_
          refine va_put (D := (dC, dI)) (ci := 10) (v := .int (0 : Int32)) (ty := .int) (C := RX11) (T := TX11) (N := 20) hx hb hts gu_X11 tyX11 tyX11_ok nmX11 hown hK hP hD hS 0 rfl rfl 5 (by decide) (hts _ gw_685) (fun _ h9 => h9) rfl (tyX11_ok 5 (by decide)) rfl rfl (Nat.le_of_ble_eq_true rfl) dX11_advance_62 (fun H locs hP hD hS => ?_)
          have hP : va_P (dC, dI) vwCl [(h, .inr (10, [.ref h_all, .ref h_has, .int f_size, .int f_next, .int f_next, .int (0 : Int32), .int f_number, .int f_sign, .int f_word, .int f_wrong, .int f_open, .int f_lines, .int f_acts, .ref h_line, .ref h_act, .ref h_pile, .ref h_comes, .ref h_leaves, .ref h_tried, .ref h_met])), (h_all, .inl (cI, 53700, .inl r_all))] _ := hP
          have hD : va_D A [(h, .inr (10, [.ref h_all, .ref h_has, .int f_size, .int f_next, .int f_next, .int (0 : Int32), .int f_number, .int f_sign, .int f_word, .int f_wrong, .int f_open, .int f_lines, .int f_acts, .ref h_line, .ref h_act, .ref h_pile, .ref h_comes, .ref h_leaves, .ref h_tried, .ref h_met])), (h_all, .inl (cI, 53700, .inl r_all))] := hD
          refine lv_goto (tgt := 317) hx hb dX11_advance_65 (by decide) ?_
          have hP9 := hP.sub (ws' := (vX11_advance cI cZ h h_all h_has h_line h_act h_pile h_comes h_leaves h_tried h_met f_wrong f_open f_lines f_acts f_size f_next f_next (0 : Int32) f_number f_sign f_word r_all)) [0, 1] rfl
          have hD9 := hD.sub (ws' := (vX11_advance cI cZ h h_all h_has h_line h_act h_pile h_comes h_leaves h_tried h_met f_wrong f_open f_lines f_acts f_size f_next f_next (0 : Int32) f_number f_sign f_word r_all)) [0, 1] (by decide) rfl
          exact W.vret hx hb hr (fun t ht hW => ⟨⟨(f_next, f_next, (0 : Int32), f_number, f_sign, f_word), rfl, hw, by rw [ht]; exact hP9, va_K.moved hW.alike hK, hD9⟩, hS.F ht⟩) hS.2.2 dX11_advance_317
      · have hw := hw.2 c_18
        exact tX11_advance_26 hC hK hA ih f_size f_next f_where f_token f_number f_sign f_word r_all _ _ ls hw (hP.sub [0, 1] rfl) (hD.sub [0, 1] (by decide) rfl) hS (lv_sub hl [0] rfl)
set_option maxHeartbeats 4000000 in
set_option maxRecDepth 100000 in
theorem tX11_advance_e {p : Program} {l : Launch} {e : Env} {s : State} {m : MethodId} {args : Array Value} {below : List Frame} {meth : Method} {c : Code} {dC : Nat → ClassId} {dI : Nat → Nat → Nat} {cI cZ cO cW : ClassId} {A : Nat → Prop} {h h_all h_has h_line h_act h_pile h_comes h_leaves h_tried h_met : Nat} {f_wrong f_open f_lines f_acts : Int32} {Q : Int32 → Int32 → Int32 → Int32 → Int32 → Int32 → Prop} (hC : Cx p s m args meth c cX11_advance none 4 GW RX11) (hK : va_K (dC, dI) vwCl (tysA cI cZ cO cW) s) (hA : ∀ q : Nat, s.heap.size ≤ q → A q) :
    ∀ (f_size : Int32) (f_next : Int32) (f_where : Int32) (f_token : Int32) (f_number : Int32) (f_sign : Int32) (f_word : Int32) (r_all : Nat → Int32) (H : Heap) (locs : List Loc) (ls : Array Slot), wX11_advance Q  f_size f_next f_where f_token f_number f_sign f_word r_all → va_P (dC, dI) vwCl (vX11_advance cI cZ h h_all h_has h_line h_act h_pile h_comes h_leaves h_tried h_met f_wrong f_open f_lines f_acts f_size f_next f_where f_token f_number f_sign f_word r_all) H → va_D A (vX11_advance cI cZ h h_all h_has h_line h_act h_pile h_comes h_leaves h_tried h_met f_wrong f_open f_lines f_acts f_size f_next f_where f_token f_number f_sign f_word r_all) → va_S A s.heap H locs → lv_has ls 4 [(0, .ref h)] → W p l e rmX11_advance s m args below meth c H locs 0 0 (MQ below (qX11_advance dC dI cI cZ cO cW h h_all h_has h_line h_act h_pile h_comes h_leaves h_tried h_met f_wrong f_open f_lines f_acts f_size r_all Q A) args s 0 0 A) (F0 m 0 ls []) := by
  obtain ⟨hx, hb, hr, hml, hown, hts, hlocks⟩ := id hC
  intro  f_size f_next f_where f_token f_number f_sign f_word r_all H locs ls hw hP hD hS hl
  obtain ⟨n_29, hw⟩ := hw
  exact tX11_advance_0 hC hK hA  n_29 f_size f_next f_where f_token f_number f_sign f_word r_all _ _ ls hw (hP.sub [0, 1] rfl) (hD.sub [0, 1] (by decide) rfl) hS (lv_sub hl [0] rfl)
set_option maxHeartbeats 4000000 in
set_option maxRecDepth 100000 in
theorem kX11_advance (l : Launch) (dC : Nat → ClassId) (dI : Nat → Nat → Nat) (cI cZ cO cW : ClassId) (h h_all h_has h_line h_act h_pile h_comes h_leaves h_tried h_met : Nat)  (sz : Nat) (f_wrong : Int32) (f_open : Int32) (f_lines : Int32) (f_acts : Int32) (f_size : Int32) (f_next : Int32) (f_where : Int32) (f_token : Int32) (f_number : Int32) (f_sign : Int32) (f_word : Int32) (r_all : Nat → Int32)  (Q : Int32 → Int32 → Int32 → Int32 → Int32 → Int32 → Prop) (hw : wX11_advance Q  f_size f_next f_where f_token f_number f_sign f_word r_all) : Met l yX11_advance zsX11_advance rmX11_advance (va_Pc [.ref h] (fun U => U.heap.size = sz ∧ va_P (dC, dI) vwCl (vX11_advance cI cZ h h_all h_has h_line h_act h_pile h_comes h_leaves h_tried h_met f_wrong f_open f_lines f_acts f_size f_next f_where f_token f_number f_sign f_word r_all) U.heap ∧ va_K (dC, dI) vwCl (tysA cI cZ cO cW) U ∧ va_D (fun _ => True) (vX11_advance cI cZ h h_all h_has h_line h_act h_pile h_comes h_leaves h_tried h_met f_wrong f_open f_lines f_acts f_size f_next f_where f_token f_number f_sign f_word r_all))) (qX11_advance dC dI cI cZ cO cW h h_all h_has h_line h_act h_pile h_comes h_leaves h_tried h_met f_wrong f_open f_lines f_acts f_size r_all Q (va_A (vX11_advance cI cZ h h_all h_has h_line h_act h_pile h_comes h_leaves h_tried h_met f_wrong f_open f_lines f_acts f_size f_next f_where f_token f_number f_sign f_word r_all) sz)) 0 0 (va_A (vX11_advance cI cZ h h_all h_has h_line h_act h_pile h_comes h_leaves h_tried h_met f_wrong f_open f_lines f_acts f_size f_next f_where f_token f_number f_sign f_word r_all) sz) := by
  refine Met.ofW (cc := cX11_advance) (maxL := 4) (ret := none) (by decide) rfl ?_
  intro p e s m args below meth c s₁ B hml hv
  obtain ⟨rfl, hsz, hP, hK, hD0⟩ := hv
  subst hsz
  have hC : Cx p s m ([.ref h] : List Value).toArray meth c cX11_advance none 4 GW RX11 := ⟨B.exec, B.bytes, B.returns, hml, findClass_of_methodNamed B.named, fun w h => atoms_spec (ws := zsX11_advance) B.pre w (List.mem_cons_of_mem _ h), B.notSynchronized⟩
  have hD := hD0.self (sz := s.heap.size)
  generalize hAe : va_A (vX11_advance cI cZ h h_all h_has h_line h_act h_pile h_comes h_leaves h_tried h_met f_wrong f_open f_lines f_acts f_size f_next f_where f_token f_number f_sign f_word r_all) s.heap.size = A at hD ⊢
  have hA : ∀ q : Nat, s.heap.size ≤ q → A q := fun q h => by rw [← hAe]; exact Or.inr h
  have hl := lv_entry ([.ref h]) (n := 4) (Nat.le_of_ble_eq_true rfl)
  rw [lg_entry_eq]
  generalize (lg_sl ([.ref h]) ++ List.replicate (4 - (lg_sl ([.ref h])).length) Slot.unset).toArray = ls at hl ⊢
  exact tX11_advance_e hC hK hA  f_size f_next f_where f_token f_number f_sign f_word r_all _ _ ls hw hP hD va_S.rf hl

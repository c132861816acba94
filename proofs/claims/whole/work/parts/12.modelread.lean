theorem dX11_byteAt_0 : decode cX11_byteAt 0 = .ok (.iload_n 1, 1) := by decide +kernel
theorem dX11_byteAt_1 : decode cX11_byteAt 1 = .ok (.aload_n 0, 1) := by decide +kernel
theorem dX11_byteAt_2 : decode cX11_byteAt 2 = .ok (.getfield 73, 3) := by decide +kernel
theorem dX11_byteAt_5 : decode cX11_byteAt 5 = .ok (.if_icmp .ge 16, 3) := by decide +kernel
theorem dX11_byteAt_8 : decode cX11_byteAt 8 = .ok (.aload_n 0, 1) := by decide +kernel
theorem dX11_byteAt_9 : decode cX11_byteAt 9 = .ok (.getfield 8, 3) := by decide +kernel
theorem dX11_byteAt_12 : decode cX11_byteAt 12 = .ok (.sipush 10340, 3) := by decide +kernel
theorem dX11_byteAt_15 : decode cX11_byteAt 15 = .ok (.iload_n 1, 1) := by decide +kernel
theorem dX11_byteAt_16 : decode cX11_byteAt 16 = .ok (.iadd, 1) := by decide +kernel
theorem dX11_byteAt_17 : decode cX11_byteAt 17 = .ok (.iaload, 1) := by decide +kernel
theorem dX11_byteAt_18 : decode cX11_byteAt 18 = .ok (.goto 4, 3) := by decide +kernel
theorem dX11_byteAt_21 : decode cX11_byteAt 21 = .ok (.iconst (-1), 1) := by decide +kernel
theorem dX11_byteAt_22 : decode cX11_byteAt 22 = .ok (.ireturn, 1) := by decide +kernel

theorem dX11_isLetter_0 : decode cX11_isLetter 0 = .ok (.iload_n 0, 1) := by decide +kernel
theorem dX11_isLetter_1 : decode cX11_isLetter 1 = .ok (.bipush 97, 2) := by decide +kernel
theorem dX11_isLetter_3 : decode cX11_isLetter 3 = .ok (.if_icmp .lt 13, 3) := by decide +kernel
theorem dX11_isLetter_6 : decode cX11_isLetter 6 = .ok (.iload_n 0, 1) := by decide +kernel
theorem dX11_isLetter_7 : decode cX11_isLetter 7 = .ok (.bipush 122, 2) := by decide +kernel
theorem dX11_isLetter_9 : decode cX11_isLetter 9 = .ok (.if_icmp .gt 7, 3) := by decide +kernel
theorem dX11_isLetter_12 : decode cX11_isLetter 12 = .ok (.iconst 1, 1) := by decide +kernel
theorem dX11_isLetter_13 : decode cX11_isLetter 13 = .ok (.goto 4, 3) := by decide +kernel
theorem dX11_isLetter_16 : decode cX11_isLetter 16 = .ok (.iconst 0, 1) := by decide +kernel
theorem dX11_isLetter_17 : decode cX11_isLetter 17 = .ok (.ireturn, 1) := by decide +kernel

theorem dX11_isDigit_0 : decode cX11_isDigit 0 = .ok (.iload_n 0, 1) := by decide +kernel
theorem dX11_isDigit_1 : decode cX11_isDigit 1 = .ok (.bipush 48, 2) := by decide +kernel
theorem dX11_isDigit_3 : decode cX11_isDigit 3 = .ok (.if_icmp .lt 13, 3) := by decide +kernel
theorem dX11_isDigit_6 : decode cX11_isDigit 6 = .ok (.iload_n 0, 1) := by decide +kernel
theorem dX11_isDigit_7 : decode cX11_isDigit 7 = .ok (.bipush 57, 2) := by decide +kernel
theorem dX11_isDigit_9 : decode cX11_isDigit 9 = .ok (.if_icmp .gt 7, 3) := by decide +kernel
theorem dX11_isDigit_12 : decode cX11_isDigit 12 = .ok (.iconst 1, 1) := by decide +kernel
theorem dX11_isDigit_13 : decode cX11_isDigit 13 = .ok (.goto 4, 3) := by decide +kernel
theorem dX11_isDigit_16 : decode cX11_isDigit 16 = .ok (.iconst 0, 1) := by decide +kernel
theorem dX11_isDigit_17 : decode cX11_isDigit 17 = .ok (.ireturn, 1) := by decide +kernel

theorem dX11_two_0 : decode cX11_two 0 = .ok (.ldc2_w 77, 3) := by decide +kernel
theorem dX11_two_3 : decode cX11_two 3 = .ok (.iload_n 0, 1) := by decide +kernel
theorem dX11_two_4 : decode cX11_two 4 = .ok (.bipush 96, 2) := by decide +kernel
theorem dX11_two_6 : decode cX11_two 6 = .ok (.isub, 1) := by decide +kernel
theorem dX11_two_7 : decode cX11_two 7 = .ok (.i2l, 1) := by decide +kernel
theorem dX11_two_8 : decode cX11_two 8 = .ok (.lmul, 1) := by decide +kernel
theorem dX11_two_9 : decode cX11_two 9 = .ok (.iload_n 1, 1) := by decide +kernel
theorem dX11_two_10 : decode cX11_two 10 = .ok (.i2l, 1) := by decide +kernel
theorem dX11_two_11 : decode cX11_two 11 = .ok (.ladd, 1) := by decide +kernel
theorem dX11_two_12 : decode cX11_two 12 = .ok (.ldc2_w 79, 3) := by decide +kernel
theorem dX11_two_15 : decode cX11_two 15 = .ok (.lsub, 1) := by decide +kernel
theorem dX11_two_16 : decode cX11_two 16 = .ok (.lreturn, 1) := by decide +kernel

set_option maxRecDepth 20000 in
theorem ggX11_four_X11_two : GoodIn wsX11_four wsX11_two := goodIn_r _ [5, 6, 7] (by decide +kernel) (by decide +kernel)
set_option maxRecDepth 20000 in
theorem gX11_four_X11_two : GoodIn wsX11_four (va_wsS RX11 81 yX11_two wsX11_two) := goodIn_app (goodIn_of _ (by decide +kernel)) ggX11_four_X11_two
theorem dX11_four_0 : decode cX11_four 0 = .ok (.iload_n 0, 1) := by decide +kernel
theorem dX11_four_1 : decode cX11_four 1 = .ok (.iload_n 1, 1) := by decide +kernel
theorem dX11_four_2 : decode cX11_four 2 = .ok (.invokestatic 81, 3) := by decide +kernel
theorem dX11_four_5 : decode cX11_four 5 = .ok (.ldc2_w 85, 3) := by decide +kernel
theorem dX11_four_8 : decode cX11_four 8 = .ok (.lmul, 1) := by decide +kernel
theorem dX11_four_9 : decode cX11_four 9 = .ok (.iload_n 2, 1) := by decide +kernel
theorem dX11_four_10 : decode cX11_four 10 = .ok (.iload_n 3, 1) := by decide +kernel
theorem dX11_four_11 : decode cX11_four 11 = .ok (.invokestatic 81, 3) := by decide +kernel
theorem dX11_four_14 : decode cX11_four 14 = .ok (.ladd, 1) := by decide +kernel
theorem dX11_four_15 : decode cX11_four 15 = .ok (.lreturn, 1) := by decide +kernel

set_option maxRecDepth 20000 in
theorem ggX11_wordOf_X11_four : GoodIn wsX11_wordOf wsX11_four := goodIn_r _ [13, 6, 14, 15, 12, 16, 1, 3] (by decide +kernel) (by decide +kernel)
set_option maxRecDepth 20000 in
theorem gX11_wordOf_X11_four : GoodIn wsX11_wordOf (va_wsS RX11 87 yX11_four wsX11_four) := goodIn_app (goodIn_of _ (by decide +kernel)) ggX11_wordOf_X11_four
set_option maxRecDepth 20000 in
theorem ggX11_wordOf_X11_two : GoodIn wsX11_wordOf wsX11_two := goodIn_r _ [16, 1, 3] (by decide +kernel) (by decide +kernel)
set_option maxRecDepth 20000 in
theorem gX11_wordOf_X11_two : GoodIn wsX11_wordOf (va_wsS RX11 81 yX11_two wsX11_two) := goodIn_app (goodIn_of _ (by decide +kernel)) ggX11_wordOf_X11_two
theorem dX11_wordOf_0 : decode cX11_wordOf 0 = .ok (.lload_n 0, 1) := by decide +kernel
theorem dX11_wordOf_1 : decode cX11_wordOf 1 = .ok (.bipush 104, 2) := by decide +kernel
theorem dX11_wordOf_3 : decode cX11_wordOf 3 = .ok (.bipush 111, 2) := by decide +kernel
theorem dX11_wordOf_5 : decode cX11_wordOf 5 = .ok (.bipush 117, 2) := by decide +kernel
theorem dX11_wordOf_7 : decode cX11_wordOf 7 = .ok (.bipush 114, 2) := by decide +kernel
theorem dX11_wordOf_9 : decode cX11_wordOf 9 = .ok (.invokestatic 87, 3) := by decide +kernel
theorem dX11_wordOf_12 : decode cX11_wordOf 12 = .ok (.lcmp, 1) := by decide +kernel
theorem dX11_wordOf_13 : decode cX11_wordOf 13 = .ok (.ifCond .ne 5, 3) := by decide +kernel
theorem dX11_wordOf_16 : decode cX11_wordOf 16 = .ok (.iconst 0, 1) := by decide +kernel
theorem dX11_wordOf_17 : decode cX11_wordOf 17 = .ok (.ireturn, 1) := by decide +kernel
theorem dX11_wordOf_18 : decode cX11_wordOf 18 = .ok (.lload_n 0, 1) := by decide +kernel
theorem dX11_wordOf_19 : decode cX11_wordOf 19 = .ok (.bipush 108, 2) := by decide +kernel
theorem dX11_wordOf_21 : decode cX11_wordOf 21 = .ok (.bipush 101, 2) := by decide +kernel
theorem dX11_wordOf_23 : decode cX11_wordOf 23 = .ok (.bipush 118, 2) := by decide +kernel
theorem dX11_wordOf_25 : decode cX11_wordOf 25 = .ok (.bipush 101, 2) := by decide +kernel
theorem dX11_wordOf_27 : decode cX11_wordOf 27 = .ok (.invokestatic 87, 3) := by decide +kernel
theorem dX11_wordOf_30 : decode cX11_wordOf 30 = .ok (.ldc2_w 77, 3) := by decide +kernel
theorem dX11_wordOf_33 : decode cX11_wordOf 33 = .ok (.lmul, 1) := by decide +kernel
theorem dX11_wordOf_34 : decode cX11_wordOf 34 = .ok (.ldc2_w 91, 3) := by decide +kernel
theorem dX11_wordOf_37 : decode cX11_wordOf 37 = .ok (.ladd, 1) := by decide +kernel
theorem dX11_wordOf_38 : decode cX11_wordOf 38 = .ok (.ldc2_w 79, 3) := by decide +kernel
theorem dX11_wordOf_41 : decode cX11_wordOf 41 = .ok (.lsub, 1) := by decide +kernel
theorem dX11_wordOf_42 : decode cX11_wordOf 42 = .ok (.lcmp, 1) := by decide +kernel
theorem dX11_wordOf_43 : decode cX11_wordOf 43 = .ok (.ifCond .ne 5, 3) := by decide +kernel
theorem dX11_wordOf_46 : decode cX11_wordOf 46 = .ok (.iconst 1, 1) := by decide +kernel
theorem dX11_wordOf_47 : decode cX11_wordOf 47 = .ok (.ireturn, 1) := by decide +kernel
theorem dX11_wordOf_48 : decode cX11_wordOf 48 = .ok (.lload_n 0, 1) := by decide +kernel
theorem dX11_wordOf_49 : decode cX11_wordOf 49 = .ok (.bipush 114, 2) := by decide +kernel
theorem dX11_wordOf_51 : decode cX11_wordOf 51 = .ok (.bipush 105, 2) := by decide +kernel
theorem dX11_wordOf_53 : decode cX11_wordOf 53 = .ok (.bipush 100, 2) := by decide +kernel
theorem dX11_wordOf_55 : decode cX11_wordOf 55 = .ok (.bipush 103, 2) := by decide +kernel
theorem dX11_wordOf_57 : decode cX11_wordOf 57 = .ok (.invokestatic 87, 3) := by decide +kernel
theorem dX11_wordOf_60 : decode cX11_wordOf 60 = .ok (.ldc2_w 77, 3) := by decide +kernel
theorem dX11_wordOf_63 : decode cX11_wordOf 63 = .ok (.lmul, 1) := by decide +kernel
theorem dX11_wordOf_64 : decode cX11_wordOf 64 = .ok (.ldc2_w 93, 3) := by decide +kernel
theorem dX11_wordOf_67 : decode cX11_wordOf 67 = .ok (.ladd, 1) := by decide +kernel
theorem dX11_wordOf_68 : decode cX11_wordOf 68 = .ok (.ldc2_w 79, 3) := by decide +kernel
theorem dX11_wordOf_71 : decode cX11_wordOf 71 = .ok (.lsub, 1) := by decide +kernel
theorem dX11_wordOf_72 : decode cX11_wordOf 72 = .ok (.lcmp, 1) := by decide +kernel
theorem dX11_wordOf_73 : decode cX11_wordOf 73 = .ok (.ifCond .ne 5, 3) := by decide +kernel
theorem dX11_wordOf_76 : decode cX11_wordOf 76 = .ok (.iconst 2, 1) := by decide +kernel
theorem dX11_wordOf_77 : decode cX11_wordOf 77 = .ok (.ireturn, 1) := by decide +kernel
theorem dX11_wordOf_78 : decode cX11_wordOf 78 = .ok (.lload_n 0, 1) := by decide +kernel
theorem dX11_wordOf_79 : decode cX11_wordOf 79 = .ok (.bipush 102, 2) := by decide +kernel
theorem dX11_wordOf_81 : decode cX11_wordOf 81 = .ok (.bipush 117, 2) := by decide +kernel
theorem dX11_wordOf_83 : decode cX11_wordOf 83 = .ok (.bipush 101, 2) := by decide +kernel
theorem dX11_wordOf_85 : decode cX11_wordOf 85 = .ok (.bipush 108, 2) := by decide +kernel
theorem dX11_wordOf_87 : decode cX11_wordOf 87 = .ok (.invokestatic 87, 3) := by decide +kernel
theorem dX11_wordOf_90 : decode cX11_wordOf 90 = .ok (.lcmp, 1) := by decide +kernel
theorem dX11_wordOf_91 : decode cX11_wordOf 91 = .ok (.ifCond .ne 5, 3) := by decide +kernel
theorem dX11_wordOf_94 : decode cX11_wordOf 94 = .ok (.iconst 3, 1) := by decide +kernel
theorem dX11_wordOf_95 : decode cX11_wordOf 95 = .ok (.ireturn, 1) := by decide +kernel
theorem dX11_wordOf_96 : decode cX11_wordOf 96 = .ok (.lload_n 0, 1) := by decide +kernel
theorem dX11_wordOf_97 : decode cX11_wordOf 97 = .ok (.bipush 104, 2) := by decide +kernel
theorem dX11_wordOf_99 : decode cX11_wordOf 99 = .ok (.bipush 101, 2) := by decide +kernel
theorem dX11_wordOf_101 : decode cX11_wordOf 101 = .ok (.bipush 108, 2) := by decide +kernel
theorem dX11_wordOf_103 : decode cX11_wordOf 103 = .ok (.bipush 100, 2) := by decide +kernel
theorem dX11_wordOf_105 : decode cX11_wordOf 105 = .ok (.invokestatic 87, 3) := by decide +kernel
theorem dX11_wordOf_108 : decode cX11_wordOf 108 = .ok (.lcmp, 1) := by decide +kernel
theorem dX11_wordOf_109 : decode cX11_wordOf 109 = .ok (.ifCond .ne 5, 3) := by decide +kernel
theorem dX11_wordOf_112 : decode cX11_wordOf 112 = .ok (.iconst 4, 1) := by decide +kernel
theorem dX11_wordOf_113 : decode cX11_wordOf 113 = .ok (.ireturn, 1) := by decide +kernel
theorem dX11_wordOf_114 : decode cX11_wordOf 114 = .ok (.lload_n 0, 1) := by decide +kernel
theorem dX11_wordOf_115 : decode cX11_wordOf 115 = .ok (.bipush 110, 2) := by decide +kernel
theorem dX11_wordOf_117 : decode cX11_wordOf 117 = .ok (.bipush 101, 2) := by decide +kernel
theorem dX11_wordOf_119 : decode cX11_wordOf 119 = .ok (.bipush 97, 2) := by decide +kernel
theorem dX11_wordOf_121 : decode cX11_wordOf 121 = .ok (.bipush 114, 2) := by decide +kernel
theorem dX11_wordOf_123 : decode cX11_wordOf 123 = .ok (.invokestatic 87, 3) := by decide +kernel
theorem dX11_wordOf_126 : decode cX11_wordOf 126 = .ok (.lcmp, 1) := by decide +kernel
theorem dX11_wordOf_127 : decode cX11_wordOf 127 = .ok (.ifCond .ne 5, 3) := by decide +kernel
theorem dX11_wordOf_130 : decode cX11_wordOf 130 = .ok (.iconst 5, 1) := by decide +kernel
theorem dX11_wordOf_131 : decode cX11_wordOf 131 = .ok (.ireturn, 1) := by decide +kernel
theorem dX11_wordOf_132 : decode cX11_wordOf 132 = .ok (.lload_n 0, 1) := by decide +kernel
theorem dX11_wordOf_133 : decode cX11_wordOf 133 = .ok (.bipush 114, 2) := by decide +kernel
theorem dX11_wordOf_135 : decode cX11_wordOf 135 = .ok (.bipush 111, 2) := by decide +kernel
theorem dX11_wordOf_137 : decode cX11_wordOf 137 = .ok (.invokestatic 81, 3) := by decide +kernel
theorem dX11_wordOf_140 : decode cX11_wordOf 140 = .ok (.ldc2_w 77, 3) := by decide +kernel
theorem dX11_wordOf_143 : decode cX11_wordOf 143 = .ok (.lmul, 1) := by decide +kernel
theorem dX11_wordOf_144 : decode cX11_wordOf 144 = .ok (.ldc2_w 95, 3) := by decide +kernel
theorem dX11_wordOf_147 : decode cX11_wordOf 147 = .ok (.ladd, 1) := by decide +kernel
theorem dX11_wordOf_148 : decode cX11_wordOf 148 = .ok (.ldc2_w 79, 3) := by decide +kernel
theorem dX11_wordOf_151 : decode cX11_wordOf 151 = .ok (.lsub, 1) := by decide +kernel
theorem dX11_wordOf_152 : decode cX11_wordOf 152 = .ok (.lcmp, 1) := by decide +kernel
theorem dX11_wordOf_153 : decode cX11_wordOf 153 = .ok (.ifCond .ne 6, 3) := by decide +kernel
theorem dX11_wordOf_156 : decode cX11_wordOf 156 = .ok (.bipush 6, 2) := by decide +kernel
theorem dX11_wordOf_158 : decode cX11_wordOf 158 = .ok (.ireturn, 1) := by decide +kernel
theorem dX11_wordOf_159 : decode cX11_wordOf 159 = .ok (.lload_n 0, 1) := by decide +kernel
theorem dX11_wordOf_160 : decode cX11_wordOf 160 = .ok (.bipush 99, 2) := by decide +kernel
theorem dX11_wordOf_162 : decode cX11_wordOf 162 = .ok (.bipush 111, 2) := by decide +kernel
theorem dX11_wordOf_164 : decode cX11_wordOf 164 = .ok (.bipush 108, 2) := by decide +kernel
theorem dX11_wordOf_166 : decode cX11_wordOf 166 = .ok (.bipush 117, 2) := by decide +kernel
theorem dX11_wordOf_168 : decode cX11_wordOf 168 = .ok (.invokestatic 87, 3) := by decide +kernel
theorem dX11_wordOf_171 : decode cX11_wordOf 171 = .ok (.ldc2_w 85, 3) := by decide +kernel
theorem dX11_wordOf_174 : decode cX11_wordOf 174 = .ok (.lmul, 1) := by decide +kernel
theorem dX11_wordOf_175 : decode cX11_wordOf 175 = .ok (.bipush 109, 2) := by decide +kernel
theorem dX11_wordOf_177 : decode cX11_wordOf 177 = .ok (.bipush 110, 2) := by decide +kernel
theorem dX11_wordOf_179 : decode cX11_wordOf 179 = .ok (.invokestatic 81, 3) := by decide +kernel
theorem dX11_wordOf_182 : decode cX11_wordOf 182 = .ok (.ladd, 1) := by decide +kernel
theorem dX11_wordOf_183 : decode cX11_wordOf 183 = .ok (.lcmp, 1) := by decide +kernel
theorem dX11_wordOf_184 : decode cX11_wordOf 184 = .ok (.ifCond .ne 6, 3) := by decide +kernel
theorem dX11_wordOf_187 : decode cX11_wordOf 187 = .ok (.bipush 7, 2) := by decide +kernel
theorem dX11_wordOf_189 : decode cX11_wordOf 189 = .ok (.ireturn, 1) := by decide +kernel
theorem dX11_wordOf_190 : decode cX11_wordOf 190 = .ok (.lload_n 0, 1) := by decide +kernel
theorem dX11_wordOf_191 : decode cX11_wordOf 191 = .ok (.bipush 110, 2) := by decide +kernel
theorem dX11_wordOf_193 : decode cX11_wordOf 193 = .ok (.bipush 111, 2) := by decide +kernel
theorem dX11_wordOf_195 : decode cX11_wordOf 195 = .ok (.bipush 114, 2) := by decide +kernel
theorem dX11_wordOf_197 : decode cX11_wordOf 197 = .ok (.bipush 116, 2) := by decide +kernel
theorem dX11_wordOf_199 : decode cX11_wordOf 199 = .ok (.invokestatic 87, 3) := by decide +kernel
theorem dX11_wordOf_202 : decode cX11_wordOf 202 = .ok (.ldc2_w 77, 3) := by decide +kernel
theorem dX11_wordOf_205 : decode cX11_wordOf 205 = .ok (.lmul, 1) := by decide +kernel
theorem dX11_wordOf_206 : decode cX11_wordOf 206 = .ok (.ldc2_w 97, 3) := by decide +kernel
theorem dX11_wordOf_209 : decode cX11_wordOf 209 = .ok (.ladd, 1) := by decide +kernel
theorem dX11_wordOf_210 : decode cX11_wordOf 210 = .ok (.ldc2_w 79, 3) := by decide +kernel
theorem dX11_wordOf_213 : decode cX11_wordOf 213 = .ok (.lsub, 1) := by decide +kernel
theorem dX11_wordOf_214 : decode cX11_wordOf 214 = .ok (.lcmp, 1) := by decide +kernel
theorem dX11_wordOf_215 : decode cX11_wordOf 215 = .ok (.ifCond .ne 6, 3) := by decide +kernel
theorem dX11_wordOf_218 : decode cX11_wordOf 218 = .ok (.bipush 8, 2) := by decide +kernel
theorem dX11_wordOf_220 : decode cX11_wordOf 220 = .ok (.ireturn, 1) := by decide +kernel
theorem dX11_wordOf_221 : decode cX11_wordOf 221 = .ok (.lload_n 0, 1) := by decide +kernel
theorem dX11_wordOf_222 : decode cX11_wordOf 222 = .ok (.bipush 101, 2) := by decide +kernel
theorem dX11_wordOf_224 : decode cX11_wordOf 224 = .ok (.bipush 97, 2) := by decide +kernel
theorem dX11_wordOf_226 : decode cX11_wordOf 226 = .ok (.bipush 115, 2) := by decide +kernel
theorem dX11_wordOf_228 : decode cX11_wordOf 228 = .ok (.bipush 116, 2) := by decide +kernel
theorem dX11_wordOf_230 : decode cX11_wordOf 230 = .ok (.invokestatic 87, 3) := by decide +kernel
theorem dX11_wordOf_233 : decode cX11_wordOf 233 = .ok (.lcmp, 1) := by decide +kernel
theorem dX11_wordOf_234 : decode cX11_wordOf 234 = .ok (.ifCond .ne 6, 3) := by decide +kernel
theorem dX11_wordOf_237 : decode cX11_wordOf 237 = .ok (.bipush 9, 2) := by decide +kernel
theorem dX11_wordOf_239 : decode cX11_wordOf 239 = .ok (.ireturn, 1) := by decide +kernel
theorem dX11_wordOf_240 : decode cX11_wordOf 240 = .ok (.lload_n 0, 1) := by decide +kernel
theorem dX11_wordOf_241 : decode cX11_wordOf 241 = .ok (.bipush 115, 2) := by decide +kernel
theorem dX11_wordOf_243 : decode cX11_wordOf 243 = .ok (.bipush 111, 2) := by decide +kernel
theorem dX11_wordOf_245 : decode cX11_wordOf 245 = .ok (.bipush 117, 2) := by decide +kernel
theorem dX11_wordOf_247 : decode cX11_wordOf 247 = .ok (.bipush 116, 2) := by decide +kernel
theorem dX11_wordOf_249 : decode cX11_wordOf 249 = .ok (.invokestatic 87, 3) := by decide +kernel
theorem dX11_wordOf_252 : decode cX11_wordOf 252 = .ok (.ldc2_w 77, 3) := by decide +kernel
theorem dX11_wordOf_255 : decode cX11_wordOf 255 = .ok (.lmul, 1) := by decide +kernel
theorem dX11_wordOf_256 : decode cX11_wordOf 256 = .ok (.ldc2_w 97, 3) := by decide +kernel
theorem dX11_wordOf_259 : decode cX11_wordOf 259 = .ok (.ladd, 1) := by decide +kernel
theorem dX11_wordOf_260 : decode cX11_wordOf 260 = .ok (.ldc2_w 79, 3) := by decide +kernel
theorem dX11_wordOf_263 : decode cX11_wordOf 263 = .ok (.lsub, 1) := by decide +kernel
theorem dX11_wordOf_264 : decode cX11_wordOf 264 = .ok (.lcmp, 1) := by decide +kernel
theorem dX11_wordOf_265 : decode cX11_wordOf 265 = .ok (.ifCond .ne 6, 3) := by decide +kernel
theorem dX11_wordOf_268 : decode cX11_wordOf 268 = .ok (.bipush 10, 2) := by decide +kernel
theorem dX11_wordOf_270 : decode cX11_wordOf 270 = .ok (.ireturn, 1) := by decide +kernel
theorem dX11_wordOf_271 : decode cX11_wordOf 271 = .ok (.lload_n 0, 1) := by decide +kernel
theorem dX11_wordOf_272 : decode cX11_wordOf 272 = .ok (.bipush 119, 2) := by decide +kernel
theorem dX11_wordOf_274 : decode cX11_wordOf 274 = .ok (.bipush 101, 2) := by decide +kernel
theorem dX11_wordOf_276 : decode cX11_wordOf 276 = .ok (.bipush 115, 2) := by decide +kernel
theorem dX11_wordOf_278 : decode cX11_wordOf 278 = .ok (.bipush 116, 2) := by decide +kernel
theorem dX11_wordOf_280 : decode cX11_wordOf 280 = .ok (.invokestatic 87, 3) := by decide +kernel
theorem dX11_wordOf_283 : decode cX11_wordOf 283 = .ok (.lcmp, 1) := by decide +kernel
theorem dX11_wordOf_284 : decode cX11_wordOf 284 = .ok (.ifCond .ne 6, 3) := by decide +kernel
theorem dX11_wordOf_287 : decode cX11_wordOf 287 = .ok (.bipush 11, 2) := by decide +kernel
theorem dX11_wordOf_289 : decode cX11_wordOf 289 = .ok (.ireturn, 1) := by decide +kernel
theorem dX11_wordOf_290 : decode cX11_wordOf 290 = .ok (.lload_n 0, 1) := by decide +kernel
theorem dX11_wordOf_291 : decode cX11_wordOf 291 = .ok (.bipush 116, 2) := by decide +kernel
theorem dX11_wordOf_293 : decode cX11_wordOf 293 = .ok (.bipush 111, 2) := by decide +kernel
theorem dX11_wordOf_295 : decode cX11_wordOf 295 = .ok (.bipush 108, 2) := by decide +kernel
theorem dX11_wordOf_297 : decode cX11_wordOf 297 = .ok (.bipush 100, 2) := by decide +kernel
theorem dX11_wordOf_299 : decode cX11_wordOf 299 = .ok (.invokestatic 87, 3) := by decide +kernel
theorem dX11_wordOf_302 : decode cX11_wordOf 302 = .ok (.lcmp, 1) := by decide +kernel
theorem dX11_wordOf_303 : decode cX11_wordOf 303 = .ok (.ifCond .ne 6, 3) := by decide +kernel
theorem dX11_wordOf_306 : decode cX11_wordOf 306 = .ok (.bipush 12, 2) := by decide +kernel
theorem dX11_wordOf_308 : decode cX11_wordOf 308 = .ok (.ireturn, 1) := by decide +kernel
theorem dX11_wordOf_309 : decode cX11_wordOf 309 = .ok (.lload_n 0, 1) := by decide +kernel
theorem dX11_wordOf_310 : decode cX11_wordOf 310 = .ok (.bipush 119, 2) := by decide +kernel
theorem dX11_wordOf_312 : decode cX11_wordOf 312 = .ok (.bipush 97, 2) := by decide +kernel
theorem dX11_wordOf_314 : decode cX11_wordOf 314 = .ok (.bipush 105, 2) := by decide +kernel
theorem dX11_wordOf_316 : decode cX11_wordOf 316 = .ok (.bipush 116, 2) := by decide +kernel
theorem dX11_wordOf_318 : decode cX11_wordOf 318 = .ok (.invokestatic 87, 3) := by decide +kernel
theorem dX11_wordOf_321 : decode cX11_wordOf 321 = .ok (.lcmp, 1) := by decide +kernel
theorem dX11_wordOf_322 : decode cX11_wordOf 322 = .ok (.ifCond .ne 6, 3) := by decide +kernel
theorem dX11_wordOf_325 : decode cX11_wordOf 325 = .ok (.bipush 24, 2) := by decide +kernel
theorem dX11_wordOf_327 : decode cX11_wordOf 327 = .ok (.ireturn, 1) := by decide +kernel
theorem dX11_wordOf_328 : decode cX11_wordOf 328 = .ok (.lload_n 0, 1) := by decide +kernel
theorem dX11_wordOf_329 : decode cX11_wordOf 329 = .ok (.bipush 99, 2) := by decide +kernel
theorem dX11_wordOf_331 : decode cX11_wordOf 331 = .ok (.bipush 117, 2) := by decide +kernel
theorem dX11_wordOf_333 : decode cX11_wordOf 333 = .ok (.invokestatic 81, 3) := by decide +kernel
theorem dX11_wordOf_336 : decode cX11_wordOf 336 = .ok (.ldc2_w 77, 3) := by decide +kernel
theorem dX11_wordOf_339 : decode cX11_wordOf 339 = .ok (.lmul, 1) := by decide +kernel
theorem dX11_wordOf_340 : decode cX11_wordOf 340 = .ok (.ldc2_w 99, 3) := by decide +kernel
theorem dX11_wordOf_343 : decode cX11_wordOf 343 = .ok (.ladd, 1) := by decide +kernel
theorem dX11_wordOf_344 : decode cX11_wordOf 344 = .ok (.ldc2_w 79, 3) := by decide +kernel
theorem dX11_wordOf_347 : decode cX11_wordOf 347 = .ok (.lsub, 1) := by decide +kernel
theorem dX11_wordOf_348 : decode cX11_wordOf 348 = .ok (.lcmp, 1) := by decide +kernel
theorem dX11_wordOf_349 : decode cX11_wordOf 349 = .ok (.ifCond .ne 6, 3) := by decide +kernel
theorem dX11_wordOf_352 : decode cX11_wordOf 352 = .ok (.bipush 25, 2) := by decide +kernel
theorem dX11_wordOf_354 : decode cX11_wordOf 354 = .ok (.ireturn, 1) := by decide +kernel
theorem dX11_wordOf_355 : decode cX11_wordOf 355 = .ok (.lload_n 0, 1) := by decide +kernel
theorem dX11_wordOf_356 : decode cX11_wordOf 356 = .ok (.bipush 99, 2) := by decide +kernel
theorem dX11_wordOf_358 : decode cX11_wordOf 358 = .ok (.bipush 97, 2) := by decide +kernel
theorem dX11_wordOf_360 : decode cX11_wordOf 360 = .ok (.bipush 108, 2) := by decide +kernel
theorem dX11_wordOf_362 : decode cX11_wordOf 362 = .ok (.bipush 108, 2) := by decide +kernel
theorem dX11_wordOf_364 : decode cX11_wordOf 364 = .ok (.invokestatic 87, 3) := by decide +kernel
theorem dX11_wordOf_367 : decode cX11_wordOf 367 = .ok (.lcmp, 1) := by decide +kernel
theorem dX11_wordOf_368 : decode cX11_wordOf 368 = .ok (.ifCond .ne 6, 3) := by decide +kernel
theorem dX11_wordOf_371 : decode cX11_wordOf 371 = .ok (.bipush 26, 2) := by decide +kernel
theorem dX11_wordOf_373 : decode cX11_wordOf 373 = .ok (.ireturn, 1) := by decide +kernel
theorem dX11_wordOf_374 : decode cX11_wordOf 374 = .ok (.lload_n 0, 1) := by decide +kernel
theorem dX11_wordOf_375 : decode cX11_wordOf 375 = .ok (.bipush 105, 2) := by decide +kernel
theorem dX11_wordOf_377 : decode cX11_wordOf 377 = .ok (.bipush 102, 2) := by decide +kernel
theorem dX11_wordOf_379 : decode cX11_wordOf 379 = .ok (.invokestatic 81, 3) := by decide +kernel
theorem dX11_wordOf_382 : decode cX11_wordOf 382 = .ok (.lcmp, 1) := by decide +kernel
theorem dX11_wordOf_383 : decode cX11_wordOf 383 = .ok (.ifCond .ne 6, 3) := by decide +kernel
theorem dX11_wordOf_386 : decode cX11_wordOf 386 = .ok (.bipush 30, 2) := by decide +kernel
theorem dX11_wordOf_388 : decode cX11_wordOf 388 = .ok (.ireturn, 1) := by decide +kernel
theorem dX11_wordOf_389 : decode cX11_wordOf 389 = .ok (.lload_n 0, 1) := by decide +kernel
theorem dX11_wordOf_390 : decode cX11_wordOf 390 = .ok (.bipush 111, 2) := by decide +kernel
theorem dX11_wordOf_392 : decode cX11_wordOf 392 = .ok (.bipush 114, 2) := by decide +kernel
theorem dX11_wordOf_394 : decode cX11_wordOf 394 = .ok (.invokestatic 81, 3) := by decide +kernel
theorem dX11_wordOf_397 : decode cX11_wordOf 397 = .ok (.lcmp, 1) := by decide +kernel
theorem dX11_wordOf_398 : decode cX11_wordOf 398 = .ok (.ifCond .ne 6, 3) := by decide +kernel
theorem dX11_wordOf_401 : decode cX11_wordOf 401 = .ok (.bipush 31, 2) := by decide +kernel
theorem dX11_wordOf_403 : decode cX11_wordOf 403 = .ok (.ireturn, 1) := by decide +kernel
theorem dX11_wordOf_404 : decode cX11_wordOf 404 = .ok (.lload_n 0, 1) := by decide +kernel
theorem dX11_wordOf_405 : decode cX11_wordOf 405 = .ok (.bipush 97, 2) := by decide +kernel
theorem dX11_wordOf_407 : decode cX11_wordOf 407 = .ok (.bipush 110, 2) := by decide +kernel
theorem dX11_wordOf_409 : decode cX11_wordOf 409 = .ok (.invokestatic 81, 3) := by decide +kernel
theorem dX11_wordOf_412 : decode cX11_wordOf 412 = .ok (.ldc2_w 77, 3) := by decide +kernel
theorem dX11_wordOf_415 : decode cX11_wordOf 415 = .ok (.lmul, 1) := by decide +kernel
theorem dX11_wordOf_416 : decode cX11_wordOf 416 = .ok (.ldc2_w 101, 3) := by decide +kernel
theorem dX11_wordOf_419 : decode cX11_wordOf 419 = .ok (.ladd, 1) := by decide +kernel
theorem dX11_wordOf_420 : decode cX11_wordOf 420 = .ok (.ldc2_w 79, 3) := by decide +kernel
theorem dX11_wordOf_423 : decode cX11_wordOf 423 = .ok (.lsub, 1) := by decide +kernel
theorem dX11_wordOf_424 : decode cX11_wordOf 424 = .ok (.lcmp, 1) := by decide +kernel
theorem dX11_wordOf_425 : decode cX11_wordOf 425 = .ok (.ifCond .ne 6, 3) := by decide +kernel
theorem dX11_wordOf_428 : decode cX11_wordOf 428 = .ok (.bipush 32, 2) := by decide +kernel
theorem dX11_wordOf_430 : decode cX11_wordOf 430 = .ok (.ireturn, 1) := by decide +kernel
theorem dX11_wordOf_431 : decode cX11_wordOf 431 = .ok (.lload_n 0, 1) := by decide +kernel
theorem dX11_wordOf_432 : decode cX11_wordOf 432 = .ok (.bipush 110, 2) := by decide +kernel
theorem dX11_wordOf_434 : decode cX11_wordOf 434 = .ok (.bipush 111, 2) := by decide +kernel
theorem dX11_wordOf_436 : decode cX11_wordOf 436 = .ok (.invokestatic 81, 3) := by decide +kernel
theorem dX11_wordOf_439 : decode cX11_wordOf 439 = .ok (.ldc2_w 77, 3) := by decide +kernel
theorem dX11_wordOf_442 : decode cX11_wordOf 442 = .ok (.lmul, 1) := by decide +kernel
theorem dX11_wordOf_443 : decode cX11_wordOf 443 = .ok (.ldc2_w 99, 3) := by decide +kernel
theorem dX11_wordOf_446 : decode cX11_wordOf 446 = .ok (.ladd, 1) := by decide +kernel
theorem dX11_wordOf_447 : decode cX11_wordOf 447 = .ok (.ldc2_w 79, 3) := by decide +kernel
theorem dX11_wordOf_450 : decode cX11_wordOf 450 = .ok (.lsub, 1) := by decide +kernel
theorem dX11_wordOf_451 : decode cX11_wordOf 451 = .ok (.lcmp, 1) := by decide +kernel
theorem dX11_wordOf_452 : decode cX11_wordOf 452 = .ok (.ifCond .ne 6, 3) := by decide +kernel
theorem dX11_wordOf_455 : decode cX11_wordOf 455 = .ok (.bipush 33, 2) := by decide +kernel
theorem dX11_wordOf_457 : decode cX11_wordOf 457 = .ok (.ireturn, 1) := by decide +kernel
theorem dX11_wordOf_458 : decode cX11_wordOf 458 = .ok (.bipush 99, 2) := by decide +kernel
theorem dX11_wordOf_460 : decode cX11_wordOf 460 = .ok (.ireturn, 1) := by decide +kernel

theorem dX11_isSignByte_0 : decode cX11_isSignByte 0 = .ok (.iload_n 0, 1) := by decide +kernel
theorem dX11_isSignByte_1 : decode cX11_isSignByte 1 = .ok (.bipush 40, 2) := by decide +kernel
theorem dX11_isSignByte_3 : decode cX11_isSignByte 3 = .ok (.if_icmp .eq 39, 3) := by decide +kernel
theorem dX11_isSignByte_6 : decode cX11_isSignByte 6 = .ok (.iload_n 0, 1) := by decide +kernel
theorem dX11_isSignByte_7 : decode cX11_isSignByte 7 = .ok (.bipush 41, 2) := by decide +kernel
theorem dX11_isSignByte_9 : decode cX11_isSignByte 9 = .ok (.if_icmp .eq 33, 3) := by decide +kernel
theorem dX11_isSignByte_12 : decode cX11_isSignByte 12 = .ok (.iload_n 0, 1) := by decide +kernel
theorem dX11_isSignByte_13 : decode cX11_isSignByte 13 = .ok (.bipush 58, 2) := by decide +kernel
theorem dX11_isSignByte_15 : decode cX11_isSignByte 15 = .ok (.if_icmp .eq 27, 3) := by decide +kernel
theorem dX11_isSignByte_18 : decode cX11_isSignByte 18 = .ok (.iload_n 0, 1) := by decide +kernel
theorem dX11_isSignByte_19 : decode cX11_isSignByte 19 = .ok (.bipush 59, 2) := by decide +kernel
theorem dX11_isSignByte_21 : decode cX11_isSignByte 21 = .ok (.if_icmp .eq 21, 3) := by decide +kernel
theorem dX11_isSignByte_24 : decode cX11_isSignByte 24 = .ok (.iload_n 0, 1) := by decide +kernel
theorem dX11_isSignByte_25 : decode cX11_isSignByte 25 = .ok (.bipush 61, 2) := by decide +kernel
theorem dX11_isSignByte_27 : decode cX11_isSignByte 27 = .ok (.if_icmp .eq 15, 3) := by decide +kernel
theorem dX11_isSignByte_30 : decode cX11_isSignByte 30 = .ok (.iload_n 0, 1) := by decide +kernel
theorem dX11_isSignByte_31 : decode cX11_isSignByte 31 = .ok (.bipush 60, 2) := by decide +kernel
theorem dX11_isSignByte_33 : decode cX11_isSignByte 33 = .ok (.if_icmp .eq 9, 3) := by decide +kernel
theorem dX11_isSignByte_36 : decode cX11_isSignByte 36 = .ok (.iload_n 0, 1) := by decide +kernel
theorem dX11_isSignByte_37 : decode cX11_isSignByte 37 = .ok (.bipush 62, 2) := by decide +kernel
theorem dX11_isSignByte_39 : decode cX11_isSignByte 39 = .ok (.if_icmp .ne 7, 3) := by decide +kernel
theorem dX11_isSignByte_42 : decode cX11_isSignByte 42 = .ok (.iconst 1, 1) := by decide +kernel
theorem dX11_isSignByte_43 : decode cX11_isSignByte 43 = .ok (.goto 4, 3) := by decide +kernel
theorem dX11_isSignByte_46 : decode cX11_isSignByte 46 = .ok (.iconst 0, 1) := by decide +kernel
theorem dX11_isSignByte_47 : decode cX11_isSignByte 47 = .ok (.ireturn, 1) := by decide +kernel

set_option maxRecDepth 20000 in
theorem ggX11_advance_X11_byteAt : GoodIn wsX11_advance wsX11_byteAt := goodIn_r _ [13, 14, 15, 41, 42, 43, 44, 45, 46, 47, 48, 49, 50, 51, 52, 53, 54, 55, 56, 57, 58, 59, 60] (by decide +kernel) (by decide +kernel)
set_option maxRecDepth 20000 in
theorem gX11_advance_X11_byteAt : GoodIn wsX11_advance (wsV RX11 106 RX11 yX11_byteAt wsX11_byteAt) := goodIn_app (goodIn_of _ (by decide +kernel)) ggX11_advance_X11_byteAt
set_option maxRecDepth 20000 in
theorem ggX11_advance_X11_isLetter : GoodIn wsX11_advance wsX11_isLetter := goodIn_r _ [18] (by decide +kernel) (by decide +kernel)
set_option maxRecDepth 20000 in
theorem gX11_advance_X11_isLetter : GoodIn wsX11_advance (va_wsS RX11 116 yX11_isLetter wsX11_isLetter) := goodIn_app (goodIn_of _ (by decide +kernel)) ggX11_advance_X11_isLetter
set_option maxRecDepth 20000 in
theorem ggX11_advance_X11_wordOf : GoodIn wsX11_advance wsX11_wordOf := goodIn_r _ [21, 4, 22, 5, 23, 24, 25, 26, 27, 28, 29, 30, 12, 31, 32, 33, 34] (by decide +kernel) (by decide +kernel)
set_option maxRecDepth 20000 in
theorem gX11_advance_X11_wordOf : GoodIn wsX11_advance (va_wsS RX11 120 yX11_wordOf wsX11_wordOf) := goodIn_app (goodIn_of _ (by decide +kernel)) ggX11_advance_X11_wordOf
set_option maxRecDepth 20000 in
theorem ggX11_advance_X11_isDigit : GoodIn wsX11_advance wsX11_isDigit := goodIn_r _ [37] (by decide +kernel) (by decide +kernel)
set_option maxRecDepth 20000 in
theorem gX11_advance_X11_isDigit : GoodIn wsX11_advance (va_wsS RX11 127 yX11_isDigit wsX11_isDigit) := goodIn_app (goodIn_of _ (by decide +kernel)) ggX11_advance_X11_isDigit
set_option maxRecDepth 20000 in
theorem ggX11_advance_X11_isSignByte : GoodIn wsX11_advance wsX11_isSignByte := goodIn_r _ [40] (by decide +kernel) (by decide +kernel)
set_option maxRecDepth 20000 in
theorem gX11_advance_X11_isSignByte : GoodIn wsX11_advance (va_wsS RX11 136 yX11_isSignByte wsX11_isSignByte) := goodIn_app (goodIn_of _ (by decide +kernel)) ggX11_advance_X11_isSignByte
theorem dX11_advance_0 : decode cX11_advance 0 = .ok (.aload_n 0, 1) := by decide +kernel
theorem dX11_advance_1 : decode cX11_advance 1 = .ok (.aload_n 0, 1) := by decide +kernel
theorem dX11_advance_2 : decode cX11_advance 2 = .ok (.getfield 103, 3) := by decide +kernel
theorem dX11_advance_5 : decode cX11_advance 5 = .ok (.invokevirtual 106, 3) := by decide +kernel
theorem dX11_advance_8 : decode cX11_advance 8 = .ok (.bipush 10, 2) := by decide +kernel
theorem dX11_advance_10 : decode cX11_advance 10 = .ok (.if_icmp .eq 16, 3) := by decide +kernel
theorem dX11_advance_13 : decode cX11_advance 13 = .ok (.aload_n 0, 1) := by decide +kernel
theorem dX11_advance_14 : decode cX11_advance 14 = .ok (.aload_n 0, 1) := by decide +kernel
theorem dX11_advance_15 : decode cX11_advance 15 = .ok (.getfield 103, 3) := by decide +kernel
theorem dX11_advance_18 : decode cX11_advance 18 = .ok (.invokevirtual 106, 3) := by decide +kernel
theorem dX11_advance_21 : decode cX11_advance 21 = .ok (.bipush 32, 2) := by decide +kernel
theorem dX11_advance_23 : decode cX11_advance 23 = .ok (.if_icmp .ne 16, 3) := by decide +kernel
theorem dX11_advance_26 : decode cX11_advance 26 = .ok (.aload_n 0, 1) := by decide +kernel
theorem dX11_advance_27 : decode cX11_advance 27 = .ok (.dup, 1) := by decide +kernel
theorem dX11_advance_28 : decode cX11_advance 28 = .ok (.getfield 103, 3) := by decide +kernel
theorem dX11_advance_31 : decode cX11_advance 31 = .ok (.iconst 1, 1) := by decide +kernel
theorem dX11_advance_32 : decode cX11_advance 32 = .ok (.iadd, 1) := by decide +kernel
theorem dX11_advance_33 : decode cX11_advance 33 = .ok (.putfield 103, 3) := by decide +kernel
theorem dX11_advance_36 : decode cX11_advance 36 = .ok (.goto (-36), 3) := by decide +kernel
theorem dX11_advance_39 : decode cX11_advance 39 = .ok (.aload_n 0, 1) := by decide +kernel
theorem dX11_advance_40 : decode cX11_advance 40 = .ok (.aload_n 0, 1) := by decide +kernel
theorem dX11_advance_41 : decode cX11_advance 41 = .ok (.getfield 103, 3) := by decide +kernel
theorem dX11_advance_44 : decode cX11_advance 44 = .ok (.putfield 110, 3) := by decide +kernel
theorem dX11_advance_47 : decode cX11_advance 47 = .ok (.aload_n 0, 1) := by decide +kernel
theorem dX11_advance_48 : decode cX11_advance 48 = .ok (.aload_n 0, 1) := by decide +kernel
theorem dX11_advance_49 : decode cX11_advance 49 = .ok (.getfield 103, 3) := by decide +kernel
theorem dX11_advance_52 : decode cX11_advance 52 = .ok (.invokevirtual 106, 3) := by decide +kernel
theorem dX11_advance_55 : decode cX11_advance 55 = .ok (.istore_n 1, 1) := by decide +kernel
theorem dX11_advance_56 : decode cX11_advance 56 = .ok (.iload_n 1, 1) := by decide +kernel
theorem dX11_advance_57 : decode cX11_advance 57 = .ok (.ifCond .ge 11, 3) := by decide +kernel
theorem dX11_advance_60 : decode cX11_advance 60 = .ok (.aload_n 0, 1) := by decide +kernel
theorem dX11_advance_61 : decode cX11_advance 61 = .ok (.iconst 0, 1) := by decide +kernel
theorem dX11_advance_62 : decode cX11_advance 62 = .ok (.putfield 113, 3) := by decide +kernel
theorem dX11_advance_65 : decode cX11_advance 65 = .ok (.goto 252, 3) := by decide +kernel
theorem dX11_advance_68 : decode cX11_advance 68 = .ok (.iload_n 1, 1) := by decide +kernel
theorem dX11_advance_69 : decode cX11_advance 69 = .ok (.invokestatic 116, 3) := by decide +kernel
theorem dX11_advance_72 : decode cX11_advance 72 = .ok (.ifCond .eq 114, 3) := by decide +kernel
theorem dX11_advance_75 : decode cX11_advance 75 = .ok (.lconst 0, 1) := by decide +kernel
theorem dX11_advance_76 : decode cX11_advance 76 = .ok (.lstore_n 2, 1) := by decide +kernel
theorem dX11_advance_77 : decode cX11_advance 77 = .ok (.aload_n 0, 1) := by decide +kernel
theorem dX11_advance_78 : decode cX11_advance 78 = .ok (.aload_n 0, 1) := by decide +kernel
theorem dX11_advance_79 : decode cX11_advance 79 = .ok (.getfield 103, 3) := by decide +kernel
theorem dX11_advance_82 : decode cX11_advance 82 = .ok (.invokevirtual 106, 3) := by decide +kernel
theorem dX11_advance_85 : decode cX11_advance 85 = .ok (.invokestatic 116, 3) := by decide +kernel
theorem dX11_advance_88 : decode cX11_advance 88 = .ok (.ifCond .eq 50, 3) := by decide +kernel
theorem dX11_advance_91 : decode cX11_advance 91 = .ok (.aload_n 0, 1) := by decide +kernel
theorem dX11_advance_92 : decode cX11_advance 92 = .ok (.getfield 103, 3) := by decide +kernel
theorem dX11_advance_95 : decode cX11_advance 95 = .ok (.aload_n 0, 1) := by decide +kernel
theorem dX11_advance_96 : decode cX11_advance 96 = .ok (.getfield 110, 3) := by decide +kernel
theorem dX11_advance_99 : decode cX11_advance 99 = .ok (.isub, 1) := by decide +kernel
theorem dX11_advance_100 : decode cX11_advance 100 = .ok (.bipush 7, 2) := by decide +kernel
theorem dX11_advance_102 : decode cX11_advance 102 = .ok (.if_icmp .ge 23, 3) := by decide +kernel
theorem dX11_advance_105 : decode cX11_advance 105 = .ok (.ldc2_w 77, 3) := by decide +kernel
theorem dX11_advance_108 : decode cX11_advance 108 = .ok (.lload_n 2, 1) := by decide +kernel
theorem dX11_advance_109 : decode cX11_advance 109 = .ok (.lmul, 1) := by decide +kernel
theorem dX11_advance_110 : decode cX11_advance 110 = .ok (.aload_n 0, 1) := by decide +kernel
theorem dX11_advance_111 : decode cX11_advance 111 = .ok (.aload_n 0, 1) := by decide +kernel
theorem dX11_advance_112 : decode cX11_advance 112 = .ok (.getfield 103, 3) := by decide +kernel
theorem dX11_advance_115 : decode cX11_advance 115 = .ok (.invokevirtual 106, 3) := by decide +kernel
theorem dX11_advance_118 : decode cX11_advance 118 = .ok (.i2l, 1) := by decide +kernel
theorem dX11_advance_119 : decode cX11_advance 119 = .ok (.ladd, 1) := by decide +kernel
theorem dX11_advance_120 : decode cX11_advance 120 = .ok (.ldc2_w 79, 3) := by decide +kernel
theorem dX11_advance_123 : decode cX11_advance 123 = .ok (.lsub, 1) := by decide +kernel
theorem dX11_advance_124 : decode cX11_advance 124 = .ok (.lstore_n 2, 1) := by decide +kernel
theorem dX11_advance_125 : decode cX11_advance 125 = .ok (.aload_n 0, 1) := by decide +kernel
theorem dX11_advance_126 : decode cX11_advance 126 = .ok (.dup, 1) := by decide +kernel
theorem dX11_advance_127 : decode cX11_advance 127 = .ok (.getfield 103, 3) := by decide +kernel
theorem dX11_advance_130 : decode cX11_advance 130 = .ok (.iconst 1, 1) := by decide +kernel
theorem dX11_advance_131 : decode cX11_advance 131 = .ok (.iadd, 1) := by decide +kernel
theorem dX11_advance_132 : decode cX11_advance 132 = .ok (.putfield 103, 3) := by decide +kernel
theorem dX11_advance_135 : decode cX11_advance 135 = .ok (.goto (-58), 3) := by decide +kernel
theorem dX11_advance_138 : decode cX11_advance 138 = .ok (.aload_n 0, 1) := by decide +kernel
theorem dX11_advance_139 : decode cX11_advance 139 = .ok (.aload_n 0, 1) := by decide +kernel
theorem dX11_advance_140 : decode cX11_advance 140 = .ok (.getfield 103, 3) := by decide +kernel
theorem dX11_advance_143 : decode cX11_advance 143 = .ok (.aload_n 0, 1) := by decide +kernel
theorem dX11_advance_144 : decode cX11_advance 144 = .ok (.getfield 110, 3) := by decide +kernel
theorem dX11_advance_147 : decode cX11_advance 147 = .ok (.isub, 1) := by decide +kernel
theorem dX11_advance_148 : decode cX11_advance 148 = .ok (.bipush 6, 2) := by decide +kernel
theorem dX11_advance_150 : decode cX11_advance 150 = .ok (.if_icmp .le 8, 3) := by decide +kernel
theorem dX11_advance_153 : decode cX11_advance 153 = .ok (.bipush 99, 2) := by decide +kernel
theorem dX11_advance_155 : decode cX11_advance 155 = .ok (.goto 7, 3) := by decide +kernel
theorem dX11_advance_158 : decode cX11_advance 158 = .ok (.lload_n 2, 1) := by decide +kernel
theorem dX11_advance_159 : decode cX11_advance 159 = .ok (.invokestatic 120, 3) := by decide +kernel
theorem dX11_advance_162 : decode cX11_advance 162 = .ok (.putfield 124, 3) := by decide +kernel
theorem dX11_advance_165 : decode cX11_advance 165 = .ok (.aload_n 0, 1) := by decide +kernel
theorem dX11_advance_166 : decode cX11_advance 166 = .ok (.aload_n 0, 1) := by decide +kernel
theorem dX11_advance_167 : decode cX11_advance 167 = .ok (.getfield 124, 3) := by decide +kernel
theorem dX11_advance_170 : decode cX11_advance 170 = .ok (.bipush 99, 2) := by decide +kernel
theorem dX11_advance_172 : decode cX11_advance 172 = .ok (.if_icmp .ne 7, 3) := by decide +kernel
theorem dX11_advance_175 : decode cX11_advance 175 = .ok (.iconst 4, 1) := by decide +kernel
theorem dX11_advance_176 : decode cX11_advance 176 = .ok (.goto 4, 3) := by decide +kernel
theorem dX11_advance_179 : decode cX11_advance 179 = .ok (.iconst 3, 1) := by decide +kernel
theorem dX11_advance_180 : decode cX11_advance 180 = .ok (.putfield 113, 3) := by decide +kernel
theorem dX11_advance_183 : decode cX11_advance 183 = .ok (.goto 134, 3) := by decide +kernel
theorem dX11_advance_186 : decode cX11_advance 186 = .ok (.iload_n 1, 1) := by decide +kernel
theorem dX11_advance_187 : decode cX11_advance 187 = .ok (.invokestatic 127, 3) := by decide +kernel
theorem dX11_advance_190 : decode cX11_advance 190 = .ok (.ifCond .eq 96, 3) := by decide +kernel
theorem dX11_advance_193 : decode cX11_advance 193 = .ok (.aload_n 0, 1) := by decide +kernel
theorem dX11_advance_194 : decode cX11_advance 194 = .ok (.iconst 0, 1) := by decide +kernel
theorem dX11_advance_195 : decode cX11_advance 195 = .ok (.putfield 130, 3) := by decide +kernel
theorem dX11_advance_198 : decode cX11_advance 198 = .ok (.aload_n 0, 1) := by decide +kernel
theorem dX11_advance_199 : decode cX11_advance 199 = .ok (.aload_n 0, 1) := by decide +kernel
theorem dX11_advance_200 : decode cX11_advance 200 = .ok (.getfield 103, 3) := by decide +kernel
theorem dX11_advance_203 : decode cX11_advance 203 = .ok (.invokevirtual 106, 3) := by decide +kernel
theorem dX11_advance_206 : decode cX11_advance 206 = .ok (.invokestatic 127, 3) := by decide +kernel
theorem dX11_advance_209 : decode cX11_advance 209 = .ok (.ifCond .eq 52, 3) := by decide +kernel
theorem dX11_advance_212 : decode cX11_advance 212 = .ok (.aload_n 0, 1) := by decide +kernel
theorem dX11_advance_213 : decode cX11_advance 213 = .ok (.getfield 103, 3) := by decide +kernel
theorem dX11_advance_216 : decode cX11_advance 216 = .ok (.aload_n 0, 1) := by decide +kernel
theorem dX11_advance_217 : decode cX11_advance 217 = .ok (.getfield 110, 3) := by decide +kernel
theorem dX11_advance_220 : decode cX11_advance 220 = .ok (.isub, 1) := by decide +kernel
theorem dX11_advance_221 : decode cX11_advance 221 = .ok (.iconst 4, 1) := by decide +kernel
theorem dX11_advance_222 : decode cX11_advance 222 = .ok (.if_icmp .ge 26, 3) := by decide +kernel
theorem dX11_advance_225 : decode cX11_advance 225 = .ok (.aload_n 0, 1) := by decide +kernel
theorem dX11_advance_226 : decode cX11_advance 226 = .ok (.bipush 10, 2) := by decide +kernel
theorem dX11_advance_228 : decode cX11_advance 228 = .ok (.aload_n 0, 1) := by decide +kernel
theorem dX11_advance_229 : decode cX11_advance 229 = .ok (.getfield 130, 3) := by decide +kernel
theorem dX11_advance_232 : decode cX11_advance 232 = .ok (.imul, 1) := by decide +kernel
theorem dX11_advance_233 : decode cX11_advance 233 = .ok (.aload_n 0, 1) := by decide +kernel
theorem dX11_advance_234 : decode cX11_advance 234 = .ok (.aload_n 0, 1) := by decide +kernel
theorem dX11_advance_235 : decode cX11_advance 235 = .ok (.getfield 103, 3) := by decide +kernel
theorem dX11_advance_238 : decode cX11_advance 238 = .ok (.invokevirtual 106, 3) := by decide +kernel
theorem dX11_advance_241 : decode cX11_advance 241 = .ok (.iadd, 1) := by decide +kernel
theorem dX11_advance_242 : decode cX11_advance 242 = .ok (.bipush 48, 2) := by decide +kernel
theorem dX11_advance_244 : decode cX11_advance 244 = .ok (.isub, 1) := by decide +kernel
theorem dX11_advance_245 : decode cX11_advance 245 = .ok (.putfield 130, 3) := by decide +kernel
theorem dX11_advance_248 : decode cX11_advance 248 = .ok (.aload_n 0, 1) := by decide +kernel
theorem dX11_advance_249 : decode cX11_advance 249 = .ok (.dup, 1) := by decide +kernel
theorem dX11_advance_250 : decode cX11_advance 250 = .ok (.getfield 103, 3) := by decide +kernel
theorem dX11_advance_253 : decode cX11_advance 253 = .ok (.iconst 1, 1) := by decide +kernel
theorem dX11_advance_254 : decode cX11_advance 254 = .ok (.iadd, 1) := by decide +kernel
theorem dX11_advance_255 : decode cX11_advance 255 = .ok (.putfield 103, 3) := by decide +kernel
theorem dX11_advance_258 : decode cX11_advance 258 = .ok (.goto (-60), 3) := by decide +kernel
theorem dX11_advance_261 : decode cX11_advance 261 = .ok (.aload_n 0, 1) := by decide +kernel
theorem dX11_advance_262 : decode cX11_advance 262 = .ok (.aload_n 0, 1) := by decide +kernel
theorem dX11_advance_263 : decode cX11_advance 263 = .ok (.getfield 103, 3) := by decide +kernel
theorem dX11_advance_266 : decode cX11_advance 266 = .ok (.aload_n 0, 1) := by decide +kernel
theorem dX11_advance_267 : decode cX11_advance 267 = .ok (.getfield 110, 3) := by decide +kernel
theorem dX11_advance_270 : decode cX11_advance 270 = .ok (.isub, 1) := by decide +kernel
theorem dX11_advance_271 : decode cX11_advance 271 = .ok (.iconst 4, 1) := by decide +kernel
theorem dX11_advance_272 : decode cX11_advance 272 = .ok (.if_icmp .le 7, 3) := by decide +kernel
theorem dX11_advance_275 : decode cX11_advance 275 = .ok (.iconst 4, 1) := by decide +kernel
theorem dX11_advance_276 : decode cX11_advance 276 = .ok (.goto 4, 3) := by decide +kernel
theorem dX11_advance_279 : decode cX11_advance 279 = .ok (.iconst 1, 1) := by decide +kernel
theorem dX11_advance_280 : decode cX11_advance 280 = .ok (.putfield 113, 3) := by decide +kernel
theorem dX11_advance_283 : decode cX11_advance 283 = .ok (.goto 34, 3) := by decide +kernel
theorem dX11_advance_286 : decode cX11_advance 286 = .ok (.aload_n 0, 1) := by decide +kernel
theorem dX11_advance_287 : decode cX11_advance 287 = .ok (.dup, 1) := by decide +kernel
theorem dX11_advance_288 : decode cX11_advance 288 = .ok (.getfield 103, 3) := by decide +kernel
theorem dX11_advance_291 : decode cX11_advance 291 = .ok (.iconst 1, 1) := by decide +kernel
theorem dX11_advance_292 : decode cX11_advance 292 = .ok (.iadd, 1) := by decide +kernel
theorem dX11_advance_293 : decode cX11_advance 293 = .ok (.putfield 103, 3) := by decide +kernel
theorem dX11_advance_296 : decode cX11_advance 296 = .ok (.aload_n 0, 1) := by decide +kernel
theorem dX11_advance_297 : decode cX11_advance 297 = .ok (.iload_n 1, 1) := by decide +kernel
theorem dX11_advance_298 : decode cX11_advance 298 = .ok (.putfield 133, 3) := by decide +kernel
theorem dX11_advance_301 : decode cX11_advance 301 = .ok (.aload_n 0, 1) := by decide +kernel
theorem dX11_advance_302 : decode cX11_advance 302 = .ok (.iload_n 1, 1) := by decide +kernel
theorem dX11_advance_303 : decode cX11_advance 303 = .ok (.invokestatic 136, 3) := by decide +kernel
theorem dX11_advance_306 : decode cX11_advance 306 = .ok (.ifCond .eq 7, 3) := by decide +kernel
theorem dX11_advance_309 : decode cX11_advance 309 = .ok (.iconst 2, 1) := by decide +kernel
theorem dX11_advance_310 : decode cX11_advance 310 = .ok (.goto 4, 3) := by decide +kernel
theorem dX11_advance_313 : decode cX11_advance 313 = .ok (.iconst 4, 1) := by decide +kernel
theorem dX11_advance_314 : decode cX11_advance 314 = .ok (.putfield 113, 3) := by decide +kernel
theorem dX11_advance_317 : decode cX11_advance 317 = .ok (.return_, 1) := by decide +kernel

theorem dX11_stops_0 : decode cX11_stops 0 = .ok (.aload_n 0, 1) := by decide +kernel
theorem dX11_stops_1 : decode cX11_stops 1 = .ok (.getfield 139, 3) := by decide +kernel
theorem dX11_stops_4 : decode cX11_stops 4 = .ok (.ifCond .eq 4, 3) := by decide +kernel
theorem dX11_stops_7 : decode cX11_stops 7 = .ok (.return_, 1) := by decide +kernel
theorem dX11_stops_8 : decode cX11_stops 8 = .ok (.aload_n 0, 1) := by decide +kernel
theorem dX11_stops_9 : decode cX11_stops 9 = .ok (.iconst 1, 1) := by decide +kernel
theorem dX11_stops_10 : decode cX11_stops 10 = .ok (.putfield 139, 3) := by decide +kernel
theorem dX11_stops_13 : decode cX11_stops 13 = .ok (.aload_n 0, 1) := by decide +kernel
theorem dX11_stops_14 : decode cX11_stops 14 = .ok (.getfield 8, 3) := by decide +kernel
theorem dX11_stops_17 : decode cX11_stops 17 = .ok (.bipush 10, 2) := by decide +kernel
theorem dX11_stops_19 : decode cX11_stops 19 = .ok (.iconst 1, 1) := by decide +kernel
theorem dX11_stops_20 : decode cX11_stops 20 = .ok (.iastore, 1) := by decide +kernel
theorem dX11_stops_21 : decode cX11_stops 21 = .ok (.aload_n 0, 1) := by decide +kernel
theorem dX11_stops_22 : decode cX11_stops 22 = .ok (.getfield 8, 3) := by decide +kernel
theorem dX11_stops_25 : decode cX11_stops 25 = .ok (.bipush 11, 2) := by decide +kernel
theorem dX11_stops_27 : decode cX11_stops 27 = .ok (.aload_n 0, 1) := by decide +kernel
theorem dX11_stops_28 : decode cX11_stops 28 = .ok (.getfield 110, 3) := by decide +kernel
theorem dX11_stops_31 : decode cX11_stops 31 = .ok (.iastore, 1) := by decide +kernel
theorem dX11_stops_32 : decode cX11_stops 32 = .ok (.return_, 1) := by decide +kernel

theorem dX11_isWord_0 : decode cX11_isWord 0 = .ok (.aload_n 0, 1) := by decide +kernel
theorem dX11_isWord_1 : decode cX11_isWord 1 = .ok (.getfield 139, 3) := by decide +kernel
theorem dX11_isWord_4 : decode cX11_isWord 4 = .ok (.ifCond .ne 23, 3) := by decide +kernel
theorem dX11_isWord_7 : decode cX11_isWord 7 = .ok (.aload_n 0, 1) := by decide +kernel
theorem dX11_isWord_8 : decode cX11_isWord 8 = .ok (.getfield 113, 3) := by decide +kernel
theorem dX11_isWord_11 : decode cX11_isWord 11 = .ok (.iconst 3, 1) := by decide +kernel
theorem dX11_isWord_12 : decode cX11_isWord 12 = .ok (.if_icmp .ne 15, 3) := by decide +kernel
theorem dX11_isWord_15 : decode cX11_isWord 15 = .ok (.aload_n 0, 1) := by decide +kernel
theorem dX11_isWord_16 : decode cX11_isWord 16 = .ok (.getfield 124, 3) := by decide +kernel
theorem dX11_isWord_19 : decode cX11_isWord 19 = .ok (.iload_n 1, 1) := by decide +kernel
theorem dX11_isWord_20 : decode cX11_isWord 20 = .ok (.if_icmp .ne 7, 3) := by decide +kernel
theorem dX11_isWord_23 : decode cX11_isWord 23 = .ok (.iconst 1, 1) := by decide +kernel
theorem dX11_isWord_24 : decode cX11_isWord 24 = .ok (.goto 4, 3) := by decide +kernel
theorem dX11_isWord_27 : decode cX11_isWord 27 = .ok (.iconst 0, 1) := by decide +kernel
theorem dX11_isWord_28 : decode cX11_isWord 28 = .ok (.ireturn, 1) := by decide +kernel

theorem dX11_isSign_0 : decode cX11_isSign 0 = .ok (.aload_n 0, 1) := by decide +kernel
theorem dX11_isSign_1 : decode cX11_isSign 1 = .ok (.getfield 139, 3) := by decide +kernel
theorem dX11_isSign_4 : decode cX11_isSign 4 = .ok (.ifCond .ne 23, 3) := by decide +kernel
theorem dX11_isSign_7 : decode cX11_isSign 7 = .ok (.aload_n 0, 1) := by decide +kernel
theorem dX11_isSign_8 : decode cX11_isSign 8 = .ok (.getfield 113, 3) := by decide +kernel
theorem dX11_isSign_11 : decode cX11_isSign 11 = .ok (.iconst 2, 1) := by decide +kernel
theorem dX11_isSign_12 : decode cX11_isSign 12 = .ok (.if_icmp .ne 15, 3) := by decide +kernel
theorem dX11_isSign_15 : decode cX11_isSign 15 = .ok (.aload_n 0, 1) := by decide +kernel
theorem dX11_isSign_16 : decode cX11_isSign 16 = .ok (.getfield 133, 3) := by decide +kernel
theorem dX11_isSign_19 : decode cX11_isSign 19 = .ok (.iload_n 1, 1) := by decide +kernel
theorem dX11_isSign_20 : decode cX11_isSign 20 = .ok (.if_icmp .ne 7, 3) := by decide +kernel
theorem dX11_isSign_23 : decode cX11_isSign 23 = .ok (.iconst 1, 1) := by decide +kernel
theorem dX11_isSign_24 : decode cX11_isSign 24 = .ok (.goto 4, 3) := by decide +kernel
theorem dX11_isSign_27 : decode cX11_isSign 27 = .ok (.iconst 0, 1) := by decide +kernel
theorem dX11_isSign_28 : decode cX11_isSign 28 = .ok (.ireturn, 1) := by decide +kernel

set_option maxRecDepth 20000 in
theorem ggX11_takesWord_X11_isWord : GoodIn wsX11_takesWord wsX11_isWord := goodIn_r _ [5, 6, 7, 8, 50, 51, 52, 53, 54, 55, 56, 57, 58, 59, 60, 61, 62, 63, 64, 65, 66, 67, 68, 69] (by decide +kernel) (by decide +kernel)
set_option maxRecDepth 20000 in
theorem gX11_takesWord_X11_isWord : GoodIn wsX11_takesWord (wsV RX11 143 RX11 yX11_isWord wsX11_isWord) := goodIn_app (goodIn_of _ (by decide +kernel)) ggX11_takesWord_X11_isWord
set_option maxRecDepth 20000 in
theorem ggX11_takesWord_X11_advance : GoodIn wsX11_takesWord wsX11_advance := goodIn_r _ [12, 13, 14, 7, 15, 16, 8, 17, 18, 19, 20, 21, 4, 22, 23, 24, 25, 26, 27, 28, 29, 30, 31, 32, 33, 34, 35, 36, 37, 38, 39, 40, 41, 42, 43, 44, 45, 46, 47, 48, 49, 50, 51, 52, 53, 54, 55, 56, 57, 58, 59, 60, 61, 62, 63, 64, 65, 66, 67, 68, 69] (by decide +kernel) (by decide +kernel)
set_option maxRecDepth 20000 in
theorem gX11_takesWord_X11_advance : GoodIn wsX11_takesWord (wsV RX11 146 RX11 yX11_advance wsX11_advance) := goodIn_app (goodIn_of _ (by decide +kernel)) ggX11_takesWord_X11_advance
theorem dX11_takesWord_0 : decode cX11_takesWord 0 = .ok (.aload_n 0, 1) := by decide +kernel
theorem dX11_takesWord_1 : decode cX11_takesWord 1 = .ok (.iload_n 1, 1) := by decide +kernel
theorem dX11_takesWord_2 : decode cX11_takesWord 2 = .ok (.invokevirtual 143, 3) := by decide +kernel
theorem dX11_takesWord_5 : decode cX11_takesWord 5 = .ok (.ifCond .ne 5, 3) := by decide +kernel
theorem dX11_takesWord_8 : decode cX11_takesWord 8 = .ok (.iconst 0, 1) := by decide +kernel
theorem dX11_takesWord_9 : decode cX11_takesWord 9 = .ok (.ireturn, 1) := by decide +kernel
theorem dX11_takesWord_10 : decode cX11_takesWord 10 = .ok (.aload_n 0, 1) := by decide +kernel
theorem dX11_takesWord_11 : decode cX11_takesWord 11 = .ok (.invokevirtual 146, 3) := by decide +kernel
theorem dX11_takesWord_14 : decode cX11_takesWord 14 = .ok (.iconst 1, 1) := by decide +kernel
theorem dX11_takesWord_15 : decode cX11_takesWord 15 = .ok (.ireturn, 1) := by decide +kernel

set_option maxRecDepth 20000 in
theorem ggX11_must_X11_isSign : GoodIn wsX11_must wsX11_isSign := goodIn_r _ [5, 6, 7, 8, 54, 55, 56, 57, 58, 59, 60, 61, 62, 63, 64, 65, 66, 67, 68, 69, 70, 71, 72, 73] (by decide +kernel) (by decide +kernel)
set_option maxRecDepth 20000 in
theorem gX11_must_X11_isSign : GoodIn wsX11_must (wsV RX11 149 RX11 yX11_isSign wsX11_isSign) := goodIn_app (goodIn_of _ (by decide +kernel)) ggX11_must_X11_isSign
set_option maxRecDepth 20000 in
theorem ggX11_must_X11_advance : GoodIn wsX11_must wsX11_advance := goodIn_r _ [12, 13, 14, 7, 15, 16, 17, 18, 8, 19, 20, 21, 4, 22, 23, 24, 25, 26, 27, 28, 29, 30, 31, 32, 33, 34, 35, 36, 37, 38, 39, 40, 41, 42, 43, 44, 45, 46, 47, 48, 49, 54, 55, 56, 57, 58, 59, 60, 61, 62, 63, 64, 65, 66, 67, 68, 69, 70, 71, 72, 73] (by decide +kernel) (by decide +kernel)
set_option maxRecDepth 20000 in
theorem gX11_must_X11_advance : GoodIn wsX11_must (wsV RX11 146 RX11 yX11_advance wsX11_advance) := goodIn_app (goodIn_of _ (by decide +kernel)) ggX11_must_X11_advance
set_option maxRecDepth 20000 in
theorem ggX11_must_X11_stops : GoodIn wsX11_must wsX11_stops := goodIn_r _ [53, 6, 24, 14, 54, 55, 56, 57, 58, 59, 60, 61, 62, 63, 64, 65, 66, 67, 68, 69, 70, 71, 72, 73] (by decide +kernel) (by decide +kernel)
set_option maxRecDepth 20000 in
theorem gX11_must_X11_stops : GoodIn wsX11_must (wsV RX11 152 RX11 yX11_stops wsX11_stops) := goodIn_app (goodIn_of _ (by decide +kernel)) ggX11_must_X11_stops
theorem dX11_must_0 : decode cX11_must 0 = .ok (.aload_n 0, 1) := by decide +kernel
theorem dX11_must_1 : decode cX11_must 1 = .ok (.iload_n 1, 1) := by decide +kernel
theorem dX11_must_2 : decode cX11_must 2 = .ok (.invokevirtual 149, 3) := by decide +kernel
theorem dX11_must_5 : decode cX11_must 5 = .ok (.ifCond .eq 10, 3) := by decide +kernel
theorem dX11_must_8 : decode cX11_must 8 = .ok (.aload_n 0, 1) := by decide +kernel
theorem dX11_must_9 : decode cX11_must 9 = .ok (.invokevirtual 146, 3) := by decide +kernel
theorem dX11_must_12 : decode cX11_must 12 = .ok (.goto 7, 3) := by decide +kernel
theorem dX11_must_15 : decode cX11_must 15 = .ok (.aload_n 0, 1) := by decide +kernel
theorem dX11_must_16 : decode cX11_must 16 = .ok (.invokevirtual 152, 3) := by decide +kernel
theorem dX11_must_19 : decode cX11_must 19 = .ok (.return_, 1) := by decide +kernel

set_option maxRecDepth 20000 in
theorem ggX11_numbered_X11_advance : GoodIn wsX11_numbered wsX11_advance := goodIn_r _ [8, 9, 10, 3, 11, 12, 13, 1, 14, 15, 16, 17, 7, 18, 19, 20, 21, 22, 23, 24, 25, 26, 27, 28, 29, 30, 31, 32, 33, 34, 35, 36, 37, 38, 39, 40, 41, 42, 43, 44, 45, 50, 51, 52, 53, 54, 55, 56, 57, 58, 59, 60, 61, 62, 63, 64, 65, 66, 67, 68, 69] (by decide +kernel) (by decide +kernel)
set_option maxRecDepth 20000 in
theorem gX11_numbered_X11_advance : GoodIn wsX11_numbered (wsV RX11 146 RX11 yX11_advance wsX11_advance) := goodIn_app (goodIn_of _ (by decide +kernel)) ggX11_numbered_X11_advance
set_option maxRecDepth 20000 in
theorem ggX11_numbered_X11_stops : GoodIn wsX11_numbered wsX11_stops := goodIn_r _ [49, 2, 20, 10, 50, 51, 52, 53, 54, 55, 56, 57, 58, 59, 60, 61, 62, 63, 64, 65, 66, 67, 68, 69] (by decide +kernel) (by decide +kernel)
set_option maxRecDepth 20000 in
theorem gX11_numbered_X11_stops : GoodIn wsX11_numbered (wsV RX11 152 RX11 yX11_stops wsX11_stops) := goodIn_app (goodIn_of _ (by decide +kernel)) ggX11_numbered_X11_stops
theorem dX11_numbered_0 : decode cX11_numbered 0 = .ok (.aload_n 0, 1) := by decide +kernel
theorem dX11_numbered_1 : decode cX11_numbered 1 = .ok (.getfield 130, 3) := by decide +kernel
theorem dX11_numbered_4 : decode cX11_numbered 4 = .ok (.istore_n 1, 1) := by decide +kernel
theorem dX11_numbered_5 : decode cX11_numbered 5 = .ok (.aload_n 0, 1) := by decide +kernel
theorem dX11_numbered_6 : decode cX11_numbered 6 = .ok (.getfield 139, 3) := by decide +kernel
theorem dX11_numbered_9 : decode cX11_numbered 9 = .ok (.ifCond .ne 18, 3) := by decide +kernel
theorem dX11_numbered_12 : decode cX11_numbered 12 = .ok (.aload_n 0, 1) := by decide +kernel
theorem dX11_numbered_13 : decode cX11_numbered 13 = .ok (.getfield 113, 3) := by decide +kernel
theorem dX11_numbered_16 : decode cX11_numbered 16 = .ok (.iconst 1, 1) := by decide +kernel
theorem dX11_numbered_17 : decode cX11_numbered 17 = .ok (.if_icmp .ne 10, 3) := by decide +kernel
theorem dX11_numbered_20 : decode cX11_numbered 20 = .ok (.aload_n 0, 1) := by decide +kernel
theorem dX11_numbered_21 : decode cX11_numbered 21 = .ok (.invokevirtual 146, 3) := by decide +kernel
theorem dX11_numbered_24 : decode cX11_numbered 24 = .ok (.goto 7, 3) := by decide +kernel
theorem dX11_numbered_27 : decode cX11_numbered 27 = .ok (.aload_n 0, 1) := by decide +kernel
theorem dX11_numbered_28 : decode cX11_numbered 28 = .ok (.invokevirtual 152, 3) := by decide +kernel
theorem dX11_numbered_31 : decode cX11_numbered 31 = .ok (.iload_n 1, 1) := by decide +kernel
theorem dX11_numbered_32 : decode cX11_numbered 32 = .ok (.ireturn, 1) := by decide +kernel

theorem dX11_emit_0 : decode cX11_emit 0 = .ok (.aload_n 0, 1) := by decide +kernel
theorem dX11_emit_1 : decode cX11_emit 1 = .ok (.getfield 21, 3) := by decide +kernel
theorem dX11_emit_4 : decode cX11_emit 4 = .ok (.iconst 3, 1) := by decide +kernel
theorem dX11_emit_5 : decode cX11_emit 5 = .ok (.aload_n 0, 1) := by decide +kernel
theorem dX11_emit_6 : decode cX11_emit 6 = .ok (.getfield 155, 3) := by decide +kernel
theorem dX11_emit_9 : decode cX11_emit 9 = .ok (.imul, 1) := by decide +kernel
theorem dX11_emit_10 : decode cX11_emit 10 = .ok (.iload_n 1, 1) := by decide +kernel
theorem dX11_emit_11 : decode cX11_emit 11 = .ok (.iastore, 1) := by decide +kernel
theorem dX11_emit_12 : decode cX11_emit 12 = .ok (.aload_n 0, 1) := by decide +kernel
theorem dX11_emit_13 : decode cX11_emit 13 = .ok (.getfield 21, 3) := by decide +kernel
theorem dX11_emit_16 : decode cX11_emit 16 = .ok (.iconst 3, 1) := by decide +kernel
theorem dX11_emit_17 : decode cX11_emit 17 = .ok (.aload_n 0, 1) := by decide +kernel
theorem dX11_emit_18 : decode cX11_emit 18 = .ok (.getfield 155, 3) := by decide +kernel
theorem dX11_emit_21 : decode cX11_emit 21 = .ok (.imul, 1) := by decide +kernel
theorem dX11_emit_22 : decode cX11_emit 22 = .ok (.iconst 1, 1) := by decide +kernel
theorem dX11_emit_23 : decode cX11_emit 23 = .ok (.iadd, 1) := by decide +kernel
theorem dX11_emit_24 : decode cX11_emit 24 = .ok (.iload_n 2, 1) := by decide +kernel
theorem dX11_emit_25 : decode cX11_emit 25 = .ok (.iastore, 1) := by decide +kernel
theorem dX11_emit_26 : decode cX11_emit 26 = .ok (.aload_n 0, 1) := by decide +kernel
theorem dX11_emit_27 : decode cX11_emit 27 = .ok (.getfield 21, 3) := by decide +kernel
theorem dX11_emit_30 : decode cX11_emit 30 = .ok (.iconst 3, 1) := by decide +kernel
theorem dX11_emit_31 : decode cX11_emit 31 = .ok (.aload_n 0, 1) := by decide +kernel
theorem dX11_emit_32 : decode cX11_emit 32 = .ok (.getfield 155, 3) := by decide +kernel
theorem dX11_emit_35 : decode cX11_emit 35 = .ok (.imul, 1) := by decide +kernel
theorem dX11_emit_36 : decode cX11_emit 36 = .ok (.iconst 2, 1) := by decide +kernel
theorem dX11_emit_37 : decode cX11_emit 37 = .ok (.iadd, 1) := by decide +kernel
theorem dX11_emit_38 : decode cX11_emit 38 = .ok (.iload_n 3, 1) := by decide +kernel
theorem dX11_emit_39 : decode cX11_emit 39 = .ok (.iastore, 1) := by decide +kernel
theorem dX11_emit_40 : decode cX11_emit 40 = .ok (.aload_n 0, 1) := by decide +kernel
theorem dX11_emit_41 : decode cX11_emit 41 = .ok (.dup, 1) := by decide +kernel
theorem dX11_emit_42 : decode cX11_emit 42 = .ok (.getfield 155, 3) := by decide +kernel
theorem dX11_emit_45 : decode cX11_emit 45 = .ok (.iconst 1, 1) := by decide +kernel
theorem dX11_emit_46 : decode cX11_emit 46 = .ok (.iadd, 1) := by decide +kernel
theorem dX11_emit_47 : decode cX11_emit 47 = .ok (.putfield 155, 3) := by decide +kernel
theorem dX11_emit_50 : decode cX11_emit 50 = .ok (.return_, 1) := by decide +kernel

set_option maxRecDepth 20000 in
theorem ggX11_atom_X11_isSign : GoodIn wsX11_atom wsX11_isSign := goodIn_r _ [9, 1, 2, 4, 92, 93, 94, 95, 96, 97, 98, 99, 100, 101, 102, 103, 104, 105, 106, 107, 108, 109, 110, 111] (by decide +kernel) (by decide +kernel)
set_option maxRecDepth 20000 in
theorem gX11_atom_X11_isSign : GoodIn wsX11_atom (wsV RX11 149 RX11 yX11_isSign wsX11_isSign) := goodIn_app (goodIn_of _ (by decide +kernel)) ggX11_atom_X11_isSign
set_option maxRecDepth 20000 in
theorem ggX11_atom_X11_advance : GoodIn wsX11_atom wsX11_advance := goodIn_r _ [13, 14, 15, 2, 16, 17, 3, 18, 4, 19, 20, 21, 8, 22, 23, 24, 25, 26, 27, 28, 29, 30, 31, 32, 33, 34, 35, 36, 37, 38, 39, 40, 41, 42, 43, 44, 45, 46, 47, 48, 49, 92, 93, 94, 95, 96, 97, 98, 99, 100, 101, 102, 103, 104, 105, 106, 107, 108, 109, 110, 111] (by decide +kernel) (by decide +kernel)
set_option maxRecDepth 20000 in
theorem gX11_atom_X11_advance : GoodIn wsX11_atom (wsV RX11 146 RX11 yX11_advance wsX11_advance) := goodIn_app (goodIn_of _ (by decide +kernel)) ggX11_atom_X11_advance
set_option maxRecDepth 20000 in
theorem ggX11_atom_X11_anyOf : GoodIn wsX11_atom wsX11_anyOf := goodIn_r _ [83, 84, 1, 57, 58, 59, 8, 60, 24, 15, 85, 86, 87, 75, 76, 77, 78, 79, 80, 81, 82, 2, 3, 10, 11, 12, 13, 14, 16, 17, 18, 4, 19, 20, 21, 22, 23, 25, 26, 27, 28, 29, 30, 31, 32, 33, 34, 35, 36, 37, 38, 39, 40, 41, 42, 43, 44, 45, 46, 47, 48, 49, 65, 66, 67, 68, 69, 70, 71, 72, 73, 74, 0, 5, 6, 7, 9, 50, 51, 52, 53, 54, 55, 56, 61, 62, 63, 64, 88, 89, 90, 91, 92, 93, 94, 95, 96, 97, 98, 99, 100, 101, 102, 103, 104, 105, 106, 107, 108, 109, 110, 111] (by decide +kernel) (by decide +kernel)
set_option maxRecDepth 20000 in
theorem gX11_atom_X11_anyOf : GoodIn wsX11_atom (wsV RX11 176 RX11 yX11_anyOf wsX11_anyOf) := goodIn_app (goodIn_of _ (by decide +kernel)) ggX11_atom_X11_anyOf
set_option maxRecDepth 20000 in
theorem ggX11_atom_X11_must : GoodIn wsX11_atom wsX11_must := goodIn_r _ [56, 5, 6, 7, 8, 9, 1, 2, 4, 10, 11, 12, 13, 14, 15, 16, 17, 3, 18, 19, 20, 21, 22, 23, 24, 25, 26, 27, 28, 29, 30, 31, 32, 33, 34, 35, 36, 37, 38, 39, 40, 41, 42, 43, 44, 45, 46, 47, 48, 49, 57, 58, 59, 60, 92, 93, 94, 95, 96, 97, 98, 99, 100, 101, 102, 103, 104, 105, 106, 107, 108, 109, 110, 111] (by decide +kernel) (by decide +kernel)
set_option maxRecDepth 20000 in
theorem gX11_atom_X11_must : GoodIn wsX11_atom (wsV RX11 179 RX11 yX11_must wsX11_must) := goodIn_app (goodIn_of _ (by decide +kernel)) ggX11_atom_X11_must
set_option maxRecDepth 20000 in
theorem ggX11_atom_X11_stops : GoodIn wsX11_atom wsX11_stops := goodIn_r _ [60, 1, 24, 15, 92, 93, 94, 95, 96, 97, 98, 99, 100, 101, 102, 103, 104, 105, 106, 107, 108, 109, 110, 111] (by decide +kernel) (by decide +kernel)
set_option maxRecDepth 20000 in
theorem gX11_atom_X11_stops : GoodIn wsX11_atom (wsV RX11 152 RX11 yX11_stops wsX11_stops) := goodIn_app (goodIn_of _ (by decide +kernel)) ggX11_atom_X11_stops
set_option maxRecDepth 20000 in
theorem ggX11_atom_X11_numbered : GoodIn wsX11_atom wsX11_numbered := goodIn_r _ [64, 18, 1, 2, 10, 11, 12, 8, 13, 14, 15, 16, 17, 3, 4, 19, 20, 21, 22, 23, 24, 25, 26, 27, 28, 29, 30, 31, 32, 33, 34, 35, 36, 37, 38, 39, 40, 41, 42, 43, 44, 45, 46, 47, 48, 49, 57, 58, 59, 60, 92, 93, 94, 95, 96, 97, 98, 99, 100, 101, 102, 103, 104, 105, 106, 107, 108, 109, 110, 111] (by decide +kernel) (by decide +kernel)
set_option maxRecDepth 20000 in
theorem gX11_atom_X11_numbered : GoodIn wsX11_atom (wsV RX11 183 RX11 yX11_numbered wsX11_numbered) := goodIn_app (goodIn_of _ (by decide +kernel)) ggX11_atom_X11_numbered
set_option maxRecDepth 20000 in
theorem ggX11_atom_X11_emit : GoodIn wsX11_atom wsX11_emit := goodIn_r _ [68, 69, 70, 92, 93, 94, 95, 96, 97, 98, 99, 100, 101, 102, 103, 104, 105, 106, 107, 108, 109, 110, 111] (by decide +kernel) (by decide +kernel)
set_option maxRecDepth 20000 in
theorem gX11_atom_X11_emit : GoodIn wsX11_atom (wsV RX11 167 RX11 yX11_emit wsX11_emit) := goodIn_app (goodIn_of _ (by decide +kernel)) ggX11_atom_X11_emit
theorem dX11_atom_0 : decode cX11_atom 0 = .ok (.aload_n 0, 1) := by decide +kernel
theorem dX11_atom_1 : decode cX11_atom 1 = .ok (.bipush 40, 2) := by decide +kernel
theorem dX11_atom_3 : decode cX11_atom 3 = .ok (.invokevirtual 149, 3) := by decide +kernel
theorem dX11_atom_6 : decode cX11_atom 6 = .ok (.ifCond .eq 18, 3) := by decide +kernel
theorem dX11_atom_9 : decode cX11_atom 9 = .ok (.aload_n 0, 1) := by decide +kernel
theorem dX11_atom_10 : decode cX11_atom 10 = .ok (.invokevirtual 146, 3) := by decide +kernel
theorem dX11_atom_13 : decode cX11_atom 13 = .ok (.aload_n 0, 1) := by decide +kernel
theorem dX11_atom_14 : decode cX11_atom 14 = .ok (.invokevirtual 176, 3) := by decide +kernel
theorem dX11_atom_17 : decode cX11_atom 17 = .ok (.aload_n 0, 1) := by decide +kernel
theorem dX11_atom_18 : decode cX11_atom 18 = .ok (.bipush 41, 2) := by decide +kernel
theorem dX11_atom_20 : decode cX11_atom 20 = .ok (.invokevirtual 179, 3) := by decide +kernel
theorem dX11_atom_23 : decode cX11_atom 23 = .ok (.return_, 1) := by decide +kernel
theorem dX11_atom_24 : decode cX11_atom 24 = .ok (.aload_n 0, 1) := by decide +kernel
theorem dX11_atom_25 : decode cX11_atom 25 = .ok (.getfield 139, 3) := by decide +kernel
theorem dX11_atom_28 : decode cX11_atom 28 = .ok (.ifCond .ne 20, 3) := by decide +kernel
theorem dX11_atom_31 : decode cX11_atom 31 = .ok (.aload_n 0, 1) := by decide +kernel
theorem dX11_atom_32 : decode cX11_atom 32 = .ok (.getfield 113, 3) := by decide +kernel
theorem dX11_atom_35 : decode cX11_atom 35 = .ok (.iconst 3, 1) := by decide +kernel
theorem dX11_atom_36 : decode cX11_atom 36 = .ok (.if_icmp .ne 12, 3) := by decide +kernel
theorem dX11_atom_39 : decode cX11_atom 39 = .ok (.aload_n 0, 1) := by decide +kernel
theorem dX11_atom_40 : decode cX11_atom 40 = .ok (.getfield 124, 3) := by decide +kernel
theorem dX11_atom_43 : decode cX11_atom 43 = .ok (.bipush 12, 2) := by decide +kernel
theorem dX11_atom_45 : decode cX11_atom 45 = .ok (.if_icmp .le 8, 3) := by decide +kernel
theorem dX11_atom_48 : decode cX11_atom 48 = .ok (.aload_n 0, 1) := by decide +kernel
theorem dX11_atom_49 : decode cX11_atom 49 = .ok (.invokevirtual 152, 3) := by decide +kernel
theorem dX11_atom_52 : decode cX11_atom 52 = .ok (.return_, 1) := by decide +kernel
theorem dX11_atom_53 : decode cX11_atom 53 = .ok (.aload_n 0, 1) := by decide +kernel
theorem dX11_atom_54 : decode cX11_atom 54 = .ok (.getfield 124, 3) := by decide +kernel
theorem dX11_atom_57 : decode cX11_atom 57 = .ok (.istore_n 1, 1) := by decide +kernel
theorem dX11_atom_58 : decode cX11_atom 58 = .ok (.aload_n 0, 1) := by decide +kernel
theorem dX11_atom_59 : decode cX11_atom 59 = .ok (.invokevirtual 146, 3) := by decide +kernel
theorem dX11_atom_62 : decode cX11_atom 62 = .ok (.aload_n 0, 1) := by decide +kernel
theorem dX11_atom_63 : decode cX11_atom 63 = .ok (.bipush 61, 2) := by decide +kernel
theorem dX11_atom_65 : decode cX11_atom 65 = .ok (.invokevirtual 149, 3) := by decide +kernel
theorem dX11_atom_68 : decode cX11_atom 68 = .ok (.ifCond .ne 26, 3) := by decide +kernel
theorem dX11_atom_71 : decode cX11_atom 71 = .ok (.aload_n 0, 1) := by decide +kernel
theorem dX11_atom_72 : decode cX11_atom 72 = .ok (.bipush 60, 2) := by decide +kernel
theorem dX11_atom_74 : decode cX11_atom 74 = .ok (.invokevirtual 149, 3) := by decide +kernel
theorem dX11_atom_77 : decode cX11_atom 77 = .ok (.ifCond .ne 17, 3) := by decide +kernel
theorem dX11_atom_80 : decode cX11_atom 80 = .ok (.aload_n 0, 1) := by decide +kernel
theorem dX11_atom_81 : decode cX11_atom 81 = .ok (.bipush 62, 2) := by decide +kernel
theorem dX11_atom_83 : decode cX11_atom 83 = .ok (.invokevirtual 149, 3) := by decide +kernel
theorem dX11_atom_86 : decode cX11_atom 86 = .ok (.ifCond .ne 8, 3) := by decide +kernel
theorem dX11_atom_89 : decode cX11_atom 89 = .ok (.aload_n 0, 1) := by decide +kernel
theorem dX11_atom_90 : decode cX11_atom 90 = .ok (.invokevirtual 152, 3) := by decide +kernel
theorem dX11_atom_93 : decode cX11_atom 93 = .ok (.return_, 1) := by decide +kernel
theorem dX11_atom_94 : decode cX11_atom 94 = .ok (.aload_n 0, 1) := by decide +kernel
theorem dX11_atom_95 : decode cX11_atom 95 = .ok (.getfield 133, 3) := by decide +kernel
theorem dX11_atom_98 : decode cX11_atom 98 = .ok (.istore_n 2, 1) := by decide +kernel
theorem dX11_atom_99 : decode cX11_atom 99 = .ok (.aload_n 0, 1) := by decide +kernel
theorem dX11_atom_100 : decode cX11_atom 100 = .ok (.invokevirtual 146, 3) := by decide +kernel
theorem dX11_atom_103 : decode cX11_atom 103 = .ok (.aload_n 0, 1) := by decide +kernel
theorem dX11_atom_104 : decode cX11_atom 104 = .ok (.iload_n 1, 1) := by decide +kernel
theorem dX11_atom_105 : decode cX11_atom 105 = .ok (.iload_n 2, 1) := by decide +kernel
theorem dX11_atom_106 : decode cX11_atom 106 = .ok (.aload_n 0, 1) := by decide +kernel
theorem dX11_atom_107 : decode cX11_atom 107 = .ok (.invokevirtual 183, 3) := by decide +kernel
theorem dX11_atom_110 : decode cX11_atom 110 = .ok (.invokevirtual 167, 3) := by decide +kernel
theorem dX11_atom_113 : decode cX11_atom 113 = .ok (.return_, 1) := by decide +kernel

set_option maxRecDepth 20000 in
theorem ggX11_notOf_X11_takesWord : GoodIn wsX11_notOf wsX11_takesWord := goodIn_r _ [5, 6, 7, 8, 4, 9, 10, 11, 12, 13, 14, 15, 16, 17, 18, 19, 20, 21, 22, 23, 24, 25, 26, 27, 28, 29, 30, 31, 32, 33, 34, 35, 36, 37, 38, 39, 40, 41, 42, 43, 44, 45, 46, 47, 48, 49, 50, 51, 52, 53, 92, 93, 94, 95, 96, 97, 98, 99, 100, 101, 102, 103, 104, 105, 106, 107, 108, 109, 110, 111] (by decide +kernel) (by decide +kernel)
set_option maxRecDepth 20000 in
theorem gX11_notOf_X11_takesWord : GoodIn wsX11_notOf (wsV RX11 164 RX11 yX11_takesWord wsX11_takesWord) := goodIn_app (goodIn_of _ (by decide +kernel)) ggX11_notOf_X11_takesWord
set_option maxRecDepth 20000 in
theorem ggX11_notOf_X11_atom : GoodIn wsX11_notOf wsX11_atom := goodIn_r _ [76, 10, 11, 12, 22, 77, 78, 79, 4, 80, 13, 14, 15, 16, 17, 18, 19, 20, 21, 23, 24, 25, 26, 27, 28, 29, 30, 31, 32, 33, 34, 35, 36, 37, 38, 39, 40, 41, 42, 43, 44, 45, 46, 47, 48, 49, 50, 51, 52, 53, 81, 82, 83, 84, 85, 86, 87, 69, 70, 71, 72, 88, 89, 90, 91, 57, 58, 59, 60, 61, 62, 63, 64, 65, 66, 1, 2, 3, 5, 6, 7, 8, 9, 67, 68, 73, 74, 75, 0, 54, 55, 56, 92, 93, 94, 95, 96, 97, 98, 99, 100, 101, 102, 103, 104, 105, 106, 107, 108, 109, 110, 111] (by decide +kernel) (by decide +kernel)
set_option maxRecDepth 20000 in
theorem gX11_notOf_X11_atom : GoodIn wsX11_notOf (wsV RX11 173 RX11 yX11_atom wsX11_atom) := goodIn_app (goodIn_of _ (by decide +kernel)) ggX11_notOf_X11_atom
set_option maxRecDepth 20000 in
theorem ggX11_notOf_X11_emit : GoodIn wsX11_notOf wsX11_emit := goodIn_r _ [60, 61, 62, 92, 93, 94, 95, 96, 97, 98, 99, 100, 101, 102, 103, 104, 105, 106, 107, 108, 109, 110, 111] (by decide +kernel) (by decide +kernel)
set_option maxRecDepth 20000 in
theorem gX11_notOf_X11_emit : GoodIn wsX11_notOf (wsV RX11 167 RX11 yX11_emit wsX11_emit) := goodIn_app (goodIn_of _ (by decide +kernel)) ggX11_notOf_X11_emit
theorem dX11_notOf_0 : decode cX11_notOf 0 = .ok (.aload_n 0, 1) := by decide +kernel
theorem dX11_notOf_1 : decode cX11_notOf 1 = .ok (.bipush 33, 2) := by decide +kernel
theorem dX11_notOf_3 : decode cX11_notOf 3 = .ok (.invokevirtual 164, 3) := by decide +kernel
theorem dX11_notOf_6 : decode cX11_notOf 6 = .ok (.istore_n 1, 1) := by decide +kernel
theorem dX11_notOf_7 : decode cX11_notOf 7 = .ok (.aload_n 0, 1) := by decide +kernel
theorem dX11_notOf_8 : decode cX11_notOf 8 = .ok (.invokevirtual 173, 3) := by decide +kernel
theorem dX11_notOf_11 : decode cX11_notOf 11 = .ok (.iload_n 1, 1) := by decide +kernel
theorem dX11_notOf_12 : decode cX11_notOf 12 = .ok (.ifCond .eq 11, 3) := by decide +kernel
theorem dX11_notOf_15 : decode cX11_notOf 15 = .ok (.aload_n 0, 1) := by decide +kernel
theorem dX11_notOf_16 : decode cX11_notOf 16 = .ok (.bipush 33, 2) := by decide +kernel
theorem dX11_notOf_18 : decode cX11_notOf 18 = .ok (.iconst 0, 1) := by decide +kernel
theorem dX11_notOf_19 : decode cX11_notOf 19 = .ok (.iconst 0, 1) := by decide +kernel
theorem dX11_notOf_20 : decode cX11_notOf 20 = .ok (.invokevirtual 167, 3) := by decide +kernel
theorem dX11_notOf_23 : decode cX11_notOf 23 = .ok (.return_, 1) := by decide +kernel

set_option maxRecDepth 20000 in
theorem ggX11_allOf_X11_notOf : GoodIn wsX11_allOf wsX11_notOf := goodIn_r _ [88, 5, 6, 7, 4, 8, 9, 10, 11, 12, 13, 14, 15, 16, 17, 18, 19, 20, 21, 22, 23, 24, 25, 26, 27, 28, 29, 30, 31, 32, 33, 34, 35, 36, 37, 38, 39, 40, 41, 42, 43, 44, 45, 46, 47, 48, 49, 50, 51, 52, 53, 54, 55, 56, 89, 90, 91, 57, 58, 59, 60, 61, 62, 0, 1, 2, 3, 63, 64, 65, 66, 67, 68, 69, 70, 71, 72, 73, 74, 75, 76, 77, 78, 79, 80, 81, 82, 83, 84, 85, 86, 87, 92, 93, 94, 95, 96, 97, 98, 99, 100, 101, 102, 103, 104, 105, 106, 107, 108, 109, 110, 111] (by decide +kernel) (by decide +kernel)
set_option maxRecDepth 20000 in
theorem gX11_allOf_X11_notOf : GoodIn wsX11_allOf (wsV RX11 170 RX11 yX11_notOf wsX11_notOf) := goodIn_app (goodIn_of _ (by decide +kernel)) ggX11_allOf_X11_notOf
set_option maxRecDepth 20000 in
theorem ggX11_allOf_X11_takesWord : GoodIn wsX11_allOf wsX11_takesWord := goodIn_r _ [8, 9, 10, 11, 4, 12, 13, 14, 15, 16, 17, 18, 19, 20, 21, 22, 23, 24, 25, 26, 27, 28, 29, 30, 31, 32, 33, 34, 35, 36, 37, 38, 39, 40, 41, 42, 43, 44, 45, 46, 47, 48, 49, 50, 51, 52, 53, 54, 55, 56, 92, 93, 94, 95, 96, 97, 98, 99, 100, 101, 102, 103, 104, 105, 106, 107, 108, 109, 110, 111] (by decide +kernel) (by decide +kernel)
set_option maxRecDepth 20000 in
theorem gX11_allOf_X11_takesWord : GoodIn wsX11_allOf (wsV RX11 164 RX11 yX11_takesWord wsX11_takesWord) := goodIn_app (goodIn_of _ (by decide +kernel)) ggX11_allOf_X11_takesWord
set_option maxRecDepth 20000 in
theorem ggX11_allOf_X11_emit : GoodIn wsX11_allOf wsX11_emit := goodIn_r _ [60, 61, 62, 92, 93, 94, 95, 96, 97, 98, 99, 100, 101, 102, 103, 104, 105, 106, 107, 108, 109, 110, 111] (by decide +kernel) (by decide +kernel)
set_option maxRecDepth 20000 in
theorem gX11_allOf_X11_emit : GoodIn wsX11_allOf (wsV RX11 167 RX11 yX11_emit wsX11_emit) := goodIn_app (goodIn_of _ (by decide +kernel)) ggX11_allOf_X11_emit
theorem dX11_allOf_0 : decode cX11_allOf 0 = .ok (.aload_n 0, 1) := by decide +kernel
theorem dX11_allOf_1 : decode cX11_allOf 1 = .ok (.invokevirtual 170, 3) := by decide +kernel
theorem dX11_allOf_4 : decode cX11_allOf 4 = .ok (.aload_n 0, 1) := by decide +kernel
theorem dX11_allOf_5 : decode cX11_allOf 5 = .ok (.bipush 32, 2) := by decide +kernel
theorem dX11_allOf_7 : decode cX11_allOf 7 = .ok (.invokevirtual 164, 3) := by decide +kernel
theorem dX11_allOf_10 : decode cX11_allOf 10 = .ok (.ifCond .eq 18, 3) := by decide +kernel
theorem dX11_allOf_13 : decode cX11_allOf 13 = .ok (.aload_n 0, 1) := by decide +kernel
theorem dX11_allOf_14 : decode cX11_allOf 14 = .ok (.invokevirtual 170, 3) := by decide +kernel
theorem dX11_allOf_17 : decode cX11_allOf 17 = .ok (.aload_n 0, 1) := by decide +kernel
theorem dX11_allOf_18 : decode cX11_allOf 18 = .ok (.bipush 32, 2) := by decide +kernel
theorem dX11_allOf_20 : decode cX11_allOf 20 = .ok (.iconst 0, 1) := by decide +kernel
theorem dX11_allOf_21 : decode cX11_allOf 21 = .ok (.iconst 0, 1) := by decide +kernel
theorem dX11_allOf_22 : decode cX11_allOf 22 = .ok (.invokevirtual 167, 3) := by decide +kernel
theorem dX11_allOf_25 : decode cX11_allOf 25 = .ok (.goto (-21), 3) := by decide +kernel
theorem dX11_allOf_28 : decode cX11_allOf 28 = .ok (.return_, 1) := by decide +kernel

set_option maxRecDepth 20000 in
theorem ggX11_anyOf_X11_stops : GoodIn wsX11_anyOf wsX11_stops := goodIn_r _ [7, 2, 8, 9, 92, 93, 94, 95, 96, 97, 98, 99, 100, 101, 102, 103, 104, 105, 106, 107, 108, 109, 110, 111] (by decide +kernel) (by decide +kernel)
set_option maxRecDepth 20000 in
theorem gX11_anyOf_X11_stops : GoodIn wsX11_anyOf (wsV RX11 152 RX11 yX11_stops wsX11_stops) := goodIn_app (goodIn_of _ (by decide +kernel)) ggX11_anyOf_X11_stops
set_option maxRecDepth 20000 in
theorem ggX11_anyOf_X11_allOf : GoodIn wsX11_anyOf wsX11_allOf := goodIn_r _ [68, 69, 70, 71, 6, 13, 14, 15, 16, 17, 18, 19, 20, 2, 21, 22, 23, 24, 25, 26, 27, 9, 28, 29, 30, 31, 32, 33, 34, 35, 36, 8, 37, 38, 39, 40, 41, 42, 43, 44, 45, 46, 47, 48, 49, 50, 51, 52, 53, 54, 55, 56, 57, 58, 59, 60, 61, 62, 63, 64, 65, 66, 67, 0, 1, 3, 4, 5, 7, 10, 11, 12, 72, 73, 74, 75, 76, 77, 78, 79, 80, 81, 82, 83, 84, 85, 86, 87, 88, 89, 90, 91, 92, 93, 94, 95, 96, 97, 98, 99, 100, 101, 102, 103, 104, 105, 106, 107, 108, 109, 110, 111] (by decide +kernel) (by decide +kernel)
set_option maxRecDepth 20000 in
theorem gX11_anyOf_X11_allOf : GoodIn wsX11_anyOf (wsV RX11 161 RX11 yX11_allOf wsX11_allOf) := goodIn_app (goodIn_of _ (by decide +kernel)) ggX11_anyOf_X11_allOf
set_option maxRecDepth 20000 in
theorem ggX11_anyOf_X11_takesWord : GoodIn wsX11_anyOf wsX11_takesWord := goodIn_r _ [16, 17, 18, 19, 6, 20, 2, 21, 22, 23, 24, 25, 26, 27, 9, 28, 29, 30, 31, 32, 33, 34, 35, 36, 8, 37, 38, 39, 40, 41, 42, 43, 44, 45, 46, 47, 48, 49, 50, 51, 52, 53, 54, 55, 56, 57, 58, 59, 60, 61, 92, 93, 94, 95, 96, 97, 98, 99, 100, 101, 102, 103, 104, 105, 106, 107, 108, 109, 110, 111] (by decide +kernel) (by decide +kernel)
set_option maxRecDepth 20000 in
theorem gX11_anyOf_X11_takesWord : GoodIn wsX11_anyOf (wsV RX11 164 RX11 yX11_takesWord wsX11_takesWord) := goodIn_app (goodIn_of _ (by decide +kernel)) ggX11_anyOf_X11_takesWord
set_option maxRecDepth 20000 in
theorem ggX11_anyOf_X11_emit : GoodIn wsX11_anyOf wsX11_emit := goodIn_r _ [65, 66, 67, 92, 93, 94, 95, 96, 97, 98, 99, 100, 101, 102, 103, 104, 105, 106, 107, 108, 109, 110, 111] (by decide +kernel) (by decide +kernel)
set_option maxRecDepth 20000 in
theorem gX11_anyOf_X11_emit : GoodIn wsX11_anyOf (wsV RX11 167 RX11 yX11_emit wsX11_emit) := goodIn_app (goodIn_of _ (by decide +kernel)) ggX11_anyOf_X11_emit
theorem dX11_anyOf_0 : decode cX11_anyOf 0 = .ok (.aload_n 0, 1) := by decide +kernel
theorem dX11_anyOf_1 : decode cX11_anyOf 1 = .ok (.getfield 158, 3) := by decide +kernel
theorem dX11_anyOf_4 : decode cX11_anyOf 4 = .ok (.bipush 8, 2) := by decide +kernel
theorem dX11_anyOf_6 : decode cX11_anyOf 6 = .ok (.if_icmp .ne 7, 3) := by decide +kernel
theorem dX11_anyOf_9 : decode cX11_anyOf 9 = .ok (.aload_n 0, 1) := by decide +kernel
theorem dX11_anyOf_10 : decode cX11_anyOf 10 = .ok (.invokevirtual 152, 3) := by decide +kernel
theorem dX11_anyOf_13 : decode cX11_anyOf 13 = .ok (.aload_n 0, 1) := by decide +kernel
theorem dX11_anyOf_14 : decode cX11_anyOf 14 = .ok (.getfield 139, 3) := by decide +kernel
theorem dX11_anyOf_17 : decode cX11_anyOf 17 = .ok (.ifCond .eq 4, 3) := by decide +kernel
theorem dX11_anyOf_20 : decode cX11_anyOf 20 = .ok (.return_, 1) := by decide +kernel
theorem dX11_anyOf_21 : decode cX11_anyOf 21 = .ok (.aload_n 0, 1) := by decide +kernel
theorem dX11_anyOf_22 : decode cX11_anyOf 22 = .ok (.dup, 1) := by decide +kernel
theorem dX11_anyOf_23 : decode cX11_anyOf 23 = .ok (.getfield 158, 3) := by decide +kernel
theorem dX11_anyOf_26 : decode cX11_anyOf 26 = .ok (.iconst 1, 1) := by decide +kernel
theorem dX11_anyOf_27 : decode cX11_anyOf 27 = .ok (.iadd, 1) := by decide +kernel
theorem dX11_anyOf_28 : decode cX11_anyOf 28 = .ok (.putfield 158, 3) := by decide +kernel
theorem dX11_anyOf_31 : decode cX11_anyOf 31 = .ok (.aload_n 0, 1) := by decide +kernel
theorem dX11_anyOf_32 : decode cX11_anyOf 32 = .ok (.invokevirtual 161, 3) := by decide +kernel
theorem dX11_anyOf_35 : decode cX11_anyOf 35 = .ok (.aload_n 0, 1) := by decide +kernel
theorem dX11_anyOf_36 : decode cX11_anyOf 36 = .ok (.bipush 31, 2) := by decide +kernel
theorem dX11_anyOf_38 : decode cX11_anyOf 38 = .ok (.invokevirtual 164, 3) := by decide +kernel
theorem dX11_anyOf_41 : decode cX11_anyOf 41 = .ok (.ifCond .eq 18, 3) := by decide +kernel
theorem dX11_anyOf_44 : decode cX11_anyOf 44 = .ok (.aload_n 0, 1) := by decide +kernel
theorem dX11_anyOf_45 : decode cX11_anyOf 45 = .ok (.invokevirtual 161, 3) := by decide +kernel
theorem dX11_anyOf_48 : decode cX11_anyOf 48 = .ok (.aload_n 0, 1) := by decide +kernel
theorem dX11_anyOf_49 : decode cX11_anyOf 49 = .ok (.bipush 31, 2) := by decide +kernel
theorem dX11_anyOf_51 : decode cX11_anyOf 51 = .ok (.iconst 0, 1) := by decide +kernel
theorem dX11_anyOf_52 : decode cX11_anyOf 52 = .ok (.iconst 0, 1) := by decide +kernel
theorem dX11_anyOf_53 : decode cX11_anyOf 53 = .ok (.invokevirtual 167, 3) := by decide +kernel
theorem dX11_anyOf_56 : decode cX11_anyOf 56 = .ok (.goto (-21), 3) := by decide +kernel
theorem dX11_anyOf_59 : decode cX11_anyOf 59 = .ok (.aload_n 0, 1) := by decide +kernel
theorem dX11_anyOf_60 : decode cX11_anyOf 60 = .ok (.dup, 1) := by decide +kernel
theorem dX11_anyOf_61 : decode cX11_anyOf 61 = .ok (.getfield 158, 3) := by decide +kernel
theorem dX11_anyOf_64 : decode cX11_anyOf 64 = .ok (.iconst 1, 1) := by decide +kernel
theorem dX11_anyOf_65 : decode cX11_anyOf 65 = .ok (.isub, 1) := by decide +kernel
theorem dX11_anyOf_66 : decode cX11_anyOf 66 = .ok (.putfield 158, 3) := by decide +kernel
theorem dX11_anyOf_69 : decode cX11_anyOf 69 = .ok (.return_, 1) := by decide +kernel

set_option maxRecDepth 20000 in
theorem ggX11_aLine_X11_takesWord : GoodIn wsX11_aLine wsX11_takesWord := goodIn_r _ [14, 15, 16, 17, 13, 18, 6, 7, 8, 19, 20, 21, 22, 23, 3, 24, 25, 26, 27, 28, 29, 30, 31, 32, 2, 33, 34, 35, 36, 37, 38, 39, 40, 41, 42, 43, 44, 45, 46, 47, 48, 49, 50, 51, 52, 53, 54, 55, 56, 57, 98, 99, 100, 101, 102, 103, 104, 105, 106, 107, 108, 109, 110, 111, 112, 113, 114, 115, 116, 117] (by decide +kernel) (by decide +kernel)
set_option maxRecDepth 20000 in
theorem gX11_aLine_X11_takesWord : GoodIn wsX11_aLine (wsV RX11 164 RX11 yX11_takesWord wsX11_takesWord) := goodIn_app (goodIn_of _ (by decide +kernel)) ggX11_aLine_X11_takesWord
set_option maxRecDepth 20000 in
theorem ggX11_aLine_X11_anyOf : GoodIn wsX11_aLine wsX11_anyOf := goodIn_r _ [61, 5, 6, 62, 63, 64, 13, 65, 2, 3, 66, 67, 68, 10, 11, 12, 14, 15, 16, 17, 18, 7, 8, 19, 20, 21, 22, 23, 24, 25, 26, 27, 28, 29, 30, 31, 32, 33, 34, 35, 36, 37, 38, 39, 40, 41, 42, 43, 44, 45, 46, 47, 48, 49, 50, 51, 52, 53, 54, 55, 56, 57, 69, 70, 71, 72, 73, 4, 74, 75, 76, 77, 78, 79, 80, 81, 82, 58, 59, 60, 83, 84, 85, 86, 87, 88, 89, 90, 91, 92, 93, 94, 98, 99, 100, 101, 102, 103, 104, 105, 106, 107, 108, 109, 110, 111, 112, 113, 114, 115, 116, 117] (by decide +kernel) (by decide +kernel)
set_option maxRecDepth 20000 in
theorem gX11_aLine_X11_anyOf : GoodIn wsX11_aLine (wsV RX11 176 RX11 yX11_anyOf wsX11_anyOf) := goodIn_app (goodIn_of _ (by decide +kernel)) ggX11_aLine_X11_anyOf
set_option maxRecDepth 20000 in
theorem ggX11_aLine_X11_must : GoodIn wsX11_aLine wsX11_must := goodIn_r _ [86, 79, 80, 81, 13, 82, 6, 7, 27, 19, 20, 21, 22, 23, 3, 24, 25, 8, 26, 28, 29, 30, 31, 32, 2, 33, 34, 35, 36, 37, 38, 39, 40, 41, 42, 43, 44, 45, 46, 47, 48, 49, 50, 51, 52, 53, 54, 55, 56, 57, 62, 63, 64, 65, 98, 99, 100, 101, 102, 103, 104, 105, 106, 107, 108, 109, 110, 111, 112, 113, 114, 115, 116, 117] (by decide +kernel) (by decide +kernel)
set_option maxRecDepth 20000 in
theorem gX11_aLine_X11_must : GoodIn wsX11_aLine (wsV RX11 179 RX11 yX11_must wsX11_must) := goodIn_app (goodIn_of _ (by decide +kernel)) ggX11_aLine_X11_must
set_option maxRecDepth 20000 in
theorem ggX11_aLine_X11_isIn : GoodIn wsX11_aLine wsX11_isIn := goodIn_r _ [97] (by decide +kernel) (by decide +kernel)
set_option maxRecDepth 20000 in
theorem gX11_aLine_X11_isIn : GoodIn wsX11_aLine (va_wsS RX11 43 yX11_isIn wsX11_isIn) := goodIn_app (goodIn_of _ (by decide +kernel)) ggX11_aLine_X11_isIn
set_option maxRecDepth 20000 in
theorem ggX11_aLine_X11_stops : GoodIn wsX11_aLine wsX11_stops := goodIn_r _ [65, 6, 2, 3, 98, 99, 100, 101, 102, 103, 104, 105, 106, 107, 108, 109, 110, 111, 112, 113, 114, 115, 116, 117] (by decide +kernel) (by decide +kernel)
set_option maxRecDepth 20000 in
theorem gX11_aLine_X11_stops : GoodIn wsX11_aLine (wsV RX11 152 RX11 yX11_stops wsX11_stops) := goodIn_app (goodIn_of _ (by decide +kernel)) ggX11_aLine_X11_stops
set_option maxRecDepth 20000 in
theorem ggX11_aLine_X11_advance : GoodIn wsX11_aLine wsX11_advance := goodIn_r _ [22, 23, 3, 7, 24, 25, 8, 26, 27, 28, 29, 30, 13, 31, 32, 2, 33, 34, 35, 36, 37, 38, 39, 40, 41, 42, 43, 44, 45, 46, 47, 48, 49, 50, 51, 52, 53, 54, 55, 56, 57, 98, 99, 100, 101, 102, 103, 104, 105, 106, 107, 108, 109, 110, 111, 112, 113, 114, 115, 116, 117] (by decide +kernel) (by decide +kernel)
set_option maxRecDepth 20000 in
theorem gX11_aLine_X11_advance : GoodIn wsX11_aLine (wsV RX11 146 RX11 yX11_advance wsX11_advance) := goodIn_app (goodIn_of _ (by decide +kernel)) ggX11_aLine_X11_advance
set_option maxRecDepth 20000 in
theorem ggX11_aLine_X11_numbered : GoodIn wsX11_aLine wsX11_numbered := goodIn_r _ [90, 26, 6, 7, 19, 20, 21, 13, 22, 23, 3, 24, 25, 8, 27, 28, 29, 30, 31, 32, 2, 33, 34, 35, 36, 37, 38, 39, 40, 41, 42, 43, 44, 45, 46, 47, 48, 49, 50, 51, 52, 53, 54, 55, 56, 57, 62, 63, 64, 65, 98, 99, 100, 101, 102, 103, 104, 105, 106, 107, 108, 109, 110, 111, 112, 113, 114, 115, 116, 117] (by decide +kernel) (by decide +kernel)
set_option maxRecDepth 20000 in
theorem gX11_aLine_X11_numbered : GoodIn wsX11_aLine (wsV RX11 183 RX11 yX11_numbered wsX11_numbered) := goodIn_app (goodIn_of _ (by decide +kernel)) ggX11_aLine_X11_numbered
theorem dX11_aLine_0 : decode cX11_aLine 0 = .ok (.aload_n 0, 1) := by decide +kernel
theorem dX11_aLine_1 : decode cX11_aLine 1 = .ok (.getfield 187, 3) := by decide +kernel
theorem dX11_aLine_4 : decode cX11_aLine 4 = .ok (.bipush 20, 2) := by decide +kernel
theorem dX11_aLine_6 : decode cX11_aLine 6 = .ok (.if_icmp .lt 7, 3) := by decide +kernel
theorem dX11_aLine_9 : decode cX11_aLine 9 = .ok (.iconst 1, 1) := by decide +kernel
theorem dX11_aLine_10 : decode cX11_aLine 10 = .ok (.goto 4, 3) := by decide +kernel
theorem dX11_aLine_13 : decode cX11_aLine 13 = .ok (.iconst 0, 1) := by decide +kernel
theorem dX11_aLine_14 : decode cX11_aLine 14 = .ok (.istore_n 1, 1) := by decide +kernel
theorem dX11_aLine_15 : decode cX11_aLine 15 = .ok (.iload_n 1, 1) := by decide +kernel
theorem dX11_aLine_16 : decode cX11_aLine 16 = .ok (.ifCond .eq 32, 3) := by decide +kernel
theorem dX11_aLine_19 : decode cX11_aLine 19 = .ok (.aload_n 0, 1) := by decide +kernel
theorem dX11_aLine_20 : decode cX11_aLine 20 = .ok (.getfield 8, 3) := by decide +kernel
theorem dX11_aLine_23 : decode cX11_aLine 23 = .ok (.bipush 10, 2) := by decide +kernel
theorem dX11_aLine_25 : decode cX11_aLine 25 = .ok (.iaload, 1) := by decide +kernel
theorem dX11_aLine_26 : decode cX11_aLine 26 = .ok (.ifCond .ne 22, 3) := by decide +kernel
theorem dX11_aLine_29 : decode cX11_aLine 29 = .ok (.aload_n 0, 1) := by decide +kernel
theorem dX11_aLine_30 : decode cX11_aLine 30 = .ok (.getfield 8, 3) := by decide +kernel
theorem dX11_aLine_33 : decode cX11_aLine 33 = .ok (.bipush 10, 2) := by decide +kernel
theorem dX11_aLine_35 : decode cX11_aLine 35 = .ok (.iconst 2, 1) := by decide +kernel
theorem dX11_aLine_36 : decode cX11_aLine 36 = .ok (.iastore, 1) := by decide +kernel
theorem dX11_aLine_37 : decode cX11_aLine 37 = .ok (.aload_n 0, 1) := by decide +kernel
theorem dX11_aLine_38 : decode cX11_aLine 38 = .ok (.getfield 8, 3) := by decide +kernel
theorem dX11_aLine_41 : decode cX11_aLine 41 = .ok (.bipush 11, 2) := by decide +kernel
theorem dX11_aLine_43 : decode cX11_aLine 43 = .ok (.aload_n 0, 1) := by decide +kernel
theorem dX11_aLine_44 : decode cX11_aLine 44 = .ok (.getfield 110, 3) := by decide +kernel
theorem dX11_aLine_47 : decode cX11_aLine 47 = .ok (.iastore, 1) := by decide +kernel
theorem dX11_aLine_48 : decode cX11_aLine 48 = .ok (.aload_n 0, 1) := by decide +kernel
theorem dX11_aLine_49 : decode cX11_aLine 49 = .ok (.getfield 155, 3) := by decide +kernel
theorem dX11_aLine_52 : decode cX11_aLine 52 = .ok (.istore_n 2, 1) := by decide +kernel
theorem dX11_aLine_53 : decode cX11_aLine 53 = .ok (.aload_n 0, 1) := by decide +kernel
theorem dX11_aLine_54 : decode cX11_aLine 54 = .ok (.bipush 30, 2) := by decide +kernel
theorem dX11_aLine_56 : decode cX11_aLine 56 = .ok (.invokevirtual 164, 3) := by decide +kernel
theorem dX11_aLine_59 : decode cX11_aLine 59 = .ok (.istore_n 3, 1) := by decide +kernel
theorem dX11_aLine_60 : decode cX11_aLine 60 = .ok (.iload_n 3, 1) := by decide +kernel
theorem dX11_aLine_61 : decode cX11_aLine 61 = .ok (.ifCond .eq 18, 3) := by decide +kernel
theorem dX11_aLine_64 : decode cX11_aLine 64 = .ok (.aload_n 0, 1) := by decide +kernel
theorem dX11_aLine_65 : decode cX11_aLine 65 = .ok (.iconst 0, 1) := by decide +kernel
theorem dX11_aLine_66 : decode cX11_aLine 66 = .ok (.putfield 158, 3) := by decide +kernel
theorem dX11_aLine_69 : decode cX11_aLine 69 = .ok (.aload_n 0, 1) := by decide +kernel
theorem dX11_aLine_70 : decode cX11_aLine 70 = .ok (.invokevirtual 176, 3) := by decide +kernel
theorem dX11_aLine_73 : decode cX11_aLine 73 = .ok (.aload_n 0, 1) := by decide +kernel
theorem dX11_aLine_74 : decode cX11_aLine 74 = .ok (.bipush 58, 2) := by decide +kernel
theorem dX11_aLine_76 : decode cX11_aLine 76 = .ok (.invokevirtual 179, 3) := by decide +kernel
theorem dX11_aLine_79 : decode cX11_aLine 79 = .ok (.aload_n 0, 1) := by decide +kernel
theorem dX11_aLine_80 : decode cX11_aLine 80 = .ok (.getfield 139, 3) := by decide +kernel
theorem dX11_aLine_83 : decode cX11_aLine 83 = .ok (.ifCond .ne 39, 3) := by decide +kernel
theorem dX11_aLine_86 : decode cX11_aLine 86 = .ok (.aload_n 0, 1) := by decide +kernel
theorem dX11_aLine_87 : decode cX11_aLine 87 = .ok (.getfield 113, 3) := by decide +kernel
theorem dX11_aLine_90 : decode cX11_aLine 90 = .ok (.iconst 3, 1) := by decide +kernel
theorem dX11_aLine_91 : decode cX11_aLine 91 = .ok (.if_icmp .ne 31, 3) := by decide +kernel
theorem dX11_aLine_94 : decode cX11_aLine 94 = .ok (.aload_n 0, 1) := by decide +kernel
theorem dX11_aLine_95 : decode cX11_aLine 95 = .ok (.getfield 124, 3) := by decide +kernel
theorem dX11_aLine_98 : decode cX11_aLine 98 = .ok (.bipush 8, 2) := by decide +kernel
theorem dX11_aLine_100 : decode cX11_aLine 100 = .ok (.bipush 11, 2) := by decide +kernel
theorem dX11_aLine_102 : decode cX11_aLine 102 = .ok (.invokestatic 43, 3) := by decide +kernel
theorem dX11_aLine_105 : decode cX11_aLine 105 = .ok (.ifCond .ne 22, 3) := by decide +kernel
theorem dX11_aLine_108 : decode cX11_aLine 108 = .ok (.aload_n 0, 1) := by decide +kernel
theorem dX11_aLine_109 : decode cX11_aLine 109 = .ok (.getfield 124, 3) := by decide +kernel
theorem dX11_aLine_112 : decode cX11_aLine 112 = .ok (.bipush 24, 2) := by decide +kernel
theorem dX11_aLine_114 : decode cX11_aLine 114 = .ok (.bipush 26, 2) := by decide +kernel
theorem dX11_aLine_116 : decode cX11_aLine 116 = .ok (.invokestatic 43, 3) := by decide +kernel
theorem dX11_aLine_119 : decode cX11_aLine 119 = .ok (.ifCond .ne 8, 3) := by decide +kernel
theorem dX11_aLine_122 : decode cX11_aLine 122 = .ok (.aload_n 0, 1) := by decide +kernel
theorem dX11_aLine_123 : decode cX11_aLine 123 = .ok (.invokevirtual 152, 3) := by decide +kernel
theorem dX11_aLine_126 : decode cX11_aLine 126 = .ok (.return_, 1) := by decide +kernel
theorem dX11_aLine_127 : decode cX11_aLine 127 = .ok (.aload_n 0, 1) := by decide +kernel
theorem dX11_aLine_128 : decode cX11_aLine 128 = .ok (.getfield 124, 3) := by decide +kernel
theorem dX11_aLine_131 : decode cX11_aLine 131 = .ok (.istore 4, 2) := by decide +kernel
theorem dX11_aLine_133 : decode cX11_aLine 133 = .ok (.aload_n 0, 1) := by decide +kernel
theorem dX11_aLine_134 : decode cX11_aLine 134 = .ok (.invokevirtual 146, 3) := by decide +kernel
theorem dX11_aLine_137 : decode cX11_aLine 137 = .ok (.iload 4, 2) := by decide +kernel
theorem dX11_aLine_139 : decode cX11_aLine 139 = .ok (.bipush 26, 2) := by decide +kernel
theorem dX11_aLine_141 : decode cX11_aLine 141 = .ok (.if_icmp .ne 10, 3) := by decide +kernel
theorem dX11_aLine_144 : decode cX11_aLine 144 = .ok (.aload_n 0, 1) := by decide +kernel
theorem dX11_aLine_145 : decode cX11_aLine 145 = .ok (.invokevirtual 183, 3) := by decide +kernel
theorem dX11_aLine_148 : decode cX11_aLine 148 = .ok (.goto 4, 3) := by decide +kernel
theorem dX11_aLine_151 : decode cX11_aLine 151 = .ok (.iconst 0, 1) := by decide +kernel
theorem dX11_aLine_152 : decode cX11_aLine 152 = .ok (.istore 5, 2) := by decide +kernel
theorem dX11_aLine_154 : decode cX11_aLine 154 = .ok (.aload_n 0, 1) := by decide +kernel
theorem dX11_aLine_155 : decode cX11_aLine 155 = .ok (.bipush 59, 2) := by decide +kernel
theorem dX11_aLine_157 : decode cX11_aLine 157 = .ok (.invokevirtual 179, 3) := by decide +kernel
theorem dX11_aLine_160 : decode cX11_aLine 160 = .ok (.iload_n 1, 1) := by decide +kernel
theorem dX11_aLine_161 : decode cX11_aLine 161 = .ok (.ifCond .ne 70, 3) := by decide +kernel
theorem dX11_aLine_164 : decode cX11_aLine 164 = .ok (.aload_n 0, 1) := by decide +kernel
theorem dX11_aLine_165 : decode cX11_aLine 165 = .ok (.getfield 18, 3) := by decide +kernel
theorem dX11_aLine_168 : decode cX11_aLine 168 = .ok (.iconst 4, 1) := by decide +kernel
theorem dX11_aLine_169 : decode cX11_aLine 169 = .ok (.aload_n 0, 1) := by decide +kernel
theorem dX11_aLine_170 : decode cX11_aLine 170 = .ok (.getfield 187, 3) := by decide +kernel
theorem dX11_aLine_173 : decode cX11_aLine 173 = .ok (.imul, 1) := by decide +kernel
theorem dX11_aLine_174 : decode cX11_aLine 174 = .ok (.iload_n 3, 1) := by decide +kernel
theorem dX11_aLine_175 : decode cX11_aLine 175 = .ok (.ifCond .eq 7, 3) := by decide +kernel
theorem dX11_aLine_178 : decode cX11_aLine 178 = .ok (.iload_n 2, 1) := by decide +kernel
theorem dX11_aLine_179 : decode cX11_aLine 179 = .ok (.goto 4, 3) := by decide +kernel
theorem dX11_aLine_182 : decode cX11_aLine 182 = .ok (.iconst (-1), 1) := by decide +kernel
theorem dX11_aLine_183 : decode cX11_aLine 183 = .ok (.iastore, 1) := by decide +kernel
theorem dX11_aLine_184 : decode cX11_aLine 184 = .ok (.aload_n 0, 1) := by decide +kernel
theorem dX11_aLine_185 : decode cX11_aLine 185 = .ok (.getfield 18, 3) := by decide +kernel
theorem dX11_aLine_188 : decode cX11_aLine 188 = .ok (.iconst 4, 1) := by decide +kernel
theorem dX11_aLine_189 : decode cX11_aLine 189 = .ok (.aload_n 0, 1) := by decide +kernel
theorem dX11_aLine_190 : decode cX11_aLine 190 = .ok (.getfield 187, 3) := by decide +kernel
theorem dX11_aLine_193 : decode cX11_aLine 193 = .ok (.imul, 1) := by decide +kernel
theorem dX11_aLine_194 : decode cX11_aLine 194 = .ok (.iconst 1, 1) := by decide +kernel
theorem dX11_aLine_195 : decode cX11_aLine 195 = .ok (.iadd, 1) := by decide +kernel
theorem dX11_aLine_196 : decode cX11_aLine 196 = .ok (.aload_n 0, 1) := by decide +kernel
theorem dX11_aLine_197 : decode cX11_aLine 197 = .ok (.getfield 155, 3) := by decide +kernel
theorem dX11_aLine_200 : decode cX11_aLine 200 = .ok (.iastore, 1) := by decide +kernel
theorem dX11_aLine_201 : decode cX11_aLine 201 = .ok (.aload_n 0, 1) := by decide +kernel
theorem dX11_aLine_202 : decode cX11_aLine 202 = .ok (.getfield 18, 3) := by decide +kernel
theorem dX11_aLine_205 : decode cX11_aLine 205 = .ok (.iconst 4, 1) := by decide +kernel
theorem dX11_aLine_206 : decode cX11_aLine 206 = .ok (.aload_n 0, 1) := by decide +kernel
theorem dX11_aLine_207 : decode cX11_aLine 207 = .ok (.getfield 187, 3) := by decide +kernel
theorem dX11_aLine_210 : decode cX11_aLine 210 = .ok (.imul, 1) := by decide +kernel
theorem dX11_aLine_211 : decode cX11_aLine 211 = .ok (.iconst 2, 1) := by decide +kernel
theorem dX11_aLine_212 : decode cX11_aLine 212 = .ok (.iadd, 1) := by decide +kernel
theorem dX11_aLine_213 : decode cX11_aLine 213 = .ok (.iload 4, 2) := by decide +kernel
theorem dX11_aLine_215 : decode cX11_aLine 215 = .ok (.iastore, 1) := by decide +kernel
theorem dX11_aLine_216 : decode cX11_aLine 216 = .ok (.aload_n 0, 1) := by decide +kernel
theorem dX11_aLine_217 : decode cX11_aLine 217 = .ok (.getfield 18, 3) := by decide +kernel
theorem dX11_aLine_220 : decode cX11_aLine 220 = .ok (.iconst 4, 1) := by decide +kernel
theorem dX11_aLine_221 : decode cX11_aLine 221 = .ok (.aload_n 0, 1) := by decide +kernel
theorem dX11_aLine_222 : decode cX11_aLine 222 = .ok (.getfield 187, 3) := by decide +kernel
theorem dX11_aLine_225 : decode cX11_aLine 225 = .ok (.imul, 1) := by decide +kernel
theorem dX11_aLine_226 : decode cX11_aLine 226 = .ok (.iconst 3, 1) := by decide +kernel
theorem dX11_aLine_227 : decode cX11_aLine 227 = .ok (.iadd, 1) := by decide +kernel
theorem dX11_aLine_228 : decode cX11_aLine 228 = .ok (.iload 5, 2) := by decide +kernel
theorem dX11_aLine_230 : decode cX11_aLine 230 = .ok (.iastore, 1) := by decide +kernel
theorem dX11_aLine_231 : decode cX11_aLine 231 = .ok (.aload_n 0, 1) := by decide +kernel
theorem dX11_aLine_232 : decode cX11_aLine 232 = .ok (.dup, 1) := by decide +kernel
theorem dX11_aLine_233 : decode cX11_aLine 233 = .ok (.getfield 187, 3) := by decide +kernel
theorem dX11_aLine_236 : decode cX11_aLine 236 = .ok (.iconst 1, 1) := by decide +kernel
theorem dX11_aLine_237 : decode cX11_aLine 237 = .ok (.iadd, 1) := by decide +kernel
theorem dX11_aLine_238 : decode cX11_aLine 238 = .ok (.putfield 187, 3) := by decide +kernel
theorem dX11_aLine_241 : decode cX11_aLine 241 = .ok (.return_, 1) := by decide +kernel

set_option maxRecDepth 20000 in
theorem ggX11_orders_X11_isShip : GoodIn wsX11_orders wsX11_isShip := goodIn_r _ [14, 1, 15, 16, 13, 17, 110, 111, 112, 113, 114, 115, 116, 117, 118, 119, 120, 121, 122, 123, 124, 125, 126, 127, 128, 129] (by decide +kernel) (by decide +kernel)
set_option maxRecDepth 20000 in
theorem gX11_orders_X11_isShip : GoodIn wsX11_orders (wsV RX11 190 RX11 yX11_isShip wsX11_isShip) := goodIn_app (goodIn_of _ (by decide +kernel)) ggX11_orders_X11_isShip
set_option maxRecDepth 20000 in
theorem ggX11_orders_X11_advance : GoodIn wsX11_orders wsX11_advance := goodIn_r _ [21, 3, 22, 7, 23, 24, 25, 26, 27, 28, 29, 30, 13, 31, 2, 1, 32, 33, 34, 35, 36, 37, 38, 39, 40, 41, 42, 43, 44, 45, 46, 47, 48, 49, 50, 51, 52, 53, 54, 55, 56, 110, 111, 112, 113, 114, 115, 116, 117, 118, 119, 120, 121, 122, 123, 124, 125, 126, 127, 128, 129] (by decide +kernel) (by decide +kernel)
set_option maxRecDepth 20000 in
theorem gX11_orders_X11_advance : GoodIn wsX11_orders (wsV RX11 146 RX11 yX11_advance wsX11_advance) := goodIn_app (goodIn_of _ (by decide +kernel)) ggX11_orders_X11_advance
set_option maxRecDepth 20000 in
theorem ggX11_orders_X11_aLine : GoodIn wsX11_orders wsX11_aLine := goodIn_r _ [60, 5, 1, 22, 6, 61, 4, 7, 25, 8, 62, 63, 64, 13, 65, 66, 67, 68, 69, 18, 19, 20, 21, 3, 23, 24, 26, 27, 28, 29, 30, 31, 2, 32, 33, 34, 35, 36, 37, 38, 39, 40, 41, 42, 43, 44, 45, 46, 47, 48, 49, 50, 51, 52, 53, 54, 55, 56, 70, 71, 72, 73, 74, 75, 76, 77, 78, 79, 80, 81, 82, 83, 84, 9, 85, 86, 87, 88, 89, 90, 91, 92, 93, 94, 95, 96, 97, 98, 99, 100, 101, 102, 103, 104, 105, 15, 16, 17, 110, 111, 112, 113, 114, 115, 116, 117, 118, 119, 120, 121, 122, 123, 124, 125, 126, 127, 128, 129] (by decide +kernel) (by decide +kernel)
set_option maxRecDepth 20000 in
theorem gX11_orders_X11_aLine : GoodIn wsX11_orders (wsV RX11 193 RX11 yX11_aLine wsX11_aLine) := goodIn_app (goodIn_of _ (by decide +kernel)) ggX11_orders_X11_aLine
set_option maxRecDepth 20000 in
theorem ggX11_orders_X11_ships : GoodIn wsX11_orders wsX11_ships := goodIn_r _ [109, 1, 110, 111, 112, 113, 114, 115, 116, 117, 118, 119, 120, 121, 122, 123, 124, 125, 126, 127, 128, 129] (by decide +kernel) (by decide +kernel)
set_option maxRecDepth 20000 in
theorem gX11_orders_X11_ships : GoodIn wsX11_orders (wsV RX11 69 RX11 yX11_ships wsX11_ships) := goodIn_app (goodIn_of _ (by decide +kernel)) ggX11_orders_X11_ships
theorem dX11_orders_0 : decode cX11_orders 0 = .ok (.aload_n 0, 1) := by decide +kernel
theorem dX11_orders_1 : decode cX11_orders 1 = .ok (.iload_n 1, 1) := by decide +kernel
theorem dX11_orders_2 : decode cX11_orders 2 = .ok (.invokevirtual 190, 3) := by decide +kernel
theorem dX11_orders_5 : decode cX11_orders 5 = .ok (.ifCond .ne 6, 3) := by decide +kernel
theorem dX11_orders_8 : decode cX11_orders 8 = .ok (.bipush (-2), 2) := by decide +kernel
theorem dX11_orders_10 : decode cX11_orders 10 = .ok (.ireturn, 1) := by decide +kernel
theorem dX11_orders_11 : decode cX11_orders 11 = .ok (.aload_n 0, 1) := by decide +kernel
theorem dX11_orders_12 : decode cX11_orders 12 = .ok (.aload_n 0, 1) := by decide +kernel
theorem dX11_orders_13 : decode cX11_orders 13 = .ok (.getfield 8, 3) := by decide +kernel
theorem dX11_orders_16 : decode cX11_orders 16 = .ok (.bipush 9, 2) := by decide +kernel
theorem dX11_orders_18 : decode cX11_orders 18 = .ok (.iaload, 1) := by decide +kernel
theorem dX11_orders_19 : decode cX11_orders 19 = .ok (.putfield 73, 3) := by decide +kernel
theorem dX11_orders_22 : decode cX11_orders 22 = .ok (.aload_n 0, 1) := by decide +kernel
theorem dX11_orders_23 : decode cX11_orders 23 = .ok (.getfield 8, 3) := by decide +kernel
theorem dX11_orders_26 : decode cX11_orders 26 = .ok (.bipush 9, 2) := by decide +kernel
theorem dX11_orders_28 : decode cX11_orders 28 = .ok (.iconst 0, 1) := by decide +kernel
theorem dX11_orders_29 : decode cX11_orders 29 = .ok (.iastore, 1) := by decide +kernel
theorem dX11_orders_30 : decode cX11_orders 30 = .ok (.aload_n 0, 1) := by decide +kernel
theorem dX11_orders_31 : decode cX11_orders 31 = .ok (.iconst 0, 1) := by decide +kernel
theorem dX11_orders_32 : decode cX11_orders 32 = .ok (.putfield 103, 3) := by decide +kernel
theorem dX11_orders_35 : decode cX11_orders 35 = .ok (.aload_n 0, 1) := by decide +kernel
theorem dX11_orders_36 : decode cX11_orders 36 = .ok (.getfield 8, 3) := by decide +kernel
theorem dX11_orders_39 : decode cX11_orders 39 = .ok (.bipush 10, 2) := by decide +kernel
theorem dX11_orders_41 : decode cX11_orders 41 = .ok (.iconst 0, 1) := by decide +kernel
theorem dX11_orders_42 : decode cX11_orders 42 = .ok (.iastore, 1) := by decide +kernel
theorem dX11_orders_43 : decode cX11_orders 43 = .ok (.aload_n 0, 1) := by decide +kernel
theorem dX11_orders_44 : decode cX11_orders 44 = .ok (.getfield 8, 3) := by decide +kernel
theorem dX11_orders_47 : decode cX11_orders 47 = .ok (.bipush 11, 2) := by decide +kernel
theorem dX11_orders_49 : decode cX11_orders 49 = .ok (.iconst (-1), 1) := by decide +kernel
theorem dX11_orders_50 : decode cX11_orders 50 = .ok (.iastore, 1) := by decide +kernel
theorem dX11_orders_51 : decode cX11_orders 51 = .ok (.aload_n 0, 1) := by decide +kernel
theorem dX11_orders_52 : decode cX11_orders 52 = .ok (.iconst 0, 1) := by decide +kernel
theorem dX11_orders_53 : decode cX11_orders 53 = .ok (.putfield 139, 3) := by decide +kernel
theorem dX11_orders_56 : decode cX11_orders 56 = .ok (.aload_n 0, 1) := by decide +kernel
theorem dX11_orders_57 : decode cX11_orders 57 = .ok (.iconst 0, 1) := by decide +kernel
theorem dX11_orders_58 : decode cX11_orders 58 = .ok (.putfield 187, 3) := by decide +kernel
theorem dX11_orders_61 : decode cX11_orders 61 = .ok (.aload_n 0, 1) := by decide +kernel
theorem dX11_orders_62 : decode cX11_orders 62 = .ok (.iconst 0, 1) := by decide +kernel
theorem dX11_orders_63 : decode cX11_orders 63 = .ok (.putfield 155, 3) := by decide +kernel
theorem dX11_orders_66 : decode cX11_orders 66 = .ok (.aload_n 0, 1) := by decide +kernel
theorem dX11_orders_67 : decode cX11_orders 67 = .ok (.invokevirtual 146, 3) := by decide +kernel
theorem dX11_orders_70 : decode cX11_orders 70 = .ok (.aload_n 0, 1) := by decide +kernel
theorem dX11_orders_71 : decode cX11_orders 71 = .ok (.getfield 139, 3) := by decide +kernel
theorem dX11_orders_74 : decode cX11_orders 74 = .ok (.ifCond .ne 17, 3) := by decide +kernel
theorem dX11_orders_77 : decode cX11_orders 77 = .ok (.aload_n 0, 1) := by decide +kernel
theorem dX11_orders_78 : decode cX11_orders 78 = .ok (.getfield 113, 3) := by decide +kernel
theorem dX11_orders_81 : decode cX11_orders 81 = .ok (.ifCond .eq 10, 3) := by decide +kernel
theorem dX11_orders_84 : decode cX11_orders 84 = .ok (.aload_n 0, 1) := by decide +kernel
theorem dX11_orders_85 : decode cX11_orders 85 = .ok (.invokevirtual 193, 3) := by decide +kernel
theorem dX11_orders_88 : decode cX11_orders 88 = .ok (.goto (-18), 3) := by decide +kernel
theorem dX11_orders_91 : decode cX11_orders 91 = .ok (.aload_n 0, 1) := by decide +kernel
theorem dX11_orders_92 : decode cX11_orders 92 = .ok (.getfield 8, 3) := by decide +kernel
theorem dX11_orders_95 : decode cX11_orders 95 = .ok (.bipush 10, 2) := by decide +kernel
theorem dX11_orders_97 : decode cX11_orders 97 = .ok (.iaload, 1) := by decide +kernel
theorem dX11_orders_98 : decode cX11_orders 98 = .ok (.ifCond .eq 5, 3) := by decide +kernel
theorem dX11_orders_101 : decode cX11_orders 101 = .ok (.iconst (-1), 1) := by decide +kernel
theorem dX11_orders_102 : decode cX11_orders 102 = .ok (.ireturn, 1) := by decide +kernel
theorem dX11_orders_103 : decode cX11_orders 103 = .ok (.iconst 0, 1) := by decide +kernel
theorem dX11_orders_104 : decode cX11_orders 104 = .ok (.istore_n 2, 1) := by decide +kernel
theorem dX11_orders_105 : decode cX11_orders 105 = .ok (.iload_n 2, 1) := by decide +kernel
theorem dX11_orders_106 : decode cX11_orders 106 = .ok (.bipush 80, 2) := by decide +kernel
theorem dX11_orders_108 : decode cX11_orders 108 = .ok (.if_icmp .ge 30, 3) := by decide +kernel
theorem dX11_orders_111 : decode cX11_orders 111 = .ok (.aload_n 0, 1) := by decide +kernel
theorem dX11_orders_112 : decode cX11_orders 112 = .ok (.getfield 8, 3) := by decide +kernel
theorem dX11_orders_115 : decode cX11_orders 115 = .ok (.sipush 3460, 3) := by decide +kernel
theorem dX11_orders_118 : decode cX11_orders 118 = .ok (.bipush 80, 2) := by decide +kernel
theorem dX11_orders_120 : decode cX11_orders 120 = .ok (.iload_n 1, 1) := by decide +kernel
theorem dX11_orders_121 : decode cX11_orders 121 = .ok (.imul, 1) := by decide +kernel
theorem dX11_orders_122 : decode cX11_orders 122 = .ok (.iadd, 1) := by decide +kernel
theorem dX11_orders_123 : decode cX11_orders 123 = .ok (.iload_n 2, 1) := by decide +kernel
theorem dX11_orders_124 : decode cX11_orders 124 = .ok (.iadd, 1) := by decide +kernel
theorem dX11_orders_125 : decode cX11_orders 125 = .ok (.aload_n 0, 1) := by decide +kernel
theorem dX11_orders_126 : decode cX11_orders 126 = .ok (.getfield 18, 3) := by decide +kernel
theorem dX11_orders_129 : decode cX11_orders 129 = .ok (.iload_n 2, 1) := by decide +kernel
theorem dX11_orders_130 : decode cX11_orders 130 = .ok (.iaload, 1) := by decide +kernel
theorem dX11_orders_131 : decode cX11_orders 131 = .ok (.iastore, 1) := by decide +kernel
theorem dX11_orders_132 : decode cX11_orders 132 = .ok (.iinc 2 1, 3) := by decide +kernel
theorem dX11_orders_135 : decode cX11_orders 135 = .ok (.goto (-30), 3) := by decide +kernel
theorem dX11_orders_138 : decode cX11_orders 138 = .ok (.iconst 0, 1) := by decide +kernel
theorem dX11_orders_139 : decode cX11_orders 139 = .ok (.istore_n 2, 1) := by decide +kernel
theorem dX11_orders_140 : decode cX11_orders 140 = .ok (.iload_n 2, 1) := by decide +kernel
theorem dX11_orders_141 : decode cX11_orders 141 = .ok (.sipush 780, 3) := by decide +kernel
theorem dX11_orders_144 : decode cX11_orders 144 = .ok (.if_icmp .ge 31, 3) := by decide +kernel
theorem dX11_orders_147 : decode cX11_orders 147 = .ok (.aload_n 0, 1) := by decide +kernel
theorem dX11_orders_148 : decode cX11_orders 148 = .ok (.getfield 8, 3) := by decide +kernel
theorem dX11_orders_151 : decode cX11_orders 151 = .ok (.sipush 4100, 3) := by decide +kernel
theorem dX11_orders_154 : decode cX11_orders 154 = .ok (.sipush 780, 3) := by decide +kernel
theorem dX11_orders_157 : decode cX11_orders 157 = .ok (.iload_n 1, 1) := by decide +kernel
theorem dX11_orders_158 : decode cX11_orders 158 = .ok (.imul, 1) := by decide +kernel
theorem dX11_orders_159 : decode cX11_orders 159 = .ok (.iadd, 1) := by decide +kernel
theorem dX11_orders_160 : decode cX11_orders 160 = .ok (.iload_n 2, 1) := by decide +kernel
theorem dX11_orders_161 : decode cX11_orders 161 = .ok (.iadd, 1) := by decide +kernel
theorem dX11_orders_162 : decode cX11_orders 162 = .ok (.aload_n 0, 1) := by decide +kernel
theorem dX11_orders_163 : decode cX11_orders 163 = .ok (.getfield 21, 3) := by decide +kernel
theorem dX11_orders_166 : decode cX11_orders 166 = .ok (.iload_n 2, 1) := by decide +kernel
theorem dX11_orders_167 : decode cX11_orders 167 = .ok (.iaload, 1) := by decide +kernel
theorem dX11_orders_168 : decode cX11_orders 168 = .ok (.iastore, 1) := by decide +kernel
theorem dX11_orders_169 : decode cX11_orders 169 = .ok (.iinc 2 1, 3) := by decide +kernel
theorem dX11_orders_172 : decode cX11_orders 172 = .ok (.goto (-32), 3) := by decide +kernel
theorem dX11_orders_175 : decode cX11_orders 175 = .ok (.aload_n 0, 1) := by decide +kernel
theorem dX11_orders_176 : decode cX11_orders 176 = .ok (.iload_n 1, 1) := by decide +kernel
theorem dX11_orders_177 : decode cX11_orders 177 = .ok (.bipush 8, 2) := by decide +kernel
theorem dX11_orders_179 : decode cX11_orders 179 = .ok (.aload_n 0, 1) := by decide +kernel
theorem dX11_orders_180 : decode cX11_orders 180 = .ok (.getfield 187, 3) := by decide +kernel
theorem dX11_orders_183 : decode cX11_orders 183 = .ok (.invokevirtual 69, 3) := by decide +kernel
theorem dX11_orders_186 : decode cX11_orders 186 = .ok (.aload_n 0, 1) := by decide +kernel
theorem dX11_orders_187 : decode cX11_orders 187 = .ok (.getfield 187, 3) := by decide +kernel
theorem dX11_orders_190 : decode cX11_orders 190 = .ok (.ireturn, 1) := by decide +kernel

abbrev vX11_anyOf (cI cZ : ClassId) (h h_all h_has h_line h_act h_pile h_comes h_leaves h_tried h_met : Nat) (f_lines : Int32) (f_size : Int32) (f_next : Int32) (f_where : Int32) (f_token : Int32) (f_number : Int32) (f_sign : Int32) (f_word : Int32) (f_wrong : Int32) (f_open : Int32) (f_acts : Int32) (r_act : Nat → Int32) (r_all : Nat → Int32) : va_W := [(h, .inr (10, [.ref h_all, .ref h_has, .int f_size, .int f_next, .int f_where, .int f_token, .int f_number, .int f_sign, .int f_word, .int f_wrong, .int f_open, .int f_lines, .int f_acts, .ref h_line, .ref h_act, .ref h_pile, .ref h_comes, .ref h_leaves, .ref h_tried, .ref h_met])), (h_act, .inl (cI, 780, .inl r_act)), (h_all, .inl (cI, 53700, .inl r_all))]
abbrev rmX11_anyOf_d (d : Nat) : Room := { frames := 4 * d + 5, cells := 0, slots := 0, locals := 83 * d + 109 }
abbrev qX11_anyOf (dC : Nat → ClassId) (dI : Nat → Nat → Nat) (cI cZ cO cW : ClassId) (h h_all h_has h_line h_act h_pile h_comes h_leaves h_tried h_met : Nat) (f_lines : Int32) (f_size : Int32) (Q : Int32 → Int32 → Int32 → Int32 → Int32 → Int32 → Int32 → Int32 → Int32 → (Nat → Int32) → (Nat → Int32) → Prop) (A : Nat → Prop) : Array Value → State → Outcome → State → Prop := va_Qv (fun (u : Int32 × Int32 × Int32 × Int32 × Int32 × Int32 × Int32 × Int32 × Int32 × (Nat → Int32) × (Nat → Int32)) => Q u.1 u.2.1 u.2.2.1 u.2.2.2.1 u.2.2.2.2.1 u.2.2.2.2.2.1 u.2.2.2.2.2.2.1 u.2.2.2.2.2.2.2.1 u.2.2.2.2.2.2.2.2.1 u.2.2.2.2.2.2.2.2.2.1 u.2.2.2.2.2.2.2.2.2.2) (fun (u : Int32 × Int32 × Int32 × Int32 × Int32 × Int32 × Int32 × Int32 × Int32 × (Nat → Int32) × (Nat → Int32)) (t : State) => va_P (dC, dI) vwCl (vX11_anyOf cI cZ h h_all h_has h_line h_act h_pile h_comes h_leaves h_tried h_met f_lines f_size u.1 u.2.1 u.2.2.1 u.2.2.2.1 u.2.2.2.2.1 u.2.2.2.2.2.1 u.2.2.2.2.2.2.1 u.2.2.2.2.2.2.2.1 u.2.2.2.2.2.2.2.2.1 u.2.2.2.2.2.2.2.2.2.1 u.2.2.2.2.2.2.2.2.2.2) t.heap ∧ va_K (dC, dI) vwCl (tysA cI cZ cO cW) t ∧ va_D A (vX11_anyOf cI cZ h h_all h_has h_line h_act h_pile h_comes h_leaves h_tried h_met f_lines f_size u.1 u.2.1 u.2.2.1 u.2.2.2.1 u.2.2.2.2.1 u.2.2.2.2.2.1 u.2.2.2.2.2.2.1 u.2.2.2.2.2.2.2.1 u.2.2.2.2.2.2.2.2.1 u.2.2.2.2.2.2.2.2.2.1 u.2.2.2.2.2.2.2.2.2.2)) A

/-! X11_byteAt -/
def wX11_byteAt (Q : Int32 → Prop) (x1 : Int32) (f_size : Int32) (r_all : Nat → Int32) : Prop :=
  ((f_size ≤ x1 → (Q (-1 : Int32))) ∧ (¬ f_size ≤ x1 → (vp_in ((10340 : Int32) + x1) 53700 ∧ (Q (r_all ((10340 : Int32) + x1).toNatClampNeg)))))
abbrev vX11_byteAt (cI cZ : ClassId) (h h_all h_has h_line h_act h_pile h_comes h_leaves h_tried h_met : Nat) (f_next : Int32) (f_where : Int32) (f_token : Int32) (f_number : Int32) (f_sign : Int32) (f_word : Int32) (f_wrong : Int32) (f_open : Int32) (f_lines : Int32) (f_acts : Int32) (f_size : Int32) (r_all : Nat → Int32) : va_W := [(h, .inr (10, [.ref h_all, .ref h_has, .int f_size, .int f_next, .int f_where, .int f_token, .int f_number, .int f_sign, .int f_word, .int f_wrong, .int f_open, .int f_lines, .int f_acts, .ref h_line, .ref h_act, .ref h_pile, .ref h_comes, .ref h_leaves, .ref h_tried, .ref h_met])), (h_all, .inl (cI, 53700, .inl r_all))]
abbrev rmX11_byteAt : Room := { frames := 0, cells := 0, slots := 0, locals := 0 }
abbrev qX11_byteAt (dC : Nat → ClassId) (dI : Nat → Nat → Nat) (cI cZ cO cW : ClassId) (h h_all h_has h_line h_act h_pile h_comes h_leaves h_tried h_met : Nat) (f_next : Int32) (f_where : Int32) (f_token : Int32) (f_number : Int32) (f_sign : Int32) (f_word : Int32) (f_wrong : Int32) (f_open : Int32) (f_lines : Int32) (f_acts : Int32) (f_size : Int32) (r_all : Nat → Int32) (Q : Int32 → Prop) (A : Nat → Prop) : Array Value → State → Outcome → State → Prop := va_Qi (fun (r : Int32) (u : Unit) => Q r) (fun (u : Unit) (t : State) => va_P (dC, dI) vwCl (vX11_byteAt cI cZ h h_all h_has h_line h_act h_pile h_comes h_leaves h_tried h_met f_next f_where f_token f_number f_sign f_word f_wrong f_open f_lines f_acts f_size r_all) t.heap ∧ va_K (dC, dI) vwCl (tysA cI cZ cO cW) t ∧ va_D A (vX11_byteAt cI cZ h h_all h_has h_line h_act h_pile h_comes h_leaves h_tried h_met f_next f_where f_token f_number f_sign f_word f_wrong f_open f_lines f_acts f_size r_all)) A
theorem mX11_byteAt_0 : Cond.fieldLink RX11 73 "IcePilotsModel" "size" "I" ∈ wsX11_byteAt := by decide +kernel
theorem mX11_byteAt_1 : Cond.fieldLink RX11 8 "IcePilotsModel" "all" "[I" ∈ wsX11_byteAt := by decide +kernel
theorem uX11_byteAt_X11 : ∀ w ∈ u_ws RX11 TX11 20, w ∈ wsX11_byteAt := by decide +kernel
set_option maxHeartbeats 4000000 in
set_option maxRecDepth 100000 in
theorem tX11_byteAt_e {p : Program} {l : Launch} {e : Env} {s : State} {m : MethodId} {args : Array Value} {below : List Frame} {meth : Method} {c : Code} {dC : Nat → ClassId} {dI : Nat → Nat → Nat} {cI cZ cO cW : ClassId} {A : Nat → Prop} {h h_all h_has h_line h_act h_pile h_comes h_leaves h_tried h_met : Nat} {f_next f_where f_token f_number f_sign f_word f_wrong f_open f_lines f_acts : Int32} {Q : Int32 → Prop} (hC : Cx p s m args meth c cX11_byteAt (some .int) 2 wsX11_byteAt RX11) (hK : va_K (dC, dI) vwCl (tysA cI cZ cO cW) s) (hA : ∀ q : Nat, s.heap.size ≤ q → A q) :
    ∀ (x1 : Int32) (f_size : Int32) (r_all : Nat → Int32) (H : Heap) (locs : List Loc) (ls : Array Slot), wX11_byteAt Q x1 f_size r_all → va_P (dC, dI) vwCl (vX11_byteAt cI cZ h h_all h_has h_line h_act h_pile h_comes h_leaves h_tried h_met f_next f_where f_token f_number f_sign f_word f_wrong f_open f_lines f_acts f_size r_all) H → va_D A (vX11_byteAt cI cZ h h_all h_has h_line h_act h_pile h_comes h_leaves h_tried h_met f_next f_where f_token f_number f_sign f_word f_wrong f_open f_lines f_acts f_size r_all) → va_S A s.heap H locs → lv_has ls 2 [(0, .ref h), (1, .int x1)] → W p l e rmX11_byteAt s m args below meth c H locs 0 0 (MQ below (qX11_byteAt dC dI cI cZ cO cW h h_all h_has h_line h_act h_pile h_comes h_leaves h_tried h_met f_next f_where f_token f_number f_sign f_word f_wrong f_open f_lines f_acts f_size r_all Q A) args s 0 0 A) (F0 m 0 ls []) := by
  obtain ⟨hx, hb, hr, hml, hown, hts, hlocks⟩ := id hC
  intro x1 f_size r_all H locs ls hw hP hD hS hl
  refine lv_iload_n hx hb dX11_byteAt_0 rfl (lv_at hl 1 rfl) ?_
  refine lv_aload_n hx hb dX11_byteAt_1 rfl (lv_at hl 0 rfl) ?_
  refine va_get (D := (dC, dI)) (ci := 10) (v := .int f_size) (C := RX11) (T := TX11) (N := 20) hx hb hts uX11_byteAt_X11 hown hK hP 0 rfl rfl 2 (by decide) (hts _ mX11_byteAt_0) (fun _ h9 => h9) rfl dX11_byteAt_2 ?_
  refine lv_icmp_ge (tgt := 21) hx hb dX11_byteAt_5 (by decide) (fun c_1 => ?_) (fun c_1 => ?_)
  · have hw := hw.1 c_1
    refine lv_iconst (v := (-1 : Int32)) hx hb dX11_byteAt_21 (by decide) ?_
    have hP9 := hP.sub (ws' := (vX11_byteAt cI cZ h h_all h_has h_line h_act h_pile h_comes h_leaves h_tried h_met f_next f_where f_token f_number f_sign f_word f_wrong f_open f_lines f_acts f_size r_all)) [0, 1] rfl
    have hD9 := hD.sub (ws' := (vX11_byteAt cI cZ h h_all h_has h_line h_act h_pile h_comes h_leaves h_tried h_met f_next f_where f_token f_number f_sign f_word f_wrong f_open f_lines f_acts f_size r_all)) [0, 1] (by decide) rfl
    exact W.iret (v := (-1 : Int32)) hx hb hr (fun t ht hW => ⟨⟨(-1 : Int32), (), rfl, hw, by rw [ht]; exact hP9, va_K.moved hW.alike hK, hD9⟩, hS.F ht⟩) hS.2.2 dX11_byteAt_22
  · have hw := hw.2 c_1
    refine lv_aload_n hx hb dX11_byteAt_8 rfl (lv_at hl 0 rfl) ?_
    refine va_get (D := (dC, dI)) (ci := 10) (v := .ref h_all) (C := RX11) (T := TX11) (N := 20) hx hb hts uX11_byteAt_X11 hown hK hP 0 rfl rfl 0 (by decide) (hts _ mX11_byteAt_1) (fun _ h9 => h9) rfl dX11_byteAt_9 ?_
    refine lv_sipush (v := (10340 : Int32)) hx hb dX11_byteAt_12 (by decide) ?_
    refine lv_iload_n hx hb dX11_byteAt_15 rfl (lv_at hl 1 rfl) ?_
    refine lv_iadd hx hb dX11_byteAt_16 ?_
    obtain ⟨h_2, hw⟩ := hw
    refine va_iald hx hb hK hP 1 0 rfl rfl h_2 dX11_byteAt_17 ?_
    refine lv_goto (tgt := 22) hx hb dX11_byteAt_18 (by decide) ?_
    have hP9 := hP.sub (ws' := (vX11_byteAt cI cZ h h_all h_has h_line h_act h_pile h_comes h_leaves h_tried h_met f_next f_where f_token f_number f_sign f_word f_wrong f_open f_lines f_acts f_size r_all)) [0, 1] rfl
    have hD9 := hD.sub (ws' := (vX11_byteAt cI cZ h h_all h_has h_line h_act h_pile h_comes h_leaves h_tried h_met f_next f_where f_token f_number f_sign f_word f_wrong f_open f_lines f_acts f_size r_all)) [0, 1] (by decide) rfl
    exact W.iret (v := (r_all ((10340 : Int32) + x1).toNatClampNeg)) hx hb hr (fun t ht hW => ⟨⟨(r_all ((10340 : Int32) + x1).toNatClampNeg), (), rfl, hw, by rw [ht]; exact hP9, va_K.moved hW.alike hK, hD9⟩, hS.F ht⟩) hS.2.2 dX11_byteAt_22
set_option maxHeartbeats 4000000 in
set_option maxRecDepth 100000 in
theorem kX11_byteAt (l : Launch) (dC : Nat → ClassId) (dI : Nat → Nat → Nat) (cI cZ cO cW : ClassId) (h h_all h_has h_line h_act h_pile h_comes h_leaves h_tried h_met : Nat)  (sz : Nat) (f_next : Int32) (f_where : Int32) (f_token : Int32) (f_number : Int32) (f_sign : Int32) (f_word : Int32) (f_wrong : Int32) (f_open : Int32) (f_lines : Int32) (f_acts : Int32) (f_size : Int32) (r_all : Nat → Int32) (x1 : Int32) (Q : Int32 → Prop) (hw : wX11_byteAt Q x1 f_size r_all) : Met l yX11_byteAt wsX11_byteAt rmX11_byteAt (va_Pc [.ref h, .int x1] (fun U => U.heap.size = sz ∧ va_P (dC, dI) vwCl (vX11_byteAt cI cZ h h_all h_has h_line h_act h_pile h_comes h_leaves h_tried h_met f_next f_where f_token f_number f_sign f_word f_wrong f_open f_lines f_acts f_size r_all) U.heap ∧ va_K (dC, dI) vwCl (tysA cI cZ cO cW) U ∧ va_D (fun _ => True) (vX11_byteAt cI cZ h h_all h_has h_line h_act h_pile h_comes h_leaves h_tried h_met f_next f_where f_token f_number f_sign f_word f_wrong f_open f_lines f_acts f_size r_all))) (qX11_byteAt dC dI cI cZ cO cW h h_all h_has h_line h_act h_pile h_comes h_leaves h_tried h_met f_next f_where f_token f_number f_sign f_word f_wrong f_open f_lines f_acts f_size r_all Q (va_A (vX11_byteAt cI cZ h h_all h_has h_line h_act h_pile h_comes h_leaves h_tried h_met f_next f_where f_token f_number f_sign f_word f_wrong f_open f_lines f_acts f_size r_all) sz)) 0 0 (va_A (vX11_byteAt cI cZ h h_all h_has h_line h_act h_pile h_comes h_leaves h_tried h_met f_next f_where f_token f_number f_sign f_word f_wrong f_open f_lines f_acts f_size r_all) sz) := by
  refine Met.ofW (cc := cX11_byteAt) (maxL := 2) (ret := (some .int)) (by decide) rfl ?_
  intro p e s m args below meth c s₁ B hml hv
  obtain ⟨rfl, hsz, hP, hK, hD0⟩ := hv
  subst hsz
  have hC : Cx p s m ([.ref h, .int x1] : List Value).toArray meth c cX11_byteAt (some .int) 2 wsX11_byteAt RX11 := ⟨B.exec, B.bytes, B.returns, hml, findClass_of_methodNamed B.named, atoms_spec (ws := wsX11_byteAt) B.pre, B.notSynchronized⟩
  have hD := hD0.self (sz := s.heap.size)
  generalize hAe : va_A (vX11_byteAt cI cZ h h_all h_has h_line h_act h_pile h_comes h_leaves h_tried h_met f_next f_where f_token f_number f_sign f_word f_wrong f_open f_lines f_acts f_size r_all) s.heap.size = A at hD ⊢
  have hA : ∀ q : Nat, s.heap.size ≤ q → A q := fun q h => by rw [← hAe]; exact Or.inr h
  have hl := lv_entry ([.ref h, .int x1]) (n := 2) (Nat.le_of_ble_eq_true rfl)
  rw [lg_entry_eq]
  generalize (lg_sl ([.ref h, .int x1]) ++ List.replicate (2 - (lg_sl ([.ref h, .int x1])).length) Slot.unset).toArray = ls at hl ⊢
  exact tX11_byteAt_e hC hK hA x1 f_size r_all _ _ ls hw hP hD va_S.rf hl

/-! X11_isLetter -/
def wX11_isLetter (Q : Int32 → Prop) (x0 : Int32)  : Prop :=
  ((x0 < (97 : Int32) → (Q (0 : Int32))) ∧ (¬ x0 < (97 : Int32) → (((122 : Int32) < x0 → (Q (0 : Int32))) ∧ (¬ (122 : Int32) < x0 → (Q (1 : Int32))))))
abbrev rmX11_isLetter : Room := { frames := 0, cells := 0, slots := 0, locals := 0 }
abbrev qX11_isLetter (dC : Nat → ClassId) (dI : Nat → Nat → Nat) (cI cZ cO cW : ClassId)  (Q : Int32 → Prop) (A : Nat → Prop) : Array Value → State → Outcome → State → Prop := va_Qi (fun (r : Int32) (u : Unit) => Q r) (fun (u : Unit) (t : State) => va_P (dC, dI) vwCl ([] : va_W) t.heap ∧ va_K (dC, dI) vwCl (tysA cI cZ cO cW) t ∧ va_D A ([] : va_W)) A
set_option maxHeartbeats 4000000 in
set_option maxRecDepth 100000 in
theorem tX11_isLetter_e {p : Program} {l : Launch} {e : Env} {s : State} {m : MethodId} {args : Array Value} {below : List Frame} {meth : Method} {c : Code} {dC : Nat → ClassId} {dI : Nat → Nat → Nat} {cI cZ cO cW : ClassId} {A : Nat → Prop} {Q : Int32 → Prop} (hC : Cx p s m args meth c cX11_isLetter (some .boolean) 1 wsX11_isLetter RX11) (hK : va_K (dC, dI) vwCl (tysA cI cZ cO cW) s) (hA : ∀ q : Nat, s.heap.size ≤ q → A q) :
    ∀ (x0 : Int32) (H : Heap) (locs : List Loc) (ls : Array Slot), wX11_isLetter Q x0  → va_P (dC, dI) vwCl ([] : va_W) H → va_D A ([] : va_W) → va_S A s.heap H locs → lv_has ls 1 [(0, .int x0)] → W p l e rmX11_isLetter s m args below meth c H locs 0 0 (MQ below (qX11_isLetter dC dI cI cZ cO cW Q A) args s 0 0 A) (F0 m 0 ls []) := by
  obtain ⟨hx, hb, hr, hml, hown, hts, hlocks⟩ := id hC
  intro x0 H locs ls hw hP hD hS hl
  refine lv_iload_n hx hb dX11_isLetter_0 rfl (lv_at hl 0 rfl) ?_
  refine lv_bipush (v := (97 : Int32)) hx hb dX11_isLetter_1 (by decide) ?_
  refine lv_icmp_lt (tgt := 16) hx hb dX11_isLetter_3 (by decide) (fun c_1 => ?_) (fun c_1 => ?_)
  · have hw := hw.1 c_1
    refine lv_iconst (v := (0 : Int32)) hx hb dX11_isLetter_16 (by decide) ?_
    have hP9 := hP.sub (ws' := ([] : va_W)) [] rfl
    have hD9 := hD.sub (ws' := ([] : va_W)) [] (by decide) rfl
    exact W.zret (v := (0 : Int32)) (ty := .boolean) hx hb hr rfl (fun t ht hW => ⟨⟨(0 : Int32), (), rfl, hw, by rw [ht]; exact hP9, va_K.moved hW.alike hK, hD9⟩, hS.F ht⟩) hS.2.2 dX11_isLetter_17
  · have hw := hw.2 c_1
    refine lv_iload_n hx hb dX11_isLetter_6 rfl (lv_at hl 0 rfl) ?_
    refine lv_bipush (v := (122 : Int32)) hx hb dX11_isLetter_7 (by decide) ?_
    refine lv_icmp_gt (tgt := 16) hx hb dX11_isLetter_9 (by decide) (fun c_2 => ?_) (fun c_2 => ?_)
    · have hw := hw.1 c_2
      refine lv_iconst (v := (0 : Int32)) hx hb dX11_isLetter_16 (by decide) ?_
      have hP9 := hP.sub (ws' := ([] : va_W)) [] rfl
      have hD9 := hD.sub (ws' := ([] : va_W)) [] (by decide) rfl
      exact W.zret (v := (0 : Int32)) (ty := .boolean) hx hb hr rfl (fun t ht hW => ⟨⟨(0 : Int32), (), rfl, hw, by rw [ht]; exact hP9, va_K.moved hW.alike hK, hD9⟩, hS.F ht⟩) hS.2.2 dX11_isLetter_17
    · have hw := hw.2 c_2
      refine lv_iconst (v := (1 : Int32)) hx hb dX11_isLetter_12 (by decide) ?_
      refine lv_goto (tgt := 17) hx hb dX11_isLetter_13 (by decide) ?_
      have hP9 := hP.sub (ws' := ([] : va_W)) [] rfl
      have hD9 := hD.sub (ws' := ([] : va_W)) [] (by decide) rfl
      exact W.zret (v := (1 : Int32)) (ty := .boolean) hx hb hr rfl (fun t ht hW => ⟨⟨(1 : Int32), (), rfl, hw, by rw [ht]; exact hP9, va_K.moved hW.alike hK, hD9⟩, hS.F ht⟩) hS.2.2 dX11_isLetter_17
set_option maxHeartbeats 4000000 in
set_option maxRecDepth 100000 in
theorem kX11_isLetter (l : Launch) (dC : Nat → ClassId) (dI : Nat → Nat → Nat) (cI cZ cO cW : ClassId)  (sz : Nat)  (x0 : Int32) (Q : Int32 → Prop) (hw : wX11_isLetter Q x0 ) : Met l yX11_isLetter wsX11_isLetter rmX11_isLetter (va_Pc [.int x0] (fun U => U.heap.size = sz ∧ va_P (dC, dI) vwCl ([] : va_W) U.heap ∧ va_K (dC, dI) vwCl (tysA cI cZ cO cW) U ∧ va_D (fun _ => True) ([] : va_W))) (qX11_isLetter dC dI cI cZ cO cW Q (va_A ([] : va_W) sz)) 0 0 (va_A ([] : va_W) sz) := by
  refine Met.ofW (cc := cX11_isLetter) (maxL := 1) (ret := (some .boolean)) (by decide) rfl ?_
  intro p e s m args below meth c s₁ B hml hv
  obtain ⟨rfl, hsz, hP, hK, hD0⟩ := hv
  subst hsz
  have hC : Cx p s m ([.int x0] : List Value).toArray meth c cX11_isLetter (some .boolean) 1 wsX11_isLetter RX11 := ⟨B.exec, B.bytes, B.returns, hml, findClass_of_methodNamed B.named, atoms_spec (ws := wsX11_isLetter) B.pre, B.notSynchronized⟩
  have hD := hD0.self (sz := s.heap.size)
  generalize hAe : va_A ([] : va_W) s.heap.size = A at hD ⊢
  have hA : ∀ q : Nat, s.heap.size ≤ q → A q := fun q h => by rw [← hAe]; exact Or.inr h
  have hl := lv_entry ([.int x0]) (n := 1) (Nat.le_of_ble_eq_true rfl)
  rw [lg_entry_eq]
  generalize (lg_sl ([.int x0]) ++ List.replicate (1 - (lg_sl ([.int x0])).length) Slot.unset).toArray = ls at hl ⊢
  exact tX11_isLetter_e hC hK hA x0 _ _ ls hw hP hD va_S.rf hl

/-! X11_isDigit -/
def wX11_isDigit (Q : Int32 → Prop) (x0 : Int32)  : Prop :=
  ((x0 < (48 : Int32) → (Q (0 : Int32))) ∧ (¬ x0 < (48 : Int32) → (((57 : Int32) < x0 → (Q (0 : Int32))) ∧ (¬ (57 : Int32) < x0 → (Q (1 : Int32))))))
abbrev rmX11_isDigit : Room := { frames := 0, cells := 0, slots := 0, locals := 0 }
abbrev qX11_isDigit (dC : Nat → ClassId) (dI : Nat → Nat → Nat) (cI cZ cO cW : ClassId)  (Q : Int32 → Prop) (A : Nat → Prop) : Array Value → State → Outcome → State → Prop := va_Qi (fun (r : Int32) (u : Unit) => Q r) (fun (u : Unit) (t : State) => va_P (dC, dI) vwCl ([] : va_W) t.heap ∧ va_K (dC, dI) vwCl (tysA cI cZ cO cW) t ∧ va_D A ([] : va_W)) A
set_option maxHeartbeats 4000000 in
set_option maxRecDepth 100000 in
theorem tX11_isDigit_e {p : Program} {l : Launch} {e : Env} {s : State} {m : MethodId} {args : Array Value} {below : List Frame} {meth : Method} {c : Code} {dC : Nat → ClassId} {dI : Nat → Nat → Nat} {cI cZ cO cW : ClassId} {A : Nat → Prop} {Q : Int32 → Prop} (hC : Cx p s m args meth c cX11_isDigit (some .boolean) 1 wsX11_isDigit RX11) (hK : va_K (dC, dI) vwCl (tysA cI cZ cO cW) s) (hA : ∀ q : Nat, s.heap.size ≤ q → A q) :
    ∀ (x0 : Int32) (H : Heap) (locs : List Loc) (ls : Array Slot), wX11_isDigit Q x0  → va_P (dC, dI) vwCl ([] : va_W) H → va_D A ([] : va_W) → va_S A s.heap H locs → lv_has ls 1 [(0, .int x0)] → W p l e rmX11_isDigit s m args below meth c H locs 0 0 (MQ below (qX11_isDigit dC dI cI cZ cO cW Q A) args s 0 0 A) (F0 m 0 ls []) := by
  obtain ⟨hx, hb, hr, hml, hown, hts, hlocks⟩ := id hC
  intro x0 H locs ls hw hP hD hS hl
  refine lv_iload_n hx hb dX11_isDigit_0 rfl (lv_at hl 0 rfl) ?_
  refine lv_bipush (v := (48 : Int32)) hx hb dX11_isDigit_1 (by decide) ?_
  refine lv_icmp_lt (tgt := 16) hx hb dX11_isDigit_3 (by decide) (fun c_1 => ?_) (fun c_1 => ?_)
  · have hw := hw.1 c_1
    refine lv_iconst (v := (0 : Int32)) hx hb dX11_isDigit_16 (by decide) ?_
    have hP9 := hP.sub (ws' := ([] : va_W)) [] rfl
    have hD9 := hD.sub (ws' := ([] : va_W)) [] (by decide) rfl
    exact W.zret (v := (0 : Int32)) (ty := .boolean) hx hb hr rfl (fun t ht hW => ⟨⟨(0 : Int32), (), rfl, hw, by rw [ht]; exact hP9, va_K.moved hW.alike hK, hD9⟩, hS.F ht⟩) hS.2.2 dX11_isDigit_17
  · have hw := hw.2 c_1
    refine lv_iload_n hx hb dX11_isDigit_6 rfl (lv_at hl 0 rfl) ?_
    refine lv_bipush (v := (57 : Int32)) hx hb dX11_isDigit_7 (by decide) ?_
    refine lv_icmp_gt (tgt := 16) hx hb dX11_isDigit_9 (by decide) (fun c_2 => ?_) (fun c_2 => ?_)
    · have hw := hw.1 c_2
      refine lv_iconst (v := (0 : Int32)) hx hb dX11_isDigit_16 (by decide) ?_
      have hP9 := hP.sub (ws' := ([] : va_W)) [] rfl
      have hD9 := hD.sub (ws' := ([] : va_W)) [] (by decide) rfl
      exact W.zret (v := (0 : Int32)) (ty := .boolean) hx hb hr rfl (fun t ht hW => ⟨⟨(0 : Int32), (), rfl, hw, by rw [ht]; exact hP9, va_K.moved hW.alike hK, hD9⟩, hS.F ht⟩) hS.2.2 dX11_isDigit_17
    · have hw := hw.2 c_2
      refine lv_iconst (v := (1 : Int32)) hx hb dX11_isDigit_12 (by decide) ?_
      refine lv_goto (tgt := 17) hx hb dX11_isDigit_13 (by decide) ?_
      have hP9 := hP.sub (ws' := ([] : va_W)) [] rfl
      have hD9 := hD.sub (ws' := ([] : va_W)) [] (by decide) rfl
      exact W.zret (v := (1 : Int32)) (ty := .boolean) hx hb hr rfl (fun t ht hW => ⟨⟨(1 : Int32), (), rfl, hw, by rw [ht]; exact hP9, va_K.moved hW.alike hK, hD9⟩, hS.F ht⟩) hS.2.2 dX11_isDigit_17
set_option maxHeartbeats 4000000 in
set_option maxRecDepth 100000 in
theorem kX11_isDigit (l : Launch) (dC : Nat → ClassId) (dI : Nat → Nat → Nat) (cI cZ cO cW : ClassId)  (sz : Nat)  (x0 : Int32) (Q : Int32 → Prop) (hw : wX11_isDigit Q x0 ) : Met l yX11_isDigit wsX11_isDigit rmX11_isDigit (va_Pc [.int x0] (fun U => U.heap.size = sz ∧ va_P (dC, dI) vwCl ([] : va_W) U.heap ∧ va_K (dC, dI) vwCl (tysA cI cZ cO cW) U ∧ va_D (fun _ => True) ([] : va_W))) (qX11_isDigit dC dI cI cZ cO cW Q (va_A ([] : va_W) sz)) 0 0 (va_A ([] : va_W) sz) := by
  refine Met.ofW (cc := cX11_isDigit) (maxL := 1) (ret := (some .boolean)) (by decide) rfl ?_
  intro p e s m args below meth c s₁ B hml hv
  obtain ⟨rfl, hsz, hP, hK, hD0⟩ := hv
  subst hsz
  have hC : Cx p s m ([.int x0] : List Value).toArray meth c cX11_isDigit (some .boolean) 1 wsX11_isDigit RX11 := ⟨B.exec, B.bytes, B.returns, hml, findClass_of_methodNamed B.named, atoms_spec (ws := wsX11_isDigit) B.pre, B.notSynchronized⟩
  have hD := hD0.self (sz := s.heap.size)
  generalize hAe : va_A ([] : va_W) s.heap.size = A at hD ⊢
  have hA : ∀ q : Nat, s.heap.size ≤ q → A q := fun q h => by rw [← hAe]; exact Or.inr h
  have hl := lv_entry ([.int x0]) (n := 1) (Nat.le_of_ble_eq_true rfl)
  rw [lg_entry_eq]
  generalize (lg_sl ([.int x0]) ++ List.replicate (1 - (lg_sl ([.int x0])).length) Slot.unset).toArray = ls at hl ⊢
  exact tX11_isDigit_e hC hK hA x0 _ _ ls hw hP hD va_S.rf hl

/-! X11_two -/
def wX11_two (Q : Int64 → Prop) (x0 : Int32) (x1 : Int32)  : Prop :=
  (Q ((((32 : Int64) * (x0 - (96 : Int32)).toInt64) + x1.toInt64) - (96 : Int64)))
abbrev rmX11_two : Room := { frames := 0, cells := 0, slots := 0, locals := 0 }
abbrev qX11_two (dC : Nat → ClassId) (dI : Nat → Nat → Nat) (cI cZ cO cW : ClassId)  (Q : Int64 → Prop) (A : Nat → Prop) : Array Value → State → Outcome → State → Prop := va_Ql (fun (r : Int64) (u : Unit) => Q r) (fun (u : Unit) (t : State) => va_P (dC, dI) vwCl ([] : va_W) t.heap ∧ va_K (dC, dI) vwCl (tysA cI cZ cO cW) t ∧ va_D A ([] : va_W)) A
theorem mX11_two_0 : Cond.constantLong RX11 77 (32) ∈ wsX11_two := by decide +kernel
theorem mX11_two_1 : Cond.constantLong RX11 79 (96) ∈ wsX11_two := by decide +kernel
set_option maxHeartbeats 4000000 in
set_option maxRecDepth 100000 in
theorem tX11_two_e {p : Program} {l : Launch} {e : Env} {s : State} {m : MethodId} {args : Array Value} {below : List Frame} {meth : Method} {c : Code} {dC : Nat → ClassId} {dI : Nat → Nat → Nat} {cI cZ cO cW : ClassId} {A : Nat → Prop} {Q : Int64 → Prop} (hC : Cx p s m args meth c cX11_two (some .long) 2 wsX11_two RX11) (hK : va_K (dC, dI) vwCl (tysA cI cZ cO cW) s) (hA : ∀ q : Nat, s.heap.size ≤ q → A q) :
    ∀ (x0 : Int32) (x1 : Int32) (H : Heap) (locs : List Loc) (ls : Array Slot), wX11_two Q x0 x1  → va_P (dC, dI) vwCl ([] : va_W) H → va_D A ([] : va_W) → va_S A s.heap H locs → lv_has ls 2 [(0, .int x0), (1, .int x1)] → W p l e rmX11_two s m args below meth c H locs 0 0 (MQ below (qX11_two dC dI cI cZ cO cW Q A) args s 0 0 A) (F0 m 0 ls []) := by
  obtain ⟨hx, hb, hr, hml, hown, hts, hlocks⟩ := id hC
  intro x0 x1 H locs ls hw hP hD hS hl
  refine lv_ldc2 (v := (32 : Int64)) hx hb hown (hts _ mX11_two_0) dX11_two_0 ?_
  refine lv_iload_n hx hb dX11_two_3 rfl (lv_at hl 0 rfl) ?_
  refine lv_bipush (v := (96 : Int32)) hx hb dX11_two_4 (by decide) ?_
  refine lv_isub hx hb dX11_two_6 ?_
  refine lv_i2l (v := (x0 - (96 : Int32)).toInt64) hx hb dX11_two_7 rfl ?_
  refine lv_lmul hx hb dX11_two_8 ?_
  refine lv_iload_n hx hb dX11_two_9 rfl (lv_at hl 1 rfl) ?_
  refine lv_i2l (v := x1.toInt64) hx hb dX11_two_10 rfl ?_
  refine lv_ladd hx hb dX11_two_11 ?_
  refine lv_ldc2 (v := (96 : Int64)) hx hb hown (hts _ mX11_two_1) dX11_two_12 ?_
  refine lv_lsub hx hb dX11_two_15 ?_
  have hP9 := hP.sub (ws' := ([] : va_W)) [] rfl
  have hD9 := hD.sub (ws' := ([] : va_W)) [] (by decide) rfl
  exact W.lret (v := ((((32 : Int64) * (x0 - (96 : Int32)).toInt64) + x1.toInt64) - (96 : Int64))) hx hb hr (fun t ht hW => ⟨⟨((((32 : Int64) * (x0 - (96 : Int32)).toInt64) + x1.toInt64) - (96 : Int64)), (), rfl, hw, by rw [ht]; exact hP9, va_K.moved hW.alike hK, hD9⟩, hS.F ht⟩) hS.2.2 dX11_two_16
set_option maxHeartbeats 4000000 in
set_option maxRecDepth 100000 in
theorem kX11_two (l : Launch) (dC : Nat → ClassId) (dI : Nat → Nat → Nat) (cI cZ cO cW : ClassId)  (sz : Nat)  (x0 : Int32) (x1 : Int32) (Q : Int64 → Prop) (hw : wX11_two Q x0 x1 ) : Met l yX11_two wsX11_two rmX11_two (va_Pc [.int x0, .int x1] (fun U => U.heap.size = sz ∧ va_P (dC, dI) vwCl ([] : va_W) U.heap ∧ va_K (dC, dI) vwCl (tysA cI cZ cO cW) U ∧ va_D (fun _ => True) ([] : va_W))) (qX11_two dC dI cI cZ cO cW Q (va_A ([] : va_W) sz)) 0 0 (va_A ([] : va_W) sz) := by
  refine Met.ofW (cc := cX11_two) (maxL := 2) (ret := (some .long)) (by decide) rfl ?_
  intro p e s m args below meth c s₁ B hml hv
  obtain ⟨rfl, hsz, hP, hK, hD0⟩ := hv
  subst hsz
  have hC : Cx p s m ([.int x0, .int x1] : List Value).toArray meth c cX11_two (some .long) 2 wsX11_two RX11 := ⟨B.exec, B.bytes, B.returns, hml, findClass_of_methodNamed B.named, atoms_spec (ws := wsX11_two) B.pre, B.notSynchronized⟩
  have hD := hD0.self (sz := s.heap.size)
  generalize hAe : va_A ([] : va_W) s.heap.size = A at hD ⊢
  have hA : ∀ q : Nat, s.heap.size ≤ q → A q := fun q h => by rw [← hAe]; exact Or.inr h
  have hl := lv_entry ([.int x0, .int x1]) (n := 2) (Nat.le_of_ble_eq_true rfl)
  rw [lg_entry_eq]
  generalize (lg_sl ([.int x0, .int x1]) ++ List.replicate (2 - (lg_sl ([.int x0, .int x1])).length) Slot.unset).toArray = ls at hl ⊢
  exact tX11_two_e hC hK hA x0 x1 _ _ ls hw hP hD va_S.rf hl

/-! X11_four -/
def wX11_four (Q : Int64 → Prop) (x0 : Int32) (x1 : Int32) (x2 : Int32) (x3 : Int32)  : Prop :=
  (wX11_two (fun r_1 => (wX11_two (fun r_2 => (Q ((r_1 * (1024 : Int64)) + r_2))) x2 x3)) x0 x1)
abbrev rmX11_four : Room := { frames := 1, cells := 0, slots := 0, locals := 21 }
abbrev qX11_four (dC : Nat → ClassId) (dI : Nat → Nat → Nat) (cI cZ cO cW : ClassId)  (Q : Int64 → Prop) (A : Nat → Prop) : Array Value → State → Outcome → State → Prop := va_Ql (fun (r : Int64) (u : Unit) => Q r) (fun (u : Unit) (t : State) => va_P (dC, dI) vwCl ([] : va_W) t.heap ∧ va_K (dC, dI) vwCl (tysA cI cZ cO cW) t ∧ va_D A ([] : va_W)) A
theorem mX11_four_0 : Cond.constantLong RX11 85 (1024) ∈ wsX11_four := by decide +kernel
set_option maxHeartbeats 4000000 in
set_option maxRecDepth 100000 in
theorem tX11_four_e {p : Program} {l : Launch} {e : Env} {s : State} {m : MethodId} {args : Array Value} {below : List Frame} {meth : Method} {c : Code} {dC : Nat → ClassId} {dI : Nat → Nat → Nat} {cI cZ cO cW : ClassId} {A : Nat → Prop} {Q : Int64 → Prop} (hC : Cx p s m args meth c cX11_four (some .long) 4 wsX11_four RX11) (hK : va_K (dC, dI) vwCl (tysA cI cZ cO cW) s) (hA : ∀ q : Nat, s.heap.size ≤ q → A q) :
    ∀ (x0 : Int32) (x1 : Int32) (x2 : Int32) (x3 : Int32) (H : Heap) (locs : List Loc) (ls : Array Slot), wX11_four Q x0 x1 x2 x3  → va_P (dC, dI) vwCl ([] : va_W) H → va_D A ([] : va_W) → va_S A s.heap H locs → lv_has ls 4 [(0, .int x0), (1, .int x1), (2, .int x2), (3, .int x3)] → W p l e rmX11_four s m args below meth c H locs 0 0 (MQ below (qX11_four dC dI cI cZ cO cW Q A) args s 0 0 A) (F0 m 0 ls []) := by
  obtain ⟨hx, hb, hr, hml, hown, hts, hlocks⟩ := id hC
  intro x0 x1 x2 x3 H locs ls hw hP hD hS hl
  refine lv_iload_n hx hb dX11_four_0 rfl (lv_at hl 0 rfl) ?_
  refine lv_iload_n hx hb dX11_four_1 rfl (lv_at hl 1 rfl) ?_
  have hPc := hP.sub (ws' := []) [] rfl
  have hDc := hD.sub (ws' := []) [] (by decide) rfl
  have hFc := va_free (wc := []) hD hS hA [] rfl
  refine va_calll (va_runS (As := [.int x0, .int x1]) (rest := []) ⟨hx, hb, hml, hown, hts⟩ (kX11_two l dC dI cI cZ cO cW H.size x0 x1 _ hw) (va_cwS 2 hts gX11_four_X11_two rfl rfl rfl (by decide +kernel) ⟨Nat.le_of_ble_eq_true rfl, Nat.le_of_ble_eq_true rfl⟩) (ps_of hPc hK hDc) rfl rfl hl.1 rfl (lv_room (Nat.le_of_ble_eq_true rfl)) dX11_four_2 ⟨Nat.zero_le _, Nat.zero_le _⟩) hS (fun q _ h => hFc q h) hFc (fun r_1 u t H locs ht hvm hw hB hz1 hk1 hS => ?_)
  obtain ⟨hP, hD⟩ := af_join (wr := []) (w1 := []) hB ht hP hD [] [] rfl rfl (by decide) (by decide) hk1 hFc
  have hP : va_P (dC, dI) vwCl [] _ := hP
  have hD : va_D A [] := hD
  refine lv_ldc2 (v := (1024 : Int64)) hx hb hown (hts _ mX11_four_0) dX11_four_5 ?_
  refine lv_lmul hx hb dX11_four_8 ?_
  refine lv_iload_n hx hb dX11_four_9 rfl (lv_at hl 2 rfl) ?_
  refine lv_iload_n hx hb dX11_four_10 rfl (lv_at hl 3 rfl) ?_
  have hPc := hP.sub (ws' := []) [] rfl
  have hDc := hD.sub (ws' := []) [] (by decide) rfl
  have hFc := va_free (wc := []) hD hS hA [] rfl
  refine va_calll (va_runS (As := [.int x2, .int x3]) (rest := [.long (r_1 * (1024 : Int64))]) ⟨hx, hb, hml, hown, hts⟩ (kX11_two l dC dI cI cZ cO cW H.size x2 x3 _ hw) (va_cwS 2 hts gX11_four_X11_two rfl rfl rfl (by decide +kernel) ⟨Nat.le_of_ble_eq_true rfl, Nat.le_of_ble_eq_true rfl⟩) (ps_of hPc hK hDc) rfl rfl hl.1 rfl (lv_room (Nat.le_of_ble_eq_true rfl)) dX11_four_11 ⟨Nat.zero_le _, Nat.zero_le _⟩) hS (fun q _ h => hFc q h) hFc (fun r_2 u t H locs ht hvm hw hB hz1 hk1 hS => ?_)
  obtain ⟨hP, hD⟩ := af_join (wr := []) (w1 := []) hB ht hP hD [] [] rfl rfl (by decide) (by decide) hk1 hFc
  have hP : va_P (dC, dI) vwCl [] _ := hP
  have hD : va_D A [] := hD
  refine lv_ladd hx hb dX11_four_14 ?_
  have hP9 := hP.sub (ws' := ([] : va_W)) [] rfl
  have hD9 := hD.sub (ws' := ([] : va_W)) [] (by decide) rfl
  exact W.lret (v := ((r_1 * (1024 : Int64)) + r_2)) hx hb hr (fun t ht hW => ⟨⟨((r_1 * (1024 : Int64)) + r_2), (), rfl, hw, by rw [ht]; exact hP9, va_K.moved hW.alike hK, hD9⟩, hS.F ht⟩) hS.2.2 dX11_four_15
set_option maxHeartbeats 4000000 in
set_option maxRecDepth 100000 in
theorem kX11_four (l : Launch) (dC : Nat → ClassId) (dI : Nat → Nat → Nat) (cI cZ cO cW : ClassId)  (sz : Nat)  (x0 : Int32) (x1 : Int32) (x2 : Int32) (x3 : Int32) (Q : Int64 → Prop) (hw : wX11_four Q x0 x1 x2 x3 ) : Met l yX11_four wsX11_four rmX11_four (va_Pc [.int x0, .int x1, .int x2, .int x3] (fun U => U.heap.size = sz ∧ va_P (dC, dI) vwCl ([] : va_W) U.heap ∧ va_K (dC, dI) vwCl (tysA cI cZ cO cW) U ∧ va_D (fun _ => True) ([] : va_W))) (qX11_four dC dI cI cZ cO cW Q (va_A ([] : va_W) sz)) 0 0 (va_A ([] : va_W) sz) := by
  refine Met.ofW (cc := cX11_four) (maxL := 4) (ret := (some .long)) (by decide) rfl ?_
  intro p e s m args below meth c s₁ B hml hv
  obtain ⟨rfl, hsz, hP, hK, hD0⟩ := hv
  subst hsz
  have hC : Cx p s m ([.int x0, .int x1, .int x2, .int x3] : List Value).toArray meth c cX11_four (some .long) 4 wsX11_four RX11 := ⟨B.exec, B.bytes, B.returns, hml, findClass_of_methodNamed B.named, atoms_spec (ws := wsX11_four) B.pre, B.notSynchronized⟩
  have hD := hD0.self (sz := s.heap.size)
  generalize hAe : va_A ([] : va_W) s.heap.size = A at hD ⊢
  have hA : ∀ q : Nat, s.heap.size ≤ q → A q := fun q h => by rw [← hAe]; exact Or.inr h
  have hl := lv_entry ([.int x0, .int x1, .int x2, .int x3]) (n := 4) (Nat.le_of_ble_eq_true rfl)
  rw [lg_entry_eq]
  generalize (lg_sl ([.int x0, .int x1, .int x2, .int x3]) ++ List.replicate (4 - (lg_sl ([.int x0, .int x1, .int x2, .int x3])).length) Slot.unset).toArray = ls at hl ⊢
  exact tX11_four_e hC hK hA x0 x1 x2 x3 _ _ ls hw hP hD va_S.rf hl

/-! X11_wordOf -/
def wX11_wordOf (Q : Int32 → Prop) (x0 : Int64)  : Prop :=
  (wX11_four (fun r_1 => ((¬ (lg_cmp x0 r_1) = 0 → (wX11_four (fun r_3 => ((¬ (lg_cmp x0 (((r_3 * (32 : Int64)) + (108 : Int64)) - (96 : Int64))) = 0 → (wX11_four (fun r_5 => ((¬ (lg_cmp x0 (((r_5 * (32 : Int64)) + (101 : Int64)) - (96 : Int64))) = 0 → (wX11_four (fun r_7 => ((¬ (lg_cmp x0 r_7) = 0 → (wX11_four (fun r_9 => ((¬ (lg_cmp x0 r_9) = 0 → (wX11_four (fun r_11 => ((¬ (lg_cmp x0 r_11) = 0 → (wX11_two (fun r_13 => ((¬ (lg_cmp x0 (((r_13 * (32 : Int64)) + (119 : Int64)) - (96 : Int64))) = 0 → (wX11_four (fun r_15 => (wX11_two (fun r_16 => ((¬ (lg_cmp x0 ((r_15 * (1024 : Int64)) + r_16)) = 0 → (wX11_four (fun r_18 => ((¬ (lg_cmp x0 (((r_18 * (32 : Int64)) + (104 : Int64)) - (96 : Int64))) = 0 → (wX11_four (fun r_20 => ((¬ (lg_cmp x0 r_20) = 0 → (wX11_four (fun r_22 => ((¬ (lg_cmp x0 (((r_22 * (32 : Int64)) + (104 : Int64)) - (96 : Int64))) = 0 → (wX11_four (fun r_24 => ((¬ (lg_cmp x0 r_24) = 0 → (wX11_four (fun r_26 => ((¬ (lg_cmp x0 r_26) = 0 → (wX11_four (fun r_28 => ((¬ (lg_cmp x0 r_28) = 0 → (wX11_two (fun r_30 => ((¬ (lg_cmp x0 (((r_30 * (32 : Int64)) + (116 : Int64)) - (96 : Int64))) = 0 → (wX11_four (fun r_32 => ((¬ (lg_cmp x0 r_32) = 0 → (wX11_two (fun r_34 => ((¬ (lg_cmp x0 r_34) = 0 → (wX11_two (fun r_36 => ((¬ (lg_cmp x0 r_36) = 0 → (wX11_two (fun r_38 => ((¬ (lg_cmp x0 (((r_38 * (32 : Int64)) + (100 : Int64)) - (96 : Int64))) = 0 → (wX11_two (fun r_40 => ((¬ (lg_cmp x0 (((r_40 * (32 : Int64)) + (116 : Int64)) - (96 : Int64))) = 0 → (Q (99 : Int32))) ∧ ((lg_cmp x0 (((r_40 * (32 : Int64)) + (116 : Int64)) - (96 : Int64))) = 0 → (Q (33 : Int32))))) (110 : Int32) (111 : Int32))) ∧ ((lg_cmp x0 (((r_38 * (32 : Int64)) + (100 : Int64)) - (96 : Int64))) = 0 → (Q (32 : Int32))))) (97 : Int32) (110 : Int32))) ∧ ((lg_cmp x0 r_36) = 0 → (Q (31 : Int32))))) (111 : Int32) (114 : Int32))) ∧ ((lg_cmp x0 r_34) = 0 → (Q (30 : Int32))))) (105 : Int32) (102 : Int32))) ∧ ((lg_cmp x0 r_32) = 0 → (Q (26 : Int32))))) (99 : Int32) (97 : Int32) (108 : Int32) (108 : Int32))) ∧ ((lg_cmp x0 (((r_30 * (32 : Int64)) + (116 : Int64)) - (96 : Int64))) = 0 → (Q (25 : Int32))))) (99 : Int32) (117 : Int32))) ∧ ((lg_cmp x0 r_28) = 0 → (Q (24 : Int32))))) (119 : Int32) (97 : Int32) (105 : Int32) (116 : Int32))) ∧ ((lg_cmp x0 r_26) = 0 → (Q (12 : Int32))))) (116 : Int32) (111 : Int32) (108 : Int32) (100 : Int32))) ∧ ((lg_cmp x0 r_24) = 0 → (Q (11 : Int32))))) (119 : Int32) (101 : Int32) (115 : Int32) (116 : Int32))) ∧ ((lg_cmp x0 (((r_22 * (32 : Int64)) + (104 : Int64)) - (96 : Int64))) = 0 → (Q (10 : Int32))))) (115 : Int32) (111 : Int32) (117 : Int32) (116 : Int32))) ∧ ((lg_cmp x0 r_20) = 0 → (Q (9 : Int32))))) (101 : Int32) (97 : Int32) (115 : Int32) (116 : Int32))) ∧ ((lg_cmp x0 (((r_18 * (32 : Int64)) + (104 : Int64)) - (96 : Int64))) = 0 → (Q (8 : Int32))))) (110 : Int32) (111 : Int32) (114 : Int32) (116 : Int32))) ∧ ((lg_cmp x0 ((r_15 * (1024 : Int64)) + r_16)) = 0 → (Q (7 : Int32))))) (109 : Int32) (110 : Int32))) (99 : Int32) (111 : Int32) (108 : Int32) (117 : Int32))) ∧ ((lg_cmp x0 (((r_13 * (32 : Int64)) + (119 : Int64)) - (96 : Int64))) = 0 → (Q (6 : Int32))))) (114 : Int32) (111 : Int32))) ∧ ((lg_cmp x0 r_11) = 0 → (Q (5 : Int32))))) (110 : Int32) (101 : Int32) (97 : Int32) (114 : Int32))) ∧ ((lg_cmp x0 r_9) = 0 → (Q (4 : Int32))))) (104 : Int32) (101 : Int32) (108 : Int32) (100 : Int32))) ∧ ((lg_cmp x0 r_7) = 0 → (Q (3 : Int32))))) (102 : Int32) (117 : Int32) (101 : Int32) (108 : Int32))) ∧ ((lg_cmp x0 (((r_5 * (32 : Int64)) + (101 : Int64)) - (96 : Int64))) = 0 → (Q (2 : Int32))))) (114 : Int32) (105 : Int32) (100 : Int32) (103 : Int32))) ∧ ((lg_cmp x0 (((r_3 * (32 : Int64)) + (108 : Int64)) - (96 : Int64))) = 0 → (Q (1 : Int32))))) (108 : Int32) (101 : Int32) (118 : Int32) (101 : Int32))) ∧ ((lg_cmp x0 r_1) = 0 → (Q (0 : Int32))))) (104 : Int32) (111 : Int32) (117 : Int32) (114 : Int32))
abbrev rmX11_wordOf : Room := { frames := 2, cells := 0, slots := 0, locals := 44 }
abbrev qX11_wordOf (dC : Nat → ClassId) (dI : Nat → Nat → Nat) (cI cZ cO cW : ClassId)  (Q : Int32 → Prop) (A : Nat → Prop) : Array Value → State → Outcome → State → Prop := va_Qi (fun (r : Int32) (u : Unit) => Q r) (fun (u : Unit) (t : State) => va_P (dC, dI) vwCl ([] : va_W) t.heap ∧ va_K (dC, dI) vwCl (tysA cI cZ cO cW) t ∧ va_D A ([] : va_W)) A
theorem mX11_wordOf_0 : Cond.constantLong RX11 77 (32) ∈ wsX11_wordOf := by decide +kernel
theorem mX11_wordOf_1 : Cond.constantLong RX11 91 (108) ∈ wsX11_wordOf := by decide +kernel
theorem mX11_wordOf_2 : Cond.constantLong RX11 79 (96) ∈ wsX11_wordOf := by decide +kernel
theorem mX11_wordOf_3 : Cond.constantLong RX11 93 (101) ∈ wsX11_wordOf := by decide +kernel
theorem mX11_wordOf_4 : Cond.constantLong RX11 95 (119) ∈ wsX11_wordOf := by decide +kernel
theorem mX11_wordOf_5 : Cond.constantLong RX11 85 (1024) ∈ wsX11_wordOf := by decide +kernel
theorem mX11_wordOf_6 : Cond.constantLong RX11 97 (104) ∈ wsX11_wordOf := by decide +kernel
theorem mX11_wordOf_7 : Cond.constantLong RX11 99 (116) ∈ wsX11_wordOf := by decide +kernel
theorem mX11_wordOf_8 : Cond.constantLong RX11 101 (100) ∈ wsX11_wordOf := by decide +kernel
set_option maxHeartbeats 4000000 in
set_option maxRecDepth 100000 in
theorem tX11_wordOf_e {p : Program} {l : Launch} {e : Env} {s : State} {m : MethodId} {args : Array Value} {below : List Frame} {meth : Method} {c : Code} {dC : Nat → ClassId} {dI : Nat → Nat → Nat} {cI cZ cO cW : ClassId} {A : Nat → Prop} {Q : Int32 → Prop} (hC : Cx p s m args meth c cX11_wordOf (some .int) 2 wsX11_wordOf RX11) (hK : va_K (dC, dI) vwCl (tysA cI cZ cO cW) s) (hA : ∀ q : Nat, s.heap.size ≤ q → A q) :
    ∀ (x0 : Int64) (H : Heap) (locs : List Loc) (ls : Array Slot), wX11_wordOf Q x0  → va_P (dC, dI) vwCl ([] : va_W) H → va_D A ([] : va_W) → va_S A s.heap H locs → lv_has ls 2 [(0, .long x0)] → W p l e rmX11_wordOf s m args below meth c H locs 0 0 (MQ below (qX11_wordOf dC dI cI cZ cO cW Q A) args s 0 0 A) (F0 m 0 ls []) := by
  obtain ⟨hx, hb, hr, hml, hown, hts, hlocks⟩ := id hC
  intro x0 H locs ls hw hP hD hS hl
  refine lv_lload_n hx hb dX11_wordOf_0 rfl (lv_at hl 0 rfl) ?_
  refine lv_bipush (v := (104 : Int32)) hx hb dX11_wordOf_1 (by decide) ?_
  refine lv_bipush (v := (111 : Int32)) hx hb dX11_wordOf_3 (by decide) ?_
  refine lv_bipush (v := (117 : Int32)) hx hb dX11_wordOf_5 (by decide) ?_
  refine lv_bipush (v := (114 : Int32)) hx hb dX11_wordOf_7 (by decide) ?_
  have hPc := hP.sub (ws' := []) [] rfl
  have hDc := hD.sub (ws' := []) [] (by decide) rfl
  have hFc := va_free (wc := []) hD hS hA [] rfl
  refine va_calll (va_runS (As := [.int (104 : Int32), .int (111 : Int32), .int (117 : Int32), .int (114 : Int32)]) (rest := [.long x0]) ⟨hx, hb, hml, hown, hts⟩ (kX11_four l dC dI cI cZ cO cW H.size (104 : Int32) (111 : Int32) (117 : Int32) (114 : Int32) _ hw) (va_cwS 4 hts gX11_wordOf_X11_four rfl rfl rfl (by decide +kernel) ⟨Nat.le_of_ble_eq_true rfl, Nat.le_of_ble_eq_true rfl⟩) (ps_of hPc hK hDc) rfl rfl hl.1 rfl (lv_room (Nat.le_of_ble_eq_true rfl)) dX11_wordOf_9 ⟨Nat.zero_le _, Nat.zero_le _⟩) hS (fun q _ h => hFc q h) hFc (fun r_1 u t H locs ht hvm hw hB hz1 hk1 hS => ?_)
  obtain ⟨hP, hD⟩ := af_join (wr := []) (w1 := []) hB ht hP hD [] [] rfl rfl (by decide) (by decide) hk1 hFc
  have hP : va_P (dC, dI) vwCl [] _ := hP
  have hD : va_D A [] := hD
  refine W.lcmp hx hb dX11_wordOf_12 ?_
  refine lv_if_ne (tgt := 18) hx hb dX11_wordOf_13 (by decide) (fun c_2 => ?_) (fun c_2 => ?_)
  · have hw := hw.1 c_2
    refine lv_lload_n hx hb dX11_wordOf_18 rfl (lv_at hl 0 rfl) ?_
    refine lv_bipush (v := (108 : Int32)) hx hb dX11_wordOf_19 (by decide) ?_
    refine lv_bipush (v := (101 : Int32)) hx hb dX11_wordOf_21 (by decide) ?_
    refine lv_bipush (v := (118 : Int32)) hx hb dX11_wordOf_23 (by decide) ?_
    refine lv_bipush (v := (101 : Int32)) hx hb dX11_wordOf_25 (by decide) ?_
    have hPc := hP.sub (ws' := []) [] rfl
    have hDc := hD.sub (ws' := []) [] (by decide) rfl
    have hFc := va_free (wc := []) hD hS hA [] rfl
    refine va_calll (va_runS (As := [.int (108 : Int32), .int (101 : Int32), .int (118 : Int32), .int (101 : Int32)]) (rest := [.long x0]) ⟨hx, hb, hml, hown, hts⟩ (kX11_four l dC dI cI cZ cO cW H.size (108 : Int32) (101 : Int32) (118 : Int32) (101 : Int32) _ hw) (va_cwS 4 hts gX11_wordOf_X11_four rfl rfl rfl (by decide +kernel) ⟨Nat.le_of_ble_eq_true rfl, Nat.le_of_ble_eq_true rfl⟩) (ps_of hPc hK hDc) rfl rfl hl.1 rfl (lv_room (Nat.le_of_ble_eq_true rfl)) dX11_wordOf_27 ⟨Nat.zero_le _, Nat.zero_le _⟩) hS (fun q _ h => hFc q h) hFc (fun r_3 u t H locs ht hvm hw hB hz1 hk1 hS => ?_)
    obtain ⟨hP, hD⟩ := af_join (wr := []) (w1 := []) hB ht hP hD [] [] rfl rfl (by decide) (by decide) hk1 hFc
    have hP : va_P (dC, dI) vwCl [] _ := hP
    have hD : va_D A [] := hD
    refine lv_ldc2 (v := (32 : Int64)) hx hb hown (hts _ mX11_wordOf_0) dX11_wordOf_30 ?_
    refine lv_lmul hx hb dX11_wordOf_33 ?_
    refine lv_ldc2 (v := (108 : Int64)) hx hb hown (hts _ mX11_wordOf_1) dX11_wordOf_34 ?_
    refine lv_ladd hx hb dX11_wordOf_37 ?_
    refine lv_ldc2 (v := (96 : Int64)) hx hb hown (hts _ mX11_wordOf_2) dX11_wordOf_38 ?_
    refine lv_lsub hx hb dX11_wordOf_41 ?_
    refine W.lcmp hx hb dX11_wordOf_42 ?_
    refine lv_if_ne (tgt := 48) hx hb dX11_wordOf_43 (by decide) (fun c_4 => ?_) (fun c_4 => ?_)
    · have hw := hw.1 c_4
      refine lv_lload_n hx hb dX11_wordOf_48 rfl (lv_at hl 0 rfl) ?_
      refine lv_bipush (v := (114 : Int32)) hx hb dX11_wordOf_49 (by decide) ?_
      refine lv_bipush (v := (105 : Int32)) hx hb dX11_wordOf_51 (by decide) ?_
      refine lv_bipush (v := (100 : Int32)) hx hb dX11_wordOf_53 (by decide) ?_
      refine lv_bipush (v := (103 : Int32)) hx hb dX11_wordOf_55 (by decide) ?_
      have hPc := hP.sub (ws' := []) [] rfl
      have hDc := hD.sub (ws' := []) [] (by decide) rfl
      have hFc := va_free (wc := []) hD hS hA [] rfl
      refine va_calll (va_runS (As := [.int (114 : Int32), .int (105 : Int32), .int (100 : Int32), .int (103 : Int32)]) (rest := [.long x0]) ⟨hx, hb, hml, hown, hts⟩ (kX11_four l dC dI cI cZ cO cW H.size (114 : Int32) (105 : Int32) (100 : Int32) (103 : Int32) _ hw) (va_cwS 4 hts gX11_wordOf_X11_four rfl rfl rfl (by decide +kernel) ⟨Nat.le_of_ble_eq_true rfl, Nat.le_of_ble_eq_true rfl⟩) (ps_of hPc hK hDc) rfl rfl hl.1 rfl (lv_room (Nat.le_of_ble_eq_true rfl)) dX11_wordOf_57 ⟨Nat.zero_le _, Nat.zero_le _⟩) hS (fun q _ h => hFc q h) hFc (fun r_5 u t H locs ht hvm hw hB hz1 hk1 hS => ?_)
      obtain ⟨hP, hD⟩ := af_join (wr := []) (w1 := []) hB ht hP hD [] [] rfl rfl (by decide) (by decide) hk1 hFc
      have hP : va_P (dC, dI) vwCl [] _ := hP
      have hD : va_D A [] := hD
      refine lv_ldc2 (v := (32 : Int64)) hx hb hown (hts _ mX11_wordOf_0) dX11_wordOf_60 ?_
      refine lv_lmul hx hb dX11_wordOf_63 ?_
      refine lv_ldc2 (v := (101 : Int64)) hx hb hown (hts _ mX11_wordOf_3) dX11_wordOf_64 ?_
      refine lv_ladd hx hb dX11_wordOf_67 ?_
      refine lv_ldc2 (v := (96 : Int64)) hx hb hown (hts _ mX11_wordOf_2) dX11_wordOf_68 ?_
      refine lv_lsub hx hb dX11_wordOf_71 ?_
      refine W.lcmp hx hb dX11_wordOf_72 ?_
      refine lv_if_ne (tgt := 78) hx hb dX11_wordOf_73 (by decide) (fun c_6 => ?_) (fun c_6 => ?_)
      · have hw := hw.1 c_6
        refine lv_lload_n hx hb dX11_wordOf_78 rfl (lv_at hl 0 rfl) ?_
        refine lv_bipush (v := (102 : Int32)) hx hb dX11_wordOf_79 (by decide) ?_
        refine lv_bipush (v := (117 : Int32)) hx hb dX11_wordOf_81 (by decide) ?_
        refine lv_bipush (v := (101 : Int32)) hx hb dX11_wordOf_83 (by decide) ?_
        refine lv_bipush (v := (108 : Int32)) hx hb dX11_wordOf_85 (by decide) ?_
        have hPc := hP.sub (ws' := []) [] rfl
        have hDc := hD.sub (ws' := []) [] (by decide) rfl
        have hFc := va_free (wc := []) hD hS hA [] rfl
        refine va_calll (va_runS (As := [.int (102 : Int32), .int (117 : Int32), .int (101 : Int32), .int (108 : Int32)]) (rest := [.long x0]) ⟨hx, hb, hml, hown, hts⟩ (kX11_four l dC dI cI cZ cO cW H.size (102 : Int32) (117 : Int32) (101 : Int32) (108 : Int32) _ hw) (va_cwS 4 hts gX11_wordOf_X11_four rfl rfl rfl (by decide +kernel) ⟨Nat.le_of_ble_eq_true rfl, Nat.le_of_ble_eq_true rfl⟩) (ps_of hPc hK hDc) rfl rfl hl.1 rfl (lv_room (Nat.le_of_ble_eq_true rfl)) dX11_wordOf_87 ⟨Nat.zero_le _, Nat.zero_le _⟩) hS (fun q _ h => hFc q h) hFc (fun r_7 u t H locs ht hvm hw hB hz1 hk1 hS => ?_)
        obtain ⟨hP, hD⟩ := af_join (wr := []) (w1 := []) hB ht hP hD [] [] rfl rfl (by decide) (by decide) hk1 hFc
        have hP : va_P (dC, dI) vwCl [] _ := hP
        have hD : va_D A [] := hD
        refine W.lcmp hx hb dX11_wordOf_90 ?_
        refine lv_if_ne (tgt := 96) hx hb dX11_wordOf_91 (by decide) (fun c_8 => ?_) (fun c_8 => ?_)
        · have hw := hw.1 c_8
          refine lv_lload_n hx hb dX11_wordOf_96 rfl (lv_at hl 0 rfl) ?_
          refine lv_bipush (v := (104 : Int32)) hx hb dX11_wordOf_97 (by decide) ?_
          refine lv_bipush (v := (101 : Int32)) hx hb dX11_wordOf_99 (by decide) ?_
          refine lv_bipush (v := (108 : Int32)) hx hb dX11_wordOf_101 (by decide) ?_
          refine lv_bipush (v := (100 : Int32)) hx hb dX11_wordOf_103 (by decide) ?_
          have hPc := hP.sub (ws' := []) [] rfl
          have hDc := hD.sub (ws' := []) [] (by decide) rfl
          have hFc := va_free (wc := []) hD hS hA [] rfl
          refine va_calll (va_runS (As := [.int (104 : Int32), .int (101 : Int32), .int (108 : Int32), .int (100 : Int32)]) (rest := [.long x0]) ⟨hx, hb, hml, hown, hts⟩ (kX11_four l dC dI cI cZ cO cW H.size (104 : Int32) (101 : Int32) (108 : Int32) (100 : Int32) _ hw) (va_cwS 4 hts gX11_wordOf_X11_four rfl rfl rfl (by decide +kernel) ⟨Nat.le_of_ble_eq_true rfl, Nat.le_of_ble_eq_true rfl⟩) (ps_of hPc hK hDc) rfl rfl hl.1 rfl (lv_room (Nat.le_of_ble_eq_true rfl)) dX11_wordOf_105 ⟨Nat.zero_le _, Nat.zero_le _⟩) hS (fun q _ h => hFc q h) hFc (fun r_9 u t H locs ht hvm hw hB hz1 hk1 hS => ?_)
          obtain ⟨hP, hD⟩ := af_join (wr := []) (w1 := []) hB ht hP hD [] [] rfl rfl (by decide) (by decide) hk1 hFc
          have hP : va_P (dC, dI) vwCl [] _ := hP
          have hD : va_D A [] := hD
          refine W.lcmp hx hb dX11_wordOf_108 ?_
          refine lv_if_ne (tgt := 114) hx hb dX11_wordOf_109 (by decide) (fun c_10 => ?_) (fun c_10 => ?_)
          · have hw := hw.1 c_10
            refine lv_lload_n hx hb dX11_wordOf_114 rfl (lv_at hl 0 rfl) ?_
            refine lv_bipush (v := (110 : Int32)) hx hb dX11_wordOf_115 (by decide) ?_
            refine lv_bipush (v := (101 : Int32)) hx hb dX11_wordOf_117 (by decide) ?_
            refine lv_bipush (v := (97 : Int32)) hx hb dX11_wordOf_119 (by decide) ?_
            refine lv_bipush (v := (114 : Int32)) hx hb dX11_wordOf_121 (by decide) ?_
            have hPc := hP.sub (ws' := []) [] rfl
            have hDc := hD.sub (ws' := []) [] (by decide) rfl
            have hFc := va_free (wc := []) hD hS hA [] rfl
            refine va_calll (va_runS (As := [.int (110 : Int32), .int (101 : Int32), .int (97 : Int32), .int (114 : Int32)]) (rest := [.long x0]) ⟨hx, hb, hml, hown, hts⟩ (kX11_four l dC dI cI cZ cO cW H.size (110 : Int32) (101 : Int32) (97 : Int32) (114 : Int32) _ hw) (va_cwS 4 hts gX11_wordOf_X11_four rfl rfl rfl (by decide +kernel) ⟨Nat.le_of_ble_eq_true rfl, Nat.le_of_ble_eq_true rfl⟩) (ps_of hPc hK hDc) rfl rfl hl.1 rfl (lv_room (Nat.le_of_ble_eq_true rfl)) dX11_wordOf_123 ⟨Nat.zero_le _, Nat.zero_le _⟩) hS (fun q _ h => hFc q h) hFc (fun r_11 u t H locs ht hvm hw hB hz1 hk1 hS => ?_)
            obtain ⟨hP, hD⟩ := af_join (wr := []) (w1 := []) hB ht hP hD [] [] rfl rfl (by decide) (by decide) hk1 hFc
            have hP : va_P (dC, dI) vwCl [] _ := hP
            have hD : va_D A [] := hD
            refine W.lcmp hx hb dX11_wordOf_126 ?_
            refine lv_if_ne (tgt := 132) hx hb dX11_wordOf_127 (by decide) (fun c_12 => ?_) (fun c_12 => ?_)
            · have hw := hw.1 c_12
              refine lv_lload_n hx hb dX11_wordOf_132 rfl (lv_at hl 0 rfl) ?_
              refine lv_bipush (v := (114 : Int32)) hx hb dX11_wordOf_133 (by decide) ?_
              refine lv_bipush (v := (111 : Int32)) hx hb dX11_wordOf_135 (by decide) ?_
              have hPc := hP.sub (ws' := []) [] rfl
              have hDc := hD.sub (ws' := []) [] (by decide) rfl
              have hFc := va_free (wc := []) hD hS hA [] rfl
              refine va_calll (va_runS (As := [.int (114 : Int32), .int (111 : Int32)]) (rest := [.long x0]) ⟨hx, hb, hml, hown, hts⟩ (kX11_two l dC dI cI cZ cO cW H.size (114 : Int32) (111 : Int32) _ hw) (va_cwS 2 hts gX11_wordOf_X11_two rfl rfl rfl (by decide +kernel) ⟨Nat.le_of_ble_eq_true rfl, Nat.le_of_ble_eq_true rfl⟩) (ps_of hPc hK hDc) rfl rfl hl.1 rfl (lv_room (Nat.le_of_ble_eq_true rfl)) dX11_wordOf_137 ⟨Nat.zero_le _, Nat.zero_le _⟩) hS (fun q _ h => hFc q h) hFc (fun r_13 u t H locs ht hvm hw hB hz1 hk1 hS => ?_)
              obtain ⟨hP, hD⟩ := af_join (wr := []) (w1 := []) hB ht hP hD [] [] rfl rfl (by decide) (by decide) hk1 hFc
              have hP : va_P (dC, dI) vwCl [] _ := hP
              have hD : va_D A [] := hD
              refine lv_ldc2 (v := (32 : Int64)) hx hb hown (hts _ mX11_wordOf_0) dX11_wordOf_140 ?_
              refine lv_lmul hx hb dX11_wordOf_143 ?_
              refine lv_ldc2 (v := (119 : Int64)) hx hb hown (hts _ mX11_wordOf_4) dX11_wordOf_144 ?_
              refine lv_ladd hx hb dX11_wordOf_147 ?_
              refine lv_ldc2 (v := (96 : Int64)) hx hb hown (hts _ mX11_wordOf_2) dX11_wordOf_148 ?_
              refine lv_lsub hx hb dX11_wordOf_151 ?_
              refine W.lcmp hx hb dX11_wordOf_152 ?_
              refine lv_if_ne (tgt := 159) hx hb dX11_wordOf_153 (by decide) (fun c_14 => ?_) (fun c_14 => ?_)
              · have hw := hw.1 c_14
                refine lv_lload_n hx hb dX11_wordOf_159 rfl (lv_at hl 0 rfl) ?_
                refine lv_bipush (v := (99 : Int32)) hx hb dX11_wordOf_160 (by decide) ?_
                refine lv_bipush (v := (111 : Int32)) hx hb dX11_wordOf_162 (by decide) ?_
                refine lv_bipush (v := (108 : Int32)) hx hb dX11_wordOf_164 (by decide) ?_
                refine lv_bipush (v := (117 : Int32)) hx hb dX11_wordOf_166 (by decide) ?_
                have hPc := hP.sub (ws' := []) [] rfl
                have hDc := hD.sub (ws' := []) [] (by decide) rfl
                have hFc := va_free (wc := []) hD hS hA [] rfl
                refine va_calll (va_runS (As := [.int (99 : Int32), .int (111 : Int32), .int (108 : Int32), .int (117 : Int32)]) (rest := [.long x0]) ⟨hx, hb, hml, hown, hts⟩ (kX11_four l dC dI cI cZ cO cW H.size (99 : Int32) (111 : Int32) (108 : Int32) (117 : Int32) _ hw) (va_cwS 4 hts gX11_wordOf_X11_four rfl rfl rfl (by decide +kernel) ⟨Nat.le_of_ble_eq_true rfl, Nat.le_of_ble_eq_true rfl⟩) (ps_of hPc hK hDc) rfl rfl hl.1 rfl (lv_room (Nat.le_of_ble_eq_true rfl)) dX11_wordOf_168 ⟨Nat.zero_le _, Nat.zero_le _⟩) hS (fun q _ h => hFc q h) hFc (fun r_15 u t H locs ht hvm hw hB hz1 hk1 hS => ?_)
                obtain ⟨hP, hD⟩ := af_join (wr := []) (w1 := []) hB ht hP hD [] [] rfl rfl (by decide) (by decide) hk1 hFc
                have hP : va_P (dC, dI) vwCl [] _ := hP
                have hD : va_D A [] := hD
                refine lv_ldc2 (v := (1024 : Int64)) hx hb hown (hts _ mX11_wordOf_5) dX11_wordOf_171 ?_
                refine lv_lmul hx hb dX11_wordOf_174 ?_
                refine lv_bipush (v := (109 : Int32)) hx hb dX11_wordOf_175 (by decide) ?_
                refine lv_bipush (v := (110 : Int32)) hx hb dX11_wordOf_177 (by decide) ?_
                have hPc := hP.sub (ws' := []) [] rfl
                have hDc := hD.sub (ws' := []) [] (by decide) rfl
                have hFc := va_free (wc := []) hD hS hA [] rfl
                refine va_calll (va_runS (As := [.int (109 : Int32), .int (110 : Int32)]) (rest := [.long (r_15 * (1024 : Int64)), .long x0]) ⟨hx, hb, hml, hown, hts⟩ (kX11_two l dC dI cI cZ cO cW H.size (109 : Int32) (110 : Int32) _ hw) (va_cwS 2 hts gX11_wordOf_X11_two rfl rfl rfl (by decide +kernel) ⟨Nat.le_of_ble_eq_true rfl, Nat.le_of_ble_eq_true rfl⟩) (ps_of hPc hK hDc) rfl rfl hl.1 rfl (lv_room (Nat.le_of_ble_eq_true rfl)) dX11_wordOf_179 ⟨Nat.zero_le _, Nat.zero_le _⟩) hS (fun q _ h => hFc q h) hFc (fun r_16 u t H locs ht hvm hw hB hz1 hk1 hS => ?_)
                obtain ⟨hP, hD⟩ := af_join (wr := []) (w1 := []) hB ht hP hD [] [] rfl rfl (by decide) (by decide) hk1 hFc
                have hP : va_P (dC, dI) vwCl [] _ := hP
                have hD : va_D A [] := hD
                refine lv_ladd hx hb dX11_wordOf_182 ?_
                refine W.lcmp hx hb dX11_wordOf_183 ?_
                refine lv_if_ne (tgt := 190) hx hb dX11_wordOf_184 (by decide) (fun c_17 => ?_) (fun c_17 => ?_)
                · have hw := hw.1 c_17
                  refine lv_lload_n hx hb dX11_wordOf_190 rfl (lv_at hl 0 rfl) ?_
                  refine lv_bipush (v := (110 : Int32)) hx hb dX11_wordOf_191 (by decide) ?_
                  refine lv_bipush (v := (111 : Int32)) hx hb dX11_wordOf_193 (by decide) ?_
                  refine lv_bipush (v := (114 : Int32)) hx hb dX11_wordOf_195 (by decide) ?_
                  refine lv_bipush (v := (116 : Int32)) hx hb dX11_wordOf_197 (by decide) ?_
                  have hPc := hP.sub (ws' := []) [] rfl
                  have hDc := hD.sub (ws' := []) [] (by decide) rfl
                  have hFc := va_free (wc := []) hD hS hA [] rfl
                  refine va_calll (va_runS (As := [.int (110 : Int32), .int (111 : Int32), .int (114 : Int32), .int (116 : Int32)]) (rest := [.long x0]) ⟨hx, hb, hml, hown, hts⟩ (kX11_four l dC dI cI cZ cO cW H.size (110 : Int32) (111 : Int32) (114 : Int32) (116 : Int32) _ hw) (va_cwS 4 hts gX11_wordOf_X11_four rfl rfl rfl (by decide +kernel) ⟨Nat.le_of_ble_eq_true rfl, Nat.le_of_ble_eq_true rfl⟩) (ps_of hPc hK hDc) rfl rfl hl.1 rfl (lv_room (Nat.le_of_ble_eq_true rfl)) dX11_wordOf_199 ⟨Nat.zero_le _, Nat.zero_le _⟩) hS (fun q _ h => hFc q h) hFc (fun r_18 u t H locs ht hvm hw hB hz1 hk1 hS => ?_)
                  obtain ⟨hP, hD⟩ := af_join (wr := []) (w1 := []) hB ht hP hD [] [] rfl rfl (by decide) (by decide) hk1 hFc
                  have hP : va_P (dC, dI) vwCl [] _ := hP
                  have hD : va_D A [] := hD
                  refine lv_ldc2 (v := (32 : Int64)) hx hb hown (hts _ mX11_wordOf_0) dX11_wordOf_202 ?_
                  refine lv_lmul hx hb dX11_wordOf_205 ?_
                  refine lv_ldc2 (v := (104 : Int64)) hx hb hown (hts _ mX11_wordOf_6) dX11_wordOf_206 ?_
                  refine lv_ladd hx hb dX11_wordOf_209 ?_
                  refine lv_ldc2 (v := (96 : Int64)) hx hb hown (hts _ mX11_wordOf_2) dX11_wordOf_210 ?_
                  refine lv_lsub hx hb dX11_wordOf_213 ?_
                  refine W.lcmp hx hb dX11_wordOf_214 ?_
                  refine lv_if_ne (tgt := 221) hx hb dX11_wordOf_215 (by decide) (fun c_19 => ?_) (fun c_19 => ?_)
                  · have hw := hw.1 c_19
                    refine lv_lload_n hx hb dX11_wordOf_221 rfl (lv_at hl 0 rfl) ?_
                    refine lv_bipush (v := (101 : Int32)) hx hb dX11_wordOf_222 (by decide) ?_
                    refine lv_bipush (v := (97 : Int32)) hx hb dX11_wordOf_224 (by decide) ?_
                    refine lv_bipush (v := (115 : Int32)) hx hb dX11_wordOf_226 (by decide) ?_
                    refine lv_bipush (v := (116 : Int32)) hx hb dX11_wordOf_228 (by decide) ?_
                    have hPc := hP.sub (ws' := []) [] rfl
                    have hDc := hD.sub (ws' := []) [] (by decide) rfl
                    have hFc := va_free (wc := []) hD hS hA [] rfl
                    refine va_calll (va_runS (As := [.int (101 : Int32), .int (97 : Int32), .int (115 : Int32), .int (116 : Int32)]) (rest := [.long x0]) ⟨hx, hb, hml, hown, hts⟩ (kX11_four l dC dI cI cZ cO cW H.size (101 : Int32) (97 : Int32) (115 : Int32) (116 : Int32) _ hw) (va_cwS 4 hts gX11_wordOf_X11_four rfl rfl rfl (by decide +kernel) ⟨Nat.le_of_ble_eq_true rfl, Nat.le_of_ble_eq_true rfl⟩) (ps_of hPc hK hDc) rfl rfl hl.1 rfl (lv_room (Nat.le_of_ble_eq_true rfl)) dX11_wordOf_230 ⟨Nat.zero_le _, Nat.zero_le _⟩) hS (fun q _ h => hFc q h) hFc (fun r_20 u t H locs ht hvm hw hB hz1 hk1 hS => ?_)
                    obtain ⟨hP, hD⟩ := af_join (wr := []) (w1 := []) hB ht hP hD [] [] rfl rfl (by decide) (by decide) hk1 hFc
                    have hP : va_P (dC, dI) vwCl [] _ := hP
                    have hD : va_D A [] := hD
                    refine W.lcmp hx hb dX11_wordOf_233 ?_
                    refine lv_if_ne (tgt := 240) hx hb dX11_wordOf_234 (by decide) (fun c_21 => ?_) (fun c_21 => ?_)
                    · have hw := hw.1 c_21
                      refine lv_lload_n hx hb dX11_wordOf_240 rfl (lv_at hl 0 rfl) ?_
                      refine lv_bipush (v := (115 : Int32)) hx hb dX11_wordOf_241 (by decide) ?_
                      refine lv_bipush (v := (111 : Int32)) hx hb dX11_wordOf_243 (by decide) ?_
                      refine lv_bipush (v := (117 : Int32)) hx hb dX11_wordOf_245 (by decide) ?_
                      refine lv_bipush (v := (116 : Int32)) hx hb dX11_wordOf_247 (by decide) ?_
                      have hPc := hP.sub (ws' := []) [] rfl
                      have hDc := hD.sub (ws' := []) [] (by decide) rfl
                      have hFc := va_free (wc := []) hD hS hA [] rfl
                      refine va_calll (va_runS (As := [.int (115 : Int32), .int (111 : Int32), .int (117 : Int32), .int (116 : Int32)]) (rest := [.long x0]) ⟨hx, hb, hml, hown, hts⟩ (kX11_four l dC dI cI cZ cO cW H.size (115 : Int32) (111 : Int32) (117 : Int32) (116 : Int32) _ hw) (va_cwS 4 hts gX11_wordOf_X11_four rfl rfl rfl (by decide +kernel) ⟨Nat.le_of_ble_eq_true rfl, Nat.le_of_ble_eq_true rfl⟩) (ps_of hPc hK hDc) rfl rfl hl.1 rfl (lv_room (Nat.le_of_ble_eq_true rfl)) dX11_wordOf_249 ⟨Nat.zero_le _, Nat.zero_le _⟩) hS (fun q _ h => hFc q h) hFc (fun r_22 u t H locs ht hvm hw hB hz1 hk1 hS => ?_)
                      obtain ⟨hP, hD⟩ := af_join (wr := []) (w1 := []) hB ht hP hD [] [] rfl rfl (by decide) (by decide) hk1 hFc
                      have hP : va_P (dC, dI) vwCl [] _ := hP
                      have hD : va_D A [] := hD
                      refine lv_ldc2 (v := (32 : Int64)) hx hb hown (hts _ mX11_wordOf_0) dX11_wordOf_252 ?_
                      refine lv_lmul hx hb dX11_wordOf_255 ?_
                      refine lv_ldc2 (v := (104 : Int64)) hx hb hown (hts _ mX11_wordOf_6) dX11_wordOf_256 ?_
                      refine lv_ladd hx hb dX11_wordOf_259 ?_
                      refine lv_ldc2 (v := (96 : Int64)) hx hb hown (hts _ mX11_wordOf_2) dX11_wordOf_260 ?_
                      refine lv_lsub hx hb dX11_wordOf_263 ?_
                      refine W.lcmp hx hb dX11_wordOf_264 ?_
                      refine lv_if_ne (tgt := 271) hx hb dX11_wordOf_265 (by decide) (fun c_23 => ?_) (fun c_23 => ?_)
                      · have hw := hw.1 c_23
                        refine lv_lload_n hx hb dX11_wordOf_271 rfl (lv_at hl 0 rfl) ?_
                        refine lv_bipush (v := (119 : Int32)) hx hb dX11_wordOf_272 (by decide) ?_
                        refine lv_bipush (v := (101 : Int32)) hx hb dX11_wordOf_274 (by decide) ?_
                        refine lv_bipush (v := (115 : Int32)) hx hb dX11_wordOf_276 (by decide) ?_
                        refine lv_bipush (v := (116 : Int32)) hx hb dX11_wordOf_278 (by decide) ?_
                        have hPc := hP.sub (ws' := []) [] rfl
                        have hDc := hD.sub (ws' := []) [] (by decide) rfl
                        have hFc := va_free (wc := []) hD hS hA [] rfl
                        refine va_calll (va_runS (As := [.int (119 : Int32), .int (101 : Int32), .int (115 : Int32), .int (116 : Int32)]) (rest := [.long x0]) ⟨hx, hb, hml, hown, hts⟩ (kX11_four l dC dI cI cZ cO cW H.size (119 : Int32) (101 : Int32) (115 : Int32) (116 : Int32) _ hw) (va_cwS 4 hts gX11_wordOf_X11_four rfl rfl rfl (by decide +kernel) ⟨Nat.le_of_ble_eq_true rfl, Nat.le_of_ble_eq_true rfl⟩) (ps_of hPc hK hDc) rfl rfl hl.1 rfl (lv_room (Nat.le_of_ble_eq_true rfl)) dX11_wordOf_280 ⟨Nat.zero_le _, Nat.zero_le _⟩) hS (fun q _ h => hFc q h) hFc (fun r_24 u t H locs ht hvm hw hB hz1 hk1 hS => ?_)
                        obtain ⟨hP, hD⟩ := af_join (wr := []) (w1 := []) hB ht hP hD [] [] rfl rfl (by decide) (by decide) hk1 hFc
                        have hP : va_P (dC, dI) vwCl [] _ := hP
                        have hD : va_D A [] := hD
                        refine W.lcmp hx hb dX11_wordOf_283 ?_
                        refine lv_if_ne (tgt := 290) hx hb dX11_wordOf_284 (by decide) (fun c_25 => ?_) (fun c_25 => ?_)
                        · have hw := hw.1 c_25
                          refine lv_lload_n hx hb dX11_wordOf_290 rfl (lv_at hl 0 rfl) ?_
                          refine lv_bipush (v := (116 : Int32)) hx hb dX11_wordOf_291 (by decide) ?_
                          refine lv_bipush (v := (111 : Int32)) hx hb dX11_wordOf_293 (by decide) ?_
                          refine lv_bipush (v := (108 : Int32)) hx hb dX11_wordOf_295 (by decide) ?_
                          refine lv_bipush (v := (100 : Int32)) hx hb dX11_wordOf_297 (by decide) ?_
                          have hPc := hP.sub (ws' := []) [] rfl
                          have hDc := hD.sub (ws' := []) [] (by decide) rfl
                          have hFc := va_free (wc := []) hD hS hA [] rfl
                          refine va_calll (va_runS (As := [.int (116 : Int32), .int (111 : Int32), .int (108 : Int32), .int (100 : Int32)]) (rest := [.long x0]) ⟨hx, hb, hml, hown, hts⟩ (kX11_four l dC dI cI cZ cO cW H.size (116 : Int32) (111 : Int32) (108 : Int32) (100 : Int32) _ hw) (va_cwS 4 hts gX11_wordOf_X11_four rfl rfl rfl (by decide +kernel) ⟨Nat.le_of_ble_eq_true rfl, Nat.le_of_ble_eq_true rfl⟩) (ps_of hPc hK hDc) rfl rfl hl.1 rfl (lv_room (Nat.le_of_ble_eq_true rfl)) dX11_wordOf_299 ⟨Nat.zero_le _, Nat.zero_le _⟩) hS (fun q _ h => hFc q h) hFc (fun r_26 u t H locs ht hvm hw hB hz1 hk1 hS => ?_)
                          obtain ⟨hP, hD⟩ := af_join (wr := []) (w1 := []) hB ht hP hD [] [] rfl rfl (by decide) (by decide) hk1 hFc
                          have hP : va_P (dC, dI) vwCl [] _ := hP
                          have hD : va_D A [] := hD
                          refine W.lcmp hx hb dX11_wordOf_302 ?_
                          refine lv_if_ne (tgt := 309) hx hb dX11_wordOf_303 (by decide) (fun c_27 => ?_) (fun c_27 => ?_)
                          · have hw := hw.1 c_27
                            refine lv_lload_n hx hb dX11_wordOf_309 rfl (lv_at hl 0 rfl) ?_
                            refine lv_bipush (v := (119 : Int32)) hx hb dX11_wordOf_310 (by decide) ?_
                            refine lv_bipush (v := (97 : Int32)) hx hb dX11_wordOf_312 (by decide) ?_
                            refine lv_bipush (v := (105 : Int32)) hx hb dX11_wordOf_314 (by decide) ?_
                            refine lv_bipush (v := (116 : Int32)) hx hb dX11_wordOf_316 (by decide) ?_
                            have hPc := hP.sub (ws' := []) [] rfl
                            have hDc := hD.sub (ws' := []) [] (by decide) rfl
                            have hFc := va_free (wc := []) hD hS hA [] rfl
                            refine va_calll (va_runS (As := [.int (119 : Int32), .int (97 : Int32), .int (105 : Int32), .int (116 : Int32)]) (rest := [.long x0]) ⟨hx, hb, hml, hown, hts⟩ (kX11_four l dC dI cI cZ cO cW H.size (119 : Int32) (97 : Int32) (105 : Int32) (116 : Int32) _ hw) (va_cwS 4 hts gX11_wordOf_X11_four rfl rfl rfl (by decide +kernel) ⟨Nat.le_of_ble_eq_true rfl, Nat.le_of_ble_eq_true rfl⟩) (ps_of hPc hK hDc) rfl rfl hl.1 rfl (lv_room (Nat.le_of_ble_eq_true rfl)) dX11_wordOf_318 ⟨Nat.zero_le _, Nat.zero_le _⟩) hS (fun q _ h => hFc q h) hFc (fun r_28 u t H locs ht hvm hw hB hz1 hk1 hS => ?_)
                            obtain ⟨hP, hD⟩ := af_join (wr := []) (w1 := []) hB ht hP hD [] [] rfl rfl (by decide) (by decide) hk1 hFc
                            have hP : va_P (dC, dI) vwCl [] _ := hP
                            have hD : va_D A [] := hD
                            refine W.lcmp hx hb dX11_wordOf_321 ?_
                            refine lv_if_ne (tgt := 328) hx hb dX11_wordOf_322 (by decide) (fun c_29 => ?_) (fun c_29 => ?_)
                            · have hw := hw.1 c_29
                              refine lv_lload_n hx hb dX11_wordOf_328 rfl (lv_at hl 0 rfl) ?_
                              refine lv_bipush (v := (99 : Int32)) hx hb dX11_wordOf_329 (by decide) ?_
                              refine lv_bipush (v := (117 : Int32)) hx hb dX11_wordOf_331 (by decide) ?_
                              have hPc := hP.sub (ws' := []) [] rfl
                              have hDc := hD.sub (ws' := []) [] (by decide) rfl
                              have hFc := va_free (wc := []) hD hS hA [] rfl
                              refine va_calll (va_runS (As := [.int (99 : Int32), .int (117 : Int32)]) (rest := [.long x0]) ⟨hx, hb, hml, hown, hts⟩ (kX11_two l dC dI cI cZ cO cW H.size (99 : Int32) (117 : Int32) _ hw) (va_cwS 2 hts gX11_wordOf_X11_two rfl rfl rfl (by decide +kernel) ⟨Nat.le_of_ble_eq_true rfl, Nat.le_of_ble_eq_true rfl⟩) (ps_of hPc hK hDc) rfl rfl hl.1 rfl (lv_room (Nat.le_of_ble_eq_true rfl)) dX11_wordOf_333 ⟨Nat.zero_le _, Nat.zero_le _⟩) hS (fun q _ h => hFc q h) hFc (fun r_30 u t H locs ht hvm hw hB hz1 hk1 hS => ?_)
                              obtain ⟨hP, hD⟩ := af_join (wr := []) (w1 := []) hB ht hP hD [] [] rfl rfl (by decide) (by decide) hk1 hFc
                              have hP : va_P (dC, dI) vwCl [] _ := hP
                              have hD : va_D A [] := hD
                              refine lv_ldc2 (v := (32 : Int64)) hx hb hown (hts _ mX11_wordOf_0) dX11_wordOf_336 ?_
                              refine lv_lmul hx hb dX11_wordOf_339 ?_
                              refine lv_ldc2 (v := (116 : Int64)) hx hb hown (hts _ mX11_wordOf_7) dX11_wordOf_340 ?_
                              refine lv_ladd hx hb dX11_wordOf_343 ?_
                              refine lv_ldc2 (v := (96 : Int64)) hx hb hown (hts _ mX11_wordOf_2) dX11_wordOf_344 ?_
                              refine lv_lsub hx hb dX11_wordOf_347 ?_
                              refine W.lcmp hx hb dX11_wordOf_348 ?_
                              refine lv_if_ne (tgt := 355) hx hb dX11_wordOf_349 (by decide) (fun c_31 => ?_) (fun c_31 => ?_)
                              · have hw := hw.1 c_31
                                refine lv_lload_n hx hb dX11_wordOf_355 rfl (lv_at hl 0 rfl) ?_
                                refine lv_bipush (v := (99 : Int32)) hx hb dX11_wordOf_356 (by decide) ?_
                                refine lv_bipush (v := (97 : Int32)) hx hb dX11_wordOf_358 (by decide) ?_
                                refine lv_bipush (v := (108 : Int32)) hx hb dX11_wordOf_360 (by decide) ?_
                                refine lv_bipush (v := (108 : Int32)) hx hb dX11_wordOf_362 (by decide) ?_
                                have hPc := hP.sub (ws' := []) [] rfl
                                have hDc := hD.sub (ws' := []) [] (by decide) rfl
                                have hFc := va_free (wc := []) hD hS hA [] rfl
                                refine va_calll (va_runS (As := [.int (99 : Int32), .int (97 : Int32), .int (108 : Int32), .int (108 : Int32)]) (rest := [.long x0]) ⟨hx, hb, hml, hown, hts⟩ (kX11_four l dC dI cI cZ cO cW H.size (99 : Int32) (97 : Int32) (108 : Int32) (108 : Int32) _ hw) (va_cwS 4 hts gX11_wordOf_X11_four rfl rfl rfl (by decide +kernel) ⟨Nat.le_of_ble_eq_true rfl, Nat.le_of_ble_eq_true rfl⟩) (ps_of hPc hK hDc) rfl rfl hl.1 rfl (lv_room (Nat.le_of_ble_eq_true rfl)) dX11_wordOf_364 ⟨Nat.zero_le _, Nat.zero_le _⟩) hS (fun q _ h => hFc q h) hFc (fun r_32 u t H locs ht hvm hw hB hz1 hk1 hS => ?_)
                                obtain ⟨hP, hD⟩ := af_join (wr := []) (w1 := []) hB ht hP hD [] [] rfl rfl (by decide) (by decide) hk1 hFc
                                have hP : va_P (dC, dI) vwCl [] _ := hP
                                have hD : va_D A [] := hD
                                refine W.lcmp hx hb dX11_wordOf_367 ?_
                                refine lv_if_ne (tgt := 374) hx hb dX11_wordOf_368 (by decide) (fun c_33 => ?_) (fun c_33 => ?_)
                                · have hw := hw.1 c_33
                                  refine lv_lload_n hx hb dX11_wordOf_374 rfl (lv_at hl 0 rfl) ?_
                                  refine lv_bipush (v := (105 : Int32)) hx hb dX11_wordOf_375 (by decide) ?_
                                  refine lv_bipush (v := (102 : Int32)) hx hb dX11_wordOf_377 (by decide) ?_
                                  have hPc := hP.sub (ws' := []) [] rfl
                                  have hDc := hD.sub (ws' := []) [] (by decide) rfl
                                  have hFc := va_free (wc := []) hD hS hA [] rfl
                                  refine va_calll (va_runS (As := [.int (105 : Int32), .int (102 : Int32)]) (rest := [.long x0]) ⟨hx, hb, hml, hown, hts⟩ (kX11_two l dC dI cI cZ cO cW H.size (105 : Int32) (102 : Int32) _ hw) (va_cwS 2 hts gX11_wordOf_X11_two rfl rfl rfl (by decide +kernel) ⟨Nat.le_of_ble_eq_true rfl, Nat.le_of_ble_eq_true rfl⟩) (ps_of hPc hK hDc) rfl rfl hl.1 rfl (lv_room (Nat.le_of_ble_eq_true rfl)) dX11_wordOf_379 ⟨Nat.zero_le _, Nat.zero_le _⟩) hS (fun q _ h => hFc q h) hFc (fun r_34 u t H locs ht hvm hw hB hz1 hk1 hS => ?_)
                                  obtain ⟨hP, hD⟩ := af_join (wr := []) (w1 := []) hB ht hP hD [] [] rfl rfl (by decide) (by decide) hk1 hFc
                                  have hP : va_P (dC, dI) vwCl [] _ := hP
                                  have hD : va_D A [] := hD
                                  refine W.lcmp hx hb dX11_wordOf_382 ?_
                                  refine lv_if_ne (tgt := 389) hx hb dX11_wordOf_383 (by decide) (fun c_35 => ?_) (fun c_35 => ?_)
                                  · have hw := hw.1 c_35
                                    refine lv_lload_n hx hb dX11_wordOf_389 rfl (lv_at hl 0 rfl) ?_
                                    refine lv_bipush (v := (111 : Int32)) hx hb dX11_wordOf_390 (by decide) ?_
                                    refine lv_bipush (v := (114 : Int32)) hx hb dX11_wordOf_392 (by decide) ?_
                                    have hPc := hP.sub (ws' := []) [] rfl
                                    have hDc := hD.sub (ws' := []) [] (by decide) rfl
                                    have hFc := va_free (wc := []) hD hS hA [] rfl
                                    refine va_calll (va_runS (As := [.int (111 : Int32), .int (114 : Int32)]) (rest := [.long x0]) ⟨hx, hb, hml, hown, hts⟩ (kX11_two l dC dI cI cZ cO cW H.size (111 : Int32) (114 : Int32) _ hw) (va_cwS 2 hts gX11_wordOf_X11_two rfl rfl rfl (by decide +kernel) ⟨Nat.le_of_ble_eq_true rfl, Nat.le_of_ble_eq_true rfl⟩) (ps_of hPc hK hDc) rfl rfl hl.1 rfl (lv_room (Nat.le_of_ble_eq_true rfl)) dX11_wordOf_394 ⟨Nat.zero_le _, Nat.zero_le _⟩) hS (fun q _ h => hFc q h) hFc (fun r_36 u t H locs ht hvm hw hB hz1 hk1 hS => ?_)
                                    obtain ⟨hP, hD⟩ := af_join (wr := []) (w1 := []) hB ht hP hD [] [] rfl rfl (by decide) (by decide) hk1 hFc
                                    have hP : va_P (dC, dI) vwCl [] _ := hP
                                    have hD : va_D A [] := hD
                                    refine W.lcmp hx hb dX11_wordOf_397 ?_
                                    refine lv_if_ne (tgt := 404) hx hb dX11_wordOf_398 (by decide) (fun c_37 => ?_) (fun c_37 => ?_)
                                    · have hw := hw.1 c_37
                                      refine lv_lload_n hx hb dX11_wordOf_404 rfl (lv_at hl 0 rfl) ?_
                                      refine lv_bipush (v := (97 : Int32)) hx hb dX11_wordOf_405 (by decide) ?_
                                      refine lv_bipush (v := (110 : Int32)) hx hb dX11_wordOf_407 (by decide) ?_
                                      have hPc := hP.sub (ws' := []) [] rfl
                                      have hDc := hD.sub (ws' := []) [] (by decide) rfl
                                      have hFc := va_free (wc := []) hD hS hA [] rfl
                                      refine va_calll (va_runS (As := [.int (97 : Int32), .int (110 : Int32)]) (rest := [.long x0]) ⟨hx, hb, hml, hown, hts⟩ (kX11_two l dC dI cI cZ cO cW H.size (97 : Int32) (110 : Int32) _ hw) (va_cwS 2 hts gX11_wordOf_X11_two rfl rfl rfl (by decide +kernel) ⟨Nat.le_of_ble_eq_true rfl, Nat.le_of_ble_eq_true rfl⟩) (ps_of hPc hK hDc) rfl rfl hl.1 rfl (lv_room (Nat.le_of_ble_eq_true rfl)) dX11_wordOf_409 ⟨Nat.zero_le _, Nat.zero_le _⟩) hS (fun q _ h => hFc q h) hFc (fun r_38 u t H locs ht hvm hw hB hz1 hk1 hS => ?_)
                                      obtain ⟨hP, hD⟩ := af_join (wr := []) (w1 := []) hB ht hP hD [] [] rfl rfl (by decide) (by decide) hk1 hFc
                                      have hP : va_P (dC, dI) vwCl [] _ := hP
                                      have hD : va_D A [] := hD
                                      refine lv_ldc2 (v := (32 : Int64)) hx hb hown (hts _ mX11_wordOf_0) dX11_wordOf_412 ?_
                                      refine lv_lmul hx hb dX11_wordOf_415 ?_
                                      refine lv_ldc2 (v := (100 : Int64)) hx hb hown (hts _ mX11_wordOf_8) dX11_wordOf_416 ?_
                                      refine lv_ladd hx hb dX11_wordOf_419 ?_
                                      refine lv_ldc2 (v := (96 : Int64)) hx hb hown (hts _ mX11_wordOf_2) dX11_wordOf_420 ?_
                                      refine lv_lsub hx hb dX11_wordOf_423 ?_
                                      refine W.lcmp hx hb dX11_wordOf_424 ?_
                                      refine lv_if_ne (tgt := 431) hx hb dX11_wordOf_425 (by decide) (fun c_39 => ?_) (fun c_39 => ?_)
                                      · have hw := hw.1 c_39
                                        refine lv_lload_n hx hb dX11_wordOf_431 rfl (lv_at hl 0 rfl) ?_
                                        refine lv_bipush (v := (110 : Int32)) hx hb dX11_wordOf_432 (by decide) ?_
                                        refine lv_bipush (v := (111 : Int32)) hx hb dX11_wordOf_434 (by decide) ?_
                                        have hPc := hP.sub (ws' := []) [] rfl
                                        have hDc := hD.sub (ws' := []) [] (by decide) rfl
                                        have hFc := va_free (wc := []) hD hS hA [] rfl
                                        refine va_calll (va_runS (As := [.int (110 : Int32), .int (111 : Int32)]) (rest := [.long x0]) ⟨hx, hb, hml, hown, hts⟩ (kX11_two l dC dI cI cZ cO cW H.size (110 : Int32) (111 : Int32) _ hw) (va_cwS 2 hts gX11_wordOf_X11_two rfl rfl rfl (by decide +kernel) ⟨Nat.le_of_ble_eq_true rfl, Nat.le_of_ble_eq_true rfl⟩) (ps_of hPc hK hDc) rfl rfl hl.1 rfl (lv_room (Nat.le_of_ble_eq_true rfl)) dX11_wordOf_436 ⟨Nat.zero_le _, Nat.zero_le _⟩) hS (fun q _ h => hFc q h) hFc (fun r_40 u t H locs ht hvm hw hB hz1 hk1 hS => ?_)
                                        obtain ⟨hP, hD⟩ := af_join (wr := []) (w1 := []) hB ht hP hD [] [] rfl rfl (by decide) (by decide) hk1 hFc
                                        have hP : va_P (dC, dI) vwCl [] _ := hP
                                        have hD : va_D A [] := hD
                                        refine lv_ldc2 (v := (32 : Int64)) hx hb hown (hts _ mX11_wordOf_0) dX11_wordOf_439 ?_
                                        refine lv_lmul hx hb dX11_wordOf_442 ?_
                                        refine lv_ldc2 (v := (116 : Int64)) hx hb hown (hts _ mX11_wordOf_7) dX11_wordOf_443 ?_
                                        refine lv_ladd hx hb dX11_wordOf_446 ?_
                                        refine lv_ldc2 (v := (96 : Int64)) hx hb hown (hts _ mX11_wordOf_2) dX11_wordOf_447 ?_
                                        refine lv_lsub hx hb dX11_wordOf_450 ?_
                                        refine W.lcmp hx hb dX11_wordOf_451 ?_
                                        refine lv_if_ne (tgt := 458) hx hb dX11_wordOf_452 (by decide) (fun c_41 => ?_) (fun c_41 => ?_)
                                        · have hw := hw.1 c_41
                                          refine lv_bipush (v := (99 : Int32)) hx hb dX11_wordOf_458 (by decide) ?_
                                          have hP9 := hP.sub (ws' := ([] : va_W)) [] rfl
                                          have hD9 := hD.sub (ws' := ([] : va_W)) [] (by decide) rfl
                                          exact W.iret (v := (99 : Int32)) hx hb hr (fun t ht hW => ⟨⟨(99 : Int32), (), rfl, hw, by rw [ht]; exact hP9, va_K.moved hW.alike hK, hD9⟩, hS.F ht⟩) hS.2.2 dX11_wordOf_460
                                        · have hw := hw.2 c_41
                                          refine lv_bipush (v := (33 : Int32)) hx hb dX11_wordOf_455 (by decide) ?_
                                          have hP9 := hP.sub (ws' := ([] : va_W)) [] rfl
                                          have hD9 := hD.sub (ws' := ([] : va_W)) [] (by decide) rfl
                                          exact W.iret (v := (33 : Int32)) hx hb hr (fun t ht hW => ⟨⟨(33 : Int32), (), rfl, hw, by rw [ht]; exact hP9, va_K.moved hW.alike hK, hD9⟩, hS.F ht⟩) hS.2.2 dX11_wordOf_457
                                      · have hw := hw.2 c_39
                                        refine lv_bipush (v := (32 : Int32)) hx hb dX11_wordOf_428 (by decide) ?_
                                        have hP9 := hP.sub (ws' := ([] : va_W)) [] rfl
                                        have hD9 := hD.sub (ws' := ([] : va_W)) [] (by decide) rfl
                                        exact W.iret (v := (32 : Int32)) hx hb hr (fun t ht hW => ⟨⟨(32 : Int32), (), rfl, hw, by rw [ht]; exact hP9, va_K.moved hW.alike hK, hD9⟩, hS.F ht⟩) hS.2.2 dX11_wordOf_430
                                    · have hw := hw.2 c_37
                                      refine lv_bipush (v := (31 : Int32)) hx hb dX11_wordOf_401 (by decide) ?_
                                      have hP9 := hP.sub (ws' := ([] : va_W)) [] rfl
                                      have hD9 := hD.sub (ws' := ([] : va_W)) [] (by decide) rfl
                                      exact W.iret (v := (31 : Int32)) hx hb hr (fun t ht hW => ⟨⟨(31 : Int32), (), rfl, hw, by rw [ht]; exact hP9, va_K.moved hW.alike hK, hD9⟩, hS.F ht⟩) hS.2.2 dX11_wordOf_403
                                  · have hw := hw.2 c_35
                                    refine lv_bipush (v := (30 : Int32)) hx hb dX11_wordOf_386 (by decide) ?_
                                    have hP9 := hP.sub (ws' := ([] : va_W)) [] rfl
                                    have hD9 := hD.sub (ws' := ([] : va_W)) [] (by decide) rfl
                                    exact W.iret (v := (30 : Int32)) hx hb hr (fun t ht hW => ⟨⟨(30 : Int32), (), rfl, hw, by rw [ht]; exact hP9, va_K.moved hW.alike hK, hD9⟩, hS.F ht⟩) hS.2.2 dX11_wordOf_388
                                · have hw := hw.2 c_33
                                  refine lv_bipush (v := (26 : Int32)) hx hb dX11_wordOf_371 (by decide) ?_
                                  have hP9 := hP.sub (ws' := ([] : va_W)) [] rfl
                                  have hD9 := hD.sub (ws' := ([] : va_W)) [] (by decide) rfl
                                  exact W.iret (v := (26 : Int32)) hx hb hr (fun t ht hW => ⟨⟨(26 : Int32), (), rfl, hw, by rw [ht]; exact hP9, va_K.moved hW.alike hK, hD9⟩, hS.F ht⟩) hS.2.2 dX11_wordOf_373
                              · have hw := hw.2 c_31
                                refine lv_bipush (v := (25 : Int32)) hx hb dX11_wordOf_352 (by decide) ?_
                                have hP9 := hP.sub (ws' := ([] : va_W)) [] rfl
                                have hD9 := hD.sub (ws' := ([] : va_W)) [] (by decide) rfl
                                exact W.iret (v := (25 : Int32)) hx hb hr (fun t ht hW => ⟨⟨(25 : Int32), (), rfl, hw, by rw [ht]; exact hP9, va_K.moved hW.alike hK, hD9⟩, hS.F ht⟩) hS.2.2 dX11_wordOf_354
                            · have hw := hw.2 c_29
                              refine lv_bipush (v := (24 : Int32)) hx hb dX11_wordOf_325 (by decide) ?_
                              have hP9 := hP.sub (ws' := ([] : va_W)) [] rfl
                              have hD9 := hD.sub (ws' := ([] : va_W)) [] (by decide) rfl
                              exact W.iret (v := (24 : Int32)) hx hb hr (fun t ht hW => ⟨⟨(24 : Int32), (), rfl, hw, by rw [ht]; exact hP9, va_K.moved hW.alike hK, hD9⟩, hS.F ht⟩) hS.2.2 dX11_wordOf_327
                          · have hw := hw.2 c_27
                            refine lv_bipush (v := (12 : Int32)) hx hb dX11_wordOf_306 (by decide) ?_
                            have hP9 := hP.sub (ws' := ([] : va_W)) [] rfl
                            have hD9 := hD.sub (ws' := ([] : va_W)) [] (by decide) rfl
                            exact W.iret (v := (12 : Int32)) hx hb hr (fun t ht hW => ⟨⟨(12 : Int32), (), rfl, hw, by rw [ht]; exact hP9, va_K.moved hW.alike hK, hD9⟩, hS.F ht⟩) hS.2.2 dX11_wordOf_308
                        · have hw := hw.2 c_25
                          refine lv_bipush (v := (11 : Int32)) hx hb dX11_wordOf_287 (by decide) ?_
                          have hP9 := hP.sub (ws' := ([] : va_W)) [] rfl
                          have hD9 := hD.sub (ws' := ([] : va_W)) [] (by decide) rfl
                          exact W.iret (v := (11 : Int32)) hx hb hr (fun t ht hW => ⟨⟨(11 : Int32), (), rfl, hw, by rw [ht]; exact hP9, va_K.moved hW.alike hK, hD9⟩, hS.F ht⟩) hS.2.2 dX11_wordOf_289
                      · have hw := hw.2 c_23
                        refine lv_bipush (v := (10 : Int32)) hx hb dX11_wordOf_268 (by decide) ?_
                        have hP9 := hP.sub (ws' := ([] : va_W)) [] rfl
                        have hD9 := hD.sub (ws' := ([] : va_W)) [] (by decide) rfl
                        exact W.iret (v := (10 : Int32)) hx hb hr (fun t ht hW => ⟨⟨(10 : Int32), (), rfl, hw, by rw [ht]; exact hP9, va_K.moved hW.alike hK, hD9⟩, hS.F ht⟩) hS.2.2 dX11_wordOf_270
                    · have hw := hw.2 c_21
                      refine lv_bipush (v := (9 : Int32)) hx hb dX11_wordOf_237 (by decide) ?_
                      have hP9 := hP.sub (ws' := ([] : va_W)) [] rfl
                      have hD9 := hD.sub (ws' := ([] : va_W)) [] (by decide) rfl
                      exact W.iret (v := (9 : Int32)) hx hb hr (fun t ht hW => ⟨⟨(9 : Int32), (), rfl, hw, by rw [ht]; exact hP9, va_K.moved hW.alike hK, hD9⟩, hS.F ht⟩) hS.2.2 dX11_wordOf_239
                  · have hw := hw.2 c_19
                    refine lv_bipush (v := (8 : Int32)) hx hb dX11_wordOf_218 (by decide) ?_
                    have hP9 := hP.sub (ws' := ([] : va_W)) [] rfl
                    have hD9 := hD.sub (ws' := ([] : va_W)) [] (by decide) rfl
                    exact W.iret (v := (8 : Int32)) hx hb hr (fun t ht hW => ⟨⟨(8 : Int32), (), rfl, hw, by rw [ht]; exact hP9, va_K.moved hW.alike hK, hD9⟩, hS.F ht⟩) hS.2.2 dX11_wordOf_220
                · have hw := hw.2 c_17
                  refine lv_bipush (v := (7 : Int32)) hx hb dX11_wordOf_187 (by decide) ?_
                  have hP9 := hP.sub (ws' := ([] : va_W)) [] rfl
                  have hD9 := hD.sub (ws' := ([] : va_W)) [] (by decide) rfl
                  exact W.iret (v := (7 : Int32)) hx hb hr (fun t ht hW => ⟨⟨(7 : Int32), (), rfl, hw, by rw [ht]; exact hP9, va_K.moved hW.alike hK, hD9⟩, hS.F ht⟩) hS.2.2 dX11_wordOf_189
              · have hw := hw.2 c_14
                refine lv_bipush (v := (6 : Int32)) hx hb dX11_wordOf_156 (by decide) ?_
                have hP9 := hP.sub (ws' := ([] : va_W)) [] rfl
                have hD9 := hD.sub (ws' := ([] : va_W)) [] (by decide) rfl
                exact W.iret (v := (6 : Int32)) hx hb hr (fun t ht hW => ⟨⟨(6 : Int32), (), rfl, hw, by rw [ht]; exact hP9, va_K.moved hW.alike hK, hD9⟩, hS.F ht⟩) hS.2.2 dX11_wordOf_158
            · have hw := hw.2 c_12
              refine lv_iconst (v := (5 : Int32)) hx hb dX11_wordOf_130 (by decide) ?_
              have hP9 := hP.sub (ws' := ([] : va_W)) [] rfl
              have hD9 := hD.sub (ws' := ([] : va_W)) [] (by decide) rfl
              exact W.iret (v := (5 : Int32)) hx hb hr (fun t ht hW => ⟨⟨(5 : Int32), (), rfl, hw, by rw [ht]; exact hP9, va_K.moved hW.alike hK, hD9⟩, hS.F ht⟩) hS.2.2 dX11_wordOf_131
          · have hw := hw.2 c_10
            refine lv_iconst (v := (4 : Int32)) hx hb dX11_wordOf_112 (by decide) ?_
            have hP9 := hP.sub (ws' := ([] : va_W)) [] rfl
            have hD9 := hD.sub (ws' := ([] : va_W)) [] (by decide) rfl
            exact W.iret (v := (4 : Int32)) hx hb hr (fun t ht hW => ⟨⟨(4 : Int32), (), rfl, hw, by rw [ht]; exact hP9, va_K.moved hW.alike hK, hD9⟩, hS.F ht⟩) hS.2.2 dX11_wordOf_113
        · have hw := hw.2 c_8
          refine lv_iconst (v := (3 : Int32)) hx hb dX11_wordOf_94 (by decide) ?_
          have hP9 := hP.sub (ws' := ([] : va_W)) [] rfl
          have hD9 := hD.sub (ws' := ([] : va_W)) [] (by decide) rfl
          exact W.iret (v := (3 : Int32)) hx hb hr (fun t ht hW => ⟨⟨(3 : Int32), (), rfl, hw, by rw [ht]; exact hP9, va_K.moved hW.alike hK, hD9⟩, hS.F ht⟩) hS.2.2 dX11_wordOf_95
      · have hw := hw.2 c_6
        refine lv_iconst (v := (2 : Int32)) hx hb dX11_wordOf_76 (by decide) ?_
        have hP9 := hP.sub (ws' := ([] : va_W)) [] rfl
        have hD9 := hD.sub (ws' := ([] : va_W)) [] (by decide) rfl
        exact W.iret (v := (2 : Int32)) hx hb hr (fun t ht hW => ⟨⟨(2 : Int32), (), rfl, hw, by rw [ht]; exact hP9, va_K.moved hW.alike hK, hD9⟩, hS.F ht⟩) hS.2.2 dX11_wordOf_77
    · have hw := hw.2 c_4
      refine lv_iconst (v := (1 : Int32)) hx hb dX11_wordOf_46 (by decide) ?_
      have hP9 := hP.sub (ws' := ([] : va_W)) [] rfl
      have hD9 := hD.sub (ws' := ([] : va_W)) [] (by decide) rfl
      exact W.iret (v := (1 : Int32)) hx hb hr (fun t ht hW => ⟨⟨(1 : Int32), (), rfl, hw, by rw [ht]; exact hP9, va_K.moved hW.alike hK, hD9⟩, hS.F ht⟩) hS.2.2 dX11_wordOf_47
  · have hw := hw.2 c_2
    refine lv_iconst (v := (0 : Int32)) hx hb dX11_wordOf_16 (by decide) ?_
    have hP9 := hP.sub (ws' := ([] : va_W)) [] rfl
    have hD9 := hD.sub (ws' := ([] : va_W)) [] (by decide) rfl
    exact W.iret (v := (0 : Int32)) hx hb hr (fun t ht hW => ⟨⟨(0 : Int32), (), rfl, hw, by rw [ht]; exact hP9, va_K.moved hW.alike hK, hD9⟩, hS.F ht⟩) hS.2.2 dX11_wordOf_17
set_option maxHeartbeats 4000000 in
set_option maxRecDepth 100000 in
theorem kX11_wordOf (l : Launch) (dC : Nat → ClassId) (dI : Nat → Nat → Nat) (cI cZ cO cW : ClassId)  (sz : Nat)  (x0 : Int64) (Q : Int32 → Prop) (hw : wX11_wordOf Q x0 ) : Met l yX11_wordOf wsX11_wordOf rmX11_wordOf (va_Pc [.long x0] (fun U => U.heap.size = sz ∧ va_P (dC, dI) vwCl ([] : va_W) U.heap ∧ va_K (dC, dI) vwCl (tysA cI cZ cO cW) U ∧ va_D (fun _ => True) ([] : va_W))) (qX11_wordOf dC dI cI cZ cO cW Q (va_A ([] : va_W) sz)) 0 0 (va_A ([] : va_W) sz) := by
  refine Met.ofW (cc := cX11_wordOf) (maxL := 2) (ret := (some .int)) (by decide) rfl ?_
  intro p e s m args below meth c s₁ B hml hv
  obtain ⟨rfl, hsz, hP, hK, hD0⟩ := hv
  subst hsz
  have hC : Cx p s m ([.long x0] : List Value).toArray meth c cX11_wordOf (some .int) 2 wsX11_wordOf RX11 := ⟨B.exec, B.bytes, B.returns, hml, findClass_of_methodNamed B.named, atoms_spec (ws := wsX11_wordOf) B.pre, B.notSynchronized⟩
  have hD := hD0.self (sz := s.heap.size)
  generalize hAe : va_A ([] : va_W) s.heap.size = A at hD ⊢
  have hA : ∀ q : Nat, s.heap.size ≤ q → A q := fun q h => by rw [← hAe]; exact Or.inr h
  have hl := lv_entry ([.long x0]) (n := 2) (Nat.le_of_ble_eq_true rfl)
  rw [lg_entry_eq]
  generalize (lg_sl ([.long x0]) ++ List.replicate (2 - (lg_sl ([.long x0])).length) Slot.unset).toArray = ls at hl ⊢
  exact tX11_wordOf_e hC hK hA x0 _ _ ls hw hP hD va_S.rf hl

/-! X11_isSignByte -/
def wX11_isSignByte_42 (Q : Int32 → Prop)    : Prop :=
  (Q (1 : Int32))
def wX11_isSignByte (Q : Int32 → Prop) (x0 : Int32)  : Prop :=
  ((x0 = (40 : Int32) → (wX11_isSignByte_42 Q )) ∧ (¬ x0 = (40 : Int32) → ((x0 = (41 : Int32) → (wX11_isSignByte_42 Q )) ∧ (¬ x0 = (41 : Int32) → ((x0 = (58 : Int32) → (wX11_isSignByte_42 Q )) ∧ (¬ x0 = (58 : Int32) → ((x0 = (59 : Int32) → (wX11_isSignByte_42 Q )) ∧ (¬ x0 = (59 : Int32) → ((x0 = (61 : Int32) → (wX11_isSignByte_42 Q )) ∧ (¬ x0 = (61 : Int32) → ((x0 = (60 : Int32) → (wX11_isSignByte_42 Q )) ∧ (¬ x0 = (60 : Int32) → ((¬ x0 = (62 : Int32) → (Q (0 : Int32))) ∧ (x0 = (62 : Int32) → (wX11_isSignByte_42 Q )))))))))))))))
abbrev rmX11_isSignByte : Room := { frames := 0, cells := 0, slots := 0, locals := 0 }
abbrev qX11_isSignByte (dC : Nat → ClassId) (dI : Nat → Nat → Nat) (cI cZ cO cW : ClassId)  (Q : Int32 → Prop) (A : Nat → Prop) : Array Value → State → Outcome → State → Prop := va_Qi (fun (r : Int32) (u : Unit) => Q r) (fun (u : Unit) (t : State) => va_P (dC, dI) vwCl ([] : va_W) t.heap ∧ va_K (dC, dI) vwCl (tysA cI cZ cO cW) t ∧ va_D A ([] : va_W)) A
set_option maxHeartbeats 4000000 in
set_option maxRecDepth 100000 in
theorem tX11_isSignByte_42 {p : Program} {l : Launch} {e : Env} {s : State} {m : MethodId} {args : Array Value} {below : List Frame} {meth : Method} {c : Code} {dC : Nat → ClassId} {dI : Nat → Nat → Nat} {cI cZ cO cW : ClassId} {A : Nat → Prop} {Q : Int32 → Prop}  (hC : Cx p s m args meth c cX11_isSignByte (some .boolean) 1 wsX11_isSignByte RX11) (hK : va_K (dC, dI) vwCl (tysA cI cZ cO cW) s) (hA : ∀ q : Nat, s.heap.size ≤ q → A q) :
    ∀  (H : Heap) (locs : List Loc) (ls : Array Slot), wX11_isSignByte_42 Q   → va_P (dC, dI) vwCl ([] : va_W) H → va_D A ([] : va_W) → va_S A s.heap H locs → lv_has ls 1 [] → W p l e rmX11_isSignByte s m args below meth c H locs 0 0 (MQ below (qX11_isSignByte dC dI cI cZ cO cW Q A) args s 0 0 A) (F0 m 42 ls []) := by
  obtain ⟨hx, hb, hr, hml, hown, hts, hlocks⟩ := id hC
  intro  H locs ls hw hP hD hS hl
  refine lv_iconst (v := (1 : Int32)) hx hb dX11_isSignByte_42 (by decide) ?_
  refine lv_goto (tgt := 47) hx hb dX11_isSignByte_43 (by decide) ?_
  have hP9 := hP.sub (ws' := ([] : va_W)) [] rfl
  have hD9 := hD.sub (ws' := ([] : va_W)) [] (by decide) rfl
  exact W.zret (v := (1 : Int32)) (ty := .boolean) hx hb hr rfl (fun t ht hW => ⟨⟨(1 : Int32), (), rfl, hw, by rw [ht]; exact hP9, va_K.moved hW.alike hK, hD9⟩, hS.F ht⟩) hS.2.2 dX11_isSignByte_47
set_option maxHeartbeats 4000000 in
set_option maxRecDepth 100000 in
theorem tX11_isSignByte_e {p : Program} {l : Launch} {e : Env} {s : State} {m : MethodId} {args : Array Value} {below : List Frame} {meth : Method} {c : Code} {dC : Nat → ClassId} {dI : Nat → Nat → Nat} {cI cZ cO cW : ClassId} {A : Nat → Prop} {Q : Int32 → Prop} (hC : Cx p s m args meth c cX11_isSignByte (some .boolean) 1 wsX11_isSignByte RX11) (hK : va_K (dC, dI) vwCl (tysA cI cZ cO cW) s) (hA : ∀ q : Nat, s.heap.size ≤ q → A q) :
    ∀ (x0 : Int32) (H : Heap) (locs : List Loc) (ls : Array Slot), wX11_isSignByte Q x0  → va_P (dC, dI) vwCl ([] : va_W) H → va_D A ([] : va_W) → va_S A s.heap H locs → lv_has ls 1 [(0, .int x0)] → W p l e rmX11_isSignByte s m args below meth c H locs 0 0 (MQ below (qX11_isSignByte dC dI cI cZ cO cW Q A) args s 0 0 A) (F0 m 0 ls []) := by
  obtain ⟨hx, hb, hr, hml, hown, hts, hlocks⟩ := id hC
  intro x0 H locs ls hw hP hD hS hl
  refine lv_iload_n hx hb dX11_isSignByte_0 rfl (lv_at hl 0 rfl) ?_
  refine lv_bipush (v := (40 : Int32)) hx hb dX11_isSignByte_1 (by decide) ?_
  refine lv_icmp_eq (tgt := 42) hx hb dX11_isSignByte_3 (by decide) (fun c_1 => ?_) (fun c_1 => ?_)
  · have hw := hw.1 c_1
    exact tX11_isSignByte_42 hC hK hA  _ _ ls hw (hP.sub [] rfl) (hD.sub [] (by decide) rfl) hS (lv_sub hl [] rfl)
  · have hw := hw.2 c_1
    refine lv_iload_n hx hb dX11_isSignByte_6 rfl (lv_at hl 0 rfl) ?_
    refine lv_bipush (v := (41 : Int32)) hx hb dX11_isSignByte_7 (by decide) ?_
    refine lv_icmp_eq (tgt := 42) hx hb dX11_isSignByte_9 (by decide) (fun c_2 => ?_) (fun c_2 => ?_)
    · have hw := hw.1 c_2
      exact tX11_isSignByte_42 hC hK hA  _ _ ls hw (hP.sub [] rfl) (hD.sub [] (by decide) rfl) hS (lv_sub hl [] rfl)
    · have hw := hw.2 c_2
      refine lv_iload_n hx hb dX11_isSignByte_12 rfl (lv_at hl 0 rfl) ?_
      refine lv_bipush (v := (58 : Int32)) hx hb dX11_isSignByte_13 (by decide) ?_
      refine lv_icmp_eq (tgt := 42) hx hb dX11_isSignByte_15 (by decide) (fun c_3 => ?_) (fun c_3 => ?_)
      · have hw := hw.1 c_3
        exact tX11_isSignByte_42 hC hK hA  _ _ ls hw (hP.sub [] rfl) (hD.sub [] (by decide) rfl) hS (lv_sub hl [] rfl)
      · have hw := hw.2 c_3
        refine lv_iload_n hx hb dX11_isSignByte_18 rfl (lv_at hl 0 rfl) ?_
        refine lv_bipush (v := (59 : Int32)) hx hb dX11_isSignByte_19 (by decide) ?_
        refine lv_icmp_eq (tgt := 42) hx hb dX11_isSignByte_21 (by decide) (fun c_4 => ?_) (fun c_4 => ?_)
        · have hw := hw.1 c_4
          exact tX11_isSignByte_42 hC hK hA  _ _ ls hw (hP.sub [] rfl) (hD.sub [] (by decide) rfl) hS (lv_sub hl [] rfl)
        · have hw := hw.2 c_4
          refine lv_iload_n hx hb dX11_isSignByte_24 rfl (lv_at hl 0 rfl) ?_
          refine lv_bipush (v := (61 : Int32)) hx hb dX11_isSignByte_25 (by decide) ?_
          refine lv_icmp_eq (tgt := 42) hx hb dX11_isSignByte_27 (by decide) (fun c_5 => ?_) (fun c_5 => ?_)
          · have hw := hw.1 c_5
            exact tX11_isSignByte_42 hC hK hA  _ _ ls hw (hP.sub [] rfl) (hD.sub [] (by decide) rfl) hS (lv_sub hl [] rfl)
          · have hw := hw.2 c_5
            refine lv_iload_n hx hb dX11_isSignByte_30 rfl (lv_at hl 0 rfl) ?_
            refine lv_bipush (v := (60 : Int32)) hx hb dX11_isSignByte_31 (by decide) ?_
            refine lv_icmp_eq (tgt := 42) hx hb dX11_isSignByte_33 (by decide) (fun c_6 => ?_) (fun c_6 => ?_)
            · have hw := hw.1 c_6
              exact tX11_isSignByte_42 hC hK hA  _ _ ls hw (hP.sub [] rfl) (hD.sub [] (by decide) rfl) hS (lv_sub hl [] rfl)
            · have hw := hw.2 c_6
              refine lv_iload_n hx hb dX11_isSignByte_36 rfl (lv_at hl 0 rfl) ?_
              refine lv_bipush (v := (62 : Int32)) hx hb dX11_isSignByte_37 (by decide) ?_
              refine lv_icmp_ne (tgt := 46) hx hb dX11_isSignByte_39 (by decide) (fun c_7 => ?_) (fun c_7 => ?_)
              · have hw := hw.1 c_7
                refine lv_iconst (v := (0 : Int32)) hx hb dX11_isSignByte_46 (by decide) ?_
                have hP9 := hP.sub (ws' := ([] : va_W)) [] rfl
                have hD9 := hD.sub (ws' := ([] : va_W)) [] (by decide) rfl
                exact W.zret (v := (0 : Int32)) (ty := .boolean) hx hb hr rfl (fun t ht hW => ⟨⟨(0 : Int32), (), rfl, hw, by rw [ht]; exact hP9, va_K.moved hW.alike hK, hD9⟩, hS.F ht⟩) hS.2.2 dX11_isSignByte_47
              · have hw := hw.2 c_7
                exact tX11_isSignByte_42 hC hK hA  _ _ ls hw (hP.sub [] rfl) (hD.sub [] (by decide) rfl) hS (lv_sub hl [] rfl)
set_option maxHeartbeats 4000000 in
set_option maxRecDepth 100000 in
theorem kX11_isSignByte (l : Launch) (dC : Nat → ClassId) (dI : Nat → Nat → Nat) (cI cZ cO cW : ClassId)  (sz : Nat)  (x0 : Int32) (Q : Int32 → Prop) (hw : wX11_isSignByte Q x0 ) : Met l yX11_isSignByte wsX11_isSignByte rmX11_isSignByte (va_Pc [.int x0] (fun U => U.heap.size = sz ∧ va_P (dC, dI) vwCl ([] : va_W) U.heap ∧ va_K (dC, dI) vwCl (tysA cI cZ cO cW) U ∧ va_D (fun _ => True) ([] : va_W))) (qX11_isSignByte dC dI cI cZ cO cW Q (va_A ([] : va_W) sz)) 0 0 (va_A ([] : va_W) sz) := by
  refine Met.ofW (cc := cX11_isSignByte) (maxL := 1) (ret := (some .boolean)) (by decide) rfl ?_
  intro p e s m args below meth c s₁ B hml hv
  obtain ⟨rfl, hsz, hP, hK, hD0⟩ := hv
  subst hsz
  have hC : Cx p s m ([.int x0] : List Value).toArray meth c cX11_isSignByte (some .boolean) 1 wsX11_isSignByte RX11 := ⟨B.exec, B.bytes, B.returns, hml, findClass_of_methodNamed B.named, atoms_spec (ws := wsX11_isSignByte) B.pre, B.notSynchronized⟩
  have hD := hD0.self (sz := s.heap.size)
  generalize hAe : va_A ([] : va_W) s.heap.size = A at hD ⊢
  have hA : ∀ q : Nat, s.heap.size ≤ q → A q := fun q h => by rw [← hAe]; exact Or.inr h
  have hl := lv_entry ([.int x0]) (n := 1) (Nat.le_of_ble_eq_true rfl)
  rw [lg_entry_eq]
  generalize (lg_sl ([.int x0]) ++ List.replicate (1 - (lg_sl ([.int x0])).length) Slot.unset).toArray = ls at hl ⊢
  exact tX11_isSignByte_e hC hK hA x0 _ _ ls hw hP hD va_S.rf hl

/-! X11_advance -/
def wX11_advance_26 (Q : Int32 → Int32 → Int32 → Int32 → Int32 → Int32 → Prop) (K_0 : Int32 → Int32 → Int32 → Int32 → Int32 → Int32 → Int32 → (Nat → Int32) → Prop)  (f_size : Int32) (f_next : Int32) (f_where : Int32) (f_token : Int32) (f_number : Int32) (f_sign : Int32) (f_word : Int32) (r_all : (Nat → Int32)) : Prop :=
  (K_0 f_size (f_next + (1 : Int32)) f_where f_token f_number f_sign f_word r_all)
def wX11_advance_125 (Q : Int32 → Int32 → Int32 → Int32 → Int32 → Int32 → Prop) (K_77 : Int64 → Int32 → Int32 → Int32 → Int32 → Int32 → Int32 → Int32 → (Nat → Int32) → Prop)  (x2 : Int64) (f_size : Int32) (f_next : Int32) (f_where : Int32) (f_token : Int32) (f_number : Int32) (f_sign : Int32) (f_word : Int32) (r_all : (Nat → Int32)) : Prop :=
  (K_77 x2 f_size (f_next + (1 : Int32)) f_where f_token f_number f_sign f_word r_all)
def wX11_advance_180 (Q : Int32 → Int32 → Int32 → Int32 → Int32 → Int32 → Prop)   (s1 : Int32) (f_size : Int32) (f_next : Int32) (f_where : Int32) (f_token : Int32) (f_number : Int32) (f_sign : Int32) (f_word : Int32) (r_all : (Nat → Int32)) : Prop :=
  (Q f_next f_where s1 f_number f_sign f_word)
def wX11_advance_162 (Q : Int32 → Int32 → Int32 → Int32 → Int32 → Int32 → Prop)   (s1 : Int32) (f_size : Int32) (f_next : Int32) (f_where : Int32) (f_token : Int32) (f_number : Int32) (f_sign : Int32) (f_word : Int32) (r_all : (Nat → Int32)) : Prop :=
  ((¬ s1 = (99 : Int32) → (wX11_advance_180 Q (3 : Int32) f_size f_next f_where f_token f_number f_sign s1 r_all)) ∧ (s1 = (99 : Int32) → (wX11_advance_180 Q (4 : Int32) f_size f_next f_where f_token f_number f_sign s1 r_all)))
def wX11_advance_77 (Q : Int32 → Int32 → Int32 → Int32 → Int32 → Int32 → Prop)   : Nat → Int64 → Int32 → Int32 → Int32 → Int32 → Int32 → Int32 → Int32 → (Nat → Int32) → Prop
  | 0, _, _, _, _, _, _, _, _, _ => False
  | n + 1, x2, f_size, f_next, f_where, f_token, f_number, f_sign, f_word, r_all => (wX11_byteAt (fun r_2 => (wX11_isLetter (fun r_3 => ((r_3 = 0 → (((f_next - f_where) ≤ (6 : Int32) → (wX11_wordOf (fun r_6 => (wX11_advance_162 Q r_6 f_size f_next f_where f_token f_number f_sign f_word r_all)) x2)) ∧ (¬ (f_next - f_where) ≤ (6 : Int32) → (wX11_advance_162 Q (99 : Int32) f_size f_next f_where f_token f_number f_sign f_word r_all)))) ∧ (¬ r_3 = 0 → (((7 : Int32) ≤ (f_next - f_where) → (wX11_advance_125 Q (wX11_advance_77 Q n) x2 f_size f_next f_where f_token f_number f_sign f_word r_all)) ∧ (¬ (7 : Int32) ≤ (f_next - f_where) → (wX11_byteAt (fun r_8 => (wX11_advance_125 Q (wX11_advance_77 Q n) ((((32 : Int64) * x2) + r_8.toInt64) - (96 : Int64)) f_size f_next f_where f_token f_number f_sign f_word r_all)) f_next f_size r_all)))))) r_2)) f_next f_size r_all)
def wX11_advance_248 (Q : Int32 → Int32 → Int32 → Int32 → Int32 → Int32 → Prop) (K_198 : Int32 → Int32 → Int32 → Int32 → Int32 → Int32 → Int32 → (Nat → Int32) → Prop)  (f_size : Int32) (f_next : Int32) (f_where : Int32) (f_token : Int32) (f_number : Int32) (f_sign : Int32) (f_word : Int32) (r_all : (Nat → Int32)) : Prop :=
  (K_198 f_size (f_next + (1 : Int32)) f_where f_token f_number f_sign f_word r_all)
def wX11_advance_280 (Q : Int32 → Int32 → Int32 → Int32 → Int32 → Int32 → Prop)   (s1 : Int32) (f_size : Int32) (f_next : Int32) (f_where : Int32) (f_token : Int32) (f_number : Int32) (f_sign : Int32) (f_word : Int32) (r_all : (Nat → Int32)) : Prop :=
  (Q f_next f_where s1 f_number f_sign f_word)
def wX11_advance_198 (Q : Int32 → Int32 → Int32 → Int32 → Int32 → Int32 → Prop)   : Nat → Int32 → Int32 → Int32 → Int32 → Int32 → Int32 → Int32 → (Nat → Int32) → Prop
  | 0, _, _, _, _, _, _, _, _ => False
  | n + 1, f_size, f_next, f_where, f_token, f_number, f_sign, f_word, r_all => (wX11_byteAt (fun r_9 => (wX11_isDigit (fun r_10 => ((r_10 = 0 → (((f_next - f_where) ≤ (4 : Int32) → (wX11_advance_280 Q (1 : Int32) f_size f_next f_where f_token f_number f_sign f_word r_all)) ∧ (¬ (f_next - f_where) ≤ (4 : Int32) → (wX11_advance_280 Q (4 : Int32) f_size f_next f_where f_token f_number f_sign f_word r_all)))) ∧ (¬ r_10 = 0 → (((4 : Int32) ≤ (f_next - f_where) → (wX11_advance_248 Q (wX11_advance_198 Q n) f_size f_next f_where f_token f_number f_sign f_word r_all)) ∧ (¬ (4 : Int32) ≤ (f_next - f_where) → (wX11_byteAt (fun r_14 => (wX11_advance_248 Q (wX11_advance_198 Q n) f_size f_next f_where f_token ((((10 : Int32) * f_number) + r_14) - (48 : Int32)) f_sign f_word r_all)) f_next f_size r_all)))))) r_9)) f_next f_size r_all)
def wX11_advance_314 (Q : Int32 → Int32 → Int32 → Int32 → Int32 → Int32 → Prop)   (s1 : Int32) (f_size : Int32) (f_next : Int32) (f_where : Int32) (f_token : Int32) (f_number : Int32) (f_sign : Int32) (f_word : Int32) (r_all : (Nat → Int32)) : Prop :=
  (Q f_next f_where s1 f_number f_sign f_word)
def wX11_advance_0 (Q : Int32 → Int32 → Int32 → Int32 → Int32 → Int32 → Prop)   : Nat → Int32 → Int32 → Int32 → Int32 → Int32 → Int32 → Int32 → (Nat → Int32) → Prop
  | 0, _, _, _, _, _, _, _, _ => False
  | n + 1, f_size, f_next, f_where, f_token, f_number, f_sign, f_word, r_all => (wX11_byteAt (fun r_15 => ((r_15 = (10 : Int32) → (wX11_advance_26 Q (wX11_advance_0 Q n) f_size f_next f_where f_token f_number f_sign f_word r_all)) ∧ (¬ r_15 = (10 : Int32) → (wX11_byteAt (fun r_17 => ((¬ r_17 = (32 : Int32) → (wX11_byteAt (fun r_19 => ((0 ≤ r_19 → (wX11_isLetter (fun r_21 => ((r_21 = 0 → (wX11_isDigit (fun r_23 => ((r_23 = 0 → (wX11_isSignByte (fun r_25 => ((r_25 = 0 → (wX11_advance_314 Q (4 : Int32) f_size (f_next + (1 : Int32)) f_next f_token f_number r_19 f_word r_all)) ∧ (¬ r_25 = 0 → (wX11_advance_314 Q (2 : Int32) f_size (f_next + (1 : Int32)) f_next f_token f_number r_19 f_word r_all)))) r_19)) ∧ (¬ r_23 = 0 → (∃ j_, wX11_advance_198 Q j_ f_size f_next f_next f_token (0 : Int32) f_sign f_word r_all)))) r_19)) ∧ (¬ r_21 = 0 → (∃ j_, wX11_advance_77 Q j_ (0 : Int64) f_size f_next f_next f_token f_number f_sign f_word r_all)))) r_19)) ∧ (¬ 0 ≤ r_19 → (Q f_next f_next (0 : Int32) f_number f_sign f_word)))) f_next f_size r_all)) ∧ (r_17 = (32 : Int32) → (wX11_advance_26 Q (wX11_advance_0 Q n) f_size f_next f_where f_token f_number f_sign f_word r_all)))) f_next f_size r_all)))) f_next f_size r_all)
def wX11_advance (Q : Int32 → Int32 → Int32 → Int32 → Int32 → Int32 → Prop)  (f_size : Int32) (f_next : Int32) (f_where : Int32) (f_token : Int32) (f_number : Int32) (f_sign : Int32) (f_word : Int32) (r_all : Nat → Int32) : Prop :=
  (∃ j_, wX11_advance_0 Q j_ f_size f_next f_where f_token f_number f_sign f_word r_all)
abbrev vX11_advance (cI cZ : ClassId) (h h_all h_has h_line h_act h_pile h_comes h_leaves h_tried h_met : Nat) (f_wrong : Int32) (f_open : Int32) (f_lines : Int32) (f_acts : Int32) (f_size : Int32) (f_next : Int32) (f_where : Int32) (f_token : Int32) (f_number : Int32) (f_sign : Int32) (f_word : Int32) (r_all : Nat → Int32) : va_W := [(h, .inr (10, [.ref h_all, .ref h_has, .int f_size, .int f_next, .int f_where, .int f_token, .int f_number, .int f_sign, .int f_word, .int f_wrong, .int f_open, .int f_lines, .int f_acts, .ref h_line, .ref h_act, .ref h_pile, .ref h_comes, .ref h_leaves, .ref h_tried, .ref h_met])), (h_all, .inl (cI, 53700, .inl r_all))]
abbrev rmX11_advance : Room := { frames := 3, cells := 0, slots := 0, locals := 65 }
abbrev qX11_advance (dC : Nat → ClassId) (dI : Nat → Nat → Nat) (cI cZ cO cW : ClassId) (h h_all h_has h_line h_act h_pile h_comes h_leaves h_tried h_met : Nat) (f_wrong : Int32) (f_open : Int32) (f_lines : Int32) (f_acts : Int32) (f_size : Int32) (r_all : Nat → Int32) (Q : Int32 → Int32 → Int32 → Int32 → Int32 → Int32 → Prop) (A : Nat → Prop) : Array Value → State → Outcome → State → Prop := va_Qv (fun (u : Int32 × Int32 × Int32 × Int32 × Int32 × Int32) => Q u.1 u.2.1 u.2.2.1 u.2.2.2.1 u.2.2.2.2.1 u.2.2.2.2.2) (fun (u : Int32 × Int32 × Int32 × Int32 × Int32 × Int32) (t : State) => va_P (dC, dI) vwCl (vX11_advance cI cZ h h_all h_has h_line h_act h_pile h_comes h_leaves h_tried h_met f_wrong f_open f_lines f_acts f_size u.1 u.2.1 u.2.2.1 u.2.2.2.1 u.2.2.2.2.1 u.2.2.2.2.2 r_all) t.heap ∧ va_K (dC, dI) vwCl (tysA cI cZ cO cW) t ∧ va_D A (vX11_advance cI cZ h h_all h_has h_line h_act h_pile h_comes h_leaves h_tried h_met f_wrong f_open f_lines f_acts f_size u.1 u.2.1 u.2.2.1 u.2.2.2.1 u.2.2.2.2.1 u.2.2.2.2.2 r_all)) A
theorem mX11_advance_0 : Cond.fieldLink RX11 103 "IcePilotsModel" "next" "I" ∈ wsX11_advance := by decide +kernel
theorem mX11_advance_1 : Cond.fieldLink RX11 113 "IcePilotsModel" "token" "I" ∈ wsX11_advance := by decide +kernel
theorem mX11_advance_2 : Cond.fieldLink RX11 124 "IcePilotsModel" "word" "I" ∈ wsX11_advance := by decide +kernel
theorem mX11_advance_3 : Cond.fieldLink RX11 110 "IcePilotsModel" "where" "I" ∈ wsX11_advance := by decide +kernel
theorem mX11_advance_4 : Cond.constantLong RX11 77 (32) ∈ wsX11_advance := by decide +kernel
theorem mX11_advance_5 : Cond.constantLong RX11 79 (96) ∈ wsX11_advance := by decide +kernel
theorem mX11_advance_6 : Cond.fieldLink RX11 130 "IcePilotsModel" "number" "I" ∈ wsX11_advance := by decide +kernel
theorem mX11_advance_7 : Cond.fieldLink RX11 133 "IcePilotsModel" "sign" "I" ∈ wsX11_advance := by decide +kernel
theorem uX11_advance_X11 : ∀ w ∈ u_ws RX11 TX11 20, w ∈ wsX11_advance := by decide +kernel
set_option maxHeartbeats 4000000 in
set_option maxRecDepth 100000 in
theorem tX11_advance_26 {p : Program} {l : Launch} {e : Env} {s : State} {m : MethodId} {args : Array Value} {below : List Frame} {meth : Method} {c : Code} {dC : Nat → ClassId} {dI : Nat → Nat → Nat} {cI cZ cO cW : ClassId} {A : Nat → Prop} {h h_all h_has h_line h_act h_pile h_comes h_leaves h_tried h_met : Nat} {f_wrong f_open f_lines f_acts : Int32} {Q : Int32 → Int32 → Int32 → Int32 → Int32 → Int32 → Prop} {K_0 : Int32 → Int32 → Int32 → Int32 → Int32 → Int32 → Int32 → (Nat → Int32) → Prop} (hC : Cx p s m args meth c cX11_advance none 4 wsX11_advance RX11) (hK : va_K (dC, dI) vwCl (tysA cI cZ cO cW) s) (hA : ∀ q : Nat, s.heap.size ≤ q → A q) (hk_0 : ∀ (f_size : Int32) (f_next : Int32) (f_where : Int32) (f_token : Int32) (f_number : Int32) (f_sign : Int32) (f_word : Int32) (r_all : (Nat → Int32)) (H : Heap) (locs : List Loc) (ls : Array Slot), K_0 f_size f_next f_where f_token f_number f_sign f_word r_all → va_P (dC, dI) vwCl (vX11_advance cI cZ h h_all h_has h_line h_act h_pile h_comes h_leaves h_tried h_met f_wrong f_open f_lines f_acts f_size f_next f_where f_token f_number f_sign f_word r_all) H → va_D A (vX11_advance cI cZ h h_all h_has h_line h_act h_pile h_comes h_leaves h_tried h_met f_wrong f_open f_lines f_acts f_size f_next f_where f_token f_number f_sign f_word r_all) → va_S A s.heap H locs → lv_has ls 4 [(0, .ref h)] → W p l e rmX11_advance s m args below meth c H locs 0 0 (MQ below (qX11_advance dC dI cI cZ cO cW h h_all h_has h_line h_act h_pile h_comes h_leaves h_tried h_met f_wrong f_open f_lines f_acts f_size r_all Q A) args s 0 0 A) (F0 m 0 ls [])) :
    ∀ (f_size : Int32) (f_next : Int32) (f_where : Int32) (f_token : Int32) (f_number : Int32) (f_sign : Int32) (f_word : Int32) (r_all : (Nat → Int32)) (H : Heap) (locs : List Loc) (ls : Array Slot), wX11_advance_26 Q K_0 f_size f_next f_where f_token f_number f_sign f_word r_all → va_P (dC, dI) vwCl (vX11_advance cI cZ h h_all h_has h_line h_act h_pile h_comes h_leaves h_tried h_met f_wrong f_open f_lines f_acts f_size f_next f_where f_token f_number f_sign f_word r_all) H → va_D A (vX11_advance cI cZ h h_all h_has h_line h_act h_pile h_comes h_leaves h_tried h_met f_wrong f_open f_lines f_acts f_size f_next f_where f_token f_number f_sign f_word r_all) → va_S A s.heap H locs → lv_has ls 4 [(0, .ref h)] → W p l e rmX11_advance s m args below meth c H locs 0 0 (MQ below (qX11_advance dC dI cI cZ cO cW h h_all h_has h_line h_act h_pile h_comes h_leaves h_tried h_met f_wrong f_open f_lines f_acts f_size r_all Q A) args s 0 0 A) (F0 m 26 ls []) := by
  obtain ⟨hx, hb, hr, hml, hown, hts, hlocks⟩ := id hC
  intro f_size f_next f_where f_token f_number f_sign f_word r_all H locs ls hw hP hD hS hl
  refine lv_aload_n hx hb dX11_advance_26 rfl (lv_at hl 0 rfl) ?_
  refine lv_dup hx hb dX11_advance_27 rfl ?_
  refine va_get (D := (dC, dI)) (ci := 10) (v := .int f_next) (C := RX11) (T := TX11) (N := 20) hx hb hts uX11_advance_X11 hown hK hP 0 rfl rfl 3 (by decide) (hts _ mX11_advance_0) (fun _ h9 => h9) rfl dX11_advance_28 ?_
  refine lv_iconst (v := (1 : Int32)) hx hb dX11_advance_31 (by decide) ?_
  refine lv_iadd hx hb dX11_advance_32 ?_
  refine va_put (D := (dC, dI)) (ci := 10) (v := .int (f_next + (1 : Int32))) (ty := .int) (C := RX11) (T := TX11) (N := 20) hx hb hts uX11_advance_X11 tyX11 tyX11_ok nmX11 hown hK hP hD hS 0 rfl rfl 3 (by decide) (hts _ mX11_advance_0) (fun _ h9 => h9) rfl (tyX11_ok 3 (by decide)) rfl rfl (Nat.le_of_ble_eq_true rfl) dX11_advance_33 (fun H locs hP hD hS => ?_)
  have hP : va_P (dC, dI) vwCl [(h, .inr (10, [.ref h_all, .ref h_has, .int f_size, .int (f_next + (1 : Int32)), .int f_where, .int f_token, .int f_number, .int f_sign, .int f_word, .int f_wrong, .int f_open, .int f_lines, .int f_acts, .ref h_line, .ref h_act, .ref h_pile, .ref h_comes, .ref h_leaves, .ref h_tried, .ref h_met])), (h_all, .inl (cI, 53700, .inl r_all))] _ := hP
  have hD : va_D A [(h, .inr (10, [.ref h_all, .ref h_has, .int f_size, .int (f_next + (1 : Int32)), .int f_where, .int f_token, .int f_number, .int f_sign, .int f_word, .int f_wrong, .int f_open, .int f_lines, .int f_acts, .ref h_line, .ref h_act, .ref h_pile, .ref h_comes, .ref h_leaves, .ref h_tried, .ref h_met])), (h_all, .inl (cI, 53700, .inl r_all))] := hD
  refine lv_goto (tgt := 0) hx hb dX11_advance_36 (by decide) ?_
  exact hk_0 f_size (f_next + (1 : Int32)) f_where f_token f_number f_sign f_word r_all _ _ ls hw (hP.sub [0, 1] rfl) (hD.sub [0, 1] (by decide) rfl) hS (lv_sub hl [0] rfl)
set_option maxHeartbeats 4000000 in
set_option maxRecDepth 100000 in
theorem tX11_advance_125 {p : Program} {l : Launch} {e : Env} {s : State} {m : MethodId} {args : Array Value} {below : List Frame} {meth : Method} {c : Code} {dC : Nat → ClassId} {dI : Nat → Nat → Nat} {cI cZ cO cW : ClassId} {A : Nat → Prop} {h h_all h_has h_line h_act h_pile h_comes h_leaves h_tried h_met : Nat} {f_wrong f_open f_lines f_acts : Int32} {Q : Int32 → Int32 → Int32 → Int32 → Int32 → Int32 → Prop} {K_77 : Int64 → Int32 → Int32 → Int32 → Int32 → Int32 → Int32 → Int32 → (Nat → Int32) → Prop} (hC : Cx p s m args meth c cX11_advance none 4 wsX11_advance RX11) (hK : va_K (dC, dI) vwCl (tysA cI cZ cO cW) s) (hA : ∀ q : Nat, s.heap.size ≤ q → A q) (hk_77 : ∀ (x2 : Int64) (f_size : Int32) (f_next : Int32) (f_where : Int32) (f_token : Int32) (f_number : Int32) (f_sign : Int32) (f_word : Int32) (r_all : (Nat → Int32)) (H : Heap) (locs : List Loc) (ls : Array Slot), K_77 x2 f_size f_next f_where f_token f_number f_sign f_word r_all → va_P (dC, dI) vwCl (vX11_advance cI cZ h h_all h_has h_line h_act h_pile h_comes h_leaves h_tried h_met f_wrong f_open f_lines f_acts f_size f_next f_where f_token f_number f_sign f_word r_all) H → va_D A (vX11_advance cI cZ h h_all h_has h_line h_act h_pile h_comes h_leaves h_tried h_met f_wrong f_open f_lines f_acts f_size f_next f_where f_token f_number f_sign f_word r_all) → va_S A s.heap H locs → lv_has ls 4 [(0, .ref h), (2, .long x2)] → W p l e rmX11_advance s m args below meth c H locs 0 0 (MQ below (qX11_advance dC dI cI cZ cO cW h h_all h_has h_line h_act h_pile h_comes h_leaves h_tried h_met f_wrong f_open f_lines f_acts f_size r_all Q A) args s 0 0 A) (F0 m 77 ls [])) :
    ∀ (x2 : Int64) (f_size : Int32) (f_next : Int32) (f_where : Int32) (f_token : Int32) (f_number : Int32) (f_sign : Int32) (f_word : Int32) (r_all : (Nat → Int32)) (H : Heap) (locs : List Loc) (ls : Array Slot), wX11_advance_125 Q K_77 x2 f_size f_next f_where f_token f_number f_sign f_word r_all → va_P (dC, dI) vwCl (vX11_advance cI cZ h h_all h_has h_line h_act h_pile h_comes h_leaves h_tried h_met f_wrong f_open f_lines f_acts f_size f_next f_where f_token f_number f_sign f_word r_all) H → va_D A (vX11_advance cI cZ h h_all h_has h_line h_act h_pile h_comes h_leaves h_tried h_met f_wrong f_open f_lines f_acts f_size f_next f_where f_token f_number f_sign f_word r_all) → va_S A s.heap H locs → lv_has ls 4 [(0, .ref h), (2, .long x2)] → W p l e rmX11_advance s m args below meth c H locs 0 0 (MQ below (qX11_advance dC dI cI cZ cO cW h h_all h_has h_line h_act h_pile h_comes h_leaves h_tried h_met f_wrong f_open f_lines f_acts f_size r_all Q A) args s 0 0 A) (F0 m 125 ls []) := by
  obtain ⟨hx, hb, hr, hml, hown, hts, hlocks⟩ := id hC
  intro x2 f_size f_next f_where f_token f_number f_sign f_word r_all H locs ls hw hP hD hS hl
  refine lv_aload_n hx hb dX11_advance_125 rfl (lv_at hl 0 rfl) ?_
  refine lv_dup hx hb dX11_advance_126 rfl ?_
  refine va_get (D := (dC, dI)) (ci := 10) (v := .int f_next) (C := RX11) (T := TX11) (N := 20) hx hb hts uX11_advance_X11 hown hK hP 0 rfl rfl 3 (by decide) (hts _ mX11_advance_0) (fun _ h9 => h9) rfl dX11_advance_127 ?_
  refine lv_iconst (v := (1 : Int32)) hx hb dX11_advance_130 (by decide) ?_
  refine lv_iadd hx hb dX11_advance_131 ?_
  refine va_put (D := (dC, dI)) (ci := 10) (v := .int (f_next + (1 : Int32))) (ty := .int) (C := RX11) (T := TX11) (N := 20) hx hb hts uX11_advance_X11 tyX11 tyX11_ok nmX11 hown hK hP hD hS 0 rfl rfl 3 (by decide) (hts _ mX11_advance_0) (fun _ h9 => h9) rfl (tyX11_ok 3 (by decide)) rfl rfl (Nat.le_of_ble_eq_true rfl) dX11_advance_132 (fun H locs hP hD hS => ?_)
  have hP : va_P (dC, dI) vwCl [(h, .inr (10, [.ref h_all, .ref h_has, .int f_size, .int (f_next + (1 : Int32)), .int f_where, .int f_token, .int f_number, .int f_sign, .int f_word, .int f_wrong, .int f_open, .int f_lines, .int f_acts, .ref h_line, .ref h_act, .ref h_pile, .ref h_comes, .ref h_leaves, .ref h_tried, .ref h_met])), (h_all, .inl (cI, 53700, .inl r_all))] _ := hP
  have hD : va_D A [(h, .inr (10, [.ref h_all, .ref h_has, .int f_size, .int (f_next + (1 : Int32)), .int f_where, .int f_token, .int f_number, .int f_sign, .int f_word, .int f_wrong, .int f_open, .int f_lines, .int f_acts, .ref h_line, .ref h_act, .ref h_pile, .ref h_comes, .ref h_leaves, .ref h_tried, .ref h_met])), (h_all, .inl (cI, 53700, .inl r_all))] := hD
  refine lv_goto (tgt := 77) hx hb dX11_advance_135 (by decide) ?_
  exact hk_77 x2 f_size (f_next + (1 : Int32)) f_where f_token f_number f_sign f_word r_all _ _ ls hw (hP.sub [0, 1] rfl) (hD.sub [0, 1] (by decide) rfl) hS (lv_sub hl [0, 1] rfl)
set_option maxHeartbeats 4000000 in
set_option maxRecDepth 100000 in
theorem tX11_advance_180 {p : Program} {l : Launch} {e : Env} {s : State} {m : MethodId} {args : Array Value} {below : List Frame} {meth : Method} {c : Code} {dC : Nat → ClassId} {dI : Nat → Nat → Nat} {cI cZ cO cW : ClassId} {A : Nat → Prop} {h h_all h_has h_line h_act h_pile h_comes h_leaves h_tried h_met : Nat} {f_wrong f_open f_lines f_acts : Int32} {Q : Int32 → Int32 → Int32 → Int32 → Int32 → Int32 → Prop}  (hC : Cx p s m args meth c cX11_advance none 4 wsX11_advance RX11) (hK : va_K (dC, dI) vwCl (tysA cI cZ cO cW) s) (hA : ∀ q : Nat, s.heap.size ≤ q → A q) :
    ∀ (s1 : Int32) (f_size : Int32) (f_next : Int32) (f_where : Int32) (f_token : Int32) (f_number : Int32) (f_sign : Int32) (f_word : Int32) (r_all : (Nat → Int32)) (H : Heap) (locs : List Loc) (ls : Array Slot), wX11_advance_180 Q  s1 f_size f_next f_where f_token f_number f_sign f_word r_all → va_P (dC, dI) vwCl (vX11_advance cI cZ h h_all h_has h_line h_act h_pile h_comes h_leaves h_tried h_met f_wrong f_open f_lines f_acts f_size f_next f_where f_token f_number f_sign f_word r_all) H → va_D A (vX11_advance cI cZ h h_all h_has h_line h_act h_pile h_comes h_leaves h_tried h_met f_wrong f_open f_lines f_acts f_size f_next f_where f_token f_number f_sign f_word r_all) → va_S A s.heap H locs → lv_has ls 4 [] → W p l e rmX11_advance s m args below meth c H locs 0 0 (MQ below (qX11_advance dC dI cI cZ cO cW h h_all h_has h_line h_act h_pile h_comes h_leaves h_tried h_met f_wrong f_open f_lines f_acts f_size r_all Q A) args s 0 0 A) (F0 m 180 ls [.int s1, .ref h]) := by
  obtain ⟨hx, hb, hr, hml, hown, hts, hlocks⟩ := id hC
  intro s1 f_size f_next f_where f_token f_number f_sign f_word r_all H locs ls hw hP hD hS hl
  refine va_put (D := (dC, dI)) (ci := 10) (v := .int s1) (ty := .int) (C := RX11) (T := TX11) (N := 20) hx hb hts uX11_advance_X11 tyX11 tyX11_ok nmX11 hown hK hP hD hS 0 rfl rfl 5 (by decide) (hts _ mX11_advance_1) (fun _ h9 => h9) rfl (tyX11_ok 5 (by decide)) rfl rfl (Nat.le_of_ble_eq_true rfl) dX11_advance_180 (fun H locs hP hD hS => ?_)
  have hP : va_P (dC, dI) vwCl [(h, .inr (10, [.ref h_all, .ref h_has, .int f_size, .int f_next, .int f_where, .int s1, .int f_number, .int f_sign, .int f_word, .int f_wrong, .int f_open, .int f_lines, .int f_acts, .ref h_line, .ref h_act, .ref h_pile, .ref h_comes, .ref h_leaves, .ref h_tried, .ref h_met])), (h_all, .inl (cI, 53700, .inl r_all))] _ := hP
  have hD : va_D A [(h, .inr (10, [.ref h_all, .ref h_has, .int f_size, .int f_next, .int f_where, .int s1, .int f_number, .int f_sign, .int f_word, .int f_wrong, .int f_open, .int f_lines, .int f_acts, .ref h_line, .ref h_act, .ref h_pile, .ref h_comes, .ref h_leaves, .ref h_tried, .ref h_met])), (h_all, .inl (cI, 53700, .inl r_all))] := hD
  refine lv_goto (tgt := 317) hx hb dX11_advance_183 (by decide) ?_
  have hP9 := hP.sub (ws' := (vX11_advance cI cZ h h_all h_has h_line h_act h_pile h_comes h_leaves h_tried h_met f_wrong f_open f_lines f_acts f_size f_next f_where s1 f_number f_sign f_word r_all)) [0, 1] rfl
  have hD9 := hD.sub (ws' := (vX11_advance cI cZ h h_all h_has h_line h_act h_pile h_comes h_leaves h_tried h_met f_wrong f_open f_lines f_acts f_size f_next f_where s1 f_number f_sign f_word r_all)) [0, 1] (by decide) rfl
  exact W.vret hx hb hr (fun t ht hW => ⟨⟨(f_next, f_where, s1, f_number, f_sign, f_word), rfl, hw, by rw [ht]; exact hP9, va_K.moved hW.alike hK, hD9⟩, hS.F ht⟩) hS.2.2 dX11_advance_317
set_option maxHeartbeats 4000000 in
set_option maxRecDepth 100000 in
theorem tX11_advance_162 {p : Program} {l : Launch} {e : Env} {s : State} {m : MethodId} {args : Array Value} {below : List Frame} {meth : Method} {c : Code} {dC : Nat → ClassId} {dI : Nat → Nat → Nat} {cI cZ cO cW : ClassId} {A : Nat → Prop} {h h_all h_has h_line h_act h_pile h_comes h_leaves h_tried h_met : Nat} {f_wrong f_open f_lines f_acts : Int32} {Q : Int32 → Int32 → Int32 → Int32 → Int32 → Int32 → Prop}  (hC : Cx p s m args meth c cX11_advance none 4 wsX11_advance RX11) (hK : va_K (dC, dI) vwCl (tysA cI cZ cO cW) s) (hA : ∀ q : Nat, s.heap.size ≤ q → A q) :
    ∀ (s1 : Int32) (f_size : Int32) (f_next : Int32) (f_where : Int32) (f_token : Int32) (f_number : Int32) (f_sign : Int32) (f_word : Int32) (r_all : (Nat → Int32)) (H : Heap) (locs : List Loc) (ls : Array Slot), wX11_advance_162 Q  s1 f_size f_next f_where f_token f_number f_sign f_word r_all → va_P (dC, dI) vwCl (vX11_advance cI cZ h h_all h_has h_line h_act h_pile h_comes h_leaves h_tried h_met f_wrong f_open f_lines f_acts f_size f_next f_where f_token f_number f_sign f_word r_all) H → va_D A (vX11_advance cI cZ h h_all h_has h_line h_act h_pile h_comes h_leaves h_tried h_met f_wrong f_open f_lines f_acts f_size f_next f_where f_token f_number f_sign f_word r_all) → va_S A s.heap H locs → lv_has ls 4 [(0, .ref h)] → W p l e rmX11_advance s m args below meth c H locs 0 0 (MQ below (qX11_advance dC dI cI cZ cO cW h h_all h_has h_line h_act h_pile h_comes h_leaves h_tried h_met f_wrong f_open f_lines f_acts f_size r_all Q A) args s 0 0 A) (F0 m 162 ls [.int s1, .ref h]) := by
  obtain ⟨hx, hb, hr, hml, hown, hts, hlocks⟩ := id hC
  intro s1 f_size f_next f_where f_token f_number f_sign f_word r_all H locs ls hw hP hD hS hl
  refine va_put (D := (dC, dI)) (ci := 10) (v := .int s1) (ty := .int) (C := RX11) (T := TX11) (N := 20) hx hb hts uX11_advance_X11 tyX11 tyX11_ok nmX11 hown hK hP hD hS 0 rfl rfl 8 (by decide) (hts _ mX11_advance_2) (fun _ h9 => h9) rfl (tyX11_ok 8 (by decide)) rfl rfl (Nat.le_of_ble_eq_true rfl) dX11_advance_162 (fun H locs hP hD hS => ?_)
  have hP : va_P (dC, dI) vwCl [(h, .inr (10, [.ref h_all, .ref h_has, .int f_size, .int f_next, .int f_where, .int f_token, .int f_number, .int f_sign, .int s1, .int f_wrong, .int f_open, .int f_lines, .int f_acts, .ref h_line, .ref h_act, .ref h_pile, .ref h_comes, .ref h_leaves, .ref h_tried, .ref h_met])), (h_all, .inl (cI, 53700, .inl r_all))] _ := hP
  have hD : va_D A [(h, .inr (10, [.ref h_all, .ref h_has, .int f_size, .int f_next, .int f_where, .int f_token, .int f_number, .int f_sign, .int s1, .int f_wrong, .int f_open, .int f_lines, .int f_acts, .ref h_line, .ref h_act, .ref h_pile, .ref h_comes, .ref h_leaves, .ref h_tried, .ref h_met])), (h_all, .inl (cI, 53700, .inl r_all))] := hD
  refine lv_aload_n hx hb dX11_advance_165 rfl (lv_at hl 0 rfl) ?_
  refine lv_aload_n hx hb dX11_advance_166 rfl (lv_at hl 0 rfl) ?_
  refine va_get (D := (dC, dI)) (ci := 10) (v := .int s1) (C := RX11) (T := TX11) (N := 20) hx hb hts uX11_advance_X11 hown hK hP 0 rfl rfl 8 (by decide) (hts _ mX11_advance_2) (fun _ h9 => h9) rfl dX11_advance_167 ?_
  refine lv_bipush (v := (99 : Int32)) hx hb dX11_advance_170 (by decide) ?_
  refine lv_icmp_ne (tgt := 179) hx hb dX11_advance_172 (by decide) (fun c_1 => ?_) (fun c_1 => ?_)
  · have hw := hw.1 c_1
    refine lv_iconst (v := (3 : Int32)) hx hb dX11_advance_179 (by decide) ?_
    exact tX11_advance_180 hC hK hA  (3 : Int32) f_size f_next f_where f_token f_number f_sign s1 r_all _ _ ls hw (hP.sub [0, 1] rfl) (hD.sub [0, 1] (by decide) rfl) hS (lv_sub hl [] rfl)
  · have hw := hw.2 c_1
    refine lv_iconst (v := (4 : Int32)) hx hb dX11_advance_175 (by decide) ?_
    refine lv_goto (tgt := 180) hx hb dX11_advance_176 (by decide) ?_
    exact tX11_advance_180 hC hK hA  (4 : Int32) f_size f_next f_where f_token f_number f_sign s1 r_all _ _ ls hw (hP.sub [0, 1] rfl) (hD.sub [0, 1] (by decide) rfl) hS (lv_sub hl [] rfl)
set_option maxHeartbeats 4000000 in
set_option maxRecDepth 100000 in
theorem tX11_advance_77 {p : Program} {l : Launch} {e : Env} {s : State} {m : MethodId} {args : Array Value} {below : List Frame} {meth : Method} {c : Code} {dC : Nat → ClassId} {dI : Nat → Nat → Nat} {cI cZ cO cW : ClassId} {A : Nat → Prop} {h h_all h_has h_line h_act h_pile h_comes h_leaves h_tried h_met : Nat} {f_wrong f_open f_lines f_acts : Int32} {Q : Int32 → Int32 → Int32 → Int32 → Int32 → Int32 → Prop}  (hC : Cx p s m args meth c cX11_advance none 4 wsX11_advance RX11) (hK : va_K (dC, dI) vwCl (tysA cI cZ cO cW) s) (hA : ∀ q : Nat, s.heap.size ≤ q → A q) :
    ∀ (n : Nat) (x2 : Int64) (f_size : Int32) (f_next : Int32) (f_where : Int32) (f_token : Int32) (f_number : Int32) (f_sign : Int32) (f_word : Int32) (r_all : (Nat → Int32)) (H : Heap) (locs : List Loc) (ls : Array Slot), wX11_advance_77 Q  n x2 f_size f_next f_where f_token f_number f_sign f_word r_all → va_P (dC, dI) vwCl (vX11_advance cI cZ h h_all h_has h_line h_act h_pile h_comes h_leaves h_tried h_met f_wrong f_open f_lines f_acts f_size f_next f_where f_token f_number f_sign f_word r_all) H → va_D A (vX11_advance cI cZ h h_all h_has h_line h_act h_pile h_comes h_leaves h_tried h_met f_wrong f_open f_lines f_acts f_size f_next f_where f_token f_number f_sign f_word r_all) → va_S A s.heap H locs → lv_has ls 4 [(0, .ref h), (2, .long x2)] → W p l e rmX11_advance s m args below meth c H locs 0 0 (MQ below (qX11_advance dC dI cI cZ cO cW h h_all h_has h_line h_act h_pile h_comes h_leaves h_tried h_met f_wrong f_open f_lines f_acts f_size r_all Q A) args s 0 0 A) (F0 m 77 ls []) := by
  obtain ⟨hx, hb, hr, hml, hown, hts, hlocks⟩ := id hC
  intro n
  induction n with
  | zero =>
    intro x2 f_size f_next f_where f_token f_number f_sign f_word r_all H locs ls hw
    exact hw.elim
  | succ n ih =>
    intro x2 f_size f_next f_where f_token f_number f_sign f_word r_all H locs ls hw hP hD hS hl
    refine lv_aload_n hx hb dX11_advance_77 rfl (lv_at hl 0 rfl) ?_
    refine lv_aload_n hx hb dX11_advance_78 rfl (lv_at hl 0 rfl) ?_
    refine va_get (D := (dC, dI)) (ci := 10) (v := .int f_next) (C := RX11) (T := TX11) (N := 20) hx hb hts uX11_advance_X11 hown hK hP 0 rfl rfl 3 (by decide) (hts _ mX11_advance_0) (fun _ h9 => h9) rfl dX11_advance_79 ?_
    have hPc := hP.sub (ws' := [(h, .inr (10, [.ref h_all, .ref h_has, .int f_size, .int f_next, .int f_where, .int f_token, .int f_number, .int f_sign, .int f_word, .int f_wrong, .int f_open, .int f_lines, .int f_acts, .ref h_line, .ref h_act, .ref h_pile, .ref h_comes, .ref h_leaves, .ref h_tried, .ref h_met])), (h_all, .inl (cI, 53700, .inl r_all))]) [0, 1] rfl
    have hDc := hD.sub (ws' := [(h, .inr (10, [.ref h_all, .ref h_has, .int f_size, .int f_next, .int f_where, .int f_token, .int f_number, .int f_sign, .int f_word, .int f_wrong, .int f_open, .int f_lines, .int f_acts, .ref h_line, .ref h_act, .ref h_pile, .ref h_comes, .ref h_leaves, .ref h_tried, .ref h_met])), (h_all, .inl (cI, 53700, .inl r_all))]) [0, 1] (by decide) rfl
    have hFc := va_free (wc := [(h, .inr (10, [.ref h_all, .ref h_has, .int f_size, .int f_next, .int f_where, .int f_token, .int f_number, .int f_sign, .int f_word, .int f_wrong, .int f_open, .int f_lines, .int f_acts, .ref h_line, .ref h_act, .ref h_pile, .ref h_comes, .ref h_leaves, .ref h_tried, .ref h_met])), (h_all, .inl (cI, 53700, .inl r_all))]) hD hS hA [0, 1] rfl
    refine va_calli (va_runV (As := [.int f_next]) (rest := []) ⟨hx, hb, hml, hown, hts⟩ (kX11_byteAt l dC dI cI cZ cO cW h h_all h_has h_line h_act h_pile h_comes h_leaves h_tried h_met H.size f_next f_where f_token f_number f_sign f_word f_wrong f_open f_lines f_acts f_size r_all f_next _ hw) (cwV 1 hts gX11_advance_X11_byteAt rfl rfl rfl (by decide +kernel) ⟨Nat.le_of_ble_eq_true rfl, Nat.le_of_ble_eq_true rfl⟩) (pv_of hPc hK hDc (va_recv hK hPc (ci := 10) (q0 := 0) rfl rfl)) rfl rfl hl.1 rfl (lv_room (Nat.le_of_ble_eq_true rfl)) dX11_advance_82 ⟨Nat.zero_le _, Nat.zero_le _⟩) hS (fun q _ h => hFc q h) hFc (fun r_2 u t H locs ht hvm hw hB hz1 hk1 hS => ?_)
    obtain ⟨hP, hD⟩ := af_join (wr := []) (w1 := [(h, .inr (10, [.ref h_all, .ref h_has, .int f_size, .int f_next, .int f_where, .int f_token, .int f_number, .int f_sign, .int f_word, .int f_wrong, .int f_open, .int f_lines, .int f_acts, .ref h_line, .ref h_act, .ref h_pile, .ref h_comes, .ref h_leaves, .ref h_tried, .ref h_met])), (h_all, .inl (cI, 53700, .inl r_all))]) hB ht hP hD [0, 1] [] rfl rfl (by decide) (by decide) hk1 hFc
    have hP : va_P (dC, dI) vwCl [(h, .inr (10, [.ref h_all, .ref h_has, .int f_size, .int f_next, .int f_where, .int f_token, .int f_number, .int f_sign, .int f_word, .int f_wrong, .int f_open, .int f_lines, .int f_acts, .ref h_line, .ref h_act, .ref h_pile, .ref h_comes, .ref h_leaves, .ref h_tried, .ref h_met])), (h_all, .inl (cI, 53700, .inl r_all))] _ := hP
    have hD : va_D A [(h, .inr (10, [.ref h_all, .ref h_has, .int f_size, .int f_next, .int f_where, .int f_token, .int f_number, .int f_sign, .int f_word, .int f_wrong, .int f_open, .int f_lines, .int f_acts, .ref h_line, .ref h_act, .ref h_pile, .ref h_comes, .ref h_leaves, .ref h_tried, .ref h_met])), (h_all, .inl (cI, 53700, .inl r_all))] := hD
    have hPc := hP.sub (ws' := []) [] rfl
    have hDc := hD.sub (ws' := []) [] (by decide) rfl
    have hFc := va_free (wc := []) hD hS hA [] rfl
    refine va_calli (va_runS (As := [.int r_2]) (rest := []) ⟨hx, hb, hml, hown, hts⟩ (kX11_isLetter l dC dI cI cZ cO cW H.size r_2 _ hw) (va_cwS 1 hts gX11_advance_X11_isLetter rfl rfl rfl (by decide +kernel) ⟨Nat.le_of_ble_eq_true rfl, Nat.le_of_ble_eq_true rfl⟩) (ps_of hPc hK hDc) rfl rfl hl.1 rfl (lv_room (Nat.le_of_ble_eq_true rfl)) dX11_advance_85 ⟨Nat.zero_le _, Nat.zero_le _⟩) hS (fun q _ h => hFc q h) hFc (fun r_3 u t H locs ht hvm hw hB hz1 hk1 hS => ?_)
    obtain ⟨hP, hD⟩ := af_join (wr := [(h, .inr (10, [.ref h_all, .ref h_has, .int f_size, .int f_next, .int f_where, .int f_token, .int f_number, .int f_sign, .int f_word, .int f_wrong, .int f_open, .int f_lines, .int f_acts, .ref h_line, .ref h_act, .ref h_pile, .ref h_comes, .ref h_leaves, .ref h_tried, .ref h_met])), (h_all, .inl (cI, 53700, .inl r_all))]) (w1 := []) hB ht hP hD [] [0, 1] rfl rfl (by decide) (by decide) hk1 hFc
    have hP : va_P (dC, dI) vwCl [(h, .inr (10, [.ref h_all, .ref h_has, .int f_size, .int f_next, .int f_where, .int f_token, .int f_number, .int f_sign, .int f_word, .int f_wrong, .int f_open, .int f_lines, .int f_acts, .ref h_line, .ref h_act, .ref h_pile, .ref h_comes, .ref h_leaves, .ref h_tried, .ref h_met])), (h_all, .inl (cI, 53700, .inl r_all))] _ := hP
    have hD : va_D A [(h, .inr (10, [.ref h_all, .ref h_has, .int f_size, .int f_next, .int f_where, .int f_token, .int f_number, .int f_sign, .int f_word, .int f_wrong, .int f_open, .int f_lines, .int f_acts, .ref h_line, .ref h_act, .ref h_pile, .ref h_comes, .ref h_leaves, .ref h_tried, .ref h_met])), (h_all, .inl (cI, 53700, .inl r_all))] := hD
    refine lv_if_eq (tgt := 138) hx hb dX11_advance_88 (by decide) (fun c_4 => ?_) (fun c_4 => ?_)
    · have hw := hw.1 c_4
      refine lv_aload_n hx hb dX11_advance_138 rfl (lv_at hl 0 rfl) ?_
      refine lv_aload_n hx hb dX11_advance_139 rfl (lv_at hl 0 rfl) ?_
      refine va_get (D := (dC, dI)) (ci := 10) (v := .int f_next) (C := RX11) (T := TX11) (N := 20) hx hb hts uX11_advance_X11 hown hK hP 0 rfl rfl 3 (by decide) (hts _ mX11_advance_0) (fun _ h9 => h9) rfl dX11_advance_140 ?_
      refine lv_aload_n hx hb dX11_advance_143 rfl (lv_at hl 0 rfl) ?_
      refine va_get (D := (dC, dI)) (ci := 10) (v := .int f_where) (C := RX11) (T := TX11) (N := 20) hx hb hts uX11_advance_X11 hown hK hP 0 rfl rfl 4 (by decide) (hts _ mX11_advance_3) (fun _ h9 => h9) rfl dX11_advance_144 ?_
      refine lv_isub hx hb dX11_advance_147 ?_
      refine lv_bipush (v := (6 : Int32)) hx hb dX11_advance_148 (by decide) ?_
      refine lv_icmp_le (tgt := 158) hx hb dX11_advance_150 (by decide) (fun c_5 => ?_) (fun c_5 => ?_)
      · have hw := hw.1 c_5
        refine lv_lload_n hx hb dX11_advance_158 rfl (lv_at hl 1 rfl) ?_
        have hPc := hP.sub (ws' := []) [] rfl
        have hDc := hD.sub (ws' := []) [] (by decide) rfl
        have hFc := va_free (wc := []) hD hS hA [] rfl
        refine va_calli (va_runS (As := [.long x2]) (rest := [.ref h]) ⟨hx, hb, hml, hown, hts⟩ (kX11_wordOf l dC dI cI cZ cO cW H.size x2 _ hw) (va_cwS 1 hts gX11_advance_X11_wordOf rfl rfl rfl (by decide +kernel) ⟨Nat.le_of_ble_eq_true rfl, Nat.le_of_ble_eq_true rfl⟩) (ps_of hPc hK hDc) rfl rfl hl.1 rfl (lv_room (Nat.le_of_ble_eq_true rfl)) dX11_advance_159 ⟨Nat.zero_le _, Nat.zero_le _⟩) hS (fun q _ h => hFc q h) hFc (fun r_6 u t H locs ht hvm hw hB hz1 hk1 hS => ?_)
        obtain ⟨hP, hD⟩ := af_join (wr := [(h, .inr (10, [.ref h_all, .ref h_has, .int f_size, .int f_next, .int f_where, .int f_token, .int f_number, .int f_sign, .int f_word, .int f_wrong, .int f_open, .int f_lines, .int f_acts, .ref h_line, .ref h_act, .ref h_pile, .ref h_comes, .ref h_leaves, .ref h_tried, .ref h_met])), (h_all, .inl (cI, 53700, .inl r_all))]) (w1 := []) hB ht hP hD [] [0, 1] rfl rfl (by decide) (by decide) hk1 hFc
        have hP : va_P (dC, dI) vwCl [(h, .inr (10, [.ref h_all, .ref h_has, .int f_size, .int f_next, .int f_where, .int f_token, .int f_number, .int f_sign, .int f_word, .int f_wrong, .int f_open, .int f_lines, .int f_acts, .ref h_line, .ref h_act, .ref h_pile, .ref h_comes, .ref h_leaves, .ref h_tried, .ref h_met])), (h_all, .inl (cI, 53700, .inl r_all))] _ := hP
        have hD : va_D A [(h, .inr (10, [.ref h_all, .ref h_has, .int f_size, .int f_next, .int f_where, .int f_token, .int f_number, .int f_sign, .int f_word, .int f_wrong, .int f_open, .int f_lines, .int f_acts, .ref h_line, .ref h_act, .ref h_pile, .ref h_comes, .ref h_leaves, .ref h_tried, .ref h_met])), (h_all, .inl (cI, 53700, .inl r_all))] := hD
        exact tX11_advance_162 hC hK hA  r_6 f_size f_next f_where f_token f_number f_sign f_word r_all _ _ ls hw (hP.sub [0, 1] rfl) (hD.sub [0, 1] (by decide) rfl) hS (lv_sub hl [0] rfl)
      · have hw := hw.2 c_5
        refine lv_bipush (v := (99 : Int32)) hx hb dX11_advance_153 (by decide) ?_
        refine lv_goto (tgt := 162) hx hb dX11_advance_155 (by decide) ?_
        exact tX11_advance_162 hC hK hA  (99 : Int32) f_size f_next f_where f_token f_number f_sign f_word r_all _ _ ls hw (hP.sub [0, 1] rfl) (hD.sub [0, 1] (by decide) rfl) hS (lv_sub hl [0] rfl)
    · have hw := hw.2 c_4
      refine lv_aload_n hx hb dX11_advance_91 rfl (lv_at hl 0 rfl) ?_
      refine va_get (D := (dC, dI)) (ci := 10) (v := .int f_next) (C := RX11) (T := TX11) (N := 20) hx hb hts uX11_advance_X11 hown hK hP 0 rfl rfl 3 (by decide) (hts _ mX11_advance_0) (fun _ h9 => h9) rfl dX11_advance_92 ?_
      refine lv_aload_n hx hb dX11_advance_95 rfl (lv_at hl 0 rfl) ?_
      refine va_get (D := (dC, dI)) (ci := 10) (v := .int f_where) (C := RX11) (T := TX11) (N := 20) hx hb hts uX11_advance_X11 hown hK hP 0 rfl rfl 4 (by decide) (hts _ mX11_advance_3) (fun _ h9 => h9) rfl dX11_advance_96 ?_
      refine lv_isub hx hb dX11_advance_99 ?_
      refine lv_bipush (v := (7 : Int32)) hx hb dX11_advance_100 (by decide) ?_
      refine lv_icmp_ge (tgt := 125) hx hb dX11_advance_102 (by decide) (fun c_7 => ?_) (fun c_7 => ?_)
      · have hw := hw.1 c_7
        exact tX11_advance_125 hC hK hA ih x2 f_size f_next f_where f_token f_number f_sign f_word r_all _ _ ls hw (hP.sub [0, 1] rfl) (hD.sub [0, 1] (by decide) rfl) hS (lv_sub hl [0, 1] rfl)
      · have hw := hw.2 c_7
        refine lv_ldc2 (v := (32 : Int64)) hx hb hown (hts _ mX11_advance_4) dX11_advance_105 ?_
        refine lv_lload_n hx hb dX11_advance_108 rfl (lv_at hl 1 rfl) ?_
        refine lv_lmul hx hb dX11_advance_109 ?_
        refine lv_aload_n hx hb dX11_advance_110 rfl (lv_at hl 0 rfl) ?_
        refine lv_aload_n hx hb dX11_advance_111 rfl (lv_at hl 0 rfl) ?_
        refine va_get (D := (dC, dI)) (ci := 10) (v := .int f_next) (C := RX11) (T := TX11) (N := 20) hx hb hts uX11_advance_X11 hown hK hP 0 rfl rfl 3 (by decide) (hts _ mX11_advance_0) (fun _ h9 => h9) rfl dX11_advance_112 ?_
        have hPc := hP.sub (ws' := [(h, .inr (10, [.ref h_all, .ref h_has, .int f_size, .int f_next, .int f_where, .int f_token, .int f_number, .int f_sign, .int f_word, .int f_wrong, .int f_open, .int f_lines, .int f_acts, .ref h_line, .ref h_act, .ref h_pile, .ref h_comes, .ref h_leaves, .ref h_tried, .ref h_met])), (h_all, .inl (cI, 53700, .inl r_all))]) [0, 1] rfl
        have hDc := hD.sub (ws' := [(h, .inr (10, [.ref h_all, .ref h_has, .int f_size, .int f_next, .int f_where, .int f_token, .int f_number, .int f_sign, .int f_word, .int f_wrong, .int f_open, .int f_lines, .int f_acts, .ref h_line, .ref h_act, .ref h_pile, .ref h_comes, .ref h_leaves, .ref h_tried, .ref h_met])), (h_all, .inl (cI, 53700, .inl r_all))]) [0, 1] (by decide) rfl
        have hFc := va_free (wc := [(h, .inr (10, [.ref h_all, .ref h_has, .int f_size, .int f_next, .int f_where, .int f_token, .int f_number, .int f_sign, .int f_word, .int f_wrong, .int f_open, .int f_lines, .int f_acts, .ref h_line, .ref h_act, .ref h_pile, .ref h_comes, .ref h_leaves, .ref h_tried, .ref h_met])), (h_all, .inl (cI, 53700, .inl r_all))]) hD hS hA [0, 1] rfl
        refine va_calli (va_runV (As := [.int f_next]) (rest := [.long ((32 : Int64) * x2)]) ⟨hx, hb, hml, hown, hts⟩ (kX11_byteAt l dC dI cI cZ cO cW h h_all h_has h_line h_act h_pile h_comes h_leaves h_tried h_met H.size f_next f_where f_token f_number f_sign f_word f_wrong f_open f_lines f_acts f_size r_all f_next _ hw) (cwV 1 hts gX11_advance_X11_byteAt rfl rfl rfl (by decide +kernel) ⟨Nat.le_of_ble_eq_true rfl, Nat.le_of_ble_eq_true rfl⟩) (pv_of hPc hK hDc (va_recv hK hPc (ci := 10) (q0 := 0) rfl rfl)) rfl rfl hl.1 rfl (lv_room (Nat.le_of_ble_eq_true rfl)) dX11_advance_115 ⟨Nat.zero_le _, Nat.zero_le _⟩) hS (fun q _ h => hFc q h) hFc (fun r_8 u t H locs ht hvm hw hB hz1 hk1 hS => ?_)
        obtain ⟨hP, hD⟩ := af_join (wr := []) (w1 := [(h, .inr (10, [.ref h_all, .ref h_has, .int f_size, .int f_next, .int f_where, .int f_token, .int f_number, .int f_sign, .int f_word, .int f_wrong, .int f_open, .int f_lines, .int f_acts, .ref h_line, .ref h_act, .ref h_pile, .ref h_comes, .ref h_leaves, .ref h_tried, .ref h_met])), (h_all, .inl (cI, 53700, .inl r_all))]) hB ht hP hD [0, 1] [] rfl rfl (by decide) (by decide) hk1 hFc
        have hP : va_P (dC, dI) vwCl [(h, .inr (10, [.ref h_all, .ref h_has, .int f_size, .int f_next, .int f_where, .int f_token, .int f_number, .int f_sign, .int f_word, .int f_wrong, .int f_open, .int f_lines, .int f_acts, .ref h_line, .ref h_act, .ref h_pile, .ref h_comes, .ref h_leaves, .ref h_tried, .ref h_met])), (h_all, .inl (cI, 53700, .inl r_all))] _ := hP
        have hD : va_D A [(h, .inr (10, [.ref h_all, .ref h_has, .int f_size, .int f_next, .int f_where, .int f_token, .int f_number, .int f_sign, .int f_word, .int f_wrong, .int f_open, .int f_lines, .int f_acts, .ref h_line, .ref h_act, .ref h_pile, .ref h_comes, .ref h_leaves, .ref h_tried, .ref h_met])), (h_all, .inl (cI, 53700, .inl r_all))] := hD
        refine lv_i2l (v := r_8.toInt64) hx hb dX11_advance_118 rfl ?_
        refine lv_ladd hx hb dX11_advance_119 ?_
        refine lv_ldc2 (v := (96 : Int64)) hx hb hown (hts _ mX11_advance_5) dX11_advance_120 ?_
        refine lv_lsub hx hb dX11_advance_123 ?_
        refine lv_lstore_n (lv' := [(2, .long ((((32 : Int64) * x2) + r_8.toInt64) - (96 : Int64))), (0, .ref h)]) hx hb dX11_advance_124 rfl hl (by decide) rfl (fun ls hl => ?_)
        exact tX11_advance_125 hC hK hA ih ((((32 : Int64) * x2) + r_8.toInt64) - (96 : Int64)) f_size f_next f_where f_token f_number f_sign f_word r_all _ _ ls hw (hP.sub [0, 1] rfl) (hD.sub [0, 1] (by decide) rfl) hS (lv_sub hl [1, 0] rfl)
set_option maxHeartbeats 4000000 in
set_option maxRecDepth 100000 in
theorem tX11_advance_248 {p : Program} {l : Launch} {e : Env} {s : State} {m : MethodId} {args : Array Value} {below : List Frame} {meth : Method} {c : Code} {dC : Nat → ClassId} {dI : Nat → Nat → Nat} {cI cZ cO cW : ClassId} {A : Nat → Prop} {h h_all h_has h_line h_act h_pile h_comes h_leaves h_tried h_met : Nat} {f_wrong f_open f_lines f_acts : Int32} {Q : Int32 → Int32 → Int32 → Int32 → Int32 → Int32 → Prop} {K_198 : Int32 → Int32 → Int32 → Int32 → Int32 → Int32 → Int32 → (Nat → Int32) → Prop} (hC : Cx p s m args meth c cX11_advance none 4 wsX11_advance RX11) (hK : va_K (dC, dI) vwCl (tysA cI cZ cO cW) s) (hA : ∀ q : Nat, s.heap.size ≤ q → A q) (hk_198 : ∀ (f_size : Int32) (f_next : Int32) (f_where : Int32) (f_token : Int32) (f_number : Int32) (f_sign : Int32) (f_word : Int32) (r_all : (Nat → Int32)) (H : Heap) (locs : List Loc) (ls : Array Slot), K_198 f_size f_next f_where f_token f_number f_sign f_word r_all → va_P (dC, dI) vwCl (vX11_advance cI cZ h h_all h_has h_line h_act h_pile h_comes h_leaves h_tried h_met f_wrong f_open f_lines f_acts f_size f_next f_where f_token f_number f_sign f_word r_all) H → va_D A (vX11_advance cI cZ h h_all h_has h_line h_act h_pile h_comes h_leaves h_tried h_met f_wrong f_open f_lines f_acts f_size f_next f_where f_token f_number f_sign f_word r_all) → va_S A s.heap H locs → lv_has ls 4 [(0, .ref h)] → W p l e rmX11_advance s m args below meth c H locs 0 0 (MQ below (qX11_advance dC dI cI cZ cO cW h h_all h_has h_line h_act h_pile h_comes h_leaves h_tried h_met f_wrong f_open f_lines f_acts f_size r_all Q A) args s 0 0 A) (F0 m 198 ls [])) :
    ∀ (f_size : Int32) (f_next : Int32) (f_where : Int32) (f_token : Int32) (f_number : Int32) (f_sign : Int32) (f_word : Int32) (r_all : (Nat → Int32)) (H : Heap) (locs : List Loc) (ls : Array Slot), wX11_advance_248 Q K_198 f_size f_next f_where f_token f_number f_sign f_word r_all → va_P (dC, dI) vwCl (vX11_advance cI cZ h h_all h_has h_line h_act h_pile h_comes h_leaves h_tried h_met f_wrong f_open f_lines f_acts f_size f_next f_where f_token f_number f_sign f_word r_all) H → va_D A (vX11_advance cI cZ h h_all h_has h_line h_act h_pile h_comes h_leaves h_tried h_met f_wrong f_open f_lines f_acts f_size f_next f_where f_token f_number f_sign f_word r_all) → va_S A s.heap H locs → lv_has ls 4 [(0, .ref h)] → W p l e rmX11_advance s m args below meth c H locs 0 0 (MQ below (qX11_advance dC dI cI cZ cO cW h h_all h_has h_line h_act h_pile h_comes h_leaves h_tried h_met f_wrong f_open f_lines f_acts f_size r_all Q A) args s 0 0 A) (F0 m 248 ls []) := by
  obtain ⟨hx, hb, hr, hml, hown, hts, hlocks⟩ := id hC
  intro f_size f_next f_where f_token f_number f_sign f_word r_all H locs ls hw hP hD hS hl
  refine lv_aload_n hx hb dX11_advance_248 rfl (lv_at hl 0 rfl) ?_
  refine lv_dup hx hb dX11_advance_249 rfl ?_
  refine va_get (D := (dC, dI)) (ci := 10) (v := .int f_next) (C := RX11) (T := TX11) (N := 20) hx hb hts uX11_advance_X11 hown hK hP 0 rfl rfl 3 (by decide) (hts _ mX11_advance_0) (fun _ h9 => h9) rfl dX11_advance_250 ?_
  refine lv_iconst (v := (1 : Int32)) hx hb dX11_advance_253 (by decide) ?_
  refine lv_iadd hx hb dX11_advance_254 ?_
  refine va_put (D := (dC, dI)) (ci := 10) (v := .int (f_next + (1 : Int32))) (ty := .int) (C := RX11) (T := TX11) (N := 20) hx hb hts uX11_advance_X11 tyX11 tyX11_ok nmX11 hown hK hP hD hS 0 rfl rfl 3 (by decide) (hts _ mX11_advance_0) (fun _ h9 => h9) rfl (tyX11_ok 3 (by decide)) rfl rfl (Nat.le_of_ble_eq_true rfl) dX11_advance_255 (fun H locs hP hD hS => ?_)
  have hP : va_P (dC, dI) vwCl [(h, .inr (10, [.ref h_all, .ref h_has, .int f_size, .int (f_next + (1 : Int32)), .int f_where, .int f_token, .int f_number, .int f_sign, .int f_word, .int f_wrong, .int f_open, .int f_lines, .int f_acts, .ref h_line, .ref h_act, .ref h_pile, .ref h_comes, .ref h_leaves, .ref h_tried, .ref h_met])), (h_all, .inl (cI, 53700, .inl r_all))] _ := hP
  have hD : va_D A [(h, .inr (10, [.ref h_all, .ref h_has, .int f_size, .int (f_next + (1 : Int32)), .int f_where, .int f_token, .int f_number, .int f_sign, .int f_word, .int f_wrong, .int f_open, .int f_lines, .int f_acts, .ref h_line, .ref h_act, .ref h_pile, .ref h_comes, .ref h_leaves, .ref h_tried, .ref h_met])), (h_all, .inl (cI, 53700, .inl r_all))] := hD
  refine lv_goto (tgt := 198) hx hb dX11_advance_258 (by decide) ?_
  exact hk_198 f_size (f_next + (1 : Int32)) f_where f_token f_number f_sign f_word r_all _ _ ls hw (hP.sub [0, 1] rfl) (hD.sub [0, 1] (by decide) rfl) hS (lv_sub hl [0] rfl)
set_option maxHeartbeats 4000000 in
set_option maxRecDepth 100000 in
theorem tX11_advance_280 {p : Program} {l : Launch} {e : Env} {s : State} {m : MethodId} {args : Array Value} {below : List Frame} {meth : Method} {c : Code} {dC : Nat → ClassId} {dI : Nat → Nat → Nat} {cI cZ cO cW : ClassId} {A : Nat → Prop} {h h_all h_has h_line h_act h_pile h_comes h_leaves h_tried h_met : Nat} {f_wrong f_open f_lines f_acts : Int32} {Q : Int32 → Int32 → Int32 → Int32 → Int32 → Int32 → Prop}  (hC : Cx p s m args meth c cX11_advance none 4 wsX11_advance RX11) (hK : va_K (dC, dI) vwCl (tysA cI cZ cO cW) s) (hA : ∀ q : Nat, s.heap.size ≤ q → A q) :
    ∀ (s1 : Int32) (f_size : Int32) (f_next : Int32) (f_where : Int32) (f_token : Int32) (f_number : Int32) (f_sign : Int32) (f_word : Int32) (r_all : (Nat → Int32)) (H : Heap) (locs : List Loc) (ls : Array Slot), wX11_advance_280 Q  s1 f_size f_next f_where f_token f_number f_sign f_word r_all → va_P (dC, dI) vwCl (vX11_advance cI cZ h h_all h_has h_line h_act h_pile h_comes h_leaves h_tried h_met f_wrong f_open f_lines f_acts f_size f_next f_where f_token f_number f_sign f_word r_all) H → va_D A (vX11_advance cI cZ h h_all h_has h_line h_act h_pile h_comes h_leaves h_tried h_met f_wrong f_open f_lines f_acts f_size f_next f_where f_token f_number f_sign f_word r_all) → va_S A s.heap H locs → lv_has ls 4 [] → W p l e rmX11_advance s m args below meth c H locs 0 0 (MQ below (qX11_advance dC dI cI cZ cO cW h h_all h_has h_line h_act h_pile h_comes h_leaves h_tried h_met f_wrong f_open f_lines f_acts f_size r_all Q A) args s 0 0 A) (F0 m 280 ls [.int s1, .ref h]) := by
  obtain ⟨hx, hb, hr, hml, hown, hts, hlocks⟩ := id hC
  intro s1 f_size f_next f_where f_token f_number f_sign f_word r_all H locs ls hw hP hD hS hl
  refine va_put (D := (dC, dI)) (ci := 10) (v := .int s1) (ty := .int) (C := RX11) (T := TX11) (N := 20) hx hb hts uX11_advance_X11 tyX11 tyX11_ok nmX11 hown hK hP hD hS 0 rfl rfl 5 (by decide) (hts _ mX11_advance_1) (fun _ h9 => h9) rfl (tyX11_ok 5 (by decide)) rfl rfl (Nat.le_of_ble_eq_true rfl) dX11_advance_280 (fun H locs hP hD hS => ?_)
  have hP : va_P (dC, dI) vwCl [(h, .inr (10, [.ref h_all, .ref h_has, .int f_size, .int f_next, .int f_where, .int s1, .int f_number, .int f_sign, .int f_word, .int f_wrong, .int f_open, .int f_lines, .int f_acts, .ref h_line, .ref h_act, .ref h_pile, .ref h_comes, .ref h_leaves, .ref h_tried, .ref h_met])), (h_all, .inl (cI, 53700, .inl r_all))] _ := hP
  have hD : va_D A [(h, .inr (10, [.ref h_all, .ref h_has, .int f_size, .int f_next, .int f_where, .int s1, .int f_number, .int f_sign, .int f_word, .int f_wrong, .int f_open, .int f_lines, .int f_acts, .ref h_line, .ref h_act, .ref h_pile, .ref h_comes, .ref h_leaves, .ref h_tried, .ref h_met])), (h_all, .inl (cI, 53700, .inl r_all))] := hD
  refine lv_goto (tgt := 317) hx hb dX11_advance_283 (by decide) ?_
  have hP9 := hP.sub (ws' := (vX11_advance cI cZ h h_all h_has h_line h_act h_pile h_comes h_leaves h_tried h_met f_wrong f_open f_lines f_acts f_size f_next f_where s1 f_number f_sign f_word r_all)) [0, 1] rfl
  have hD9 := hD.sub (ws' := (vX11_advance cI cZ h h_all h_has h_line h_act h_pile h_comes h_leaves h_tried h_met f_wrong f_open f_lines f_acts f_size f_next f_where s1 f_number f_sign f_word r_all)) [0, 1] (by decide) rfl
  exact W.vret hx hb hr (fun t ht hW => ⟨⟨(f_next, f_where, s1, f_number, f_sign, f_word), rfl, hw, by rw [ht]; exact hP9, va_K.moved hW.alike hK, hD9⟩, hS.F ht⟩) hS.2.2 dX11_advance_317
set_option maxHeartbeats 4000000 in
set_option maxRecDepth 100000 in
theorem tX11_advance_198 {p : Program} {l : Launch} {e : Env} {s : State} {m : MethodId} {args : Array Value} {below : List Frame} {meth : Method} {c : Code} {dC : Nat → ClassId} {dI : Nat → Nat → Nat} {cI cZ cO cW : ClassId} {A : Nat → Prop} {h h_all h_has h_line h_act h_pile h_comes h_leaves h_tried h_met : Nat} {f_wrong f_open f_lines f_acts : Int32} {Q : Int32 → Int32 → Int32 → Int32 → Int32 → Int32 → Prop}  (hC : Cx p s m args meth c cX11_advance none 4 wsX11_advance RX11) (hK : va_K (dC, dI) vwCl (tysA cI cZ cO cW) s) (hA : ∀ q : Nat, s.heap.size ≤ q → A q) :
    ∀ (n : Nat) (f_size : Int32) (f_next : Int32) (f_where : Int32) (f_token : Int32) (f_number : Int32) (f_sign : Int32) (f_word : Int32) (r_all : (Nat → Int32)) (H : Heap) (locs : List Loc) (ls : Array Slot), wX11_advance_198 Q  n f_size f_next f_where f_token f_number f_sign f_word r_all → va_P (dC, dI) vwCl (vX11_advance cI cZ h h_all h_has h_line h_act h_pile h_comes h_leaves h_tried h_met f_wrong f_open f_lines f_acts f_size f_next f_where f_token f_number f_sign f_word r_all) H → va_D A (vX11_advance cI cZ h h_all h_has h_line h_act h_pile h_comes h_leaves h_tried h_met f_wrong f_open f_lines f_acts f_size f_next f_where f_token f_number f_sign f_word r_all) → va_S A s.heap H locs → lv_has ls 4 [(0, .ref h)] → W p l e rmX11_advance s m args below meth c H locs 0 0 (MQ below (qX11_advance dC dI cI cZ cO cW h h_all h_has h_line h_act h_pile h_comes h_leaves h_tried h_met f_wrong f_open f_lines f_acts f_size r_all Q A) args s 0 0 A) (F0 m 198 ls []) := by
  obtain ⟨hx, hb, hr, hml, hown, hts, hlocks⟩ := id hC
  intro n
  induction n with
  | zero =>
    intro f_size f_next f_where f_token f_number f_sign f_word r_all H locs ls hw
    exact hw.elim
  | succ n ih =>
    intro f_size f_next f_where f_token f_number f_sign f_word r_all H locs ls hw hP hD hS hl
    refine lv_aload_n hx hb dX11_advance_198 rfl (lv_at hl 0 rfl) ?_
    refine lv_aload_n hx hb dX11_advance_199 rfl (lv_at hl 0 rfl) ?_
    refine va_get (D := (dC, dI)) (ci := 10) (v := .int f_next) (C := RX11) (T := TX11) (N := 20) hx hb hts uX11_advance_X11 hown hK hP 0 rfl rfl 3 (by decide) (hts _ mX11_advance_0) (fun _ h9 => h9) rfl dX11_advance_200 ?_
    have hPc := hP.sub (ws' := [(h, .inr (10, [.ref h_all, .ref h_has, .int f_size, .int f_next, .int f_where, .int f_token, .int f_number, .int f_sign, .int f_word, .int f_wrong, .int f_open, .int f_lines, .int f_acts, .ref h_line, .ref h_act, .ref h_pile, .ref h_comes, .ref h_leaves, .ref h_tried, .ref h_met])), (h_all, .inl (cI, 53700, .inl r_all))]) [0, 1] rfl
    have hDc := hD.sub (ws' := [(h, .inr (10, [.ref h_all, .ref h_has, .int f_size, .int f_next, .int f_where, .int f_token, .int f_number, .int f_sign, .int f_word, .int f_wrong, .int f_open, .int f_lines, .int f_acts, .ref h_line, .ref h_act, .ref h_pile, .ref h_comes, .ref h_leaves, .ref h_tried, .ref h_met])), (h_all, .inl (cI, 53700, .inl r_all))]) [0, 1] (by decide) rfl
    have hFc := va_free (wc := [(h, .inr (10, [.ref h_all, .ref h_has, .int f_size, .int f_next, .int f_where, .int f_token, .int f_number, .int f_sign, .int f_word, .int f_wrong, .int f_open, .int f_lines, .int f_acts, .ref h_line, .ref h_act, .ref h_pile, .ref h_comes, .ref h_leaves, .ref h_tried, .ref h_met])), (h_all, .inl (cI, 53700, .inl r_all))]) hD hS hA [0, 1] rfl
    refine va_calli (va_runV (As := [.int f_next]) (rest := []) ⟨hx, hb, hml, hown, hts⟩ (kX11_byteAt l dC dI cI cZ cO cW h h_all h_has h_line h_act h_pile h_comes h_leaves h_tried h_met H.size f_next f_where f_token f_number f_sign f_word f_wrong f_open f_lines f_acts f_size r_all f_next _ hw) (cwV 1 hts gX11_advance_X11_byteAt rfl rfl rfl (by decide +kernel) ⟨Nat.le_of_ble_eq_true rfl, Nat.le_of_ble_eq_true rfl⟩) (pv_of hPc hK hDc (va_recv hK hPc (ci := 10) (q0 := 0) rfl rfl)) rfl rfl hl.1 rfl (lv_room (Nat.le_of_ble_eq_true rfl)) dX11_advance_203 ⟨Nat.zero_le _, Nat.zero_le _⟩) hS (fun q _ h => hFc q h) hFc (fun r_9 u t H locs ht hvm hw hB hz1 hk1 hS => ?_)
    obtain ⟨hP, hD⟩ := af_join (wr := []) (w1 := [(h, .inr (10, [.ref h_all, .ref h_has, .int f_size, .int f_next, .int f_where, .int f_token, .int f_number, .int f_sign, .int f_word, .int f_wrong, .int f_open, .int f_lines, .int f_acts, .ref h_line, .ref h_act, .ref h_pile, .ref h_comes, .ref h_leaves, .ref h_tried, .ref h_met])), (h_all, .inl (cI, 53700, .inl r_all))]) hB ht hP hD [0, 1] [] rfl rfl (by decide) (by decide) hk1 hFc
    have hP : va_P (dC, dI) vwCl [(h, .inr (10, [.ref h_all, .ref h_has, .int f_size, .int f_next, .int f_where, .int f_token, .int f_number, .int f_sign, .int f_word, .int f_wrong, .int f_open, .int f_lines, .int f_acts, .ref h_line, .ref h_act, .ref h_pile, .ref h_comes, .ref h_leaves, .ref h_tried, .ref h_met])), (h_all, .inl (cI, 53700, .inl r_all))] _ := hP
    have hD : va_D A [(h, .inr (10, [.ref h_all, .ref h_has, .int f_size, .int f_next, .int f_where, .int f_token, .int f_number, .int f_sign, .int f_word, .int f_wrong, .int f_open, .int f_lines, .int f_acts, .ref h_line, .ref h_act, .ref h_pile, .ref h_comes, .ref h_leaves, .ref h_tried, .ref h_met])), (h_all, .inl (cI, 53700, .inl r_all))] := hD
    have hPc := hP.sub (ws' := []) [] rfl
    have hDc := hD.sub (ws' := []) [] (by decide) rfl
    have hFc := va_free (wc := []) hD hS hA [] rfl
    refine va_calli (va_runS (As := [.int r_9]) (rest := []) ⟨hx, hb, hml, hown, hts⟩ (kX11_isDigit l dC dI cI cZ cO cW H.size r_9 _ hw) (va_cwS 1 hts gX11_advance_X11_isDigit rfl rfl rfl (by decide +kernel) ⟨Nat.le_of_ble_eq_true rfl, Nat.le_of_ble_eq_true rfl⟩) (ps_of hPc hK hDc) rfl rfl hl.1 rfl (lv_room (Nat.le_of_ble_eq_true rfl)) dX11_advance_206 ⟨Nat.zero_le _, Nat.zero_le _⟩) hS (fun q _ h => hFc q h) hFc (fun r_10 u t H locs ht hvm hw hB hz1 hk1 hS => ?_)
    obtain ⟨hP, hD⟩ := af_join (wr := [(h, .inr (10, [.ref h_all, .ref h_has, .int f_size, .int f_next, .int f_where, .int f_token, .int f_number, .int f_sign, .int f_word, .int f_wrong, .int f_open, .int f_lines, .int f_acts, .ref h_line, .ref h_act, .ref h_pile, .ref h_comes, .ref h_leaves, .ref h_tried, .ref h_met])), (h_all, .inl (cI, 53700, .inl r_all))]) (w1 := []) hB ht hP hD [] [0, 1] rfl rfl (by decide) (by decide) hk1 hFc
    have hP : va_P (dC, dI) vwCl [(h, .inr (10, [.ref h_all, .ref h_has, .int f_size, .int f_next, .int f_where, .int f_token, .int f_number, .int f_sign, .int f_word, .int f_wrong, .int f_open, .int f_lines, .int f_acts, .ref h_line, .ref h_act, .ref h_pile, .ref h_comes, .ref h_leaves, .ref h_tried, .ref h_met])), (h_all, .inl (cI, 53700, .inl r_all))] _ := hP
    have hD : va_D A [(h, .inr (10, [.ref h_all, .ref h_has, .int f_size, .int f_next, .int f_where, .int f_token, .int f_number, .int f_sign, .int f_word, .int f_wrong, .int f_open, .int f_lines, .int f_acts, .ref h_line, .ref h_act, .ref h_pile, .ref h_comes, .ref h_leaves, .ref h_tried, .ref h_met])), (h_all, .inl (cI, 53700, .inl r_all))] := hD
    refine lv_if_eq (tgt := 261) hx hb dX11_advance_209 (by decide) (fun c_11 => ?_) (fun c_11 => ?_)
    · have hw := hw.1 c_11
      refine lv_aload_n hx hb dX11_advance_261 rfl (lv_at hl 0 rfl) ?_
      refine lv_aload_n hx hb dX11_advance_262 rfl (lv_at hl 0 rfl) ?_
      refine va_get (D := (dC, dI)) (ci := 10) (v := .int f_next) (C := RX11) (T := TX11) (N := 20) hx hb hts uX11_advance_X11 hown hK hP 0 rfl rfl 3 (by decide) (hts _ mX11_advance_0) (fun _ h9 => h9) rfl dX11_advance_263 ?_
      refine lv_aload_n hx hb dX11_advance_266 rfl (lv_at hl 0 rfl) ?_
      refine va_get (D := (dC, dI)) (ci := 10) (v := .int f_where) (C := RX11) (T := TX11) (N := 20) hx hb hts uX11_advance_X11 hown hK hP 0 rfl rfl 4 (by decide) (hts _ mX11_advance_3) (fun _ h9 => h9) rfl dX11_advance_267 ?_
      refine lv_isub hx hb dX11_advance_270 ?_
      refine lv_iconst (v := (4 : Int32)) hx hb dX11_advance_271 (by decide) ?_
      refine lv_icmp_le (tgt := 279) hx hb dX11_advance_272 (by decide) (fun c_12 => ?_) (fun c_12 => ?_)
      · have hw := hw.1 c_12
        refine lv_iconst (v := (1 : Int32)) hx hb dX11_advance_279 (by decide) ?_
        exact tX11_advance_280 hC hK hA  (1 : Int32) f_size f_next f_where f_token f_number f_sign f_word r_all _ _ ls hw (hP.sub [0, 1] rfl) (hD.sub [0, 1] (by decide) rfl) hS (lv_sub hl [] rfl)
      · have hw := hw.2 c_12
        refine lv_iconst (v := (4 : Int32)) hx hb dX11_advance_275 (by decide) ?_
        refine lv_goto (tgt := 280) hx hb dX11_advance_276 (by decide) ?_
        exact tX11_advance_280 hC hK hA  (4 : Int32) f_size f_next f_where f_token f_number f_sign f_word r_all _ _ ls hw (hP.sub [0, 1] rfl) (hD.sub [0, 1] (by decide) rfl) hS (lv_sub hl [] rfl)
    · have hw := hw.2 c_11
      refine lv_aload_n hx hb dX11_advance_212 rfl (lv_at hl 0 rfl) ?_
      refine va_get (D := (dC, dI)) (ci := 10) (v := .int f_next) (C := RX11) (T := TX11) (N := 20) hx hb hts uX11_advance_X11 hown hK hP 0 rfl rfl 3 (by decide) (hts _ mX11_advance_0) (fun _ h9 => h9) rfl dX11_advance_213 ?_
      refine lv_aload_n hx hb dX11_advance_216 rfl (lv_at hl 0 rfl) ?_
      refine va_get (D := (dC, dI)) (ci := 10) (v := .int f_where) (C := RX11) (T := TX11) (N := 20) hx hb hts uX11_advance_X11 hown hK hP 0 rfl rfl 4 (by decide) (hts _ mX11_advance_3) (fun _ h9 => h9) rfl dX11_advance_217 ?_
      refine lv_isub hx hb dX11_advance_220 ?_
      refine lv_iconst (v := (4 : Int32)) hx hb dX11_advance_221 (by decide) ?_
      refine lv_icmp_ge (tgt := 248) hx hb dX11_advance_222 (by decide) (fun c_13 => ?_) (fun c_13 => ?_)
      · have hw := hw.1 c_13
        exact tX11_advance_248 hC hK hA ih f_size f_next f_where f_token f_number f_sign f_word r_all _ _ ls hw (hP.sub [0, 1] rfl) (hD.sub [0, 1] (by decide) rfl) hS (lv_sub hl [0] rfl)
      · have hw := hw.2 c_13
        refine lv_aload_n hx hb dX11_advance_225 rfl (lv_at hl 0 rfl) ?_
        refine lv_bipush (v := (10 : Int32)) hx hb dX11_advance_226 (by decide) ?_
        refine lv_aload_n hx hb dX11_advance_228 rfl (lv_at hl 0 rfl) ?_
        refine va_get (D := (dC, dI)) (ci := 10) (v := .int f_number) (C := RX11) (T := TX11) (N := 20) hx hb hts uX11_advance_X11 hown hK hP 0 rfl rfl 6 (by decide) (hts _ mX11_advance_6) (fun _ h9 => h9) rfl dX11_advance_229 ?_
        refine lv_imul hx hb dX11_advance_232 ?_
        refine lv_aload_n hx hb dX11_advance_233 rfl (lv_at hl 0 rfl) ?_
        refine lv_aload_n hx hb dX11_advance_234 rfl (lv_at hl 0 rfl) ?_
        refine va_get (D := (dC, dI)) (ci := 10) (v := .int f_next) (C := RX11) (T := TX11) (N := 20) hx hb hts uX11_advance_X11 hown hK hP 0 rfl rfl 3 (by decide) (hts _ mX11_advance_0) (fun _ h9 => h9) rfl dX11_advance_235 ?_
        have hPc := hP.sub (ws' := [(h, .inr (10, [.ref h_all, .ref h_has, .int f_size, .int f_next, .int f_where, .int f_token, .int f_number, .int f_sign, .int f_word, .int f_wrong, .int f_open, .int f_lines, .int f_acts, .ref h_line, .ref h_act, .ref h_pile, .ref h_comes, .ref h_leaves, .ref h_tried, .ref h_met])), (h_all, .inl (cI, 53700, .inl r_all))]) [0, 1] rfl
        have hDc := hD.sub (ws' := [(h, .inr (10, [.ref h_all, .ref h_has, .int f_size, .int f_next, .int f_where, .int f_token, .int f_number, .int f_sign, .int f_word, .int f_wrong, .int f_open, .int f_lines, .int f_acts, .ref h_line, .ref h_act, .ref h_pile, .ref h_comes, .ref h_leaves, .ref h_tried, .ref h_met])), (h_all, .inl (cI, 53700, .inl r_all))]) [0, 1] (by decide) rfl
        have hFc := va_free (wc := [(h, .inr (10, [.ref h_all, .ref h_has, .int f_size, .int f_next, .int f_where, .int f_token, .int f_number, .int f_sign, .int f_word, .int f_wrong, .int f_open, .int f_lines, .int f_acts, .ref h_line, .ref h_act, .ref h_pile, .ref h_comes, .ref h_leaves, .ref h_tried, .ref h_met])), (h_all, .inl (cI, 53700, .inl r_all))]) hD hS hA [0, 1] rfl
        refine va_calli (va_runV (As := [.int f_next]) (rest := [.int ((10 : Int32) * f_number), .ref h]) ⟨hx, hb, hml, hown, hts⟩ (kX11_byteAt l dC dI cI cZ cO cW h h_all h_has h_line h_act h_pile h_comes h_leaves h_tried h_met H.size f_next f_where f_token f_number f_sign f_word f_wrong f_open f_lines f_acts f_size r_all f_next _ hw) (cwV 1 hts gX11_advance_X11_byteAt rfl rfl rfl (by decide +kernel) ⟨Nat.le_of_ble_eq_true rfl, Nat.le_of_ble_eq_true rfl⟩) (pv_of hPc hK hDc (va_recv hK hPc (ci := 10) (q0 := 0) rfl rfl)) rfl rfl hl.1 rfl (lv_room (Nat.le_of_ble_eq_true rfl)) dX11_advance_238 ⟨Nat.zero_le _, Nat.zero_le _⟩) hS (fun q _ h => hFc q h) hFc (fun r_14 u t H locs ht hvm hw hB hz1 hk1 hS => ?_)
        obtain ⟨hP, hD⟩ := af_join (wr := []) (w1 := [(h, .inr (10, [.ref h_all, .ref h_has, .int f_size, .int f_next, .int f_where, .int f_token, .int f_number, .int f_sign, .int f_word, .int f_wrong, .int f_open, .int f_lines, .int f_acts, .ref h_line, .ref h_act, .ref h_pile, .ref h_comes, .ref h_leaves, .ref h_tried, .ref h_met])), (h_all, .inl (cI, 53700, .inl r_all))]) hB ht hP hD [0, 1] [] rfl rfl (by decide) (by decide) hk1 hFc
        have hP : va_P (dC, dI) vwCl [(h, .inr (10, [.ref h_all, .ref h_has, .int f_size, .int f_next, .int f_where, .int f_token, .int f_number, .int f_sign, .int f_word, .int f_wrong, .int f_open, .int f_lines, .int f_acts, .ref h_line, .ref h_act, .ref h_pile, .ref h_comes, .ref h_leaves, .ref h_tried, .ref h_met])), (h_all, .inl (cI, 53700, .inl r_all))] _ := hP
        have hD : va_D A [(h, .inr (10, [.ref h_all, .ref h_has, .int f_size, .int f_next, .int f_where, .int f_token, .int f_number, .int f_sign, .int f_word, .int f_wrong, .int f_open, .int f_lines, .int f_acts, .ref h_line, .ref h_act, .ref h_pile, .ref h_comes, .ref h_leaves, .ref h_tried, .ref h_met])), (h_all, .inl (cI, 53700, .inl r_all))] := hD
        refine lv_iadd hx hb dX11_advance_241 ?_
        refine lv_bipush (v := (48 : Int32)) hx hb dX11_advance_242 (by decide) ?_
        refine lv_isub hx hb dX11_advance_244 ?_
        refine va_put (D := (dC, dI)) (ci := 10) (v := .int ((((10 : Int32) * f_number) + r_14) - (48 : Int32))) (ty := .int) (C := RX11) (T := TX11) (N := 20) hx hb hts uX11_advance_X11 tyX11 tyX11_ok nmX11 hown hK hP hD hS 0 rfl rfl 6 (by decide) (hts _ mX11_advance_6) (fun _ h9 => h9) rfl (tyX11_ok 6 (by decide)) rfl rfl (Nat.le_of_ble_eq_true rfl) dX11_advance_245 (fun H locs hP hD hS => ?_)
        have hP : va_P (dC, dI) vwCl [(h, .inr (10, [.ref h_all, .ref h_has, .int f_size, .int f_next, .int f_where, .int f_token, .int ((((10 : Int32) * f_number) + r_14) - (48 : Int32)), .int f_sign, .int f_word, .int f_wrong, .int f_open, .int f_lines, .int f_acts, .ref h_line, .ref h_act, .ref h_pile, .ref h_comes, .ref h_leaves, .ref h_tried, .ref h_met])), (h_all, .inl (cI, 53700, .inl r_all))] _ := hP
        have hD : va_D A [(h, .inr (10, [.ref h_all, .ref h_has, .int f_size, .int f_next, .int f_where, .int f_token, .int ((((10 : Int32) * f_number) + r_14) - (48 : Int32)), .int f_sign, .int f_word, .int f_wrong, .int f_open, .int f_lines, .int f_acts, .ref h_line, .ref h_act, .ref h_pile, .ref h_comes, .ref h_leaves, .ref h_tried, .ref h_met])), (h_all, .inl (cI, 53700, .inl r_all))] := hD
        exact tX11_advance_248 hC hK hA ih f_size f_next f_where f_token ((((10 : Int32) * f_number) + r_14) - (48 : Int32)) f_sign f_word r_all _ _ ls hw (hP.sub [0, 1] rfl) (hD.sub [0, 1] (by decide) rfl) hS (lv_sub hl [0] rfl)
set_option maxHeartbeats 4000000 in
set_option maxRecDepth 100000 in
theorem tX11_advance_314 {p : Program} {l : Launch} {e : Env} {s : State} {m : MethodId} {args : Array Value} {below : List Frame} {meth : Method} {c : Code} {dC : Nat → ClassId} {dI : Nat → Nat → Nat} {cI cZ cO cW : ClassId} {A : Nat → Prop} {h h_all h_has h_line h_act h_pile h_comes h_leaves h_tried h_met : Nat} {f_wrong f_open f_lines f_acts : Int32} {Q : Int32 → Int32 → Int32 → Int32 → Int32 → Int32 → Prop}  (hC : Cx p s m args meth c cX11_advance none 4 wsX11_advance RX11) (hK : va_K (dC, dI) vwCl (tysA cI cZ cO cW) s) (hA : ∀ q : Nat, s.heap.size ≤ q → A q) :
    ∀ (s1 : Int32) (f_size : Int32) (f_next : Int32) (f_where : Int32) (f_token : Int32) (f_number : Int32) (f_sign : Int32) (f_word : Int32) (r_all : (Nat → Int32)) (H : Heap) (locs : List Loc) (ls : Array Slot), wX11_advance_314 Q  s1 f_size f_next f_where f_token f_number f_sign f_word r_all → va_P (dC, dI) vwCl (vX11_advance cI cZ h h_all h_has h_line h_act h_pile h_comes h_leaves h_tried h_met f_wrong f_open f_lines f_acts f_size f_next f_where f_token f_number f_sign f_word r_all) H → va_D A (vX11_advance cI cZ h h_all h_has h_line h_act h_pile h_comes h_leaves h_tried h_met f_wrong f_open f_lines f_acts f_size f_next f_where f_token f_number f_sign f_word r_all) → va_S A s.heap H locs → lv_has ls 4 [] → W p l e rmX11_advance s m args below meth c H locs 0 0 (MQ below (qX11_advance dC dI cI cZ cO cW h h_all h_has h_line h_act h_pile h_comes h_leaves h_tried h_met f_wrong f_open f_lines f_acts f_size r_all Q A) args s 0 0 A) (F0 m 314 ls [.int s1, .ref h]) := by
  obtain ⟨hx, hb, hr, hml, hown, hts, hlocks⟩ := id hC
  intro s1 f_size f_next f_where f_token f_number f_sign f_word r_all H locs ls hw hP hD hS hl
  refine va_put (D := (dC, dI)) (ci := 10) (v := .int s1) (ty := .int) (C := RX11) (T := TX11) (N := 20) hx hb hts uX11_advance_X11 tyX11 tyX11_ok nmX11 hown hK hP hD hS 0 rfl rfl 5 (by decide) (hts _ mX11_advance_1) (fun _ h9 => h9) rfl (tyX11_ok 5 (by decide)) rfl rfl (Nat.le_of_ble_eq_true rfl) dX11_advance_314 (fun H locs hP hD hS => ?_)
  have hP : va_P (dC, dI) vwCl [(h, .inr (10, [.ref h_all, .ref h_has, .int f_size, .int f_next, .int f_where, .int s1, .int f_number, .int f_sign, .int f_word, .int f_wrong, .int f_open, .int f_lines, .int f_acts, .ref h_line, .ref h_act, .ref h_pile, .ref h_comes, .ref h_leaves, .ref h_tried, .ref h_met])), (h_all, .inl (cI, 53700, .inl r_all))] _ := hP
  have hD : va_D A [(h, .inr (10, [.ref h_all, .ref h_has, .int f_size, .int f_next, .int f_where, .int s1, .int f_number, .int f_sign, .int f_word, .int f_wrong, .int f_open, .int f_lines, .int f_acts, .ref h_line, .ref h_act, .ref h_pile, .ref h_comes, .ref h_leaves, .ref h_tried, .ref h_met])), (h_all, .inl (cI, 53700, .inl r_all))] := hD
  have hP9 := hP.sub (ws' := (vX11_advance cI cZ h h_all h_has h_line h_act h_pile h_comes h_leaves h_tried h_met f_wrong f_open f_lines f_acts f_size f_next f_where s1 f_number f_sign f_word r_all)) [0, 1] rfl
  have hD9 := hD.sub (ws' := (vX11_advance cI cZ h h_all h_has h_line h_act h_pile h_comes h_leaves h_tried h_met f_wrong f_open f_lines f_acts f_size f_next f_where s1 f_number f_sign f_word r_all)) [0, 1] (by decide) rfl
  exact W.vret hx hb hr (fun t ht hW => ⟨⟨(f_next, f_where, s1, f_number, f_sign, f_word), rfl, hw, by rw [ht]; exact hP9, va_K.moved hW.alike hK, hD9⟩, hS.F ht⟩) hS.2.2 dX11_advance_317
set_option maxHeartbeats 4000000 in
set_option maxRecDepth 100000 in
theorem tX11_advance_0 {p : Program} {l : Launch} {e : Env} {s : State} {m : MethodId} {args : Array Value} {below : List Frame} {meth : Method} {c : Code} {dC : Nat → ClassId} {dI : Nat → Nat → Nat} {cI cZ cO cW : ClassId} {A : Nat → Prop} {h h_all h_has h_line h_act h_pile h_comes h_leaves h_tried h_met : Nat} {f_wrong f_open f_lines f_acts : Int32} {Q : Int32 → Int32 → Int32 → Int32 → Int32 → Int32 → Prop}  (hC : Cx p s m args meth c cX11_advance none 4 wsX11_advance RX11) (hK : va_K (dC, dI) vwCl (tysA cI cZ cO cW) s) (hA : ∀ q : Nat, s.heap.size ≤ q → A q) :
    ∀ (n : Nat) (f_size : Int32) (f_next : Int32) (f_where : Int32) (f_token : Int32) (f_number : Int32) (f_sign : Int32) (f_word : Int32) (r_all : (Nat → Int32)) (H : Heap) (locs : List Loc) (ls : Array Slot), wX11_advance_0 Q  n f_size f_next f_where f_token f_number f_sign f_word r_all → va_P (dC, dI) vwCl (vX11_advance cI cZ h h_all h_has h_line h_act h_pile h_comes h_leaves h_tried h_met f_wrong f_open f_lines f_acts f_size f_next f_where f_token f_number f_sign f_word r_all) H → va_D A (vX11_advance cI cZ h h_all h_has h_line h_act h_pile h_comes h_leaves h_tried h_met f_wrong f_open f_lines f_acts f_size f_next f_where f_token f_number f_sign f_word r_all) → va_S A s.heap H locs → lv_has ls 4 [(0, .ref h)] → W p l e rmX11_advance s m args below meth c H locs 0 0 (MQ below (qX11_advance dC dI cI cZ cO cW h h_all h_has h_line h_act h_pile h_comes h_leaves h_tried h_met f_wrong f_open f_lines f_acts f_size r_all Q A) args s 0 0 A) (F0 m 0 ls []) := by
  obtain ⟨hx, hb, hr, hml, hown, hts, hlocks⟩ := id hC
  intro n
  induction n with
  | zero =>
    intro f_size f_next f_where f_token f_number f_sign f_word r_all H locs ls hw
    exact hw.elim
  | succ n ih =>
    intro f_size f_next f_where f_token f_number f_sign f_word r_all H locs ls hw hP hD hS hl
    refine lv_aload_n hx hb dX11_advance_0 rfl (lv_at hl 0 rfl) ?_
    refine lv_aload_n hx hb dX11_advance_1 rfl (lv_at hl 0 rfl) ?_
    refine va_get (D := (dC, dI)) (ci := 10) (v := .int f_next) (C := RX11) (T := TX11) (N := 20) hx hb hts uX11_advance_X11 hown hK hP 0 rfl rfl 3 (by decide) (hts _ mX11_advance_0) (fun _ h9 => h9) rfl dX11_advance_2 ?_
    have hPc := hP.sub (ws' := [(h, .inr (10, [.ref h_all, .ref h_has, .int f_size, .int f_next, .int f_where, .int f_token, .int f_number, .int f_sign, .int f_word, .int f_wrong, .int f_open, .int f_lines, .int f_acts, .ref h_line, .ref h_act, .ref h_pile, .ref h_comes, .ref h_leaves, .ref h_tried, .ref h_met])), (h_all, .inl (cI, 53700, .inl r_all))]) [0, 1] rfl
    have hDc := hD.sub (ws' := [(h, .inr (10, [.ref h_all, .ref h_has, .int f_size, .int f_next, .int f_where, .int f_token, .int f_number, .int f_sign, .int f_word, .int f_wrong, .int f_open, .int f_lines, .int f_acts, .ref h_line, .ref h_act, .ref h_pile, .ref h_comes, .ref h_leaves, .ref h_tried, .ref h_met])), (h_all, .inl (cI, 53700, .inl r_all))]) [0, 1] (by decide) rfl
    have hFc := va_free (wc := [(h, .inr (10, [.ref h_all, .ref h_has, .int f_size, .int f_next, .int f_where, .int f_token, .int f_number, .int f_sign, .int f_word, .int f_wrong, .int f_open, .int f_lines, .int f_acts, .ref h_line, .ref h_act, .ref h_pile, .ref h_comes, .ref h_leaves, .ref h_tried, .ref h_met])), (h_all, .inl (cI, 53700, .inl r_all))]) hD hS hA [0, 1] rfl
    refine va_calli (va_runV (As := [.int f_next]) (rest := []) ⟨hx, hb, hml, hown, hts⟩ (kX11_byteAt l dC dI cI cZ cO cW h h_all h_has h_line h_act h_pile h_comes h_leaves h_tried h_met H.size f_next f_where f_token f_number f_sign f_word f_wrong f_open f_lines f_acts f_size r_all f_next _ hw) (cwV 1 hts gX11_advance_X11_byteAt rfl rfl rfl (by decide +kernel) ⟨Nat.le_of_ble_eq_true rfl, Nat.le_of_ble_eq_true rfl⟩) (pv_of hPc hK hDc (va_recv hK hPc (ci := 10) (q0 := 0) rfl rfl)) rfl rfl hl.1 rfl (lv_room (Nat.le_of_ble_eq_true rfl)) dX11_advance_5 ⟨Nat.zero_le _, Nat.zero_le _⟩) hS (fun q _ h => hFc q h) hFc (fun r_15 u t H locs ht hvm hw hB hz1 hk1 hS => ?_)
    obtain ⟨hP, hD⟩ := af_join (wr := []) (w1 := [(h, .inr (10, [.ref h_all, .ref h_has, .int f_size, .int f_next, .int f_where, .int f_token, .int f_number, .int f_sign, .int f_word, .int f_wrong, .int f_open, .int f_lines, .int f_acts, .ref h_line, .ref h_act, .ref h_pile, .ref h_comes, .ref h_leaves, .ref h_tried, .ref h_met])), (h_all, .inl (cI, 53700, .inl r_all))]) hB ht hP hD [0, 1] [] rfl rfl (by decide) (by decide) hk1 hFc
    have hP : va_P (dC, dI) vwCl [(h, .inr (10, [.ref h_all, .ref h_has, .int f_size, .int f_next, .int f_where, .int f_token, .int f_number, .int f_sign, .int f_word, .int f_wrong, .int f_open, .int f_lines, .int f_acts, .ref h_line, .ref h_act, .ref h_pile, .ref h_comes, .ref h_leaves, .ref h_tried, .ref h_met])), (h_all, .inl (cI, 53700, .inl r_all))] _ := hP
    have hD : va_D A [(h, .inr (10, [.ref h_all, .ref h_has, .int f_size, .int f_next, .int f_where, .int f_token, .int f_number, .int f_sign, .int f_word, .int f_wrong, .int f_open, .int f_lines, .int f_acts, .ref h_line, .ref h_act, .ref h_pile, .ref h_comes, .ref h_leaves, .ref h_tried, .ref h_met])), (h_all, .inl (cI, 53700, .inl r_all))] := hD
    refine lv_bipush (v := (10 : Int32)) hx hb dX11_advance_8 (by decide) ?_
    refine lv_icmp_eq (tgt := 26) hx hb dX11_advance_10 (by decide) (fun c_16 => ?_) (fun c_16 => ?_)
    · have hw := hw.1 c_16
      exact tX11_advance_26 hC hK hA ih f_size f_next f_where f_token f_number f_sign f_word r_all _ _ ls hw (hP.sub [0, 1] rfl) (hD.sub [0, 1] (by decide) rfl) hS (lv_sub hl [0] rfl)
    · have hw := hw.2 c_16
      refine lv_aload_n hx hb dX11_advance_13 rfl (lv_at hl 0 rfl) ?_
      refine lv_aload_n hx hb dX11_advance_14 rfl (lv_at hl 0 rfl) ?_
      refine va_get (D := (dC, dI)) (ci := 10) (v := .int f_next) (C := RX11) (T := TX11) (N := 20) hx hb hts uX11_advance_X11 hown hK hP 0 rfl rfl 3 (by decide) (hts _ mX11_advance_0) (fun _ h9 => h9) rfl dX11_advance_15 ?_
      have hPc := hP.sub (ws' := [(h, .inr (10, [.ref h_all, .ref h_has, .int f_size, .int f_next, .int f_where, .int f_token, .int f_number, .int f_sign, .int f_word, .int f_wrong, .int f_open, .int f_lines, .int f_acts, .ref h_line, .ref h_act, .ref h_pile, .ref h_comes, .ref h_leaves, .ref h_tried, .ref h_met])), (h_all, .inl (cI, 53700, .inl r_all))]) [0, 1] rfl
      have hDc := hD.sub (ws' := [(h, .inr (10, [.ref h_all, .ref h_has, .int f_size, .int f_next, .int f_where, .int f_token, .int f_number, .int f_sign, .int f_word, .int f_wrong, .int f_open, .int f_lines, .int f_acts, .ref h_line, .ref h_act, .ref h_pile, .ref h_comes, .ref h_leaves, .ref h_tried, .ref h_met])), (h_all, .inl (cI, 53700, .inl r_all))]) [0, 1] (by decide) rfl
      have hFc := va_free (wc := [(h, .inr (10, [.ref h_all, .ref h_has, .int f_size, .int f_next, .int f_where, .int f_token, .int f_number, .int f_sign, .int f_word, .int f_wrong, .int f_open, .int f_lines, .int f_acts, .ref h_line, .ref h_act, .ref h_pile, .ref h_comes, .ref h_leaves, .ref h_tried, .ref h_met])), (h_all, .inl (cI, 53700, .inl r_all))]) hD hS hA [0, 1] rfl
      refine va_calli (va_runV (As := [.int f_next]) (rest := []) ⟨hx, hb, hml, hown, hts⟩ (kX11_byteAt l dC dI cI cZ cO cW h h_all h_has h_line h_act h_pile h_comes h_leaves h_tried h_met H.size f_next f_where f_token f_number f_sign f_word f_wrong f_open f_lines f_acts f_size r_all f_next _ hw) (cwV 1 hts gX11_advance_X11_byteAt rfl rfl rfl (by decide +kernel) ⟨Nat.le_of_ble_eq_true rfl, Nat.le_of_ble_eq_true rfl⟩) (pv_of hPc hK hDc (va_recv hK hPc (ci := 10) (q0 := 0) rfl rfl)) rfl rfl hl.1 rfl (lv_room (Nat.le_of_ble_eq_true rfl)) dX11_advance_18 ⟨Nat.zero_le _, Nat.zero_le _⟩) hS (fun q _ h => hFc q h) hFc (fun r_17 u t H locs ht hvm hw hB hz1 hk1 hS => ?_)
      obtain ⟨hP, hD⟩ := af_join (wr := []) (w1 := [(h, .inr (10, [.ref h_all, .ref h_has, .int f_size, .int f_next, .int f_where, .int f_token, .int f_number, .int f_sign, .int f_word, .int f_wrong, .int f_open, .int f_lines, .int f_acts, .ref h_line, .ref h_act, .ref h_pile, .ref h_comes, .ref h_leaves, .ref h_tried, .ref h_met])), (h_all, .inl (cI, 53700, .inl r_all))]) hB ht hP hD [0, 1] [] rfl rfl (by decide) (by decide) hk1 hFc
      have hP : va_P (dC, dI) vwCl [(h, .inr (10, [.ref h_all, .ref h_has, .int f_size, .int f_next, .int f_where, .int f_token, .int f_number, .int f_sign, .int f_word, .int f_wrong, .int f_open, .int f_lines, .int f_acts, .ref h_line, .ref h_act, .ref h_pile, .ref h_comes, .ref h_leaves, .ref h_tried, .ref h_met])), (h_all, .inl (cI, 53700, .inl r_all))] _ := hP
      have hD : va_D A [(h, .inr (10, [.ref h_all, .ref h_has, .int f_size, .int f_next, .int f_where, .int f_token, .int f_number, .int f_sign, .int f_word, .int f_wrong, .int f_open, .int f_lines, .int f_acts, .ref h_line, .ref h_act, .ref h_pile, .ref h_comes, .ref h_leaves, .ref h_tried, .ref h_met])), (h_all, .inl (cI, 53700, .inl r_all))] := hD
      refine lv_bipush (v := (32 : Int32)) hx hb dX11_advance_21 (by decide) ?_
      refine lv_icmp_ne (tgt := 39) hx hb dX11_advance_23 (by decide) (fun c_18 => ?_) (fun c_18 => ?_)
      · have hw := hw.1 c_18
        refine lv_aload_n hx hb dX11_advance_39 rfl (lv_at hl 0 rfl) ?_
        refine lv_aload_n hx hb dX11_advance_40 rfl (lv_at hl 0 rfl) ?_
        refine va_get (D := (dC, dI)) (ci := 10) (v := .int f_next) (C := RX11) (T := TX11) (N := 20) hx hb hts uX11_advance_X11 hown hK hP 0 rfl rfl 3 (by decide) (hts _ mX11_advance_0) (fun _ h9 => h9) rfl dX11_advance_41 ?_
        refine va_put (D := (dC, dI)) (ci := 10) (v := .int f_next) (ty := .int) (C := RX11) (T := TX11) (N := 20) hx hb hts uX11_advance_X11 tyX11 tyX11_ok nmX11 hown hK hP hD hS 0 rfl rfl 4 (by decide) (hts _ mX11_advance_3) (fun _ h9 => h9) rfl (tyX11_ok 4 (by decide)) rfl rfl (Nat.le_of_ble_eq_true rfl) dX11_advance_44 (fun H locs hP hD hS => ?_)
        have hP : va_P (dC, dI) vwCl [(h, .inr (10, [.ref h_all, .ref h_has, .int f_size, .int f_next, .int f_next, .int f_token, .int f_number, .int f_sign, .int f_word, .int f_wrong, .int f_open, .int f_lines, .int f_acts, .ref h_line, .ref h_act, .ref h_pile, .ref h_comes, .ref h_leaves, .ref h_tried, .ref h_met])), (h_all, .inl (cI, 53700, .inl r_all))] _ := hP
        have hD : va_D A [(h, .inr (10, [.ref h_all, .ref h_has, .int f_size, .int f_next, .int f_next, .int f_token, .int f_number, .int f_sign, .int f_word, .int f_wrong, .int f_open, .int f_lines, .int f_acts, .ref h_line, .ref h_act, .ref h_pile, .ref h_comes, .ref h_leaves, .ref h_tried, .ref h_met])), (h_all, .inl (cI, 53700, .inl r_all))] := hD
        refine lv_aload_n hx hb dX11_advance_47 rfl (lv_at hl 0 rfl) ?_
        refine lv_aload_n hx hb dX11_advance_48 rfl (lv_at hl 0 rfl) ?_
        refine va_get (D := (dC, dI)) (ci := 10) (v := .int f_next) (C := RX11) (T := TX11) (N := 20) hx hb hts uX11_advance_X11 hown hK hP 0 rfl rfl 3 (by decide) (hts _ mX11_advance_0) (fun _ h9 => h9) rfl dX11_advance_49 ?_
        have hPc := hP.sub (ws' := [(h, .inr (10, [.ref h_all, .ref h_has, .int f_size, .int f_next, .int f_next, .int f_token, .int f_number, .int f_sign, .int f_word, .int f_wrong, .int f_open, .int f_lines, .int f_acts, .ref h_line, .ref h_act, .ref h_pile, .ref h_comes, .ref h_leaves, .ref h_tried, .ref h_met])), (h_all, .inl (cI, 53700, .inl r_all))]) [0, 1] rfl
        have hDc := hD.sub (ws' := [(h, .inr (10, [.ref h_all, .ref h_has, .int f_size, .int f_next, .int f_next, .int f_token, .int f_number, .int f_sign, .int f_word, .int f_wrong, .int f_open, .int f_lines, .int f_acts, .ref h_line, .ref h_act, .ref h_pile, .ref h_comes, .ref h_leaves, .ref h_tried, .ref h_met])), (h_all, .inl (cI, 53700, .inl r_all))]) [0, 1] (by decide) rfl
        have hFc := va_free (wc := [(h, .inr (10, [.ref h_all, .ref h_has, .int f_size, .int f_next, .int f_next, .int f_token, .int f_number, .int f_sign, .int f_word, .int f_wrong, .int f_open, .int f_lines, .int f_acts, .ref h_line, .ref h_act, .ref h_pile, .ref h_comes, .ref h_leaves, .ref h_tried, .ref h_met])), (h_all, .inl (cI, 53700, .inl r_all))]) hD hS hA [0, 1] rfl
        refine va_calli (va_runV (As := [.int f_next]) (rest := []) ⟨hx, hb, hml, hown, hts⟩ (kX11_byteAt l dC dI cI cZ cO cW h h_all h_has h_line h_act h_pile h_comes h_leaves h_tried h_met H.size f_next f_next f_token f_number f_sign f_word f_wrong f_open f_lines f_acts f_size r_all f_next _ hw) (cwV 1 hts gX11_advance_X11_byteAt rfl rfl rfl (by decide +kernel) ⟨Nat.le_of_ble_eq_true rfl, Nat.le_of_ble_eq_true rfl⟩) (pv_of hPc hK hDc (va_recv hK hPc (ci := 10) (q0 := 0) rfl rfl)) rfl rfl hl.1 rfl (lv_room (Nat.le_of_ble_eq_true rfl)) dX11_advance_52 ⟨Nat.zero_le _, Nat.zero_le _⟩) hS (fun q _ h => hFc q h) hFc (fun r_19 u t H locs ht hvm hw hB hz1 hk1 hS => ?_)
        obtain ⟨hP, hD⟩ := af_join (wr := []) (w1 := [(h, .inr (10, [.ref h_all, .ref h_has, .int f_size, .int f_next, .int f_next, .int f_token, .int f_number, .int f_sign, .int f_word, .int f_wrong, .int f_open, .int f_lines, .int f_acts, .ref h_line, .ref h_act, .ref h_pile, .ref h_comes, .ref h_leaves, .ref h_tried, .ref h_met])), (h_all, .inl (cI, 53700, .inl r_all))]) hB ht hP hD [0, 1] [] rfl rfl (by decide) (by decide) hk1 hFc
        have hP : va_P (dC, dI) vwCl [(h, .inr (10, [.ref h_all, .ref h_has, .int f_size, .int f_next, .int f_next, .int f_token, .int f_number, .int f_sign, .int f_word, .int f_wrong, .int f_open, .int f_lines, .int f_acts, .ref h_line, .ref h_act, .ref h_pile, .ref h_comes, .ref h_leaves, .ref h_tried, .ref h_met])), (h_all, .inl (cI, 53700, .inl r_all))] _ := hP
        have hD : va_D A [(h, .inr (10, [.ref h_all, .ref h_has, .int f_size, .int f_next, .int f_next, .int f_token, .int f_number, .int f_sign, .int f_word, .int f_wrong, .int f_open, .int f_lines, .int f_acts, .ref h_line, .ref h_act, .ref h_pile, .ref h_comes, .ref h_leaves, .ref h_tried, .ref h_met])), (h_all, .inl (cI, 53700, .inl r_all))] := hD
        refine lv_istore_n (lv' := [(1, .int r_19), (0, .ref h)]) hx hb dX11_advance_55 rfl hl (by decide) rfl (fun ls hl => ?_)
        refine lv_iload_n hx hb dX11_advance_56 rfl (lv_at hl 0 rfl) ?_
        refine lv_if_ge (tgt := 68) hx hb dX11_advance_57 (by decide) (fun c_20 => ?_) (fun c_20 => ?_)
        · have hw := hw.1 c_20
          refine lv_iload_n hx hb dX11_advance_68 rfl (lv_at hl 0 rfl) ?_
          have hPc := hP.sub (ws' := []) [] rfl
          have hDc := hD.sub (ws' := []) [] (by decide) rfl
          have hFc := va_free (wc := []) hD hS hA [] rfl
          refine va_calli (va_runS (As := [.int r_19]) (rest := []) ⟨hx, hb, hml, hown, hts⟩ (kX11_isLetter l dC dI cI cZ cO cW H.size r_19 _ hw) (va_cwS 1 hts gX11_advance_X11_isLetter rfl rfl rfl (by decide +kernel) ⟨Nat.le_of_ble_eq_true rfl, Nat.le_of_ble_eq_true rfl⟩) (ps_of hPc hK hDc) rfl rfl hl.1 rfl (lv_room (Nat.le_of_ble_eq_true rfl)) dX11_advance_69 ⟨Nat.zero_le _, Nat.zero_le _⟩) hS (fun q _ h => hFc q h) hFc (fun r_21 u t H locs ht hvm hw hB hz1 hk1 hS => ?_)
          obtain ⟨hP, hD⟩ := af_join (wr := [(h, .inr (10, [.ref h_all, .ref h_has, .int f_size, .int f_next, .int f_next, .int f_token, .int f_number, .int f_sign, .int f_word, .int f_wrong, .int f_open, .int f_lines, .int f_acts, .ref h_line, .ref h_act, .ref h_pile, .ref h_comes, .ref h_leaves, .ref h_tried, .ref h_met])), (h_all, .inl (cI, 53700, .inl r_all))]) (w1 := []) hB ht hP hD [] [0, 1] rfl rfl (by decide) (by decide) hk1 hFc
          have hP : va_P (dC, dI) vwCl [(h, .inr (10, [.ref h_all, .ref h_has, .int f_size, .int f_next, .int f_next, .int f_token, .int f_number, .int f_sign, .int f_word, .int f_wrong, .int f_open, .int f_lines, .int f_acts, .ref h_line, .ref h_act, .ref h_pile, .ref h_comes, .ref h_leaves, .ref h_tried, .ref h_met])), (h_all, .inl (cI, 53700, .inl r_all))] _ := hP
          have hD : va_D A [(h, .inr (10, [.ref h_all, .ref h_has, .int f_size, .int f_next, .int f_next, .int f_token, .int f_number, .int f_sign, .int f_word, .int f_wrong, .int f_open, .int f_lines, .int f_acts, .ref h_line, .ref h_act, .ref h_pile, .ref h_comes, .ref h_leaves, .ref h_tried, .ref h_met])), (h_all, .inl (cI, 53700, .inl r_all))] := hD
          refine lv_if_eq (tgt := 186) hx hb dX11_advance_72 (by decide) (fun c_22 => ?_) (fun c_22 => ?_)
          · have hw := hw.1 c_22
            refine lv_iload_n hx hb dX11_advance_186 rfl (lv_at hl 0 rfl) ?_
            have hPc := hP.sub (ws' := []) [] rfl
            have hDc := hD.sub (ws' := []) [] (by decide) rfl
            have hFc := va_free (wc := []) hD hS hA [] rfl
            refine va_calli (va_runS (As := [.int r_19]) (rest := []) ⟨hx, hb, hml, hown, hts⟩ (kX11_isDigit l dC dI cI cZ cO cW H.size r_19 _ hw) (va_cwS 1 hts gX11_advance_X11_isDigit rfl rfl rfl (by decide +kernel) ⟨Nat.le_of_ble_eq_true rfl, Nat.le_of_ble_eq_true rfl⟩) (ps_of hPc hK hDc) rfl rfl hl.1 rfl (lv_room (Nat.le_of_ble_eq_true rfl)) dX11_advance_187 ⟨Nat.zero_le _, Nat.zero_le _⟩) hS (fun q _ h => hFc q h) hFc (fun r_23 u t H locs ht hvm hw hB hz1 hk1 hS => ?_)
            obtain ⟨hP, hD⟩ := af_join (wr := [(h, .inr (10, [.ref h_all, .ref h_has, .int f_size, .int f_next, .int f_next, .int f_token, .int f_number, .int f_sign, .int f_word, .int f_wrong, .int f_open, .int f_lines, .int f_acts, .ref h_line, .ref h_act, .ref h_pile, .ref h_comes, .ref h_leaves, .ref h_tried, .ref h_met])), (h_all, .inl (cI, 53700, .inl r_all))]) (w1 := []) hB ht hP hD [] [0, 1] rfl rfl (by decide) (by decide) hk1 hFc
            have hP : va_P (dC, dI) vwCl [(h, .inr (10, [.ref h_all, .ref h_has, .int f_size, .int f_next, .int f_next, .int f_token, .int f_number, .int f_sign, .int f_word, .int f_wrong, .int f_open, .int f_lines, .int f_acts, .ref h_line, .ref h_act, .ref h_pile, .ref h_comes, .ref h_leaves, .ref h_tried, .ref h_met])), (h_all, .inl (cI, 53700, .inl r_all))] _ := hP
            have hD : va_D A [(h, .inr (10, [.ref h_all, .ref h_has, .int f_size, .int f_next, .int f_next, .int f_token, .int f_number, .int f_sign, .int f_word, .int f_wrong, .int f_open, .int f_lines, .int f_acts, .ref h_line, .ref h_act, .ref h_pile, .ref h_comes, .ref h_leaves, .ref h_tried, .ref h_met])), (h_all, .inl (cI, 53700, .inl r_all))] := hD
            refine lv_if_eq (tgt := 286) hx hb dX11_advance_190 (by decide) (fun c_24 => ?_) (fun c_24 => ?_)
            · have hw := hw.1 c_24
              refine lv_aload_n hx hb dX11_advance_286 rfl (lv_at hl 1 rfl) ?_
              refine lv_dup hx hb dX11_advance_287 rfl ?_
              refine va_get (D := (dC, dI)) (ci := 10) (v := .int f_next) (C := RX11) (T := TX11) (N := 20) hx hb hts uX11_advance_X11 hown hK hP 0 rfl rfl 3 (by decide) (hts _ mX11_advance_0) (fun _ h9 => h9) rfl dX11_advance_288 ?_
              refine lv_iconst (v := (1 : Int32)) hx hb dX11_advance_291 (by decide) ?_
              refine lv_iadd hx hb dX11_advance_292 ?_
              refine va_put (D := (dC, dI)) (ci := 10) (v := .int (f_next + (1 : Int32))) (ty := .int) (C := RX11) (T := TX11) (N := 20) hx hb hts uX11_advance_X11 tyX11 tyX11_ok nmX11 hown hK hP hD hS 0 rfl rfl 3 (by decide) (hts _ mX11_advance_0) (fun _ h9 => h9) rfl (tyX11_ok 3 (by decide)) rfl rfl (Nat.le_of_ble_eq_true rfl) dX11_advance_293 (fun H locs hP hD hS => ?_)
              have hP : va_P (dC, dI) vwCl [(h, .inr (10, [.ref h_all, .ref h_has, .int f_size, .int (f_next + (1 : Int32)), .int f_next, .int f_token, .int f_number, .int f_sign, .int f_word, .int f_wrong, .int f_open, .int f_lines, .int f_acts, .ref h_line, .ref h_act, .ref h_pile, .ref h_comes, .ref h_leaves, .ref h_tried, .ref h_met])), (h_all, .inl (cI, 53700, .inl r_all))] _ := hP
              have hD : va_D A [(h, .inr (10, [.ref h_all, .ref h_has, .int f_size, .int (f_next + (1 : Int32)), .int f_next, .int f_token, .int f_number, .int f_sign, .int f_word, .int f_wrong, .int f_open, .int f_lines, .int f_acts, .ref h_line, .ref h_act, .ref h_pile, .ref h_comes, .ref h_leaves, .ref h_tried, .ref h_met])), (h_all, .inl (cI, 53700, .inl r_all))] := hD
              refine lv_aload_n hx hb dX11_advance_296 rfl (lv_at hl 1 rfl) ?_
              refine lv_iload_n hx hb dX11_advance_297 rfl (lv_at hl 0 rfl) ?_
              refine va_put (D := (dC, dI)) (ci := 10) (v := .int r_19) (ty := .int) (C := RX11) (T := TX11) (N := 20) hx hb hts uX11_advance_X11 tyX11 tyX11_ok nmX11 hown hK hP hD hS 0 rfl rfl 7 (by decide) (hts _ mX11_advance_7) (fun _ h9 => h9) rfl (tyX11_ok 7 (by decide)) rfl rfl (Nat.le_of_ble_eq_true rfl) dX11_advance_298 (fun H locs hP hD hS => ?_)
              have hP : va_P (dC, dI) vwCl [(h, .inr (10, [.ref h_all, .ref h_has, .int f_size, .int (f_next + (1 : Int32)), .int f_next, .int f_token, .int f_number, .int r_19, .int f_word, .int f_wrong, .int f_open, .int f_lines, .int f_acts, .ref h_line, .ref h_act, .ref h_pile, .ref h_comes, .ref h_leaves, .ref h_tried, .ref h_met])), (h_all, .inl (cI, 53700, .inl r_all))] _ := hP
              have hD : va_D A [(h, .inr (10, [.ref h_all, .ref h_has, .int f_size, .int (f_next + (1 : Int32)), .int f_next, .int f_token, .int f_number, .int r_19, .int f_word, .int f_wrong, .int f_open, .int f_lines, .int f_acts, .ref h_line, .ref h_act, .ref h_pile, .ref h_comes, .ref h_leaves, .ref h_tried, .ref h_met])), (h_all, .inl (cI, 53700, .inl r_all))] := hD
              refine lv_aload_n hx hb dX11_advance_301 rfl (lv_at hl 1 rfl) ?_
              refine lv_iload_n hx hb dX11_advance_302 rfl (lv_at hl 0 rfl) ?_
              have hPc := hP.sub (ws' := []) [] rfl
              have hDc := hD.sub (ws' := []) [] (by decide) rfl
              have hFc := va_free (wc := []) hD hS hA [] rfl
              refine va_calli (va_runS (As := [.int r_19]) (rest := [.ref h]) ⟨hx, hb, hml, hown, hts⟩ (kX11_isSignByte l dC dI cI cZ cO cW H.size r_19 _ hw) (va_cwS 1 hts gX11_advance_X11_isSignByte rfl rfl rfl (by decide +kernel) ⟨Nat.le_of_ble_eq_true rfl, Nat.le_of_ble_eq_true rfl⟩) (ps_of hPc hK hDc) rfl rfl hl.1 rfl (lv_room (Nat.le_of_ble_eq_true rfl)) dX11_advance_303 ⟨Nat.zero_le _, Nat.zero_le _⟩) hS (fun q _ h => hFc q h) hFc (fun r_25 u t H locs ht hvm hw hB hz1 hk1 hS => ?_)
              obtain ⟨hP, hD⟩ := af_join (wr := [(h, .inr (10, [.ref h_all, .ref h_has, .int f_size, .int (f_next + (1 : Int32)), .int f_next, .int f_token, .int f_number, .int r_19, .int f_word, .int f_wrong, .int f_open, .int f_lines, .int f_acts, .ref h_line, .ref h_act, .ref h_pile, .ref h_comes, .ref h_leaves, .ref h_tried, .ref h_met])), (h_all, .inl (cI, 53700, .inl r_all))]) (w1 := []) hB ht hP hD [] [0, 1] rfl rfl (by decide) (by decide) hk1 hFc
              have hP : va_P (dC, dI) vwCl [(h, .inr (10, [.ref h_all, .ref h_has, .int f_size, .int (f_next + (1 : Int32)), .int f_next, .int f_token, .int f_number, .int r_19, .int f_word, .int f_wrong, .int f_open, .int f_lines, .int f_acts, .ref h_line, .ref h_act, .ref h_pile, .ref h_comes, .ref h_leaves, .ref h_tried, .ref h_met])), (h_all, .inl (cI, 53700, .inl r_all))] _ := hP
              have hD : va_D A [(h, .inr (10, [.ref h_all, .ref h_has, .int f_size, .int (f_next + (1 : Int32)), .int f_next, .int f_token, .int f_number, .int r_19, .int f_word, .int f_wrong, .int f_open, .int f_lines, .int f_acts, .ref h_line, .ref h_act, .ref h_pile, .ref h_comes, .ref h_leaves, .ref h_tried, .ref h_met])), (h_all, .inl (cI, 53700, .inl r_all))] := hD
              refine lv_if_eq (tgt := 313) hx hb dX11_advance_306 (by decide) (fun c_26 => ?_) (fun c_26 => ?_)
              · have hw := hw.1 c_26
                refine lv_iconst (v := (4 : Int32)) hx hb dX11_advance_313 (by decide) ?_
                exact tX11_advance_314 hC hK hA  (4 : Int32) f_size (f_next + (1 : Int32)) f_next f_token f_number r_19 f_word r_all _ _ ls hw (hP.sub [0, 1] rfl) (hD.sub [0, 1] (by decide) rfl) hS (lv_sub hl [] rfl)
              · have hw := hw.2 c_26
                refine lv_iconst (v := (2 : Int32)) hx hb dX11_advance_309 (by decide) ?_
                refine lv_goto (tgt := 314) hx hb dX11_advance_310 (by decide) ?_
                exact tX11_advance_314 hC hK hA  (2 : Int32) f_size (f_next + (1 : Int32)) f_next f_token f_number r_19 f_word r_all _ _ ls hw (hP.sub [0, 1] rfl) (hD.sub [0, 1] (by decide) rfl) hS (lv_sub hl [] rfl)
            · have hw := hw.2 c_24
              refine lv_aload_n hx hb dX11_advance_193 rfl (lv_at hl 1 rfl) ?_
              refine lv_iconst (v := (0 : Int32)) hx hb dX11_advance_194 (by decide) ?_
              refine va_put (D := (dC, dI)) (ci := 10) (v := .int (0 : Int32)) (ty := .int) (C := RX11) (T := TX11) (N := 20) hx hb hts uX11_advance_X11 tyX11 tyX11_ok nmX11 hown hK hP hD hS 0 rfl rfl 6 (by decide) (hts _ mX11_advance_6) (fun _ h9 => h9) rfl (tyX11_ok 6 (by decide)) rfl rfl (Nat.le_of_ble_eq_true rfl) dX11_advance_195 (fun H locs hP hD hS => ?_)
              have hP : va_P (dC, dI) vwCl [(h, .inr (10, [.ref h_all, .ref h_has, .int f_size, .int f_next, .int f_next, .int f_token, .int (0 : Int32), .int f_sign, .int f_word, .int f_wrong, .int f_open, .int f_lines, .int f_acts, .ref h_line, .ref h_act, .ref h_pile, .ref h_comes, .ref h_leaves, .ref h_tried, .ref h_met])), (h_all, .inl (cI, 53700, .inl r_all))] _ := hP
              have hD : va_D A [(h, .inr (10, [.ref h_all, .ref h_has, .int f_size, .int f_next, .int f_next, .int f_token, .int (0 : Int32), .int f_sign, .int f_word, .int f_wrong, .int f_open, .int f_lines, .int f_acts, .ref h_line, .ref h_act, .ref h_pile, .ref h_comes, .ref h_leaves, .ref h_tried, .ref h_met])), (h_all, .inl (cI, 53700, .inl r_all))] := hD
              obtain ⟨n_27, hw⟩ := hw
              exact tX11_advance_198 hC hK hA  n_27 f_size f_next f_next f_token (0 : Int32) f_sign f_word r_all _ _ ls hw (hP.sub [0, 1] rfl) (hD.sub [0, 1] (by decide) rfl) hS (lv_sub hl [1] rfl)
          · have hw := hw.2 c_22
            refine lv_lconst (v := (0 : Int64)) hx hb dX11_advance_75 rfl ?_
            refine lv_lstore_n (lv' := [(2, .long (0 : Int64)), (1, .int r_19), (0, .ref h)]) hx hb dX11_advance_76 rfl hl (by decide) rfl (fun ls hl => ?_)
            obtain ⟨n_28, hw⟩ := hw
            exact tX11_advance_77 hC hK hA  n_28 (0 : Int64) f_size f_next f_next f_token f_number f_sign f_word r_all _ _ ls hw (hP.sub [0, 1] rfl) (hD.sub [0, 1] (by decide) rfl) hS (lv_sub hl [2, 0] rfl)
        · have hw := hw.2 c_20
          refine lv_aload_n hx hb dX11_advance_60 rfl (lv_at hl 1 rfl) ?_
          refine lv_iconst (v := (0 : Int32)) hx hb dX11_advance_61 (by decide) ?_
          refine va_put (D := (dC, dI)) (ci := 10) (v := .int (0 : Int32)) (ty := .int) (C := RX11) (T := TX11) (N := 20) hx hb hts uX11_advance_X11 tyX11 tyX11_ok nmX11 hown hK hP hD hS 0 rfl rfl 5 (by decide) (hts _ mX11_advance_1) (fun _ h9 => h9) rfl (tyX11_ok 5 (by decide)) rfl rfl (Nat.le_of_ble_eq_true rfl) dX11_advance_62 (fun H locs hP hD hS => ?_)
          have hP : va_P (dC, dI) vwCl [(h, .inr (10, [.ref h_all, .ref h_has, .int f_size, .int f_next, .int f_next, .int (0 : Int32), .int f_number, .int f_sign, .int f_word, .int f_wrong, .int f_open, .int f_lines, .int f_acts, .ref h_line, .ref h_act, .ref h_pile, .ref h_comes, .ref h_leaves, .ref h_tried, .ref h_met])), (h_all, .inl (cI, 53700, .inl r_all))] _ := hP
          have hD : va_D A [(h, .inr (10, [.ref h_all, .ref h_has, .int f_size, .int f_next, .int f_next, .int (0 : Int32), .int f_number, .int f_sign, .int f_word, .int f_wrong, .int f_open, .int f_lines, .int f_acts, .ref h_line, .ref h_act, .ref h_pile, .ref h_comes, .ref h_leaves, .ref h_tried, .ref h_met])), (h_all, .inl (cI, 53700, .inl r_all))] := hD
          refine lv_goto (tgt := 317) hx hb dX11_advance_65 (by decide) ?_
          have hP9 := hP.sub (ws' := (vX11_advance cI cZ h h_all h_has h_line h_act h_pile h_comes h_leaves h_tried h_met f_wrong f_open f_lines f_acts f_size f_next f_next (0 : Int32) f_number f_sign f_word r_all)) [0, 1] rfl
          have hD9 := hD.sub (ws' := (vX11_advance cI cZ h h_all h_has h_line h_act h_pile h_comes h_leaves h_tried h_met f_wrong f_open f_lines f_acts f_size f_next f_next (0 : Int32) f_number f_sign f_word r_all)) [0, 1] (by decide) rfl
          exact W.vret hx hb hr (fun t ht hW => ⟨⟨(f_next, f_next, (0 : Int32), f_number, f_sign, f_word), rfl, hw, by rw [ht]; exact hP9, va_K.moved hW.alike hK, hD9⟩, hS.F ht⟩) hS.2.2 dX11_advance_317
      · have hw := hw.2 c_18
        exact tX11_advance_26 hC hK hA ih f_size f_next f_where f_token f_number f_sign f_word r_all _ _ ls hw (hP.sub [0, 1] rfl) (hD.sub [0, 1] (by decide) rfl) hS (lv_sub hl [0] rfl)
set_option maxHeartbeats 4000000 in
set_option maxRecDepth 100000 in
theorem tX11_advance_e {p : Program} {l : Launch} {e : Env} {s : State} {m : MethodId} {args : Array Value} {below : List Frame} {meth : Method} {c : Code} {dC : Nat → ClassId} {dI : Nat → Nat → Nat} {cI cZ cO cW : ClassId} {A : Nat → Prop} {h h_all h_has h_line h_act h_pile h_comes h_leaves h_tried h_met : Nat} {f_wrong f_open f_lines f_acts : Int32} {Q : Int32 → Int32 → Int32 → Int32 → Int32 → Int32 → Prop} (hC : Cx p s m args meth c cX11_advance none 4 wsX11_advance RX11) (hK : va_K (dC, dI) vwCl (tysA cI cZ cO cW) s) (hA : ∀ q : Nat, s.heap.size ≤ q → A q) :
    ∀ (f_size : Int32) (f_next : Int32) (f_where : Int32) (f_token : Int32) (f_number : Int32) (f_sign : Int32) (f_word : Int32) (r_all : Nat → Int32) (H : Heap) (locs : List Loc) (ls : Array Slot), wX11_advance Q  f_size f_next f_where f_token f_number f_sign f_word r_all → va_P (dC, dI) vwCl (vX11_advance cI cZ h h_all h_has h_line h_act h_pile h_comes h_leaves h_tried h_met f_wrong f_open f_lines f_acts f_size f_next f_where f_token f_number f_sign f_word r_all) H → va_D A (vX11_advance cI cZ h h_all h_has h_line h_act h_pile h_comes h_leaves h_tried h_met f_wrong f_open f_lines f_acts f_size f_next f_where f_token f_number f_sign f_word r_all) → va_S A s.heap H locs → lv_has ls 4 [(0, .ref h)] → W p l e rmX11_advance s m args below meth c H locs 0 0 (MQ below (qX11_advance dC dI cI cZ cO cW h h_all h_has h_line h_act h_pile h_comes h_leaves h_tried h_met f_wrong f_open f_lines f_acts f_size r_all Q A) args s 0 0 A) (F0 m 0 ls []) := by
  obtain ⟨hx, hb, hr, hml, hown, hts, hlocks⟩ := id hC
  intro  f_size f_next f_where f_token f_number f_sign f_word r_all H locs ls hw hP hD hS hl
  obtain ⟨n_29, hw⟩ := hw
  exact tX11_advance_0 hC hK hA  n_29 f_size f_next f_where f_token f_number f_sign f_word r_all _ _ ls hw (hP.sub [0, 1] rfl) (hD.sub [0, 1] (by decide) rfl) hS (lv_sub hl [0] rfl)
set_option maxHeartbeats 4000000 in
set_option maxRecDepth 100000 in
theorem kX11_advance (l : Launch) (dC : Nat → ClassId) (dI : Nat → Nat → Nat) (cI cZ cO cW : ClassId) (h h_all h_has h_line h_act h_pile h_comes h_leaves h_tried h_met : Nat)  (sz : Nat) (f_wrong : Int32) (f_open : Int32) (f_lines : Int32) (f_acts : Int32) (f_size : Int32) (f_next : Int32) (f_where : Int32) (f_token : Int32) (f_number : Int32) (f_sign : Int32) (f_word : Int32) (r_all : Nat → Int32)  (Q : Int32 → Int32 → Int32 → Int32 → Int32 → Int32 → Prop) (hw : wX11_advance Q  f_size f_next f_where f_token f_number f_sign f_word r_all) : Met l yX11_advance wsX11_advance rmX11_advance (va_Pc [.ref h] (fun U => U.heap.size = sz ∧ va_P (dC, dI) vwCl (vX11_advance cI cZ h h_all h_has h_line h_act h_pile h_comes h_leaves h_tried h_met f_wrong f_open f_lines f_acts f_size f_next f_where f_token f_number f_sign f_word r_all) U.heap ∧ va_K (dC, dI) vwCl (tysA cI cZ cO cW) U ∧ va_D (fun _ => True) (vX11_advance cI cZ h h_all h_has h_line h_act h_pile h_comes h_leaves h_tried h_met f_wrong f_open f_lines f_acts f_size f_next f_where f_token f_number f_sign f_word r_all))) (qX11_advance dC dI cI cZ cO cW h h_all h_has h_line h_act h_pile h_comes h_leaves h_tried h_met f_wrong f_open f_lines f_acts f_size r_all Q (va_A (vX11_advance cI cZ h h_all h_has h_line h_act h_pile h_comes h_leaves h_tried h_met f_wrong f_open f_lines f_acts f_size f_next f_where f_token f_number f_sign f_word r_all) sz)) 0 0 (va_A (vX11_advance cI cZ h h_all h_has h_line h_act h_pile h_comes h_leaves h_tried h_met f_wrong f_open f_lines f_acts f_size f_next f_where f_token f_number f_sign f_word r_all) sz) := by
  refine Met.ofW (cc := cX11_advance) (maxL := 4) (ret := none) (by decide) rfl ?_
  intro p e s m args below meth c s₁ B hml hv
  obtain ⟨rfl, hsz, hP, hK, hD0⟩ := hv
  subst hsz
  have hC : Cx p s m ([.ref h] : List Value).toArray meth c cX11_advance none 4 wsX11_advance RX11 := ⟨B.exec, B.bytes, B.returns, hml, findClass_of_methodNamed B.named, atoms_spec (ws := wsX11_advance) B.pre, B.notSynchronized⟩
  have hD := hD0.self (sz := s.heap.size)
  generalize hAe : va_A (vX11_advance cI cZ h h_all h_has h_line h_act h_pile h_comes h_leaves h_tried h_met f_wrong f_open f_lines f_acts f_size f_next f_where f_token f_number f_sign f_word r_all) s.heap.size = A at hD ⊢
  have hA : ∀ q : Nat, s.heap.size ≤ q → A q := fun q h => by rw [← hAe]; exact Or.inr h
  have hl := lv_entry ([.ref h]) (n := 4) (Nat.le_of_ble_eq_true rfl)
  rw [lg_entry_eq]
  generalize (lg_sl ([.ref h]) ++ List.replicate (4 - (lg_sl ([.ref h])).length) Slot.unset).toArray = ls at hl ⊢
  exact tX11_advance_e hC hK hA  f_size f_next f_where f_token f_number f_sign f_word r_all _ _ ls hw hP hD va_S.rf hl

/-! X11_stops -/
def wX11_stops (Q : Int32 → (Nat → Int32) → Prop)  (f_where : Int32) (f_wrong : Int32) (r_all : Nat → Int32) : Prop :=
  ((f_wrong = 0 → (vp_in (10 : Int32) 53700 ∧ (vp_in (11 : Int32) 53700 ∧ (Q (1 : Int32) (upd (upd r_all (10 : Int32).toNatClampNeg (1 : Int32)) (11 : Int32).toNatClampNeg f_where))))) ∧ (¬ f_wrong = 0 → (Q f_wrong r_all)))
abbrev vX11_stops (cI cZ : ClassId) (h h_all h_has h_line h_act h_pile h_comes h_leaves h_tried h_met : Nat) (f_size : Int32) (f_next : Int32) (f_token : Int32) (f_number : Int32) (f_sign : Int32) (f_word : Int32) (f_open : Int32) (f_lines : Int32) (f_acts : Int32) (f_where : Int32) (f_wrong : Int32) (r_all : Nat → Int32) : va_W := [(h, .inr (10, [.ref h_all, .ref h_has, .int f_size, .int f_next, .int f_where, .int f_token, .int f_number, .int f_sign, .int f_word, .int f_wrong, .int f_open, .int f_lines, .int f_acts, .ref h_line, .ref h_act, .ref h_pile, .ref h_comes, .ref h_leaves, .ref h_tried, .ref h_met])), (h_all, .inl (cI, 53700, .inl r_all))]
abbrev rmX11_stops : Room := { frames := 0, cells := 0, slots := 0, locals := 0 }
abbrev qX11_stops (dC : Nat → ClassId) (dI : Nat → Nat → Nat) (cI cZ cO cW : ClassId) (h h_all h_has h_line h_act h_pile h_comes h_leaves h_tried h_met : Nat) (f_size : Int32) (f_next : Int32) (f_token : Int32) (f_number : Int32) (f_sign : Int32) (f_word : Int32) (f_open : Int32) (f_lines : Int32) (f_acts : Int32) (f_where : Int32) (Q : Int32 → (Nat → Int32) → Prop) (A : Nat → Prop) : Array Value → State → Outcome → State → Prop := va_Qv (fun (u : Int32 × (Nat → Int32)) => Q u.1 u.2) (fun (u : Int32 × (Nat → Int32)) (t : State) => va_P (dC, dI) vwCl (vX11_stops cI cZ h h_all h_has h_line h_act h_pile h_comes h_leaves h_tried h_met f_size f_next f_token f_number f_sign f_word f_open f_lines f_acts f_where u.1 u.2) t.heap ∧ va_K (dC, dI) vwCl (tysA cI cZ cO cW) t ∧ va_D A (vX11_stops cI cZ h h_all h_has h_line h_act h_pile h_comes h_leaves h_tried h_met f_size f_next f_token f_number f_sign f_word f_open f_lines f_acts f_where u.1 u.2)) A
theorem mX11_stops_0 : Cond.fieldLink RX11 139 "IcePilotsModel" "wrong" "Z" ∈ wsX11_stops := by decide +kernel
theorem mX11_stops_1 : Cond.fieldLink RX11 8 "IcePilotsModel" "all" "[I" ∈ wsX11_stops := by decide +kernel
theorem mX11_stops_2 : Cond.fieldLink RX11 110 "IcePilotsModel" "where" "I" ∈ wsX11_stops := by decide +kernel
theorem uX11_stops_X11 : ∀ w ∈ u_ws RX11 TX11 20, w ∈ wsX11_stops := by decide +kernel
set_option maxHeartbeats 4000000 in
set_option maxRecDepth 100000 in
theorem tX11_stops_e {p : Program} {l : Launch} {e : Env} {s : State} {m : MethodId} {args : Array Value} {below : List Frame} {meth : Method} {c : Code} {dC : Nat → ClassId} {dI : Nat → Nat → Nat} {cI cZ cO cW : ClassId} {A : Nat → Prop} {h h_all h_has h_line h_act h_pile h_comes h_leaves h_tried h_met : Nat} {f_size f_next f_token f_number f_sign f_word f_open f_lines f_acts : Int32} {Q : Int32 → (Nat → Int32) → Prop} (hC : Cx p s m args meth c cX11_stops none 1 wsX11_stops RX11) (hK : va_K (dC, dI) vwCl (tysA cI cZ cO cW) s) (hA : ∀ q : Nat, s.heap.size ≤ q → A q) :
    ∀ (f_where : Int32) (f_wrong : Int32) (r_all : Nat → Int32) (H : Heap) (locs : List Loc) (ls : Array Slot), wX11_stops Q  f_where f_wrong r_all → va_P (dC, dI) vwCl (vX11_stops cI cZ h h_all h_has h_line h_act h_pile h_comes h_leaves h_tried h_met f_size f_next f_token f_number f_sign f_word f_open f_lines f_acts f_where f_wrong r_all) H → va_D A (vX11_stops cI cZ h h_all h_has h_line h_act h_pile h_comes h_leaves h_tried h_met f_size f_next f_token f_number f_sign f_word f_open f_lines f_acts f_where f_wrong r_all) → va_S A s.heap H locs → lv_has ls 1 [(0, .ref h)] → W p l e rmX11_stops s m args below meth c H locs 0 0 (MQ below (qX11_stops dC dI cI cZ cO cW h h_all h_has h_line h_act h_pile h_comes h_leaves h_tried h_met f_size f_next f_token f_number f_sign f_word f_open f_lines f_acts f_where Q A) args s 0 0 A) (F0 m 0 ls []) := by
  obtain ⟨hx, hb, hr, hml, hown, hts, hlocks⟩ := id hC
  intro  f_where f_wrong r_all H locs ls hw hP hD hS hl
  refine lv_aload_n hx hb dX11_stops_0 rfl (lv_at hl 0 rfl) ?_
  refine va_get (D := (dC, dI)) (ci := 10) (v := .int f_wrong) (C := RX11) (T := TX11) (N := 20) hx hb hts uX11_stops_X11 hown hK hP 0 rfl rfl 9 (by decide) (hts _ mX11_stops_0) (fun _ h9 => h9) rfl dX11_stops_1 ?_
  refine lv_if_eq (tgt := 8) hx hb dX11_stops_4 (by decide) (fun c_1 => ?_) (fun c_1 => ?_)
  · have hw := hw.1 c_1
    refine lv_aload_n hx hb dX11_stops_8 rfl (lv_at hl 0 rfl) ?_
    refine lv_iconst (v := (1 : Int32)) hx hb dX11_stops_9 (by decide) ?_
    refine va_put (D := (dC, dI)) (ci := 10) (v := .int (1 : Int32)) (ty := .boolean) (C := RX11) (T := TX11) (N := 20) hx hb hts uX11_stops_X11 tyX11 tyX11_ok nmX11 hown hK hP hD hS 0 rfl rfl 9 (by decide) (hts _ mX11_stops_0) (fun _ h9 => h9) rfl (tyX11_ok 9 (by decide)) rfl rfl (Nat.le_of_ble_eq_true rfl) dX11_stops_10 (fun H locs hP hD hS => ?_)
    have hP : va_P (dC, dI) vwCl [(h, .inr (10, [.ref h_all, .ref h_has, .int f_size, .int f_next, .int f_where, .int f_token, .int f_number, .int f_sign, .int f_word, .int (1 : Int32), .int f_open, .int f_lines, .int f_acts, .ref h_line, .ref h_act, .ref h_pile, .ref h_comes, .ref h_leaves, .ref h_tried, .ref h_met])), (h_all, .inl (cI, 53700, .inl r_all))] _ := hP
    have hD : va_D A [(h, .inr (10, [.ref h_all, .ref h_has, .int f_size, .int f_next, .int f_where, .int f_token, .int f_number, .int f_sign, .int f_word, .int (1 : Int32), .int f_open, .int f_lines, .int f_acts, .ref h_line, .ref h_act, .ref h_pile, .ref h_comes, .ref h_leaves, .ref h_tried, .ref h_met])), (h_all, .inl (cI, 53700, .inl r_all))] := hD
    refine lv_aload_n hx hb dX11_stops_13 rfl (lv_at hl 0 rfl) ?_
    refine va_get (D := (dC, dI)) (ci := 10) (v := .ref h_all) (C := RX11) (T := TX11) (N := 20) hx hb hts uX11_stops_X11 hown hK hP 0 rfl rfl 0 (by decide) (hts _ mX11_stops_1) (fun _ h9 => h9) rfl dX11_stops_14 ?_
    refine lv_bipush (v := (10 : Int32)) hx hb dX11_stops_17 (by decide) ?_
    refine lv_iconst (v := (1 : Int32)) hx hb dX11_stops_19 (by decide) ?_
    obtain ⟨h_2, hw⟩ := hw
    refine va_iast hx hb hK hP hD hS 1 0 rfl rfl h_2 dX11_stops_20 (fun H locs hP hD hS => ?_)
    have hP : va_P (dC, dI) vwCl [(h, .inr (10, [.ref h_all, .ref h_has, .int f_size, .int f_next, .int f_where, .int f_token, .int f_number, .int f_sign, .int f_word, .int (1 : Int32), .int f_open, .int f_lines, .int f_acts, .ref h_line, .ref h_act, .ref h_pile, .ref h_comes, .ref h_leaves, .ref h_tried, .ref h_met])), (h_all, .inl (cI, 53700, .inl (upd r_all (10 : Int32).toNatClampNeg (1 : Int32))))] _ := hP
    have hD : va_D A [(h, .inr (10, [.ref h_all, .ref h_has, .int f_size, .int f_next, .int f_where, .int f_token, .int f_number, .int f_sign, .int f_word, .int (1 : Int32), .int f_open, .int f_lines, .int f_acts, .ref h_line, .ref h_act, .ref h_pile, .ref h_comes, .ref h_leaves, .ref h_tried, .ref h_met])), (h_all, .inl (cI, 53700, .inl (upd r_all (10 : Int32).toNatClampNeg (1 : Int32))))] := hD
    refine lv_aload_n hx hb dX11_stops_21 rfl (lv_at hl 0 rfl) ?_
    refine va_get (D := (dC, dI)) (ci := 10) (v := .ref h_all) (C := RX11) (T := TX11) (N := 20) hx hb hts uX11_stops_X11 hown hK hP 0 rfl rfl 0 (by decide) (hts _ mX11_stops_1) (fun _ h9 => h9) rfl dX11_stops_22 ?_
    refine lv_bipush (v := (11 : Int32)) hx hb dX11_stops_25 (by decide) ?_
    refine lv_aload_n hx hb dX11_stops_27 rfl (lv_at hl 0 rfl) ?_
    refine va_get (D := (dC, dI)) (ci := 10) (v := .int f_where) (C := RX11) (T := TX11) (N := 20) hx hb hts uX11_stops_X11 hown hK hP 0 rfl rfl 4 (by decide) (hts _ mX11_stops_2) (fun _ h9 => h9) rfl dX11_stops_28 ?_
    obtain ⟨h_3, hw⟩ := hw
    refine va_iast hx hb hK hP hD hS 1 0 rfl rfl h_3 dX11_stops_31 (fun H locs hP hD hS => ?_)
    have hP : va_P (dC, dI) vwCl [(h, .inr (10, [.ref h_all, .ref h_has, .int f_size, .int f_next, .int f_where, .int f_token, .int f_number, .int f_sign, .int f_word, .int (1 : Int32), .int f_open, .int f_lines, .int f_acts, .ref h_line, .ref h_act, .ref h_pile, .ref h_comes, .ref h_leaves, .ref h_tried, .ref h_met])), (h_all, .inl (cI, 53700, .inl (upd (upd r_all (10 : Int32).toNatClampNeg (1 : Int32)) (11 : Int32).toNatClampNeg f_where)))] _ := hP
    have hD : va_D A [(h, .inr (10, [.ref h_all, .ref h_has, .int f_size, .int f_next, .int f_where, .int f_token, .int f_number, .int f_sign, .int f_word, .int (1 : Int32), .int f_open, .int f_lines, .int f_acts, .ref h_line, .ref h_act, .ref h_pile, .ref h_comes, .ref h_leaves, .ref h_tried, .ref h_met])), (h_all, .inl (cI, 53700, .inl (upd (upd r_all (10 : Int32).toNatClampNeg (1 : Int32)) (11 : Int32).toNatClampNeg f_where)))] := hD
    have hP9 := hP.sub (ws' := (vX11_stops cI cZ h h_all h_has h_line h_act h_pile h_comes h_leaves h_tried h_met f_size f_next f_token f_number f_sign f_word f_open f_lines f_acts f_where (1 : Int32) (upd (upd r_all (10 : Int32).toNatClampNeg (1 : Int32)) (11 : Int32).toNatClampNeg f_where))) [0, 1] rfl
    have hD9 := hD.sub (ws' := (vX11_stops cI cZ h h_all h_has h_line h_act h_pile h_comes h_leaves h_tried h_met f_size f_next f_token f_number f_sign f_word f_open f_lines f_acts f_where (1 : Int32) (upd (upd r_all (10 : Int32).toNatClampNeg (1 : Int32)) (11 : Int32).toNatClampNeg f_where))) [0, 1] (by decide) rfl
    exact W.vret hx hb hr (fun t ht hW => ⟨⟨((1 : Int32), (upd (upd r_all (10 : Int32).toNatClampNeg (1 : Int32)) (11 : Int32).toNatClampNeg f_where)), rfl, hw, by rw [ht]; exact hP9, va_K.moved hW.alike hK, hD9⟩, hS.F ht⟩) hS.2.2 dX11_stops_32
  · have hw := hw.2 c_1
    have hP9 := hP.sub (ws' := (vX11_stops cI cZ h h_all h_has h_line h_act h_pile h_comes h_leaves h_tried h_met f_size f_next f_token f_number f_sign f_word f_open f_lines f_acts f_where f_wrong r_all)) [0, 1] rfl
    have hD9 := hD.sub (ws' := (vX11_stops cI cZ h h_all h_has h_line h_act h_pile h_comes h_leaves h_tried h_met f_size f_next f_token f_number f_sign f_word f_open f_lines f_acts f_where f_wrong r_all)) [0, 1] (by decide) rfl
    exact W.vret hx hb hr (fun t ht hW => ⟨⟨(f_wrong, r_all), rfl, hw, by rw [ht]; exact hP9, va_K.moved hW.alike hK, hD9⟩, hS.F ht⟩) hS.2.2 dX11_stops_7
set_option maxHeartbeats 4000000 in
set_option maxRecDepth 100000 in
theorem kX11_stops (l : Launch) (dC : Nat → ClassId) (dI : Nat → Nat → Nat) (cI cZ cO cW : ClassId) (h h_all h_has h_line h_act h_pile h_comes h_leaves h_tried h_met : Nat)  (sz : Nat) (f_size : Int32) (f_next : Int32) (f_token : Int32) (f_number : Int32) (f_sign : Int32) (f_word : Int32) (f_open : Int32) (f_lines : Int32) (f_acts : Int32) (f_where : Int32) (f_wrong : Int32) (r_all : Nat → Int32)  (Q : Int32 → (Nat → Int32) → Prop) (hw : wX11_stops Q  f_where f_wrong r_all) : Met l yX11_stops wsX11_stops rmX11_stops (va_Pc [.ref h] (fun U => U.heap.size = sz ∧ va_P (dC, dI) vwCl (vX11_stops cI cZ h h_all h_has h_line h_act h_pile h_comes h_leaves h_tried h_met f_size f_next f_token f_number f_sign f_word f_open f_lines f_acts f_where f_wrong r_all) U.heap ∧ va_K (dC, dI) vwCl (tysA cI cZ cO cW) U ∧ va_D (fun _ => True) (vX11_stops cI cZ h h_all h_has h_line h_act h_pile h_comes h_leaves h_tried h_met f_size f_next f_token f_number f_sign f_word f_open f_lines f_acts f_where f_wrong r_all))) (qX11_stops dC dI cI cZ cO cW h h_all h_has h_line h_act h_pile h_comes h_leaves h_tried h_met f_size f_next f_token f_number f_sign f_word f_open f_lines f_acts f_where Q (va_A (vX11_stops cI cZ h h_all h_has h_line h_act h_pile h_comes h_leaves h_tried h_met f_size f_next f_token f_number f_sign f_word f_open f_lines f_acts f_where f_wrong r_all) sz)) 0 0 (va_A (vX11_stops cI cZ h h_all h_has h_line h_act h_pile h_comes h_leaves h_tried h_met f_size f_next f_token f_number f_sign f_word f_open f_lines f_acts f_where f_wrong r_all) sz) := by
  refine Met.ofW (cc := cX11_stops) (maxL := 1) (ret := none) (by decide) rfl ?_
  intro p e s m args below meth c s₁ B hml hv
  obtain ⟨rfl, hsz, hP, hK, hD0⟩ := hv
  subst hsz
  have hC : Cx p s m ([.ref h] : List Value).toArray meth c cX11_stops none 1 wsX11_stops RX11 := ⟨B.exec, B.bytes, B.returns, hml, findClass_of_methodNamed B.named, atoms_spec (ws := wsX11_stops) B.pre, B.notSynchronized⟩
  have hD := hD0.self (sz := s.heap.size)
  generalize hAe : va_A (vX11_stops cI cZ h h_all h_has h_line h_act h_pile h_comes h_leaves h_tried h_met f_size f_next f_token f_number f_sign f_word f_open f_lines f_acts f_where f_wrong r_all) s.heap.size = A at hD ⊢
  have hA : ∀ q : Nat, s.heap.size ≤ q → A q := fun q h => by rw [← hAe]; exact Or.inr h
  have hl := lv_entry ([.ref h]) (n := 1) (Nat.le_of_ble_eq_true rfl)
  rw [lg_entry_eq]
  generalize (lg_sl ([.ref h]) ++ List.replicate (1 - (lg_sl ([.ref h])).length) Slot.unset).toArray = ls at hl ⊢
  exact tX11_stops_e hC hK hA  f_where f_wrong r_all _ _ ls hw hP hD va_S.rf hl

/-! X11_isWord -/
def wX11_isWord (Q : Int32 → Prop) (x1 : Int32) (f_token : Int32) (f_word : Int32) (f_wrong : Int32) : Prop :=
  ((¬ f_wrong = 0 → (Q (0 : Int32))) ∧ (f_wrong = 0 → ((¬ f_token = (3 : Int32) → (Q (0 : Int32))) ∧ (f_token = (3 : Int32) → ((¬ f_word = x1 → (Q (0 : Int32))) ∧ (f_word = x1 → (Q (1 : Int32))))))))
abbrev vX11_isWord (cI cZ : ClassId) (h h_all h_has h_line h_act h_pile h_comes h_leaves h_tried h_met : Nat) (f_size : Int32) (f_next : Int32) (f_where : Int32) (f_number : Int32) (f_sign : Int32) (f_open : Int32) (f_lines : Int32) (f_acts : Int32) (f_token : Int32) (f_word : Int32) (f_wrong : Int32) : va_W := [(h, .inr (10, [.ref h_all, .ref h_has, .int f_size, .int f_next, .int f_where, .int f_token, .int f_number, .int f_sign, .int f_word, .int f_wrong, .int f_open, .int f_lines, .int f_acts, .ref h_line, .ref h_act, .ref h_pile, .ref h_comes, .ref h_leaves, .ref h_tried, .ref h_met]))]
abbrev rmX11_isWord : Room := { frames := 0, cells := 0, slots := 0, locals := 0 }
abbrev qX11_isWord (dC : Nat → ClassId) (dI : Nat → Nat → Nat) (cI cZ cO cW : ClassId) (h h_all h_has h_line h_act h_pile h_comes h_leaves h_tried h_met : Nat) (f_size : Int32) (f_next : Int32) (f_where : Int32) (f_number : Int32) (f_sign : Int32) (f_open : Int32) (f_lines : Int32) (f_acts : Int32) (f_token : Int32) (f_word : Int32) (f_wrong : Int32) (Q : Int32 → Prop) (A : Nat → Prop) : Array Value → State → Outcome → State → Prop := va_Qi (fun (r : Int32) (u : Unit) => Q r) (fun (u : Unit) (t : State) => va_P (dC, dI) vwCl (vX11_isWord cI cZ h h_all h_has h_line h_act h_pile h_comes h_leaves h_tried h_met f_size f_next f_where f_number f_sign f_open f_lines f_acts f_token f_word f_wrong) t.heap ∧ va_K (dC, dI) vwCl (tysA cI cZ cO cW) t ∧ va_D A (vX11_isWord cI cZ h h_all h_has h_line h_act h_pile h_comes h_leaves h_tried h_met f_size f_next f_where f_number f_sign f_open f_lines f_acts f_token f_word f_wrong)) A
theorem mX11_isWord_0 : Cond.fieldLink RX11 139 "IcePilotsModel" "wrong" "Z" ∈ wsX11_isWord := by decide +kernel
theorem mX11_isWord_1 : Cond.fieldLink RX11 113 "IcePilotsModel" "token" "I" ∈ wsX11_isWord := by decide +kernel
theorem mX11_isWord_2 : Cond.fieldLink RX11 124 "IcePilotsModel" "word" "I" ∈ wsX11_isWord := by decide +kernel
theorem uX11_isWord_X11 : ∀ w ∈ u_ws RX11 TX11 20, w ∈ wsX11_isWord := by decide +kernel
set_option maxHeartbeats 4000000 in
set_option maxRecDepth 100000 in
theorem tX11_isWord_e {p : Program} {l : Launch} {e : Env} {s : State} {m : MethodId} {args : Array Value} {below : List Frame} {meth : Method} {c : Code} {dC : Nat → ClassId} {dI : Nat → Nat → Nat} {cI cZ cO cW : ClassId} {A : Nat → Prop} {h h_all h_has h_line h_act h_pile h_comes h_leaves h_tried h_met : Nat} {f_size f_next f_where f_number f_sign f_open f_lines f_acts : Int32} {Q : Int32 → Prop} (hC : Cx p s m args meth c cX11_isWord (some .boolean) 2 wsX11_isWord RX11) (hK : va_K (dC, dI) vwCl (tysA cI cZ cO cW) s) (hA : ∀ q : Nat, s.heap.size ≤ q → A q) :
    ∀ (x1 : Int32) (f_token : Int32) (f_word : Int32) (f_wrong : Int32) (H : Heap) (locs : List Loc) (ls : Array Slot), wX11_isWord Q x1 f_token f_word f_wrong → va_P (dC, dI) vwCl (vX11_isWord cI cZ h h_all h_has h_line h_act h_pile h_comes h_leaves h_tried h_met f_size f_next f_where f_number f_sign f_open f_lines f_acts f_token f_word f_wrong) H → va_D A (vX11_isWord cI cZ h h_all h_has h_line h_act h_pile h_comes h_leaves h_tried h_met f_size f_next f_where f_number f_sign f_open f_lines f_acts f_token f_word f_wrong) → va_S A s.heap H locs → lv_has ls 2 [(0, .ref h), (1, .int x1)] → W p l e rmX11_isWord s m args below meth c H locs 0 0 (MQ below (qX11_isWord dC dI cI cZ cO cW h h_all h_has h_line h_act h_pile h_comes h_leaves h_tried h_met f_size f_next f_where f_number f_sign f_open f_lines f_acts f_token f_word f_wrong Q A) args s 0 0 A) (F0 m 0 ls []) := by
  obtain ⟨hx, hb, hr, hml, hown, hts, hlocks⟩ := id hC
  intro x1 f_token f_word f_wrong H locs ls hw hP hD hS hl
  refine lv_aload_n hx hb dX11_isWord_0 rfl (lv_at hl 0 rfl) ?_
  refine va_get (D := (dC, dI)) (ci := 10) (v := .int f_wrong) (C := RX11) (T := TX11) (N := 20) hx hb hts uX11_isWord_X11 hown hK hP 0 rfl rfl 9 (by decide) (hts _ mX11_isWord_0) (fun _ h9 => h9) rfl dX11_isWord_1 ?_
  refine lv_if_ne (tgt := 27) hx hb dX11_isWord_4 (by decide) (fun c_1 => ?_) (fun c_1 => ?_)
  · have hw := hw.1 c_1
    refine lv_iconst (v := (0 : Int32)) hx hb dX11_isWord_27 (by decide) ?_
    have hP9 := hP.sub (ws' := (vX11_isWord cI cZ h h_all h_has h_line h_act h_pile h_comes h_leaves h_tried h_met f_size f_next f_where f_number f_sign f_open f_lines f_acts f_token f_word f_wrong)) [0] rfl
    have hD9 := hD.sub (ws' := (vX11_isWord cI cZ h h_all h_has h_line h_act h_pile h_comes h_leaves h_tried h_met f_size f_next f_where f_number f_sign f_open f_lines f_acts f_token f_word f_wrong)) [0] (by decide) rfl
    exact W.zret (v := (0 : Int32)) (ty := .boolean) hx hb hr rfl (fun t ht hW => ⟨⟨(0 : Int32), (), rfl, hw, by rw [ht]; exact hP9, va_K.moved hW.alike hK, hD9⟩, hS.F ht⟩) hS.2.2 dX11_isWord_28
  · have hw := hw.2 c_1
    refine lv_aload_n hx hb dX11_isWord_7 rfl (lv_at hl 0 rfl) ?_
    refine va_get (D := (dC, dI)) (ci := 10) (v := .int f_token) (C := RX11) (T := TX11) (N := 20) hx hb hts uX11_isWord_X11 hown hK hP 0 rfl rfl 5 (by decide) (hts _ mX11_isWord_1) (fun _ h9 => h9) rfl dX11_isWord_8 ?_
    refine lv_iconst (v := (3 : Int32)) hx hb dX11_isWord_11 (by decide) ?_
    refine lv_icmp_ne (tgt := 27) hx hb dX11_isWord_12 (by decide) (fun c_2 => ?_) (fun c_2 => ?_)
    · have hw := hw.1 c_2
      refine lv_iconst (v := (0 : Int32)) hx hb dX11_isWord_27 (by decide) ?_
      have hP9 := hP.sub (ws' := (vX11_isWord cI cZ h h_all h_has h_line h_act h_pile h_comes h_leaves h_tried h_met f_size f_next f_where f_number f_sign f_open f_lines f_acts f_token f_word f_wrong)) [0] rfl
      have hD9 := hD.sub (ws' := (vX11_isWord cI cZ h h_all h_has h_line h_act h_pile h_comes h_leaves h_tried h_met f_size f_next f_where f_number f_sign f_open f_lines f_acts f_token f_word f_wrong)) [0] (by decide) rfl
      exact W.zret (v := (0 : Int32)) (ty := .boolean) hx hb hr rfl (fun t ht hW => ⟨⟨(0 : Int32), (), rfl, hw, by rw [ht]; exact hP9, va_K.moved hW.alike hK, hD9⟩, hS.F ht⟩) hS.2.2 dX11_isWord_28
    · have hw := hw.2 c_2
      refine lv_aload_n hx hb dX11_isWord_15 rfl (lv_at hl 0 rfl) ?_
      refine va_get (D := (dC, dI)) (ci := 10) (v := .int f_word) (C := RX11) (T := TX11) (N := 20) hx hb hts uX11_isWord_X11 hown hK hP 0 rfl rfl 8 (by decide) (hts _ mX11_isWord_2) (fun _ h9 => h9) rfl dX11_isWord_16 ?_
      refine lv_iload_n hx hb dX11_isWord_19 rfl (lv_at hl 1 rfl) ?_
      refine lv_icmp_ne (tgt := 27) hx hb dX11_isWord_20 (by decide) (fun c_3 => ?_) (fun c_3 => ?_)
      · have hw := hw.1 c_3
        refine lv_iconst (v := (0 : Int32)) hx hb dX11_isWord_27 (by decide) ?_
        have hP9 := hP.sub (ws' := (vX11_isWord cI cZ h h_all h_has h_line h_act h_pile h_comes h_leaves h_tried h_met f_size f_next f_where f_number f_sign f_open f_lines f_acts f_token f_word f_wrong)) [0] rfl
        have hD9 := hD.sub (ws' := (vX11_isWord cI cZ h h_all h_has h_line h_act h_pile h_comes h_leaves h_tried h_met f_size f_next f_where f_number f_sign f_open f_lines f_acts f_token f_word f_wrong)) [0] (by decide) rfl
        exact W.zret (v := (0 : Int32)) (ty := .boolean) hx hb hr rfl (fun t ht hW => ⟨⟨(0 : Int32), (), rfl, hw, by rw [ht]; exact hP9, va_K.moved hW.alike hK, hD9⟩, hS.F ht⟩) hS.2.2 dX11_isWord_28
      · have hw := hw.2 c_3
        refine lv_iconst (v := (1 : Int32)) hx hb dX11_isWord_23 (by decide) ?_
        refine lv_goto (tgt := 28) hx hb dX11_isWord_24 (by decide) ?_
        have hP9 := hP.sub (ws' := (vX11_isWord cI cZ h h_all h_has h_line h_act h_pile h_comes h_leaves h_tried h_met f_size f_next f_where f_number f_sign f_open f_lines f_acts f_token f_word f_wrong)) [0] rfl
        have hD9 := hD.sub (ws' := (vX11_isWord cI cZ h h_all h_has h_line h_act h_pile h_comes h_leaves h_tried h_met f_size f_next f_where f_number f_sign f_open f_lines f_acts f_token f_word f_wrong)) [0] (by decide) rfl
        exact W.zret (v := (1 : Int32)) (ty := .boolean) hx hb hr rfl (fun t ht hW => ⟨⟨(1 : Int32), (), rfl, hw, by rw [ht]; exact hP9, va_K.moved hW.alike hK, hD9⟩, hS.F ht⟩) hS.2.2 dX11_isWord_28
set_option maxHeartbeats 4000000 in
set_option maxRecDepth 100000 in
theorem kX11_isWord (l : Launch) (dC : Nat → ClassId) (dI : Nat → Nat → Nat) (cI cZ cO cW : ClassId) (h h_all h_has h_line h_act h_pile h_comes h_leaves h_tried h_met : Nat)  (sz : Nat) (f_size : Int32) (f_next : Int32) (f_where : Int32) (f_number : Int32) (f_sign : Int32) (f_open : Int32) (f_lines : Int32) (f_acts : Int32) (f_token : Int32) (f_word : Int32) (f_wrong : Int32) (x1 : Int32) (Q : Int32 → Prop) (hw : wX11_isWord Q x1 f_token f_word f_wrong) : Met l yX11_isWord wsX11_isWord rmX11_isWord (va_Pc [.ref h, .int x1] (fun U => U.heap.size = sz ∧ va_P (dC, dI) vwCl (vX11_isWord cI cZ h h_all h_has h_line h_act h_pile h_comes h_leaves h_tried h_met f_size f_next f_where f_number f_sign f_open f_lines f_acts f_token f_word f_wrong) U.heap ∧ va_K (dC, dI) vwCl (tysA cI cZ cO cW) U ∧ va_D (fun _ => True) (vX11_isWord cI cZ h h_all h_has h_line h_act h_pile h_comes h_leaves h_tried h_met f_size f_next f_where f_number f_sign f_open f_lines f_acts f_token f_word f_wrong))) (qX11_isWord dC dI cI cZ cO cW h h_all h_has h_line h_act h_pile h_comes h_leaves h_tried h_met f_size f_next f_where f_number f_sign f_open f_lines f_acts f_token f_word f_wrong Q (va_A (vX11_isWord cI cZ h h_all h_has h_line h_act h_pile h_comes h_leaves h_tried h_met f_size f_next f_where f_number f_sign f_open f_lines f_acts f_token f_word f_wrong) sz)) 0 0 (va_A (vX11_isWord cI cZ h h_all h_has h_line h_act h_pile h_comes h_leaves h_tried h_met f_size f_next f_where f_number f_sign f_open f_lines f_acts f_token f_word f_wrong) sz) := by
  refine Met.ofW (cc := cX11_isWord) (maxL := 2) (ret := (some .boolean)) (by decide) rfl ?_
  intro p e s m args below meth c s₁ B hml hv
  obtain ⟨rfl, hsz, hP, hK, hD0⟩ := hv
  subst hsz
  have hC : Cx p s m ([.ref h, .int x1] : List Value).toArray meth c cX11_isWord (some .boolean) 2 wsX11_isWord RX11 := ⟨B.exec, B.bytes, B.returns, hml, findClass_of_methodNamed B.named, atoms_spec (ws := wsX11_isWord) B.pre, B.notSynchronized⟩
  have hD := hD0.self (sz := s.heap.size)
  generalize hAe : va_A (vX11_isWord cI cZ h h_all h_has h_line h_act h_pile h_comes h_leaves h_tried h_met f_size f_next f_where f_number f_sign f_open f_lines f_acts f_token f_word f_wrong) s.heap.size = A at hD ⊢
  have hA : ∀ q : Nat, s.heap.size ≤ q → A q := fun q h => by rw [← hAe]; exact Or.inr h
  have hl := lv_entry ([.ref h, .int x1]) (n := 2) (Nat.le_of_ble_eq_true rfl)
  rw [lg_entry_eq]
  generalize (lg_sl ([.ref h, .int x1]) ++ List.replicate (2 - (lg_sl ([.ref h, .int x1])).length) Slot.unset).toArray = ls at hl ⊢
  exact tX11_isWord_e hC hK hA x1 f_token f_word f_wrong _ _ ls hw hP hD va_S.rf hl

/-! X11_isSign -/
def wX11_isSign (Q : Int32 → Prop) (x1 : Int32) (f_token : Int32) (f_sign : Int32) (f_wrong : Int32) : Prop :=
  ((¬ f_wrong = 0 → (Q (0 : Int32))) ∧ (f_wrong = 0 → ((¬ f_token = (2 : Int32) → (Q (0 : Int32))) ∧ (f_token = (2 : Int32) → ((¬ f_sign = x1 → (Q (0 : Int32))) ∧ (f_sign = x1 → (Q (1 : Int32))))))))
abbrev vX11_isSign (cI cZ : ClassId) (h h_all h_has h_line h_act h_pile h_comes h_leaves h_tried h_met : Nat) (f_size : Int32) (f_next : Int32) (f_where : Int32) (f_number : Int32) (f_word : Int32) (f_open : Int32) (f_lines : Int32) (f_acts : Int32) (f_token : Int32) (f_sign : Int32) (f_wrong : Int32) : va_W := [(h, .inr (10, [.ref h_all, .ref h_has, .int f_size, .int f_next, .int f_where, .int f_token, .int f_number, .int f_sign, .int f_word, .int f_wrong, .int f_open, .int f_lines, .int f_acts, .ref h_line, .ref h_act, .ref h_pile, .ref h_comes, .ref h_leaves, .ref h_tried, .ref h_met]))]
abbrev rmX11_isSign : Room := { frames := 0, cells := 0, slots := 0, locals := 0 }
abbrev qX11_isSign (dC : Nat → ClassId) (dI : Nat → Nat → Nat) (cI cZ cO cW : ClassId) (h h_all h_has h_line h_act h_pile h_comes h_leaves h_tried h_met : Nat) (f_size : Int32) (f_next : Int32) (f_where : Int32) (f_number : Int32) (f_word : Int32) (f_open : Int32) (f_lines : Int32) (f_acts : Int32) (f_token : Int32) (f_sign : Int32) (f_wrong : Int32) (Q : Int32 → Prop) (A : Nat → Prop) : Array Value → State → Outcome → State → Prop := va_Qi (fun (r : Int32) (u : Unit) => Q r) (fun (u : Unit) (t : State) => va_P (dC, dI) vwCl (vX11_isSign cI cZ h h_all h_has h_line h_act h_pile h_comes h_leaves h_tried h_met f_size f_next f_where f_number f_word f_open f_lines f_acts f_token f_sign f_wrong) t.heap ∧ va_K (dC, dI) vwCl (tysA cI cZ cO cW) t ∧ va_D A (vX11_isSign cI cZ h h_all h_has h_line h_act h_pile h_comes h_leaves h_tried h_met f_size f_next f_where f_number f_word f_open f_lines f_acts f_token f_sign f_wrong)) A
theorem mX11_isSign_0 : Cond.fieldLink RX11 139 "IcePilotsModel" "wrong" "Z" ∈ wsX11_isSign := by decide +kernel
theorem mX11_isSign_1 : Cond.fieldLink RX11 113 "IcePilotsModel" "token" "I" ∈ wsX11_isSign := by decide +kernel
theorem mX11_isSign_2 : Cond.fieldLink RX11 133 "IcePilotsModel" "sign" "I" ∈ wsX11_isSign := by decide +kernel
theorem uX11_isSign_X11 : ∀ w ∈ u_ws RX11 TX11 20, w ∈ wsX11_isSign := by decide +kernel
set_option maxHeartbeats 4000000 in
set_option maxRecDepth 100000 in
theorem tX11_isSign_e {p : Program} {l : Launch} {e : Env} {s : State} {m : MethodId} {args : Array Value} {below : List Frame} {meth : Method} {c : Code} {dC : Nat → ClassId} {dI : Nat → Nat → Nat} {cI cZ cO cW : ClassId} {A : Nat → Prop} {h h_all h_has h_line h_act h_pile h_comes h_leaves h_tried h_met : Nat} {f_size f_next f_where f_number f_word f_open f_lines f_acts : Int32} {Q : Int32 → Prop} (hC : Cx p s m args meth c cX11_isSign (some .boolean) 2 wsX11_isSign RX11) (hK : va_K (dC, dI) vwCl (tysA cI cZ cO cW) s) (hA : ∀ q : Nat, s.heap.size ≤ q → A q) :
    ∀ (x1 : Int32) (f_token : Int32) (f_sign : Int32) (f_wrong : Int32) (H : Heap) (locs : List Loc) (ls : Array Slot), wX11_isSign Q x1 f_token f_sign f_wrong → va_P (dC, dI) vwCl (vX11_isSign cI cZ h h_all h_has h_line h_act h_pile h_comes h_leaves h_tried h_met f_size f_next f_where f_number f_word f_open f_lines f_acts f_token f_sign f_wrong) H → va_D A (vX11_isSign cI cZ h h_all h_has h_line h_act h_pile h_comes h_leaves h_tried h_met f_size f_next f_where f_number f_word f_open f_lines f_acts f_token f_sign f_wrong) → va_S A s.heap H locs → lv_has ls 2 [(0, .ref h), (1, .int x1)] → W p l e rmX11_isSign s m args below meth c H locs 0 0 (MQ below (qX11_isSign dC dI cI cZ cO cW h h_all h_has h_line h_act h_pile h_comes h_leaves h_tried h_met f_size f_next f_where f_number f_word f_open f_lines f_acts f_token f_sign f_wrong Q A) args s 0 0 A) (F0 m 0 ls []) := by
  obtain ⟨hx, hb, hr, hml, hown, hts, hlocks⟩ := id hC
  intro x1 f_token f_sign f_wrong H locs ls hw hP hD hS hl
  refine lv_aload_n hx hb dX11_isSign_0 rfl (lv_at hl 0 rfl) ?_
  refine va_get (D := (dC, dI)) (ci := 10) (v := .int f_wrong) (C := RX11) (T := TX11) (N := 20) hx hb hts uX11_isSign_X11 hown hK hP 0 rfl rfl 9 (by decide) (hts _ mX11_isSign_0) (fun _ h9 => h9) rfl dX11_isSign_1 ?_
  refine lv_if_ne (tgt := 27) hx hb dX11_isSign_4 (by decide) (fun c_1 => ?_) (fun c_1 => ?_)
  · have hw := hw.1 c_1
    refine lv_iconst (v := (0 : Int32)) hx hb dX11_isSign_27 (by decide) ?_
    have hP9 := hP.sub (ws' := (vX11_isSign cI cZ h h_all h_has h_line h_act h_pile h_comes h_leaves h_tried h_met f_size f_next f_where f_number f_word f_open f_lines f_acts f_token f_sign f_wrong)) [0] rfl
    have hD9 := hD.sub (ws' := (vX11_isSign cI cZ h h_all h_has h_line h_act h_pile h_comes h_leaves h_tried h_met f_size f_next f_where f_number f_word f_open f_lines f_acts f_token f_sign f_wrong)) [0] (by decide) rfl
    exact W.zret (v := (0 : Int32)) (ty := .boolean) hx hb hr rfl (fun t ht hW => ⟨⟨(0 : Int32), (), rfl, hw, by rw [ht]; exact hP9, va_K.moved hW.alike hK, hD9⟩, hS.F ht⟩) hS.2.2 dX11_isSign_28
  · have hw := hw.2 c_1
    refine lv_aload_n hx hb dX11_isSign_7 rfl (lv_at hl 0 rfl) ?_
    refine va_get (D := (dC, dI)) (ci := 10) (v := .int f_token) (C := RX11) (T := TX11) (N := 20) hx hb hts uX11_isSign_X11 hown hK hP 0 rfl rfl 5 (by decide) (hts _ mX11_isSign_1) (fun _ h9 => h9) rfl dX11_isSign_8 ?_
    refine lv_iconst (v := (2 : Int32)) hx hb dX11_isSign_11 (by decide) ?_
    refine lv_icmp_ne (tgt := 27) hx hb dX11_isSign_12 (by decide) (fun c_2 => ?_) (fun c_2 => ?_)
    · have hw := hw.1 c_2
      refine lv_iconst (v := (0 : Int32)) hx hb dX11_isSign_27 (by decide) ?_
      have hP9 := hP.sub (ws' := (vX11_isSign cI cZ h h_all h_has h_line h_act h_pile h_comes h_leaves h_tried h_met f_size f_next f_where f_number f_word f_open f_lines f_acts f_token f_sign f_wrong)) [0] rfl
      have hD9 := hD.sub (ws' := (vX11_isSign cI cZ h h_all h_has h_line h_act h_pile h_comes h_leaves h_tried h_met f_size f_next f_where f_number f_word f_open f_lines f_acts f_token f_sign f_wrong)) [0] (by decide) rfl
      exact W.zret (v := (0 : Int32)) (ty := .boolean) hx hb hr rfl (fun t ht hW => ⟨⟨(0 : Int32), (), rfl, hw, by rw [ht]; exact hP9, va_K.moved hW.alike hK, hD9⟩, hS.F ht⟩) hS.2.2 dX11_isSign_28
    · have hw := hw.2 c_2
      refine lv_aload_n hx hb dX11_isSign_15 rfl (lv_at hl 0 rfl) ?_
      refine va_get (D := (dC, dI)) (ci := 10) (v := .int f_sign) (C := RX11) (T := TX11) (N := 20) hx hb hts uX11_isSign_X11 hown hK hP 0 rfl rfl 7 (by decide) (hts _ mX11_isSign_2) (fun _ h9 => h9) rfl dX11_isSign_16 ?_
      refine lv_iload_n hx hb dX11_isSign_19 rfl (lv_at hl 1 rfl) ?_
      refine lv_icmp_ne (tgt := 27) hx hb dX11_isSign_20 (by decide) (fun c_3 => ?_) (fun c_3 => ?_)
      · have hw := hw.1 c_3
        refine lv_iconst (v := (0 : Int32)) hx hb dX11_isSign_27 (by decide) ?_
        have hP9 := hP.sub (ws' := (vX11_isSign cI cZ h h_all h_has h_line h_act h_pile h_comes h_leaves h_tried h_met f_size f_next f_where f_number f_word f_open f_lines f_acts f_token f_sign f_wrong)) [0] rfl
        have hD9 := hD.sub (ws' := (vX11_isSign cI cZ h h_all h_has h_line h_act h_pile h_comes h_leaves h_tried h_met f_size f_next f_where f_number f_word f_open f_lines f_acts f_token f_sign f_wrong)) [0] (by decide) rfl
        exact W.zret (v := (0 : Int32)) (ty := .boolean) hx hb hr rfl (fun t ht hW => ⟨⟨(0 : Int32), (), rfl, hw, by rw [ht]; exact hP9, va_K.moved hW.alike hK, hD9⟩, hS.F ht⟩) hS.2.2 dX11_isSign_28
      · have hw := hw.2 c_3
        refine lv_iconst (v := (1 : Int32)) hx hb dX11_isSign_23 (by decide) ?_
        refine lv_goto (tgt := 28) hx hb dX11_isSign_24 (by decide) ?_
        have hP9 := hP.sub (ws' := (vX11_isSign cI cZ h h_all h_has h_line h_act h_pile h_comes h_leaves h_tried h_met f_size f_next f_where f_number f_word f_open f_lines f_acts f_token f_sign f_wrong)) [0] rfl
        have hD9 := hD.sub (ws' := (vX11_isSign cI cZ h h_all h_has h_line h_act h_pile h_comes h_leaves h_tried h_met f_size f_next f_where f_number f_word f_open f_lines f_acts f_token f_sign f_wrong)) [0] (by decide) rfl
        exact W.zret (v := (1 : Int32)) (ty := .boolean) hx hb hr rfl (fun t ht hW => ⟨⟨(1 : Int32), (), rfl, hw, by rw [ht]; exact hP9, va_K.moved hW.alike hK, hD9⟩, hS.F ht⟩) hS.2.2 dX11_isSign_28
set_option maxHeartbeats 4000000 in
set_option maxRecDepth 100000 in
theorem kX11_isSign (l : Launch) (dC : Nat → ClassId) (dI : Nat → Nat → Nat) (cI cZ cO cW : ClassId) (h h_all h_has h_line h_act h_pile h_comes h_leaves h_tried h_met : Nat)  (sz : Nat) (f_size : Int32) (f_next : Int32) (f_where : Int32) (f_number : Int32) (f_word : Int32) (f_open : Int32) (f_lines : Int32) (f_acts : Int32) (f_token : Int32) (f_sign : Int32) (f_wrong : Int32) (x1 : Int32) (Q : Int32 → Prop) (hw : wX11_isSign Q x1 f_token f_sign f_wrong) : Met l yX11_isSign wsX11_isSign rmX11_isSign (va_Pc [.ref h, .int x1] (fun U => U.heap.size = sz ∧ va_P (dC, dI) vwCl (vX11_isSign cI cZ h h_all h_has h_line h_act h_pile h_comes h_leaves h_tried h_met f_size f_next f_where f_number f_word f_open f_lines f_acts f_token f_sign f_wrong) U.heap ∧ va_K (dC, dI) vwCl (tysA cI cZ cO cW) U ∧ va_D (fun _ => True) (vX11_isSign cI cZ h h_all h_has h_line h_act h_pile h_comes h_leaves h_tried h_met f_size f_next f_where f_number f_word f_open f_lines f_acts f_token f_sign f_wrong))) (qX11_isSign dC dI cI cZ cO cW h h_all h_has h_line h_act h_pile h_comes h_leaves h_tried h_met f_size f_next f_where f_number f_word f_open f_lines f_acts f_token f_sign f_wrong Q (va_A (vX11_isSign cI cZ h h_all h_has h_line h_act h_pile h_comes h_leaves h_tried h_met f_size f_next f_where f_number f_word f_open f_lines f_acts f_token f_sign f_wrong) sz)) 0 0 (va_A (vX11_isSign cI cZ h h_all h_has h_line h_act h_pile h_comes h_leaves h_tried h_met f_size f_next f_where f_number f_word f_open f_lines f_acts f_token f_sign f_wrong) sz) := by
  refine Met.ofW (cc := cX11_isSign) (maxL := 2) (ret := (some .boolean)) (by decide) rfl ?_
  intro p e s m args below meth c s₁ B hml hv
  obtain ⟨rfl, hsz, hP, hK, hD0⟩ := hv
  subst hsz
  have hC : Cx p s m ([.ref h, .int x1] : List Value).toArray meth c cX11_isSign (some .boolean) 2 wsX11_isSign RX11 := ⟨B.exec, B.bytes, B.returns, hml, findClass_of_methodNamed B.named, atoms_spec (ws := wsX11_isSign) B.pre, B.notSynchronized⟩
  have hD := hD0.self (sz := s.heap.size)
  generalize hAe : va_A (vX11_isSign cI cZ h h_all h_has h_line h_act h_pile h_comes h_leaves h_tried h_met f_size f_next f_where f_number f_word f_open f_lines f_acts f_token f_sign f_wrong) s.heap.size = A at hD ⊢
  have hA : ∀ q : Nat, s.heap.size ≤ q → A q := fun q h => by rw [← hAe]; exact Or.inr h
  have hl := lv_entry ([.ref h, .int x1]) (n := 2) (Nat.le_of_ble_eq_true rfl)
  rw [lg_entry_eq]
  generalize (lg_sl ([.ref h, .int x1]) ++ List.replicate (2 - (lg_sl ([.ref h, .int x1])).length) Slot.unset).toArray = ls at hl ⊢
  exact tX11_isSign_e hC hK hA x1 f_token f_sign f_wrong _ _ ls hw hP hD va_S.rf hl

/-! X11_takesWord -/
def wX11_takesWord (Q : Int32 → Int32 → Int32 → Int32 → Int32 → Int32 → Int32 → Prop) (x1 : Int32) (f_size : Int32) (f_next : Int32) (f_where : Int32) (f_token : Int32) (f_number : Int32) (f_sign : Int32) (f_word : Int32) (f_wrong : Int32) (r_all : Nat → Int32) : Prop :=
  (wX11_isWord (fun r_1 => ((¬ r_1 = 0 → (wX11_advance (fun f_next_3 f_where_4 f_token_5 f_number_6 f_sign_7 f_word_8 => (Q (1 : Int32) f_next_3 f_where_4 f_token_5 f_number_6 f_sign_7 f_word_8)) f_size f_next f_where f_token f_number f_sign f_word r_all)) ∧ (r_1 = 0 → (Q (0 : Int32) f_next f_where f_token f_number f_sign f_word)))) x1 f_token f_word f_wrong)
abbrev vX11_takesWord (cI cZ : ClassId) (h h_all h_has h_line h_act h_pile h_comes h_leaves h_tried h_met : Nat) (f_open : Int32) (f_lines : Int32) (f_acts : Int32) (f_size : Int32) (f_next : Int32) (f_where : Int32) (f_token : Int32) (f_number : Int32) (f_sign : Int32) (f_word : Int32) (f_wrong : Int32) (r_all : Nat → Int32) : va_W := [(h, .inr (10, [.ref h_all, .ref h_has, .int f_size, .int f_next, .int f_where, .int f_token, .int f_number, .int f_sign, .int f_word, .int f_wrong, .int f_open, .int f_lines, .int f_acts, .ref h_line, .ref h_act, .ref h_pile, .ref h_comes, .ref h_leaves, .ref h_tried, .ref h_met])), (h_all, .inl (cI, 53700, .inl r_all))]
abbrev rmX11_takesWord : Room := { frames := 4, cells := 0, slots := 0, locals := 88 }
abbrev qX11_takesWord (dC : Nat → ClassId) (dI : Nat → Nat → Nat) (cI cZ cO cW : ClassId) (h h_all h_has h_line h_act h_pile h_comes h_leaves h_tried h_met : Nat) (f_open : Int32) (f_lines : Int32) (f_acts : Int32) (f_size : Int32) (f_wrong : Int32) (r_all : Nat → Int32) (Q : Int32 → Int32 → Int32 → Int32 → Int32 → Int32 → Int32 → Prop) (A : Nat → Prop) : Array Value → State → Outcome → State → Prop := va_Qi (fun (r : Int32) (u : Int32 × Int32 × Int32 × Int32 × Int32 × Int32) => Q r u.1 u.2.1 u.2.2.1 u.2.2.2.1 u.2.2.2.2.1 u.2.2.2.2.2) (fun (u : Int32 × Int32 × Int32 × Int32 × Int32 × Int32) (t : State) => va_P (dC, dI) vwCl (vX11_takesWord cI cZ h h_all h_has h_line h_act h_pile h_comes h_leaves h_tried h_met f_open f_lines f_acts f_size u.1 u.2.1 u.2.2.1 u.2.2.2.1 u.2.2.2.2.1 u.2.2.2.2.2 f_wrong r_all) t.heap ∧ va_K (dC, dI) vwCl (tysA cI cZ cO cW) t ∧ va_D A (vX11_takesWord cI cZ h h_all h_has h_line h_act h_pile h_comes h_leaves h_tried h_met f_open f_lines f_acts f_size u.1 u.2.1 u.2.2.1 u.2.2.2.1 u.2.2.2.2.1 u.2.2.2.2.2 f_wrong r_all)) A
set_option maxHeartbeats 4000000 in
set_option maxRecDepth 100000 in
theorem tX11_takesWord_e {p : Program} {l : Launch} {e : Env} {s : State} {m : MethodId} {args : Array Value} {below : List Frame} {meth : Method} {c : Code} {dC : Nat → ClassId} {dI : Nat → Nat → Nat} {cI cZ cO cW : ClassId} {A : Nat → Prop} {h h_all h_has h_line h_act h_pile h_comes h_leaves h_tried h_met : Nat} {f_open f_lines f_acts : Int32} {Q : Int32 → Int32 → Int32 → Int32 → Int32 → Int32 → Int32 → Prop} (hC : Cx p s m args meth c cX11_takesWord (some .boolean) 2 wsX11_takesWord RX11) (hK : va_K (dC, dI) vwCl (tysA cI cZ cO cW) s) (hA : ∀ q : Nat, s.heap.size ≤ q → A q) :
    ∀ (x1 : Int32) (f_size : Int32) (f_next : Int32) (f_where : Int32) (f_token : Int32) (f_number : Int32) (f_sign : Int32) (f_word : Int32) (f_wrong : Int32) (r_all : Nat → Int32) (H : Heap) (locs : List Loc) (ls : Array Slot), wX11_takesWord Q x1 f_size f_next f_where f_token f_number f_sign f_word f_wrong r_all → va_P (dC, dI) vwCl (vX11_takesWord cI cZ h h_all h_has h_line h_act h_pile h_comes h_leaves h_tried h_met f_open f_lines f_acts f_size f_next f_where f_token f_number f_sign f_word f_wrong r_all) H → va_D A (vX11_takesWord cI cZ h h_all h_has h_line h_act h_pile h_comes h_leaves h_tried h_met f_open f_lines f_acts f_size f_next f_where f_token f_number f_sign f_word f_wrong r_all) → va_S A s.heap H locs → lv_has ls 2 [(0, .ref h), (1, .int x1)] → W p l e rmX11_takesWord s m args below meth c H locs 0 0 (MQ below (qX11_takesWord dC dI cI cZ cO cW h h_all h_has h_line h_act h_pile h_comes h_leaves h_tried h_met f_open f_lines f_acts f_size f_wrong r_all Q A) args s 0 0 A) (F0 m 0 ls []) := by
  obtain ⟨hx, hb, hr, hml, hown, hts, hlocks⟩ := id hC
  intro x1 f_size f_next f_where f_token f_number f_sign f_word f_wrong r_all H locs ls hw hP hD hS hl
  refine lv_aload_n hx hb dX11_takesWord_0 rfl (lv_at hl 0 rfl) ?_
  refine lv_iload_n hx hb dX11_takesWord_1 rfl (lv_at hl 1 rfl) ?_
  have hPc := hP.sub (ws' := [(h, .inr (10, [.ref h_all, .ref h_has, .int f_size, .int f_next, .int f_where, .int f_token, .int f_number, .int f_sign, .int f_word, .int f_wrong, .int f_open, .int f_lines, .int f_acts, .ref h_line, .ref h_act, .ref h_pile, .ref h_comes, .ref h_leaves, .ref h_tried, .ref h_met]))]) [0] rfl
  have hDc := hD.sub (ws' := [(h, .inr (10, [.ref h_all, .ref h_has, .int f_size, .int f_next, .int f_where, .int f_token, .int f_number, .int f_sign, .int f_word, .int f_wrong, .int f_open, .int f_lines, .int f_acts, .ref h_line, .ref h_act, .ref h_pile, .ref h_comes, .ref h_leaves, .ref h_tried, .ref h_met]))]) [0] (by decide) rfl
  have hFc := va_free (wc := [(h, .inr (10, [.ref h_all, .ref h_has, .int f_size, .int f_next, .int f_where, .int f_token, .int f_number, .int f_sign, .int f_word, .int f_wrong, .int f_open, .int f_lines, .int f_acts, .ref h_line, .ref h_act, .ref h_pile, .ref h_comes, .ref h_leaves, .ref h_tried, .ref h_met]))]) hD hS hA [0] rfl
  refine va_calli (va_runV (As := [.int x1]) (rest := []) ⟨hx, hb, hml, hown, hts⟩ (kX11_isWord l dC dI cI cZ cO cW h h_all h_has h_line h_act h_pile h_comes h_leaves h_tried h_met H.size f_size f_next f_where f_number f_sign f_open f_lines f_acts f_token f_word f_wrong x1 _ hw) (cwV 1 hts gX11_takesWord_X11_isWord rfl rfl rfl (by decide +kernel) ⟨Nat.le_of_ble_eq_true rfl, Nat.le_of_ble_eq_true rfl⟩) (pv_of hPc hK hDc (va_recv hK hPc (ci := 10) (q0 := 0) rfl rfl)) rfl rfl hl.1 rfl (lv_room (Nat.le_of_ble_eq_true rfl)) dX11_takesWord_2 ⟨Nat.zero_le _, Nat.zero_le _⟩) hS (fun q _ h => hFc q h) hFc (fun r_1 u t H locs ht hvm hw hB hz1 hk1 hS => ?_)
  obtain ⟨hP, hD⟩ := af_join (wr := [(h_all, .inl (cI, 53700, .inl r_all))]) (w1 := [(h, .inr (10, [.ref h_all, .ref h_has, .int f_size, .int f_next, .int f_where, .int f_token, .int f_number, .int f_sign, .int f_word, .int f_wrong, .int f_open, .int f_lines, .int f_acts, .ref h_line, .ref h_act, .ref h_pile, .ref h_comes, .ref h_leaves, .ref h_tried, .ref h_met]))]) hB ht hP hD [0] [1] rfl rfl (by decide) (by decide) hk1 hFc
  have hP : va_P (dC, dI) vwCl [(h_all, .inl (cI, 53700, .inl r_all)), (h, .inr (10, [.ref h_all, .ref h_has, .int f_size, .int f_next, .int f_where, .int f_token, .int f_number, .int f_sign, .int f_word, .int f_wrong, .int f_open, .int f_lines, .int f_acts, .ref h_line, .ref h_act, .ref h_pile, .ref h_comes, .ref h_leaves, .ref h_tried, .ref h_met]))] _ := hP
  have hD : va_D A [(h_all, .inl (cI, 53700, .inl r_all)), (h, .inr (10, [.ref h_all, .ref h_has, .int f_size, .int f_next, .int f_where, .int f_token, .int f_number, .int f_sign, .int f_word, .int f_wrong, .int f_open, .int f_lines, .int f_acts, .ref h_line, .ref h_act, .ref h_pile, .ref h_comes, .ref h_leaves, .ref h_tried, .ref h_met]))] := hD
  refine lv_if_ne (tgt := 10) hx hb dX11_takesWord_5 (by decide) (fun c_2 => ?_) (fun c_2 => ?_)
  · have hw := hw.1 c_2
    refine lv_aload_n hx hb dX11_takesWord_10 rfl (lv_at hl 0 rfl) ?_
    have hPc := hP.sub (ws' := [(h, .inr (10, [.ref h_all, .ref h_has, .int f_size, .int f_next, .int f_where, .int f_token, .int f_number, .int f_sign, .int f_word, .int f_wrong, .int f_open, .int f_lines, .int f_acts, .ref h_line, .ref h_act, .ref h_pile, .ref h_comes, .ref h_leaves, .ref h_tried, .ref h_met])), (h_all, .inl (cI, 53700, .inl r_all))]) [1, 0] rfl
    have hDc := hD.sub (ws' := [(h, .inr (10, [.ref h_all, .ref h_has, .int f_size, .int f_next, .int f_where, .int f_token, .int f_number, .int f_sign, .int f_word, .int f_wrong, .int f_open, .int f_lines, .int f_acts, .ref h_line, .ref h_act, .ref h_pile, .ref h_comes, .ref h_leaves, .ref h_tried, .ref h_met])), (h_all, .inl (cI, 53700, .inl r_all))]) [1, 0] (by decide) rfl
    have hFc := va_free (wc := [(h, .inr (10, [.ref h_all, .ref h_has, .int f_size, .int f_next, .int f_where, .int f_token, .int f_number, .int f_sign, .int f_word, .int f_wrong, .int f_open, .int f_lines, .int f_acts, .ref h_line, .ref h_act, .ref h_pile, .ref h_comes, .ref h_leaves, .ref h_tried, .ref h_met])), (h_all, .inl (cI, 53700, .inl r_all))]) hD hS hA [1, 0] rfl
    refine va_callv (va_runV (As := []) (rest := []) ⟨hx, hb, hml, hown, hts⟩ (kX11_advance l dC dI cI cZ cO cW h h_all h_has h_line h_act h_pile h_comes h_leaves h_tried h_met H.size f_wrong f_open f_lines f_acts f_size f_next f_where f_token f_number f_sign f_word r_all _ hw) (cwV 0 hts gX11_takesWord_X11_advance rfl rfl rfl (by decide +kernel) ⟨Nat.le_of_ble_eq_true rfl, Nat.le_of_ble_eq_true rfl⟩) (pv_of hPc hK hDc (va_recv hK hPc (ci := 10) (q0 := 0) rfl rfl)) rfl rfl hl.1 rfl (lv_room (Nat.le_of_ble_eq_true rfl)) dX11_takesWord_11 ⟨Nat.zero_le _, Nat.zero_le _⟩) hS (fun q _ h => hFc q h) hFc (fun u t H locs ht hvm hw hB hz1 hk1 hS => ?_)
    obtain ⟨f_next_3, f_where_4, f_token_5, f_number_6, f_sign_7, f_word_8⟩ := u
    obtain ⟨hP, hD⟩ := af_join (wr := []) (w1 := [(h, .inr (10, [.ref h_all, .ref h_has, .int f_size, .int f_next_3, .int f_where_4, .int f_token_5, .int f_number_6, .int f_sign_7, .int f_word_8, .int f_wrong, .int f_open, .int f_lines, .int f_acts, .ref h_line, .ref h_act, .ref h_pile, .ref h_comes, .ref h_leaves, .ref h_tried, .ref h_met])), (h_all, .inl (cI, 53700, .inl r_all))]) hB ht hP hD [1, 0] [] rfl rfl (by decide) (by decide) hk1 hFc
    have hP : va_P (dC, dI) vwCl [(h, .inr (10, [.ref h_all, .ref h_has, .int f_size, .int f_next_3, .int f_where_4, .int f_token_5, .int f_number_6, .int f_sign_7, .int f_word_8, .int f_wrong, .int f_open, .int f_lines, .int f_acts, .ref h_line, .ref h_act, .ref h_pile, .ref h_comes, .ref h_leaves, .ref h_tried, .ref h_met])), (h_all, .inl (cI, 53700, .inl r_all))] _ := hP
    have hD : va_D A [(h, .inr (10, [.ref h_all, .ref h_has, .int f_size, .int f_next_3, .int f_where_4, .int f_token_5, .int f_number_6, .int f_sign_7, .int f_word_8, .int f_wrong, .int f_open, .int f_lines, .int f_acts, .ref h_line, .ref h_act, .ref h_pile, .ref h_comes, .ref h_leaves, .ref h_tried, .ref h_met])), (h_all, .inl (cI, 53700, .inl r_all))] := hD
    refine lv_iconst (v := (1 : Int32)) hx hb dX11_takesWord_14 (by decide) ?_
    have hP9 := hP.sub (ws' := (vX11_takesWord cI cZ h h_all h_has h_line h_act h_pile h_comes h_leaves h_tried h_met f_open f_lines f_acts f_size f_next_3 f_where_4 f_token_5 f_number_6 f_sign_7 f_word_8 f_wrong r_all)) [0, 1] rfl
    have hD9 := hD.sub (ws' := (vX11_takesWord cI cZ h h_all h_has h_line h_act h_pile h_comes h_leaves h_tried h_met f_open f_lines f_acts f_size f_next_3 f_where_4 f_token_5 f_number_6 f_sign_7 f_word_8 f_wrong r_all)) [0, 1] (by decide) rfl
    exact W.zret (v := (1 : Int32)) (ty := .boolean) hx hb hr rfl (fun t ht hW => ⟨⟨(1 : Int32), (f_next_3, f_where_4, f_token_5, f_number_6, f_sign_7, f_word_8), rfl, hw, by rw [ht]; exact hP9, va_K.moved hW.alike hK, hD9⟩, hS.F ht⟩) hS.2.2 dX11_takesWord_15
  · have hw := hw.2 c_2
    refine lv_iconst (v := (0 : Int32)) hx hb dX11_takesWord_8 (by decide) ?_
    have hP9 := hP.sub (ws' := (vX11_takesWord cI cZ h h_all h_has h_line h_act h_pile h_comes h_leaves h_tried h_met f_open f_lines f_acts f_size f_next f_where f_token f_number f_sign f_word f_wrong r_all)) [1, 0] rfl
    have hD9 := hD.sub (ws' := (vX11_takesWord cI cZ h h_all h_has h_line h_act h_pile h_comes h_leaves h_tried h_met f_open f_lines f_acts f_size f_next f_where f_token f_number f_sign f_word f_wrong r_all)) [1, 0] (by decide) rfl
    exact W.zret (v := (0 : Int32)) (ty := .boolean) hx hb hr rfl (fun t ht hW => ⟨⟨(0 : Int32), (f_next, f_where, f_token, f_number, f_sign, f_word), rfl, hw, by rw [ht]; exact hP9, va_K.moved hW.alike hK, hD9⟩, hS.F ht⟩) hS.2.2 dX11_takesWord_9
set_option maxHeartbeats 4000000 in
set_option maxRecDepth 100000 in
theorem kX11_takesWord (l : Launch) (dC : Nat → ClassId) (dI : Nat → Nat → Nat) (cI cZ cO cW : ClassId) (h h_all h_has h_line h_act h_pile h_comes h_leaves h_tried h_met : Nat)  (sz : Nat) (f_open : Int32) (f_lines : Int32) (f_acts : Int32) (f_size : Int32) (f_next : Int32) (f_where : Int32) (f_token : Int32) (f_number : Int32) (f_sign : Int32) (f_word : Int32) (f_wrong : Int32) (r_all : Nat → Int32) (x1 : Int32) (Q : Int32 → Int32 → Int32 → Int32 → Int32 → Int32 → Int32 → Prop) (hw : wX11_takesWord Q x1 f_size f_next f_where f_token f_number f_sign f_word f_wrong r_all) : Met l yX11_takesWord wsX11_takesWord rmX11_takesWord (va_Pc [.ref h, .int x1] (fun U => U.heap.size = sz ∧ va_P (dC, dI) vwCl (vX11_takesWord cI cZ h h_all h_has h_line h_act h_pile h_comes h_leaves h_tried h_met f_open f_lines f_acts f_size f_next f_where f_token f_number f_sign f_word f_wrong r_all) U.heap ∧ va_K (dC, dI) vwCl (tysA cI cZ cO cW) U ∧ va_D (fun _ => True) (vX11_takesWord cI cZ h h_all h_has h_line h_act h_pile h_comes h_leaves h_tried h_met f_open f_lines f_acts f_size f_next f_where f_token f_number f_sign f_word f_wrong r_all))) (qX11_takesWord dC dI cI cZ cO cW h h_all h_has h_line h_act h_pile h_comes h_leaves h_tried h_met f_open f_lines f_acts f_size f_wrong r_all Q (va_A (vX11_takesWord cI cZ h h_all h_has h_line h_act h_pile h_comes h_leaves h_tried h_met f_open f_lines f_acts f_size f_next f_where f_token f_number f_sign f_word f_wrong r_all) sz)) 0 0 (va_A (vX11_takesWord cI cZ h h_all h_has h_line h_act h_pile h_comes h_leaves h_tried h_met f_open f_lines f_acts f_size f_next f_where f_token f_number f_sign f_word f_wrong r_all) sz) := by
  refine Met.ofW (cc := cX11_takesWord) (maxL := 2) (ret := (some .boolean)) (by decide) rfl ?_
  intro p e s m args below meth c s₁ B hml hv
  obtain ⟨rfl, hsz, hP, hK, hD0⟩ := hv
  subst hsz
  have hC : Cx p s m ([.ref h, .int x1] : List Value).toArray meth c cX11_takesWord (some .boolean) 2 wsX11_takesWord RX11 := ⟨B.exec, B.bytes, B.returns, hml, findClass_of_methodNamed B.named, atoms_spec (ws := wsX11_takesWord) B.pre, B.notSynchronized⟩
  have hD := hD0.self (sz := s.heap.size)
  generalize hAe : va_A (vX11_takesWord cI cZ h h_all h_has h_line h_act h_pile h_comes h_leaves h_tried h_met f_open f_lines f_acts f_size f_next f_where f_token f_number f_sign f_word f_wrong r_all) s.heap.size = A at hD ⊢
  have hA : ∀ q : Nat, s.heap.size ≤ q → A q := fun q h => by rw [← hAe]; exact Or.inr h
  have hl := lv_entry ([.ref h, .int x1]) (n := 2) (Nat.le_of_ble_eq_true rfl)
  rw [lg_entry_eq]
  generalize (lg_sl ([.ref h, .int x1]) ++ List.replicate (2 - (lg_sl ([.ref h, .int x1])).length) Slot.unset).toArray = ls at hl ⊢
  exact tX11_takesWord_e hC hK hA x1 f_size f_next f_where f_token f_number f_sign f_word f_wrong r_all _ _ ls hw hP hD va_S.rf hl

/-! X11_must -/
def wX11_must (Q : Int32 → Int32 → Int32 → Int32 → Int32 → Int32 → Int32 → (Nat → Int32) → Prop) (x1 : Int32) (f_size : Int32) (f_next : Int32) (f_where : Int32) (f_token : Int32) (f_number : Int32) (f_sign : Int32) (f_word : Int32) (f_wrong : Int32) (r_all : Nat → Int32) : Prop :=
  (wX11_isSign (fun r_1 => ((r_1 = 0 → (wX11_stops (fun f_wrong_3 r_all_4 => (Q f_next f_where f_token f_number f_sign f_word f_wrong_3 r_all_4)) f_where f_wrong r_all)) ∧ (¬ r_1 = 0 → (wX11_advance (fun f_next_5 f_where_6 f_token_7 f_number_8 f_sign_9 f_word_10 => (Q f_next_5 f_where_6 f_token_7 f_number_8 f_sign_9 f_word_10 f_wrong r_all)) f_size f_next f_where f_token f_number f_sign f_word r_all)))) x1 f_token f_sign f_wrong)
abbrev vX11_must (cI cZ : ClassId) (h h_all h_has h_line h_act h_pile h_comes h_leaves h_tried h_met : Nat) (f_open : Int32) (f_lines : Int32) (f_acts : Int32) (f_size : Int32) (f_next : Int32) (f_where : Int32) (f_token : Int32) (f_number : Int32) (f_sign : Int32) (f_word : Int32) (f_wrong : Int32) (r_all : Nat → Int32) : va_W := [(h, .inr (10, [.ref h_all, .ref h_has, .int f_size, .int f_next, .int f_where, .int f_token, .int f_number, .int f_sign, .int f_word, .int f_wrong, .int f_open, .int f_lines, .int f_acts, .ref h_line, .ref h_act, .ref h_pile, .ref h_comes, .ref h_leaves, .ref h_tried, .ref h_met])), (h_all, .inl (cI, 53700, .inl r_all))]
abbrev rmX11_must : Room := { frames := 4, cells := 0, slots := 0, locals := 88 }
abbrev qX11_must (dC : Nat → ClassId) (dI : Nat → Nat → Nat) (cI cZ cO cW : ClassId) (h h_all h_has h_line h_act h_pile h_comes h_leaves h_tried h_met : Nat) (f_open : Int32) (f_lines : Int32) (f_acts : Int32) (f_size : Int32) (Q : Int32 → Int32 → Int32 → Int32 → Int32 → Int32 → Int32 → (Nat → Int32) → Prop) (A : Nat → Prop) : Array Value → State → Outcome → State → Prop := va_Qv (fun (u : Int32 × Int32 × Int32 × Int32 × Int32 × Int32 × Int32 × (Nat → Int32)) => Q u.1 u.2.1 u.2.2.1 u.2.2.2.1 u.2.2.2.2.1 u.2.2.2.2.2.1 u.2.2.2.2.2.2.1 u.2.2.2.2.2.2.2) (fun (u : Int32 × Int32 × Int32 × Int32 × Int32 × Int32 × Int32 × (Nat → Int32)) (t : State) => va_P (dC, dI) vwCl (vX11_must cI cZ h h_all h_has h_line h_act h_pile h_comes h_leaves h_tried h_met f_open f_lines f_acts f_size u.1 u.2.1 u.2.2.1 u.2.2.2.1 u.2.2.2.2.1 u.2.2.2.2.2.1 u.2.2.2.2.2.2.1 u.2.2.2.2.2.2.2) t.heap ∧ va_K (dC, dI) vwCl (tysA cI cZ cO cW) t ∧ va_D A (vX11_must cI cZ h h_all h_has h_line h_act h_pile h_comes h_leaves h_tried h_met f_open f_lines f_acts f_size u.1 u.2.1 u.2.2.1 u.2.2.2.1 u.2.2.2.2.1 u.2.2.2.2.2.1 u.2.2.2.2.2.2.1 u.2.2.2.2.2.2.2)) A
set_option maxHeartbeats 4000000 in
set_option maxRecDepth 100000 in
theorem tX11_must_e {p : Program} {l : Launch} {e : Env} {s : State} {m : MethodId} {args : Array Value} {below : List Frame} {meth : Method} {c : Code} {dC : Nat → ClassId} {dI : Nat → Nat → Nat} {cI cZ cO cW : ClassId} {A : Nat → Prop} {h h_all h_has h_line h_act h_pile h_comes h_leaves h_tried h_met : Nat} {f_open f_lines f_acts : Int32} {Q : Int32 → Int32 → Int32 → Int32 → Int32 → Int32 → Int32 → (Nat → Int32) → Prop} (hC : Cx p s m args meth c cX11_must none 2 wsX11_must RX11) (hK : va_K (dC, dI) vwCl (tysA cI cZ cO cW) s) (hA : ∀ q : Nat, s.heap.size ≤ q → A q) :
    ∀ (x1 : Int32) (f_size : Int32) (f_next : Int32) (f_where : Int32) (f_token : Int32) (f_number : Int32) (f_sign : Int32) (f_word : Int32) (f_wrong : Int32) (r_all : Nat → Int32) (H : Heap) (locs : List Loc) (ls : Array Slot), wX11_must Q x1 f_size f_next f_where f_token f_number f_sign f_word f_wrong r_all → va_P (dC, dI) vwCl (vX11_must cI cZ h h_all h_has h_line h_act h_pile h_comes h_leaves h_tried h_met f_open f_lines f_acts f_size f_next f_where f_token f_number f_sign f_word f_wrong r_all) H → va_D A (vX11_must cI cZ h h_all h_has h_line h_act h_pile h_comes h_leaves h_tried h_met f_open f_lines f_acts f_size f_next f_where f_token f_number f_sign f_word f_wrong r_all) → va_S A s.heap H locs → lv_has ls 2 [(0, .ref h), (1, .int x1)] → W p l e rmX11_must s m args below meth c H locs 0 0 (MQ below (qX11_must dC dI cI cZ cO cW h h_all h_has h_line h_act h_pile h_comes h_leaves h_tried h_met f_open f_lines f_acts f_size Q A) args s 0 0 A) (F0 m 0 ls []) := by
  obtain ⟨hx, hb, hr, hml, hown, hts, hlocks⟩ := id hC
  intro x1 f_size f_next f_where f_token f_number f_sign f_word f_wrong r_all H locs ls hw hP hD hS hl
  refine lv_aload_n hx hb dX11_must_0 rfl (lv_at hl 0 rfl) ?_
  refine lv_iload_n hx hb dX11_must_1 rfl (lv_at hl 1 rfl) ?_
  have hPc := hP.sub (ws' := [(h, .inr (10, [.ref h_all, .ref h_has, .int f_size, .int f_next, .int f_where, .int f_token, .int f_number, .int f_sign, .int f_word, .int f_wrong, .int f_open, .int f_lines, .int f_acts, .ref h_line, .ref h_act, .ref h_pile, .ref h_comes, .ref h_leaves, .ref h_tried, .ref h_met]))]) [0] rfl
  have hDc := hD.sub (ws' := [(h, .inr (10, [.ref h_all, .ref h_has, .int f_size, .int f_next, .int f_where, .int f_token, .int f_number, .int f_sign, .int f_word, .int f_wrong, .int f_open, .int f_lines, .int f_acts, .ref h_line, .ref h_act, .ref h_pile, .ref h_comes, .ref h_leaves, .ref h_tried, .ref h_met]))]) [0] (by decide) rfl
  have hFc := va_free (wc := [(h, .inr (10, [.ref h_all, .ref h_has, .int f_size, .int f_next, .int f_where, .int f_token, .int f_number, .int f_sign, .int f_word, .int f_wrong, .int f_open, .int f_lines, .int f_acts, .ref h_line, .ref h_act, .ref h_pile, .ref h_comes, .ref h_leaves, .ref h_tried, .ref h_met]))]) hD hS hA [0] rfl
  refine va_calli (va_runV (As := [.int x1]) (rest := []) ⟨hx, hb, hml, hown, hts⟩ (kX11_isSign l dC dI cI cZ cO cW h h_all h_has h_line h_act h_pile h_comes h_leaves h_tried h_met H.size f_size f_next f_where f_number f_word f_open f_lines f_acts f_token f_sign f_wrong x1 _ hw) (cwV 1 hts gX11_must_X11_isSign rfl rfl rfl (by decide +kernel) ⟨Nat.le_of_ble_eq_true rfl, Nat.le_of_ble_eq_true rfl⟩) (pv_of hPc hK hDc (va_recv hK hPc (ci := 10) (q0 := 0) rfl rfl)) rfl rfl hl.1 rfl (lv_room (Nat.le_of_ble_eq_true rfl)) dX11_must_2 ⟨Nat.zero_le _, Nat.zero_le _⟩) hS (fun q _ h => hFc q h) hFc (fun r_1 u t H locs ht hvm hw hB hz1 hk1 hS => ?_)
  obtain ⟨hP, hD⟩ := af_join (wr := [(h_all, .inl (cI, 53700, .inl r_all))]) (w1 := [(h, .inr (10, [.ref h_all, .ref h_has, .int f_size, .int f_next, .int f_where, .int f_token, .int f_number, .int f_sign, .int f_word, .int f_wrong, .int f_open, .int f_lines, .int f_acts, .ref h_line, .ref h_act, .ref h_pile, .ref h_comes, .ref h_leaves, .ref h_tried, .ref h_met]))]) hB ht hP hD [0] [1] rfl rfl (by decide) (by decide) hk1 hFc
  have hP : va_P (dC, dI) vwCl [(h_all, .inl (cI, 53700, .inl r_all)), (h, .inr (10, [.ref h_all, .ref h_has, .int f_size, .int f_next, .int f_where, .int f_token, .int f_number, .int f_sign, .int f_word, .int f_wrong, .int f_open, .int f_lines, .int f_acts, .ref h_line, .ref h_act, .ref h_pile, .ref h_comes, .ref h_leaves, .ref h_tried, .ref h_met]))] _ := hP
  have hD : va_D A [(h_all, .inl (cI, 53700, .inl r_all)), (h, .inr (10, [.ref h_all, .ref h_has, .int f_size, .int f_next, .int f_where, .int f_token, .int f_number, .int f_sign, .int f_word, .int f_wrong, .int f_open, .int f_lines, .int f_acts, .ref h_line, .ref h_act, .ref h_pile, .ref h_comes, .ref h_leaves, .ref h_tried, .ref h_met]))] := hD
  refine lv_if_eq (tgt := 15) hx hb dX11_must_5 (by decide) (fun c_2 => ?_) (fun c_2 => ?_)
  · have hw := hw.1 c_2
    refine lv_aload_n hx hb dX11_must_15 rfl (lv_at hl 0 rfl) ?_
    have hPc := hP.sub (ws' := [(h, .inr (10, [.ref h_all, .ref h_has, .int f_size, .int f_next, .int f_where, .int f_token, .int f_number, .int f_sign, .int f_word, .int f_wrong, .int f_open, .int f_lines, .int f_acts, .ref h_line, .ref h_act, .ref h_pile, .ref h_comes, .ref h_leaves, .ref h_tried, .ref h_met])), (h_all, .inl (cI, 53700, .inl r_all))]) [1, 0] rfl
    have hDc := hD.sub (ws' := [(h, .inr (10, [.ref h_all, .ref h_has, .int f_size, .int f_next, .int f_where, .int f_token, .int f_number, .int f_sign, .int f_word, .int f_wrong, .int f_open, .int f_lines, .int f_acts, .ref h_line, .ref h_act, .ref h_pile, .ref h_comes, .ref h_leaves, .ref h_tried, .ref h_met])), (h_all, .inl (cI, 53700, .inl r_all))]) [1, 0] (by decide) rfl
    have hFc := va_free (wc := [(h, .inr (10, [.ref h_all, .ref h_has, .int f_size, .int f_next, .int f_where, .int f_token, .int f_number, .int f_sign, .int f_word, .int f_wrong, .int f_open, .int f_lines, .int f_acts, .ref h_line, .ref h_act, .ref h_pile, .ref h_comes, .ref h_leaves, .ref h_tried, .ref h_met])), (h_all, .inl (cI, 53700, .inl r_all))]) hD hS hA [1, 0] rfl
    refine va_callv (va_runV (As := []) (rest := []) ⟨hx, hb, hml, hown, hts⟩ (kX11_stops l dC dI cI cZ cO cW h h_all h_has h_line h_act h_pile h_comes h_leaves h_tried h_met H.size f_size f_next f_token f_number f_sign f_word f_open f_lines f_acts f_where f_wrong r_all _ hw) (cwV 0 hts gX11_must_X11_stops rfl rfl rfl (by decide +kernel) ⟨Nat.le_of_ble_eq_true rfl, Nat.le_of_ble_eq_true rfl⟩) (pv_of hPc hK hDc (va_recv hK hPc (ci := 10) (q0 := 0) rfl rfl)) rfl rfl hl.1 rfl (lv_room (Nat.le_of_ble_eq_true rfl)) dX11_must_16 ⟨Nat.zero_le _, Nat.zero_le _⟩) hS (fun q _ h => hFc q h) hFc (fun u t H locs ht hvm hw hB hz1 hk1 hS => ?_)
    obtain ⟨f_wrong_3, r_all_4⟩ := u
    obtain ⟨hP, hD⟩ := af_join (wr := []) (w1 := [(h, .inr (10, [.ref h_all, .ref h_has, .int f_size, .int f_next, .int f_where, .int f_token, .int f_number, .int f_sign, .int f_word, .int f_wrong_3, .int f_open, .int f_lines, .int f_acts, .ref h_line, .ref h_act, .ref h_pile, .ref h_comes, .ref h_leaves, .ref h_tried, .ref h_met])), (h_all, .inl (cI, 53700, .inl r_all_4))]) hB ht hP hD [1, 0] [] rfl rfl (by decide) (by decide) hk1 hFc
    have hP : va_P (dC, dI) vwCl [(h, .inr (10, [.ref h_all, .ref h_has, .int f_size, .int f_next, .int f_where, .int f_token, .int f_number, .int f_sign, .int f_word, .int f_wrong_3, .int f_open, .int f_lines, .int f_acts, .ref h_line, .ref h_act, .ref h_pile, .ref h_comes, .ref h_leaves, .ref h_tried, .ref h_met])), (h_all, .inl (cI, 53700, .inl r_all_4))] _ := hP
    have hD : va_D A [(h, .inr (10, [.ref h_all, .ref h_has, .int f_size, .int f_next, .int f_where, .int f_token, .int f_number, .int f_sign, .int f_word, .int f_wrong_3, .int f_open, .int f_lines, .int f_acts, .ref h_line, .ref h_act, .ref h_pile, .ref h_comes, .ref h_leaves, .ref h_tried, .ref h_met])), (h_all, .inl (cI, 53700, .inl r_all_4))] := hD
    have hP9 := hP.sub (ws' := (vX11_must cI cZ h h_all h_has h_line h_act h_pile h_comes h_leaves h_tried h_met f_open f_lines f_acts f_size f_next f_where f_token f_number f_sign f_word f_wrong_3 r_all_4)) [0, 1] rfl
    have hD9 := hD.sub (ws' := (vX11_must cI cZ h h_all h_has h_line h_act h_pile h_comes h_leaves h_tried h_met f_open f_lines f_acts f_size f_next f_where f_token f_number f_sign f_word f_wrong_3 r_all_4)) [0, 1] (by decide) rfl
    exact W.vret hx hb hr (fun t ht hW => ⟨⟨(f_next, f_where, f_token, f_number, f_sign, f_word, f_wrong_3, r_all_4), rfl, hw, by rw [ht]; exact hP9, va_K.moved hW.alike hK, hD9⟩, hS.F ht⟩) hS.2.2 dX11_must_19
  · have hw := hw.2 c_2
    refine lv_aload_n hx hb dX11_must_8 rfl (lv_at hl 0 rfl) ?_
    have hPc := hP.sub (ws' := [(h, .inr (10, [.ref h_all, .ref h_has, .int f_size, .int f_next, .int f_where, .int f_token, .int f_number, .int f_sign, .int f_word, .int f_wrong, .int f_open, .int f_lines, .int f_acts, .ref h_line, .ref h_act, .ref h_pile, .ref h_comes, .ref h_leaves, .ref h_tried, .ref h_met])), (h_all, .inl (cI, 53700, .inl r_all))]) [1, 0] rfl
    have hDc := hD.sub (ws' := [(h, .inr (10, [.ref h_all, .ref h_has, .int f_size, .int f_next, .int f_where, .int f_token, .int f_number, .int f_sign, .int f_word, .int f_wrong, .int f_open, .int f_lines, .int f_acts, .ref h_line, .ref h_act, .ref h_pile, .ref h_comes, .ref h_leaves, .ref h_tried, .ref h_met])), (h_all, .inl (cI, 53700, .inl r_all))]) [1, 0] (by decide) rfl
    have hFc := va_free (wc := [(h, .inr (10, [.ref h_all, .ref h_has, .int f_size, .int f_next, .int f_where, .int f_token, .int f_number, .int f_sign, .int f_word, .int f_wrong, .int f_open, .int f_lines, .int f_acts, .ref h_line, .ref h_act, .ref h_pile, .ref h_comes, .ref h_leaves, .ref h_tried, .ref h_met])), (h_all, .inl (cI, 53700, .inl r_all))]) hD hS hA [1, 0] rfl
    refine va_callv (va_runV (As := []) (rest := []) ⟨hx, hb, hml, hown, hts⟩ (kX11_advance l dC dI cI cZ cO cW h h_all h_has h_line h_act h_pile h_comes h_leaves h_tried h_met H.size f_wrong f_open f_lines f_acts f_size f_next f_where f_token f_number f_sign f_word r_all _ hw) (cwV 0 hts gX11_must_X11_advance rfl rfl rfl (by decide +kernel) ⟨Nat.le_of_ble_eq_true rfl, Nat.le_of_ble_eq_true rfl⟩) (pv_of hPc hK hDc (va_recv hK hPc (ci := 10) (q0 := 0) rfl rfl)) rfl rfl hl.1 rfl (lv_room (Nat.le_of_ble_eq_true rfl)) dX11_must_9 ⟨Nat.zero_le _, Nat.zero_le _⟩) hS (fun q _ h => hFc q h) hFc (fun u t H locs ht hvm hw hB hz1 hk1 hS => ?_)
    obtain ⟨f_next_5, f_where_6, f_token_7, f_number_8, f_sign_9, f_word_10⟩ := u
    obtain ⟨hP, hD⟩ := af_join (wr := []) (w1 := [(h, .inr (10, [.ref h_all, .ref h_has, .int f_size, .int f_next_5, .int f_where_6, .int f_token_7, .int f_number_8, .int f_sign_9, .int f_word_10, .int f_wrong, .int f_open, .int f_lines, .int f_acts, .ref h_line, .ref h_act, .ref h_pile, .ref h_comes, .ref h_leaves, .ref h_tried, .ref h_met])), (h_all, .inl (cI, 53700, .inl r_all))]) hB ht hP hD [1, 0] [] rfl rfl (by decide) (by decide) hk1 hFc
    have hP : va_P (dC, dI) vwCl [(h, .inr (10, [.ref h_all, .ref h_has, .int f_size, .int f_next_5, .int f_where_6, .int f_token_7, .int f_number_8, .int f_sign_9, .int f_word_10, .int f_wrong, .int f_open, .int f_lines, .int f_acts, .ref h_line, .ref h_act, .ref h_pile, .ref h_comes, .ref h_leaves, .ref h_tried, .ref h_met])), (h_all, .inl (cI, 53700, .inl r_all))] _ := hP
    have hD : va_D A [(h, .inr (10, [.ref h_all, .ref h_has, .int f_size, .int f_next_5, .int f_where_6, .int f_token_7, .int f_number_8, .int f_sign_9, .int f_word_10, .int f_wrong, .int f_open, .int f_lines, .int f_acts, .ref h_line, .ref h_act, .ref h_pile, .ref h_comes, .ref h_leaves, .ref h_tried, .ref h_met])), (h_all, .inl (cI, 53700, .inl r_all))] := hD
    refine lv_goto (tgt := 19) hx hb dX11_must_12 (by decide) ?_
    have hP9 := hP.sub (ws' := (vX11_must cI cZ h h_all h_has h_line h_act h_pile h_comes h_leaves h_tried h_met f_open f_lines f_acts f_size f_next_5 f_where_6 f_token_7 f_number_8 f_sign_9 f_word_10 f_wrong r_all)) [0, 1] rfl
    have hD9 := hD.sub (ws' := (vX11_must cI cZ h h_all h_has h_line h_act h_pile h_comes h_leaves h_tried h_met f_open f_lines f_acts f_size f_next_5 f_where_6 f_token_7 f_number_8 f_sign_9 f_word_10 f_wrong r_all)) [0, 1] (by decide) rfl
    exact W.vret hx hb hr (fun t ht hW => ⟨⟨(f_next_5, f_where_6, f_token_7, f_number_8, f_sign_9, f_word_10, f_wrong, r_all), rfl, hw, by rw [ht]; exact hP9, va_K.moved hW.alike hK, hD9⟩, hS.F ht⟩) hS.2.2 dX11_must_19
set_option maxHeartbeats 4000000 in
set_option maxRecDepth 100000 in
theorem kX11_must (l : Launch) (dC : Nat → ClassId) (dI : Nat → Nat → Nat) (cI cZ cO cW : ClassId) (h h_all h_has h_line h_act h_pile h_comes h_leaves h_tried h_met : Nat)  (sz : Nat) (f_open : Int32) (f_lines : Int32) (f_acts : Int32) (f_size : Int32) (f_next : Int32) (f_where : Int32) (f_token : Int32) (f_number : Int32) (f_sign : Int32) (f_word : Int32) (f_wrong : Int32) (r_all : Nat → Int32) (x1 : Int32) (Q : Int32 → Int32 → Int32 → Int32 → Int32 → Int32 → Int32 → (Nat → Int32) → Prop) (hw : wX11_must Q x1 f_size f_next f_where f_token f_number f_sign f_word f_wrong r_all) : Met l yX11_must wsX11_must rmX11_must (va_Pc [.ref h, .int x1] (fun U => U.heap.size = sz ∧ va_P (dC, dI) vwCl (vX11_must cI cZ h h_all h_has h_line h_act h_pile h_comes h_leaves h_tried h_met f_open f_lines f_acts f_size f_next f_where f_token f_number f_sign f_word f_wrong r_all) U.heap ∧ va_K (dC, dI) vwCl (tysA cI cZ cO cW) U ∧ va_D (fun _ => True) (vX11_must cI cZ h h_all h_has h_line h_act h_pile h_comes h_leaves h_tried h_met f_open f_lines f_acts f_size f_next f_where f_token f_number f_sign f_word f_wrong r_all))) (qX11_must dC dI cI cZ cO cW h h_all h_has h_line h_act h_pile h_comes h_leaves h_tried h_met f_open f_lines f_acts f_size Q (va_A (vX11_must cI cZ h h_all h_has h_line h_act h_pile h_comes h_leaves h_tried h_met f_open f_lines f_acts f_size f_next f_where f_token f_number f_sign f_word f_wrong r_all) sz)) 0 0 (va_A (vX11_must cI cZ h h_all h_has h_line h_act h_pile h_comes h_leaves h_tried h_met f_open f_lines f_acts f_size f_next f_where f_token f_number f_sign f_word f_wrong r_all) sz) := by
  refine Met.ofW (cc := cX11_must) (maxL := 2) (ret := none) (by decide) rfl ?_
  intro p e s m args below meth c s₁ B hml hv
  obtain ⟨rfl, hsz, hP, hK, hD0⟩ := hv
  subst hsz
  have hC : Cx p s m ([.ref h, .int x1] : List Value).toArray meth c cX11_must none 2 wsX11_must RX11 := ⟨B.exec, B.bytes, B.returns, hml, findClass_of_methodNamed B.named, atoms_spec (ws := wsX11_must) B.pre, B.notSynchronized⟩
  have hD := hD0.self (sz := s.heap.size)
  generalize hAe : va_A (vX11_must cI cZ h h_all h_has h_line h_act h_pile h_comes h_leaves h_tried h_met f_open f_lines f_acts f_size f_next f_where f_token f_number f_sign f_word f_wrong r_all) s.heap.size = A at hD ⊢
  have hA : ∀ q : Nat, s.heap.size ≤ q → A q := fun q h => by rw [← hAe]; exact Or.inr h
  have hl := lv_entry ([.ref h, .int x1]) (n := 2) (Nat.le_of_ble_eq_true rfl)
  rw [lg_entry_eq]
  generalize (lg_sl ([.ref h, .int x1]) ++ List.replicate (2 - (lg_sl ([.ref h, .int x1])).length) Slot.unset).toArray = ls at hl ⊢
  exact tX11_must_e hC hK hA x1 f_size f_next f_where f_token f_number f_sign f_word f_wrong r_all _ _ ls hw hP hD va_S.rf hl

/-! X11_numbered -/
def wX11_numbered_27 (Q : Int32 → Int32 → Int32 → Int32 → Int32 → Int32 → Int32 → Int32 → (Nat → Int32) → Prop)   (x1 : Int32) (f_size : Int32) (f_next : Int32) (f_where : Int32) (f_token : Int32) (f_number : Int32) (f_sign : Int32) (f_word : Int32) (f_wrong : Int32) (r_all : (Nat → Int32)) : Prop :=
  (wX11_stops (fun f_wrong_1 r_all_2 => (Q x1 f_next f_where f_token f_number f_sign f_word f_wrong_1 r_all_2)) f_where f_wrong r_all)
def wX11_numbered (Q : Int32 → Int32 → Int32 → Int32 → Int32 → Int32 → Int32 → Int32 → (Nat → Int32) → Prop)  (f_size : Int32) (f_next : Int32) (f_where : Int32) (f_token : Int32) (f_number : Int32) (f_sign : Int32) (f_word : Int32) (f_wrong : Int32) (r_all : Nat → Int32) : Prop :=
  ((¬ f_wrong = 0 → (wX11_numbered_27 Q f_number f_size f_next f_where f_token f_number f_sign f_word f_wrong r_all)) ∧ (f_wrong = 0 → ((¬ f_token = (1 : Int32) → (wX11_numbered_27 Q f_number f_size f_next f_where f_token f_number f_sign f_word f_wrong r_all)) ∧ (f_token = (1 : Int32) → (wX11_advance (fun f_next_5 f_where_6 f_token_7 f_number_8 f_sign_9 f_word_10 => (Q f_number f_next_5 f_where_6 f_token_7 f_number_8 f_sign_9 f_word_10 f_wrong r_all)) f_size f_next f_where f_token f_number f_sign f_word r_all)))))
abbrev vX11_numbered (cI cZ : ClassId) (h h_all h_has h_line h_act h_pile h_comes h_leaves h_tried h_met : Nat) (f_open : Int32) (f_lines : Int32) (f_acts : Int32) (f_size : Int32) (f_next : Int32) (f_where : Int32) (f_token : Int32) (f_number : Int32) (f_sign : Int32) (f_word : Int32) (f_wrong : Int32) (r_all : Nat → Int32) : va_W := [(h, .inr (10, [.ref h_all, .ref h_has, .int f_size, .int f_next, .int f_where, .int f_token, .int f_number, .int f_sign, .int f_word, .int f_wrong, .int f_open, .int f_lines, .int f_acts, .ref h_line, .ref h_act, .ref h_pile, .ref h_comes, .ref h_leaves, .ref h_tried, .ref h_met])), (h_all, .inl (cI, 53700, .inl r_all))]
abbrev rmX11_numbered : Room := { frames := 4, cells := 0, slots := 0, locals := 88 }
abbrev qX11_numbered (dC : Nat → ClassId) (dI : Nat → Nat → Nat) (cI cZ cO cW : ClassId) (h h_all h_has h_line h_act h_pile h_comes h_leaves h_tried h_met : Nat) (f_open : Int32) (f_lines : Int32) (f_acts : Int32) (f_size : Int32) (Q : Int32 → Int32 → Int32 → Int32 → Int32 → Int32 → Int32 → Int32 → (Nat → Int32) → Prop) (A : Nat → Prop) : Array Value → State → Outcome → State → Prop := va_Qi (fun (r : Int32) (u : Int32 × Int32 × Int32 × Int32 × Int32 × Int32 × Int32 × (Nat → Int32)) => Q r u.1 u.2.1 u.2.2.1 u.2.2.2.1 u.2.2.2.2.1 u.2.2.2.2.2.1 u.2.2.2.2.2.2.1 u.2.2.2.2.2.2.2) (fun (u : Int32 × Int32 × Int32 × Int32 × Int32 × Int32 × Int32 × (Nat → Int32)) (t : State) => va_P (dC, dI) vwCl (vX11_numbered cI cZ h h_all h_has h_line h_act h_pile h_comes h_leaves h_tried h_met f_open f_lines f_acts f_size u.1 u.2.1 u.2.2.1 u.2.2.2.1 u.2.2.2.2.1 u.2.2.2.2.2.1 u.2.2.2.2.2.2.1 u.2.2.2.2.2.2.2) t.heap ∧ va_K (dC, dI) vwCl (tysA cI cZ cO cW) t ∧ va_D A (vX11_numbered cI cZ h h_all h_has h_line h_act h_pile h_comes h_leaves h_tried h_met f_open f_lines f_acts f_size u.1 u.2.1 u.2.2.1 u.2.2.2.1 u.2.2.2.2.1 u.2.2.2.2.2.1 u.2.2.2.2.2.2.1 u.2.2.2.2.2.2.2)) A
theorem mX11_numbered_0 : Cond.fieldLink RX11 130 "IcePilotsModel" "number" "I" ∈ wsX11_numbered := by decide +kernel
theorem mX11_numbered_1 : Cond.fieldLink RX11 139 "IcePilotsModel" "wrong" "Z" ∈ wsX11_numbered := by decide +kernel
theorem mX11_numbered_2 : Cond.fieldLink RX11 113 "IcePilotsModel" "token" "I" ∈ wsX11_numbered := by decide +kernel
theorem uX11_numbered_X11 : ∀ w ∈ u_ws RX11 TX11 20, w ∈ wsX11_numbered := by decide +kernel
set_option maxHeartbeats 4000000 in
set_option maxRecDepth 100000 in
theorem tX11_numbered_27 {p : Program} {l : Launch} {e : Env} {s : State} {m : MethodId} {args : Array Value} {below : List Frame} {meth : Method} {c : Code} {dC : Nat → ClassId} {dI : Nat → Nat → Nat} {cI cZ cO cW : ClassId} {A : Nat → Prop} {h h_all h_has h_line h_act h_pile h_comes h_leaves h_tried h_met : Nat} {f_open f_lines f_acts : Int32} {Q : Int32 → Int32 → Int32 → Int32 → Int32 → Int32 → Int32 → Int32 → (Nat → Int32) → Prop}  (hC : Cx p s m args meth c cX11_numbered (some .int) 2 wsX11_numbered RX11) (hK : va_K (dC, dI) vwCl (tysA cI cZ cO cW) s) (hA : ∀ q : Nat, s.heap.size ≤ q → A q) :
    ∀ (x1 : Int32) (f_size : Int32) (f_next : Int32) (f_where : Int32) (f_token : Int32) (f_number : Int32) (f_sign : Int32) (f_word : Int32) (f_wrong : Int32) (r_all : (Nat → Int32)) (H : Heap) (locs : List Loc) (ls : Array Slot), wX11_numbered_27 Q  x1 f_size f_next f_where f_token f_number f_sign f_word f_wrong r_all → va_P (dC, dI) vwCl (vX11_numbered cI cZ h h_all h_has h_line h_act h_pile h_comes h_leaves h_tried h_met f_open f_lines f_acts f_size f_next f_where f_token f_number f_sign f_word f_wrong r_all) H → va_D A (vX11_numbered cI cZ h h_all h_has h_line h_act h_pile h_comes h_leaves h_tried h_met f_open f_lines f_acts f_size f_next f_where f_token f_number f_sign f_word f_wrong r_all) → va_S A s.heap H locs → lv_has ls 2 [(0, .ref h), (1, .int x1)] → W p l e rmX11_numbered s m args below meth c H locs 0 0 (MQ below (qX11_numbered dC dI cI cZ cO cW h h_all h_has h_line h_act h_pile h_comes h_leaves h_tried h_met f_open f_lines f_acts f_size Q A) args s 0 0 A) (F0 m 27 ls []) := by
  obtain ⟨hx, hb, hr, hml, hown, hts, hlocks⟩ := id hC
  intro x1 f_size f_next f_where f_token f_number f_sign f_word f_wrong r_all H locs ls hw hP hD hS hl
  refine lv_aload_n hx hb dX11_numbered_27 rfl (lv_at hl 0 rfl) ?_
  have hPc := hP.sub (ws' := [(h, .inr (10, [.ref h_all, .ref h_has, .int f_size, .int f_next, .int f_where, .int f_token, .int f_number, .int f_sign, .int f_word, .int f_wrong, .int f_open, .int f_lines, .int f_acts, .ref h_line, .ref h_act, .ref h_pile, .ref h_comes, .ref h_leaves, .ref h_tried, .ref h_met])), (h_all, .inl (cI, 53700, .inl r_all))]) [0, 1] rfl
  have hDc := hD.sub (ws' := [(h, .inr (10, [.ref h_all, .ref h_has, .int f_size, .int f_next, .int f_where, .int f_token, .int f_number, .int f_sign, .int f_word, .int f_wrong, .int f_open, .int f_lines, .int f_acts, .ref h_line, .ref h_act, .ref h_pile, .ref h_comes, .ref h_leaves, .ref h_tried, .ref h_met])), (h_all, .inl (cI, 53700, .inl r_all))]) [0, 1] (by decide) rfl
  have hFc := va_free (wc := [(h, .inr (10, [.ref h_all, .ref h_has, .int f_size, .int f_next, .int f_where, .int f_token, .int f_number, .int f_sign, .int f_word, .int f_wrong, .int f_open, .int f_lines, .int f_acts, .ref h_line, .ref h_act, .ref h_pile, .ref h_comes, .ref h_leaves, .ref h_tried, .ref h_met])), (h_all, .inl (cI, 53700, .inl r_all))]) hD hS hA [0, 1] rfl
  refine va_callv (va_runV (As := []) (rest := []) ⟨hx, hb, hml, hown, hts⟩ (kX11_stops l dC dI cI cZ cO cW h h_all h_has h_line h_act h_pile h_comes h_leaves h_tried h_met H.size f_size f_next f_token f_number f_sign f_word f_open f_lines f_acts f_where f_wrong r_all _ hw) (cwV 0 hts gX11_numbered_X11_stops rfl rfl rfl (by decide +kernel) ⟨Nat.le_of_ble_eq_true rfl, Nat.le_of_ble_eq_true rfl⟩) (pv_of hPc hK hDc (va_recv hK hPc (ci := 10) (q0 := 0) rfl rfl)) rfl rfl hl.1 rfl (lv_room (Nat.le_of_ble_eq_true rfl)) dX11_numbered_28 ⟨Nat.zero_le _, Nat.zero_le _⟩) hS (fun q _ h => hFc q h) hFc (fun u t H locs ht hvm hw hB hz1 hk1 hS => ?_)
  obtain ⟨f_wrong_1, r_all_2⟩ := u
  obtain ⟨hP, hD⟩ := af_join (wr := []) (w1 := [(h, .inr (10, [.ref h_all, .ref h_has, .int f_size, .int f_next, .int f_where, .int f_token, .int f_number, .int f_sign, .int f_word, .int f_wrong_1, .int f_open, .int f_lines, .int f_acts, .ref h_line, .ref h_act, .ref h_pile, .ref h_comes, .ref h_leaves, .ref h_tried, .ref h_met])), (h_all, .inl (cI, 53700, .inl r_all_2))]) hB ht hP hD [0, 1] [] rfl rfl (by decide) (by decide) hk1 hFc
  have hP : va_P (dC, dI) vwCl [(h, .inr (10, [.ref h_all, .ref h_has, .int f_size, .int f_next, .int f_where, .int f_token, .int f_number, .int f_sign, .int f_word, .int f_wrong_1, .int f_open, .int f_lines, .int f_acts, .ref h_line, .ref h_act, .ref h_pile, .ref h_comes, .ref h_leaves, .ref h_tried, .ref h_met])), (h_all, .inl (cI, 53700, .inl r_all_2))] _ := hP
  have hD : va_D A [(h, .inr (10, [.ref h_all, .ref h_has, .int f_size, .int f_next, .int f_where, .int f_token, .int f_number, .int f_sign, .int f_word, .int f_wrong_1, .int f_open, .int f_lines, .int f_acts, .ref h_line, .ref h_act, .ref h_pile, .ref h_comes, .ref h_leaves, .ref h_tried, .ref h_met])), (h_all, .inl (cI, 53700, .inl r_all_2))] := hD
  refine lv_iload_n hx hb dX11_numbered_31 rfl (lv_at hl 1 rfl) ?_
  have hP9 := hP.sub (ws' := (vX11_numbered cI cZ h h_all h_has h_line h_act h_pile h_comes h_leaves h_tried h_met f_open f_lines f_acts f_size f_next f_where f_token f_number f_sign f_word f_wrong_1 r_all_2)) [0, 1] rfl
  have hD9 := hD.sub (ws' := (vX11_numbered cI cZ h h_all h_has h_line h_act h_pile h_comes h_leaves h_tried h_met f_open f_lines f_acts f_size f_next f_where f_token f_number f_sign f_word f_wrong_1 r_all_2)) [0, 1] (by decide) rfl
  exact W.iret (v := x1) hx hb hr (fun t ht hW => ⟨⟨x1, (f_next, f_where, f_token, f_number, f_sign, f_word, f_wrong_1, r_all_2), rfl, hw, by rw [ht]; exact hP9, va_K.moved hW.alike hK, hD9⟩, hS.F ht⟩) hS.2.2 dX11_numbered_32
set_option maxHeartbeats 4000000 in
set_option maxRecDepth 100000 in
theorem tX11_numbered_e {p : Program} {l : Launch} {e : Env} {s : State} {m : MethodId} {args : Array Value} {below : List Frame} {meth : Method} {c : Code} {dC : Nat → ClassId} {dI : Nat → Nat → Nat} {cI cZ cO cW : ClassId} {A : Nat → Prop} {h h_all h_has h_line h_act h_pile h_comes h_leaves h_tried h_met : Nat} {f_open f_lines f_acts : Int32} {Q : Int32 → Int32 → Int32 → Int32 → Int32 → Int32 → Int32 → Int32 → (Nat → Int32) → Prop} (hC : Cx p s m args meth c cX11_numbered (some .int) 2 wsX11_numbered RX11) (hK : va_K (dC, dI) vwCl (tysA cI cZ cO cW) s) (hA : ∀ q : Nat, s.heap.size ≤ q → A q) :
    ∀ (f_size : Int32) (f_next : Int32) (f_where : Int32) (f_token : Int32) (f_number : Int32) (f_sign : Int32) (f_word : Int32) (f_wrong : Int32) (r_all : Nat → Int32) (H : Heap) (locs : List Loc) (ls : Array Slot), wX11_numbered Q  f_size f_next f_where f_token f_number f_sign f_word f_wrong r_all → va_P (dC, dI) vwCl (vX11_numbered cI cZ h h_all h_has h_line h_act h_pile h_comes h_leaves h_tried h_met f_open f_lines f_acts f_size f_next f_where f_token f_number f_sign f_word f_wrong r_all) H → va_D A (vX11_numbered cI cZ h h_all h_has h_line h_act h_pile h_comes h_leaves h_tried h_met f_open f_lines f_acts f_size f_next f_where f_token f_number f_sign f_word f_wrong r_all) → va_S A s.heap H locs → lv_has ls 2 [(0, .ref h)] → W p l e rmX11_numbered s m args below meth c H locs 0 0 (MQ below (qX11_numbered dC dI cI cZ cO cW h h_all h_has h_line h_act h_pile h_comes h_leaves h_tried h_met f_open f_lines f_acts f_size Q A) args s 0 0 A) (F0 m 0 ls []) := by
  obtain ⟨hx, hb, hr, hml, hown, hts, hlocks⟩ := id hC
  intro  f_size f_next f_where f_token f_number f_sign f_word f_wrong r_all H locs ls hw hP hD hS hl
  refine lv_aload_n hx hb dX11_numbered_0 rfl (lv_at hl 0 rfl) ?_
  refine va_get (D := (dC, dI)) (ci := 10) (v := .int f_number) (C := RX11) (T := TX11) (N := 20) hx hb hts uX11_numbered_X11 hown hK hP 0 rfl rfl 6 (by decide) (hts _ mX11_numbered_0) (fun _ h9 => h9) rfl dX11_numbered_1 ?_
  refine lv_istore_n (lv' := [(1, .int f_number), (0, .ref h)]) hx hb dX11_numbered_4 rfl hl (by decide) rfl (fun ls hl => ?_)
  refine lv_aload_n hx hb dX11_numbered_5 rfl (lv_at hl 1 rfl) ?_
  refine va_get (D := (dC, dI)) (ci := 10) (v := .int f_wrong) (C := RX11) (T := TX11) (N := 20) hx hb hts uX11_numbered_X11 hown hK hP 0 rfl rfl 9 (by decide) (hts _ mX11_numbered_1) (fun _ h9 => h9) rfl dX11_numbered_6 ?_
  refine lv_if_ne (tgt := 27) hx hb dX11_numbered_9 (by decide) (fun c_3 => ?_) (fun c_3 => ?_)
  · have hw := hw.1 c_3
    exact tX11_numbered_27 hC hK hA  f_number f_size f_next f_where f_token f_number f_sign f_word f_wrong r_all _ _ ls hw (hP.sub [0, 1] rfl) (hD.sub [0, 1] (by decide) rfl) hS (lv_sub hl [1, 0] rfl)
  · have hw := hw.2 c_3
    refine lv_aload_n hx hb dX11_numbered_12 rfl (lv_at hl 1 rfl) ?_
    refine va_get (D := (dC, dI)) (ci := 10) (v := .int f_token) (C := RX11) (T := TX11) (N := 20) hx hb hts uX11_numbered_X11 hown hK hP 0 rfl rfl 5 (by decide) (hts _ mX11_numbered_2) (fun _ h9 => h9) rfl dX11_numbered_13 ?_
    refine lv_iconst (v := (1 : Int32)) hx hb dX11_numbered_16 (by decide) ?_
    refine lv_icmp_ne (tgt := 27) hx hb dX11_numbered_17 (by decide) (fun c_4 => ?_) (fun c_4 => ?_)
    · have hw := hw.1 c_4
      exact tX11_numbered_27 hC hK hA  f_number f_size f_next f_where f_token f_number f_sign f_word f_wrong r_all _ _ ls hw (hP.sub [0, 1] rfl) (hD.sub [0, 1] (by decide) rfl) hS (lv_sub hl [1, 0] rfl)
    · have hw := hw.2 c_4
      refine lv_aload_n hx hb dX11_numbered_20 rfl (lv_at hl 1 rfl) ?_
      have hPc := hP.sub (ws' := [(h, .inr (10, [.ref h_all, .ref h_has, .int f_size, .int f_next, .int f_where, .int f_token, .int f_number, .int f_sign, .int f_word, .int f_wrong, .int f_open, .int f_lines, .int f_acts, .ref h_line, .ref h_act, .ref h_pile, .ref h_comes, .ref h_leaves, .ref h_tried, .ref h_met])), (h_all, .inl (cI, 53700, .inl r_all))]) [0, 1] rfl
      have hDc := hD.sub (ws' := [(h, .inr (10, [.ref h_all, .ref h_has, .int f_size, .int f_next, .int f_where, .int f_token, .int f_number, .int f_sign, .int f_word, .int f_wrong, .int f_open, .int f_lines, .int f_acts, .ref h_line, .ref h_act, .ref h_pile, .ref h_comes, .ref h_leaves, .ref h_tried, .ref h_met])), (h_all, .inl (cI, 53700, .inl r_all))]) [0, 1] (by decide) rfl
      have hFc := va_free (wc := [(h, .inr (10, [.ref h_all, .ref h_has, .int f_size, .int f_next, .int f_where, .int f_token, .int f_number, .int f_sign, .int f_word, .int f_wrong, .int f_open, .int f_lines, .int f_acts, .ref h_line, .ref h_act, .ref h_pile, .ref h_comes, .ref h_leaves, .ref h_tried, .ref h_met])), (h_all, .inl (cI, 53700, .inl r_all))]) hD hS hA [0, 1] rfl
      refine va_callv (va_runV (As := []) (rest := []) ⟨hx, hb, hml, hown, hts⟩ (kX11_advance l dC dI cI cZ cO cW h h_all h_has h_line h_act h_pile h_comes h_leaves h_tried h_met H.size f_wrong f_open f_lines f_acts f_size f_next f_where f_token f_number f_sign f_word r_all _ hw) (cwV 0 hts gX11_numbered_X11_advance rfl rfl rfl (by decide +kernel) ⟨Nat.le_of_ble_eq_true rfl, Nat.le_of_ble_eq_true rfl⟩) (pv_of hPc hK hDc (va_recv hK hPc (ci := 10) (q0 := 0) rfl rfl)) rfl rfl hl.1 rfl (lv_room (Nat.le_of_ble_eq_true rfl)) dX11_numbered_21 ⟨Nat.zero_le _, Nat.zero_le _⟩) hS (fun q _ h => hFc q h) hFc (fun u t H locs ht hvm hw hB hz1 hk1 hS => ?_)
      obtain ⟨f_next_5, f_where_6, f_token_7, f_number_8, f_sign_9, f_word_10⟩ := u
      obtain ⟨hP, hD⟩ := af_join (wr := []) (w1 := [(h, .inr (10, [.ref h_all, .ref h_has, .int f_size, .int f_next_5, .int f_where_6, .int f_token_7, .int f_number_8, .int f_sign_9, .int f_word_10, .int f_wrong, .int f_open, .int f_lines, .int f_acts, .ref h_line, .ref h_act, .ref h_pile, .ref h_comes, .ref h_leaves, .ref h_tried, .ref h_met])), (h_all, .inl (cI, 53700, .inl r_all))]) hB ht hP hD [0, 1] [] rfl rfl (by decide) (by decide) hk1 hFc
      have hP : va_P (dC, dI) vwCl [(h, .inr (10, [.ref h_all, .ref h_has, .int f_size, .int f_next_5, .int f_where_6, .int f_token_7, .int f_number_8, .int f_sign_9, .int f_word_10, .int f_wrong, .int f_open, .int f_lines, .int f_acts, .ref h_line, .ref h_act, .ref h_pile, .ref h_comes, .ref h_leaves, .ref h_tried, .ref h_met])), (h_all, .inl (cI, 53700, .inl r_all))] _ := hP
      have hD : va_D A [(h, .inr (10, [.ref h_all, .ref h_has, .int f_size, .int f_next_5, .int f_where_6, .int f_token_7, .int f_number_8, .int f_sign_9, .int f_word_10, .int f_wrong, .int f_open, .int f_lines, .int f_acts, .ref h_line, .ref h_act, .ref h_pile, .ref h_comes, .ref h_leaves, .ref h_tried, .ref h_met])), (h_all, .inl (cI, 53700, .inl r_all))] := hD
      refine lv_goto (tgt := 31) hx hb dX11_numbered_24 (by decide) ?_
      refine lv_iload_n hx hb dX11_numbered_31 rfl (lv_at hl 0 rfl) ?_
      have hP9 := hP.sub (ws' := (vX11_numbered cI cZ h h_all h_has h_line h_act h_pile h_comes h_leaves h_tried h_met f_open f_lines f_acts f_size f_next_5 f_where_6 f_token_7 f_number_8 f_sign_9 f_word_10 f_wrong r_all)) [0, 1] rfl
      have hD9 := hD.sub (ws' := (vX11_numbered cI cZ h h_all h_has h_line h_act h_pile h_comes h_leaves h_tried h_met f_open f_lines f_acts f_size f_next_5 f_where_6 f_token_7 f_number_8 f_sign_9 f_word_10 f_wrong r_all)) [0, 1] (by decide) rfl
      exact W.iret (v := f_number) hx hb hr (fun t ht hW => ⟨⟨f_number, (f_next_5, f_where_6, f_token_7, f_number_8, f_sign_9, f_word_10, f_wrong, r_all), rfl, hw, by rw [ht]; exact hP9, va_K.moved hW.alike hK, hD9⟩, hS.F ht⟩) hS.2.2 dX11_numbered_32
set_option maxHeartbeats 4000000 in
set_option maxRecDepth 100000 in
theorem kX11_numbered (l : Launch) (dC : Nat → ClassId) (dI : Nat → Nat → Nat) (cI cZ cO cW : ClassId) (h h_all h_has h_line h_act h_pile h_comes h_leaves h_tried h_met : Nat)  (sz : Nat) (f_open : Int32) (f_lines : Int32) (f_acts : Int32) (f_size : Int32) (f_next : Int32) (f_where : Int32) (f_token : Int32) (f_number : Int32) (f_sign : Int32) (f_word : Int32) (f_wrong : Int32) (r_all : Nat → Int32)  (Q : Int32 → Int32 → Int32 → Int32 → Int32 → Int32 → Int32 → Int32 → (Nat → Int32) → Prop) (hw : wX11_numbered Q  f_size f_next f_where f_token f_number f_sign f_word f_wrong r_all) : Met l yX11_numbered wsX11_numbered rmX11_numbered (va_Pc [.ref h] (fun U => U.heap.size = sz ∧ va_P (dC, dI) vwCl (vX11_numbered cI cZ h h_all h_has h_line h_act h_pile h_comes h_leaves h_tried h_met f_open f_lines f_acts f_size f_next f_where f_token f_number f_sign f_word f_wrong r_all) U.heap ∧ va_K (dC, dI) vwCl (tysA cI cZ cO cW) U ∧ va_D (fun _ => True) (vX11_numbered cI cZ h h_all h_has h_line h_act h_pile h_comes h_leaves h_tried h_met f_open f_lines f_acts f_size f_next f_where f_token f_number f_sign f_word f_wrong r_all))) (qX11_numbered dC dI cI cZ cO cW h h_all h_has h_line h_act h_pile h_comes h_leaves h_tried h_met f_open f_lines f_acts f_size Q (va_A (vX11_numbered cI cZ h h_all h_has h_line h_act h_pile h_comes h_leaves h_tried h_met f_open f_lines f_acts f_size f_next f_where f_token f_number f_sign f_word f_wrong r_all) sz)) 0 0 (va_A (vX11_numbered cI cZ h h_all h_has h_line h_act h_pile h_comes h_leaves h_tried h_met f_open f_lines f_acts f_size f_next f_where f_token f_number f_sign f_word f_wrong r_all) sz) := by
  refine Met.ofW (cc := cX11_numbered) (maxL := 2) (ret := (some .int)) (by decide) rfl ?_
  intro p e s m args below meth c s₁ B hml hv
  obtain ⟨rfl, hsz, hP, hK, hD0⟩ := hv
  subst hsz
  have hC : Cx p s m ([.ref h] : List Value).toArray meth c cX11_numbered (some .int) 2 wsX11_numbered RX11 := ⟨B.exec, B.bytes, B.returns, hml, findClass_of_methodNamed B.named, atoms_spec (ws := wsX11_numbered) B.pre, B.notSynchronized⟩
  have hD := hD0.self (sz := s.heap.size)
  generalize hAe : va_A (vX11_numbered cI cZ h h_all h_has h_line h_act h_pile h_comes h_leaves h_tried h_met f_open f_lines f_acts f_size f_next f_where f_token f_number f_sign f_word f_wrong r_all) s.heap.size = A at hD ⊢
  have hA : ∀ q : Nat, s.heap.size ≤ q → A q := fun q h => by rw [← hAe]; exact Or.inr h
  have hl := lv_entry ([.ref h]) (n := 2) (Nat.le_of_ble_eq_true rfl)
  rw [lg_entry_eq]
  generalize (lg_sl ([.ref h]) ++ List.replicate (2 - (lg_sl ([.ref h])).length) Slot.unset).toArray = ls at hl ⊢
  exact tX11_numbered_e hC hK hA  f_size f_next f_where f_token f_number f_sign f_word f_wrong r_all _ _ ls hw hP hD va_S.rf hl

/-! X11_emit -/
def wX11_emit (Q : Int32 → (Nat → Int32) → Prop) (x1 : Int32) (x2 : Int32) (x3 : Int32) (f_acts : Int32) (r_act : Nat → Int32) : Prop :=
  (vp_in ((3 : Int32) * f_acts) 780 ∧ (vp_in (((3 : Int32) * f_acts) + (1 : Int32)) 780 ∧ (vp_in (((3 : Int32) * f_acts) + (2 : Int32)) 780 ∧ (Q (f_acts + (1 : Int32)) (upd (upd (upd r_act ((3 : Int32) * f_acts).toNatClampNeg x1) (((3 : Int32) * f_acts) + (1 : Int32)).toNatClampNeg x2) (((3 : Int32) * f_acts) + (2 : Int32)).toNatClampNeg x3)))))
abbrev vX11_emit (cI cZ : ClassId) (h h_all h_has h_line h_act h_pile h_comes h_leaves h_tried h_met : Nat) (f_size : Int32) (f_next : Int32) (f_where : Int32) (f_token : Int32) (f_number : Int32) (f_sign : Int32) (f_word : Int32) (f_wrong : Int32) (f_open : Int32) (f_lines : Int32) (f_acts : Int32) (r_act : Nat → Int32) : va_W := [(h, .inr (10, [.ref h_all, .ref h_has, .int f_size, .int f_next, .int f_where, .int f_token, .int f_number, .int f_sign, .int f_word, .int f_wrong, .int f_open, .int f_lines, .int f_acts, .ref h_line, .ref h_act, .ref h_pile, .ref h_comes, .ref h_leaves, .ref h_tried, .ref h_met])), (h_act, .inl (cI, 780, .inl r_act))]
abbrev rmX11_emit : Room := { frames := 0, cells := 0, slots := 0, locals := 0 }
abbrev qX11_emit (dC : Nat → ClassId) (dI : Nat → Nat → Nat) (cI cZ cO cW : ClassId) (h h_all h_has h_line h_act h_pile h_comes h_leaves h_tried h_met : Nat) (f_size : Int32) (f_next : Int32) (f_where : Int32) (f_token : Int32) (f_number : Int32) (f_sign : Int32) (f_word : Int32) (f_wrong : Int32) (f_open : Int32) (f_lines : Int32) (Q : Int32 → (Nat → Int32) → Prop) (A : Nat → Prop) : Array Value → State → Outcome → State → Prop := va_Qv (fun (u : Int32 × (Nat → Int32)) => Q u.1 u.2) (fun (u : Int32 × (Nat → Int32)) (t : State) => va_P (dC, dI) vwCl (vX11_emit cI cZ h h_all h_has h_line h_act h_pile h_comes h_leaves h_tried h_met f_size f_next f_where f_token f_number f_sign f_word f_wrong f_open f_lines u.1 u.2) t.heap ∧ va_K (dC, dI) vwCl (tysA cI cZ cO cW) t ∧ va_D A (vX11_emit cI cZ h h_all h_has h_line h_act h_pile h_comes h_leaves h_tried h_met f_size f_next f_where f_token f_number f_sign f_word f_wrong f_open f_lines u.1 u.2)) A
theorem mX11_emit_0 : Cond.fieldLink RX11 21 "IcePilotsModel" "act" "[I" ∈ wsX11_emit := by decide +kernel
theorem mX11_emit_1 : Cond.fieldLink RX11 155 "IcePilotsModel" "acts" "I" ∈ wsX11_emit := by decide +kernel
theorem uX11_emit_X11 : ∀ w ∈ u_ws RX11 TX11 20, w ∈ wsX11_emit := by decide +kernel
set_option maxHeartbeats 4000000 in
set_option maxRecDepth 100000 in
theorem tX11_emit_e {p : Program} {l : Launch} {e : Env} {s : State} {m : MethodId} {args : Array Value} {below : List Frame} {meth : Method} {c : Code} {dC : Nat → ClassId} {dI : Nat → Nat → Nat} {cI cZ cO cW : ClassId} {A : Nat → Prop} {h h_all h_has h_line h_act h_pile h_comes h_leaves h_tried h_met : Nat} {f_size f_next f_where f_token f_number f_sign f_word f_wrong f_open f_lines : Int32} {Q : Int32 → (Nat → Int32) → Prop} (hC : Cx p s m args meth c cX11_emit none 4 wsX11_emit RX11) (hK : va_K (dC, dI) vwCl (tysA cI cZ cO cW) s) (hA : ∀ q : Nat, s.heap.size ≤ q → A q) :
    ∀ (x1 : Int32) (x2 : Int32) (x3 : Int32) (f_acts : Int32) (r_act : Nat → Int32) (H : Heap) (locs : List Loc) (ls : Array Slot), wX11_emit Q x1 x2 x3 f_acts r_act → va_P (dC, dI) vwCl (vX11_emit cI cZ h h_all h_has h_line h_act h_pile h_comes h_leaves h_tried h_met f_size f_next f_where f_token f_number f_sign f_word f_wrong f_open f_lines f_acts r_act) H → va_D A (vX11_emit cI cZ h h_all h_has h_line h_act h_pile h_comes h_leaves h_tried h_met f_size f_next f_where f_token f_number f_sign f_word f_wrong f_open f_lines f_acts r_act) → va_S A s.heap H locs → lv_has ls 4 [(0, .ref h), (1, .int x1), (2, .int x2), (3, .int x3)] → W p l e rmX11_emit s m args below meth c H locs 0 0 (MQ below (qX11_emit dC dI cI cZ cO cW h h_all h_has h_line h_act h_pile h_comes h_leaves h_tried h_met f_size f_next f_where f_token f_number f_sign f_word f_wrong f_open f_lines Q A) args s 0 0 A) (F0 m 0 ls []) := by
  obtain ⟨hx, hb, hr, hml, hown, hts, hlocks⟩ := id hC
  intro x1 x2 x3 f_acts r_act H locs ls hw hP hD hS hl
  refine lv_aload_n hx hb dX11_emit_0 rfl (lv_at hl 0 rfl) ?_
  refine va_get (D := (dC, dI)) (ci := 10) (v := .ref h_act) (C := RX11) (T := TX11) (N := 20) hx hb hts uX11_emit_X11 hown hK hP 0 rfl rfl 14 (by decide) (hts _ mX11_emit_0) (fun _ h9 => h9) rfl dX11_emit_1 ?_
  refine lv_iconst (v := (3 : Int32)) hx hb dX11_emit_4 (by decide) ?_
  refine lv_aload_n hx hb dX11_emit_5 rfl (lv_at hl 0 rfl) ?_
  refine va_get (D := (dC, dI)) (ci := 10) (v := .int f_acts) (C := RX11) (T := TX11) (N := 20) hx hb hts uX11_emit_X11 hown hK hP 0 rfl rfl 12 (by decide) (hts _ mX11_emit_1) (fun _ h9 => h9) rfl dX11_emit_6 ?_
  refine lv_imul hx hb dX11_emit_9 ?_
  refine lv_iload_n hx hb dX11_emit_10 rfl (lv_at hl 1 rfl) ?_
  obtain ⟨h_1, hw⟩ := hw
  refine va_iast hx hb hK hP hD hS 1 0 rfl rfl h_1 dX11_emit_11 (fun H locs hP hD hS => ?_)
  have hP : va_P (dC, dI) vwCl [(h, .inr (10, [.ref h_all, .ref h_has, .int f_size, .int f_next, .int f_where, .int f_token, .int f_number, .int f_sign, .int f_word, .int f_wrong, .int f_open, .int f_lines, .int f_acts, .ref h_line, .ref h_act, .ref h_pile, .ref h_comes, .ref h_leaves, .ref h_tried, .ref h_met])), (h_act, .inl (cI, 780, .inl (upd r_act ((3 : Int32) * f_acts).toNatClampNeg x1)))] _ := hP
  have hD : va_D A [(h, .inr (10, [.ref h_all, .ref h_has, .int f_size, .int f_next, .int f_where, .int f_token, .int f_number, .int f_sign, .int f_word, .int f_wrong, .int f_open, .int f_lines, .int f_acts, .ref h_line, .ref h_act, .ref h_pile, .ref h_comes, .ref h_leaves, .ref h_tried, .ref h_met])), (h_act, .inl (cI, 780, .inl (upd r_act ((3 : Int32) * f_acts).toNatClampNeg x1)))] := hD
  refine lv_aload_n hx hb dX11_emit_12 rfl (lv_at hl 0 rfl) ?_
  refine va_get (D := (dC, dI)) (ci := 10) (v := .ref h_act) (C := RX11) (T := TX11) (N := 20) hx hb hts uX11_emit_X11 hown hK hP 0 rfl rfl 14 (by decide) (hts _ mX11_emit_0) (fun _ h9 => h9) rfl dX11_emit_13 ?_
  refine lv_iconst (v := (3 : Int32)) hx hb dX11_emit_16 (by decide) ?_
  refine lv_aload_n hx hb dX11_emit_17 rfl (lv_at hl 0 rfl) ?_
  refine va_get (D := (dC, dI)) (ci := 10) (v := .int f_acts) (C := RX11) (T := TX11) (N := 20) hx hb hts uX11_emit_X11 hown hK hP 0 rfl rfl 12 (by decide) (hts _ mX11_emit_1) (fun _ h9 => h9) rfl dX11_emit_18 ?_
  refine lv_imul hx hb dX11_emit_21 ?_
  refine lv_iconst (v := (1 : Int32)) hx hb dX11_emit_22 (by decide) ?_
  refine lv_iadd hx hb dX11_emit_23 ?_
  refine lv_iload_n hx hb dX11_emit_24 rfl (lv_at hl 2 rfl) ?_
  obtain ⟨h_2, hw⟩ := hw
  refine va_iast hx hb hK hP hD hS 1 0 rfl rfl h_2 dX11_emit_25 (fun H locs hP hD hS => ?_)
  have hP : va_P (dC, dI) vwCl [(h, .inr (10, [.ref h_all, .ref h_has, .int f_size, .int f_next, .int f_where, .int f_token, .int f_number, .int f_sign, .int f_word, .int f_wrong, .int f_open, .int f_lines, .int f_acts, .ref h_line, .ref h_act, .ref h_pile, .ref h_comes, .ref h_leaves, .ref h_tried, .ref h_met])), (h_act, .inl (cI, 780, .inl (upd (upd r_act ((3 : Int32) * f_acts).toNatClampNeg x1) (((3 : Int32) * f_acts) + (1 : Int32)).toNatClampNeg x2)))] _ := hP
  have hD : va_D A [(h, .inr (10, [.ref h_all, .ref h_has, .int f_size, .int f_next, .int f_where, .int f_token, .int f_number, .int f_sign, .int f_word, .int f_wrong, .int f_open, .int f_lines, .int f_acts, .ref h_line, .ref h_act, .ref h_pile, .ref h_comes, .ref h_leaves, .ref h_tried, .ref h_met])), (h_act, .inl (cI, 780, .inl (upd (upd r_act ((3 : Int32) * f_acts).toNatClampNeg x1) (((3 : Int32) * f_acts) + (1 : Int32)).toNatClampNeg x2)))] := hD
  refine lv_aload_n hx hb dX11_emit_26 rfl (lv_at hl 0 rfl) ?_
  refine va_get (D := (dC, dI)) (ci := 10) (v := .ref h_act) (C := RX11) (T := TX11) (N := 20) hx hb hts uX11_emit_X11 hown hK hP 0 rfl rfl 14 (by decide) (hts _ mX11_emit_0) (fun _ h9 => h9) rfl dX11_emit_27 ?_
  refine lv_iconst (v := (3 : Int32)) hx hb dX11_emit_30 (by decide) ?_
  refine lv_aload_n hx hb dX11_emit_31 rfl (lv_at hl 0 rfl) ?_
  refine va_get (D := (dC, dI)) (ci := 10) (v := .int f_acts) (C := RX11) (T := TX11) (N := 20) hx hb hts uX11_emit_X11 hown hK hP 0 rfl rfl 12 (by decide) (hts _ mX11_emit_1) (fun _ h9 => h9) rfl dX11_emit_32 ?_
  refine lv_imul hx hb dX11_emit_35 ?_
  refine lv_iconst (v := (2 : Int32)) hx hb dX11_emit_36 (by decide) ?_
  refine lv_iadd hx hb dX11_emit_37 ?_
  refine lv_iload_n hx hb dX11_emit_38 rfl (lv_at hl 3 rfl) ?_
  obtain ⟨h_3, hw⟩ := hw
  refine va_iast hx hb hK hP hD hS 1 0 rfl rfl h_3 dX11_emit_39 (fun H locs hP hD hS => ?_)
  have hP : va_P (dC, dI) vwCl [(h, .inr (10, [.ref h_all, .ref h_has, .int f_size, .int f_next, .int f_where, .int f_token, .int f_number, .int f_sign, .int f_word, .int f_wrong, .int f_open, .int f_lines, .int f_acts, .ref h_line, .ref h_act, .ref h_pile, .ref h_comes, .ref h_leaves, .ref h_tried, .ref h_met])), (h_act, .inl (cI, 780, .inl (upd (upd (upd r_act ((3 : Int32) * f_acts).toNatClampNeg x1) (((3 : Int32) * f_acts) + (1 : Int32)).toNatClampNeg x2) (((3 : Int32) * f_acts) + (2 : Int32)).toNatClampNeg x3)))] _ := hP
  have hD : va_D A [(h, .inr (10, [.ref h_all, .ref h_has, .int f_size, .int f_next, .int f_where, .int f_token, .int f_number, .int f_sign, .int f_word, .int f_wrong, .int f_open, .int f_lines, .int f_acts, .ref h_line, .ref h_act, .ref h_pile, .ref h_comes, .ref h_leaves, .ref h_tried, .ref h_met])), (h_act, .inl (cI, 780, .inl (upd (upd (upd r_act ((3 : Int32) * f_acts).toNatClampNeg x1) (((3 : Int32) * f_acts) + (1 : Int32)).toNatClampNeg x2) (((3 : Int32) * f_acts) + (2 : Int32)).toNatClampNeg x3)))] := hD
  refine lv_aload_n hx hb dX11_emit_40 rfl (lv_at hl 0 rfl) ?_
  refine lv_dup hx hb dX11_emit_41 rfl ?_
  refine va_get (D := (dC, dI)) (ci := 10) (v := .int f_acts) (C := RX11) (T := TX11) (N := 20) hx hb hts uX11_emit_X11 hown hK hP 0 rfl rfl 12 (by decide) (hts _ mX11_emit_1) (fun _ h9 => h9) rfl dX11_emit_42 ?_
  refine lv_iconst (v := (1 : Int32)) hx hb dX11_emit_45 (by decide) ?_
  refine lv_iadd hx hb dX11_emit_46 ?_
  refine va_put (D := (dC, dI)) (ci := 10) (v := .int (f_acts + (1 : Int32))) (ty := .int) (C := RX11) (T := TX11) (N := 20) hx hb hts uX11_emit_X11 tyX11 tyX11_ok nmX11 hown hK hP hD hS 0 rfl rfl 12 (by decide) (hts _ mX11_emit_1) (fun _ h9 => h9) rfl (tyX11_ok 12 (by decide)) rfl rfl (Nat.le_of_ble_eq_true rfl) dX11_emit_47 (fun H locs hP hD hS => ?_)
  have hP : va_P (dC, dI) vwCl [(h, .inr (10, [.ref h_all, .ref h_has, .int f_size, .int f_next, .int f_where, .int f_token, .int f_number, .int f_sign, .int f_word, .int f_wrong, .int f_open, .int f_lines, .int (f_acts + (1 : Int32)), .ref h_line, .ref h_act, .ref h_pile, .ref h_comes, .ref h_leaves, .ref h_tried, .ref h_met])), (h_act, .inl (cI, 780, .inl (upd (upd (upd r_act ((3 : Int32) * f_acts).toNatClampNeg x1) (((3 : Int32) * f_acts) + (1 : Int32)).toNatClampNeg x2) (((3 : Int32) * f_acts) + (2 : Int32)).toNatClampNeg x3)))] _ := hP
  have hD : va_D A [(h, .inr (10, [.ref h_all, .ref h_has, .int f_size, .int f_next, .int f_where, .int f_token, .int f_number, .int f_sign, .int f_word, .int f_wrong, .int f_open, .int f_lines, .int (f_acts + (1 : Int32)), .ref h_line, .ref h_act, .ref h_pile, .ref h_comes, .ref h_leaves, .ref h_tried, .ref h_met])), (h_act, .inl (cI, 780, .inl (upd (upd (upd r_act ((3 : Int32) * f_acts).toNatClampNeg x1) (((3 : Int32) * f_acts) + (1 : Int32)).toNatClampNeg x2) (((3 : Int32) * f_acts) + (2 : Int32)).toNatClampNeg x3)))] := hD
  have hP9 := hP.sub (ws' := (vX11_emit cI cZ h h_all h_has h_line h_act h_pile h_comes h_leaves h_tried h_met f_size f_next f_where f_token f_number f_sign f_word f_wrong f_open f_lines (f_acts + (1 : Int32)) (upd (upd (upd r_act ((3 : Int32) * f_acts).toNatClampNeg x1) (((3 : Int32) * f_acts) + (1 : Int32)).toNatClampNeg x2) (((3 : Int32) * f_acts) + (2 : Int32)).toNatClampNeg x3))) [0, 1] rfl
  have hD9 := hD.sub (ws' := (vX11_emit cI cZ h h_all h_has h_line h_act h_pile h_comes h_leaves h_tried h_met f_size f_next f_where f_token f_number f_sign f_word f_wrong f_open f_lines (f_acts + (1 : Int32)) (upd (upd (upd r_act ((3 : Int32) * f_acts).toNatClampNeg x1) (((3 : Int32) * f_acts) + (1 : Int32)).toNatClampNeg x2) (((3 : Int32) * f_acts) + (2 : Int32)).toNatClampNeg x3))) [0, 1] (by decide) rfl
  exact W.vret hx hb hr (fun t ht hW => ⟨⟨((f_acts + (1 : Int32)), (upd (upd (upd r_act ((3 : Int32) * f_acts).toNatClampNeg x1) (((3 : Int32) * f_acts) + (1 : Int32)).toNatClampNeg x2) (((3 : Int32) * f_acts) + (2 : Int32)).toNatClampNeg x3)), rfl, hw, by rw [ht]; exact hP9, va_K.moved hW.alike hK, hD9⟩, hS.F ht⟩) hS.2.2 dX11_emit_50
set_option maxHeartbeats 4000000 in
set_option maxRecDepth 100000 in
theorem kX11_emit (l : Launch) (dC : Nat → ClassId) (dI : Nat → Nat → Nat) (cI cZ cO cW : ClassId) (h h_all h_has h_line h_act h_pile h_comes h_leaves h_tried h_met : Nat)  (sz : Nat) (f_size : Int32) (f_next : Int32) (f_where : Int32) (f_token : Int32) (f_number : Int32) (f_sign : Int32) (f_word : Int32) (f_wrong : Int32) (f_open : Int32) (f_lines : Int32) (f_acts : Int32) (r_act : Nat → Int32) (x1 : Int32) (x2 : Int32) (x3 : Int32) (Q : Int32 → (Nat → Int32) → Prop) (hw : wX11_emit Q x1 x2 x3 f_acts r_act) : Met l yX11_emit wsX11_emit rmX11_emit (va_Pc [.ref h, .int x1, .int x2, .int x3] (fun U => U.heap.size = sz ∧ va_P (dC, dI) vwCl (vX11_emit cI cZ h h_all h_has h_line h_act h_pile h_comes h_leaves h_tried h_met f_size f_next f_where f_token f_number f_sign f_word f_wrong f_open f_lines f_acts r_act) U.heap ∧ va_K (dC, dI) vwCl (tysA cI cZ cO cW) U ∧ va_D (fun _ => True) (vX11_emit cI cZ h h_all h_has h_line h_act h_pile h_comes h_leaves h_tried h_met f_size f_next f_where f_token f_number f_sign f_word f_wrong f_open f_lines f_acts r_act))) (qX11_emit dC dI cI cZ cO cW h h_all h_has h_line h_act h_pile h_comes h_leaves h_tried h_met f_size f_next f_where f_token f_number f_sign f_word f_wrong f_open f_lines Q (va_A (vX11_emit cI cZ h h_all h_has h_line h_act h_pile h_comes h_leaves h_tried h_met f_size f_next f_where f_token f_number f_sign f_word f_wrong f_open f_lines f_acts r_act) sz)) 0 0 (va_A (vX11_emit cI cZ h h_all h_has h_line h_act h_pile h_comes h_leaves h_tried h_met f_size f_next f_where f_token f_number f_sign f_word f_wrong f_open f_lines f_acts r_act) sz) := by
  refine Met.ofW (cc := cX11_emit) (maxL := 4) (ret := none) (by decide) rfl ?_
  intro p e s m args below meth c s₁ B hml hv
  obtain ⟨rfl, hsz, hP, hK, hD0⟩ := hv
  subst hsz
  have hC : Cx p s m ([.ref h, .int x1, .int x2, .int x3] : List Value).toArray meth c cX11_emit none 4 wsX11_emit RX11 := ⟨B.exec, B.bytes, B.returns, hml, findClass_of_methodNamed B.named, atoms_spec (ws := wsX11_emit) B.pre, B.notSynchronized⟩
  have hD := hD0.self (sz := s.heap.size)
  generalize hAe : va_A (vX11_emit cI cZ h h_all h_has h_line h_act h_pile h_comes h_leaves h_tried h_met f_size f_next f_where f_token f_number f_sign f_word f_wrong f_open f_lines f_acts r_act) s.heap.size = A at hD ⊢
  have hA : ∀ q : Nat, s.heap.size ≤ q → A q := fun q h => by rw [← hAe]; exact Or.inr h
  have hl := lv_entry ([.ref h, .int x1, .int x2, .int x3]) (n := 4) (Nat.le_of_ble_eq_true rfl)
  rw [lg_entry_eq]
  generalize (lg_sl ([.ref h, .int x1, .int x2, .int x3]) ++ List.replicate (4 - (lg_sl ([.ref h, .int x1, .int x2, .int x3])).length) Slot.unset).toArray = ls at hl ⊢
  exact tX11_emit_e hC hK hA x1 x2 x3 f_acts r_act _ _ ls hw hP hD va_S.rf hl

/-! X11_atom -/
def wX11_atom_48 (RA : (Int32 → Int32 → Int32 → Int32 → Int32 → Int32 → Int32 → Int32 → Int32 → (Nat → Int32) → (Nat → Int32) → Prop) → Int32 → Int32 → Int32 → Int32 → Int32 → Int32 → Int32 → Int32 → Int32 → Int32 → (Nat → Int32) → (Nat → Int32) → Prop) (Q : Int32 → Int32 → Int32 → Int32 → Int32 → Int32 → Int32 → Int32 → Int32 → (Nat → Int32) → (Nat → Int32) → Prop)   (f_size : Int32) (f_next : Int32) (f_where : Int32) (f_token : Int32) (f_number : Int32) (f_sign : Int32) (f_word : Int32) (f_wrong : Int32) (f_open : Int32) (f_acts : Int32) (r_act : (Nat → Int32)) (r_all : (Nat → Int32)) : Prop :=
  (wX11_stops (fun f_wrong_1 r_all_2 => (Q f_next f_where f_token f_number f_sign f_word f_wrong_1 f_open f_acts r_act r_all_2)) f_where f_wrong r_all)
def wX11_atom_94 (RA : (Int32 → Int32 → Int32 → Int32 → Int32 → Int32 → Int32 → Int32 → Int32 → (Nat → Int32) → (Nat → Int32) → Prop) → Int32 → Int32 → Int32 → Int32 → Int32 → Int32 → Int32 → Int32 → Int32 → Int32 → (Nat → Int32) → (Nat → Int32) → Prop) (Q : Int32 → Int32 → Int32 → Int32 → Int32 → Int32 → Int32 → Int32 → Int32 → (Nat → Int32) → (Nat → Int32) → Prop)   (x1 : Int32) (f_size : Int32) (f_next : Int32) (f_where : Int32) (f_token : Int32) (f_number : Int32) (f_sign : Int32) (f_word : Int32) (f_wrong : Int32) (f_open : Int32) (f_acts : Int32) (r_act : (Nat → Int32)) (r_all : (Nat → Int32)) : Prop :=
  (wX11_advance (fun f_next_3 f_where_4 f_token_5 f_number_6 f_sign_7 f_word_8 => (wX11_numbered (fun r_17 f_next_9 f_where_10 f_token_11 f_number_12 f_sign_13 f_word_14 f_wrong_15 r_all_16 => (wX11_emit (fun f_acts_18 r_act_19 => (Q f_next_9 f_where_10 f_token_11 f_number_12 f_sign_13 f_word_14 f_wrong_15 f_open f_acts_18 r_act_19 r_all_16)) x1 f_sign r_17 f_acts r_act)) f_size f_next_3 f_where_4 f_token_5 f_number_6 f_sign_7 f_word_8 f_wrong r_all)) f_size f_next f_where f_token f_number f_sign f_word r_all)
def wX11_atom (RA : (Int32 → Int32 → Int32 → Int32 → Int32 → Int32 → Int32 → Int32 → Int32 → (Nat → Int32) → (Nat → Int32) → Prop) → Int32 → Int32 → Int32 → Int32 → Int32 → Int32 → Int32 → Int32 → Int32 → Int32 → (Nat → Int32) → (Nat → Int32) → Prop) (Q : Int32 → Int32 → Int32 → Int32 → Int32 → Int32 → Int32 → Int32 → Int32 → (Nat → Int32) → (Nat → Int32) → Prop)  (f_size : Int32) (f_next : Int32) (f_where : Int32) (f_token : Int32) (f_number : Int32) (f_sign : Int32) (f_word : Int32) (f_wrong : Int32) (f_open : Int32) (f_acts : Int32) (r_act : Nat → Int32) (r_all : Nat → Int32) : Prop :=
  (wX11_isSign (fun r_20 => ((r_20 = 0 → ((¬ f_wrong = 0 → (wX11_atom_48 RA Q f_size f_next f_where f_token f_number f_sign f_word f_wrong f_open f_acts r_act r_all)) ∧ (f_wrong = 0 → ((¬ f_token = (3 : Int32) → (wX11_atom_48 RA Q f_size f_next f_where f_token f_number f_sign f_word f_wrong f_open f_acts r_act r_all)) ∧ (f_token = (3 : Int32) → ((f_word ≤ (12 : Int32) → (wX11_advance (fun f_next_25 f_where_26 f_token_27 f_number_28 f_sign_29 f_word_30 => (wX11_isSign (fun r_31 => ((¬ r_31 = 0 → (wX11_atom_94 RA Q f_word f_size f_next_25 f_where_26 f_token_27 f_number_28 f_sign_29 f_word_30 f_wrong f_open f_acts r_act r_all)) ∧ (r_31 = 0 → (wX11_isSign (fun r_33 => ((¬ r_33 = 0 → (wX11_atom_94 RA Q f_word f_size f_next_25 f_where_26 f_token_27 f_number_28 f_sign_29 f_word_30 f_wrong f_open f_acts r_act r_all)) ∧ (r_33 = 0 → (wX11_isSign (fun r_35 => ((¬ r_35 = 0 → (wX11_atom_94 RA Q f_word f_size f_next_25 f_where_26 f_token_27 f_number_28 f_sign_29 f_word_30 f_wrong f_open f_acts r_act r_all)) ∧ (r_35 = 0 → (wX11_stops (fun f_wrong_37 r_all_38 => (Q f_next_25 f_where_26 f_token_27 f_number_28 f_sign_29 f_word_30 f_wrong_37 f_open f_acts r_act r_all_38)) f_where_26 f_wrong r_all)))) (62 : Int32) f_token_27 f_sign_29 f_wrong)))) (60 : Int32) f_token_27 f_sign_29 f_wrong)))) (61 : Int32) f_token_27 f_sign_29 f_wrong)) f_size f_next f_where f_token f_number f_sign f_word r_all)) ∧ (¬ f_word ≤ (12 : Int32) → (wX11_atom_48 RA Q f_size f_next f_where f_token f_number f_sign f_word f_wrong f_open f_acts r_act r_all)))))))) ∧ (¬ r_20 = 0 → (wX11_advance (fun f_next_39 f_where_40 f_token_41 f_number_42 f_sign_43 f_word_44 => (RA (fun f_next_45 f_where_46 f_token_47 f_number_48 f_sign_49 f_word_50 f_wrong_51 f_open_52 f_acts_53 r_act_54 r_all_55 => (wX11_must (fun f_next_56 f_where_57 f_token_58 f_number_59 f_sign_60 f_word_61 f_wrong_62 r_all_63 => (Q f_next_56 f_where_57 f_token_58 f_number_59 f_sign_60 f_word_61 f_wrong_62 f_open_52 f_acts_53 r_act_54 r_all_63)) (41 : Int32) f_size f_next_45 f_where_46 f_token_47 f_number_48 f_sign_49 f_word_50 f_wrong_51 r_all_55)) f_size f_next_39 f_where_40 f_token_41 f_number_42 f_sign_43 f_word_44 f_wrong f_open f_acts r_act r_all)) f_size f_next f_where f_token f_number f_sign f_word r_all)))) (40 : Int32) f_token f_sign f_wrong)
abbrev vX11_atom (cI cZ : ClassId) (h h_all h_has h_line h_act h_pile h_comes h_leaves h_tried h_met : Nat) (f_lines : Int32) (f_size : Int32) (f_next : Int32) (f_where : Int32) (f_token : Int32) (f_number : Int32) (f_sign : Int32) (f_word : Int32) (f_wrong : Int32) (f_open : Int32) (f_acts : Int32) (r_act : Nat → Int32) (r_all : Nat → Int32) : va_W := [(h, .inr (10, [.ref h_all, .ref h_has, .int f_size, .int f_next, .int f_where, .int f_token, .int f_number, .int f_sign, .int f_word, .int f_wrong, .int f_open, .int f_lines, .int f_acts, .ref h_line, .ref h_act, .ref h_pile, .ref h_comes, .ref h_leaves, .ref h_tried, .ref h_met])), (h_act, .inl (cI, 780, .inl r_act)), (h_all, .inl (cI, 53700, .inl r_all))]
abbrev rmX11_atom (d : Nat) : Room := { frames := 4 * d + 6, cells := 0, slots := 0, locals := 83 * d + 129 }
abbrev qX11_atom (dC : Nat → ClassId) (dI : Nat → Nat → Nat) (cI cZ cO cW : ClassId) (h h_all h_has h_line h_act h_pile h_comes h_leaves h_tried h_met : Nat) (f_lines : Int32) (f_size : Int32) (Q : Int32 → Int32 → Int32 → Int32 → Int32 → Int32 → Int32 → Int32 → Int32 → (Nat → Int32) → (Nat → Int32) → Prop) (A : Nat → Prop) : Array Value → State → Outcome → State → Prop := va_Qv (fun (u : Int32 × Int32 × Int32 × Int32 × Int32 × Int32 × Int32 × Int32 × Int32 × (Nat → Int32) × (Nat → Int32)) => Q u.1 u.2.1 u.2.2.1 u.2.2.2.1 u.2.2.2.2.1 u.2.2.2.2.2.1 u.2.2.2.2.2.2.1 u.2.2.2.2.2.2.2.1 u.2.2.2.2.2.2.2.2.1 u.2.2.2.2.2.2.2.2.2.1 u.2.2.2.2.2.2.2.2.2.2) (fun (u : Int32 × Int32 × Int32 × Int32 × Int32 × Int32 × Int32 × Int32 × Int32 × (Nat → Int32) × (Nat → Int32)) (t : State) => va_P (dC, dI) vwCl (vX11_atom cI cZ h h_all h_has h_line h_act h_pile h_comes h_leaves h_tried h_met f_lines f_size u.1 u.2.1 u.2.2.1 u.2.2.2.1 u.2.2.2.2.1 u.2.2.2.2.2.1 u.2.2.2.2.2.2.1 u.2.2.2.2.2.2.2.1 u.2.2.2.2.2.2.2.2.1 u.2.2.2.2.2.2.2.2.2.1 u.2.2.2.2.2.2.2.2.2.2) t.heap ∧ va_K (dC, dI) vwCl (tysA cI cZ cO cW) t ∧ va_D A (vX11_atom cI cZ h h_all h_has h_line h_act h_pile h_comes h_leaves h_tried h_met f_lines f_size u.1 u.2.1 u.2.2.1 u.2.2.2.1 u.2.2.2.2.1 u.2.2.2.2.2.1 u.2.2.2.2.2.2.1 u.2.2.2.2.2.2.2.1 u.2.2.2.2.2.2.2.2.1 u.2.2.2.2.2.2.2.2.2.1 u.2.2.2.2.2.2.2.2.2.2)) A
theorem mX11_atom_0 : Cond.fieldLink RX11 133 "IcePilotsModel" "sign" "I" ∈ wsX11_atom := by decide +kernel
theorem mX11_atom_1 : Cond.fieldLink RX11 139 "IcePilotsModel" "wrong" "Z" ∈ wsX11_atom := by decide +kernel
theorem mX11_atom_2 : Cond.fieldLink RX11 113 "IcePilotsModel" "token" "I" ∈ wsX11_atom := by decide +kernel
theorem mX11_atom_3 : Cond.fieldLink RX11 124 "IcePilotsModel" "word" "I" ∈ wsX11_atom := by decide +kernel
theorem uX11_atom_X11 : ∀ w ∈ u_ws RX11 TX11 20, w ∈ wsX11_atom := by decide +kernel
set_option maxHeartbeats 4000000 in
set_option maxRecDepth 100000 in
theorem tX11_atom_48 {p : Program} {l : Launch} {e : Env} {s : State} {m : MethodId} {args : Array Value} {below : List Frame} {meth : Method} {c : Code} {dC : Nat → ClassId} {dI : Nat → Nat → Nat} {cI cZ cO cW : ClassId} {A : Nat → Prop} {h h_all h_has h_line h_act h_pile h_comes h_leaves h_tried h_met : Nat} {f_lines : Int32} {Q : Int32 → Int32 → Int32 → Int32 → Int32 → Int32 → Int32 → Int32 → Int32 → (Nat → Int32) → (Nat → Int32) → Prop} {d : Nat} {RA : (Int32 → Int32 → Int32 → Int32 → Int32 → Int32 → Int32 → Int32 → Int32 → (Nat → Int32) → (Nat → Int32) → Prop) → Int32 → Int32 → Int32 → Int32 → Int32 → Int32 → Int32 → Int32 → Int32 → Int32 → (Nat → Int32) → (Nat → Int32) → Prop}  (hC : Cx p s m args meth c cX11_atom none 3 wsX11_atom RX11) (hK : va_K (dC, dI) vwCl (tysA cI cZ cO cW) s) (hA : ∀ q : Nat, s.heap.size ≤ q → A q) (hRec : ∀ (h h_all h_has h_line h_act h_pile h_comes h_leaves h_tried h_met : Nat) (sz : Nat) (f_lines : Int32) (f_size : Int32) (f_next : Int32) (f_where : Int32) (f_token : Int32) (f_number : Int32) (f_sign : Int32) (f_word : Int32) (f_wrong : Int32) (f_open : Int32) (f_acts : Int32) (r_act : Nat → Int32) (r_all : Nat → Int32)  (Q : Int32 → Int32 → Int32 → Int32 → Int32 → Int32 → Int32 → Int32 → Int32 → (Nat → Int32) → (Nat → Int32) → Prop), RA Q  f_size f_next f_where f_token f_number f_sign f_word f_wrong f_open f_acts r_act r_all → Met l yX11_anyOf wsX11_anyOf (rmX11_anyOf_d d) (va_Pc [.ref h] (fun U => U.heap.size = sz ∧ va_P (dC, dI) vwCl (vX11_anyOf cI cZ h h_all h_has h_line h_act h_pile h_comes h_leaves h_tried h_met f_lines f_size f_next f_where f_token f_number f_sign f_word f_wrong f_open f_acts r_act r_all) U.heap ∧ va_K (dC, dI) vwCl (tysA cI cZ cO cW) U ∧ va_D (fun _ => True) (vX11_anyOf cI cZ h h_all h_has h_line h_act h_pile h_comes h_leaves h_tried h_met f_lines f_size f_next f_where f_token f_number f_sign f_word f_wrong f_open f_acts r_act r_all))) (qX11_anyOf dC dI cI cZ cO cW h h_all h_has h_line h_act h_pile h_comes h_leaves h_tried h_met f_lines f_size Q (va_A (vX11_anyOf cI cZ h h_all h_has h_line h_act h_pile h_comes h_leaves h_tried h_met f_lines f_size f_next f_where f_token f_number f_sign f_word f_wrong f_open f_acts r_act r_all) sz)) 0 0 (va_A (vX11_anyOf cI cZ h h_all h_has h_line h_act h_pile h_comes h_leaves h_tried h_met f_lines f_size f_next f_where f_token f_number f_sign f_word f_wrong f_open f_acts r_act r_all) sz)) :
    ∀ (f_size : Int32) (f_next : Int32) (f_where : Int32) (f_token : Int32) (f_number : Int32) (f_sign : Int32) (f_word : Int32) (f_wrong : Int32) (f_open : Int32) (f_acts : Int32) (r_act : (Nat → Int32)) (r_all : (Nat → Int32)) (H : Heap) (locs : List Loc) (ls : Array Slot), wX11_atom_48 RA Q  f_size f_next f_where f_token f_number f_sign f_word f_wrong f_open f_acts r_act r_all → va_P (dC, dI) vwCl (vX11_atom cI cZ h h_all h_has h_line h_act h_pile h_comes h_leaves h_tried h_met f_lines f_size f_next f_where f_token f_number f_sign f_word f_wrong f_open f_acts r_act r_all) H → va_D A (vX11_atom cI cZ h h_all h_has h_line h_act h_pile h_comes h_leaves h_tried h_met f_lines f_size f_next f_where f_token f_number f_sign f_word f_wrong f_open f_acts r_act r_all) → va_S A s.heap H locs → lv_has ls 3 [(0, .ref h)] → W p l e (rmX11_atom d) s m args below meth c H locs 0 0 (MQ below (qX11_atom dC dI cI cZ cO cW h h_all h_has h_line h_act h_pile h_comes h_leaves h_tried h_met f_lines f_size Q A) args s 0 0 A) (F0 m 48 ls []) := by
  obtain ⟨hx, hb, hr, hml, hown, hts, hlocks⟩ := id hC
  intro f_size f_next f_where f_token f_number f_sign f_word f_wrong f_open f_acts r_act r_all H locs ls hw hP hD hS hl
  refine lv_aload_n hx hb dX11_atom_48 rfl (lv_at hl 0 rfl) ?_
  have hPc := hP.sub (ws' := [(h, .inr (10, [.ref h_all, .ref h_has, .int f_size, .int f_next, .int f_where, .int f_token, .int f_number, .int f_sign, .int f_word, .int f_wrong, .int f_open, .int f_lines, .int f_acts, .ref h_line, .ref h_act, .ref h_pile, .ref h_comes, .ref h_leaves, .ref h_tried, .ref h_met])), (h_all, .inl (cI, 53700, .inl r_all))]) [0, 2] rfl
  have hDc := hD.sub (ws' := [(h, .inr (10, [.ref h_all, .ref h_has, .int f_size, .int f_next, .int f_where, .int f_token, .int f_number, .int f_sign, .int f_word, .int f_wrong, .int f_open, .int f_lines, .int f_acts, .ref h_line, .ref h_act, .ref h_pile, .ref h_comes, .ref h_leaves, .ref h_tried, .ref h_met])), (h_all, .inl (cI, 53700, .inl r_all))]) [0, 2] (by decide) rfl
  have hFc := va_free (wc := [(h, .inr (10, [.ref h_all, .ref h_has, .int f_size, .int f_next, .int f_where, .int f_token, .int f_number, .int f_sign, .int f_word, .int f_wrong, .int f_open, .int f_lines, .int f_acts, .ref h_line, .ref h_act, .ref h_pile, .ref h_comes, .ref h_leaves, .ref h_tried, .ref h_met])), (h_all, .inl (cI, 53700, .inl r_all))]) hD hS hA [0, 2] rfl
  refine va_callv (va_runV (As := []) (rest := []) ⟨hx, hb, hml, hown, hts⟩ (kX11_stops l dC dI cI cZ cO cW h h_all h_has h_line h_act h_pile h_comes h_leaves h_tried h_met H.size f_size f_next f_token f_number f_sign f_word f_open f_lines f_acts f_where f_wrong r_all _ hw) (cwV 0 hts gX11_atom_X11_stops rfl rfl rfl (by decide +kernel) ⟨(show (0) + 1 ≤ 4 * d + 6 by omega), (show 8 + (1 + 11) + (0) ≤ 83 * d + 129 by omega)⟩) (pv_of hPc hK hDc (va_recv hK hPc (ci := 10) (q0 := 0) rfl rfl)) rfl rfl hl.1 rfl (lv_room (Nat.le_of_ble_eq_true rfl)) dX11_atom_49 ⟨Nat.zero_le _, Nat.zero_le _⟩) hS (fun q _ h => hFc q h) hFc (fun u t H locs ht hvm hw hB hz1 hk1 hS => ?_)
  obtain ⟨f_wrong_1, r_all_2⟩ := u
  obtain ⟨hP, hD⟩ := af_join (wr := [(h_act, .inl (cI, 780, .inl r_act))]) (w1 := [(h, .inr (10, [.ref h_all, .ref h_has, .int f_size, .int f_next, .int f_where, .int f_token, .int f_number, .int f_sign, .int f_word, .int f_wrong_1, .int f_open, .int f_lines, .int f_acts, .ref h_line, .ref h_act, .ref h_pile, .ref h_comes, .ref h_leaves, .ref h_tried, .ref h_met])), (h_all, .inl (cI, 53700, .inl r_all_2))]) hB ht hP hD [0, 2] [1] rfl rfl (by decide) (by decide) hk1 hFc
  have hP : va_P (dC, dI) vwCl [(h_act, .inl (cI, 780, .inl r_act)), (h, .inr (10, [.ref h_all, .ref h_has, .int f_size, .int f_next, .int f_where, .int f_token, .int f_number, .int f_sign, .int f_word, .int f_wrong_1, .int f_open, .int f_lines, .int f_acts, .ref h_line, .ref h_act, .ref h_pile, .ref h_comes, .ref h_leaves, .ref h_tried, .ref h_met])), (h_all, .inl (cI, 53700, .inl r_all_2))] _ := hP
  have hD : va_D A [(h_act, .inl (cI, 780, .inl r_act)), (h, .inr (10, [.ref h_all, .ref h_has, .int f_size, .int f_next, .int f_where, .int f_token, .int f_number, .int f_sign, .int f_word, .int f_wrong_1, .int f_open, .int f_lines, .int f_acts, .ref h_line, .ref h_act, .ref h_pile, .ref h_comes, .ref h_leaves, .ref h_tried, .ref h_met])), (h_all, .inl (cI, 53700, .inl r_all_2))] := hD
  have hP9 := hP.sub (ws' := (vX11_atom cI cZ h h_all h_has h_line h_act h_pile h_comes h_leaves h_tried h_met f_lines f_size f_next f_where f_token f_number f_sign f_word f_wrong_1 f_open f_acts r_act r_all_2)) [1, 0, 2] rfl
  have hD9 := hD.sub (ws' := (vX11_atom cI cZ h h_all h_has h_line h_act h_pile h_comes h_leaves h_tried h_met f_lines f_size f_next f_where f_token f_number f_sign f_word f_wrong_1 f_open f_acts r_act r_all_2)) [1, 0, 2] (by decide) rfl
  exact W.vret hx hb hr (fun t ht hW => ⟨⟨(f_next, f_where, f_token, f_number, f_sign, f_word, f_wrong_1, f_open, f_acts, r_act, r_all_2), rfl, hw, by rw [ht]; exact hP9, va_K.moved hW.alike hK, hD9⟩, hS.F ht⟩) hS.2.2 dX11_atom_52
set_option maxHeartbeats 4000000 in
set_option maxRecDepth 100000 in
theorem tX11_atom_94 {p : Program} {l : Launch} {e : Env} {s : State} {m : MethodId} {args : Array Value} {below : List Frame} {meth : Method} {c : Code} {dC : Nat → ClassId} {dI : Nat → Nat → Nat} {cI cZ cO cW : ClassId} {A : Nat → Prop} {h h_all h_has h_line h_act h_pile h_comes h_leaves h_tried h_met : Nat} {f_lines : Int32} {Q : Int32 → Int32 → Int32 → Int32 → Int32 → Int32 → Int32 → Int32 → Int32 → (Nat → Int32) → (Nat → Int32) → Prop} {d : Nat} {RA : (Int32 → Int32 → Int32 → Int32 → Int32 → Int32 → Int32 → Int32 → Int32 → (Nat → Int32) → (Nat → Int32) → Prop) → Int32 → Int32 → Int32 → Int32 → Int32 → Int32 → Int32 → Int32 → Int32 → Int32 → (Nat → Int32) → (Nat → Int32) → Prop}  (hC : Cx p s m args meth c cX11_atom none 3 wsX11_atom RX11) (hK : va_K (dC, dI) vwCl (tysA cI cZ cO cW) s) (hA : ∀ q : Nat, s.heap.size ≤ q → A q) (hRec : ∀ (h h_all h_has h_line h_act h_pile h_comes h_leaves h_tried h_met : Nat) (sz : Nat) (f_lines : Int32) (f_size : Int32) (f_next : Int32) (f_where : Int32) (f_token : Int32) (f_number : Int32) (f_sign : Int32) (f_word : Int32) (f_wrong : Int32) (f_open : Int32) (f_acts : Int32) (r_act : Nat → Int32) (r_all : Nat → Int32)  (Q : Int32 → Int32 → Int32 → Int32 → Int32 → Int32 → Int32 → Int32 → Int32 → (Nat → Int32) → (Nat → Int32) → Prop), RA Q  f_size f_next f_where f_token f_number f_sign f_word f_wrong f_open f_acts r_act r_all → Met l yX11_anyOf wsX11_anyOf (rmX11_anyOf_d d) (va_Pc [.ref h] (fun U => U.heap.size = sz ∧ va_P (dC, dI) vwCl (vX11_anyOf cI cZ h h_all h_has h_line h_act h_pile h_comes h_leaves h_tried h_met f_lines f_size f_next f_where f_token f_number f_sign f_word f_wrong f_open f_acts r_act r_all) U.heap ∧ va_K (dC, dI) vwCl (tysA cI cZ cO cW) U ∧ va_D (fun _ => True) (vX11_anyOf cI cZ h h_all h_has h_line h_act h_pile h_comes h_leaves h_tried h_met f_lines f_size f_next f_where f_token f_number f_sign f_word f_wrong f_open f_acts r_act r_all))) (qX11_anyOf dC dI cI cZ cO cW h h_all h_has h_line h_act h_pile h_comes h_leaves h_tried h_met f_lines f_size Q (va_A (vX11_anyOf cI cZ h h_all h_has h_line h_act h_pile h_comes h_leaves h_tried h_met f_lines f_size f_next f_where f_token f_number f_sign f_word f_wrong f_open f_acts r_act r_all) sz)) 0 0 (va_A (vX11_anyOf cI cZ h h_all h_has h_line h_act h_pile h_comes h_leaves h_tried h_met f_lines f_size f_next f_where f_token f_number f_sign f_word f_wrong f_open f_acts r_act r_all) sz)) :
    ∀ (x1 : Int32) (f_size : Int32) (f_next : Int32) (f_where : Int32) (f_token : Int32) (f_number : Int32) (f_sign : Int32) (f_word : Int32) (f_wrong : Int32) (f_open : Int32) (f_acts : Int32) (r_act : (Nat → Int32)) (r_all : (Nat → Int32)) (H : Heap) (locs : List Loc) (ls : Array Slot), wX11_atom_94 RA Q  x1 f_size f_next f_where f_token f_number f_sign f_word f_wrong f_open f_acts r_act r_all → va_P (dC, dI) vwCl (vX11_atom cI cZ h h_all h_has h_line h_act h_pile h_comes h_leaves h_tried h_met f_lines f_size f_next f_where f_token f_number f_sign f_word f_wrong f_open f_acts r_act r_all) H → va_D A (vX11_atom cI cZ h h_all h_has h_line h_act h_pile h_comes h_leaves h_tried h_met f_lines f_size f_next f_where f_token f_number f_sign f_word f_wrong f_open f_acts r_act r_all) → va_S A s.heap H locs → lv_has ls 3 [(0, .ref h), (1, .int x1)] → W p l e (rmX11_atom d) s m args below meth c H locs 0 0 (MQ below (qX11_atom dC dI cI cZ cO cW h h_all h_has h_line h_act h_pile h_comes h_leaves h_tried h_met f_lines f_size Q A) args s 0 0 A) (F0 m 94 ls []) := by
  obtain ⟨hx, hb, hr, hml, hown, hts, hlocks⟩ := id hC
  intro x1 f_size f_next f_where f_token f_number f_sign f_word f_wrong f_open f_acts r_act r_all H locs ls hw hP hD hS hl
  refine lv_aload_n hx hb dX11_atom_94 rfl (lv_at hl 0 rfl) ?_
  refine va_get (D := (dC, dI)) (ci := 10) (v := .int f_sign) (C := RX11) (T := TX11) (N := 20) hx hb hts uX11_atom_X11 hown hK hP 0 rfl rfl 7 (by decide) (hts _ mX11_atom_0) (fun _ h9 => h9) rfl dX11_atom_95 ?_
  refine lv_istore_n (lv' := [(2, .int f_sign), (0, .ref h), (1, .int x1)]) hx hb dX11_atom_98 rfl hl (by decide) rfl (fun ls hl => ?_)
  refine lv_aload_n hx hb dX11_atom_99 rfl (lv_at hl 1 rfl) ?_
  have hPc := hP.sub (ws' := [(h, .inr (10, [.ref h_all, .ref h_has, .int f_size, .int f_next, .int f_where, .int f_token, .int f_number, .int f_sign, .int f_word, .int f_wrong, .int f_open, .int f_lines, .int f_acts, .ref h_line, .ref h_act, .ref h_pile, .ref h_comes, .ref h_leaves, .ref h_tried, .ref h_met])), (h_all, .inl (cI, 53700, .inl r_all))]) [0, 2] rfl
  have hDc := hD.sub (ws' := [(h, .inr (10, [.ref h_all, .ref h_has, .int f_size, .int f_next, .int f_where, .int f_token, .int f_number, .int f_sign, .int f_word, .int f_wrong, .int f_open, .int f_lines, .int f_acts, .ref h_line, .ref h_act, .ref h_pile, .ref h_comes, .ref h_leaves, .ref h_tried, .ref h_met])), (h_all, .inl (cI, 53700, .inl r_all))]) [0, 2] (by decide) rfl
  have hFc := va_free (wc := [(h, .inr (10, [.ref h_all, .ref h_has, .int f_size, .int f_next, .int f_where, .int f_token, .int f_number, .int f_sign, .int f_word, .int f_wrong, .int f_open, .int f_lines, .int f_acts, .ref h_line, .ref h_act, .ref h_pile, .ref h_comes, .ref h_leaves, .ref h_tried, .ref h_met])), (h_all, .inl (cI, 53700, .inl r_all))]) hD hS hA [0, 2] rfl
  refine va_callv (va_runV (As := []) (rest := []) ⟨hx, hb, hml, hown, hts⟩ (kX11_advance l dC dI cI cZ cO cW h h_all h_has h_line h_act h_pile h_comes h_leaves h_tried h_met H.size f_wrong f_open f_lines f_acts f_size f_next f_where f_token f_number f_sign f_word r_all _ hw) (cwV 0 hts gX11_atom_X11_advance rfl rfl rfl (by decide +kernel) ⟨(show (3) + 1 ≤ 4 * d + 6 by omega), (show 8 + (4 + 11) + (65) ≤ 83 * d + 129 by omega)⟩) (pv_of hPc hK hDc (va_recv hK hPc (ci := 10) (q0 := 0) rfl rfl)) rfl rfl hl.1 rfl (lv_room (Nat.le_of_ble_eq_true rfl)) dX11_atom_100 ⟨Nat.zero_le _, Nat.zero_le _⟩) hS (fun q _ h => hFc q h) hFc (fun u t H locs ht hvm hw hB hz1 hk1 hS => ?_)
  obtain ⟨f_next_3, f_where_4, f_token_5, f_number_6, f_sign_7, f_word_8⟩ := u
  obtain ⟨hP, hD⟩ := af_join (wr := [(h_act, .inl (cI, 780, .inl r_act))]) (w1 := [(h, .inr (10, [.ref h_all, .ref h_has, .int f_size, .int f_next_3, .int f_where_4, .int f_token_5, .int f_number_6, .int f_sign_7, .int f_word_8, .int f_wrong, .int f_open, .int f_lines, .int f_acts, .ref h_line, .ref h_act, .ref h_pile, .ref h_comes, .ref h_leaves, .ref h_tried, .ref h_met])), (h_all, .inl (cI, 53700, .inl r_all))]) hB ht hP hD [0, 2] [1] rfl rfl (by decide) (by decide) hk1 hFc
  have hP : va_P (dC, dI) vwCl [(h_act, .inl (cI, 780, .inl r_act)), (h, .inr (10, [.ref h_all, .ref h_has, .int f_size, .int f_next_3, .int f_where_4, .int f_token_5, .int f_number_6, .int f_sign_7, .int f_word_8, .int f_wrong, .int f_open, .int f_lines, .int f_acts, .ref h_line, .ref h_act, .ref h_pile, .ref h_comes, .ref h_leaves, .ref h_tried, .ref h_met])), (h_all, .inl (cI, 53700, .inl r_all))] _ := hP
  have hD : va_D A [(h_act, .inl (cI, 780, .inl r_act)), (h, .inr (10, [.ref h_all, .ref h_has, .int f_size, .int f_next_3, .int f_where_4, .int f_token_5, .int f_number_6, .int f_sign_7, .int f_word_8, .int f_wrong, .int f_open, .int f_lines, .int f_acts, .ref h_line, .ref h_act, .ref h_pile, .ref h_comes, .ref h_leaves, .ref h_tried, .ref h_met])), (h_all, .inl (cI, 53700, .inl r_all))] := hD
  refine lv_aload_n hx hb dX11_atom_103 rfl (lv_at hl 1 rfl) ?_
  refine lv_iload_n hx hb dX11_atom_104 rfl (lv_at hl 2 rfl) ?_
  refine lv_iload_n hx hb dX11_atom_105 rfl (lv_at hl 0 rfl) ?_
  refine lv_aload_n hx hb dX11_atom_106 rfl (lv_at hl 1 rfl) ?_
  have hPc := hP.sub (ws' := [(h, .inr (10, [.ref h_all, .ref h_has, .int f_size, .int f_next_3, .int f_where_4, .int f_token_5, .int f_number_6, .int f_sign_7, .int f_word_8, .int f_wrong, .int f_open, .int f_lines, .int f_acts, .ref h_line, .ref h_act, .ref h_pile, .ref h_comes, .ref h_leaves, .ref h_tried, .ref h_met])), (h_all, .inl (cI, 53700, .inl r_all))]) [1, 2] rfl
  have hDc := hD.sub (ws' := [(h, .inr (10, [.ref h_all, .ref h_has, .int f_size, .int f_next_3, .int f_where_4, .int f_token_5, .int f_number_6, .int f_sign_7, .int f_word_8, .int f_wrong, .int f_open, .int f_lines, .int f_acts, .ref h_line, .ref h_act, .ref h_pile, .ref h_comes, .ref h_leaves, .ref h_tried, .ref h_met])), (h_all, .inl (cI, 53700, .inl r_all))]) [1, 2] (by decide) rfl
  have hFc := va_free (wc := [(h, .inr (10, [.ref h_all, .ref h_has, .int f_size, .int f_next_3, .int f_where_4, .int f_token_5, .int f_number_6, .int f_sign_7, .int f_word_8, .int f_wrong, .int f_open, .int f_lines, .int f_acts, .ref h_line, .ref h_act, .ref h_pile, .ref h_comes, .ref h_leaves, .ref h_tried, .ref h_met])), (h_all, .inl (cI, 53700, .inl r_all))]) hD hS hA [1, 2] rfl
  refine va_calli (va_runV (As := []) (rest := [.int f_sign, .int x1, .ref h]) ⟨hx, hb, hml, hown, hts⟩ (kX11_numbered l dC dI cI cZ cO cW h h_all h_has h_line h_act h_pile h_comes h_leaves h_tried h_met H.size f_open f_lines f_acts f_size f_next_3 f_where_4 f_token_5 f_number_6 f_sign_7 f_word_8 f_wrong r_all _ hw) (cwV 0 hts gX11_atom_X11_numbered rfl rfl rfl (by decide +kernel) ⟨(show (4) + 1 ≤ 4 * d + 6 by omega), (show 8 + (2 + 11) + (88) ≤ 83 * d + 129 by omega)⟩) (pv_of hPc hK hDc (va_recv hK hPc (ci := 10) (q0 := 0) rfl rfl)) rfl rfl hl.1 rfl (lv_room (Nat.le_of_ble_eq_true rfl)) dX11_atom_107 ⟨Nat.zero_le _, Nat.zero_le _⟩) hS (fun q _ h => hFc q h) hFc (fun r_17 u t H locs ht hvm hw hB hz1 hk1 hS => ?_)
  obtain ⟨f_next_9, f_where_10, f_token_11, f_number_12, f_sign_13, f_word_14, f_wrong_15, r_all_16⟩ := u
  obtain ⟨hP, hD⟩ := af_join (wr := [(h_act, .inl (cI, 780, .inl r_act))]) (w1 := [(h, .inr (10, [.ref h_all, .ref h_has, .int f_size, .int f_next_9, .int f_where_10, .int f_token_11, .int f_number_12, .int f_sign_13, .int f_word_14, .int f_wrong_15, .int f_open, .int f_lines, .int f_acts, .ref h_line, .ref h_act, .ref h_pile, .ref h_comes, .ref h_leaves, .ref h_tried, .ref h_met])), (h_all, .inl (cI, 53700, .inl r_all_16))]) hB ht hP hD [1, 2] [0] rfl rfl (by decide) (by decide) hk1 hFc
  have hP : va_P (dC, dI) vwCl [(h_act, .inl (cI, 780, .inl r_act)), (h, .inr (10, [.ref h_all, .ref h_has, .int f_size, .int f_next_9, .int f_where_10, .int f_token_11, .int f_number_12, .int f_sign_13, .int f_word_14, .int f_wrong_15, .int f_open, .int f_lines, .int f_acts, .ref h_line, .ref h_act, .ref h_pile, .ref h_comes, .ref h_leaves, .ref h_tried, .ref h_met])), (h_all, .inl (cI, 53700, .inl r_all_16))] _ := hP
  have hD : va_D A [(h_act, .inl (cI, 780, .inl r_act)), (h, .inr (10, [.ref h_all, .ref h_has, .int f_size, .int f_next_9, .int f_where_10, .int f_token_11, .int f_number_12, .int f_sign_13, .int f_word_14, .int f_wrong_15, .int f_open, .int f_lines, .int f_acts, .ref h_line, .ref h_act, .ref h_pile, .ref h_comes, .ref h_leaves, .ref h_tried, .ref h_met])), (h_all, .inl (cI, 53700, .inl r_all_16))] := hD
  have hPc := hP.sub (ws' := [(h, .inr (10, [.ref h_all, .ref h_has, .int f_size, .int f_next_9, .int f_where_10, .int f_token_11, .int f_number_12, .int f_sign_13, .int f_word_14, .int f_wrong_15, .int f_open, .int f_lines, .int f_acts, .ref h_line, .ref h_act, .ref h_pile, .ref h_comes, .ref h_leaves, .ref h_tried, .ref h_met])), (h_act, .inl (cI, 780, .inl r_act))]) [1, 0] rfl
  have hDc := hD.sub (ws' := [(h, .inr (10, [.ref h_all, .ref h_has, .int f_size, .int f_next_9, .int f_where_10, .int f_token_11, .int f_number_12, .int f_sign_13, .int f_word_14, .int f_wrong_15, .int f_open, .int f_lines, .int f_acts, .ref h_line, .ref h_act, .ref h_pile, .ref h_comes, .ref h_leaves, .ref h_tried, .ref h_met])), (h_act, .inl (cI, 780, .inl r_act))]) [1, 0] (by decide) rfl
  have hFc := va_free (wc := [(h, .inr (10, [.ref h_all, .ref h_has, .int f_size, .int f_next_9, .int f_where_10, .int f_token_11, .int f_number_12, .int f_sign_13, .int f_word_14, .int f_wrong_15, .int f_open, .int f_lines, .int f_acts, .ref h_line, .ref h_act, .ref h_pile, .ref h_comes, .ref h_leaves, .ref h_tried, .ref h_met])), (h_act, .inl (cI, 780, .inl r_act))]) hD hS hA [1, 0] rfl
  refine va_callv (va_runV (As := [.int x1, .int f_sign, .int r_17]) (rest := []) ⟨hx, hb, hml, hown, hts⟩ (kX11_emit l dC dI cI cZ cO cW h h_all h_has h_line h_act h_pile h_comes h_leaves h_tried h_met H.size f_size f_next_9 f_where_10 f_token_11 f_number_12 f_sign_13 f_word_14 f_wrong_15 f_open f_lines f_acts r_act x1 f_sign r_17 _ hw) (cwV 3 hts gX11_atom_X11_emit rfl rfl rfl (by decide +kernel) ⟨(show (0) + 1 ≤ 4 * d + 6 by omega), (show 8 + (4 + 11) + (0) ≤ 83 * d + 129 by omega)⟩) (pv_of hPc hK hDc (va_recv hK hPc (ci := 10) (q0 := 0) rfl rfl)) rfl rfl hl.1 rfl (lv_room (Nat.le_of_ble_eq_true rfl)) dX11_atom_110 ⟨Nat.zero_le _, Nat.zero_le _⟩) hS (fun q _ h => hFc q h) hFc (fun u t H locs ht hvm hw hB hz1 hk1 hS => ?_)
  obtain ⟨f_acts_18, r_act_19⟩ := u
  obtain ⟨hP, hD⟩ := af_join (wr := [(h_all, .inl (cI, 53700, .inl r_all_16))]) (w1 := [(h, .inr (10, [.ref h_all, .ref h_has, .int f_size, .int f_next_9, .int f_where_10, .int f_token_11, .int f_number_12, .int f_sign_13, .int f_word_14, .int f_wrong_15, .int f_open, .int f_lines, .int f_acts_18, .ref h_line, .ref h_act, .ref h_pile, .ref h_comes, .ref h_leaves, .ref h_tried, .ref h_met])), (h_act, .inl (cI, 780, .inl r_act_19))]) hB ht hP hD [1, 0] [2] rfl rfl (by decide) (by decide) hk1 hFc
  have hP : va_P (dC, dI) vwCl [(h_all, .inl (cI, 53700, .inl r_all_16)), (h, .inr (10, [.ref h_all, .ref h_has, .int f_size, .int f_next_9, .int f_where_10, .int f_token_11, .int f_number_12, .int f_sign_13, .int f_word_14, .int f_wrong_15, .int f_open, .int f_lines, .int f_acts_18, .ref h_line, .ref h_act, .ref h_pile, .ref h_comes, .ref h_leaves, .ref h_tried, .ref h_met])), (h_act, .inl (cI, 780, .inl r_act_19))] _ := hP
  have hD : va_D A [(h_all, .inl (cI, 53700, .inl r_all_16)), (h, .inr (10, [.ref h_all, .ref h_has, .int f_size, .int f_next_9, .int f_where_10, .int f_token_11, .int f_number_12, .int f_sign_13, .int f_word_14, .int f_wrong_15, .int f_open, .int f_lines, .int f_acts_18, .ref h_line, .ref h_act, .ref h_pile, .ref h_comes, .ref h_leaves, .ref h_tried, .ref h_met])), (h_act, .inl (cI, 780, .inl r_act_19))] := hD
  have hP9 := hP.sub (ws' := (vX11_atom cI cZ h h_all h_has h_line h_act h_pile h_comes h_leaves h_tried h_met f_lines f_size f_next_9 f_where_10 f_token_11 f_number_12 f_sign_13 f_word_14 f_wrong_15 f_open f_acts_18 r_act_19 r_all_16)) [1, 2, 0] rfl
  have hD9 := hD.sub (ws' := (vX11_atom cI cZ h h_all h_has h_line h_act h_pile h_comes h_leaves h_tried h_met f_lines f_size f_next_9 f_where_10 f_token_11 f_number_12 f_sign_13 f_word_14 f_wrong_15 f_open f_acts_18 r_act_19 r_all_16)) [1, 2, 0] (by decide) rfl
  exact W.vret hx hb hr (fun t ht hW => ⟨⟨(f_next_9, f_where_10, f_token_11, f_number_12, f_sign_13, f_word_14, f_wrong_15, f_open, f_acts_18, r_act_19, r_all_16), rfl, hw, by rw [ht]; exact hP9, va_K.moved hW.alike hK, hD9⟩, hS.F ht⟩) hS.2.2 dX11_atom_113
set_option maxHeartbeats 4000000 in
set_option maxRecDepth 100000 in
theorem tX11_atom_e {p : Program} {l : Launch} {e : Env} {s : State} {m : MethodId} {args : Array Value} {below : List Frame} {meth : Method} {c : Code} {dC : Nat → ClassId} {dI : Nat → Nat → Nat} {cI cZ cO cW : ClassId} {A : Nat → Prop} {h h_all h_has h_line h_act h_pile h_comes h_leaves h_tried h_met : Nat} {f_lines : Int32} {Q : Int32 → Int32 → Int32 → Int32 → Int32 → Int32 → Int32 → Int32 → Int32 → (Nat → Int32) → (Nat → Int32) → Prop} {d : Nat} {RA : (Int32 → Int32 → Int32 → Int32 → Int32 → Int32 → Int32 → Int32 → Int32 → (Nat → Int32) → (Nat → Int32) → Prop) → Int32 → Int32 → Int32 → Int32 → Int32 → Int32 → Int32 → Int32 → Int32 → Int32 → (Nat → Int32) → (Nat → Int32) → Prop} (hC : Cx p s m args meth c cX11_atom none 3 wsX11_atom RX11) (hK : va_K (dC, dI) vwCl (tysA cI cZ cO cW) s) (hA : ∀ q : Nat, s.heap.size ≤ q → A q) (hRec : ∀ (h h_all h_has h_line h_act h_pile h_comes h_leaves h_tried h_met : Nat) (sz : Nat) (f_lines : Int32) (f_size : Int32) (f_next : Int32) (f_where : Int32) (f_token : Int32) (f_number : Int32) (f_sign : Int32) (f_word : Int32) (f_wrong : Int32) (f_open : Int32) (f_acts : Int32) (r_act : Nat → Int32) (r_all : Nat → Int32)  (Q : Int32 → Int32 → Int32 → Int32 → Int32 → Int32 → Int32 → Int32 → Int32 → (Nat → Int32) → (Nat → Int32) → Prop), RA Q  f_size f_next f_where f_token f_number f_sign f_word f_wrong f_open f_acts r_act r_all → Met l yX11_anyOf wsX11_anyOf (rmX11_anyOf_d d) (va_Pc [.ref h] (fun U => U.heap.size = sz ∧ va_P (dC, dI) vwCl (vX11_anyOf cI cZ h h_all h_has h_line h_act h_pile h_comes h_leaves h_tried h_met f_lines f_size f_next f_where f_token f_number f_sign f_word f_wrong f_open f_acts r_act r_all) U.heap ∧ va_K (dC, dI) vwCl (tysA cI cZ cO cW) U ∧ va_D (fun _ => True) (vX11_anyOf cI cZ h h_all h_has h_line h_act h_pile h_comes h_leaves h_tried h_met f_lines f_size f_next f_where f_token f_number f_sign f_word f_wrong f_open f_acts r_act r_all))) (qX11_anyOf dC dI cI cZ cO cW h h_all h_has h_line h_act h_pile h_comes h_leaves h_tried h_met f_lines f_size Q (va_A (vX11_anyOf cI cZ h h_all h_has h_line h_act h_pile h_comes h_leaves h_tried h_met f_lines f_size f_next f_where f_token f_number f_sign f_word f_wrong f_open f_acts r_act r_all) sz)) 0 0 (va_A (vX11_anyOf cI cZ h h_all h_has h_line h_act h_pile h_comes h_leaves h_tried h_met f_lines f_size f_next f_where f_token f_number f_sign f_word f_wrong f_open f_acts r_act r_all) sz)) :
    ∀ (f_size : Int32) (f_next : Int32) (f_where : Int32) (f_token : Int32) (f_number : Int32) (f_sign : Int32) (f_word : Int32) (f_wrong : Int32) (f_open : Int32) (f_acts : Int32) (r_act : Nat → Int32) (r_all : Nat → Int32) (H : Heap) (locs : List Loc) (ls : Array Slot), wX11_atom RA Q  f_size f_next f_where f_token f_number f_sign f_word f_wrong f_open f_acts r_act r_all → va_P (dC, dI) vwCl (vX11_atom cI cZ h h_all h_has h_line h_act h_pile h_comes h_leaves h_tried h_met f_lines f_size f_next f_where f_token f_number f_sign f_word f_wrong f_open f_acts r_act r_all) H → va_D A (vX11_atom cI cZ h h_all h_has h_line h_act h_pile h_comes h_leaves h_tried h_met f_lines f_size f_next f_where f_token f_number f_sign f_word f_wrong f_open f_acts r_act r_all) → va_S A s.heap H locs → lv_has ls 3 [(0, .ref h)] → W p l e (rmX11_atom d) s m args below meth c H locs 0 0 (MQ below (qX11_atom dC dI cI cZ cO cW h h_all h_has h_line h_act h_pile h_comes h_leaves h_tried h_met f_lines f_size Q A) args s 0 0 A) (F0 m 0 ls []) := by
  obtain ⟨hx, hb, hr, hml, hown, hts, hlocks⟩ := id hC
  intro  f_size f_next f_where f_token f_number f_sign f_word f_wrong f_open f_acts r_act r_all H locs ls hw hP hD hS hl
  refine lv_aload_n hx hb dX11_atom_0 rfl (lv_at hl 0 rfl) ?_
  refine lv_bipush (v := (40 : Int32)) hx hb dX11_atom_1 (by decide) ?_
  have hPc := hP.sub (ws' := [(h, .inr (10, [.ref h_all, .ref h_has, .int f_size, .int f_next, .int f_where, .int f_token, .int f_number, .int f_sign, .int f_word, .int f_wrong, .int f_open, .int f_lines, .int f_acts, .ref h_line, .ref h_act, .ref h_pile, .ref h_comes, .ref h_leaves, .ref h_tried, .ref h_met]))]) [0] rfl
  have hDc := hD.sub (ws' := [(h, .inr (10, [.ref h_all, .ref h_has, .int f_size, .int f_next, .int f_where, .int f_token, .int f_number, .int f_sign, .int f_word, .int f_wrong, .int f_open, .int f_lines, .int f_acts, .ref h_line, .ref h_act, .ref h_pile, .ref h_comes, .ref h_leaves, .ref h_tried, .ref h_met]))]) [0] (by decide) rfl
  have hFc := va_free (wc := [(h, .inr (10, [.ref h_all, .ref h_has, .int f_size, .int f_next, .int f_where, .int f_token, .int f_number, .int f_sign, .int f_word, .int f_wrong, .int f_open, .int f_lines, .int f_acts, .ref h_line, .ref h_act, .ref h_pile, .ref h_comes, .ref h_leaves, .ref h_tried, .ref h_met]))]) hD hS hA [0] rfl
  refine va_calli (va_runV (As := [.int (40 : Int32)]) (rest := []) ⟨hx, hb, hml, hown, hts⟩ (kX11_isSign l dC dI cI cZ cO cW h h_all h_has h_line h_act h_pile h_comes h_leaves h_tried h_met H.size f_size f_next f_where f_number f_word f_open f_lines f_acts f_token f_sign f_wrong (40 : Int32) _ hw) (cwV 1 hts gX11_atom_X11_isSign rfl rfl rfl (by decide +kernel) ⟨(show (0) + 1 ≤ 4 * d + 6 by omega), (show 8 + (2 + 11) + (0) ≤ 83 * d + 129 by omega)⟩) (pv_of hPc hK hDc (va_recv hK hPc (ci := 10) (q0 := 0) rfl rfl)) rfl rfl hl.1 rfl (lv_room (Nat.le_of_ble_eq_true rfl)) dX11_atom_3 ⟨Nat.zero_le _, Nat.zero_le _⟩) hS (fun q _ h => hFc q h) hFc (fun r_20 u t H locs ht hvm hw hB hz1 hk1 hS => ?_)
  obtain ⟨hP, hD⟩ := af_join (wr := [(h_act, .inl (cI, 780, .inl r_act)), (h_all, .inl (cI, 53700, .inl r_all))]) (w1 := [(h, .inr (10, [.ref h_all, .ref h_has, .int f_size, .int f_next, .int f_where, .int f_token, .int f_number, .int f_sign, .int f_word, .int f_wrong, .int f_open, .int f_lines, .int f_acts, .ref h_line, .ref h_act, .ref h_pile, .ref h_comes, .ref h_leaves, .ref h_tried, .ref h_met]))]) hB ht hP hD [0] [1, 2] rfl rfl (by decide) (by decide) hk1 hFc
  have hP : va_P (dC, dI) vwCl [(h_act, .inl (cI, 780, .inl r_act)), (h_all, .inl (cI, 53700, .inl r_all)), (h, .inr (10, [.ref h_all, .ref h_has, .int f_size, .int f_next, .int f_where, .int f_token, .int f_number, .int f_sign, .int f_word, .int f_wrong, .int f_open, .int f_lines, .int f_acts, .ref h_line, .ref h_act, .ref h_pile, .ref h_comes, .ref h_leaves, .ref h_tried, .ref h_met]))] _ := hP
  have hD : va_D A [(h_act, .inl (cI, 780, .inl r_act)), (h_all, .inl (cI, 53700, .inl r_all)), (h, .inr (10, [.ref h_all, .ref h_has, .int f_size, .int f_next, .int f_where, .int f_token, .int f_number, .int f_sign, .int f_word, .int f_wrong, .int f_open, .int f_lines, .int f_acts, .ref h_line, .ref h_act, .ref h_pile, .ref h_comes, .ref h_leaves, .ref h_tried, .ref h_met]))] := hD
  refine lv_if_eq (tgt := 24) hx hb dX11_atom_6 (by decide) (fun c_21 => ?_) (fun c_21 => ?_)
  · have hw := hw.1 c_21
    refine lv_aload_n hx hb dX11_atom_24 rfl (lv_at hl 0 rfl) ?_
    refine va_get (D := (dC, dI)) (ci := 10) (v := .int f_wrong) (C := RX11) (T := TX11) (N := 20) hx hb hts uX11_atom_X11 hown hK hP 2 rfl rfl 9 (by decide) (hts _ mX11_atom_1) (fun _ h9 => h9) rfl dX11_atom_25 ?_
    refine lv_if_ne (tgt := 48) hx hb dX11_atom_28 (by decide) (fun c_22 => ?_) (fun c_22 => ?_)
    · have hw := hw.1 c_22
      exact tX11_atom_48 hC hK hA hRec  f_size f_next f_where f_token f_number f_sign f_word f_wrong f_open f_acts r_act r_all _ _ ls hw (hP.sub [2, 0, 1] rfl) (hD.sub [2, 0, 1] (by decide) rfl) hS (lv_sub hl [0] rfl)
    · have hw := hw.2 c_22
      refine lv_aload_n hx hb dX11_atom_31 rfl (lv_at hl 0 rfl) ?_
      refine va_get (D := (dC, dI)) (ci := 10) (v := .int f_token) (C := RX11) (T := TX11) (N := 20) hx hb hts uX11_atom_X11 hown hK hP 2 rfl rfl 5 (by decide) (hts _ mX11_atom_2) (fun _ h9 => h9) rfl dX11_atom_32 ?_
      refine lv_iconst (v := (3 : Int32)) hx hb dX11_atom_35 (by decide) ?_
      refine lv_icmp_ne (tgt := 48) hx hb dX11_atom_36 (by decide) (fun c_23 => ?_) (fun c_23 => ?_)
      · have hw := hw.1 c_23
        exact tX11_atom_48 hC hK hA hRec  f_size f_next f_where f_token f_number f_sign f_word f_wrong f_open f_acts r_act r_all _ _ ls hw (hP.sub [2, 0, 1] rfl) (hD.sub [2, 0, 1] (by decide) rfl) hS (lv_sub hl [0] rfl)
      · have hw := hw.2 c_23
        refine lv_aload_n hx hb dX11_atom_39 rfl (lv_at hl 0 rfl) ?_
        refine va_get (D := (dC, dI)) (ci := 10) (v := .int f_word) (C := RX11) (T := TX11) (N := 20) hx hb hts uX11_atom_X11 hown hK hP 2 rfl rfl 8 (by decide) (hts _ mX11_atom_3) (fun _ h9 => h9) rfl dX11_atom_40 ?_
        refine lv_bipush (v := (12 : Int32)) hx hb dX11_atom_43 (by decide) ?_
        refine lv_icmp_le (tgt := 53) hx hb dX11_atom_45 (by decide) (fun c_24 => ?_) (fun c_24 => ?_)
        · have hw := hw.1 c_24
          refine lv_aload_n hx hb dX11_atom_53 rfl (lv_at hl 0 rfl) ?_
          refine va_get (D := (dC, dI)) (ci := 10) (v := .int f_word) (C := RX11) (T := TX11) (N := 20) hx hb hts uX11_atom_X11 hown hK hP 2 rfl rfl 8 (by decide) (hts _ mX11_atom_3) (fun _ h9 => h9) rfl dX11_atom_54 ?_
          refine lv_istore_n (lv' := [(1, .int f_word), (0, .ref h)]) hx hb dX11_atom_57 rfl hl (by decide) rfl (fun ls hl => ?_)
          refine lv_aload_n hx hb dX11_atom_58 rfl (lv_at hl 1 rfl) ?_
          have hPc := hP.sub (ws' := [(h, .inr (10, [.ref h_all, .ref h_has, .int f_size, .int f_next, .int f_where, .int f_token, .int f_number, .int f_sign, .int f_word, .int f_wrong, .int f_open, .int f_lines, .int f_acts, .ref h_line, .ref h_act, .ref h_pile, .ref h_comes, .ref h_leaves, .ref h_tried, .ref h_met])), (h_all, .inl (cI, 53700, .inl r_all))]) [2, 1] rfl
          have hDc := hD.sub (ws' := [(h, .inr (10, [.ref h_all, .ref h_has, .int f_size, .int f_next, .int f_where, .int f_token, .int f_number, .int f_sign, .int f_word, .int f_wrong, .int f_open, .int f_lines, .int f_acts, .ref h_line, .ref h_act, .ref h_pile, .ref h_comes, .ref h_leaves, .ref h_tried, .ref h_met])), (h_all, .inl (cI, 53700, .inl r_all))]) [2, 1] (by decide) rfl
          have hFc := va_free (wc := [(h, .inr (10, [.ref h_all, .ref h_has, .int f_size, .int f_next, .int f_where, .int f_token, .int f_number, .int f_sign, .int f_word, .int f_wrong, .int f_open, .int f_lines, .int f_acts, .ref h_line, .ref h_act, .ref h_pile, .ref h_comes, .ref h_leaves, .ref h_tried, .ref h_met])), (h_all, .inl (cI, 53700, .inl r_all))]) hD hS hA [2, 1] rfl
          refine va_callv (va_runV (As := []) (rest := []) ⟨hx, hb, hml, hown, hts⟩ (kX11_advance l dC dI cI cZ cO cW h h_all h_has h_line h_act h_pile h_comes h_leaves h_tried h_met H.size f_wrong f_open f_lines f_acts f_size f_next f_where f_token f_number f_sign f_word r_all _ hw) (cwV 0 hts gX11_atom_X11_advance rfl rfl rfl (by decide +kernel) ⟨(show (3) + 1 ≤ 4 * d + 6 by omega), (show 8 + (4 + 11) + (65) ≤ 83 * d + 129 by omega)⟩) (pv_of hPc hK hDc (va_recv hK hPc (ci := 10) (q0 := 0) rfl rfl)) rfl rfl hl.1 rfl (lv_room (Nat.le_of_ble_eq_true rfl)) dX11_atom_59 ⟨Nat.zero_le _, Nat.zero_le _⟩) hS (fun q _ h => hFc q h) hFc (fun u t H locs ht hvm hw hB hz1 hk1 hS => ?_)
          obtain ⟨f_next_25, f_where_26, f_token_27, f_number_28, f_sign_29, f_word_30⟩ := u
          obtain ⟨hP, hD⟩ := af_join (wr := [(h_act, .inl (cI, 780, .inl r_act))]) (w1 := [(h, .inr (10, [.ref h_all, .ref h_has, .int f_size, .int f_next_25, .int f_where_26, .int f_token_27, .int f_number_28, .int f_sign_29, .int f_word_30, .int f_wrong, .int f_open, .int f_lines, .int f_acts, .ref h_line, .ref h_act, .ref h_pile, .ref h_comes, .ref h_leaves, .ref h_tried, .ref h_met])), (h_all, .inl (cI, 53700, .inl r_all))]) hB ht hP hD [2, 1] [0] rfl rfl (by decide) (by decide) hk1 hFc
          have hP : va_P (dC, dI) vwCl [(h_act, .inl (cI, 780, .inl r_act)), (h, .inr (10, [.ref h_all, .ref h_has, .int f_size, .int f_next_25, .int f_where_26, .int f_token_27, .int f_number_28, .int f_sign_29, .int f_word_30, .int f_wrong, .int f_open, .int f_lines, .int f_acts, .ref h_line, .ref h_act, .ref h_pile, .ref h_comes, .ref h_leaves, .ref h_tried, .ref h_met])), (h_all, .inl (cI, 53700, .inl r_all))] _ := hP
          have hD : va_D A [(h_act, .inl (cI, 780, .inl r_act)), (h, .inr (10, [.ref h_all, .ref h_has, .int f_size, .int f_next_25, .int f_where_26, .int f_token_27, .int f_number_28, .int f_sign_29, .int f_word_30, .int f_wrong, .int f_open, .int f_lines, .int f_acts, .ref h_line, .ref h_act, .ref h_pile, .ref h_comes, .ref h_leaves, .ref h_tried, .ref h_met])), (h_all, .inl (cI, 53700, .inl r_all))] := hD
          refine lv_aload_n hx hb dX11_atom_62 rfl (lv_at hl 1 rfl) ?_
          refine lv_bipush (v := (61 : Int32)) hx hb dX11_atom_63 (by decide) ?_
          have hPc := hP.sub (ws' := [(h, .inr (10, [.ref h_all, .ref h_has, .int f_size, .int f_next_25, .int f_where_26, .int f_token_27, .int f_number_28, .int f_sign_29, .int f_word_30, .int f_wrong, .int f_open, .int f_lines, .int f_acts, .ref h_line, .ref h_act, .ref h_pile, .ref h_comes, .ref h_leaves, .ref h_tried, .ref h_met]))]) [1] rfl
          have hDc := hD.sub (ws' := [(h, .inr (10, [.ref h_all, .ref h_has, .int f_size, .int f_next_25, .int f_where_26, .int f_token_27, .int f_number_28, .int f_sign_29, .int f_word_30, .int f_wrong, .int f_open, .int f_lines, .int f_acts, .ref h_line, .ref h_act, .ref h_pile, .ref h_comes, .ref h_leaves, .ref h_tried, .ref h_met]))]) [1] (by decide) rfl
          have hFc := va_free (wc := [(h, .inr (10, [.ref h_all, .ref h_has, .int f_size, .int f_next_25, .int f_where_26, .int f_token_27, .int f_number_28, .int f_sign_29, .int f_word_30, .int f_wrong, .int f_open, .int f_lines, .int f_acts, .ref h_line, .ref h_act, .ref h_pile, .ref h_comes, .ref h_leaves, .ref h_tried, .ref h_met]))]) hD hS hA [1] rfl
          refine va_calli (va_runV (As := [.int (61 : Int32)]) (rest := []) ⟨hx, hb, hml, hown, hts⟩ (kX11_isSign l dC dI cI cZ cO cW h h_all h_has h_line h_act h_pile h_comes h_leaves h_tried h_met H.size f_size f_next_25 f_where_26 f_number_28 f_word_30 f_open f_lines f_acts f_token_27 f_sign_29 f_wrong (61 : Int32) _ hw) (cwV 1 hts gX11_atom_X11_isSign rfl rfl rfl (by decide +kernel) ⟨(show (0) + 1 ≤ 4 * d + 6 by omega), (show 8 + (2 + 11) + (0) ≤ 83 * d + 129 by omega)⟩) (pv_of hPc hK hDc (va_recv hK hPc (ci := 10) (q0 := 0) rfl rfl)) rfl rfl hl.1 rfl (lv_room (Nat.le_of_ble_eq_true rfl)) dX11_atom_65 ⟨Nat.zero_le _, Nat.zero_le _⟩) hS (fun q _ h => hFc q h) hFc (fun r_31 u t H locs ht hvm hw hB hz1 hk1 hS => ?_)
          obtain ⟨hP, hD⟩ := af_join (wr := [(h_act, .inl (cI, 780, .inl r_act)), (h_all, .inl (cI, 53700, .inl r_all))]) (w1 := [(h, .inr (10, [.ref h_all, .ref h_has, .int f_size, .int f_next_25, .int f_where_26, .int f_token_27, .int f_number_28, .int f_sign_29, .int f_word_30, .int f_wrong, .int f_open, .int f_lines, .int f_acts, .ref h_line, .ref h_act, .ref h_pile, .ref h_comes, .ref h_leaves, .ref h_tried, .ref h_met]))]) hB ht hP hD [1] [0, 2] rfl rfl (by decide) (by decide) hk1 hFc
          have hP : va_P (dC, dI) vwCl [(h_act, .inl (cI, 780, .inl r_act)), (h_all, .inl (cI, 53700, .inl r_all)), (h, .inr (10, [.ref h_all, .ref h_has, .int f_size, .int f_next_25, .int f_where_26, .int f_token_27, .int f_number_28, .int f_sign_29, .int f_word_30, .int f_wrong, .int f_open, .int f_lines, .int f_acts, .ref h_line, .ref h_act, .ref h_pile, .ref h_comes, .ref h_leaves, .ref h_tried, .ref h_met]))] _ := hP
          have hD : va_D A [(h_act, .inl (cI, 780, .inl r_act)), (h_all, .inl (cI, 53700, .inl r_all)), (h, .inr (10, [.ref h_all, .ref h_has, .int f_size, .int f_next_25, .int f_where_26, .int f_token_27, .int f_number_28, .int f_sign_29, .int f_word_30, .int f_wrong, .int f_open, .int f_lines, .int f_acts, .ref h_line, .ref h_act, .ref h_pile, .ref h_comes, .ref h_leaves, .ref h_tried, .ref h_met]))] := hD
          refine lv_if_ne (tgt := 94) hx hb dX11_atom_68 (by decide) (fun c_32 => ?_) (fun c_32 => ?_)
          · have hw := hw.1 c_32
            exact tX11_atom_94 hC hK hA hRec  f_word f_size f_next_25 f_where_26 f_token_27 f_number_28 f_sign_29 f_word_30 f_wrong f_open f_acts r_act r_all _ _ ls hw (hP.sub [2, 0, 1] rfl) (hD.sub [2, 0, 1] (by decide) rfl) hS (lv_sub hl [1, 0] rfl)
          · have hw := hw.2 c_32
            refine lv_aload_n hx hb dX11_atom_71 rfl (lv_at hl 1 rfl) ?_
            refine lv_bipush (v := (60 : Int32)) hx hb dX11_atom_72 (by decide) ?_
            have hPc := hP.sub (ws' := [(h, .inr (10, [.ref h_all, .ref h_has, .int f_size, .int f_next_25, .int f_where_26, .int f_token_27, .int f_number_28, .int f_sign_29, .int f_word_30, .int f_wrong, .int f_open, .int f_lines, .int f_acts, .ref h_line, .ref h_act, .ref h_pile, .ref h_comes, .ref h_leaves, .ref h_tried, .ref h_met]))]) [2] rfl
            have hDc := hD.sub (ws' := [(h, .inr (10, [.ref h_all, .ref h_has, .int f_size, .int f_next_25, .int f_where_26, .int f_token_27, .int f_number_28, .int f_sign_29, .int f_word_30, .int f_wrong, .int f_open, .int f_lines, .int f_acts, .ref h_line, .ref h_act, .ref h_pile, .ref h_comes, .ref h_leaves, .ref h_tried, .ref h_met]))]) [2] (by decide) rfl
            have hFc := va_free (wc := [(h, .inr (10, [.ref h_all, .ref h_has, .int f_size, .int f_next_25, .int f_where_26, .int f_token_27, .int f_number_28, .int f_sign_29, .int f_word_30, .int f_wrong, .int f_open, .int f_lines, .int f_acts, .ref h_line, .ref h_act, .ref h_pile, .ref h_comes, .ref h_leaves, .ref h_tried, .ref h_met]))]) hD hS hA [2] rfl
            refine va_calli (va_runV (As := [.int (60 : Int32)]) (rest := []) ⟨hx, hb, hml, hown, hts⟩ (kX11_isSign l dC dI cI cZ cO cW h h_all h_has h_line h_act h_pile h_comes h_leaves h_tried h_met H.size f_size f_next_25 f_where_26 f_number_28 f_word_30 f_open f_lines f_acts f_token_27 f_sign_29 f_wrong (60 : Int32) _ hw) (cwV 1 hts gX11_atom_X11_isSign rfl rfl rfl (by decide +kernel) ⟨(show (0) + 1 ≤ 4 * d + 6 by omega), (show 8 + (2 + 11) + (0) ≤ 83 * d + 129 by omega)⟩) (pv_of hPc hK hDc (va_recv hK hPc (ci := 10) (q0 := 0) rfl rfl)) rfl rfl hl.1 rfl (lv_room (Nat.le_of_ble_eq_true rfl)) dX11_atom_74 ⟨Nat.zero_le _, Nat.zero_le _⟩) hS (fun q _ h => hFc q h) hFc (fun r_33 u t H locs ht hvm hw hB hz1 hk1 hS => ?_)
            obtain ⟨hP, hD⟩ := af_join (wr := [(h_act, .inl (cI, 780, .inl r_act)), (h_all, .inl (cI, 53700, .inl r_all))]) (w1 := [(h, .inr (10, [.ref h_all, .ref h_has, .int f_size, .int f_next_25, .int f_where_26, .int f_token_27, .int f_number_28, .int f_sign_29, .int f_word_30, .int f_wrong, .int f_open, .int f_lines, .int f_acts, .ref h_line, .ref h_act, .ref h_pile, .ref h_comes, .ref h_leaves, .ref h_tried, .ref h_met]))]) hB ht hP hD [2] [0, 1] rfl rfl (by decide) (by decide) hk1 hFc
            have hP : va_P (dC, dI) vwCl [(h_act, .inl (cI, 780, .inl r_act)), (h_all, .inl (cI, 53700, .inl r_all)), (h, .inr (10, [.ref h_all, .ref h_has, .int f_size, .int f_next_25, .int f_where_26, .int f_token_27, .int f_number_28, .int f_sign_29, .int f_word_30, .int f_wrong, .int f_open, .int f_lines, .int f_acts, .ref h_line, .ref h_act, .ref h_pile, .ref h_comes, .ref h_leaves, .ref h_tried, .ref h_met]))] _ := hP
            have hD : va_D A [(h_act, .inl (cI, 780, .inl r_act)), (h_all, .inl (cI, 53700, .inl r_all)), (h, .inr (10, [.ref h_all, .ref h_has, .int f_size, .int f_next_25, .int f_where_26, .int f_token_27, .int f_number_28, .int f_sign_29, .int f_word_30, .int f_wrong, .int f_open, .int f_lines, .int f_acts, .ref h_line, .ref h_act, .ref h_pile, .ref h_comes, .ref h_leaves, .ref h_tried, .ref h_met]))] := hD
            refine lv_if_ne (tgt := 94) hx hb dX11_atom_77 (by decide) (fun c_34 => ?_) (fun c_34 => ?_)
            · have hw := hw.1 c_34
              exact tX11_atom_94 hC hK hA hRec  f_word f_size f_next_25 f_where_26 f_token_27 f_number_28 f_sign_29 f_word_30 f_wrong f_open f_acts r_act r_all _ _ ls hw (hP.sub [2, 0, 1] rfl) (hD.sub [2, 0, 1] (by decide) rfl) hS (lv_sub hl [1, 0] rfl)
            · have hw := hw.2 c_34
              refine lv_aload_n hx hb dX11_atom_80 rfl (lv_at hl 1 rfl) ?_
              refine lv_bipush (v := (62 : Int32)) hx hb dX11_atom_81 (by decide) ?_
              have hPc := hP.sub (ws' := [(h, .inr (10, [.ref h_all, .ref h_has, .int f_size, .int f_next_25, .int f_where_26, .int f_token_27, .int f_number_28, .int f_sign_29, .int f_word_30, .int f_wrong, .int f_open, .int f_lines, .int f_acts, .ref h_line, .ref h_act, .ref h_pile, .ref h_comes, .ref h_leaves, .ref h_tried, .ref h_met]))]) [2] rfl
              have hDc := hD.sub (ws' := [(h, .inr (10, [.ref h_all, .ref h_has, .int f_size, .int f_next_25, .int f_where_26, .int f_token_27, .int f_number_28, .int f_sign_29, .int f_word_30, .int f_wrong, .int f_open, .int f_lines, .int f_acts, .ref h_line, .ref h_act, .ref h_pile, .ref h_comes, .ref h_leaves, .ref h_tried, .ref h_met]))]) [2] (by decide) rfl
              have hFc := va_free (wc := [(h, .inr (10, [.ref h_all, .ref h_has, .int f_size, .int f_next_25, .int f_where_26, .int f_token_27, .int f_number_28, .int f_sign_29, .int f_word_30, .int f_wrong, .int f_open, .int f_lines, .int f_acts, .ref h_line, .ref h_act, .ref h_pile, .ref h_comes, .ref h_leaves, .ref h_tried, .ref h_met]))]) hD hS hA [2] rfl
              refine va_calli (va_runV (As := [.int (62 : Int32)]) (rest := []) ⟨hx, hb, hml, hown, hts⟩ (kX11_isSign l dC dI cI cZ cO cW h h_all h_has h_line h_act h_pile h_comes h_leaves h_tried h_met H.size f_size f_next_25 f_where_26 f_number_28 f_word_30 f_open f_lines f_acts f_token_27 f_sign_29 f_wrong (62 : Int32) _ hw) (cwV 1 hts gX11_atom_X11_isSign rfl rfl rfl (by decide +kernel) ⟨(show (0) + 1 ≤ 4 * d + 6 by omega), (show 8 + (2 + 11) + (0) ≤ 83 * d + 129 by omega)⟩) (pv_of hPc hK hDc (va_recv hK hPc (ci := 10) (q0 := 0) rfl rfl)) rfl rfl hl.1 rfl (lv_room (Nat.le_of_ble_eq_true rfl)) dX11_atom_83 ⟨Nat.zero_le _, Nat.zero_le _⟩) hS (fun q _ h => hFc q h) hFc (fun r_35 u t H locs ht hvm hw hB hz1 hk1 hS => ?_)
              obtain ⟨hP, hD⟩ := af_join (wr := [(h_act, .inl (cI, 780, .inl r_act)), (h_all, .inl (cI, 53700, .inl r_all))]) (w1 := [(h, .inr (10, [.ref h_all, .ref h_has, .int f_size, .int f_next_25, .int f_where_26, .int f_token_27, .int f_number_28, .int f_sign_29, .int f_word_30, .int f_wrong, .int f_open, .int f_lines, .int f_acts, .ref h_line, .ref h_act, .ref h_pile, .ref h_comes, .ref h_leaves, .ref h_tried, .ref h_met]))]) hB ht hP hD [2] [0, 1] rfl rfl (by decide) (by decide) hk1 hFc
              have hP : va_P (dC, dI) vwCl [(h_act, .inl (cI, 780, .inl r_act)), (h_all, .inl (cI, 53700, .inl r_all)), (h, .inr (10, [.ref h_all, .ref h_has, .int f_size, .int f_next_25, .int f_where_26, .int f_token_27, .int f_number_28, .int f_sign_29, .int f_word_30, .int f_wrong, .int f_open, .int f_lines, .int f_acts, .ref h_line, .ref h_act, .ref h_pile, .ref h_comes, .ref h_leaves, .ref h_tried, .ref h_met]))] _ := hP
              have hD : va_D A [(h_act, .inl (cI, 780, .inl r_act)), (h_all, .inl (cI, 53700, .inl r_all)), (h, .inr (10, [.ref h_all, .ref h_has, .int f_size, .int f_next_25, .int f_where_26, .int f_token_27, .int f_number_28, .int f_sign_29, .int f_word_30, .int f_wrong, .int f_open, .int f_lines, .int f_acts, .ref h_line, .ref h_act, .ref h_pile, .ref h_comes, .ref h_leaves, .ref h_tried, .ref h_met]))] := hD
              refine lv_if_ne (tgt := 94) hx hb dX11_atom_86 (by decide) (fun c_36 => ?_) (fun c_36 => ?_)
              · have hw := hw.1 c_36
                exact tX11_atom_94 hC hK hA hRec  f_word f_size f_next_25 f_where_26 f_token_27 f_number_28 f_sign_29 f_word_30 f_wrong f_open f_acts r_act r_all _ _ ls hw (hP.sub [2, 0, 1] rfl) (hD.sub [2, 0, 1] (by decide) rfl) hS (lv_sub hl [1, 0] rfl)
              · have hw := hw.2 c_36
                refine lv_aload_n hx hb dX11_atom_89 rfl (lv_at hl 1 rfl) ?_
                have hPc := hP.sub (ws' := [(h, .inr (10, [.ref h_all, .ref h_has, .int f_size, .int f_next_25, .int f_where_26, .int f_token_27, .int f_number_28, .int f_sign_29, .int f_word_30, .int f_wrong, .int f_open, .int f_lines, .int f_acts, .ref h_line, .ref h_act, .ref h_pile, .ref h_comes, .ref h_leaves, .ref h_tried, .ref h_met])), (h_all, .inl (cI, 53700, .inl r_all))]) [2, 1] rfl
                have hDc := hD.sub (ws' := [(h, .inr (10, [.ref h_all, .ref h_has, .int f_size, .int f_next_25, .int f_where_26, .int f_token_27, .int f_number_28, .int f_sign_29, .int f_word_30, .int f_wrong, .int f_open, .int f_lines, .int f_acts, .ref h_line, .ref h_act, .ref h_pile, .ref h_comes, .ref h_leaves, .ref h_tried, .ref h_met])), (h_all, .inl (cI, 53700, .inl r_all))]) [2, 1] (by decide) rfl
                have hFc := va_free (wc := [(h, .inr (10, [.ref h_all, .ref h_has, .int f_size, .int f_next_25, .int f_where_26, .int f_token_27, .int f_number_28, .int f_sign_29, .int f_word_30, .int f_wrong, .int f_open, .int f_lines, .int f_acts, .ref h_line, .ref h_act, .ref h_pile, .ref h_comes, .ref h_leaves, .ref h_tried, .ref h_met])), (h_all, .inl (cI, 53700, .inl r_all))]) hD hS hA [2, 1] rfl
                refine va_callv (va_runV (As := []) (rest := []) ⟨hx, hb, hml, hown, hts⟩ (kX11_stops l dC dI cI cZ cO cW h h_all h_has h_line h_act h_pile h_comes h_leaves h_tried h_met H.size f_size f_next_25 f_token_27 f_number_28 f_sign_29 f_word_30 f_open f_lines f_acts f_where_26 f_wrong r_all _ hw) (cwV 0 hts gX11_atom_X11_stops rfl rfl rfl (by decide +kernel) ⟨(show (0) + 1 ≤ 4 * d + 6 by omega), (show 8 + (1 + 11) + (0) ≤ 83 * d + 129 by omega)⟩) (pv_of hPc hK hDc (va_recv hK hPc (ci := 10) (q0 := 0) rfl rfl)) rfl rfl hl.1 rfl (lv_room (Nat.le_of_ble_eq_true rfl)) dX11_atom_90 ⟨Nat.zero_le _, Nat.zero_le _⟩) hS (fun q _ h => hFc q h) hFc (fun u t H locs ht hvm hw hB hz1 hk1 hS => ?_)
                obtain ⟨f_wrong_37, r_all_38⟩ := u
                obtain ⟨hP, hD⟩ := af_join (wr := [(h_act, .inl (cI, 780, .inl r_act))]) (w1 := [(h, .inr (10, [.ref h_all, .ref h_has, .int f_size, .int f_next_25, .int f_where_26, .int f_token_27, .int f_number_28, .int f_sign_29, .int f_word_30, .int f_wrong_37, .int f_open, .int f_lines, .int f_acts, .ref h_line, .ref h_act, .ref h_pile, .ref h_comes, .ref h_leaves, .ref h_tried, .ref h_met])), (h_all, .inl (cI, 53700, .inl r_all_38))]) hB ht hP hD [2, 1] [0] rfl rfl (by decide) (by decide) hk1 hFc
                have hP : va_P (dC, dI) vwCl [(h_act, .inl (cI, 780, .inl r_act)), (h, .inr (10, [.ref h_all, .ref h_has, .int f_size, .int f_next_25, .int f_where_26, .int f_token_27, .int f_number_28, .int f_sign_29, .int f_word_30, .int f_wrong_37, .int f_open, .int f_lines, .int f_acts, .ref h_line, .ref h_act, .ref h_pile, .ref h_comes, .ref h_leaves, .ref h_tried, .ref h_met])), (h_all, .inl (cI, 53700, .inl r_all_38))] _ := hP
                have hD : va_D A [(h_act, .inl (cI, 780, .inl r_act)), (h, .inr (10, [.ref h_all, .ref h_has, .int f_size, .int f_next_25, .int f_where_26, .int f_token_27, .int f_number_28, .int f_sign_29, .int f_word_30, .int f_wrong_37, .int f_open, .int f_lines, .int f_acts, .ref h_line, .ref h_act, .ref h_pile, .ref h_comes, .ref h_leaves, .ref h_tried, .ref h_met])), (h_all, .inl (cI, 53700, .inl r_all_38))] := hD
                have hP9 := hP.sub (ws' := (vX11_atom cI cZ h h_all h_has h_line h_act h_pile h_comes h_leaves h_tried h_met f_lines f_size f_next_25 f_where_26 f_token_27 f_number_28 f_sign_29 f_word_30 f_wrong_37 f_open f_acts r_act r_all_38)) [1, 0, 2] rfl
                have hD9 := hD.sub (ws' := (vX11_atom cI cZ h h_all h_has h_line h_act h_pile h_comes h_leaves h_tried h_met f_lines f_size f_next_25 f_where_26 f_token_27 f_number_28 f_sign_29 f_word_30 f_wrong_37 f_open f_acts r_act r_all_38)) [1, 0, 2] (by decide) rfl
                exact W.vret hx hb hr (fun t ht hW => ⟨⟨(f_next_25, f_where_26, f_token_27, f_number_28, f_sign_29, f_word_30, f_wrong_37, f_open, f_acts, r_act, r_all_38), rfl, hw, by rw [ht]; exact hP9, va_K.moved hW.alike hK, hD9⟩, hS.F ht⟩) hS.2.2 dX11_atom_93
        · have hw := hw.2 c_24
          exact tX11_atom_48 hC hK hA hRec  f_size f_next f_where f_token f_number f_sign f_word f_wrong f_open f_acts r_act r_all _ _ ls hw (hP.sub [2, 0, 1] rfl) (hD.sub [2, 0, 1] (by decide) rfl) hS (lv_sub hl [0] rfl)
  · have hw := hw.2 c_21
    refine lv_aload_n hx hb dX11_atom_9 rfl (lv_at hl 0 rfl) ?_
    have hPc := hP.sub (ws' := [(h, .inr (10, [.ref h_all, .ref h_has, .int f_size, .int f_next, .int f_where, .int f_token, .int f_number, .int f_sign, .int f_word, .int f_wrong, .int f_open, .int f_lines, .int f_acts, .ref h_line, .ref h_act, .ref h_pile, .ref h_comes, .ref h_leaves, .ref h_tried, .ref h_met])), (h_all, .inl (cI, 53700, .inl r_all))]) [2, 1] rfl
    have hDc := hD.sub (ws' := [(h, .inr (10, [.ref h_all, .ref h_has, .int f_size, .int f_next, .int f_where, .int f_token, .int f_number, .int f_sign, .int f_word, .int f_wrong, .int f_open, .int f_lines, .int f_acts, .ref h_line, .ref h_act, .ref h_pile, .ref h_comes, .ref h_leaves, .ref h_tried, .ref h_met])), (h_all, .inl (cI, 53700, .inl r_all))]) [2, 1] (by decide) rfl
    have hFc := va_free (wc := [(h, .inr (10, [.ref h_all, .ref h_has, .int f_size, .int f_next, .int f_where, .int f_token, .int f_number, .int f_sign, .int f_word, .int f_wrong, .int f_open, .int f_lines, .int f_acts, .ref h_line, .ref h_act, .ref h_pile, .ref h_comes, .ref h_leaves, .ref h_tried, .ref h_met])), (h_all, .inl (cI, 53700, .inl r_all))]) hD hS hA [2, 1] rfl
    refine va_callv (va_runV (As := []) (rest := []) ⟨hx, hb, hml, hown, hts⟩ (kX11_advance l dC dI cI cZ cO cW h h_all h_has h_line h_act h_pile h_comes h_leaves h_tried h_met H.size f_wrong f_open f_lines f_acts f_size f_next f_where f_token f_number f_sign f_word r_all _ hw) (cwV 0 hts gX11_atom_X11_advance rfl rfl rfl (by decide +kernel) ⟨(show (3) + 1 ≤ 4 * d + 6 by omega), (show 8 + (4 + 11) + (65) ≤ 83 * d + 129 by omega)⟩) (pv_of hPc hK hDc (va_recv hK hPc (ci := 10) (q0 := 0) rfl rfl)) rfl rfl hl.1 rfl (lv_room (Nat.le_of_ble_eq_true rfl)) dX11_atom_10 ⟨Nat.zero_le _, Nat.zero_le _⟩) hS (fun q _ h => hFc q h) hFc (fun u t H locs ht hvm hw hB hz1 hk1 hS => ?_)
    obtain ⟨f_next_39, f_where_40, f_token_41, f_number_42, f_sign_43, f_word_44⟩ := u
    obtain ⟨hP, hD⟩ := af_join (wr := [(h_act, .inl (cI, 780, .inl r_act))]) (w1 := [(h, .inr (10, [.ref h_all, .ref h_has, .int f_size, .int f_next_39, .int f_where_40, .int f_token_41, .int f_number_42, .int f_sign_43, .int f_word_44, .int f_wrong, .int f_open, .int f_lines, .int f_acts, .ref h_line, .ref h_act, .ref h_pile, .ref h_comes, .ref h_leaves, .ref h_tried, .ref h_met])), (h_all, .inl (cI, 53700, .inl r_all))]) hB ht hP hD [2, 1] [0] rfl rfl (by decide) (by decide) hk1 hFc
    have hP : va_P (dC, dI) vwCl [(h_act, .inl (cI, 780, .inl r_act)), (h, .inr (10, [.ref h_all, .ref h_has, .int f_size, .int f_next_39, .int f_where_40, .int f_token_41, .int f_number_42, .int f_sign_43, .int f_word_44, .int f_wrong, .int f_open, .int f_lines, .int f_acts, .ref h_line, .ref h_act, .ref h_pile, .ref h_comes, .ref h_leaves, .ref h_tried, .ref h_met])), (h_all, .inl (cI, 53700, .inl r_all))] _ := hP
    have hD : va_D A [(h_act, .inl (cI, 780, .inl r_act)), (h, .inr (10, [.ref h_all, .ref h_has, .int f_size, .int f_next_39, .int f_where_40, .int f_token_41, .int f_number_42, .int f_sign_43, .int f_word_44, .int f_wrong, .int f_open, .int f_lines, .int f_acts, .ref h_line, .ref h_act, .ref h_pile, .ref h_comes, .ref h_leaves, .ref h_tried, .ref h_met])), (h_all, .inl (cI, 53700, .inl r_all))] := hD
    refine lv_aload_n hx hb dX11_atom_13 rfl (lv_at hl 0 rfl) ?_
    have hPc := hP.sub (ws' := [(h, .inr (10, [.ref h_all, .ref h_has, .int f_size, .int f_next_39, .int f_where_40, .int f_token_41, .int f_number_42, .int f_sign_43, .int f_word_44, .int f_wrong, .int f_open, .int f_lines, .int f_acts, .ref h_line, .ref h_act, .ref h_pile, .ref h_comes, .ref h_leaves, .ref h_tried, .ref h_met])), (h_act, .inl (cI, 780, .inl r_act)), (h_all, .inl (cI, 53700, .inl r_all))]) [1, 0, 2] rfl
    have hDc := hD.sub (ws' := [(h, .inr (10, [.ref h_all, .ref h_has, .int f_size, .int f_next_39, .int f_where_40, .int f_token_41, .int f_number_42, .int f_sign_43, .int f_word_44, .int f_wrong, .int f_open, .int f_lines, .int f_acts, .ref h_line, .ref h_act, .ref h_pile, .ref h_comes, .ref h_leaves, .ref h_tried, .ref h_met])), (h_act, .inl (cI, 780, .inl r_act)), (h_all, .inl (cI, 53700, .inl r_all))]) [1, 0, 2] (by decide) rfl
    have hFc := va_free (wc := [(h, .inr (10, [.ref h_all, .ref h_has, .int f_size, .int f_next_39, .int f_where_40, .int f_token_41, .int f_number_42, .int f_sign_43, .int f_word_44, .int f_wrong, .int f_open, .int f_lines, .int f_acts, .ref h_line, .ref h_act, .ref h_pile, .ref h_comes, .ref h_leaves, .ref h_tried, .ref h_met])), (h_act, .inl (cI, 780, .inl r_act)), (h_all, .inl (cI, 53700, .inl r_all))]) hD hS hA [1, 0, 2] rfl
    refine va_callv (va_runV (As := []) (rest := []) ⟨hx, hb, hml, hown, hts⟩ (hRec h h_all h_has h_line h_act h_pile h_comes h_leaves h_tried h_met H.size f_lines f_size f_next_39 f_where_40 f_token_41 f_number_42 f_sign_43 f_word_44 f_wrong f_open f_acts r_act r_all _ hw) (cwV 0 hts gX11_atom_X11_anyOf rfl rfl rfl (by decide +kernel) ⟨(show (4 * d + 5) + 1 ≤ 4 * d + 6 by omega), (show 8 + (1 + 11) + (83 * d + 109) ≤ 83 * d + 129 by omega)⟩) (pv_of hPc hK hDc (va_recv hK hPc (ci := 10) (q0 := 0) rfl rfl)) rfl rfl hl.1 rfl (lv_room (Nat.le_of_ble_eq_true rfl)) dX11_atom_14 ⟨Nat.zero_le _, Nat.zero_le _⟩) hS (fun q _ h => hFc q h) hFc (fun u t H locs ht hvm hw hB hz1 hk1 hS => ?_)
    obtain ⟨f_next_45, f_where_46, f_token_47, f_number_48, f_sign_49, f_word_50, f_wrong_51, f_open_52, f_acts_53, r_act_54, r_all_55⟩ := u
    obtain ⟨hP, hD⟩ := af_join (wr := []) (w1 := [(h, .inr (10, [.ref h_all, .ref h_has, .int f_size, .int f_next_45, .int f_where_46, .int f_token_47, .int f_number_48, .int f_sign_49, .int f_word_50, .int f_wrong_51, .int f_open_52, .int f_lines, .int f_acts_53, .ref h_line, .ref h_act, .ref h_pile, .ref h_comes, .ref h_leaves, .ref h_tried, .ref h_met])), (h_act, .inl (cI, 780, .inl r_act_54)), (h_all, .inl (cI, 53700, .inl r_all_55))]) hB ht hP hD [1, 0, 2] [] rfl rfl (by decide) (by decide) hk1 hFc
    have hP : va_P (dC, dI) vwCl [(h, .inr (10, [.ref h_all, .ref h_has, .int f_size, .int f_next_45, .int f_where_46, .int f_token_47, .int f_number_48, .int f_sign_49, .int f_word_50, .int f_wrong_51, .int f_open_52, .int f_lines, .int f_acts_53, .ref h_line, .ref h_act, .ref h_pile, .ref h_comes, .ref h_leaves, .ref h_tried, .ref h_met])), (h_act, .inl (cI, 780, .inl r_act_54)), (h_all, .inl (cI, 53700, .inl r_all_55))] _ := hP
    have hD : va_D A [(h, .inr (10, [.ref h_all, .ref h_has, .int f_size, .int f_next_45, .int f_where_46, .int f_token_47, .int f_number_48, .int f_sign_49, .int f_word_50, .int f_wrong_51, .int f_open_52, .int f_lines, .int f_acts_53, .ref h_line, .ref h_act, .ref h_pile, .ref h_comes, .ref h_leaves, .ref h_tried, .ref h_met])), (h_act, .inl (cI, 780, .inl r_act_54)), (h_all, .inl (cI, 53700, .inl r_all_55))] := hD
    refine lv_aload_n hx hb dX11_atom_17 rfl (lv_at hl 0 rfl) ?_
    refine lv_bipush (v := (41 : Int32)) hx hb dX11_atom_18 (by decide) ?_
    have hPc := hP.sub (ws' := [(h, .inr (10, [.ref h_all, .ref h_has, .int f_size, .int f_next_45, .int f_where_46, .int f_token_47, .int f_number_48, .int f_sign_49, .int f_word_50, .int f_wrong_51, .int f_open_52, .int f_lines, .int f_acts_53, .ref h_line, .ref h_act, .ref h_pile, .ref h_comes, .ref h_leaves, .ref h_tried, .ref h_met])), (h_all, .inl (cI, 53700, .inl r_all_55))]) [0, 2] rfl
    have hDc := hD.sub (ws' := [(h, .inr (10, [.ref h_all, .ref h_has, .int f_size, .int f_next_45, .int f_where_46, .int f_token_47, .int f_number_48, .int f_sign_49, .int f_word_50, .int f_wrong_51, .int f_open_52, .int f_lines, .int f_acts_53, .ref h_line, .ref h_act, .ref h_pile, .ref h_comes, .ref h_leaves, .ref h_tried, .ref h_met])), (h_all, .inl (cI, 53700, .inl r_all_55))]) [0, 2] (by decide) rfl
    have hFc := va_free (wc := [(h, .inr (10, [.ref h_all, .ref h_has, .int f_size, .int f_next_45, .int f_where_46, .int f_token_47, .int f_number_48, .int f_sign_49, .int f_word_50, .int f_wrong_51, .int f_open_52, .int f_lines, .int f_acts_53, .ref h_line, .ref h_act, .ref h_pile, .ref h_comes, .ref h_leaves, .ref h_tried, .ref h_met])), (h_all, .inl (cI, 53700, .inl r_all_55))]) hD hS hA [0, 2] rfl
    refine va_callv (va_runV (As := [.int (41 : Int32)]) (rest := []) ⟨hx, hb, hml, hown, hts⟩ (kX11_must l dC dI cI cZ cO cW h h_all h_has h_line h_act h_pile h_comes h_leaves h_tried h_met H.size f_open_52 f_lines f_acts_53 f_size f_next_45 f_where_46 f_token_47 f_number_48 f_sign_49 f_word_50 f_wrong_51 r_all_55 (41 : Int32) _ hw) (cwV 1 hts gX11_atom_X11_must rfl rfl rfl (by decide +kernel) ⟨(show (4) + 1 ≤ 4 * d + 6 by omega), (show 8 + (2 + 11) + (88) ≤ 83 * d + 129 by omega)⟩) (pv_of hPc hK hDc (va_recv hK hPc (ci := 10) (q0 := 0) rfl rfl)) rfl rfl hl.1 rfl (lv_room (Nat.le_of_ble_eq_true rfl)) dX11_atom_20 ⟨Nat.zero_le _, Nat.zero_le _⟩) hS (fun q _ h => hFc q h) hFc (fun u t H locs ht hvm hw hB hz1 hk1 hS => ?_)
    obtain ⟨f_next_56, f_where_57, f_token_58, f_number_59, f_sign_60, f_word_61, f_wrong_62, r_all_63⟩ := u
    obtain ⟨hP, hD⟩ := af_join (wr := [(h_act, .inl (cI, 780, .inl r_act_54))]) (w1 := [(h, .inr (10, [.ref h_all, .ref h_has, .int f_size, .int f_next_56, .int f_where_57, .int f_token_58, .int f_number_59, .int f_sign_60, .int f_word_61, .int f_wrong_62, .int f_open_52, .int f_lines, .int f_acts_53, .ref h_line, .ref h_act, .ref h_pile, .ref h_comes, .ref h_leaves, .ref h_tried, .ref h_met])), (h_all, .inl (cI, 53700, .inl r_all_63))]) hB ht hP hD [0, 2] [1] rfl rfl (by decide) (by decide) hk1 hFc
    have hP : va_P (dC, dI) vwCl [(h_act, .inl (cI, 780, .inl r_act_54)), (h, .inr (10, [.ref h_all, .ref h_has, .int f_size, .int f_next_56, .int f_where_57, .int f_token_58, .int f_number_59, .int f_sign_60, .int f_word_61, .int f_wrong_62, .int f_open_52, .int f_lines, .int f_acts_53, .ref h_line, .ref h_act, .ref h_pile, .ref h_comes, .ref h_leaves, .ref h_tried, .ref h_met])), (h_all, .inl (cI, 53700, .inl r_all_63))] _ := hP
    have hD : va_D A [(h_act, .inl (cI, 780, .inl r_act_54)), (h, .inr (10, [.ref h_all, .ref h_has, .int f_size, .int f_next_56, .int f_where_57, .int f_token_58, .int f_number_59, .int f_sign_60, .int f_word_61, .int f_wrong_62, .int f_open_52, .int f_lines, .int f_acts_53, .ref h_line, .ref h_act, .ref h_pile, .ref h_comes, .ref h_leaves, .ref h_tried, .ref h_met])), (h_all, .inl (cI, 53700, .inl r_all_63))] := hD
    have hP9 := hP.sub (ws' := (vX11_atom cI cZ h h_all h_has h_line h_act h_pile h_comes h_leaves h_tried h_met f_lines f_size f_next_56 f_where_57 f_token_58 f_number_59 f_sign_60 f_word_61 f_wrong_62 f_open_52 f_acts_53 r_act_54 r_all_63)) [1, 0, 2] rfl
    have hD9 := hD.sub (ws' := (vX11_atom cI cZ h h_all h_has h_line h_act h_pile h_comes h_leaves h_tried h_met f_lines f_size f_next_56 f_where_57 f_token_58 f_number_59 f_sign_60 f_word_61 f_wrong_62 f_open_52 f_acts_53 r_act_54 r_all_63)) [1, 0, 2] (by decide) rfl
    exact W.vret hx hb hr (fun t ht hW => ⟨⟨(f_next_56, f_where_57, f_token_58, f_number_59, f_sign_60, f_word_61, f_wrong_62, f_open_52, f_acts_53, r_act_54, r_all_63), rfl, hw, by rw [ht]; exact hP9, va_K.moved hW.alike hK, hD9⟩, hS.F ht⟩) hS.2.2 dX11_atom_23
set_option maxHeartbeats 4000000 in
set_option maxRecDepth 100000 in
theorem kX11_atom (l : Launch) (dC : Nat → ClassId) (dI : Nat → Nat → Nat) (cI cZ cO cW : ClassId) (h h_all h_has h_line h_act h_pile h_comes h_leaves h_tried h_met : Nat)  (sz : Nat) (f_lines : Int32) (f_size : Int32) (f_next : Int32) (f_where : Int32) (f_token : Int32) (f_number : Int32) (f_sign : Int32) (f_word : Int32) (f_wrong : Int32) (f_open : Int32) (f_acts : Int32) (r_act : Nat → Int32) (r_all : Nat → Int32)  (Q : Int32 → Int32 → Int32 → Int32 → Int32 → Int32 → Int32 → Int32 → Int32 → (Nat → Int32) → (Nat → Int32) → Prop) (d : Nat) (RA : (Int32 → Int32 → Int32 → Int32 → Int32 → Int32 → Int32 → Int32 → Int32 → (Nat → Int32) → (Nat → Int32) → Prop) → Int32 → Int32 → Int32 → Int32 → Int32 → Int32 → Int32 → Int32 → Int32 → Int32 → (Nat → Int32) → (Nat → Int32) → Prop) (hRec : ∀ (h h_all h_has h_line h_act h_pile h_comes h_leaves h_tried h_met : Nat) (sz : Nat) (f_lines : Int32) (f_size : Int32) (f_next : Int32) (f_where : Int32) (f_token : Int32) (f_number : Int32) (f_sign : Int32) (f_word : Int32) (f_wrong : Int32) (f_open : Int32) (f_acts : Int32) (r_act : Nat → Int32) (r_all : Nat → Int32)  (Q : Int32 → Int32 → Int32 → Int32 → Int32 → Int32 → Int32 → Int32 → Int32 → (Nat → Int32) → (Nat → Int32) → Prop), RA Q  f_size f_next f_where f_token f_number f_sign f_word f_wrong f_open f_acts r_act r_all → Met l yX11_anyOf wsX11_anyOf (rmX11_anyOf_d d) (va_Pc [.ref h] (fun U => U.heap.size = sz ∧ va_P (dC, dI) vwCl (vX11_anyOf cI cZ h h_all h_has h_line h_act h_pile h_comes h_leaves h_tried h_met f_lines f_size f_next f_where f_token f_number f_sign f_word f_wrong f_open f_acts r_act r_all) U.heap ∧ va_K (dC, dI) vwCl (tysA cI cZ cO cW) U ∧ va_D (fun _ => True) (vX11_anyOf cI cZ h h_all h_has h_line h_act h_pile h_comes h_leaves h_tried h_met f_lines f_size f_next f_where f_token f_number f_sign f_word f_wrong f_open f_acts r_act r_all))) (qX11_anyOf dC dI cI cZ cO cW h h_all h_has h_line h_act h_pile h_comes h_leaves h_tried h_met f_lines f_size Q (va_A (vX11_anyOf cI cZ h h_all h_has h_line h_act h_pile h_comes h_leaves h_tried h_met f_lines f_size f_next f_where f_token f_number f_sign f_word f_wrong f_open f_acts r_act r_all) sz)) 0 0 (va_A (vX11_anyOf cI cZ h h_all h_has h_line h_act h_pile h_comes h_leaves h_tried h_met f_lines f_size f_next f_where f_token f_number f_sign f_word f_wrong f_open f_acts r_act r_all) sz)) (hw : wX11_atom RA Q  f_size f_next f_where f_token f_number f_sign f_word f_wrong f_open f_acts r_act r_all) : Met l yX11_atom wsX11_atom (rmX11_atom d) (va_Pc [.ref h] (fun U => U.heap.size = sz ∧ va_P (dC, dI) vwCl (vX11_atom cI cZ h h_all h_has h_line h_act h_pile h_comes h_leaves h_tried h_met f_lines f_size f_next f_where f_token f_number f_sign f_word f_wrong f_open f_acts r_act r_all) U.heap ∧ va_K (dC, dI) vwCl (tysA cI cZ cO cW) U ∧ va_D (fun _ => True) (vX11_atom cI cZ h h_all h_has h_line h_act h_pile h_comes h_leaves h_tried h_met f_lines f_size f_next f_where f_token f_number f_sign f_word f_wrong f_open f_acts r_act r_all))) (qX11_atom dC dI cI cZ cO cW h h_all h_has h_line h_act h_pile h_comes h_leaves h_tried h_met f_lines f_size Q (va_A (vX11_atom cI cZ h h_all h_has h_line h_act h_pile h_comes h_leaves h_tried h_met f_lines f_size f_next f_where f_token f_number f_sign f_word f_wrong f_open f_acts r_act r_all) sz)) 0 0 (va_A (vX11_atom cI cZ h h_all h_has h_line h_act h_pile h_comes h_leaves h_tried h_met f_lines f_size f_next f_where f_token f_number f_sign f_word f_wrong f_open f_acts r_act r_all) sz) := by
  refine Met.ofW (cc := cX11_atom) (maxL := 3) (ret := none) (by decide) rfl ?_
  intro p e s m args below meth c s₁ B hml hv
  obtain ⟨rfl, hsz, hP, hK, hD0⟩ := hv
  subst hsz
  have hC : Cx p s m ([.ref h] : List Value).toArray meth c cX11_atom none 3 wsX11_atom RX11 := ⟨B.exec, B.bytes, B.returns, hml, findClass_of_methodNamed B.named, atoms_spec (ws := wsX11_atom) B.pre, B.notSynchronized⟩
  have hD := hD0.self (sz := s.heap.size)
  generalize hAe : va_A (vX11_atom cI cZ h h_all h_has h_line h_act h_pile h_comes h_leaves h_tried h_met f_lines f_size f_next f_where f_token f_number f_sign f_word f_wrong f_open f_acts r_act r_all) s.heap.size = A at hD ⊢
  have hA : ∀ q : Nat, s.heap.size ≤ q → A q := fun q h => by rw [← hAe]; exact Or.inr h
  have hl := lv_entry ([.ref h]) (n := 3) (Nat.le_of_ble_eq_true rfl)
  rw [lg_entry_eq]
  generalize (lg_sl ([.ref h]) ++ List.replicate (3 - (lg_sl ([.ref h])).length) Slot.unset).toArray = ls at hl ⊢
  exact tX11_atom_e hC hK hA hRec  f_size f_next f_where f_token f_number f_sign f_word f_wrong f_open f_acts r_act r_all _ _ ls hw hP hD va_S.rf hl

/-! X11_notOf -/
def wX11_notOf (RA : (Int32 → Int32 → Int32 → Int32 → Int32 → Int32 → Int32 → Int32 → Int32 → (Nat → Int32) → (Nat → Int32) → Prop) → Int32 → Int32 → Int32 → Int32 → Int32 → Int32 → Int32 → Int32 → Int32 → Int32 → (Nat → Int32) → (Nat → Int32) → Prop) (Q : Int32 → Int32 → Int32 → Int32 → Int32 → Int32 → Int32 → Int32 → Int32 → (Nat → Int32) → (Nat → Int32) → Prop)  (f_size : Int32) (f_next : Int32) (f_where : Int32) (f_token : Int32) (f_number : Int32) (f_sign : Int32) (f_word : Int32) (f_wrong : Int32) (f_open : Int32) (f_acts : Int32) (r_act : Nat → Int32) (r_all : Nat → Int32) : Prop :=
  (wX11_takesWord (fun r_7 f_next_1 f_where_2 f_token_3 f_number_4 f_sign_5 f_word_6 => (wX11_atom RA (fun f_next_8 f_where_9 f_token_10 f_number_11 f_sign_12 f_word_13 f_wrong_14 f_open_15 f_acts_16 r_act_17 r_all_18 => ((r_7 = 0 → (Q f_next_8 f_where_9 f_token_10 f_number_11 f_sign_12 f_word_13 f_wrong_14 f_open_15 f_acts_16 r_act_17 r_all_18)) ∧ (¬ r_7 = 0 → (wX11_emit (fun f_acts_20 r_act_21 => (Q f_next_8 f_where_9 f_token_10 f_number_11 f_sign_12 f_word_13 f_wrong_14 f_open_15 f_acts_20 r_act_21 r_all_18)) (33 : Int32) (0 : Int32) (0 : Int32) f_acts_16 r_act_17)))) f_size f_next_1 f_where_2 f_token_3 f_number_4 f_sign_5 f_word_6 f_wrong f_open f_acts r_act r_all)) (33 : Int32) f_size f_next f_where f_token f_number f_sign f_word f_wrong r_all)
abbrev vX11_notOf (cI cZ : ClassId) (h h_all h_has h_line h_act h_pile h_comes h_leaves h_tried h_met : Nat) (f_lines : Int32) (f_size : Int32) (f_next : Int32) (f_where : Int32) (f_token : Int32) (f_number : Int32) (f_sign : Int32) (f_word : Int32) (f_wrong : Int32) (f_open : Int32) (f_acts : Int32) (r_act : Nat → Int32) (r_all : Nat → Int32) : va_W := [(h, .inr (10, [.ref h_all, .ref h_has, .int f_size, .int f_next, .int f_where, .int f_token, .int f_number, .int f_sign, .int f_word, .int f_wrong, .int f_open, .int f_lines, .int f_acts, .ref h_line, .ref h_act, .ref h_pile, .ref h_comes, .ref h_leaves, .ref h_tried, .ref h_met])), (h_act, .inl (cI, 780, .inl r_act)), (h_all, .inl (cI, 53700, .inl r_all))]
abbrev rmX11_notOf (d : Nat) : Room := { frames := 4 * d + 7, cells := 0, slots := 0, locals := 83 * d + 151 }
abbrev qX11_notOf (dC : Nat → ClassId) (dI : Nat → Nat → Nat) (cI cZ cO cW : ClassId) (h h_all h_has h_line h_act h_pile h_comes h_leaves h_tried h_met : Nat) (f_lines : Int32) (f_size : Int32) (Q : Int32 → Int32 → Int32 → Int32 → Int32 → Int32 → Int32 → Int32 → Int32 → (Nat → Int32) → (Nat → Int32) → Prop) (A : Nat → Prop) : Array Value → State → Outcome → State → Prop := va_Qv (fun (u : Int32 × Int32 × Int32 × Int32 × Int32 × Int32 × Int32 × Int32 × Int32 × (Nat → Int32) × (Nat → Int32)) => Q u.1 u.2.1 u.2.2.1 u.2.2.2.1 u.2.2.2.2.1 u.2.2.2.2.2.1 u.2.2.2.2.2.2.1 u.2.2.2.2.2.2.2.1 u.2.2.2.2.2.2.2.2.1 u.2.2.2.2.2.2.2.2.2.1 u.2.2.2.2.2.2.2.2.2.2) (fun (u : Int32 × Int32 × Int32 × Int32 × Int32 × Int32 × Int32 × Int32 × Int32 × (Nat → Int32) × (Nat → Int32)) (t : State) => va_P (dC, dI) vwCl (vX11_notOf cI cZ h h_all h_has h_line h_act h_pile h_comes h_leaves h_tried h_met f_lines f_size u.1 u.2.1 u.2.2.1 u.2.2.2.1 u.2.2.2.2.1 u.2.2.2.2.2.1 u.2.2.2.2.2.2.1 u.2.2.2.2.2.2.2.1 u.2.2.2.2.2.2.2.2.1 u.2.2.2.2.2.2.2.2.2.1 u.2.2.2.2.2.2.2.2.2.2) t.heap ∧ va_K (dC, dI) vwCl (tysA cI cZ cO cW) t ∧ va_D A (vX11_notOf cI cZ h h_all h_has h_line h_act h_pile h_comes h_leaves h_tried h_met f_lines f_size u.1 u.2.1 u.2.2.1 u.2.2.2.1 u.2.2.2.2.1 u.2.2.2.2.2.1 u.2.2.2.2.2.2.1 u.2.2.2.2.2.2.2.1 u.2.2.2.2.2.2.2.2.1 u.2.2.2.2.2.2.2.2.2.1 u.2.2.2.2.2.2.2.2.2.2)) A
set_option maxHeartbeats 4000000 in
set_option maxRecDepth 100000 in
theorem tX11_notOf_e {p : Program} {l : Launch} {e : Env} {s : State} {m : MethodId} {args : Array Value} {below : List Frame} {meth : Method} {c : Code} {dC : Nat → ClassId} {dI : Nat → Nat → Nat} {cI cZ cO cW : ClassId} {A : Nat → Prop} {h h_all h_has h_line h_act h_pile h_comes h_leaves h_tried h_met : Nat} {f_lines : Int32} {Q : Int32 → Int32 → Int32 → Int32 → Int32 → Int32 → Int32 → Int32 → Int32 → (Nat → Int32) → (Nat → Int32) → Prop} {d : Nat} {RA : (Int32 → Int32 → Int32 → Int32 → Int32 → Int32 → Int32 → Int32 → Int32 → (Nat → Int32) → (Nat → Int32) → Prop) → Int32 → Int32 → Int32 → Int32 → Int32 → Int32 → Int32 → Int32 → Int32 → Int32 → (Nat → Int32) → (Nat → Int32) → Prop} (hC : Cx p s m args meth c cX11_notOf none 2 wsX11_notOf RX11) (hK : va_K (dC, dI) vwCl (tysA cI cZ cO cW) s) (hA : ∀ q : Nat, s.heap.size ≤ q → A q) (hRec : ∀ (h h_all h_has h_line h_act h_pile h_comes h_leaves h_tried h_met : Nat) (sz : Nat) (f_lines : Int32) (f_size : Int32) (f_next : Int32) (f_where : Int32) (f_token : Int32) (f_number : Int32) (f_sign : Int32) (f_word : Int32) (f_wrong : Int32) (f_open : Int32) (f_acts : Int32) (r_act : Nat → Int32) (r_all : Nat → Int32)  (Q : Int32 → Int32 → Int32 → Int32 → Int32 → Int32 → Int32 → Int32 → Int32 → (Nat → Int32) → (Nat → Int32) → Prop), RA Q  f_size f_next f_where f_token f_number f_sign f_word f_wrong f_open f_acts r_act r_all → Met l yX11_anyOf wsX11_anyOf (rmX11_anyOf_d d) (va_Pc [.ref h] (fun U => U.heap.size = sz ∧ va_P (dC, dI) vwCl (vX11_anyOf cI cZ h h_all h_has h_line h_act h_pile h_comes h_leaves h_tried h_met f_lines f_size f_next f_where f_token f_number f_sign f_word f_wrong f_open f_acts r_act r_all) U.heap ∧ va_K (dC, dI) vwCl (tysA cI cZ cO cW) U ∧ va_D (fun _ => True) (vX11_anyOf cI cZ h h_all h_has h_line h_act h_pile h_comes h_leaves h_tried h_met f_lines f_size f_next f_where f_token f_number f_sign f_word f_wrong f_open f_acts r_act r_all))) (qX11_anyOf dC dI cI cZ cO cW h h_all h_has h_line h_act h_pile h_comes h_leaves h_tried h_met f_lines f_size Q (va_A (vX11_anyOf cI cZ h h_all h_has h_line h_act h_pile h_comes h_leaves h_tried h_met f_lines f_size f_next f_where f_token f_number f_sign f_word f_wrong f_open f_acts r_act r_all) sz)) 0 0 (va_A (vX11_anyOf cI cZ h h_all h_has h_line h_act h_pile h_comes h_leaves h_tried h_met f_lines f_size f_next f_where f_token f_number f_sign f_word f_wrong f_open f_acts r_act r_all) sz)) :
    ∀ (f_size : Int32) (f_next : Int32) (f_where : Int32) (f_token : Int32) (f_number : Int32) (f_sign : Int32) (f_word : Int32) (f_wrong : Int32) (f_open : Int32) (f_acts : Int32) (r_act : Nat → Int32) (r_all : Nat → Int32) (H : Heap) (locs : List Loc) (ls : Array Slot), wX11_notOf RA Q  f_size f_next f_where f_token f_number f_sign f_word f_wrong f_open f_acts r_act r_all → va_P (dC, dI) vwCl (vX11_notOf cI cZ h h_all h_has h_line h_act h_pile h_comes h_leaves h_tried h_met f_lines f_size f_next f_where f_token f_number f_sign f_word f_wrong f_open f_acts r_act r_all) H → va_D A (vX11_notOf cI cZ h h_all h_has h_line h_act h_pile h_comes h_leaves h_tried h_met f_lines f_size f_next f_where f_token f_number f_sign f_word f_wrong f_open f_acts r_act r_all) → va_S A s.heap H locs → lv_has ls 2 [(0, .ref h)] → W p l e (rmX11_notOf d) s m args below meth c H locs 0 0 (MQ below (qX11_notOf dC dI cI cZ cO cW h h_all h_has h_line h_act h_pile h_comes h_leaves h_tried h_met f_lines f_size Q A) args s 0 0 A) (F0 m 0 ls []) := by
  obtain ⟨hx, hb, hr, hml, hown, hts, hlocks⟩ := id hC
  intro  f_size f_next f_where f_token f_number f_sign f_word f_wrong f_open f_acts r_act r_all H locs ls hw hP hD hS hl
  refine lv_aload_n hx hb dX11_notOf_0 rfl (lv_at hl 0 rfl) ?_
  refine lv_bipush (v := (33 : Int32)) hx hb dX11_notOf_1 (by decide) ?_
  have hPc := hP.sub (ws' := [(h, .inr (10, [.ref h_all, .ref h_has, .int f_size, .int f_next, .int f_where, .int f_token, .int f_number, .int f_sign, .int f_word, .int f_wrong, .int f_open, .int f_lines, .int f_acts, .ref h_line, .ref h_act, .ref h_pile, .ref h_comes, .ref h_leaves, .ref h_tried, .ref h_met])), (h_all, .inl (cI, 53700, .inl r_all))]) [0, 2] rfl
  have hDc := hD.sub (ws' := [(h, .inr (10, [.ref h_all, .ref h_has, .int f_size, .int f_next, .int f_where, .int f_token, .int f_number, .int f_sign, .int f_word, .int f_wrong, .int f_open, .int f_lines, .int f_acts, .ref h_line, .ref h_act, .ref h_pile, .ref h_comes, .ref h_leaves, .ref h_tried, .ref h_met])), (h_all, .inl (cI, 53700, .inl r_all))]) [0, 2] (by decide) rfl
  have hFc := va_free (wc := [(h, .inr (10, [.ref h_all, .ref h_has, .int f_size, .int f_next, .int f_where, .int f_token, .int f_number, .int f_sign, .int f_word, .int f_wrong, .int f_open, .int f_lines, .int f_acts, .ref h_line, .ref h_act, .ref h_pile, .ref h_comes, .ref h_leaves, .ref h_tried, .ref h_met])), (h_all, .inl (cI, 53700, .inl r_all))]) hD hS hA [0, 2] rfl
  refine va_calli (va_runV (As := [.int (33 : Int32)]) (rest := []) ⟨hx, hb, hml, hown, hts⟩ (kX11_takesWord l dC dI cI cZ cO cW h h_all h_has h_line h_act h_pile h_comes h_leaves h_tried h_met H.size f_open f_lines f_acts f_size f_next f_where f_token f_number f_sign f_word f_wrong r_all (33 : Int32) _ hw) (cwV 1 hts gX11_notOf_X11_takesWord rfl rfl rfl (by decide +kernel) ⟨(show (4) + 1 ≤ 4 * d + 7 by omega), (show 8 + (2 + 11) + (88) ≤ 83 * d + 151 by omega)⟩) (pv_of hPc hK hDc (va_recv hK hPc (ci := 10) (q0 := 0) rfl rfl)) rfl rfl hl.1 rfl (lv_room (Nat.le_of_ble_eq_true rfl)) dX11_notOf_3 ⟨Nat.zero_le _, Nat.zero_le _⟩) hS (fun q _ h => hFc q h) hFc (fun r_7 u t H locs ht hvm hw hB hz1 hk1 hS => ?_)
  obtain ⟨f_next_1, f_where_2, f_token_3, f_number_4, f_sign_5, f_word_6⟩ := u
  obtain ⟨hP, hD⟩ := af_join (wr := [(h_act, .inl (cI, 780, .inl r_act))]) (w1 := [(h, .inr (10, [.ref h_all, .ref h_has, .int f_size, .int f_next_1, .int f_where_2, .int f_token_3, .int f_number_4, .int f_sign_5, .int f_word_6, .int f_wrong, .int f_open, .int f_lines, .int f_acts, .ref h_line, .ref h_act, .ref h_pile, .ref h_comes, .ref h_leaves, .ref h_tried, .ref h_met])), (h_all, .inl (cI, 53700, .inl r_all))]) hB ht hP hD [0, 2] [1] rfl rfl (by decide) (by decide) hk1 hFc
  have hP : va_P (dC, dI) vwCl [(h_act, .inl (cI, 780, .inl r_act)), (h, .inr (10, [.ref h_all, .ref h_has, .int f_size, .int f_next_1, .int f_where_2, .int f_token_3, .int f_number_4, .int f_sign_5, .int f_word_6, .int f_wrong, .int f_open, .int f_lines, .int f_acts, .ref h_line, .ref h_act, .ref h_pile, .ref h_comes, .ref h_leaves, .ref h_tried, .ref h_met])), (h_all, .inl (cI, 53700, .inl r_all))] _ := hP
  have hD : va_D A [(h_act, .inl (cI, 780, .inl r_act)), (h, .inr (10, [.ref h_all, .ref h_has, .int f_size, .int f_next_1, .int f_where_2, .int f_token_3, .int f_number_4, .int f_sign_5, .int f_word_6, .int f_wrong, .int f_open, .int f_lines, .int f_acts, .ref h_line, .ref h_act, .ref h_pile, .ref h_comes, .ref h_leaves, .ref h_tried, .ref h_met])), (h_all, .inl (cI, 53700, .inl r_all))] := hD
  refine lv_istore_n (lv' := [(1, .int r_7), (0, .ref h)]) hx hb dX11_notOf_6 rfl hl (by decide) rfl (fun ls hl => ?_)
  refine lv_aload_n hx hb dX11_notOf_7 rfl (lv_at hl 1 rfl) ?_
  have hPc := hP.sub (ws' := [(h, .inr (10, [.ref h_all, .ref h_has, .int f_size, .int f_next_1, .int f_where_2, .int f_token_3, .int f_number_4, .int f_sign_5, .int f_word_6, .int f_wrong, .int f_open, .int f_lines, .int f_acts, .ref h_line, .ref h_act, .ref h_pile, .ref h_comes, .ref h_leaves, .ref h_tried, .ref h_met])), (h_act, .inl (cI, 780, .inl r_act)), (h_all, .inl (cI, 53700, .inl r_all))]) [1, 0, 2] rfl
  have hDc := hD.sub (ws' := [(h, .inr (10, [.ref h_all, .ref h_has, .int f_size, .int f_next_1, .int f_where_2, .int f_token_3, .int f_number_4, .int f_sign_5, .int f_word_6, .int f_wrong, .int f_open, .int f_lines, .int f_acts, .ref h_line, .ref h_act, .ref h_pile, .ref h_comes, .ref h_leaves, .ref h_tried, .ref h_met])), (h_act, .inl (cI, 780, .inl r_act)), (h_all, .inl (cI, 53700, .inl r_all))]) [1, 0, 2] (by decide) rfl
  have hFc := va_free (wc := [(h, .inr (10, [.ref h_all, .ref h_has, .int f_size, .int f_next_1, .int f_where_2, .int f_token_3, .int f_number_4, .int f_sign_5, .int f_word_6, .int f_wrong, .int f_open, .int f_lines, .int f_acts, .ref h_line, .ref h_act, .ref h_pile, .ref h_comes, .ref h_leaves, .ref h_tried, .ref h_met])), (h_act, .inl (cI, 780, .inl r_act)), (h_all, .inl (cI, 53700, .inl r_all))]) hD hS hA [1, 0, 2] rfl
  refine va_callv (va_runV (As := []) (rest := []) ⟨hx, hb, hml, hown, hts⟩ (kX11_atom l dC dI cI cZ cO cW h h_all h_has h_line h_act h_pile h_comes h_leaves h_tried h_met H.size f_lines f_size f_next_1 f_where_2 f_token_3 f_number_4 f_sign_5 f_word_6 f_wrong f_open f_acts r_act r_all _ d RA hRec hw) (cwV 0 hts gX11_notOf_X11_atom rfl rfl rfl (by decide +kernel) ⟨(show (4 * d + 6) + 1 ≤ 4 * d + 7 by omega), (show 8 + (3 + 11) + (83 * d + 129) ≤ 83 * d + 151 by omega)⟩) (pv_of hPc hK hDc (va_recv hK hPc (ci := 10) (q0 := 0) rfl rfl)) rfl rfl hl.1 rfl (lv_room (Nat.le_of_ble_eq_true rfl)) dX11_notOf_8 ⟨Nat.zero_le _, Nat.zero_le _⟩) hS (fun q _ h => hFc q h) hFc (fun u t H locs ht hvm hw hB hz1 hk1 hS => ?_)
  obtain ⟨f_next_8, f_where_9, f_token_10, f_number_11, f_sign_12, f_word_13, f_wrong_14, f_open_15, f_acts_16, r_act_17, r_all_18⟩ := u
  obtain ⟨hP, hD⟩ := af_join (wr := []) (w1 := [(h, .inr (10, [.ref h_all, .ref h_has, .int f_size, .int f_next_8, .int f_where_9, .int f_token_10, .int f_number_11, .int f_sign_12, .int f_word_13, .int f_wrong_14, .int f_open_15, .int f_lines, .int f_acts_16, .ref h_line, .ref h_act, .ref h_pile, .ref h_comes, .ref h_leaves, .ref h_tried, .ref h_met])), (h_act, .inl (cI, 780, .inl r_act_17)), (h_all, .inl (cI, 53700, .inl r_all_18))]) hB ht hP hD [1, 0, 2] [] rfl rfl (by decide) (by decide) hk1 hFc
  have hP : va_P (dC, dI) vwCl [(h, .inr (10, [.ref h_all, .ref h_has, .int f_size, .int f_next_8, .int f_where_9, .int f_token_10, .int f_number_11, .int f_sign_12, .int f_word_13, .int f_wrong_14, .int f_open_15, .int f_lines, .int f_acts_16, .ref h_line, .ref h_act, .ref h_pile, .ref h_comes, .ref h_leaves, .ref h_tried, .ref h_met])), (h_act, .inl (cI, 780, .inl r_act_17)), (h_all, .inl (cI, 53700, .inl r_all_18))] _ := hP
  have hD : va_D A [(h, .inr (10, [.ref h_all, .ref h_has, .int f_size, .int f_next_8, .int f_where_9, .int f_token_10, .int f_number_11, .int f_sign_12, .int f_word_13, .int f_wrong_14, .int f_open_15, .int f_lines, .int f_acts_16, .ref h_line, .ref h_act, .ref h_pile, .ref h_comes, .ref h_leaves, .ref h_tried, .ref h_met])), (h_act, .inl (cI, 780, .inl r_act_17)), (h_all, .inl (cI, 53700, .inl r_all_18))] := hD
  refine lv_iload_n hx hb dX11_notOf_11 rfl (lv_at hl 0 rfl) ?_
  refine lv_if_eq (tgt := 23) hx hb dX11_notOf_12 (by decide) (fun c_19 => ?_) (fun c_19 => ?_)
  · have hw := hw.1 c_19
    have hP9 := hP.sub (ws' := (vX11_notOf cI cZ h h_all h_has h_line h_act h_pile h_comes h_leaves h_tried h_met f_lines f_size f_next_8 f_where_9 f_token_10 f_number_11 f_sign_12 f_word_13 f_wrong_14 f_open_15 f_acts_16 r_act_17 r_all_18)) [0, 1, 2] rfl
    have hD9 := hD.sub (ws' := (vX11_notOf cI cZ h h_all h_has h_line h_act h_pile h_comes h_leaves h_tried h_met f_lines f_size f_next_8 f_where_9 f_token_10 f_number_11 f_sign_12 f_word_13 f_wrong_14 f_open_15 f_acts_16 r_act_17 r_all_18)) [0, 1, 2] (by decide) rfl
    exact W.vret hx hb hr (fun t ht hW => ⟨⟨(f_next_8, f_where_9, f_token_10, f_number_11, f_sign_12, f_word_13, f_wrong_14, f_open_15, f_acts_16, r_act_17, r_all_18), rfl, hw, by rw [ht]; exact hP9, va_K.moved hW.alike hK, hD9⟩, hS.F ht⟩) hS.2.2 dX11_notOf_23
  · have hw := hw.2 c_19
    refine lv_aload_n hx hb dX11_notOf_15 rfl (lv_at hl 1 rfl) ?_
    refine lv_bipush (v := (33 : Int32)) hx hb dX11_notOf_16 (by decide) ?_
    refine lv_iconst (v := (0 : Int32)) hx hb dX11_notOf_18 (by decide) ?_
    refine lv_iconst (v := (0 : Int32)) hx hb dX11_notOf_19 (by decide) ?_
    have hPc := hP.sub (ws' := [(h, .inr (10, [.ref h_all, .ref h_has, .int f_size, .int f_next_8, .int f_where_9, .int f_token_10, .int f_number_11, .int f_sign_12, .int f_word_13, .int f_wrong_14, .int f_open_15, .int f_lines, .int f_acts_16, .ref h_line, .ref h_act, .ref h_pile, .ref h_comes, .ref h_leaves, .ref h_tried, .ref h_met])), (h_act, .inl (cI, 780, .inl r_act_17))]) [0, 1] rfl
    have hDc := hD.sub (ws' := [(h, .inr (10, [.ref h_all, .ref h_has, .int f_size, .int f_next_8, .int f_where_9, .int f_token_10, .int f_number_11, .int f_sign_12, .int f_word_13, .int f_wrong_14, .int f_open_15, .int f_lines, .int f_acts_16, .ref h_line, .ref h_act, .ref h_pile, .ref h_comes, .ref h_leaves, .ref h_tried, .ref h_met])), (h_act, .inl (cI, 780, .inl r_act_17))]) [0, 1] (by decide) rfl
    have hFc := va_free (wc := [(h, .inr (10, [.ref h_all, .ref h_has, .int f_size, .int f_next_8, .int f_where_9, .int f_token_10, .int f_number_11, .int f_sign_12, .int f_word_13, .int f_wrong_14, .int f_open_15, .int f_lines, .int f_acts_16, .ref h_line, .ref h_act, .ref h_pile, .ref h_comes, .ref h_leaves, .ref h_tried, .ref h_met])), (h_act, .inl (cI, 780, .inl r_act_17))]) hD hS hA [0, 1] rfl
    refine va_callv (va_runV (As := [.int (33 : Int32), .int (0 : Int32), .int (0 : Int32)]) (rest := []) ⟨hx, hb, hml, hown, hts⟩ (kX11_emit l dC dI cI cZ cO cW h h_all h_has h_line h_act h_pile h_comes h_leaves h_tried h_met H.size f_size f_next_8 f_where_9 f_token_10 f_number_11 f_sign_12 f_word_13 f_wrong_14 f_open_15 f_lines f_acts_16 r_act_17 (33 : Int32) (0 : Int32) (0 : Int32) _ hw) (cwV 3 hts gX11_notOf_X11_emit rfl rfl rfl (by decide +kernel) ⟨(show (0) + 1 ≤ 4 * d + 7 by omega), (show 8 + (4 + 11) + (0) ≤ 83 * d + 151 by omega)⟩) (pv_of hPc hK hDc (va_recv hK hPc (ci := 10) (q0 := 0) rfl rfl)) rfl rfl hl.1 rfl (lv_room (Nat.le_of_ble_eq_true rfl)) dX11_notOf_20 ⟨Nat.zero_le _, Nat.zero_le _⟩) hS (fun q _ h => hFc q h) hFc (fun u t H locs ht hvm hw hB hz1 hk1 hS => ?_)
    obtain ⟨f_acts_20, r_act_21⟩ := u
    obtain ⟨hP, hD⟩ := af_join (wr := [(h_all, .inl (cI, 53700, .inl r_all_18))]) (w1 := [(h, .inr (10, [.ref h_all, .ref h_has, .int f_size, .int f_next_8, .int f_where_9, .int f_token_10, .int f_number_11, .int f_sign_12, .int f_word_13, .int f_wrong_14, .int f_open_15, .int f_lines, .int f_acts_20, .ref h_line, .ref h_act, .ref h_pile, .ref h_comes, .ref h_leaves, .ref h_tried, .ref h_met])), (h_act, .inl (cI, 780, .inl r_act_21))]) hB ht hP hD [0, 1] [2] rfl rfl (by decide) (by decide) hk1 hFc
    have hP : va_P (dC, dI) vwCl [(h_all, .inl (cI, 53700, .inl r_all_18)), (h, .inr (10, [.ref h_all, .ref h_has, .int f_size, .int f_next_8, .int f_where_9, .int f_token_10, .int f_number_11, .int f_sign_12, .int f_word_13, .int f_wrong_14, .int f_open_15, .int f_lines, .int f_acts_20, .ref h_line, .ref h_act, .ref h_pile, .ref h_comes, .ref h_leaves, .ref h_tried, .ref h_met])), (h_act, .inl (cI, 780, .inl r_act_21))] _ := hP
    have hD : va_D A [(h_all, .inl (cI, 53700, .inl r_all_18)), (h, .inr (10, [.ref h_all, .ref h_has, .int f_size, .int f_next_8, .int f_where_9, .int f_token_10, .int f_number_11, .int f_sign_12, .int f_word_13, .int f_wrong_14, .int f_open_15, .int f_lines, .int f_acts_20, .ref h_line, .ref h_act, .ref h_pile, .ref h_comes, .ref h_leaves, .ref h_tried, .ref h_met])), (h_act, .inl (cI, 780, .inl r_act_21))] := hD
    have hP9 := hP.sub (ws' := (vX11_notOf cI cZ h h_all h_has h_line h_act h_pile h_comes h_leaves h_tried h_met f_lines f_size f_next_8 f_where_9 f_token_10 f_number_11 f_sign_12 f_word_13 f_wrong_14 f_open_15 f_acts_20 r_act_21 r_all_18)) [1, 2, 0] rfl
    have hD9 := hD.sub (ws' := (vX11_notOf cI cZ h h_all h_has h_line h_act h_pile h_comes h_leaves h_tried h_met f_lines f_size f_next_8 f_where_9 f_token_10 f_number_11 f_sign_12 f_word_13 f_wrong_14 f_open_15 f_acts_20 r_act_21 r_all_18)) [1, 2, 0] (by decide) rfl
    exact W.vret hx hb hr (fun t ht hW => ⟨⟨(f_next_8, f_where_9, f_token_10, f_number_11, f_sign_12, f_word_13, f_wrong_14, f_open_15, f_acts_20, r_act_21, r_all_18), rfl, hw, by rw [ht]; exact hP9, va_K.moved hW.alike hK, hD9⟩, hS.F ht⟩) hS.2.2 dX11_notOf_23
set_option maxHeartbeats 4000000 in
set_option maxRecDepth 100000 in
theorem kX11_notOf (l : Launch) (dC : Nat → ClassId) (dI : Nat → Nat → Nat) (cI cZ cO cW : ClassId) (h h_all h_has h_line h_act h_pile h_comes h_leaves h_tried h_met : Nat)  (sz : Nat) (f_lines : Int32) (f_size : Int32) (f_next : Int32) (f_where : Int32) (f_token : Int32) (f_number : Int32) (f_sign : Int32) (f_word : Int32) (f_wrong : Int32) (f_open : Int32) (f_acts : Int32) (r_act : Nat → Int32) (r_all : Nat → Int32)  (Q : Int32 → Int32 → Int32 → Int32 → Int32 → Int32 → Int32 → Int32 → Int32 → (Nat → Int32) → (Nat → Int32) → Prop) (d : Nat) (RA : (Int32 → Int32 → Int32 → Int32 → Int32 → Int32 → Int32 → Int32 → Int32 → (Nat → Int32) → (Nat → Int32) → Prop) → Int32 → Int32 → Int32 → Int32 → Int32 → Int32 → Int32 → Int32 → Int32 → Int32 → (Nat → Int32) → (Nat → Int32) → Prop) (hRec : ∀ (h h_all h_has h_line h_act h_pile h_comes h_leaves h_tried h_met : Nat) (sz : Nat) (f_lines : Int32) (f_size : Int32) (f_next : Int32) (f_where : Int32) (f_token : Int32) (f_number : Int32) (f_sign : Int32) (f_word : Int32) (f_wrong : Int32) (f_open : Int32) (f_acts : Int32) (r_act : Nat → Int32) (r_all : Nat → Int32)  (Q : Int32 → Int32 → Int32 → Int32 → Int32 → Int32 → Int32 → Int32 → Int32 → (Nat → Int32) → (Nat → Int32) → Prop), RA Q  f_size f_next f_where f_token f_number f_sign f_word f_wrong f_open f_acts r_act r_all → Met l yX11_anyOf wsX11_anyOf (rmX11_anyOf_d d) (va_Pc [.ref h] (fun U => U.heap.size = sz ∧ va_P (dC, dI) vwCl (vX11_anyOf cI cZ h h_all h_has h_line h_act h_pile h_comes h_leaves h_tried h_met f_lines f_size f_next f_where f_token f_number f_sign f_word f_wrong f_open f_acts r_act r_all) U.heap ∧ va_K (dC, dI) vwCl (tysA cI cZ cO cW) U ∧ va_D (fun _ => True) (vX11_anyOf cI cZ h h_all h_has h_line h_act h_pile h_comes h_leaves h_tried h_met f_lines f_size f_next f_where f_token f_number f_sign f_word f_wrong f_open f_acts r_act r_all))) (qX11_anyOf dC dI cI cZ cO cW h h_all h_has h_line h_act h_pile h_comes h_leaves h_tried h_met f_lines f_size Q (va_A (vX11_anyOf cI cZ h h_all h_has h_line h_act h_pile h_comes h_leaves h_tried h_met f_lines f_size f_next f_where f_token f_number f_sign f_word f_wrong f_open f_acts r_act r_all) sz)) 0 0 (va_A (vX11_anyOf cI cZ h h_all h_has h_line h_act h_pile h_comes h_leaves h_tried h_met f_lines f_size f_next f_where f_token f_number f_sign f_word f_wrong f_open f_acts r_act r_all) sz)) (hw : wX11_notOf RA Q  f_size f_next f_where f_token f_number f_sign f_word f_wrong f_open f_acts r_act r_all) : Met l yX11_notOf wsX11_notOf (rmX11_notOf d) (va_Pc [.ref h] (fun U => U.heap.size = sz ∧ va_P (dC, dI) vwCl (vX11_notOf cI cZ h h_all h_has h_line h_act h_pile h_comes h_leaves h_tried h_met f_lines f_size f_next f_where f_token f_number f_sign f_word f_wrong f_open f_acts r_act r_all) U.heap ∧ va_K (dC, dI) vwCl (tysA cI cZ cO cW) U ∧ va_D (fun _ => True) (vX11_notOf cI cZ h h_all h_has h_line h_act h_pile h_comes h_leaves h_tried h_met f_lines f_size f_next f_where f_token f_number f_sign f_word f_wrong f_open f_acts r_act r_all))) (qX11_notOf dC dI cI cZ cO cW h h_all h_has h_line h_act h_pile h_comes h_leaves h_tried h_met f_lines f_size Q (va_A (vX11_notOf cI cZ h h_all h_has h_line h_act h_pile h_comes h_leaves h_tried h_met f_lines f_size f_next f_where f_token f_number f_sign f_word f_wrong f_open f_acts r_act r_all) sz)) 0 0 (va_A (vX11_notOf cI cZ h h_all h_has h_line h_act h_pile h_comes h_leaves h_tried h_met f_lines f_size f_next f_where f_token f_number f_sign f_word f_wrong f_open f_acts r_act r_all) sz) := by
  refine Met.ofW (cc := cX11_notOf) (maxL := 2) (ret := none) (by decide) rfl ?_
  intro p e s m args below meth c s₁ B hml hv
  obtain ⟨rfl, hsz, hP, hK, hD0⟩ := hv
  subst hsz
  have hC : Cx p s m ([.ref h] : List Value).toArray meth c cX11_notOf none 2 wsX11_notOf RX11 := ⟨B.exec, B.bytes, B.returns, hml, findClass_of_methodNamed B.named, atoms_spec (ws := wsX11_notOf) B.pre, B.notSynchronized⟩
  have hD := hD0.self (sz := s.heap.size)
  generalize hAe : va_A (vX11_notOf cI cZ h h_all h_has h_line h_act h_pile h_comes h_leaves h_tried h_met f_lines f_size f_next f_where f_token f_number f_sign f_word f_wrong f_open f_acts r_act r_all) s.heap.size = A at hD ⊢
  have hA : ∀ q : Nat, s.heap.size ≤ q → A q := fun q h => by rw [← hAe]; exact Or.inr h
  have hl := lv_entry ([.ref h]) (n := 2) (Nat.le_of_ble_eq_true rfl)
  rw [lg_entry_eq]
  generalize (lg_sl ([.ref h]) ++ List.replicate (2 - (lg_sl ([.ref h])).length) Slot.unset).toArray = ls at hl ⊢
  exact tX11_notOf_e hC hK hA hRec  f_size f_next f_where f_token f_number f_sign f_word f_wrong f_open f_acts r_act r_all _ _ ls hw hP hD va_S.rf hl

/-! X11_allOf -/
def wX11_allOf_4 (RA : (Int32 → Int32 → Int32 → Int32 → Int32 → Int32 → Int32 → Int32 → Int32 → (Nat → Int32) → (Nat → Int32) → Prop) → Int32 → Int32 → Int32 → Int32 → Int32 → Int32 → Int32 → Int32 → Int32 → Int32 → (Nat → Int32) → (Nat → Int32) → Prop) (Q : Int32 → Int32 → Int32 → Int32 → Int32 → Int32 → Int32 → Int32 → Int32 → (Nat → Int32) → (Nat → Int32) → Prop)   : Nat → Int32 → Int32 → Int32 → Int32 → Int32 → Int32 → Int32 → Int32 → Int32 → Int32 → (Nat → Int32) → (Nat → Int32) → Prop
  | 0, _, _, _, _, _, _, _, _, _, _, _, _ => False
  | n + 1, f_size, f_next, f_where, f_token, f_number, f_sign, f_word, f_wrong, f_open, f_acts, r_act, r_all => (wX11_takesWord (fun r_7 f_next_1 f_where_2 f_token_3 f_number_4 f_sign_5 f_word_6 => ((r_7 = 0 → (Q f_next_1 f_where_2 f_token_3 f_number_4 f_sign_5 f_word_6 f_wrong f_open f_acts r_act r_all)) ∧ (¬ r_7 = 0 → (wX11_notOf RA (fun f_next_9 f_where_10 f_token_11 f_number_12 f_sign_13 f_word_14 f_wrong_15 f_open_16 f_acts_17 r_act_18 r_all_19 => (wX11_emit (fun f_acts_20 r_act_21 => (wX11_allOf_4 RA Q n f_size f_next_9 f_where_10 f_token_11 f_number_12 f_sign_13 f_word_14 f_wrong_15 f_open_16 f_acts_20 r_act_21 r_all_19)) (32 : Int32) (0 : Int32) (0 : Int32) f_acts_17 r_act_18)) f_size f_next_1 f_where_2 f_token_3 f_number_4 f_sign_5 f_word_6 f_wrong f_open f_acts r_act r_all)))) (32 : Int32) f_size f_next f_where f_token f_number f_sign f_word f_wrong r_all)
def wX11_allOf (RA : (Int32 → Int32 → Int32 → Int32 → Int32 → Int32 → Int32 → Int32 → Int32 → (Nat → Int32) → (Nat → Int32) → Prop) → Int32 → Int32 → Int32 → Int32 → Int32 → Int32 → Int32 → Int32 → Int32 → Int32 → (Nat → Int32) → (Nat → Int32) → Prop) (Q : Int32 → Int32 → Int32 → Int32 → Int32 → Int32 → Int32 → Int32 → Int32 → (Nat → Int32) → (Nat → Int32) → Prop)  (f_size : Int32) (f_next : Int32) (f_where : Int32) (f_token : Int32) (f_number : Int32) (f_sign : Int32) (f_word : Int32) (f_wrong : Int32) (f_open : Int32) (f_acts : Int32) (r_act : Nat → Int32) (r_all : Nat → Int32) : Prop :=
  (wX11_notOf RA (fun f_next_22 f_where_23 f_token_24 f_number_25 f_sign_26 f_word_27 f_wrong_28 f_open_29 f_acts_30 r_act_31 r_all_32 => (∃ j_, wX11_allOf_4 RA Q j_ f_size f_next_22 f_where_23 f_token_24 f_number_25 f_sign_26 f_word_27 f_wrong_28 f_open_29 f_acts_30 r_act_31 r_all_32)) f_size f_next f_where f_token f_number f_sign f_word f_wrong f_open f_acts r_act r_all)
abbrev vX11_allOf (cI cZ : ClassId) (h h_all h_has h_line h_act h_pile h_comes h_leaves h_tried h_met : Nat) (f_lines : Int32) (f_size : Int32) (f_next : Int32) (f_where : Int32) (f_token : Int32) (f_number : Int32) (f_sign : Int32) (f_word : Int32) (f_wrong : Int32) (f_open : Int32) (f_acts : Int32) (r_act : Nat → Int32) (r_all : Nat → Int32) : va_W := [(h, .inr (10, [.ref h_all, .ref h_has, .int f_size, .int f_next, .int f_where, .int f_token, .int f_number, .int f_sign, .int f_word, .int f_wrong, .int f_open, .int f_lines, .int f_acts, .ref h_line, .ref h_act, .ref h_pile, .ref h_comes, .ref h_leaves, .ref h_tried, .ref h_met])), (h_act, .inl (cI, 780, .inl r_act)), (h_all, .inl (cI, 53700, .inl r_all))]
abbrev rmX11_allOf (d : Nat) : Room := { frames := 4 * d + 8, cells := 0, slots := 0, locals := 83 * d + 172 }
abbrev qX11_allOf (dC : Nat → ClassId) (dI : Nat → Nat → Nat) (cI cZ cO cW : ClassId) (h h_all h_has h_line h_act h_pile h_comes h_leaves h_tried h_met : Nat) (f_lines : Int32) (f_size : Int32) (Q : Int32 → Int32 → Int32 → Int32 → Int32 → Int32 → Int32 → Int32 → Int32 → (Nat → Int32) → (Nat → Int32) → Prop) (A : Nat → Prop) : Array Value → State → Outcome → State → Prop := va_Qv (fun (u : Int32 × Int32 × Int32 × Int32 × Int32 × Int32 × Int32 × Int32 × Int32 × (Nat → Int32) × (Nat → Int32)) => Q u.1 u.2.1 u.2.2.1 u.2.2.2.1 u.2.2.2.2.1 u.2.2.2.2.2.1 u.2.2.2.2.2.2.1 u.2.2.2.2.2.2.2.1 u.2.2.2.2.2.2.2.2.1 u.2.2.2.2.2.2.2.2.2.1 u.2.2.2.2.2.2.2.2.2.2) (fun (u : Int32 × Int32 × Int32 × Int32 × Int32 × Int32 × Int32 × Int32 × Int32 × (Nat → Int32) × (Nat → Int32)) (t : State) => va_P (dC, dI) vwCl (vX11_allOf cI cZ h h_all h_has h_line h_act h_pile h_comes h_leaves h_tried h_met f_lines f_size u.1 u.2.1 u.2.2.1 u.2.2.2.1 u.2.2.2.2.1 u.2.2.2.2.2.1 u.2.2.2.2.2.2.1 u.2.2.2.2.2.2.2.1 u.2.2.2.2.2.2.2.2.1 u.2.2.2.2.2.2.2.2.2.1 u.2.2.2.2.2.2.2.2.2.2) t.heap ∧ va_K (dC, dI) vwCl (tysA cI cZ cO cW) t ∧ va_D A (vX11_allOf cI cZ h h_all h_has h_line h_act h_pile h_comes h_leaves h_tried h_met f_lines f_size u.1 u.2.1 u.2.2.1 u.2.2.2.1 u.2.2.2.2.1 u.2.2.2.2.2.1 u.2.2.2.2.2.2.1 u.2.2.2.2.2.2.2.1 u.2.2.2.2.2.2.2.2.1 u.2.2.2.2.2.2.2.2.2.1 u.2.2.2.2.2.2.2.2.2.2)) A
set_option maxHeartbeats 4000000 in
set_option maxRecDepth 100000 in
theorem tX11_allOf_4 {p : Program} {l : Launch} {e : Env} {s : State} {m : MethodId} {args : Array Value} {below : List Frame} {meth : Method} {c : Code} {dC : Nat → ClassId} {dI : Nat → Nat → Nat} {cI cZ cO cW : ClassId} {A : Nat → Prop} {h h_all h_has h_line h_act h_pile h_comes h_leaves h_tried h_met : Nat} {f_lines : Int32} {Q : Int32 → Int32 → Int32 → Int32 → Int32 → Int32 → Int32 → Int32 → Int32 → (Nat → Int32) → (Nat → Int32) → Prop} {d : Nat} {RA : (Int32 → Int32 → Int32 → Int32 → Int32 → Int32 → Int32 → Int32 → Int32 → (Nat → Int32) → (Nat → Int32) → Prop) → Int32 → Int32 → Int32 → Int32 → Int32 → Int32 → Int32 → Int32 → Int32 → Int32 → (Nat → Int32) → (Nat → Int32) → Prop}  (hC : Cx p s m args meth c cX11_allOf none 1 wsX11_allOf RX11) (hK : va_K (dC, dI) vwCl (tysA cI cZ cO cW) s) (hA : ∀ q : Nat, s.heap.size ≤ q → A q) (hRec : ∀ (h h_all h_has h_line h_act h_pile h_comes h_leaves h_tried h_met : Nat) (sz : Nat) (f_lines : Int32) (f_size : Int32) (f_next : Int32) (f_where : Int32) (f_token : Int32) (f_number : Int32) (f_sign : Int32) (f_word : Int32) (f_wrong : Int32) (f_open : Int32) (f_acts : Int32) (r_act : Nat → Int32) (r_all : Nat → Int32)  (Q : Int32 → Int32 → Int32 → Int32 → Int32 → Int32 → Int32 → Int32 → Int32 → (Nat → Int32) → (Nat → Int32) → Prop), RA Q  f_size f_next f_where f_token f_number f_sign f_word f_wrong f_open f_acts r_act r_all → Met l yX11_anyOf wsX11_anyOf (rmX11_anyOf_d d) (va_Pc [.ref h] (fun U => U.heap.size = sz ∧ va_P (dC, dI) vwCl (vX11_anyOf cI cZ h h_all h_has h_line h_act h_pile h_comes h_leaves h_tried h_met f_lines f_size f_next f_where f_token f_number f_sign f_word f_wrong f_open f_acts r_act r_all) U.heap ∧ va_K (dC, dI) vwCl (tysA cI cZ cO cW) U ∧ va_D (fun _ => True) (vX11_anyOf cI cZ h h_all h_has h_line h_act h_pile h_comes h_leaves h_tried h_met f_lines f_size f_next f_where f_token f_number f_sign f_word f_wrong f_open f_acts r_act r_all))) (qX11_anyOf dC dI cI cZ cO cW h h_all h_has h_line h_act h_pile h_comes h_leaves h_tried h_met f_lines f_size Q (va_A (vX11_anyOf cI cZ h h_all h_has h_line h_act h_pile h_comes h_leaves h_tried h_met f_lines f_size f_next f_where f_token f_number f_sign f_word f_wrong f_open f_acts r_act r_all) sz)) 0 0 (va_A (vX11_anyOf cI cZ h h_all h_has h_line h_act h_pile h_comes h_leaves h_tried h_met f_lines f_size f_next f_where f_token f_number f_sign f_word f_wrong f_open f_acts r_act r_all) sz)) :
    ∀ (n : Nat) (f_size : Int32) (f_next : Int32) (f_where : Int32) (f_token : Int32) (f_number : Int32) (f_sign : Int32) (f_word : Int32) (f_wrong : Int32) (f_open : Int32) (f_acts : Int32) (r_act : (Nat → Int32)) (r_all : (Nat → Int32)) (H : Heap) (locs : List Loc) (ls : Array Slot), wX11_allOf_4 RA Q  n f_size f_next f_where f_token f_number f_sign f_word f_wrong f_open f_acts r_act r_all → va_P (dC, dI) vwCl (vX11_allOf cI cZ h h_all h_has h_line h_act h_pile h_comes h_leaves h_tried h_met f_lines f_size f_next f_where f_token f_number f_sign f_word f_wrong f_open f_acts r_act r_all) H → va_D A (vX11_allOf cI cZ h h_all h_has h_line h_act h_pile h_comes h_leaves h_tried h_met f_lines f_size f_next f_where f_token f_number f_sign f_word f_wrong f_open f_acts r_act r_all) → va_S A s.heap H locs → lv_has ls 1 [(0, .ref h)] → W p l e (rmX11_allOf d) s m args below meth c H locs 0 0 (MQ below (qX11_allOf dC dI cI cZ cO cW h h_all h_has h_line h_act h_pile h_comes h_leaves h_tried h_met f_lines f_size Q A) args s 0 0 A) (F0 m 4 ls []) := by
  obtain ⟨hx, hb, hr, hml, hown, hts, hlocks⟩ := id hC
  intro n
  induction n with
  | zero =>
    intro f_size f_next f_where f_token f_number f_sign f_word f_wrong f_open f_acts r_act r_all H locs ls hw
    exact hw.elim
  | succ n ih =>
    intro f_size f_next f_where f_token f_number f_sign f_word f_wrong f_open f_acts r_act r_all H locs ls hw hP hD hS hl
    refine lv_aload_n hx hb dX11_allOf_4 rfl (lv_at hl 0 rfl) ?_
    refine lv_bipush (v := (32 : Int32)) hx hb dX11_allOf_5 (by decide) ?_
    have hPc := hP.sub (ws' := [(h, .inr (10, [.ref h_all, .ref h_has, .int f_size, .int f_next, .int f_where, .int f_token, .int f_number, .int f_sign, .int f_word, .int f_wrong, .int f_open, .int f_lines, .int f_acts, .ref h_line, .ref h_act, .ref h_pile, .ref h_comes, .ref h_leaves, .ref h_tried, .ref h_met])), (h_all, .inl (cI, 53700, .inl r_all))]) [0, 2] rfl
    have hDc := hD.sub (ws' := [(h, .inr (10, [.ref h_all, .ref h_has, .int f_size, .int f_next, .int f_where, .int f_token, .int f_number, .int f_sign, .int f_word, .int f_wrong, .int f_open, .int f_lines, .int f_acts, .ref h_line, .ref h_act, .ref h_pile, .ref h_comes, .ref h_leaves, .ref h_tried, .ref h_met])), (h_all, .inl (cI, 53700, .inl r_all))]) [0, 2] (by decide) rfl
    have hFc := va_free (wc := [(h, .inr (10, [.ref h_all, .ref h_has, .int f_size, .int f_next, .int f_where, .int f_token, .int f_number, .int f_sign, .int f_word, .int f_wrong, .int f_open, .int f_lines, .int f_acts, .ref h_line, .ref h_act, .ref h_pile, .ref h_comes, .ref h_leaves, .ref h_tried, .ref h_met])), (h_all, .inl (cI, 53700, .inl r_all))]) hD hS hA [0, 2] rfl
    refine va_calli (va_runV (As := [.int (32 : Int32)]) (rest := []) ⟨hx, hb, hml, hown, hts⟩ (kX11_takesWord l dC dI cI cZ cO cW h h_all h_has h_line h_act h_pile h_comes h_leaves h_tried h_met H.size f_open f_lines f_acts f_size f_next f_where f_token f_number f_sign f_word f_wrong r_all (32 : Int32) _ hw) (cwV 1 hts gX11_allOf_X11_takesWord rfl rfl rfl (by decide +kernel) ⟨(show (4) + 1 ≤ 4 * d + 8 by omega), (show 8 + (2 + 11) + (88) ≤ 83 * d + 172 by omega)⟩) (pv_of hPc hK hDc (va_recv hK hPc (ci := 10) (q0 := 0) rfl rfl)) rfl rfl hl.1 rfl (lv_room (Nat.le_of_ble_eq_true rfl)) dX11_allOf_7 ⟨Nat.zero_le _, Nat.zero_le _⟩) hS (fun q _ h => hFc q h) hFc (fun r_7 u t H locs ht hvm hw hB hz1 hk1 hS => ?_)
    obtain ⟨f_next_1, f_where_2, f_token_3, f_number_4, f_sign_5, f_word_6⟩ := u
    obtain ⟨hP, hD⟩ := af_join (wr := [(h_act, .inl (cI, 780, .inl r_act))]) (w1 := [(h, .inr (10, [.ref h_all, .ref h_has, .int f_size, .int f_next_1, .int f_where_2, .int f_token_3, .int f_number_4, .int f_sign_5, .int f_word_6, .int f_wrong, .int f_open, .int f_lines, .int f_acts, .ref h_line, .ref h_act, .ref h_pile, .ref h_comes, .ref h_leaves, .ref h_tried, .ref h_met])), (h_all, .inl (cI, 53700, .inl r_all))]) hB ht hP hD [0, 2] [1] rfl rfl (by decide) (by decide) hk1 hFc
    have hP : va_P (dC, dI) vwCl [(h_act, .inl (cI, 780, .inl r_act)), (h, .inr (10, [.ref h_all, .ref h_has, .int f_size, .int f_next_1, .int f_where_2, .int f_token_3, .int f_number_4, .int f_sign_5, .int f_word_6, .int f_wrong, .int f_open, .int f_lines, .int f_acts, .ref h_line, .ref h_act, .ref h_pile, .ref h_comes, .ref h_leaves, .ref h_tried, .ref h_met])), (h_all, .inl (cI, 53700, .inl r_all))] _ := hP
    have hD : va_D A [(h_act, .inl (cI, 780, .inl r_act)), (h, .inr (10, [.ref h_all, .ref h_has, .int f_size, .int f_next_1, .int f_where_2, .int f_token_3, .int f_number_4, .int f_sign_5, .int f_word_6, .int f_wrong, .int f_open, .int f_lines, .int f_acts, .ref h_line, .ref h_act, .ref h_pile, .ref h_comes, .ref h_leaves, .ref h_tried, .ref h_met])), (h_all, .inl (cI, 53700, .inl r_all))] := hD
    refine lv_if_eq (tgt := 28) hx hb dX11_allOf_10 (by decide) (fun c_8 => ?_) (fun c_8 => ?_)
    · have hw := hw.1 c_8
      have hP9 := hP.sub (ws' := (vX11_allOf cI cZ h h_all h_has h_line h_act h_pile h_comes h_leaves h_tried h_met f_lines f_size f_next_1 f_where_2 f_token_3 f_number_4 f_sign_5 f_word_6 f_wrong f_open f_acts r_act r_all)) [1, 0, 2] rfl
      have hD9 := hD.sub (ws' := (vX11_allOf cI cZ h h_all h_has h_line h_act h_pile h_comes h_leaves h_tried h_met f_lines f_size f_next_1 f_where_2 f_token_3 f_number_4 f_sign_5 f_word_6 f_wrong f_open f_acts r_act r_all)) [1, 0, 2] (by decide) rfl
      exact W.vret hx hb hr (fun t ht hW => ⟨⟨(f_next_1, f_where_2, f_token_3, f_number_4, f_sign_5, f_word_6, f_wrong, f_open, f_acts, r_act, r_all), rfl, hw, by rw [ht]; exact hP9, va_K.moved hW.alike hK, hD9⟩, hS.F ht⟩) hS.2.2 dX11_allOf_28
    · have hw := hw.2 c_8
      refine lv_aload_n hx hb dX11_allOf_13 rfl (lv_at hl 0 rfl) ?_
      have hPc := hP.sub (ws' := [(h, .inr (10, [.ref h_all, .ref h_has, .int f_size, .int f_next_1, .int f_where_2, .int f_token_3, .int f_number_4, .int f_sign_5, .int f_word_6, .int f_wrong, .int f_open, .int f_lines, .int f_acts, .ref h_line, .ref h_act, .ref h_pile, .ref h_comes, .ref h_leaves, .ref h_tried, .ref h_met])), (h_act, .inl (cI, 780, .inl r_act)), (h_all, .inl (cI, 53700, .inl r_all))]) [1, 0, 2] rfl
      have hDc := hD.sub (ws' := [(h, .inr (10, [.ref h_all, .ref h_has, .int f_size, .int f_next_1, .int f_where_2, .int f_token_3, .int f_number_4, .int f_sign_5, .int f_word_6, .int f_wrong, .int f_open, .int f_lines, .int f_acts, .ref h_line, .ref h_act, .ref h_pile, .ref h_comes, .ref h_leaves, .ref h_tried, .ref h_met])), (h_act, .inl (cI, 780, .inl r_act)), (h_all, .inl (cI, 53700, .inl r_all))]) [1, 0, 2] (by decide) rfl
      have hFc := va_free (wc := [(h, .inr (10, [.ref h_all, .ref h_has, .int f_size, .int f_next_1, .int f_where_2, .int f_token_3, .int f_number_4, .int f_sign_5, .int f_word_6, .int f_wrong, .int f_open, .int f_lines, .int f_acts, .ref h_line, .ref h_act, .ref h_pile, .ref h_comes, .ref h_leaves, .ref h_tried, .ref h_met])), (h_act, .inl (cI, 780, .inl r_act)), (h_all, .inl (cI, 53700, .inl r_all))]) hD hS hA [1, 0, 2] rfl
      refine va_callv (va_runV (As := []) (rest := []) ⟨hx, hb, hml, hown, hts⟩ (kX11_notOf l dC dI cI cZ cO cW h h_all h_has h_line h_act h_pile h_comes h_leaves h_tried h_met H.size f_lines f_size f_next_1 f_where_2 f_token_3 f_number_4 f_sign_5 f_word_6 f_wrong f_open f_acts r_act r_all _ d RA hRec hw) (cwV 0 hts gX11_allOf_X11_notOf rfl rfl rfl (by decide +kernel) ⟨(show (4 * d + 7) + 1 ≤ 4 * d + 8 by omega), (show 8 + (2 + 11) + (83 * d + 151) ≤ 83 * d + 172 by omega)⟩) (pv_of hPc hK hDc (va_recv hK hPc (ci := 10) (q0 := 0) rfl rfl)) rfl rfl hl.1 rfl (lv_room (Nat.le_of_ble_eq_true rfl)) dX11_allOf_14 ⟨Nat.zero_le _, Nat.zero_le _⟩) hS (fun q _ h => hFc q h) hFc (fun u t H locs ht hvm hw hB hz1 hk1 hS => ?_)
      obtain ⟨f_next_9, f_where_10, f_token_11, f_number_12, f_sign_13, f_word_14, f_wrong_15, f_open_16, f_acts_17, r_act_18, r_all_19⟩ := u
      obtain ⟨hP, hD⟩ := af_join (wr := []) (w1 := [(h, .inr (10, [.ref h_all, .ref h_has, .int f_size, .int f_next_9, .int f_where_10, .int f_token_11, .int f_number_12, .int f_sign_13, .int f_word_14, .int f_wrong_15, .int f_open_16, .int f_lines, .int f_acts_17, .ref h_line, .ref h_act, .ref h_pile, .ref h_comes, .ref h_leaves, .ref h_tried, .ref h_met])), (h_act, .inl (cI, 780, .inl r_act_18)), (h_all, .inl (cI, 53700, .inl r_all_19))]) hB ht hP hD [1, 0, 2] [] rfl rfl (by decide) (by decide) hk1 hFc
      have hP : va_P (dC, dI) vwCl [(h, .inr (10, [.ref h_all, .ref h_has, .int f_size, .int f_next_9, .int f_where_10, .int f_token_11, .int f_number_12, .int f_sign_13, .int f_word_14, .int f_wrong_15, .int f_open_16, .int f_lines, .int f_acts_17, .ref h_line, .ref h_act, .ref h_pile, .ref h_comes, .ref h_leaves, .ref h_tried, .ref h_met])), (h_act, .inl (cI, 780, .inl r_act_18)), (h_all, .inl (cI, 53700, .inl r_all_19))] _ := hP
      have hD : va_D A [(h, .inr (10, [.ref h_all, .ref h_has, .int f_size, .int f_next_9, .int f_where_10, .int f_token_11, .int f_number_12, .int f_sign_13, .int f_word_14, .int f_wrong_15, .int f_open_16, .int f_lines, .int f_acts_17, .ref h_line, .ref h_act, .ref h_pile, .ref h_comes, .ref h_leaves, .ref h_tried, .ref h_met])), (h_act, .inl (cI, 780, .inl r_act_18)), (h_all, .inl (cI, 53700, .inl r_all_19))] := hD
      refine lv_aload_n hx hb dX11_allOf_17 rfl (lv_at hl 0 rfl) ?_
      refine lv_bipush (v := (32 : Int32)) hx hb dX11_allOf_18 (by decide) ?_
      refine lv_iconst (v := (0 : Int32)) hx hb dX11_allOf_20 (by decide) ?_
      refine lv_iconst (v := (0 : Int32)) hx hb dX11_allOf_21 (by decide) ?_
      have hPc := hP.sub (ws' := [(h, .inr (10, [.ref h_all, .ref h_has, .int f_size, .int f_next_9, .int f_where_10, .int f_token_11, .int f_number_12, .int f_sign_13, .int f_word_14, .int f_wrong_15, .int f_open_16, .int f_lines, .int f_acts_17, .ref h_line, .ref h_act, .ref h_pile, .ref h_comes, .ref h_leaves, .ref h_tried, .ref h_met])), (h_act, .inl (cI, 780, .inl r_act_18))]) [0, 1] rfl
      have hDc := hD.sub (ws' := [(h, .inr (10, [.ref h_all, .ref h_has, .int f_size, .int f_next_9, .int f_where_10, .int f_token_11, .int f_number_12, .int f_sign_13, .int f_word_14, .int f_wrong_15, .int f_open_16, .int f_lines, .int f_acts_17, .ref h_line, .ref h_act, .ref h_pile, .ref h_comes, .ref h_leaves, .ref h_tried, .ref h_met])), (h_act, .inl (cI, 780, .inl r_act_18))]) [0, 1] (by decide) rfl
      have hFc := va_free (wc := [(h, .inr (10, [.ref h_all, .ref h_has, .int f_size, .int f_next_9, .int f_where_10, .int f_token_11, .int f_number_12, .int f_sign_13, .int f_word_14, .int f_wrong_15, .int f_open_16, .int f_lines, .int f_acts_17, .ref h_line, .ref h_act, .ref h_pile, .ref h_comes, .ref h_leaves, .ref h_tried, .ref h_met])), (h_act, .inl (cI, 780, .inl r_act_18))]) hD hS hA [0, 1] rfl
      refine va_callv (va_runV (As := [.int (32 : Int32), .int (0 : Int32), .int (0 : Int32)]) (rest := []) ⟨hx, hb, hml, hown, hts⟩ (kX11_emit l dC dI cI cZ cO cW h h_all h_has h_line h_act h_pile h_comes h_leaves h_tried h_met H.size f_size f_next_9 f_where_10 f_token_11 f_number_12 f_sign_13 f_word_14 f_wrong_15 f_open_16 f_lines f_acts_17 r_act_18 (32 : Int32) (0 : Int32) (0 : Int32) _ hw) (cwV 3 hts gX11_allOf_X11_emit rfl rfl rfl (by decide +kernel) ⟨(show (0) + 1 ≤ 4 * d + 8 by omega), (show 8 + (4 + 11) + (0) ≤ 83 * d + 172 by omega)⟩) (pv_of hPc hK hDc (va_recv hK hPc (ci := 10) (q0 := 0) rfl rfl)) rfl rfl hl.1 rfl (lv_room (Nat.le_of_ble_eq_true rfl)) dX11_allOf_22 ⟨Nat.zero_le _, Nat.zero_le _⟩) hS (fun q _ h => hFc q h) hFc (fun u t H locs ht hvm hw hB hz1 hk1 hS => ?_)
      obtain ⟨f_acts_20, r_act_21⟩ := u
      obtain ⟨hP, hD⟩ := af_join (wr := [(h_all, .inl (cI, 53700, .inl r_all_19))]) (w1 := [(h, .inr (10, [.ref h_all, .ref h_has, .int f_size, .int f_next_9, .int f_where_10, .int f_token_11, .int f_number_12, .int f_sign_13, .int f_word_14, .int f_wrong_15, .int f_open_16, .int f_lines, .int f_acts_20, .ref h_line, .ref h_act, .ref h_pile, .ref h_comes, .ref h_leaves, .ref h_tried, .ref h_met])), (h_act, .inl (cI, 780, .inl r_act_21))]) hB ht hP hD [0, 1] [2] rfl rfl (by decide) (by decide) hk1 hFc
      have hP : va_P (dC, dI) vwCl [(h_all, .inl (cI, 53700, .inl r_all_19)), (h, .inr (10, [.ref h_all, .ref h_has, .int f_size, .int f_next_9, .int f_where_10, .int f_token_11, .int f_number_12, .int f_sign_13, .int f_word_14, .int f_wrong_15, .int f_open_16, .int f_lines, .int f_acts_20, .ref h_line, .ref h_act, .ref h_pile, .ref h_comes, .ref h_leaves, .ref h_tried, .ref h_met])), (h_act, .inl (cI, 780, .inl r_act_21))] _ := hP
      have hD : va_D A [(h_all, .inl (cI, 53700, .inl r_all_19)), (h, .inr (10, [.ref h_all, .ref h_has, .int f_size, .int f_next_9, .int f_where_10, .int f_token_11, .int f_number_12, .int f_sign_13, .int f_word_14, .int f_wrong_15, .int f_open_16, .int f_lines, .int f_acts_20, .ref h_line, .ref h_act, .ref h_pile, .ref h_comes, .ref h_leaves, .ref h_tried, .ref h_met])), (h_act, .inl (cI, 780, .inl r_act_21))] := hD
      refine lv_goto (tgt := 4) hx hb dX11_allOf_25 (by decide) ?_
      exact ih f_size f_next_9 f_where_10 f_token_11 f_number_12 f_sign_13 f_word_14 f_wrong_15 f_open_16 f_acts_20 r_act_21 r_all_19 _ _ ls hw (hP.sub [1, 2, 0] rfl) (hD.sub [1, 2, 0] (by decide) rfl) hS (lv_sub hl [0] rfl)
set_option maxHeartbeats 4000000 in
set_option maxRecDepth 100000 in
theorem tX11_allOf_e {p : Program} {l : Launch} {e : Env} {s : State} {m : MethodId} {args : Array Value} {below : List Frame} {meth : Method} {c : Code} {dC : Nat → ClassId} {dI : Nat → Nat → Nat} {cI cZ cO cW : ClassId} {A : Nat → Prop} {h h_all h_has h_line h_act h_pile h_comes h_leaves h_tried h_met : Nat} {f_lines : Int32} {Q : Int32 → Int32 → Int32 → Int32 → Int32 → Int32 → Int32 → Int32 → Int32 → (Nat → Int32) → (Nat → Int32) → Prop} {d : Nat} {RA : (Int32 → Int32 → Int32 → Int32 → Int32 → Int32 → Int32 → Int32 → Int32 → (Nat → Int32) → (Nat → Int32) → Prop) → Int32 → Int32 → Int32 → Int32 → Int32 → Int32 → Int32 → Int32 → Int32 → Int32 → (Nat → Int32) → (Nat → Int32) → Prop} (hC : Cx p s m args meth c cX11_allOf none 1 wsX11_allOf RX11) (hK : va_K (dC, dI) vwCl (tysA cI cZ cO cW) s) (hA : ∀ q : Nat, s.heap.size ≤ q → A q) (hRec : ∀ (h h_all h_has h_line h_act h_pile h_comes h_leaves h_tried h_met : Nat) (sz : Nat) (f_lines : Int32) (f_size : Int32) (f_next : Int32) (f_where : Int32) (f_token : Int32) (f_number : Int32) (f_sign : Int32) (f_word : Int32) (f_wrong : Int32) (f_open : Int32) (f_acts : Int32) (r_act : Nat → Int32) (r_all : Nat → Int32)  (Q : Int32 → Int32 → Int32 → Int32 → Int32 → Int32 → Int32 → Int32 → Int32 → (Nat → Int32) → (Nat → Int32) → Prop), RA Q  f_size f_next f_where f_token f_number f_sign f_word f_wrong f_open f_acts r_act r_all → Met l yX11_anyOf wsX11_anyOf (rmX11_anyOf_d d) (va_Pc [.ref h] (fun U => U.heap.size = sz ∧ va_P (dC, dI) vwCl (vX11_anyOf cI cZ h h_all h_has h_line h_act h_pile h_comes h_leaves h_tried h_met f_lines f_size f_next f_where f_token f_number f_sign f_word f_wrong f_open f_acts r_act r_all) U.heap ∧ va_K (dC, dI) vwCl (tysA cI cZ cO cW) U ∧ va_D (fun _ => True) (vX11_anyOf cI cZ h h_all h_has h_line h_act h_pile h_comes h_leaves h_tried h_met f_lines f_size f_next f_where f_token f_number f_sign f_word f_wrong f_open f_acts r_act r_all))) (qX11_anyOf dC dI cI cZ cO cW h h_all h_has h_line h_act h_pile h_comes h_leaves h_tried h_met f_lines f_size Q (va_A (vX11_anyOf cI cZ h h_all h_has h_line h_act h_pile h_comes h_leaves h_tried h_met f_lines f_size f_next f_where f_token f_number f_sign f_word f_wrong f_open f_acts r_act r_all) sz)) 0 0 (va_A (vX11_anyOf cI cZ h h_all h_has h_line h_act h_pile h_comes h_leaves h_tried h_met f_lines f_size f_next f_where f_token f_number f_sign f_word f_wrong f_open f_acts r_act r_all) sz)) :
    ∀ (f_size : Int32) (f_next : Int32) (f_where : Int32) (f_token : Int32) (f_number : Int32) (f_sign : Int32) (f_word : Int32) (f_wrong : Int32) (f_open : Int32) (f_acts : Int32) (r_act : Nat → Int32) (r_all : Nat → Int32) (H : Heap) (locs : List Loc) (ls : Array Slot), wX11_allOf RA Q  f_size f_next f_where f_token f_number f_sign f_word f_wrong f_open f_acts r_act r_all → va_P (dC, dI) vwCl (vX11_allOf cI cZ h h_all h_has h_line h_act h_pile h_comes h_leaves h_tried h_met f_lines f_size f_next f_where f_token f_number f_sign f_word f_wrong f_open f_acts r_act r_all) H → va_D A (vX11_allOf cI cZ h h_all h_has h_line h_act h_pile h_comes h_leaves h_tried h_met f_lines f_size f_next f_where f_token f_number f_sign f_word f_wrong f_open f_acts r_act r_all) → va_S A s.heap H locs → lv_has ls 1 [(0, .ref h)] → W p l e (rmX11_allOf d) s m args below meth c H locs 0 0 (MQ below (qX11_allOf dC dI cI cZ cO cW h h_all h_has h_line h_act h_pile h_comes h_leaves h_tried h_met f_lines f_size Q A) args s 0 0 A) (F0 m 0 ls []) := by
  obtain ⟨hx, hb, hr, hml, hown, hts, hlocks⟩ := id hC
  intro  f_size f_next f_where f_token f_number f_sign f_word f_wrong f_open f_acts r_act r_all H locs ls hw hP hD hS hl
  refine lv_aload_n hx hb dX11_allOf_0 rfl (lv_at hl 0 rfl) ?_
  have hPc := hP.sub (ws' := [(h, .inr (10, [.ref h_all, .ref h_has, .int f_size, .int f_next, .int f_where, .int f_token, .int f_number, .int f_sign, .int f_word, .int f_wrong, .int f_open, .int f_lines, .int f_acts, .ref h_line, .ref h_act, .ref h_pile, .ref h_comes, .ref h_leaves, .ref h_tried, .ref h_met])), (h_act, .inl (cI, 780, .inl r_act)), (h_all, .inl (cI, 53700, .inl r_all))]) [0, 1, 2] rfl
  have hDc := hD.sub (ws' := [(h, .inr (10, [.ref h_all, .ref h_has, .int f_size, .int f_next, .int f_where, .int f_token, .int f_number, .int f_sign, .int f_word, .int f_wrong, .int f_open, .int f_lines, .int f_acts, .ref h_line, .ref h_act, .ref h_pile, .ref h_comes, .ref h_leaves, .ref h_tried, .ref h_met])), (h_act, .inl (cI, 780, .inl r_act)), (h_all, .inl (cI, 53700, .inl r_all))]) [0, 1, 2] (by decide) rfl
  have hFc := va_free (wc := [(h, .inr (10, [.ref h_all, .ref h_has, .int f_size, .int f_next, .int f_where, .int f_token, .int f_number, .int f_sign, .int f_word, .int f_wrong, .int f_open, .int f_lines, .int f_acts, .ref h_line, .ref h_act, .ref h_pile, .ref h_comes, .ref h_leaves, .ref h_tried, .ref h_met])), (h_act, .inl (cI, 780, .inl r_act)), (h_all, .inl (cI, 53700, .inl r_all))]) hD hS hA [0, 1, 2] rfl
  refine va_callv (va_runV (As := []) (rest := []) ⟨hx, hb, hml, hown, hts⟩ (kX11_notOf l dC dI cI cZ cO cW h h_all h_has h_line h_act h_pile h_comes h_leaves h_tried h_met H.size f_lines f_size f_next f_where f_token f_number f_sign f_word f_wrong f_open f_acts r_act r_all _ d RA hRec hw) (cwV 0 hts gX11_allOf_X11_notOf rfl rfl rfl (by decide +kernel) ⟨(show (4 * d + 7) + 1 ≤ 4 * d + 8 by omega), (show 8 + (2 + 11) + (83 * d + 151) ≤ 83 * d + 172 by omega)⟩) (pv_of hPc hK hDc (va_recv hK hPc (ci := 10) (q0 := 0) rfl rfl)) rfl rfl hl.1 rfl (lv_room (Nat.le_of_ble_eq_true rfl)) dX11_allOf_1 ⟨Nat.zero_le _, Nat.zero_le _⟩) hS (fun q _ h => hFc q h) hFc (fun u t H locs ht hvm hw hB hz1 hk1 hS => ?_)
  obtain ⟨f_next_22, f_where_23, f_token_24, f_number_25, f_sign_26, f_word_27, f_wrong_28, f_open_29, f_acts_30, r_act_31, r_all_32⟩ := u
  obtain ⟨hP, hD⟩ := af_join (wr := []) (w1 := [(h, .inr (10, [.ref h_all, .ref h_has, .int f_size, .int f_next_22, .int f_where_23, .int f_token_24, .int f_number_25, .int f_sign_26, .int f_word_27, .int f_wrong_28, .int f_open_29, .int f_lines, .int f_acts_30, .ref h_line, .ref h_act, .ref h_pile, .ref h_comes, .ref h_leaves, .ref h_tried, .ref h_met])), (h_act, .inl (cI, 780, .inl r_act_31)), (h_all, .inl (cI, 53700, .inl r_all_32))]) hB ht hP hD [0, 1, 2] [] rfl rfl (by decide) (by decide) hk1 hFc
  have hP : va_P (dC, dI) vwCl [(h, .inr (10, [.ref h_all, .ref h_has, .int f_size, .int f_next_22, .int f_where_23, .int f_token_24, .int f_number_25, .int f_sign_26, .int f_word_27, .int f_wrong_28, .int f_open_29, .int f_lines, .int f_acts_30, .ref h_line, .ref h_act, .ref h_pile, .ref h_comes, .ref h_leaves, .ref h_tried, .ref h_met])), (h_act, .inl (cI, 780, .inl r_act_31)), (h_all, .inl (cI, 53700, .inl r_all_32))] _ := hP
  have hD : va_D A [(h, .inr (10, [.ref h_all, .ref h_has, .int f_size, .int f_next_22, .int f_where_23, .int f_token_24, .int f_number_25, .int f_sign_26, .int f_word_27, .int f_wrong_28, .int f_open_29, .int f_lines, .int f_acts_30, .ref h_line, .ref h_act, .ref h_pile, .ref h_comes, .ref h_leaves, .ref h_tried, .ref h_met])), (h_act, .inl (cI, 780, .inl r_act_31)), (h_all, .inl (cI, 53700, .inl r_all_32))] := hD
  obtain ⟨n_33, hw⟩ := hw
  exact tX11_allOf_4 hC hK hA hRec  n_33 f_size f_next_22 f_where_23 f_token_24 f_number_25 f_sign_26 f_word_27 f_wrong_28 f_open_29 f_acts_30 r_act_31 r_all_32 _ _ ls hw (hP.sub [0, 1, 2] rfl) (hD.sub [0, 1, 2] (by decide) rfl) hS (lv_sub hl [0] rfl)
set_option maxHeartbeats 4000000 in
set_option maxRecDepth 100000 in
theorem kX11_allOf (l : Launch) (dC : Nat → ClassId) (dI : Nat → Nat → Nat) (cI cZ cO cW : ClassId) (h h_all h_has h_line h_act h_pile h_comes h_leaves h_tried h_met : Nat)  (sz : Nat) (f_lines : Int32) (f_size : Int32) (f_next : Int32) (f_where : Int32) (f_token : Int32) (f_number : Int32) (f_sign : Int32) (f_word : Int32) (f_wrong : Int32) (f_open : Int32) (f_acts : Int32) (r_act : Nat → Int32) (r_all : Nat → Int32)  (Q : Int32 → Int32 → Int32 → Int32 → Int32 → Int32 → Int32 → Int32 → Int32 → (Nat → Int32) → (Nat → Int32) → Prop) (d : Nat) (RA : (Int32 → Int32 → Int32 → Int32 → Int32 → Int32 → Int32 → Int32 → Int32 → (Nat → Int32) → (Nat → Int32) → Prop) → Int32 → Int32 → Int32 → Int32 → Int32 → Int32 → Int32 → Int32 → Int32 → Int32 → (Nat → Int32) → (Nat → Int32) → Prop) (hRec : ∀ (h h_all h_has h_line h_act h_pile h_comes h_leaves h_tried h_met : Nat) (sz : Nat) (f_lines : Int32) (f_size : Int32) (f_next : Int32) (f_where : Int32) (f_token : Int32) (f_number : Int32) (f_sign : Int32) (f_word : Int32) (f_wrong : Int32) (f_open : Int32) (f_acts : Int32) (r_act : Nat → Int32) (r_all : Nat → Int32)  (Q : Int32 → Int32 → Int32 → Int32 → Int32 → Int32 → Int32 → Int32 → Int32 → (Nat → Int32) → (Nat → Int32) → Prop), RA Q  f_size f_next f_where f_token f_number f_sign f_word f_wrong f_open f_acts r_act r_all → Met l yX11_anyOf wsX11_anyOf (rmX11_anyOf_d d) (va_Pc [.ref h] (fun U => U.heap.size = sz ∧ va_P (dC, dI) vwCl (vX11_anyOf cI cZ h h_all h_has h_line h_act h_pile h_comes h_leaves h_tried h_met f_lines f_size f_next f_where f_token f_number f_sign f_word f_wrong f_open f_acts r_act r_all) U.heap ∧ va_K (dC, dI) vwCl (tysA cI cZ cO cW) U ∧ va_D (fun _ => True) (vX11_anyOf cI cZ h h_all h_has h_line h_act h_pile h_comes h_leaves h_tried h_met f_lines f_size f_next f_where f_token f_number f_sign f_word f_wrong f_open f_acts r_act r_all))) (qX11_anyOf dC dI cI cZ cO cW h h_all h_has h_line h_act h_pile h_comes h_leaves h_tried h_met f_lines f_size Q (va_A (vX11_anyOf cI cZ h h_all h_has h_line h_act h_pile h_comes h_leaves h_tried h_met f_lines f_size f_next f_where f_token f_number f_sign f_word f_wrong f_open f_acts r_act r_all) sz)) 0 0 (va_A (vX11_anyOf cI cZ h h_all h_has h_line h_act h_pile h_comes h_leaves h_tried h_met f_lines f_size f_next f_where f_token f_number f_sign f_word f_wrong f_open f_acts r_act r_all) sz)) (hw : wX11_allOf RA Q  f_size f_next f_where f_token f_number f_sign f_word f_wrong f_open f_acts r_act r_all) : Met l yX11_allOf wsX11_allOf (rmX11_allOf d) (va_Pc [.ref h] (fun U => U.heap.size = sz ∧ va_P (dC, dI) vwCl (vX11_allOf cI cZ h h_all h_has h_line h_act h_pile h_comes h_leaves h_tried h_met f_lines f_size f_next f_where f_token f_number f_sign f_word f_wrong f_open f_acts r_act r_all) U.heap ∧ va_K (dC, dI) vwCl (tysA cI cZ cO cW) U ∧ va_D (fun _ => True) (vX11_allOf cI cZ h h_all h_has h_line h_act h_pile h_comes h_leaves h_tried h_met f_lines f_size f_next f_where f_token f_number f_sign f_word f_wrong f_open f_acts r_act r_all))) (qX11_allOf dC dI cI cZ cO cW h h_all h_has h_line h_act h_pile h_comes h_leaves h_tried h_met f_lines f_size Q (va_A (vX11_allOf cI cZ h h_all h_has h_line h_act h_pile h_comes h_leaves h_tried h_met f_lines f_size f_next f_where f_token f_number f_sign f_word f_wrong f_open f_acts r_act r_all) sz)) 0 0 (va_A (vX11_allOf cI cZ h h_all h_has h_line h_act h_pile h_comes h_leaves h_tried h_met f_lines f_size f_next f_where f_token f_number f_sign f_word f_wrong f_open f_acts r_act r_all) sz) := by
  refine Met.ofW (cc := cX11_allOf) (maxL := 1) (ret := none) (by decide) rfl ?_
  intro p e s m args below meth c s₁ B hml hv
  obtain ⟨rfl, hsz, hP, hK, hD0⟩ := hv
  subst hsz
  have hC : Cx p s m ([.ref h] : List Value).toArray meth c cX11_allOf none 1 wsX11_allOf RX11 := ⟨B.exec, B.bytes, B.returns, hml, findClass_of_methodNamed B.named, atoms_spec (ws := wsX11_allOf) B.pre, B.notSynchronized⟩
  have hD := hD0.self (sz := s.heap.size)
  generalize hAe : va_A (vX11_allOf cI cZ h h_all h_has h_line h_act h_pile h_comes h_leaves h_tried h_met f_lines f_size f_next f_where f_token f_number f_sign f_word f_wrong f_open f_acts r_act r_all) s.heap.size = A at hD ⊢
  have hA : ∀ q : Nat, s.heap.size ≤ q → A q := fun q h => by rw [← hAe]; exact Or.inr h
  have hl := lv_entry ([.ref h]) (n := 1) (Nat.le_of_ble_eq_true rfl)
  rw [lg_entry_eq]
  generalize (lg_sl ([.ref h]) ++ List.replicate (1 - (lg_sl ([.ref h])).length) Slot.unset).toArray = ls at hl ⊢
  exact tX11_allOf_e hC hK hA hRec  f_size f_next f_where f_token f_number f_sign f_word f_wrong f_open f_acts r_act r_all _ _ ls hw hP hD va_S.rf hl

/-! X11_anyOf -/
def wX11_anyOf_35 (RA : (Int32 → Int32 → Int32 → Int32 → Int32 → Int32 → Int32 → Int32 → Int32 → (Nat → Int32) → (Nat → Int32) → Prop) → Int32 → Int32 → Int32 → Int32 → Int32 → Int32 → Int32 → Int32 → Int32 → Int32 → (Nat → Int32) → (Nat → Int32) → Prop) (Q : Int32 → Int32 → Int32 → Int32 → Int32 → Int32 → Int32 → Int32 → Int32 → (Nat → Int32) → (Nat → Int32) → Prop)   : Nat → Int32 → Int32 → Int32 → Int32 → Int32 → Int32 → Int32 → Int32 → Int32 → Int32 → (Nat → Int32) → (Nat → Int32) → Prop
  | 0, _, _, _, _, _, _, _, _, _, _, _, _ => False
  | n + 1, f_size, f_next, f_where, f_token, f_number, f_sign, f_word, f_wrong, f_open, f_acts, r_act, r_all => (wX11_takesWord (fun r_7 f_next_1 f_where_2 f_token_3 f_number_4 f_sign_5 f_word_6 => ((r_7 = 0 → (Q f_next_1 f_where_2 f_token_3 f_number_4 f_sign_5 f_word_6 f_wrong (f_open - (1 : Int32)) f_acts r_act r_all)) ∧ (¬ r_7 = 0 → (wX11_allOf RA (fun f_next_9 f_where_10 f_token_11 f_number_12 f_sign_13 f_word_14 f_wrong_15 f_open_16 f_acts_17 r_act_18 r_all_19 => (wX11_emit (fun f_acts_20 r_act_21 => (wX11_anyOf_35 RA Q n f_size f_next_9 f_where_10 f_token_11 f_number_12 f_sign_13 f_word_14 f_wrong_15 f_open_16 f_acts_20 r_act_21 r_all_19)) (31 : Int32) (0 : Int32) (0 : Int32) f_acts_17 r_act_18)) f_size f_next_1 f_where_2 f_token_3 f_number_4 f_sign_5 f_word_6 f_wrong f_open f_acts r_act r_all)))) (31 : Int32) f_size f_next f_where f_token f_number f_sign f_word f_wrong r_all)
def wX11_anyOf_13 (RA : (Int32 → Int32 → Int32 → Int32 → Int32 → Int32 → Int32 → Int32 → Int32 → (Nat → Int32) → (Nat → Int32) → Prop) → Int32 → Int32 → Int32 → Int32 → Int32 → Int32 → Int32 → Int32 → Int32 → Int32 → (Nat → Int32) → (Nat → Int32) → Prop) (Q : Int32 → Int32 → Int32 → Int32 → Int32 → Int32 → Int32 → Int32 → Int32 → (Nat → Int32) → (Nat → Int32) → Prop)   (f_size : Int32) (f_next : Int32) (f_where : Int32) (f_token : Int32) (f_number : Int32) (f_sign : Int32) (f_word : Int32) (f_wrong : Int32) (f_open : Int32) (f_acts : Int32) (r_act : (Nat → Int32)) (r_all : (Nat → Int32)) : Prop :=
  ((f_wrong = 0 → (wX11_allOf RA (fun f_next_23 f_where_24 f_token_25 f_number_26 f_sign_27 f_word_28 f_wrong_29 f_open_30 f_acts_31 r_act_32 r_all_33 => (∃ j_, wX11_anyOf_35 RA Q j_ f_size f_next_23 f_where_24 f_token_25 f_number_26 f_sign_27 f_word_28 f_wrong_29 f_open_30 f_acts_31 r_act_32 r_all_33)) f_size f_next f_where f_token f_number f_sign f_word f_wrong (f_open + (1 : Int32)) f_acts r_act r_all)) ∧ (¬ f_wrong = 0 → (Q f_next f_where f_token f_number f_sign f_word f_wrong f_open f_acts r_act r_all)))
def wX11_anyOf_b (RA : (Int32 → Int32 → Int32 → Int32 → Int32 → Int32 → Int32 → Int32 → Int32 → (Nat → Int32) → (Nat → Int32) → Prop) → Int32 → Int32 → Int32 → Int32 → Int32 → Int32 → Int32 → Int32 → Int32 → Int32 → (Nat → Int32) → (Nat → Int32) → Prop) (Q : Int32 → Int32 → Int32 → Int32 → Int32 → Int32 → Int32 → Int32 → Int32 → (Nat → Int32) → (Nat → Int32) → Prop)  (f_size : Int32) (f_next : Int32) (f_where : Int32) (f_token : Int32) (f_number : Int32) (f_sign : Int32) (f_word : Int32) (f_wrong : Int32) (f_open : Int32) (f_acts : Int32) (r_act : Nat → Int32) (r_all : Nat → Int32) : Prop :=
  ((¬ f_open = (8 : Int32) → (wX11_anyOf_13 RA Q f_size f_next f_where f_token f_number f_sign f_word f_wrong f_open f_acts r_act r_all)) ∧ (f_open = (8 : Int32) → (wX11_stops (fun f_wrong_36 r_all_37 => (wX11_anyOf_13 RA Q f_size f_next f_where f_token f_number f_sign f_word f_wrong_36 f_open f_acts r_act r_all_37)) f_where f_wrong r_all)))
theorem mX11_anyOf_0 : Cond.fieldLink RX11 158 "IcePilotsModel" "open" "I" ∈ wsX11_anyOf := by decide +kernel
theorem mX11_anyOf_1 : Cond.fieldLink RX11 139 "IcePilotsModel" "wrong" "Z" ∈ wsX11_anyOf := by decide +kernel
theorem uX11_anyOf_X11 : ∀ w ∈ u_ws RX11 TX11 20, w ∈ wsX11_anyOf := by decide +kernel
set_option maxHeartbeats 4000000 in
set_option maxRecDepth 100000 in
theorem tX11_anyOf_35 {p : Program} {l : Launch} {e : Env} {s : State} {m : MethodId} {args : Array Value} {below : List Frame} {meth : Method} {c : Code} {dC : Nat → ClassId} {dI : Nat → Nat → Nat} {cI cZ cO cW : ClassId} {A : Nat → Prop} {h h_all h_has h_line h_act h_pile h_comes h_leaves h_tried h_met : Nat} {f_lines : Int32} {Q : Int32 → Int32 → Int32 → Int32 → Int32 → Int32 → Int32 → Int32 → Int32 → (Nat → Int32) → (Nat → Int32) → Prop} {d : Nat} {RA : (Int32 → Int32 → Int32 → Int32 → Int32 → Int32 → Int32 → Int32 → Int32 → (Nat → Int32) → (Nat → Int32) → Prop) → Int32 → Int32 → Int32 → Int32 → Int32 → Int32 → Int32 → Int32 → Int32 → Int32 → (Nat → Int32) → (Nat → Int32) → Prop}  (hC : Cx p s m args meth c cX11_anyOf none 1 wsX11_anyOf RX11) (hK : va_K (dC, dI) vwCl (tysA cI cZ cO cW) s) (hA : ∀ q : Nat, s.heap.size ≤ q → A q) (hRec : ∀ (h h_all h_has h_line h_act h_pile h_comes h_leaves h_tried h_met : Nat) (sz : Nat) (f_lines : Int32) (f_size : Int32) (f_next : Int32) (f_where : Int32) (f_token : Int32) (f_number : Int32) (f_sign : Int32) (f_word : Int32) (f_wrong : Int32) (f_open : Int32) (f_acts : Int32) (r_act : Nat → Int32) (r_all : Nat → Int32)  (Q : Int32 → Int32 → Int32 → Int32 → Int32 → Int32 → Int32 → Int32 → Int32 → (Nat → Int32) → (Nat → Int32) → Prop), RA Q  f_size f_next f_where f_token f_number f_sign f_word f_wrong f_open f_acts r_act r_all → Met l yX11_anyOf wsX11_anyOf (rmX11_anyOf_d d) (va_Pc [.ref h] (fun U => U.heap.size = sz ∧ va_P (dC, dI) vwCl (vX11_anyOf cI cZ h h_all h_has h_line h_act h_pile h_comes h_leaves h_tried h_met f_lines f_size f_next f_where f_token f_number f_sign f_word f_wrong f_open f_acts r_act r_all) U.heap ∧ va_K (dC, dI) vwCl (tysA cI cZ cO cW) U ∧ va_D (fun _ => True) (vX11_anyOf cI cZ h h_all h_has h_line h_act h_pile h_comes h_leaves h_tried h_met f_lines f_size f_next f_where f_token f_number f_sign f_word f_wrong f_open f_acts r_act r_all))) (qX11_anyOf dC dI cI cZ cO cW h h_all h_has h_line h_act h_pile h_comes h_leaves h_tried h_met f_lines f_size Q (va_A (vX11_anyOf cI cZ h h_all h_has h_line h_act h_pile h_comes h_leaves h_tried h_met f_lines f_size f_next f_where f_token f_number f_sign f_word f_wrong f_open f_acts r_act r_all) sz)) 0 0 (va_A (vX11_anyOf cI cZ h h_all h_has h_line h_act h_pile h_comes h_leaves h_tried h_met f_lines f_size f_next f_where f_token f_number f_sign f_word f_wrong f_open f_acts r_act r_all) sz)) :
    ∀ (n : Nat) (f_size : Int32) (f_next : Int32) (f_where : Int32) (f_token : Int32) (f_number : Int32) (f_sign : Int32) (f_word : Int32) (f_wrong : Int32) (f_open : Int32) (f_acts : Int32) (r_act : (Nat → Int32)) (r_all : (Nat → Int32)) (H : Heap) (locs : List Loc) (ls : Array Slot), wX11_anyOf_35 RA Q  n f_size f_next f_where f_token f_number f_sign f_word f_wrong f_open f_acts r_act r_all → va_P (dC, dI) vwCl (vX11_anyOf cI cZ h h_all h_has h_line h_act h_pile h_comes h_leaves h_tried h_met f_lines f_size f_next f_where f_token f_number f_sign f_word f_wrong f_open f_acts r_act r_all) H → va_D A (vX11_anyOf cI cZ h h_all h_has h_line h_act h_pile h_comes h_leaves h_tried h_met f_lines f_size f_next f_where f_token f_number f_sign f_word f_wrong f_open f_acts r_act r_all) → va_S A s.heap H locs → lv_has ls 1 [(0, .ref h)] → W p l e (rmX11_anyOf_d (d + 1)) s m args below meth c H locs 0 0 (MQ below (qX11_anyOf dC dI cI cZ cO cW h h_all h_has h_line h_act h_pile h_comes h_leaves h_tried h_met f_lines f_size Q A) args s 0 0 A) (F0 m 35 ls []) := by
  obtain ⟨hx, hb, hr, hml, hown, hts, hlocks⟩ := id hC
  intro n
  induction n with
  | zero =>
    intro f_size f_next f_where f_token f_number f_sign f_word f_wrong f_open f_acts r_act r_all H locs ls hw
    exact hw.elim
  | succ n ih =>
    intro f_size f_next f_where f_token f_number f_sign f_word f_wrong f_open f_acts r_act r_all H locs ls hw hP hD hS hl
    refine lv_aload_n hx hb dX11_anyOf_35 rfl (lv_at hl 0 rfl) ?_
    refine lv_bipush (v := (31 : Int32)) hx hb dX11_anyOf_36 (by decide) ?_
    have hPc := hP.sub (ws' := [(h, .inr (10, [.ref h_all, .ref h_has, .int f_size, .int f_next, .int f_where, .int f_token, .int f_number, .int f_sign, .int f_word, .int f_wrong, .int f_open, .int f_lines, .int f_acts, .ref h_line, .ref h_act, .ref h_pile, .ref h_comes, .ref h_leaves, .ref h_tried, .ref h_met])), (h_all, .inl (cI, 53700, .inl r_all))]) [0, 2] rfl
    have hDc := hD.sub (ws' := [(h, .inr (10, [.ref h_all, .ref h_has, .int f_size, .int f_next, .int f_where, .int f_token, .int f_number, .int f_sign, .int f_word, .int f_wrong, .int f_open, .int f_lines, .int f_acts, .ref h_line, .ref h_act, .ref h_pile, .ref h_comes, .ref h_leaves, .ref h_tried, .ref h_met])), (h_all, .inl (cI, 53700, .inl r_all))]) [0, 2] (by decide) rfl
    have hFc := va_free (wc := [(h, .inr (10, [.ref h_all, .ref h_has, .int f_size, .int f_next, .int f_where, .int f_token, .int f_number, .int f_sign, .int f_word, .int f_wrong, .int f_open, .int f_lines, .int f_acts, .ref h_line, .ref h_act, .ref h_pile, .ref h_comes, .ref h_leaves, .ref h_tried, .ref h_met])), (h_all, .inl (cI, 53700, .inl r_all))]) hD hS hA [0, 2] rfl
    refine va_calli (va_runV (As := [.int (31 : Int32)]) (rest := []) ⟨hx, hb, hml, hown, hts⟩ (kX11_takesWord l dC dI cI cZ cO cW h h_all h_has h_line h_act h_pile h_comes h_leaves h_tried h_met H.size f_open f_lines f_acts f_size f_next f_where f_token f_number f_sign f_word f_wrong r_all (31 : Int32) _ hw) (cwV 1 hts gX11_anyOf_X11_takesWord rfl rfl rfl (by decide +kernel) ⟨(show (4) + 1 ≤ 4 * (d + 1) + 5 by omega), (show 8 + (2 + 11) + (88) ≤ 83 * (d + 1) + 109 by omega)⟩) (pv_of hPc hK hDc (va_recv hK hPc (ci := 10) (q0 := 0) rfl rfl)) rfl rfl hl.1 rfl (lv_room (Nat.le_of_ble_eq_true rfl)) dX11_anyOf_38 ⟨Nat.zero_le _, Nat.zero_le _⟩) hS (fun q _ h => hFc q h) hFc (fun r_7 u t H locs ht hvm hw hB hz1 hk1 hS => ?_)
    obtain ⟨f_next_1, f_where_2, f_token_3, f_number_4, f_sign_5, f_word_6⟩ := u
    obtain ⟨hP, hD⟩ := af_join (wr := [(h_act, .inl (cI, 780, .inl r_act))]) (w1 := [(h, .inr (10, [.ref h_all, .ref h_has, .int f_size, .int f_next_1, .int f_where_2, .int f_token_3, .int f_number_4, .int f_sign_5, .int f_word_6, .int f_wrong, .int f_open, .int f_lines, .int f_acts, .ref h_line, .ref h_act, .ref h_pile, .ref h_comes, .ref h_leaves, .ref h_tried, .ref h_met])), (h_all, .inl (cI, 53700, .inl r_all))]) hB ht hP hD [0, 2] [1] rfl rfl (by decide) (by decide) hk1 hFc
    have hP : va_P (dC, dI) vwCl [(h_act, .inl (cI, 780, .inl r_act)), (h, .inr (10, [.ref h_all, .ref h_has, .int f_size, .int f_next_1, .int f_where_2, .int f_token_3, .int f_number_4, .int f_sign_5, .int f_word_6, .int f_wrong, .int f_open, .int f_lines, .int f_acts, .ref h_line, .ref h_act, .ref h_pile, .ref h_comes, .ref h_leaves, .ref h_tried, .ref h_met])), (h_all, .inl (cI, 53700, .inl r_all))] _ := hP
    have hD : va_D A [(h_act, .inl (cI, 780, .inl r_act)), (h, .inr (10, [.ref h_all, .ref h_has, .int f_size, .int f_next_1, .int f_where_2, .int f_token_3, .int f_number_4, .int f_sign_5, .int f_word_6, .int f_wrong, .int f_open, .int f_lines, .int f_acts, .ref h_line, .ref h_act, .ref h_pile, .ref h_comes, .ref h_leaves, .ref h_tried, .ref h_met])), (h_all, .inl (cI, 53700, .inl r_all))] := hD
    refine lv_if_eq (tgt := 59) hx hb dX11_anyOf_41 (by decide) (fun c_8 => ?_) (fun c_8 => ?_)
    · have hw := hw.1 c_8
      refine lv_aload_n hx hb dX11_anyOf_59 rfl (lv_at hl 0 rfl) ?_
      refine lv_dup hx hb dX11_anyOf_60 rfl ?_
      refine va_get (D := (dC, dI)) (ci := 10) (v := .int f_open) (C := RX11) (T := TX11) (N := 20) hx hb hts uX11_anyOf_X11 hown hK hP 1 rfl rfl 10 (by decide) (hts _ mX11_anyOf_0) (fun _ h9 => h9) rfl dX11_anyOf_61 ?_
      refine lv_iconst (v := (1 : Int32)) hx hb dX11_anyOf_64 (by decide) ?_
      refine lv_isub hx hb dX11_anyOf_65 ?_
      refine va_put (D := (dC, dI)) (ci := 10) (v := .int (f_open - (1 : Int32))) (ty := .int) (C := RX11) (T := TX11) (N := 20) hx hb hts uX11_anyOf_X11 tyX11 tyX11_ok nmX11 hown hK hP hD hS 1 rfl rfl 10 (by decide) (hts _ mX11_anyOf_0) (fun _ h9 => h9) rfl (tyX11_ok 10 (by decide)) rfl rfl (Nat.le_of_ble_eq_true rfl) dX11_anyOf_66 (fun H locs hP hD hS => ?_)
      have hP : va_P (dC, dI) vwCl [(h_act, .inl (cI, 780, .inl r_act)), (h, .inr (10, [.ref h_all, .ref h_has, .int f_size, .int f_next_1, .int f_where_2, .int f_token_3, .int f_number_4, .int f_sign_5, .int f_word_6, .int f_wrong, .int (f_open - (1 : Int32)), .int f_lines, .int f_acts, .ref h_line, .ref h_act, .ref h_pile, .ref h_comes, .ref h_leaves, .ref h_tried, .ref h_met])), (h_all, .inl (cI, 53700, .inl r_all))] _ := hP
      have hD : va_D A [(h_act, .inl (cI, 780, .inl r_act)), (h, .inr (10, [.ref h_all, .ref h_has, .int f_size, .int f_next_1, .int f_where_2, .int f_token_3, .int f_number_4, .int f_sign_5, .int f_word_6, .int f_wrong, .int (f_open - (1 : Int32)), .int f_lines, .int f_acts, .ref h_line, .ref h_act, .ref h_pile, .ref h_comes, .ref h_leaves, .ref h_tried, .ref h_met])), (h_all, .inl (cI, 53700, .inl r_all))] := hD
      have hP9 := hP.sub (ws' := (vX11_anyOf cI cZ h h_all h_has h_line h_act h_pile h_comes h_leaves h_tried h_met f_lines f_size f_next_1 f_where_2 f_token_3 f_number_4 f_sign_5 f_word_6 f_wrong (f_open - (1 : Int32)) f_acts r_act r_all)) [1, 0, 2] rfl
      have hD9 := hD.sub (ws' := (vX11_anyOf cI cZ h h_all h_has h_line h_act h_pile h_comes h_leaves h_tried h_met f_lines f_size f_next_1 f_where_2 f_token_3 f_number_4 f_sign_5 f_word_6 f_wrong (f_open - (1 : Int32)) f_acts r_act r_all)) [1, 0, 2] (by decide) rfl
      exact W.vret hx hb hr (fun t ht hW => ⟨⟨(f_next_1, f_where_2, f_token_3, f_number_4, f_sign_5, f_word_6, f_wrong, (f_open - (1 : Int32)), f_acts, r_act, r_all), rfl, hw, by rw [ht]; exact hP9, va_K.moved hW.alike hK, hD9⟩, hS.F ht⟩) hS.2.2 dX11_anyOf_69
    · have hw := hw.2 c_8
      refine lv_aload_n hx hb dX11_anyOf_44 rfl (lv_at hl 0 rfl) ?_
      have hPc := hP.sub (ws' := [(h, .inr (10, [.ref h_all, .ref h_has, .int f_size, .int f_next_1, .int f_where_2, .int f_token_3, .int f_number_4, .int f_sign_5, .int f_word_6, .int f_wrong, .int f_open, .int f_lines, .int f_acts, .ref h_line, .ref h_act, .ref h_pile, .ref h_comes, .ref h_leaves, .ref h_tried, .ref h_met])), (h_act, .inl (cI, 780, .inl r_act)), (h_all, .inl (cI, 53700, .inl r_all))]) [1, 0, 2] rfl
      have hDc := hD.sub (ws' := [(h, .inr (10, [.ref h_all, .ref h_has, .int f_size, .int f_next_1, .int f_where_2, .int f_token_3, .int f_number_4, .int f_sign_5, .int f_word_6, .int f_wrong, .int f_open, .int f_lines, .int f_acts, .ref h_line, .ref h_act, .ref h_pile, .ref h_comes, .ref h_leaves, .ref h_tried, .ref h_met])), (h_act, .inl (cI, 780, .inl r_act)), (h_all, .inl (cI, 53700, .inl r_all))]) [1, 0, 2] (by decide) rfl
      have hFc := va_free (wc := [(h, .inr (10, [.ref h_all, .ref h_has, .int f_size, .int f_next_1, .int f_where_2, .int f_token_3, .int f_number_4, .int f_sign_5, .int f_word_6, .int f_wrong, .int f_open, .int f_lines, .int f_acts, .ref h_line, .ref h_act, .ref h_pile, .ref h_comes, .ref h_leaves, .ref h_tried, .ref h_met])), (h_act, .inl (cI, 780, .inl r_act)), (h_all, .inl (cI, 53700, .inl r_all))]) hD hS hA [1, 0, 2] rfl
      refine va_callv (va_runV (As := []) (rest := []) ⟨hx, hb, hml, hown, hts⟩ (kX11_allOf l dC dI cI cZ cO cW h h_all h_has h_line h_act h_pile h_comes h_leaves h_tried h_met H.size f_lines f_size f_next_1 f_where_2 f_token_3 f_number_4 f_sign_5 f_word_6 f_wrong f_open f_acts r_act r_all _ d RA hRec hw) (cwV 0 hts gX11_anyOf_X11_allOf rfl rfl rfl (by decide +kernel) ⟨(show (4 * d + 8) + 1 ≤ 4 * (d + 1) + 5 by omega), (show 8 + (1 + 11) + (83 * d + 172) ≤ 83 * (d + 1) + 109 by omega)⟩) (pv_of hPc hK hDc (va_recv hK hPc (ci := 10) (q0 := 0) rfl rfl)) rfl rfl hl.1 rfl (lv_room (Nat.le_of_ble_eq_true rfl)) dX11_anyOf_45 ⟨Nat.zero_le _, Nat.zero_le _⟩) hS (fun q _ h => hFc q h) hFc (fun u t H locs ht hvm hw hB hz1 hk1 hS => ?_)
      obtain ⟨f_next_9, f_where_10, f_token_11, f_number_12, f_sign_13, f_word_14, f_wrong_15, f_open_16, f_acts_17, r_act_18, r_all_19⟩ := u
      obtain ⟨hP, hD⟩ := af_join (wr := []) (w1 := [(h, .inr (10, [.ref h_all, .ref h_has, .int f_size, .int f_next_9, .int f_where_10, .int f_token_11, .int f_number_12, .int f_sign_13, .int f_word_14, .int f_wrong_15, .int f_open_16, .int f_lines, .int f_acts_17, .ref h_line, .ref h_act, .ref h_pile, .ref h_comes, .ref h_leaves, .ref h_tried, .ref h_met])), (h_act, .inl (cI, 780, .inl r_act_18)), (h_all, .inl (cI, 53700, .inl r_all_19))]) hB ht hP hD [1, 0, 2] [] rfl rfl (by decide) (by decide) hk1 hFc
      have hP : va_P (dC, dI) vwCl [(h, .inr (10, [.ref h_all, .ref h_has, .int f_size, .int f_next_9, .int f_where_10, .int f_token_11, .int f_number_12, .int f_sign_13, .int f_word_14, .int f_wrong_15, .int f_open_16, .int f_lines, .int f_acts_17, .ref h_line, .ref h_act, .ref h_pile, .ref h_comes, .ref h_leaves, .ref h_tried, .ref h_met])), (h_act, .inl (cI, 780, .inl r_act_18)), (h_all, .inl (cI, 53700, .inl r_all_19))] _ := hP
      have hD : va_D A [(h, .inr (10, [.ref h_all, .ref h_has, .int f_size, .int f_next_9, .int f_where_10, .int f_token_11, .int f_number_12, .int f_sign_13, .int f_word_14, .int f_wrong_15, .int f_open_16, .int f_lines, .int f_acts_17, .ref h_line, .ref h_act, .ref h_pile, .ref h_comes, .ref h_leaves, .ref h_tried, .ref h_met])), (h_act, .inl (cI, 780, .inl r_act_18)), (h_all, .inl (cI, 53700, .inl r_all_19))] := hD
      refine lv_aload_n hx hb dX11_anyOf_48 rfl (lv_at hl 0 rfl) ?_
      refine lv_bipush (v := (31 : Int32)) hx hb dX11_anyOf_49 (by decide) ?_
      refine lv_iconst (v := (0 : Int32)) hx hb dX11_anyOf_51 (by decide) ?_
      refine lv_iconst (v := (0 : Int32)) hx hb dX11_anyOf_52 (by decide) ?_
      have hPc := hP.sub (ws' := [(h, .inr (10, [.ref h_all, .ref h_has, .int f_size, .int f_next_9, .int f_where_10, .int f_token_11, .int f_number_12, .int f_sign_13, .int f_word_14, .int f_wrong_15, .int f_open_16, .int f_lines, .int f_acts_17, .ref h_line, .ref h_act, .ref h_pile, .ref h_comes, .ref h_leaves, .ref h_tried, .ref h_met])), (h_act, .inl (cI, 780, .inl r_act_18))]) [0, 1] rfl
      have hDc := hD.sub (ws' := [(h, .inr (10, [.ref h_all, .ref h_has, .int f_size, .int f_next_9, .int f_where_10, .int f_token_11, .int f_number_12, .int f_sign_13, .int f_word_14, .int f_wrong_15, .int f_open_16, .int f_lines, .int f_acts_17, .ref h_line, .ref h_act, .ref h_pile, .ref h_comes, .ref h_leaves, .ref h_tried, .ref h_met])), (h_act, .inl (cI, 780, .inl r_act_18))]) [0, 1] (by decide) rfl
      have hFc := va_free (wc := [(h, .inr (10, [.ref h_all, .ref h_has, .int f_size, .int f_next_9, .int f_where_10, .int f_token_11, .int f_number_12, .int f_sign_13, .int f_word_14, .int f_wrong_15, .int f_open_16, .int f_lines, .int f_acts_17, .ref h_line, .ref h_act, .ref h_pile, .ref h_comes, .ref h_leaves, .ref h_tried, .ref h_met])), (h_act, .inl (cI, 780, .inl r_act_18))]) hD hS hA [0, 1] rfl
      refine va_callv (va_runV (As := [.int (31 : Int32), .int (0 : Int32), .int (0 : Int32)]) (rest := []) ⟨hx, hb, hml, hown, hts⟩ (kX11_emit l dC dI cI cZ cO cW h h_all h_has h_line h_act h_pile h_comes h_leaves h_tried h_met H.size f_size f_next_9 f_where_10 f_token_11 f_number_12 f_sign_13 f_word_14 f_wrong_15 f_open_16 f_lines f_acts_17 r_act_18 (31 : Int32) (0 : Int32) (0 : Int32) _ hw) (cwV 3 hts gX11_anyOf_X11_emit rfl rfl rfl (by decide +kernel) ⟨(show (0) + 1 ≤ 4 * (d + 1) + 5 by omega), (show 8 + (4 + 11) + (0) ≤ 83 * (d + 1) + 109 by omega)⟩) (pv_of hPc hK hDc (va_recv hK hPc (ci := 10) (q0 := 0) rfl rfl)) rfl rfl hl.1 rfl (lv_room (Nat.le_of_ble_eq_true rfl)) dX11_anyOf_53 ⟨Nat.zero_le _, Nat.zero_le _⟩) hS (fun q _ h => hFc q h) hFc (fun u t H locs ht hvm hw hB hz1 hk1 hS => ?_)
      obtain ⟨f_acts_20, r_act_21⟩ := u
      obtain ⟨hP, hD⟩ := af_join (wr := [(h_all, .inl (cI, 53700, .inl r_all_19))]) (w1 := [(h, .inr (10, [.ref h_all, .ref h_has, .int f_size, .int f_next_9, .int f_where_10, .int f_token_11, .int f_number_12, .int f_sign_13, .int f_word_14, .int f_wrong_15, .int f_open_16, .int f_lines, .int f_acts_20, .ref h_line, .ref h_act, .ref h_pile, .ref h_comes, .ref h_leaves, .ref h_tried, .ref h_met])), (h_act, .inl (cI, 780, .inl r_act_21))]) hB ht hP hD [0, 1] [2] rfl rfl (by decide) (by decide) hk1 hFc
      have hP : va_P (dC, dI) vwCl [(h_all, .inl (cI, 53700, .inl r_all_19)), (h, .inr (10, [.ref h_all, .ref h_has, .int f_size, .int f_next_9, .int f_where_10, .int f_token_11, .int f_number_12, .int f_sign_13, .int f_word_14, .int f_wrong_15, .int f_open_16, .int f_lines, .int f_acts_20, .ref h_line, .ref h_act, .ref h_pile, .ref h_comes, .ref h_leaves, .ref h_tried, .ref h_met])), (h_act, .inl (cI, 780, .inl r_act_21))] _ := hP
      have hD : va_D A [(h_all, .inl (cI, 53700, .inl r_all_19)), (h, .inr (10, [.ref h_all, .ref h_has, .int f_size, .int f_next_9, .int f_where_10, .int f_token_11, .int f_number_12, .int f_sign_13, .int f_word_14, .int f_wrong_15, .int f_open_16, .int f_lines, .int f_acts_20, .ref h_line, .ref h_act, .ref h_pile, .ref h_comes, .ref h_leaves, .ref h_tried, .ref h_met])), (h_act, .inl (cI, 780, .inl r_act_21))] := hD
      refine lv_goto (tgt := 35) hx hb dX11_anyOf_56 (by decide) ?_
      exact ih f_size f_next_9 f_where_10 f_token_11 f_number_12 f_sign_13 f_word_14 f_wrong_15 f_open_16 f_acts_20 r_act_21 r_all_19 _ _ ls hw (hP.sub [1, 2, 0] rfl) (hD.sub [1, 2, 0] (by decide) rfl) hS (lv_sub hl [0] rfl)
set_option maxHeartbeats 4000000 in
set_option maxRecDepth 100000 in
theorem tX11_anyOf_13 {p : Program} {l : Launch} {e : Env} {s : State} {m : MethodId} {args : Array Value} {below : List Frame} {meth : Method} {c : Code} {dC : Nat → ClassId} {dI : Nat → Nat → Nat} {cI cZ cO cW : ClassId} {A : Nat → Prop} {h h_all h_has h_line h_act h_pile h_comes h_leaves h_tried h_met : Nat} {f_lines : Int32} {Q : Int32 → Int32 → Int32 → Int32 → Int32 → Int32 → Int32 → Int32 → Int32 → (Nat → Int32) → (Nat → Int32) → Prop} {d : Nat} {RA : (Int32 → Int32 → Int32 → Int32 → Int32 → Int32 → Int32 → Int32 → Int32 → (Nat → Int32) → (Nat → Int32) → Prop) → Int32 → Int32 → Int32 → Int32 → Int32 → Int32 → Int32 → Int32 → Int32 → Int32 → (Nat → Int32) → (Nat → Int32) → Prop}  (hC : Cx p s m args meth c cX11_anyOf none 1 wsX11_anyOf RX11) (hK : va_K (dC, dI) vwCl (tysA cI cZ cO cW) s) (hA : ∀ q : Nat, s.heap.size ≤ q → A q) (hRec : ∀ (h h_all h_has h_line h_act h_pile h_comes h_leaves h_tried h_met : Nat) (sz : Nat) (f_lines : Int32) (f_size : Int32) (f_next : Int32) (f_where : Int32) (f_token : Int32) (f_number : Int32) (f_sign : Int32) (f_word : Int32) (f_wrong : Int32) (f_open : Int32) (f_acts : Int32) (r_act : Nat → Int32) (r_all : Nat → Int32)  (Q : Int32 → Int32 → Int32 → Int32 → Int32 → Int32 → Int32 → Int32 → Int32 → (Nat → Int32) → (Nat → Int32) → Prop), RA Q  f_size f_next f_where f_token f_number f_sign f_word f_wrong f_open f_acts r_act r_all → Met l yX11_anyOf wsX11_anyOf (rmX11_anyOf_d d) (va_Pc [.ref h] (fun U => U.heap.size = sz ∧ va_P (dC, dI) vwCl (vX11_anyOf cI cZ h h_all h_has h_line h_act h_pile h_comes h_leaves h_tried h_met f_lines f_size f_next f_where f_token f_number f_sign f_word f_wrong f_open f_acts r_act r_all) U.heap ∧ va_K (dC, dI) vwCl (tysA cI cZ cO cW) U ∧ va_D (fun _ => True) (vX11_anyOf cI cZ h h_all h_has h_line h_act h_pile h_comes h_leaves h_tried h_met f_lines f_size f_next f_where f_token f_number f_sign f_word f_wrong f_open f_acts r_act r_all))) (qX11_anyOf dC dI cI cZ cO cW h h_all h_has h_line h_act h_pile h_comes h_leaves h_tried h_met f_lines f_size Q (va_A (vX11_anyOf cI cZ h h_all h_has h_line h_act h_pile h_comes h_leaves h_tried h_met f_lines f_size f_next f_where f_token f_number f_sign f_word f_wrong f_open f_acts r_act r_all) sz)) 0 0 (va_A (vX11_anyOf cI cZ h h_all h_has h_line h_act h_pile h_comes h_leaves h_tried h_met f_lines f_size f_next f_where f_token f_number f_sign f_word f_wrong f_open f_acts r_act r_all) sz)) :
    ∀ (f_size : Int32) (f_next : Int32) (f_where : Int32) (f_token : Int32) (f_number : Int32) (f_sign : Int32) (f_word : Int32) (f_wrong : Int32) (f_open : Int32) (f_acts : Int32) (r_act : (Nat → Int32)) (r_all : (Nat → Int32)) (H : Heap) (locs : List Loc) (ls : Array Slot), wX11_anyOf_13 RA Q  f_size f_next f_where f_token f_number f_sign f_word f_wrong f_open f_acts r_act r_all → va_P (dC, dI) vwCl (vX11_anyOf cI cZ h h_all h_has h_line h_act h_pile h_comes h_leaves h_tried h_met f_lines f_size f_next f_where f_token f_number f_sign f_word f_wrong f_open f_acts r_act r_all) H → va_D A (vX11_anyOf cI cZ h h_all h_has h_line h_act h_pile h_comes h_leaves h_tried h_met f_lines f_size f_next f_where f_token f_number f_sign f_word f_wrong f_open f_acts r_act r_all) → va_S A s.heap H locs → lv_has ls 1 [(0, .ref h)] → W p l e (rmX11_anyOf_d (d + 1)) s m args below meth c H locs 0 0 (MQ below (qX11_anyOf dC dI cI cZ cO cW h h_all h_has h_line h_act h_pile h_comes h_leaves h_tried h_met f_lines f_size Q A) args s 0 0 A) (F0 m 13 ls []) := by
  obtain ⟨hx, hb, hr, hml, hown, hts, hlocks⟩ := id hC
  intro f_size f_next f_where f_token f_number f_sign f_word f_wrong f_open f_acts r_act r_all H locs ls hw hP hD hS hl
  refine lv_aload_n hx hb dX11_anyOf_13 rfl (lv_at hl 0 rfl) ?_
  refine va_get (D := (dC, dI)) (ci := 10) (v := .int f_wrong) (C := RX11) (T := TX11) (N := 20) hx hb hts uX11_anyOf_X11 hown hK hP 0 rfl rfl 9 (by decide) (hts _ mX11_anyOf_1) (fun _ h9 => h9) rfl dX11_anyOf_14 ?_
  refine lv_if_eq (tgt := 21) hx hb dX11_anyOf_17 (by decide) (fun c_22 => ?_) (fun c_22 => ?_)
  · have hw := hw.1 c_22
    refine lv_aload_n hx hb dX11_anyOf_21 rfl (lv_at hl 0 rfl) ?_
    refine lv_dup hx hb dX11_anyOf_22 rfl ?_
    refine va_get (D := (dC, dI)) (ci := 10) (v := .int f_open) (C := RX11) (T := TX11) (N := 20) hx hb hts uX11_anyOf_X11 hown hK hP 0 rfl rfl 10 (by decide) (hts _ mX11_anyOf_0) (fun _ h9 => h9) rfl dX11_anyOf_23 ?_
    refine lv_iconst (v := (1 : Int32)) hx hb dX11_anyOf_26 (by decide) ?_
    refine lv_iadd hx hb dX11_anyOf_27 ?_
    refine va_put (D := (dC, dI)) (ci := 10) (v := .int (f_open + (1 : Int32))) (ty := .int) (C := RX11) (T := TX11) (N := 20) hx hb hts uX11_anyOf_X11 tyX11 tyX11_ok nmX11 hown hK hP hD hS 0 rfl rfl 10 (by decide) (hts _ mX11_anyOf_0) (fun _ h9 => h9) rfl (tyX11_ok 10 (by decide)) rfl rfl (Nat.le_of_ble_eq_true rfl) dX11_anyOf_28 (fun H locs hP hD hS => ?_)
    have hP : va_P (dC, dI) vwCl [(h, .inr (10, [.ref h_all, .ref h_has, .int f_size, .int f_next, .int f_where, .int f_token, .int f_number, .int f_sign, .int f_word, .int f_wrong, .int (f_open + (1 : Int32)), .int f_lines, .int f_acts, .ref h_line, .ref h_act, .ref h_pile, .ref h_comes, .ref h_leaves, .ref h_tried, .ref h_met])), (h_act, .inl (cI, 780, .inl r_act)), (h_all, .inl (cI, 53700, .inl r_all))] _ := hP
    have hD : va_D A [(h, .inr (10, [.ref h_all, .ref h_has, .int f_size, .int f_next, .int f_where, .int f_token, .int f_number, .int f_sign, .int f_word, .int f_wrong, .int (f_open + (1 : Int32)), .int f_lines, .int f_acts, .ref h_line, .ref h_act, .ref h_pile, .ref h_comes, .ref h_leaves, .ref h_tried, .ref h_met])), (h_act, .inl (cI, 780, .inl r_act)), (h_all, .inl (cI, 53700, .inl r_all))] := hD
    refine lv_aload_n hx hb dX11_anyOf_31 rfl (lv_at hl 0 rfl) ?_
    have hPc := hP.sub (ws' := [(h, .inr (10, [.ref h_all, .ref h_has, .int f_size, .int f_next, .int f_where, .int f_token, .int f_number, .int f_sign, .int f_word, .int f_wrong, .int (f_open + (1 : Int32)), .int f_lines, .int f_acts, .ref h_line, .ref h_act, .ref h_pile, .ref h_comes, .ref h_leaves, .ref h_tried, .ref h_met])), (h_act, .inl (cI, 780, .inl r_act)), (h_all, .inl (cI, 53700, .inl r_all))]) [0, 1, 2] rfl
    have hDc := hD.sub (ws' := [(h, .inr (10, [.ref h_all, .ref h_has, .int f_size, .int f_next, .int f_where, .int f_token, .int f_number, .int f_sign, .int f_word, .int f_wrong, .int (f_open + (1 : Int32)), .int f_lines, .int f_acts, .ref h_line, .ref h_act, .ref h_pile, .ref h_comes, .ref h_leaves, .ref h_tried, .ref h_met])), (h_act, .inl (cI, 780, .inl r_act)), (h_all, .inl (cI, 53700, .inl r_all))]) [0, 1, 2] (by decide) rfl
    have hFc := va_free (wc := [(h, .inr (10, [.ref h_all, .ref h_has, .int f_size, .int f_next, .int f_where, .int f_token, .int f_number, .int f_sign, .int f_word, .int f_wrong, .int (f_open + (1 : Int32)), .int f_lines, .int f_acts, .ref h_line, .ref h_act, .ref h_pile, .ref h_comes, .ref h_leaves, .ref h_tried, .ref h_met])), (h_act, .inl (cI, 780, .inl r_act)), (h_all, .inl (cI, 53700, .inl r_all))]) hD hS hA [0, 1, 2] rfl
    refine va_callv (va_runV (As := []) (rest := []) ⟨hx, hb, hml, hown, hts⟩ (kX11_allOf l dC dI cI cZ cO cW h h_all h_has h_line h_act h_pile h_comes h_leaves h_tried h_met H.size f_lines f_size f_next f_where f_token f_number f_sign f_word f_wrong (f_open + (1 : Int32)) f_acts r_act r_all _ d RA hRec hw) (cwV 0 hts gX11_anyOf_X11_allOf rfl rfl rfl (by decide +kernel) ⟨(show (4 * d + 8) + 1 ≤ 4 * (d + 1) + 5 by omega), (show 8 + (1 + 11) + (83 * d + 172) ≤ 83 * (d + 1) + 109 by omega)⟩) (pv_of hPc hK hDc (va_recv hK hPc (ci := 10) (q0 := 0) rfl rfl)) rfl rfl hl.1 rfl (lv_room (Nat.le_of_ble_eq_true rfl)) dX11_anyOf_32 ⟨Nat.zero_le _, Nat.zero_le _⟩) hS (fun q _ h => hFc q h) hFc (fun u t H locs ht hvm hw hB hz1 hk1 hS => ?_)
    obtain ⟨f_next_23, f_where_24, f_token_25, f_number_26, f_sign_27, f_word_28, f_wrong_29, f_open_30, f_acts_31, r_act_32, r_all_33⟩ := u
    obtain ⟨hP, hD⟩ := af_join (wr := []) (w1 := [(h, .inr (10, [.ref h_all, .ref h_has, .int f_size, .int f_next_23, .int f_where_24, .int f_token_25, .int f_number_26, .int f_sign_27, .int f_word_28, .int f_wrong_29, .int f_open_30, .int f_lines, .int f_acts_31, .ref h_line, .ref h_act, .ref h_pile, .ref h_comes, .ref h_leaves, .ref h_tried, .ref h_met])), (h_act, .inl (cI, 780, .inl r_act_32)), (h_all, .inl (cI, 53700, .inl r_all_33))]) hB ht hP hD [0, 1, 2] [] rfl rfl (by decide) (by decide) hk1 hFc
    have hP : va_P (dC, dI) vwCl [(h, .inr (10, [.ref h_all, .ref h_has, .int f_size, .int f_next_23, .int f_where_24, .int f_token_25, .int f_number_26, .int f_sign_27, .int f_word_28, .int f_wrong_29, .int f_open_30, .int f_lines, .int f_acts_31, .ref h_line, .ref h_act, .ref h_pile, .ref h_comes, .ref h_leaves, .ref h_tried, .ref h_met])), (h_act, .inl (cI, 780, .inl r_act_32)), (h_all, .inl (cI, 53700, .inl r_all_33))] _ := hP
    have hD : va_D A [(h, .inr (10, [.ref h_all, .ref h_has, .int f_size, .int f_next_23, .int f_where_24, .int f_token_25, .int f_number_26, .int f_sign_27, .int f_word_28, .int f_wrong_29, .int f_open_30, .int f_lines, .int f_acts_31, .ref h_line, .ref h_act, .ref h_pile, .ref h_comes, .ref h_leaves, .ref h_tried, .ref h_met])), (h_act, .inl (cI, 780, .inl r_act_32)), (h_all, .inl (cI, 53700, .inl r_all_33))] := hD
    obtain ⟨n_34, hw⟩ := hw
    exact tX11_anyOf_35 hC hK hA hRec  n_34 f_size f_next_23 f_where_24 f_token_25 f_number_26 f_sign_27 f_word_28 f_wrong_29 f_open_30 f_acts_31 r_act_32 r_all_33 _ _ ls hw (hP.sub [0, 1, 2] rfl) (hD.sub [0, 1, 2] (by decide) rfl) hS (lv_sub hl [0] rfl)
  · have hw := hw.2 c_22
    have hP9 := hP.sub (ws' := (vX11_anyOf cI cZ h h_all h_has h_line h_act h_pile h_comes h_leaves h_tried h_met f_lines f_size f_next f_where f_token f_number f_sign f_word f_wrong f_open f_acts r_act r_all)) [0, 1, 2] rfl
    have hD9 := hD.sub (ws' := (vX11_anyOf cI cZ h h_all h_has h_line h_act h_pile h_comes h_leaves h_tried h_met f_lines f_size f_next f_where f_token f_number f_sign f_word f_wrong f_open f_acts r_act r_all)) [0, 1, 2] (by decide) rfl
    exact W.vret hx hb hr (fun t ht hW => ⟨⟨(f_next, f_where, f_token, f_number, f_sign, f_word, f_wrong, f_open, f_acts, r_act, r_all), rfl, hw, by rw [ht]; exact hP9, va_K.moved hW.alike hK, hD9⟩, hS.F ht⟩) hS.2.2 dX11_anyOf_20
set_option maxHeartbeats 4000000 in
set_option maxRecDepth 100000 in
theorem tX11_anyOf_e {p : Program} {l : Launch} {e : Env} {s : State} {m : MethodId} {args : Array Value} {below : List Frame} {meth : Method} {c : Code} {dC : Nat → ClassId} {dI : Nat → Nat → Nat} {cI cZ cO cW : ClassId} {A : Nat → Prop} {h h_all h_has h_line h_act h_pile h_comes h_leaves h_tried h_met : Nat} {f_lines : Int32} {Q : Int32 → Int32 → Int32 → Int32 → Int32 → Int32 → Int32 → Int32 → Int32 → (Nat → Int32) → (Nat → Int32) → Prop} {d : Nat} {RA : (Int32 → Int32 → Int32 → Int32 → Int32 → Int32 → Int32 → Int32 → Int32 → (Nat → Int32) → (Nat → Int32) → Prop) → Int32 → Int32 → Int32 → Int32 → Int32 → Int32 → Int32 → Int32 → Int32 → Int32 → (Nat → Int32) → (Nat → Int32) → Prop} (hC : Cx p s m args meth c cX11_anyOf none 1 wsX11_anyOf RX11) (hK : va_K (dC, dI) vwCl (tysA cI cZ cO cW) s) (hA : ∀ q : Nat, s.heap.size ≤ q → A q) (hRec : ∀ (h h_all h_has h_line h_act h_pile h_comes h_leaves h_tried h_met : Nat) (sz : Nat) (f_lines : Int32) (f_size : Int32) (f_next : Int32) (f_where : Int32) (f_token : Int32) (f_number : Int32) (f_sign : Int32) (f_word : Int32) (f_wrong : Int32) (f_open : Int32) (f_acts : Int32) (r_act : Nat → Int32) (r_all : Nat → Int32)  (Q : Int32 → Int32 → Int32 → Int32 → Int32 → Int32 → Int32 → Int32 → Int32 → (Nat → Int32) → (Nat → Int32) → Prop), RA Q  f_size f_next f_where f_token f_number f_sign f_word f_wrong f_open f_acts r_act r_all → Met l yX11_anyOf wsX11_anyOf (rmX11_anyOf_d d) (va_Pc [.ref h] (fun U => U.heap.size = sz ∧ va_P (dC, dI) vwCl (vX11_anyOf cI cZ h h_all h_has h_line h_act h_pile h_comes h_leaves h_tried h_met f_lines f_size f_next f_where f_token f_number f_sign f_word f_wrong f_open f_acts r_act r_all) U.heap ∧ va_K (dC, dI) vwCl (tysA cI cZ cO cW) U ∧ va_D (fun _ => True) (vX11_anyOf cI cZ h h_all h_has h_line h_act h_pile h_comes h_leaves h_tried h_met f_lines f_size f_next f_where f_token f_number f_sign f_word f_wrong f_open f_acts r_act r_all))) (qX11_anyOf dC dI cI cZ cO cW h h_all h_has h_line h_act h_pile h_comes h_leaves h_tried h_met f_lines f_size Q (va_A (vX11_anyOf cI cZ h h_all h_has h_line h_act h_pile h_comes h_leaves h_tried h_met f_lines f_size f_next f_where f_token f_number f_sign f_word f_wrong f_open f_acts r_act r_all) sz)) 0 0 (va_A (vX11_anyOf cI cZ h h_all h_has h_line h_act h_pile h_comes h_leaves h_tried h_met f_lines f_size f_next f_where f_token f_number f_sign f_word f_wrong f_open f_acts r_act r_all) sz)) :
    ∀ (f_size : Int32) (f_next : Int32) (f_where : Int32) (f_token : Int32) (f_number : Int32) (f_sign : Int32) (f_word : Int32) (f_wrong : Int32) (f_open : Int32) (f_acts : Int32) (r_act : Nat → Int32) (r_all : Nat → Int32) (H : Heap) (locs : List Loc) (ls : Array Slot), wX11_anyOf_b RA Q  f_size f_next f_where f_token f_number f_sign f_word f_wrong f_open f_acts r_act r_all → va_P (dC, dI) vwCl (vX11_anyOf cI cZ h h_all h_has h_line h_act h_pile h_comes h_leaves h_tried h_met f_lines f_size f_next f_where f_token f_number f_sign f_word f_wrong f_open f_acts r_act r_all) H → va_D A (vX11_anyOf cI cZ h h_all h_has h_line h_act h_pile h_comes h_leaves h_tried h_met f_lines f_size f_next f_where f_token f_number f_sign f_word f_wrong f_open f_acts r_act r_all) → va_S A s.heap H locs → lv_has ls 1 [(0, .ref h)] → W p l e (rmX11_anyOf_d (d + 1)) s m args below meth c H locs 0 0 (MQ below (qX11_anyOf dC dI cI cZ cO cW h h_all h_has h_line h_act h_pile h_comes h_leaves h_tried h_met f_lines f_size Q A) args s 0 0 A) (F0 m 0 ls []) := by
  obtain ⟨hx, hb, hr, hml, hown, hts, hlocks⟩ := id hC
  intro  f_size f_next f_where f_token f_number f_sign f_word f_wrong f_open f_acts r_act r_all H locs ls hw hP hD hS hl
  refine lv_aload_n hx hb dX11_anyOf_0 rfl (lv_at hl 0 rfl) ?_
  refine va_get (D := (dC, dI)) (ci := 10) (v := .int f_open) (C := RX11) (T := TX11) (N := 20) hx hb hts uX11_anyOf_X11 hown hK hP 0 rfl rfl 10 (by decide) (hts _ mX11_anyOf_0) (fun _ h9 => h9) rfl dX11_anyOf_1 ?_
  refine lv_bipush (v := (8 : Int32)) hx hb dX11_anyOf_4 (by decide) ?_
  refine lv_icmp_ne (tgt := 13) hx hb dX11_anyOf_6 (by decide) (fun c_35 => ?_) (fun c_35 => ?_)
  · have hw := hw.1 c_35
    exact tX11_anyOf_13 hC hK hA hRec  f_size f_next f_where f_token f_number f_sign f_word f_wrong f_open f_acts r_act r_all _ _ ls hw (hP.sub [0, 1, 2] rfl) (hD.sub [0, 1, 2] (by decide) rfl) hS (lv_sub hl [0] rfl)
  · have hw := hw.2 c_35
    refine lv_aload_n hx hb dX11_anyOf_9 rfl (lv_at hl 0 rfl) ?_
    have hPc := hP.sub (ws' := [(h, .inr (10, [.ref h_all, .ref h_has, .int f_size, .int f_next, .int f_where, .int f_token, .int f_number, .int f_sign, .int f_word, .int f_wrong, .int f_open, .int f_lines, .int f_acts, .ref h_line, .ref h_act, .ref h_pile, .ref h_comes, .ref h_leaves, .ref h_tried, .ref h_met])), (h_all, .inl (cI, 53700, .inl r_all))]) [0, 2] rfl
    have hDc := hD.sub (ws' := [(h, .inr (10, [.ref h_all, .ref h_has, .int f_size, .int f_next, .int f_where, .int f_token, .int f_number, .int f_sign, .int f_word, .int f_wrong, .int f_open, .int f_lines, .int f_acts, .ref h_line, .ref h_act, .ref h_pile, .ref h_comes, .ref h_leaves, .ref h_tried, .ref h_met])), (h_all, .inl (cI, 53700, .inl r_all))]) [0, 2] (by decide) rfl
    have hFc := va_free (wc := [(h, .inr (10, [.ref h_all, .ref h_has, .int f_size, .int f_next, .int f_where, .int f_token, .int f_number, .int f_sign, .int f_word, .int f_wrong, .int f_open, .int f_lines, .int f_acts, .ref h_line, .ref h_act, .ref h_pile, .ref h_comes, .ref h_leaves, .ref h_tried, .ref h_met])), (h_all, .inl (cI, 53700, .inl r_all))]) hD hS hA [0, 2] rfl
    refine va_callv (va_runV (As := []) (rest := []) ⟨hx, hb, hml, hown, hts⟩ (kX11_stops l dC dI cI cZ cO cW h h_all h_has h_line h_act h_pile h_comes h_leaves h_tried h_met H.size f_size f_next f_token f_number f_sign f_word f_open f_lines f_acts f_where f_wrong r_all _ hw) (cwV 0 hts gX11_anyOf_X11_stops rfl rfl rfl (by decide +kernel) ⟨(show (0) + 1 ≤ 4 * (d + 1) + 5 by omega), (show 8 + (1 + 11) + (0) ≤ 83 * (d + 1) + 109 by omega)⟩) (pv_of hPc hK hDc (va_recv hK hPc (ci := 10) (q0 := 0) rfl rfl)) rfl rfl hl.1 rfl (lv_room (Nat.le_of_ble_eq_true rfl)) dX11_anyOf_10 ⟨Nat.zero_le _, Nat.zero_le _⟩) hS (fun q _ h => hFc q h) hFc (fun u t H locs ht hvm hw hB hz1 hk1 hS => ?_)
    obtain ⟨f_wrong_36, r_all_37⟩ := u
    obtain ⟨hP, hD⟩ := af_join (wr := [(h_act, .inl (cI, 780, .inl r_act))]) (w1 := [(h, .inr (10, [.ref h_all, .ref h_has, .int f_size, .int f_next, .int f_where, .int f_token, .int f_number, .int f_sign, .int f_word, .int f_wrong_36, .int f_open, .int f_lines, .int f_acts, .ref h_line, .ref h_act, .ref h_pile, .ref h_comes, .ref h_leaves, .ref h_tried, .ref h_met])), (h_all, .inl (cI, 53700, .inl r_all_37))]) hB ht hP hD [0, 2] [1] rfl rfl (by decide) (by decide) hk1 hFc
    have hP : va_P (dC, dI) vwCl [(h_act, .inl (cI, 780, .inl r_act)), (h, .inr (10, [.ref h_all, .ref h_has, .int f_size, .int f_next, .int f_where, .int f_token, .int f_number, .int f_sign, .int f_word, .int f_wrong_36, .int f_open, .int f_lines, .int f_acts, .ref h_line, .ref h_act, .ref h_pile, .ref h_comes, .ref h_leaves, .ref h_tried, .ref h_met])), (h_all, .inl (cI, 53700, .inl r_all_37))] _ := hP
    have hD : va_D A [(h_act, .inl (cI, 780, .inl r_act)), (h, .inr (10, [.ref h_all, .ref h_has, .int f_size, .int f_next, .int f_where, .int f_token, .int f_number, .int f_sign, .int f_word, .int f_wrong_36, .int f_open, .int f_lines, .int f_acts, .ref h_line, .ref h_act, .ref h_pile, .ref h_comes, .ref h_leaves, .ref h_tried, .ref h_met])), (h_all, .inl (cI, 53700, .inl r_all_37))] := hD
    exact tX11_anyOf_13 hC hK hA hRec  f_size f_next f_where f_token f_number f_sign f_word f_wrong_36 f_open f_acts r_act r_all_37 _ _ ls hw (hP.sub [1, 0, 2] rfl) (hD.sub [1, 0, 2] (by decide) rfl) hS (lv_sub hl [0] rfl)
set_option maxHeartbeats 4000000 in
set_option maxRecDepth 100000 in
theorem kX11_anyOf_b (l : Launch) (dC : Nat → ClassId) (dI : Nat → Nat → Nat) (cI cZ cO cW : ClassId) (h h_all h_has h_line h_act h_pile h_comes h_leaves h_tried h_met : Nat)  (sz : Nat) (f_lines : Int32) (f_size : Int32) (f_next : Int32) (f_where : Int32) (f_token : Int32) (f_number : Int32) (f_sign : Int32) (f_word : Int32) (f_wrong : Int32) (f_open : Int32) (f_acts : Int32) (r_act : Nat → Int32) (r_all : Nat → Int32)  (Q : Int32 → Int32 → Int32 → Int32 → Int32 → Int32 → Int32 → Int32 → Int32 → (Nat → Int32) → (Nat → Int32) → Prop) (d : Nat) (RA : (Int32 → Int32 → Int32 → Int32 → Int32 → Int32 → Int32 → Int32 → Int32 → (Nat → Int32) → (Nat → Int32) → Prop) → Int32 → Int32 → Int32 → Int32 → Int32 → Int32 → Int32 → Int32 → Int32 → Int32 → (Nat → Int32) → (Nat → Int32) → Prop) (hRec : ∀ (h h_all h_has h_line h_act h_pile h_comes h_leaves h_tried h_met : Nat) (sz : Nat) (f_lines : Int32) (f_size : Int32) (f_next : Int32) (f_where : Int32) (f_token : Int32) (f_number : Int32) (f_sign : Int32) (f_word : Int32) (f_wrong : Int32) (f_open : Int32) (f_acts : Int32) (r_act : Nat → Int32) (r_all : Nat → Int32)  (Q : Int32 → Int32 → Int32 → Int32 → Int32 → Int32 → Int32 → Int32 → Int32 → (Nat → Int32) → (Nat → Int32) → Prop), RA Q  f_size f_next f_where f_token f_number f_sign f_word f_wrong f_open f_acts r_act r_all → Met l yX11_anyOf wsX11_anyOf (rmX11_anyOf_d d) (va_Pc [.ref h] (fun U => U.heap.size = sz ∧ va_P (dC, dI) vwCl (vX11_anyOf cI cZ h h_all h_has h_line h_act h_pile h_comes h_leaves h_tried h_met f_lines f_size f_next f_where f_token f_number f_sign f_word f_wrong f_open f_acts r_act r_all) U.heap ∧ va_K (dC, dI) vwCl (tysA cI cZ cO cW) U ∧ va_D (fun _ => True) (vX11_anyOf cI cZ h h_all h_has h_line h_act h_pile h_comes h_leaves h_tried h_met f_lines f_size f_next f_where f_token f_number f_sign f_word f_wrong f_open f_acts r_act r_all))) (qX11_anyOf dC dI cI cZ cO cW h h_all h_has h_line h_act h_pile h_comes h_leaves h_tried h_met f_lines f_size Q (va_A (vX11_anyOf cI cZ h h_all h_has h_line h_act h_pile h_comes h_leaves h_tried h_met f_lines f_size f_next f_where f_token f_number f_sign f_word f_wrong f_open f_acts r_act r_all) sz)) 0 0 (va_A (vX11_anyOf cI cZ h h_all h_has h_line h_act h_pile h_comes h_leaves h_tried h_met f_lines f_size f_next f_where f_token f_number f_sign f_word f_wrong f_open f_acts r_act r_all) sz)) (hw : wX11_anyOf_b RA Q  f_size f_next f_where f_token f_number f_sign f_word f_wrong f_open f_acts r_act r_all) : Met l yX11_anyOf wsX11_anyOf (rmX11_anyOf_d (d + 1)) (va_Pc [.ref h] (fun U => U.heap.size = sz ∧ va_P (dC, dI) vwCl (vX11_anyOf cI cZ h h_all h_has h_line h_act h_pile h_comes h_leaves h_tried h_met f_lines f_size f_next f_where f_token f_number f_sign f_word f_wrong f_open f_acts r_act r_all) U.heap ∧ va_K (dC, dI) vwCl (tysA cI cZ cO cW) U ∧ va_D (fun _ => True) (vX11_anyOf cI cZ h h_all h_has h_line h_act h_pile h_comes h_leaves h_tried h_met f_lines f_size f_next f_where f_token f_number f_sign f_word f_wrong f_open f_acts r_act r_all))) (qX11_anyOf dC dI cI cZ cO cW h h_all h_has h_line h_act h_pile h_comes h_leaves h_tried h_met f_lines f_size Q (va_A (vX11_anyOf cI cZ h h_all h_has h_line h_act h_pile h_comes h_leaves h_tried h_met f_lines f_size f_next f_where f_token f_number f_sign f_word f_wrong f_open f_acts r_act r_all) sz)) 0 0 (va_A (vX11_anyOf cI cZ h h_all h_has h_line h_act h_pile h_comes h_leaves h_tried h_met f_lines f_size f_next f_where f_token f_number f_sign f_word f_wrong f_open f_acts r_act r_all) sz) := by
  refine Met.ofW (cc := cX11_anyOf) (maxL := 1) (ret := none) (by decide) rfl ?_
  intro p e s m args below meth c s₁ B hml hv
  obtain ⟨rfl, hsz, hP, hK, hD0⟩ := hv
  subst hsz
  have hC : Cx p s m ([.ref h] : List Value).toArray meth c cX11_anyOf none 1 wsX11_anyOf RX11 := ⟨B.exec, B.bytes, B.returns, hml, findClass_of_methodNamed B.named, atoms_spec (ws := wsX11_anyOf) B.pre, B.notSynchronized⟩
  have hD := hD0.self (sz := s.heap.size)
  generalize hAe : va_A (vX11_anyOf cI cZ h h_all h_has h_line h_act h_pile h_comes h_leaves h_tried h_met f_lines f_size f_next f_where f_token f_number f_sign f_word f_wrong f_open f_acts r_act r_all) s.heap.size = A at hD ⊢
  have hA : ∀ q : Nat, s.heap.size ≤ q → A q := fun q h => by rw [← hAe]; exact Or.inr h
  have hl := lv_entry ([.ref h]) (n := 1) (Nat.le_of_ble_eq_true rfl)
  rw [lg_entry_eq]
  generalize (lg_sl ([.ref h]) ++ List.replicate (1 - (lg_sl ([.ref h])).length) Slot.unset).toArray = ls at hl ⊢
  exact tX11_anyOf_e hC hK hA hRec  f_size f_next f_where f_token f_number f_sign f_word f_wrong f_open f_acts r_act r_all _ _ ls hw hP hD va_S.rf hl
def wX11_anyOf_d : Nat → (Int32 → Int32 → Int32 → Int32 → Int32 → Int32 → Int32 → Int32 → Int32 → (Nat → Int32) → (Nat → Int32) → Prop) → Int32 → Int32 → Int32 → Int32 → Int32 → Int32 → Int32 → Int32 → Int32 → Int32 → (Nat → Int32) → (Nat → Int32) → Prop
  | 0, _, _, _, _, _, _, _, _, _, _, _, _, _ => False
  | d + 1, Q, f_size, f_next, f_where, f_token, f_number, f_sign, f_word, f_wrong, f_open, f_acts, r_act, r_all => wX11_anyOf_b (wX11_anyOf_d d) Q  f_size f_next f_where f_token f_number f_sign f_word f_wrong f_open f_acts r_act r_all
def wX11_anyOf (Q : Int32 → Int32 → Int32 → Int32 → Int32 → Int32 → Int32 → Int32 → Int32 → (Nat → Int32) → (Nat → Int32) → Prop)  (f_size : Int32) (f_next : Int32) (f_where : Int32) (f_token : Int32) (f_number : Int32) (f_sign : Int32) (f_word : Int32) (f_wrong : Int32) (f_open : Int32) (f_acts : Int32) (r_act : Nat → Int32) (r_all : Nat → Int32) : Prop := wX11_anyOf_d 10 Q  f_size f_next f_where f_token f_number f_sign f_word f_wrong f_open f_acts r_act r_all
abbrev rmX11_anyOf : Room := rmX11_anyOf_d 10
set_option maxHeartbeats 4000000 in
set_option maxRecDepth 100000 in
theorem kX11_anyOf_d (l : Launch) (dC : Nat → ClassId) (dI : Nat → Nat → Nat) (cI cZ cO cW : ClassId) : ∀ d : Nat, ∀ (h h_all h_has h_line h_act h_pile h_comes h_leaves h_tried h_met : Nat) (sz : Nat) (f_lines : Int32) (f_size : Int32) (f_next : Int32) (f_where : Int32) (f_token : Int32) (f_number : Int32) (f_sign : Int32) (f_word : Int32) (f_wrong : Int32) (f_open : Int32) (f_acts : Int32) (r_act : Nat → Int32) (r_all : Nat → Int32)  (Q : Int32 → Int32 → Int32 → Int32 → Int32 → Int32 → Int32 → Int32 → Int32 → (Nat → Int32) → (Nat → Int32) → Prop), wX11_anyOf_d d Q  f_size f_next f_where f_token f_number f_sign f_word f_wrong f_open f_acts r_act r_all → Met l yX11_anyOf wsX11_anyOf (rmX11_anyOf_d d) (va_Pc [.ref h] (fun U => U.heap.size = sz ∧ va_P (dC, dI) vwCl (vX11_anyOf cI cZ h h_all h_has h_line h_act h_pile h_comes h_leaves h_tried h_met f_lines f_size f_next f_where f_token f_number f_sign f_word f_wrong f_open f_acts r_act r_all) U.heap ∧ va_K (dC, dI) vwCl (tysA cI cZ cO cW) U ∧ va_D (fun _ => True) (vX11_anyOf cI cZ h h_all h_has h_line h_act h_pile h_comes h_leaves h_tried h_met f_lines f_size f_next f_where f_token f_number f_sign f_word f_wrong f_open f_acts r_act r_all))) (qX11_anyOf dC dI cI cZ cO cW h h_all h_has h_line h_act h_pile h_comes h_leaves h_tried h_met f_lines f_size Q (va_A (vX11_anyOf cI cZ h h_all h_has h_line h_act h_pile h_comes h_leaves h_tried h_met f_lines f_size f_next f_where f_token f_number f_sign f_word f_wrong f_open f_acts r_act r_all) sz)) 0 0 (va_A (vX11_anyOf cI cZ h h_all h_has h_line h_act h_pile h_comes h_leaves h_tried h_met f_lines f_size f_next f_where f_token f_number f_sign f_word f_wrong f_open f_acts r_act r_all) sz) := by
  intro d
  induction d with
  | zero =>
    intros
    rename_i hw
    exact hw.elim
  | succ d ih =>
    intro h h_all h_has h_line h_act h_pile h_comes h_leaves h_tried h_met sz f_lines f_size f_next f_where f_token f_number f_sign f_word f_wrong f_open f_acts r_act r_all Q hw
    exact kX11_anyOf_b l dC dI cI cZ cO cW h h_all h_has h_line h_act h_pile h_comes h_leaves h_tried h_met sz f_lines f_size f_next f_where f_token f_number f_sign f_word f_wrong f_open f_acts r_act r_all  Q d (wX11_anyOf_d d) ih hw
theorem kX11_anyOf (l : Launch) (dC : Nat → ClassId) (dI : Nat → Nat → Nat) (cI cZ cO cW : ClassId) (h h_all h_has h_line h_act h_pile h_comes h_leaves h_tried h_met : Nat)  (sz : Nat) (f_lines : Int32) (f_size : Int32) (f_next : Int32) (f_where : Int32) (f_token : Int32) (f_number : Int32) (f_sign : Int32) (f_word : Int32) (f_wrong : Int32) (f_open : Int32) (f_acts : Int32) (r_act : Nat → Int32) (r_all : Nat → Int32)  (Q : Int32 → Int32 → Int32 → Int32 → Int32 → Int32 → Int32 → Int32 → Int32 → (Nat → Int32) → (Nat → Int32) → Prop) (hw : wX11_anyOf Q  f_size f_next f_where f_token f_number f_sign f_word f_wrong f_open f_acts r_act r_all) : Met l yX11_anyOf wsX11_anyOf rmX11_anyOf (va_Pc [.ref h] (fun U => U.heap.size = sz ∧ va_P (dC, dI) vwCl (vX11_anyOf cI cZ h h_all h_has h_line h_act h_pile h_comes h_leaves h_tried h_met f_lines f_size f_next f_where f_token f_number f_sign f_word f_wrong f_open f_acts r_act r_all) U.heap ∧ va_K (dC, dI) vwCl (tysA cI cZ cO cW) U ∧ va_D (fun _ => True) (vX11_anyOf cI cZ h h_all h_has h_line h_act h_pile h_comes h_leaves h_tried h_met f_lines f_size f_next f_where f_token f_number f_sign f_word f_wrong f_open f_acts r_act r_all))) (qX11_anyOf dC dI cI cZ cO cW h h_all h_has h_line h_act h_pile h_comes h_leaves h_tried h_met f_lines f_size Q (va_A (vX11_anyOf cI cZ h h_all h_has h_line h_act h_pile h_comes h_leaves h_tried h_met f_lines f_size f_next f_where f_token f_number f_sign f_word f_wrong f_open f_acts r_act r_all) sz)) 0 0 (va_A (vX11_anyOf cI cZ h h_all h_has h_line h_act h_pile h_comes h_leaves h_tried h_met f_lines f_size f_next f_where f_token f_number f_sign f_word f_wrong f_open f_acts r_act r_all) sz) := kX11_anyOf_d l dC dI cI cZ cO cW 10 h h_all h_has h_line h_act h_pile h_comes h_leaves h_tried h_met sz f_lines f_size f_next f_where f_token f_number f_sign f_word f_wrong f_open f_acts r_act r_all  Q hw

/-! X11_aLine -/
def wX11_aLine_122 (Q : Int32 → Int32 → Int32 → Int32 → Int32 → Int32 → Int32 → Int32 → Int32 → Int32 → (Nat → Int32) → (Nat → Int32) → (Nat → Int32) → Prop)   (f_size : Int32) (f_next : Int32) (f_where : Int32) (f_token : Int32) (f_number : Int32) (f_sign : Int32) (f_word : Int32) (f_wrong : Int32) (f_open : Int32) (f_lines : Int32) (f_acts : Int32) (r_act : (Nat → Int32)) (r_all : (Nat → Int32)) (r_line : (Nat → Int32)) : Prop :=
  (wX11_stops (fun f_wrong_1 r_all_2 => (Q f_next f_where f_token f_number f_sign f_word f_wrong_1 f_open f_lines f_acts r_act r_all_2 r_line)) f_where f_wrong r_all)
def wX11_aLine_231 (Q : Int32 → Int32 → Int32 → Int32 → Int32 → Int32 → Int32 → Int32 → Int32 → Int32 → (Nat → Int32) → (Nat → Int32) → (Nat → Int32) → Prop)   (f_size : Int32) (f_next : Int32) (f_where : Int32) (f_token : Int32) (f_number : Int32) (f_sign : Int32) (f_word : Int32) (f_wrong : Int32) (f_open : Int32) (f_lines : Int32) (f_acts : Int32) (r_act : (Nat → Int32)) (r_all : (Nat → Int32)) (r_line : (Nat → Int32)) : Prop :=
  (Q f_next f_where f_token f_number f_sign f_word f_wrong f_open (f_lines + (1 : Int32)) f_acts r_act r_all r_line)
def wX11_aLine_183 (Q : Int32 → Int32 → Int32 → Int32 → Int32 → Int32 → Int32 → Int32 → Int32 → Int32 → (Nat → Int32) → (Nat → Int32) → (Nat → Int32) → Prop)   (x4 : Int32) (x5 : Int32) (s1 : Int32) (s2 : Int32) (f_size : Int32) (f_next : Int32) (f_where : Int32) (f_token : Int32) (f_number : Int32) (f_sign : Int32) (f_word : Int32) (f_wrong : Int32) (f_open : Int32) (f_lines : Int32) (f_acts : Int32) (r_act : (Nat → Int32)) (r_all : (Nat → Int32)) (r_line : (Nat → Int32)) : Prop :=
  (vp_in s1 80 ∧ (vp_in (((4 : Int32) * f_lines) + (1 : Int32)) 80 ∧ (vp_in (((4 : Int32) * f_lines) + (2 : Int32)) 80 ∧ (vp_in (((4 : Int32) * f_lines) + (3 : Int32)) 80 ∧ (wX11_aLine_231 Q f_size f_next f_where f_token f_number f_sign f_word f_wrong f_open f_lines f_acts r_act r_all (upd (upd (upd (upd r_line s1.toNatClampNeg s2) (((4 : Int32) * f_lines) + (1 : Int32)).toNatClampNeg f_acts) (((4 : Int32) * f_lines) + (2 : Int32)).toNatClampNeg x4) (((4 : Int32) * f_lines) + (3 : Int32)).toNatClampNeg x5))))))
def wX11_aLine_152 (Q : Int32 → Int32 → Int32 → Int32 → Int32 → Int32 → Int32 → Int32 → Int32 → Int32 → (Nat → Int32) → (Nat → Int32) → (Nat → Int32) → Prop)   (x1 : Int32) (x2 : Int32) (x3 : Int32) (x4 : Int32) (s0 : Int32) (f_size : Int32) (f_next : Int32) (f_where : Int32) (f_token : Int32) (f_number : Int32) (f_sign : Int32) (f_word : Int32) (f_wrong : Int32) (f_open : Int32) (f_lines : Int32) (f_acts : Int32) (r_act : (Nat → Int32)) (r_all : (Nat → Int32)) (r_line : (Nat → Int32)) : Prop :=
  (wX11_must (fun f_next_7 f_where_8 f_token_9 f_number_10 f_sign_11 f_word_12 f_wrong_13 r_all_14 => ((¬ x1 = 0 → (wX11_aLine_231 Q f_size f_next_7 f_where_8 f_token_9 f_number_10 f_sign_11 f_word_12 f_wrong_13 f_open f_lines f_acts r_act r_all_14 r_line)) ∧ (x1 = 0 → ((x3 = 0 → (wX11_aLine_183 Q x4 s0 ((4 : Int32) * f_lines) (-1 : Int32) f_size f_next_7 f_where_8 f_token_9 f_number_10 f_sign_11 f_word_12 f_wrong_13 f_open f_lines f_acts r_act r_all_14 r_line)) ∧ (¬ x3 = 0 → (wX11_aLine_183 Q x4 s0 ((4 : Int32) * f_lines) x2 f_size f_next_7 f_where_8 f_token_9 f_number_10 f_sign_11 f_word_12 f_wrong_13 f_open f_lines f_acts r_act r_all_14 r_line)))))) (59 : Int32) f_size f_next f_where f_token f_number f_sign f_word f_wrong r_all)
def wX11_aLine_127 (Q : Int32 → Int32 → Int32 → Int32 → Int32 → Int32 → Int32 → Int32 → Int32 → Int32 → (Nat → Int32) → (Nat → Int32) → (Nat → Int32) → Prop)   (x1 : Int32) (x2 : Int32) (x3 : Int32) (f_size : Int32) (f_next : Int32) (f_where : Int32) (f_token : Int32) (f_number : Int32) (f_sign : Int32) (f_word : Int32) (f_wrong : Int32) (f_open : Int32) (f_lines : Int32) (f_acts : Int32) (r_act : (Nat → Int32)) (r_all : (Nat → Int32)) (r_line : (Nat → Int32)) : Prop :=
  (wX11_advance (fun f_next_17 f_where_18 f_token_19 f_number_20 f_sign_21 f_word_22 => ((¬ f_word = (26 : Int32) → (wX11_aLine_152 Q x1 x2 x3 f_word (0 : Int32) f_size f_next_17 f_where_18 f_token_19 f_number_20 f_sign_21 f_word_22 f_wrong f_open f_lines f_acts r_act r_all r_line)) ∧ (f_word = (26 : Int32) → (wX11_numbered (fun r_32 f_next_24 f_where_25 f_token_26 f_number_27 f_sign_28 f_word_29 f_wrong_30 r_all_31 => (wX11_aLine_152 Q x1 x2 x3 f_word r_32 f_size f_next_24 f_where_25 f_token_26 f_number_27 f_sign_28 f_word_29 f_wrong_30 f_open f_lines f_acts r_act r_all_31 r_line)) f_size f_next_17 f_where_18 f_token_19 f_number_20 f_sign_21 f_word_22 f_wrong r_all)))) f_size f_next f_where f_token f_number f_sign f_word r_all)
def wX11_aLine_79 (Q : Int32 → Int32 → Int32 → Int32 → Int32 → Int32 → Int32 → Int32 → Int32 → Int32 → (Nat → Int32) → (Nat → Int32) → (Nat → Int32) → Prop)   (x1 : Int32) (x2 : Int32) (x3 : Int32) (f_size : Int32) (f_next : Int32) (f_where : Int32) (f_token : Int32) (f_number : Int32) (f_sign : Int32) (f_word : Int32) (f_wrong : Int32) (f_open : Int32) (f_lines : Int32) (f_acts : Int32) (r_act : (Nat → Int32)) (r_all : (Nat → Int32)) (r_line : (Nat → Int32)) : Prop :=
  ((¬ f_wrong = 0 → (wX11_aLine_122 Q f_size f_next f_where f_token f_number f_sign f_word f_wrong f_open f_lines f_acts r_act r_all r_line)) ∧ (f_wrong = 0 → ((¬ f_token = (3 : Int32) → (wX11_aLine_122 Q f_size f_next f_where f_token f_number f_sign f_word f_wrong f_open f_lines f_acts r_act r_all r_line)) ∧ (f_token = (3 : Int32) → (wX11_isIn (fun r_35 => ((¬ r_35 = 0 → (wX11_aLine_127 Q x1 x2 x3 f_size f_next f_where f_token f_number f_sign f_word f_wrong f_open f_lines f_acts r_act r_all r_line)) ∧ (r_35 = 0 → (wX11_isIn (fun r_37 => ((¬ r_37 = 0 → (wX11_aLine_127 Q x1 x2 x3 f_size f_next f_where f_token f_number f_sign f_word f_wrong f_open f_lines f_acts r_act r_all r_line)) ∧ (r_37 = 0 → (wX11_aLine_122 Q f_size f_next f_where f_token f_number f_sign f_word f_wrong f_open f_lines f_acts r_act r_all r_line)))) f_word (24 : Int32) (26 : Int32))))) f_word (8 : Int32) (11 : Int32))))))
def wX11_aLine_48 (Q : Int32 → Int32 → Int32 → Int32 → Int32 → Int32 → Int32 → Int32 → Int32 → Int32 → (Nat → Int32) → (Nat → Int32) → (Nat → Int32) → Prop)   (x1 : Int32) (f_size : Int32) (f_next : Int32) (f_where : Int32) (f_token : Int32) (f_number : Int32) (f_sign : Int32) (f_word : Int32) (f_wrong : Int32) (f_open : Int32) (f_lines : Int32) (f_acts : Int32) (r_act : (Nat → Int32)) (r_all : (Nat → Int32)) (r_line : (Nat → Int32)) : Prop :=
  (wX11_takesWord (fun r_45 f_next_39 f_where_40 f_token_41 f_number_42 f_sign_43 f_word_44 => ((r_45 = 0 → (wX11_aLine_79 Q x1 f_acts r_45 f_size f_next_39 f_where_40 f_token_41 f_number_42 f_sign_43 f_word_44 f_wrong f_open f_lines f_acts r_act r_all r_line)) ∧ (¬ r_45 = 0 → (wX11_anyOf (fun f_next_47 f_where_48 f_token_49 f_number_50 f_sign_51 f_word_52 f_wrong_53 f_open_54 f_acts_55 r_act_56 r_all_57 => (wX11_must (fun f_next_58 f_where_59 f_token_60 f_number_61 f_sign_62 f_word_63 f_wrong_64 r_all_65 => (wX11_aLine_79 Q x1 f_acts r_45 f_size f_next_58 f_where_59 f_token_60 f_number_61 f_sign_62 f_word_63 f_wrong_64 f_open_54 f_lines f_acts_55 r_act_56 r_all_65 r_line)) (58 : Int32) f_size f_next_47 f_where_48 f_token_49 f_number_50 f_sign_51 f_word_52 f_wrong_53 r_all_57)) f_size f_next_39 f_where_40 f_token_41 f_number_42 f_sign_43 f_word_44 f_wrong (0 : Int32) f_acts r_act r_all)))) (30 : Int32) f_size f_next f_where f_token f_number f_sign f_word f_wrong r_all)
def wX11_aLine_14 (Q : Int32 → Int32 → Int32 → Int32 → Int32 → Int32 → Int32 → Int32 → Int32 → Int32 → (Nat → Int32) → (Nat → Int32) → (Nat → Int32) → Prop)   (s0 : Int32) (f_size : Int32) (f_next : Int32) (f_where : Int32) (f_token : Int32) (f_number : Int32) (f_sign : Int32) (f_word : Int32) (f_wrong : Int32) (f_open : Int32) (f_lines : Int32) (f_acts : Int32) (r_act : (Nat → Int32)) (r_all : (Nat → Int32)) (r_line : (Nat → Int32)) : Prop :=
  ((s0 = 0 → (wX11_aLine_48 Q s0 f_size f_next f_where f_token f_number f_sign f_word f_wrong f_open f_lines f_acts r_act r_all r_line)) ∧ (¬ s0 = 0 → (vp_in (10 : Int32) 53700 ∧ ((¬ (r_all (10 : Int32).toNatClampNeg) = 0 → (wX11_aLine_48 Q s0 f_size f_next f_where f_token f_number f_sign f_word f_wrong f_open f_lines f_acts r_act r_all r_line)) ∧ ((r_all (10 : Int32).toNatClampNeg) = 0 → (vp_in (10 : Int32) 53700 ∧ (vp_in (11 : Int32) 53700 ∧ (wX11_aLine_48 Q s0 f_size f_next f_where f_token f_number f_sign f_word f_wrong f_open f_lines f_acts r_act (upd (upd r_all (10 : Int32).toNatClampNeg (2 : Int32)) (11 : Int32).toNatClampNeg f_where) r_line))))))))
def wX11_aLine (Q : Int32 → Int32 → Int32 → Int32 → Int32 → Int32 → Int32 → Int32 → Int32 → Int32 → (Nat → Int32) → (Nat → Int32) → (Nat → Int32) → Prop)  (f_size : Int32) (f_next : Int32) (f_where : Int32) (f_token : Int32) (f_number : Int32) (f_sign : Int32) (f_word : Int32) (f_wrong : Int32) (f_open : Int32) (f_lines : Int32) (f_acts : Int32) (r_act : Nat → Int32) (r_all : Nat → Int32) (r_line : Nat → Int32) : Prop :=
  ((f_lines < (20 : Int32) → (wX11_aLine_14 Q (0 : Int32) f_size f_next f_where f_token f_number f_sign f_word f_wrong f_open f_lines f_acts r_act r_all r_line)) ∧ (¬ f_lines < (20 : Int32) → (wX11_aLine_14 Q (1 : Int32) f_size f_next f_where f_token f_number f_sign f_word f_wrong f_open f_lines f_acts r_act r_all r_line)))
abbrev vX11_aLine (cI cZ : ClassId) (h h_all h_has h_line h_act h_pile h_comes h_leaves h_tried h_met : Nat) (f_size : Int32) (f_next : Int32) (f_where : Int32) (f_token : Int32) (f_number : Int32) (f_sign : Int32) (f_word : Int32) (f_wrong : Int32) (f_open : Int32) (f_lines : Int32) (f_acts : Int32) (r_act : Nat → Int32) (r_all : Nat → Int32) (r_line : Nat → Int32) : va_W := [(h, .inr (10, [.ref h_all, .ref h_has, .int f_size, .int f_next, .int f_where, .int f_token, .int f_number, .int f_sign, .int f_word, .int f_wrong, .int f_open, .int f_lines, .int f_acts, .ref h_line, .ref h_act, .ref h_pile, .ref h_comes, .ref h_leaves, .ref h_tried, .ref h_met])), (h_act, .inl (cI, 780, .inl r_act)), (h_all, .inl (cI, 53700, .inl r_all)), (h_line, .inl (cI, 80, .inl r_line))]
abbrev rmX11_aLine : Room := { frames := 46, cells := 0, slots := 0, locals := 959 }
abbrev qX11_aLine (dC : Nat → ClassId) (dI : Nat → Nat → Nat) (cI cZ cO cW : ClassId) (h h_all h_has h_line h_act h_pile h_comes h_leaves h_tried h_met : Nat) (f_size : Int32) (Q : Int32 → Int32 → Int32 → Int32 → Int32 → Int32 → Int32 → Int32 → Int32 → Int32 → (Nat → Int32) → (Nat → Int32) → (Nat → Int32) → Prop) (A : Nat → Prop) : Array Value → State → Outcome → State → Prop := va_Qv (fun (u : Int32 × Int32 × Int32 × Int32 × Int32 × Int32 × Int32 × Int32 × Int32 × Int32 × (Nat → Int32) × (Nat → Int32) × (Nat → Int32)) => Q u.1 u.2.1 u.2.2.1 u.2.2.2.1 u.2.2.2.2.1 u.2.2.2.2.2.1 u.2.2.2.2.2.2.1 u.2.2.2.2.2.2.2.1 u.2.2.2.2.2.2.2.2.1 u.2.2.2.2.2.2.2.2.2.1 u.2.2.2.2.2.2.2.2.2.2.1 u.2.2.2.2.2.2.2.2.2.2.2.1 u.2.2.2.2.2.2.2.2.2.2.2.2) (fun (u : Int32 × Int32 × Int32 × Int32 × Int32 × Int32 × Int32 × Int32 × Int32 × Int32 × (Nat → Int32) × (Nat → Int32) × (Nat → Int32)) (t : State) => va_P (dC, dI) vwCl (vX11_aLine cI cZ h h_all h_has h_line h_act h_pile h_comes h_leaves h_tried h_met f_size u.1 u.2.1 u.2.2.1 u.2.2.2.1 u.2.2.2.2.1 u.2.2.2.2.2.1 u.2.2.2.2.2.2.1 u.2.2.2.2.2.2.2.1 u.2.2.2.2.2.2.2.2.1 u.2.2.2.2.2.2.2.2.2.1 u.2.2.2.2.2.2.2.2.2.2.1 u.2.2.2.2.2.2.2.2.2.2.2.1 u.2.2.2.2.2.2.2.2.2.2.2.2) t.heap ∧ va_K (dC, dI) vwCl (tysA cI cZ cO cW) t ∧ va_D A (vX11_aLine cI cZ h h_all h_has h_line h_act h_pile h_comes h_leaves h_tried h_met f_size u.1 u.2.1 u.2.2.1 u.2.2.2.1 u.2.2.2.2.1 u.2.2.2.2.2.1 u.2.2.2.2.2.2.1 u.2.2.2.2.2.2.2.1 u.2.2.2.2.2.2.2.2.1 u.2.2.2.2.2.2.2.2.2.1 u.2.2.2.2.2.2.2.2.2.2.1 u.2.2.2.2.2.2.2.2.2.2.2.1 u.2.2.2.2.2.2.2.2.2.2.2.2)) A
theorem mX11_aLine_0 : Cond.fieldLink RX11 187 "IcePilotsModel" "lines" "I" ∈ wsX11_aLine := by decide +kernel
theorem mX11_aLine_1 : Cond.fieldLink RX11 18 "IcePilotsModel" "line" "[I" ∈ wsX11_aLine := by decide +kernel
theorem mX11_aLine_2 : Cond.fieldLink RX11 155 "IcePilotsModel" "acts" "I" ∈ wsX11_aLine := by decide +kernel
theorem mX11_aLine_3 : Cond.fieldLink RX11 124 "IcePilotsModel" "word" "I" ∈ wsX11_aLine := by decide +kernel
theorem mX11_aLine_4 : Cond.fieldLink RX11 139 "IcePilotsModel" "wrong" "Z" ∈ wsX11_aLine := by decide +kernel
theorem mX11_aLine_5 : Cond.fieldLink RX11 113 "IcePilotsModel" "token" "I" ∈ wsX11_aLine := by decide +kernel
theorem mX11_aLine_6 : Cond.fieldLink RX11 158 "IcePilotsModel" "open" "I" ∈ wsX11_aLine := by decide +kernel
theorem mX11_aLine_7 : Cond.fieldLink RX11 8 "IcePilotsModel" "all" "[I" ∈ wsX11_aLine := by decide +kernel
theorem mX11_aLine_8 : Cond.fieldLink RX11 110 "IcePilotsModel" "where" "I" ∈ wsX11_aLine := by decide +kernel
theorem uX11_aLine_X11 : ∀ w ∈ u_ws RX11 TX11 20, w ∈ wsX11_aLine := by decide +kernel
set_option maxHeartbeats 4000000 in
set_option maxRecDepth 100000 in
theorem tX11_aLine_122 {p : Program} {l : Launch} {e : Env} {s : State} {m : MethodId} {args : Array Value} {below : List Frame} {meth : Method} {c : Code} {dC : Nat → ClassId} {dI : Nat → Nat → Nat} {cI cZ cO cW : ClassId} {A : Nat → Prop} {h h_all h_has h_line h_act h_pile h_comes h_leaves h_tried h_met : Nat} {Q : Int32 → Int32 → Int32 → Int32 → Int32 → Int32 → Int32 → Int32 → Int32 → Int32 → (Nat → Int32) → (Nat → Int32) → (Nat → Int32) → Prop}  (hC : Cx p s m args meth c cX11_aLine none 6 wsX11_aLine RX11) (hK : va_K (dC, dI) vwCl (tysA cI cZ cO cW) s) (hA : ∀ q : Nat, s.heap.size ≤ q → A q) :
    ∀ (f_size : Int32) (f_next : Int32) (f_where : Int32) (f_token : Int32) (f_number : Int32) (f_sign : Int32) (f_word : Int32) (f_wrong : Int32) (f_open : Int32) (f_lines : Int32) (f_acts : Int32) (r_act : (Nat → Int32)) (r_all : (Nat → Int32)) (r_line : (Nat → Int32)) (H : Heap) (locs : List Loc) (ls : Array Slot), wX11_aLine_122 Q  f_size f_next f_where f_token f_number f_sign f_word f_wrong f_open f_lines f_acts r_act r_all r_line → va_P (dC, dI) vwCl (vX11_aLine cI cZ h h_all h_has h_line h_act h_pile h_comes h_leaves h_tried h_met f_size f_next f_where f_token f_number f_sign f_word f_wrong f_open f_lines f_acts r_act r_all r_line) H → va_D A (vX11_aLine cI cZ h h_all h_has h_line h_act h_pile h_comes h_leaves h_tried h_met f_size f_next f_where f_token f_number f_sign f_word f_wrong f_open f_lines f_acts r_act r_all r_line) → va_S A s.heap H locs → lv_has ls 6 [(0, .ref h)] → W p l e rmX11_aLine s m args below meth c H locs 0 0 (MQ below (qX11_aLine dC dI cI cZ cO cW h h_all h_has h_line h_act h_pile h_comes h_leaves h_tried h_met f_size Q A) args s 0 0 A) (F0 m 122 ls []) := by
  obtain ⟨hx, hb, hr, hml, hown, hts, hlocks⟩ := id hC
  intro f_size f_next f_where f_token f_number f_sign f_word f_wrong f_open f_lines f_acts r_act r_all r_line H locs ls hw hP hD hS hl
  refine lv_aload_n hx hb dX11_aLine_122 rfl (lv_at hl 0 rfl) ?_
  have hPc := hP.sub (ws' := [(h, .inr (10, [.ref h_all, .ref h_has, .int f_size, .int f_next, .int f_where, .int f_token, .int f_number, .int f_sign, .int f_word, .int f_wrong, .int f_open, .int f_lines, .int f_acts, .ref h_line, .ref h_act, .ref h_pile, .ref h_comes, .ref h_leaves, .ref h_tried, .ref h_met])), (h_all, .inl (cI, 53700, .inl r_all))]) [0, 2] rfl
  have hDc := hD.sub (ws' := [(h, .inr (10, [.ref h_all, .ref h_has, .int f_size, .int f_next, .int f_where, .int f_token, .int f_number, .int f_sign, .int f_word, .int f_wrong, .int f_open, .int f_lines, .int f_acts, .ref h_line, .ref h_act, .ref h_pile, .ref h_comes, .ref h_leaves, .ref h_tried, .ref h_met])), (h_all, .inl (cI, 53700, .inl r_all))]) [0, 2] (by decide) rfl
  have hFc := va_free (wc := [(h, .inr (10, [.ref h_all, .ref h_has, .int f_size, .int f_next, .int f_where, .int f_token, .int f_number, .int f_sign, .int f_word, .int f_wrong, .int f_open, .int f_lines, .int f_acts, .ref h_line, .ref h_act, .ref h_pile, .ref h_comes, .ref h_leaves, .ref h_tried, .ref h_met])), (h_all, .inl (cI, 53700, .inl r_all))]) hD hS hA [0, 2] rfl
  refine va_callv (va_runV (As := []) (rest := []) ⟨hx, hb, hml, hown, hts⟩ (kX11_stops l dC dI cI cZ cO cW h h_all h_has h_line h_act h_pile h_comes h_leaves h_tried h_met H.size f_size f_next f_token f_number f_sign f_word f_open f_lines f_acts f_where f_wrong r_all _ hw) (cwV 0 hts gX11_aLine_X11_stops rfl rfl rfl (by decide +kernel) ⟨Nat.le_of_ble_eq_true rfl, Nat.le_of_ble_eq_true rfl⟩) (pv_of hPc hK hDc (va_recv hK hPc (ci := 10) (q0 := 0) rfl rfl)) rfl rfl hl.1 rfl (lv_room (Nat.le_of_ble_eq_true rfl)) dX11_aLine_123 ⟨Nat.zero_le _, Nat.zero_le _⟩) hS (fun q _ h => hFc q h) hFc (fun u t H locs ht hvm hw hB hz1 hk1 hS => ?_)
  obtain ⟨f_wrong_1, r_all_2⟩ := u
  obtain ⟨hP, hD⟩ := af_join (wr := [(h_act, .inl (cI, 780, .inl r_act)), (h_line, .inl (cI, 80, .inl r_line))]) (w1 := [(h, .inr (10, [.ref h_all, .ref h_has, .int f_size, .int f_next, .int f_where, .int f_token, .int f_number, .int f_sign, .int f_word, .int f_wrong_1, .int f_open, .int f_lines, .int f_acts, .ref h_line, .ref h_act, .ref h_pile, .ref h_comes, .ref h_leaves, .ref h_tried, .ref h_met])), (h_all, .inl (cI, 53700, .inl r_all_2))]) hB ht hP hD [0, 2] [1, 3] rfl rfl (by decide) (by decide) hk1 hFc
  have hP : va_P (dC, dI) vwCl [(h_act, .inl (cI, 780, .inl r_act)), (h_line, .inl (cI, 80, .inl r_line)), (h, .inr (10, [.ref h_all, .ref h_has, .int f_size, .int f_next, .int f_where, .int f_token, .int f_number, .int f_sign, .int f_word, .int f_wrong_1, .int f_open, .int f_lines, .int f_acts, .ref h_line, .ref h_act, .ref h_pile, .ref h_comes, .ref h_leaves, .ref h_tried, .ref h_met])), (h_all, .inl (cI, 53700, .inl r_all_2))] _ := hP
  have hD : va_D A [(h_act, .inl (cI, 780, .inl r_act)), (h_line, .inl (cI, 80, .inl r_line)), (h, .inr (10, [.ref h_all, .ref h_has, .int f_size, .int f_next, .int f_where, .int f_token, .int f_number, .int f_sign, .int f_word, .int f_wrong_1, .int f_open, .int f_lines, .int f_acts, .ref h_line, .ref h_act, .ref h_pile, .ref h_comes, .ref h_leaves, .ref h_tried, .ref h_met])), (h_all, .inl (cI, 53700, .inl r_all_2))] := hD
  have hP9 := hP.sub (ws' := (vX11_aLine cI cZ h h_all h_has h_line h_act h_pile h_comes h_leaves h_tried h_met f_size f_next f_where f_token f_number f_sign f_word f_wrong_1 f_open f_lines f_acts r_act r_all_2 r_line)) [2, 0, 3, 1] rfl
  have hD9 := hD.sub (ws' := (vX11_aLine cI cZ h h_all h_has h_line h_act h_pile h_comes h_leaves h_tried h_met f_size f_next f_where f_token f_number f_sign f_word f_wrong_1 f_open f_lines f_acts r_act r_all_2 r_line)) [2, 0, 3, 1] (by decide) rfl
  exact W.vret hx hb hr (fun t ht hW => ⟨⟨(f_next, f_where, f_token, f_number, f_sign, f_word, f_wrong_1, f_open, f_lines, f_acts, r_act, r_all_2, r_line), rfl, hw, by rw [ht]; exact hP9, va_K.moved hW.alike hK, hD9⟩, hS.F ht⟩) hS.2.2 dX11_aLine_126
set_option maxHeartbeats 4000000 in
set_option maxRecDepth 100000 in
theorem tX11_aLine_231 {p : Program} {l : Launch} {e : Env} {s : State} {m : MethodId} {args : Array Value} {below : List Frame} {meth : Method} {c : Code} {dC : Nat → ClassId} {dI : Nat → Nat → Nat} {cI cZ cO cW : ClassId} {A : Nat → Prop} {h h_all h_has h_line h_act h_pile h_comes h_leaves h_tried h_met : Nat} {Q : Int32 → Int32 → Int32 → Int32 → Int32 → Int32 → Int32 → Int32 → Int32 → Int32 → (Nat → Int32) → (Nat → Int32) → (Nat → Int32) → Prop}  (hC : Cx p s m args meth c cX11_aLine none 6 wsX11_aLine RX11) (hK : va_K (dC, dI) vwCl (tysA cI cZ cO cW) s) (hA : ∀ q : Nat, s.heap.size ≤ q → A q) :
    ∀ (f_size : Int32) (f_next : Int32) (f_where : Int32) (f_token : Int32) (f_number : Int32) (f_sign : Int32) (f_word : Int32) (f_wrong : Int32) (f_open : Int32) (f_lines : Int32) (f_acts : Int32) (r_act : (Nat → Int32)) (r_all : (Nat → Int32)) (r_line : (Nat → Int32)) (H : Heap) (locs : List Loc) (ls : Array Slot), wX11_aLine_231 Q  f_size f_next f_where f_token f_number f_sign f_word f_wrong f_open f_lines f_acts r_act r_all r_line → va_P (dC, dI) vwCl (vX11_aLine cI cZ h h_all h_has h_line h_act h_pile h_comes h_leaves h_tried h_met f_size f_next f_where f_token f_number f_sign f_word f_wrong f_open f_lines f_acts r_act r_all r_line) H → va_D A (vX11_aLine cI cZ h h_all h_has h_line h_act h_pile h_comes h_leaves h_tried h_met f_size f_next f_where f_token f_number f_sign f_word f_wrong f_open f_lines f_acts r_act r_all r_line) → va_S A s.heap H locs → lv_has ls 6 [(0, .ref h)] → W p l e rmX11_aLine s m args below meth c H locs 0 0 (MQ below (qX11_aLine dC dI cI cZ cO cW h h_all h_has h_line h_act h_pile h_comes h_leaves h_tried h_met f_size Q A) args s 0 0 A) (F0 m 231 ls []) := by
  obtain ⟨hx, hb, hr, hml, hown, hts, hlocks⟩ := id hC
  intro f_size f_next f_where f_token f_number f_sign f_word f_wrong f_open f_lines f_acts r_act r_all r_line H locs ls hw hP hD hS hl
  refine lv_aload_n hx hb dX11_aLine_231 rfl (lv_at hl 0 rfl) ?_
  refine lv_dup hx hb dX11_aLine_232 rfl ?_
  refine va_get (D := (dC, dI)) (ci := 10) (v := .int f_lines) (C := RX11) (T := TX11) (N := 20) hx hb hts uX11_aLine_X11 hown hK hP 0 rfl rfl 11 (by decide) (hts _ mX11_aLine_0) (fun _ h9 => h9) rfl dX11_aLine_233 ?_
  refine lv_iconst (v := (1 : Int32)) hx hb dX11_aLine_236 (by decide) ?_
  refine lv_iadd hx hb dX11_aLine_237 ?_
  refine va_put (D := (dC, dI)) (ci := 10) (v := .int (f_lines + (1 : Int32))) (ty := .int) (C := RX11) (T := TX11) (N := 20) hx hb hts uX11_aLine_X11 tyX11 tyX11_ok nmX11 hown hK hP hD hS 0 rfl rfl 11 (by decide) (hts _ mX11_aLine_0) (fun _ h9 => h9) rfl (tyX11_ok 11 (by decide)) rfl rfl (Nat.le_of_ble_eq_true rfl) dX11_aLine_238 (fun H locs hP hD hS => ?_)
  have hP : va_P (dC, dI) vwCl [(h, .inr (10, [.ref h_all, .ref h_has, .int f_size, .int f_next, .int f_where, .int f_token, .int f_number, .int f_sign, .int f_word, .int f_wrong, .int f_open, .int (f_lines + (1 : Int32)), .int f_acts, .ref h_line, .ref h_act, .ref h_pile, .ref h_comes, .ref h_leaves, .ref h_tried, .ref h_met])), (h_act, .inl (cI, 780, .inl r_act)), (h_all, .inl (cI, 53700, .inl r_all)), (h_line, .inl (cI, 80, .inl r_line))] _ := hP
  have hD : va_D A [(h, .inr (10, [.ref h_all, .ref h_has, .int f_size, .int f_next, .int f_where, .int f_token, .int f_number, .int f_sign, .int f_word, .int f_wrong, .int f_open, .int (f_lines + (1 : Int32)), .int f_acts, .ref h_line, .ref h_act, .ref h_pile, .ref h_comes, .ref h_leaves, .ref h_tried, .ref h_met])), (h_act, .inl (cI, 780, .inl r_act)), (h_all, .inl (cI, 53700, .inl r_all)), (h_line, .inl (cI, 80, .inl r_line))] := hD
  have hP9 := hP.sub (ws' := (vX11_aLine cI cZ h h_all h_has h_line h_act h_pile h_comes h_leaves h_tried h_met f_size f_next f_where f_token f_number f_sign f_word f_wrong f_open (f_lines + (1 : Int32)) f_acts r_act r_all r_line)) [0, 1, 2, 3] rfl
  have hD9 := hD.sub (ws' := (vX11_aLine cI cZ h h_all h_has h_line h_act h_pile h_comes h_leaves h_tried h_met f_size f_next f_where f_token f_number f_sign f_word f_wrong f_open (f_lines + (1 : Int32)) f_acts r_act r_all r_line)) [0, 1, 2, 3] (by decide) rfl
  exact W.vret hx hb hr (fun t ht hW => ⟨⟨(f_next, f_where, f_token, f_number, f_sign, f_word, f_wrong, f_open, (f_lines + (1 : Int32)), f_acts, r_act, r_all, r_line), rfl, hw, by rw [ht]; exact hP9, va_K.moved hW.alike hK, hD9⟩, hS.F ht⟩) hS.2.2 dX11_aLine_241
set_option maxHeartbeats 4000000 in
set_option maxRecDepth 100000 in
theorem tX11_aLine_183 {p : Program} {l : Launch} {e : Env} {s : State} {m : MethodId} {args : Array Value} {below : List Frame} {meth : Method} {c : Code} {dC : Nat → ClassId} {dI : Nat → Nat → Nat} {cI cZ cO cW : ClassId} {A : Nat → Prop} {h h_all h_has h_line h_act h_pile h_comes h_leaves h_tried h_met : Nat} {Q : Int32 → Int32 → Int32 → Int32 → Int32 → Int32 → Int32 → Int32 → Int32 → Int32 → (Nat → Int32) → (Nat → Int32) → (Nat → Int32) → Prop}  (hC : Cx p s m args meth c cX11_aLine none 6 wsX11_aLine RX11) (hK : va_K (dC, dI) vwCl (tysA cI cZ cO cW) s) (hA : ∀ q : Nat, s.heap.size ≤ q → A q) :
    ∀ (x4 : Int32) (x5 : Int32) (s1 : Int32) (s2 : Int32) (f_size : Int32) (f_next : Int32) (f_where : Int32) (f_token : Int32) (f_number : Int32) (f_sign : Int32) (f_word : Int32) (f_wrong : Int32) (f_open : Int32) (f_lines : Int32) (f_acts : Int32) (r_act : (Nat → Int32)) (r_all : (Nat → Int32)) (r_line : (Nat → Int32)) (H : Heap) (locs : List Loc) (ls : Array Slot), wX11_aLine_183 Q  x4 x5 s1 s2 f_size f_next f_where f_token f_number f_sign f_word f_wrong f_open f_lines f_acts r_act r_all r_line → va_P (dC, dI) vwCl (vX11_aLine cI cZ h h_all h_has h_line h_act h_pile h_comes h_leaves h_tried h_met f_size f_next f_where f_token f_number f_sign f_word f_wrong f_open f_lines f_acts r_act r_all r_line) H → va_D A (vX11_aLine cI cZ h h_all h_has h_line h_act h_pile h_comes h_leaves h_tried h_met f_size f_next f_where f_token f_number f_sign f_word f_wrong f_open f_lines f_acts r_act r_all r_line) → va_S A s.heap H locs → lv_has ls 6 [(0, .ref h), (4, .int x4), (5, .int x5)] → W p l e rmX11_aLine s m args below meth c H locs 0 0 (MQ below (qX11_aLine dC dI cI cZ cO cW h h_all h_has h_line h_act h_pile h_comes h_leaves h_tried h_met f_size Q A) args s 0 0 A) (F0 m 183 ls [.int s2, .int s1, .ref h_line]) := by
  obtain ⟨hx, hb, hr, hml, hown, hts, hlocks⟩ := id hC
  intro x4 x5 s1 s2 f_size f_next f_where f_token f_number f_sign f_word f_wrong f_open f_lines f_acts r_act r_all r_line H locs ls hw hP hD hS hl
  obtain ⟨h_3, hw⟩ := hw
  refine va_iast hx hb hK hP hD hS 3 0 rfl rfl h_3 dX11_aLine_183 (fun H locs hP hD hS => ?_)
  have hP : va_P (dC, dI) vwCl [(h, .inr (10, [.ref h_all, .ref h_has, .int f_size, .int f_next, .int f_where, .int f_token, .int f_number, .int f_sign, .int f_word, .int f_wrong, .int f_open, .int f_lines, .int f_acts, .ref h_line, .ref h_act, .ref h_pile, .ref h_comes, .ref h_leaves, .ref h_tried, .ref h_met])), (h_act, .inl (cI, 780, .inl r_act)), (h_all, .inl (cI, 53700, .inl r_all)), (h_line, .inl (cI, 80, .inl (upd r_line s1.toNatClampNeg s2)))] _ := hP
  have hD : va_D A [(h, .inr (10, [.ref h_all, .ref h_has, .int f_size, .int f_next, .int f_where, .int f_token, .int f_number, .int f_sign, .int f_word, .int f_wrong, .int f_open, .int f_lines, .int f_acts, .ref h_line, .ref h_act, .ref h_pile, .ref h_comes, .ref h_leaves, .ref h_tried, .ref h_met])), (h_act, .inl (cI, 780, .inl r_act)), (h_all, .inl (cI, 53700, .inl r_all)), (h_line, .inl (cI, 80, .inl (upd r_line s1.toNatClampNeg s2)))] := hD
  refine lv_aload_n hx hb dX11_aLine_184 rfl (lv_at hl 0 rfl) ?_
  refine va_get (D := (dC, dI)) (ci := 10) (v := .ref h_line) (C := RX11) (T := TX11) (N := 20) hx hb hts uX11_aLine_X11 hown hK hP 0 rfl rfl 13 (by decide) (hts _ mX11_aLine_1) (fun _ h9 => h9) rfl dX11_aLine_185 ?_
  refine lv_iconst (v := (4 : Int32)) hx hb dX11_aLine_188 (by decide) ?_
  refine lv_aload_n hx hb dX11_aLine_189 rfl (lv_at hl 0 rfl) ?_
  refine va_get (D := (dC, dI)) (ci := 10) (v := .int f_lines) (C := RX11) (T := TX11) (N := 20) hx hb hts uX11_aLine_X11 hown hK hP 0 rfl rfl 11 (by decide) (hts _ mX11_aLine_0) (fun _ h9 => h9) rfl dX11_aLine_190 ?_
  refine lv_imul hx hb dX11_aLine_193 ?_
  refine lv_iconst (v := (1 : Int32)) hx hb dX11_aLine_194 (by decide) ?_
  refine lv_iadd hx hb dX11_aLine_195 ?_
  refine lv_aload_n hx hb dX11_aLine_196 rfl (lv_at hl 0 rfl) ?_
  refine va_get (D := (dC, dI)) (ci := 10) (v := .int f_acts) (C := RX11) (T := TX11) (N := 20) hx hb hts uX11_aLine_X11 hown hK hP 0 rfl rfl 12 (by decide) (hts _ mX11_aLine_2) (fun _ h9 => h9) rfl dX11_aLine_197 ?_
  obtain ⟨h_4, hw⟩ := hw
  refine va_iast hx hb hK hP hD hS 3 0 rfl rfl h_4 dX11_aLine_200 (fun H locs hP hD hS => ?_)
  have hP : va_P (dC, dI) vwCl [(h, .inr (10, [.ref h_all, .ref h_has, .int f_size, .int f_next, .int f_where, .int f_token, .int f_number, .int f_sign, .int f_word, .int f_wrong, .int f_open, .int f_lines, .int f_acts, .ref h_line, .ref h_act, .ref h_pile, .ref h_comes, .ref h_leaves, .ref h_tried, .ref h_met])), (h_act, .inl (cI, 780, .inl r_act)), (h_all, .inl (cI, 53700, .inl r_all)), (h_line, .inl (cI, 80, .inl (upd (upd r_line s1.toNatClampNeg s2) (((4 : Int32) * f_lines) + (1 : Int32)).toNatClampNeg f_acts)))] _ := hP
  have hD : va_D A [(h, .inr (10, [.ref h_all, .ref h_has, .int f_size, .int f_next, .int f_where, .int f_token, .int f_number, .int f_sign, .int f_word, .int f_wrong, .int f_open, .int f_lines, .int f_acts, .ref h_line, .ref h_act, .ref h_pile, .ref h_comes, .ref h_leaves, .ref h_tried, .ref h_met])), (h_act, .inl (cI, 780, .inl r_act)), (h_all, .inl (cI, 53700, .inl r_all)), (h_line, .inl (cI, 80, .inl (upd (upd r_line s1.toNatClampNeg s2) (((4 : Int32) * f_lines) + (1 : Int32)).toNatClampNeg f_acts)))] := hD
  refine lv_aload_n hx hb dX11_aLine_201 rfl (lv_at hl 0 rfl) ?_
  refine va_get (D := (dC, dI)) (ci := 10) (v := .ref h_line) (C := RX11) (T := TX11) (N := 20) hx hb hts uX11_aLine_X11 hown hK hP 0 rfl rfl 13 (by decide) (hts _ mX11_aLine_1) (fun _ h9 => h9) rfl dX11_aLine_202 ?_
  refine lv_iconst (v := (4 : Int32)) hx hb dX11_aLine_205 (by decide) ?_
  refine lv_aload_n hx hb dX11_aLine_206 rfl (lv_at hl 0 rfl) ?_
  refine va_get (D := (dC, dI)) (ci := 10) (v := .int f_lines) (C := RX11) (T := TX11) (N := 20) hx hb hts uX11_aLine_X11 hown hK hP 0 rfl rfl 11 (by decide) (hts _ mX11_aLine_0) (fun _ h9 => h9) rfl dX11_aLine_207 ?_
  refine lv_imul hx hb dX11_aLine_210 ?_
  refine lv_iconst (v := (2 : Int32)) hx hb dX11_aLine_211 (by decide) ?_
  refine lv_iadd hx hb dX11_aLine_212 ?_
  refine lv_iload hx hb dX11_aLine_213 (lv_at hl 1 rfl) ?_
  obtain ⟨h_5, hw⟩ := hw
  refine va_iast hx hb hK hP hD hS 3 0 rfl rfl h_5 dX11_aLine_215 (fun H locs hP hD hS => ?_)
  have hP : va_P (dC, dI) vwCl [(h, .inr (10, [.ref h_all, .ref h_has, .int f_size, .int f_next, .int f_where, .int f_token, .int f_number, .int f_sign, .int f_word, .int f_wrong, .int f_open, .int f_lines, .int f_acts, .ref h_line, .ref h_act, .ref h_pile, .ref h_comes, .ref h_leaves, .ref h_tried, .ref h_met])), (h_act, .inl (cI, 780, .inl r_act)), (h_all, .inl (cI, 53700, .inl r_all)), (h_line, .inl (cI, 80, .inl (upd (upd (upd r_line s1.toNatClampNeg s2) (((4 : Int32) * f_lines) + (1 : Int32)).toNatClampNeg f_acts) (((4 : Int32) * f_lines) + (2 : Int32)).toNatClampNeg x4)))] _ := hP
  have hD : va_D A [(h, .inr (10, [.ref h_all, .ref h_has, .int f_size, .int f_next, .int f_where, .int f_token, .int f_number, .int f_sign, .int f_word, .int f_wrong, .int f_open, .int f_lines, .int f_acts, .ref h_line, .ref h_act, .ref h_pile, .ref h_comes, .ref h_leaves, .ref h_tried, .ref h_met])), (h_act, .inl (cI, 780, .inl r_act)), (h_all, .inl (cI, 53700, .inl r_all)), (h_line, .inl (cI, 80, .inl (upd (upd (upd r_line s1.toNatClampNeg s2) (((4 : Int32) * f_lines) + (1 : Int32)).toNatClampNeg f_acts) (((4 : Int32) * f_lines) + (2 : Int32)).toNatClampNeg x4)))] := hD
  refine lv_aload_n hx hb dX11_aLine_216 rfl (lv_at hl 0 rfl) ?_
  refine va_get (D := (dC, dI)) (ci := 10) (v := .ref h_line) (C := RX11) (T := TX11) (N := 20) hx hb hts uX11_aLine_X11 hown hK hP 0 rfl rfl 13 (by decide) (hts _ mX11_aLine_1) (fun _ h9 => h9) rfl dX11_aLine_217 ?_
  refine lv_iconst (v := (4 : Int32)) hx hb dX11_aLine_220 (by decide) ?_
  refine lv_aload_n hx hb dX11_aLine_221 rfl (lv_at hl 0 rfl) ?_
  refine va_get (D := (dC, dI)) (ci := 10) (v := .int f_lines) (C := RX11) (T := TX11) (N := 20) hx hb hts uX11_aLine_X11 hown hK hP 0 rfl rfl 11 (by decide) (hts _ mX11_aLine_0) (fun _ h9 => h9) rfl dX11_aLine_222 ?_
  refine lv_imul hx hb dX11_aLine_225 ?_
  refine lv_iconst (v := (3 : Int32)) hx hb dX11_aLine_226 (by decide) ?_
  refine lv_iadd hx hb dX11_aLine_227 ?_
  refine lv_iload hx hb dX11_aLine_228 (lv_at hl 2 rfl) ?_
  obtain ⟨h_6, hw⟩ := hw
  refine va_iast hx hb hK hP hD hS 3 0 rfl rfl h_6 dX11_aLine_230 (fun H locs hP hD hS => ?_)
  have hP : va_P (dC, dI) vwCl [(h, .inr (10, [.ref h_all, .ref h_has, .int f_size, .int f_next, .int f_where, .int f_token, .int f_number, .int f_sign, .int f_word, .int f_wrong, .int f_open, .int f_lines, .int f_acts, .ref h_line, .ref h_act, .ref h_pile, .ref h_comes, .ref h_leaves, .ref h_tried, .ref h_met])), (h_act, .inl (cI, 780, .inl r_act)), (h_all, .inl (cI, 53700, .inl r_all)), (h_line, .inl (cI, 80, .inl (upd (upd (upd (upd r_line s1.toNatClampNeg s2) (((4 : Int32) * f_lines) + (1 : Int32)).toNatClampNeg f_acts) (((4 : Int32) * f_lines) + (2 : Int32)).toNatClampNeg x4) (((4 : Int32) * f_lines) + (3 : Int32)).toNatClampNeg x5)))] _ := hP
  have hD : va_D A [(h, .inr (10, [.ref h_all, .ref h_has, .int f_size, .int f_next, .int f_where, .int f_token, .int f_number, .int f_sign, .int f_word, .int f_wrong, .int f_open, .int f_lines, .int f_acts, .ref h_line, .ref h_act, .ref h_pile, .ref h_comes, .ref h_leaves, .ref h_tried, .ref h_met])), (h_act, .inl (cI, 780, .inl r_act)), (h_all, .inl (cI, 53700, .inl r_all)), (h_line, .inl (cI, 80, .inl (upd (upd (upd (upd r_line s1.toNatClampNeg s2) (((4 : Int32) * f_lines) + (1 : Int32)).toNatClampNeg f_acts) (((4 : Int32) * f_lines) + (2 : Int32)).toNatClampNeg x4) (((4 : Int32) * f_lines) + (3 : Int32)).toNatClampNeg x5)))] := hD
  exact tX11_aLine_231 hC hK hA  f_size f_next f_where f_token f_number f_sign f_word f_wrong f_open f_lines f_acts r_act r_all (upd (upd (upd (upd r_line s1.toNatClampNeg s2) (((4 : Int32) * f_lines) + (1 : Int32)).toNatClampNeg f_acts) (((4 : Int32) * f_lines) + (2 : Int32)).toNatClampNeg x4) (((4 : Int32) * f_lines) + (3 : Int32)).toNatClampNeg x5) _ _ ls hw (hP.sub [0, 1, 2, 3] rfl) (hD.sub [0, 1, 2, 3] (by decide) rfl) hS (lv_sub hl [0] rfl)
set_option maxHeartbeats 4000000 in
set_option maxRecDepth 100000 in
theorem tX11_aLine_152 {p : Program} {l : Launch} {e : Env} {s : State} {m : MethodId} {args : Array Value} {below : List Frame} {meth : Method} {c : Code} {dC : Nat → ClassId} {dI : Nat → Nat → Nat} {cI cZ cO cW : ClassId} {A : Nat → Prop} {h h_all h_has h_line h_act h_pile h_comes h_leaves h_tried h_met : Nat} {Q : Int32 → Int32 → Int32 → Int32 → Int32 → Int32 → Int32 → Int32 → Int32 → Int32 → (Nat → Int32) → (Nat → Int32) → (Nat → Int32) → Prop}  (hC : Cx p s m args meth c cX11_aLine none 6 wsX11_aLine RX11) (hK : va_K (dC, dI) vwCl (tysA cI cZ cO cW) s) (hA : ∀ q : Nat, s.heap.size ≤ q → A q) :
    ∀ (x1 : Int32) (x2 : Int32) (x3 : Int32) (x4 : Int32) (s0 : Int32) (f_size : Int32) (f_next : Int32) (f_where : Int32) (f_token : Int32) (f_number : Int32) (f_sign : Int32) (f_word : Int32) (f_wrong : Int32) (f_open : Int32) (f_lines : Int32) (f_acts : Int32) (r_act : (Nat → Int32)) (r_all : (Nat → Int32)) (r_line : (Nat → Int32)) (H : Heap) (locs : List Loc) (ls : Array Slot), wX11_aLine_152 Q  x1 x2 x3 x4 s0 f_size f_next f_where f_token f_number f_sign f_word f_wrong f_open f_lines f_acts r_act r_all r_line → va_P (dC, dI) vwCl (vX11_aLine cI cZ h h_all h_has h_line h_act h_pile h_comes h_leaves h_tried h_met f_size f_next f_where f_token f_number f_sign f_word f_wrong f_open f_lines f_acts r_act r_all r_line) H → va_D A (vX11_aLine cI cZ h h_all h_has h_line h_act h_pile h_comes h_leaves h_tried h_met f_size f_next f_where f_token f_number f_sign f_word f_wrong f_open f_lines f_acts r_act r_all r_line) → va_S A s.heap H locs → lv_has ls 6 [(0, .ref h), (1, .int x1), (2, .int x2), (3, .int x3), (4, .int x4)] → W p l e rmX11_aLine s m args below meth c H locs 0 0 (MQ below (qX11_aLine dC dI cI cZ cO cW h h_all h_has h_line h_act h_pile h_comes h_leaves h_tried h_met f_size Q A) args s 0 0 A) (F0 m 152 ls [.int s0]) := by
  obtain ⟨hx, hb, hr, hml, hown, hts, hlocks⟩ := id hC
  intro x1 x2 x3 x4 s0 f_size f_next f_where f_token f_number f_sign f_word f_wrong f_open f_lines f_acts r_act r_all r_line H locs ls hw hP hD hS hl
  refine lv_istore (lv' := [(5, .int s0), (0, .ref h), (1, .int x1), (2, .int x2), (3, .int x3), (4, .int x4)]) hx hb dX11_aLine_152 hl (by decide) rfl (fun ls hl => ?_)
  refine lv_aload_n hx hb dX11_aLine_154 rfl (lv_at hl 1 rfl) ?_
  refine lv_bipush (v := (59 : Int32)) hx hb dX11_aLine_155 (by decide) ?_
  have hPc := hP.sub (ws' := [(h, .inr (10, [.ref h_all, .ref h_has, .int f_size, .int f_next, .int f_where, .int f_token, .int f_number, .int f_sign, .int f_word, .int f_wrong, .int f_open, .int f_lines, .int f_acts, .ref h_line, .ref h_act, .ref h_pile, .ref h_comes, .ref h_leaves, .ref h_tried, .ref h_met])), (h_all, .inl (cI, 53700, .inl r_all))]) [0, 2] rfl
  have hDc := hD.sub (ws' := [(h, .inr (10, [.ref h_all, .ref h_has, .int f_size, .int f_next, .int f_where, .int f_token, .int f_number, .int f_sign, .int f_word, .int f_wrong, .int f_open, .int f_lines, .int f_acts, .ref h_line, .ref h_act, .ref h_pile, .ref h_comes, .ref h_leaves, .ref h_tried, .ref h_met])), (h_all, .inl (cI, 53700, .inl r_all))]) [0, 2] (by decide) rfl
  have hFc := va_free (wc := [(h, .inr (10, [.ref h_all, .ref h_has, .int f_size, .int f_next, .int f_where, .int f_token, .int f_number, .int f_sign, .int f_word, .int f_wrong, .int f_open, .int f_lines, .int f_acts, .ref h_line, .ref h_act, .ref h_pile, .ref h_comes, .ref h_leaves, .ref h_tried, .ref h_met])), (h_all, .inl (cI, 53700, .inl r_all))]) hD hS hA [0, 2] rfl
  refine va_callv (va_runV (As := [.int (59 : Int32)]) (rest := []) ⟨hx, hb, hml, hown, hts⟩ (kX11_must l dC dI cI cZ cO cW h h_all h_has h_line h_act h_pile h_comes h_leaves h_tried h_met H.size f_open f_lines f_acts f_size f_next f_where f_token f_number f_sign f_word f_wrong r_all (59 : Int32) _ hw) (cwV 1 hts gX11_aLine_X11_must rfl rfl rfl (by decide +kernel) ⟨Nat.le_of_ble_eq_true rfl, Nat.le_of_ble_eq_true rfl⟩) (pv_of hPc hK hDc (va_recv hK hPc (ci := 10) (q0 := 0) rfl rfl)) rfl rfl hl.1 rfl (lv_room (Nat.le_of_ble_eq_true rfl)) dX11_aLine_157 ⟨Nat.zero_le _, Nat.zero_le _⟩) hS (fun q _ h => hFc q h) hFc (fun u t H locs ht hvm hw hB hz1 hk1 hS => ?_)
  obtain ⟨f_next_7, f_where_8, f_token_9, f_number_10, f_sign_11, f_word_12, f_wrong_13, r_all_14⟩ := u
  obtain ⟨hP, hD⟩ := af_join (wr := [(h_act, .inl (cI, 780, .inl r_act)), (h_line, .inl (cI, 80, .inl r_line))]) (w1 := [(h, .inr (10, [.ref h_all, .ref h_has, .int f_size, .int f_next_7, .int f_where_8, .int f_token_9, .int f_number_10, .int f_sign_11, .int f_word_12, .int f_wrong_13, .int f_open, .int f_lines, .int f_acts, .ref h_line, .ref h_act, .ref h_pile, .ref h_comes, .ref h_leaves, .ref h_tried, .ref h_met])), (h_all, .inl (cI, 53700, .inl r_all_14))]) hB ht hP hD [0, 2] [1, 3] rfl rfl (by decide) (by decide) hk1 hFc
  have hP : va_P (dC, dI) vwCl [(h_act, .inl (cI, 780, .inl r_act)), (h_line, .inl (cI, 80, .inl r_line)), (h, .inr (10, [.ref h_all, .ref h_has, .int f_size, .int f_next_7, .int f_where_8, .int f_token_9, .int f_number_10, .int f_sign_11, .int f_word_12, .int f_wrong_13, .int f_open, .int f_lines, .int f_acts, .ref h_line, .ref h_act, .ref h_pile, .ref h_comes, .ref h_leaves, .ref h_tried, .ref h_met])), (h_all, .inl (cI, 53700, .inl r_all_14))] _ := hP
  have hD : va_D A [(h_act, .inl (cI, 780, .inl r_act)), (h_line, .inl (cI, 80, .inl r_line)), (h, .inr (10, [.ref h_all, .ref h_has, .int f_size, .int f_next_7, .int f_where_8, .int f_token_9, .int f_number_10, .int f_sign_11, .int f_word_12, .int f_wrong_13, .int f_open, .int f_lines, .int f_acts, .ref h_line, .ref h_act, .ref h_pile, .ref h_comes, .ref h_leaves, .ref h_tried, .ref h_met])), (h_all, .inl (cI, 53700, .inl r_all_14))] := hD
  refine lv_iload_n hx hb dX11_aLine_160 rfl (lv_at hl 2 rfl) ?_
  refine lv_if_ne (tgt := 231) hx hb dX11_aLine_161 (by decide) (fun c_15 => ?_) (fun c_15 => ?_)
  · have hw := hw.1 c_15
    exact tX11_aLine_231 hC hK hA  f_size f_next_7 f_where_8 f_token_9 f_number_10 f_sign_11 f_word_12 f_wrong_13 f_open f_lines f_acts r_act r_all_14 r_line _ _ ls hw (hP.sub [2, 0, 3, 1] rfl) (hD.sub [2, 0, 3, 1] (by decide) rfl) hS (lv_sub hl [1] rfl)
  · have hw := hw.2 c_15
    refine lv_aload_n hx hb dX11_aLine_164 rfl (lv_at hl 1 rfl) ?_
    refine va_get (D := (dC, dI)) (ci := 10) (v := .ref h_line) (C := RX11) (T := TX11) (N := 20) hx hb hts uX11_aLine_X11 hown hK hP 2 rfl rfl 13 (by decide) (hts _ mX11_aLine_1) (fun _ h9 => h9) rfl dX11_aLine_165 ?_
    refine lv_iconst (v := (4 : Int32)) hx hb dX11_aLine_168 (by decide) ?_
    refine lv_aload_n hx hb dX11_aLine_169 rfl (lv_at hl 1 rfl) ?_
    refine va_get (D := (dC, dI)) (ci := 10) (v := .int f_lines) (C := RX11) (T := TX11) (N := 20) hx hb hts uX11_aLine_X11 hown hK hP 2 rfl rfl 11 (by decide) (hts _ mX11_aLine_0) (fun _ h9 => h9) rfl dX11_aLine_170 ?_
    refine lv_imul hx hb dX11_aLine_173 ?_
    refine lv_iload_n hx hb dX11_aLine_174 rfl (lv_at hl 4 rfl) ?_
    refine lv_if_eq (tgt := 182) hx hb dX11_aLine_175 (by decide) (fun c_16 => ?_) (fun c_16 => ?_)
    · have hw := hw.1 c_16
      refine lv_iconst (v := (-1 : Int32)) hx hb dX11_aLine_182 (by decide) ?_
      exact tX11_aLine_183 hC hK hA  x4 s0 ((4 : Int32) * f_lines) (-1 : Int32) f_size f_next_7 f_where_8 f_token_9 f_number_10 f_sign_11 f_word_12 f_wrong_13 f_open f_lines f_acts r_act r_all_14 r_line _ _ ls hw (hP.sub [2, 0, 3, 1] rfl) (hD.sub [2, 0, 3, 1] (by decide) rfl) hS (lv_sub hl [1, 5, 0] rfl)
    · have hw := hw.2 c_16
      refine lv_iload_n hx hb dX11_aLine_178 rfl (lv_at hl 3 rfl) ?_
      refine lv_goto (tgt := 183) hx hb dX11_aLine_179 (by decide) ?_
      exact tX11_aLine_183 hC hK hA  x4 s0 ((4 : Int32) * f_lines) x2 f_size f_next_7 f_where_8 f_token_9 f_number_10 f_sign_11 f_word_12 f_wrong_13 f_open f_lines f_acts r_act r_all_14 r_line _ _ ls hw (hP.sub [2, 0, 3, 1] rfl) (hD.sub [2, 0, 3, 1] (by decide) rfl) hS (lv_sub hl [1, 5, 0] rfl)
set_option maxHeartbeats 4000000 in
set_option maxRecDepth 100000 in
theorem tX11_aLine_127 {p : Program} {l : Launch} {e : Env} {s : State} {m : MethodId} {args : Array Value} {below : List Frame} {meth : Method} {c : Code} {dC : Nat → ClassId} {dI : Nat → Nat → Nat} {cI cZ cO cW : ClassId} {A : Nat → Prop} {h h_all h_has h_line h_act h_pile h_comes h_leaves h_tried h_met : Nat} {Q : Int32 → Int32 → Int32 → Int32 → Int32 → Int32 → Int32 → Int32 → Int32 → Int32 → (Nat → Int32) → (Nat → Int32) → (Nat → Int32) → Prop}  (hC : Cx p s m args meth c cX11_aLine none 6 wsX11_aLine RX11) (hK : va_K (dC, dI) vwCl (tysA cI cZ cO cW) s) (hA : ∀ q : Nat, s.heap.size ≤ q → A q) :
    ∀ (x1 : Int32) (x2 : Int32) (x3 : Int32) (f_size : Int32) (f_next : Int32) (f_where : Int32) (f_token : Int32) (f_number : Int32) (f_sign : Int32) (f_word : Int32) (f_wrong : Int32) (f_open : Int32) (f_lines : Int32) (f_acts : Int32) (r_act : (Nat → Int32)) (r_all : (Nat → Int32)) (r_line : (Nat → Int32)) (H : Heap) (locs : List Loc) (ls : Array Slot), wX11_aLine_127 Q  x1 x2 x3 f_size f_next f_where f_token f_number f_sign f_word f_wrong f_open f_lines f_acts r_act r_all r_line → va_P (dC, dI) vwCl (vX11_aLine cI cZ h h_all h_has h_line h_act h_pile h_comes h_leaves h_tried h_met f_size f_next f_where f_token f_number f_sign f_word f_wrong f_open f_lines f_acts r_act r_all r_line) H → va_D A (vX11_aLine cI cZ h h_all h_has h_line h_act h_pile h_comes h_leaves h_tried h_met f_size f_next f_where f_token f_number f_sign f_word f_wrong f_open f_lines f_acts r_act r_all r_line) → va_S A s.heap H locs → lv_has ls 6 [(0, .ref h), (1, .int x1), (2, .int x2), (3, .int x3)] → W p l e rmX11_aLine s m args below meth c H locs 0 0 (MQ below (qX11_aLine dC dI cI cZ cO cW h h_all h_has h_line h_act h_pile h_comes h_leaves h_tried h_met f_size Q A) args s 0 0 A) (F0 m 127 ls []) := by
  obtain ⟨hx, hb, hr, hml, hown, hts, hlocks⟩ := id hC
  intro x1 x2 x3 f_size f_next f_where f_token f_number f_sign f_word f_wrong f_open f_lines f_acts r_act r_all r_line H locs ls hw hP hD hS hl
  refine lv_aload_n hx hb dX11_aLine_127 rfl (lv_at hl 0 rfl) ?_
  refine va_get (D := (dC, dI)) (ci := 10) (v := .int f_word) (C := RX11) (T := TX11) (N := 20) hx hb hts uX11_aLine_X11 hown hK hP 0 rfl rfl 8 (by decide) (hts _ mX11_aLine_3) (fun _ h9 => h9) rfl dX11_aLine_128 ?_
  refine lv_istore (lv' := [(4, .int f_word), (0, .ref h), (1, .int x1), (2, .int x2), (3, .int x3)]) hx hb dX11_aLine_131 hl (by decide) rfl (fun ls hl => ?_)
  refine lv_aload_n hx hb dX11_aLine_133 rfl (lv_at hl 1 rfl) ?_
  have hPc := hP.sub (ws' := [(h, .inr (10, [.ref h_all, .ref h_has, .int f_size, .int f_next, .int f_where, .int f_token, .int f_number, .int f_sign, .int f_word, .int f_wrong, .int f_open, .int f_lines, .int f_acts, .ref h_line, .ref h_act, .ref h_pile, .ref h_comes, .ref h_leaves, .ref h_tried, .ref h_met])), (h_all, .inl (cI, 53700, .inl r_all))]) [0, 2] rfl
  have hDc := hD.sub (ws' := [(h, .inr (10, [.ref h_all, .ref h_has, .int f_size, .int f_next, .int f_where, .int f_token, .int f_number, .int f_sign, .int f_word, .int f_wrong, .int f_open, .int f_lines, .int f_acts, .ref h_line, .ref h_act, .ref h_pile, .ref h_comes, .ref h_leaves, .ref h_tried, .ref h_met])), (h_all, .inl (cI, 53700, .inl r_all))]) [0, 2] (by decide) rfl
  have hFc := va_free (wc := [(h, .inr (10, [.ref h_all, .ref h_has, .int f_size, .int f_next, .int f_where, .int f_token, .int f_number, .int f_sign, .int f_word, .int f_wrong, .int f_open, .int f_lines, .int f_acts, .ref h_line, .ref h_act, .ref h_pile, .ref h_comes, .ref h_leaves, .ref h_tried, .ref h_met])), (h_all, .inl (cI, 53700, .inl r_all))]) hD hS hA [0, 2] rfl
  refine va_callv (va_runV (As := []) (rest := []) ⟨hx, hb, hml, hown, hts⟩ (kX11_advance l dC dI cI cZ cO cW h h_all h_has h_line h_act h_pile h_comes h_leaves h_tried h_met H.size f_wrong f_open f_lines f_acts f_size f_next f_where f_token f_number f_sign f_word r_all _ hw) (cwV 0 hts gX11_aLine_X11_advance rfl rfl rfl (by decide +kernel) ⟨Nat.le_of_ble_eq_true rfl, Nat.le_of_ble_eq_true rfl⟩) (pv_of hPc hK hDc (va_recv hK hPc (ci := 10) (q0 := 0) rfl rfl)) rfl rfl hl.1 rfl (lv_room (Nat.le_of_ble_eq_true rfl)) dX11_aLine_134 ⟨Nat.zero_le _, Nat.zero_le _⟩) hS (fun q _ h => hFc q h) hFc (fun u t H locs ht hvm hw hB hz1 hk1 hS => ?_)
  obtain ⟨f_next_17, f_where_18, f_token_19, f_number_20, f_sign_21, f_word_22⟩ := u
  obtain ⟨hP, hD⟩ := af_join (wr := [(h_act, .inl (cI, 780, .inl r_act)), (h_line, .inl (cI, 80, .inl r_line))]) (w1 := [(h, .inr (10, [.ref h_all, .ref h_has, .int f_size, .int f_next_17, .int f_where_18, .int f_token_19, .int f_number_20, .int f_sign_21, .int f_word_22, .int f_wrong, .int f_open, .int f_lines, .int f_acts, .ref h_line, .ref h_act, .ref h_pile, .ref h_comes, .ref h_leaves, .ref h_tried, .ref h_met])), (h_all, .inl (cI, 53700, .inl r_all))]) hB ht hP hD [0, 2] [1, 3] rfl rfl (by decide) (by decide) hk1 hFc
  have hP : va_P (dC, dI) vwCl [(h_act, .inl (cI, 780, .inl r_act)), (h_line, .inl (cI, 80, .inl r_line)), (h, .inr (10, [.ref h_all, .ref h_has, .int f_size, .int f_next_17, .int f_where_18, .int f_token_19, .int f_number_20, .int f_sign_21, .int f_word_22, .int f_wrong, .int f_open, .int f_lines, .int f_acts, .ref h_line, .ref h_act, .ref h_pile, .ref h_comes, .ref h_leaves, .ref h_tried, .ref h_met])), (h_all, .inl (cI, 53700, .inl r_all))] _ := hP
  have hD : va_D A [(h_act, .inl (cI, 780, .inl r_act)), (h_line, .inl (cI, 80, .inl r_line)), (h, .inr (10, [.ref h_all, .ref h_has, .int f_size, .int f_next_17, .int f_where_18, .int f_token_19, .int f_number_20, .int f_sign_21, .int f_word_22, .int f_wrong, .int f_open, .int f_lines, .int f_acts, .ref h_line, .ref h_act, .ref h_pile, .ref h_comes, .ref h_leaves, .ref h_tried, .ref h_met])), (h_all, .inl (cI, 53700, .inl r_all))] := hD
  refine lv_iload hx hb dX11_aLine_137 (lv_at hl 0 rfl) ?_
  refine lv_bipush (v := (26 : Int32)) hx hb dX11_aLine_139 (by decide) ?_
  refine lv_icmp_ne (tgt := 151) hx hb dX11_aLine_141 (by decide) (fun c_23 => ?_) (fun c_23 => ?_)
  · have hw := hw.1 c_23
    refine lv_iconst (v := (0 : Int32)) hx hb dX11_aLine_151 (by decide) ?_
    exact tX11_aLine_152 hC hK hA  x1 x2 x3 f_word (0 : Int32) f_size f_next_17 f_where_18 f_token_19 f_number_20 f_sign_21 f_word_22 f_wrong f_open f_lines f_acts r_act r_all r_line _ _ ls hw (hP.sub [2, 0, 3, 1] rfl) (hD.sub [2, 0, 3, 1] (by decide) rfl) hS (lv_sub hl [1, 2, 3, 4, 0] rfl)
  · have hw := hw.2 c_23
    refine lv_aload_n hx hb dX11_aLine_144 rfl (lv_at hl 1 rfl) ?_
    have hPc := hP.sub (ws' := [(h, .inr (10, [.ref h_all, .ref h_has, .int f_size, .int f_next_17, .int f_where_18, .int f_token_19, .int f_number_20, .int f_sign_21, .int f_word_22, .int f_wrong, .int f_open, .int f_lines, .int f_acts, .ref h_line, .ref h_act, .ref h_pile, .ref h_comes, .ref h_leaves, .ref h_tried, .ref h_met])), (h_all, .inl (cI, 53700, .inl r_all))]) [2, 3] rfl
    have hDc := hD.sub (ws' := [(h, .inr (10, [.ref h_all, .ref h_has, .int f_size, .int f_next_17, .int f_where_18, .int f_token_19, .int f_number_20, .int f_sign_21, .int f_word_22, .int f_wrong, .int f_open, .int f_lines, .int f_acts, .ref h_line, .ref h_act, .ref h_pile, .ref h_comes, .ref h_leaves, .ref h_tried, .ref h_met])), (h_all, .inl (cI, 53700, .inl r_all))]) [2, 3] (by decide) rfl
    have hFc := va_free (wc := [(h, .inr (10, [.ref h_all, .ref h_has, .int f_size, .int f_next_17, .int f_where_18, .int f_token_19, .int f_number_20, .int f_sign_21, .int f_word_22, .int f_wrong, .int f_open, .int f_lines, .int f_acts, .ref h_line, .ref h_act, .ref h_pile, .ref h_comes, .ref h_leaves, .ref h_tried, .ref h_met])), (h_all, .inl (cI, 53700, .inl r_all))]) hD hS hA [2, 3] rfl
    refine va_calli (va_runV (As := []) (rest := []) ⟨hx, hb, hml, hown, hts⟩ (kX11_numbered l dC dI cI cZ cO cW h h_all h_has h_line h_act h_pile h_comes h_leaves h_tried h_met H.size f_open f_lines f_acts f_size f_next_17 f_where_18 f_token_19 f_number_20 f_sign_21 f_word_22 f_wrong r_all _ hw) (cwV 0 hts gX11_aLine_X11_numbered rfl rfl rfl (by decide +kernel) ⟨Nat.le_of_ble_eq_true rfl, Nat.le_of_ble_eq_true rfl⟩) (pv_of hPc hK hDc (va_recv hK hPc (ci := 10) (q0 := 0) rfl rfl)) rfl rfl hl.1 rfl (lv_room (Nat.le_of_ble_eq_true rfl)) dX11_aLine_145 ⟨Nat.zero_le _, Nat.zero_le _⟩) hS (fun q _ h => hFc q h) hFc (fun r_32 u t H locs ht hvm hw hB hz1 hk1 hS => ?_)
    obtain ⟨f_next_24, f_where_25, f_token_26, f_number_27, f_sign_28, f_word_29, f_wrong_30, r_all_31⟩ := u
    obtain ⟨hP, hD⟩ := af_join (wr := [(h_act, .inl (cI, 780, .inl r_act)), (h_line, .inl (cI, 80, .inl r_line))]) (w1 := [(h, .inr (10, [.ref h_all, .ref h_has, .int f_size, .int f_next_24, .int f_where_25, .int f_token_26, .int f_number_27, .int f_sign_28, .int f_word_29, .int f_wrong_30, .int f_open, .int f_lines, .int f_acts, .ref h_line, .ref h_act, .ref h_pile, .ref h_comes, .ref h_leaves, .ref h_tried, .ref h_met])), (h_all, .inl (cI, 53700, .inl r_all_31))]) hB ht hP hD [2, 3] [0, 1] rfl rfl (by decide) (by decide) hk1 hFc
    have hP : va_P (dC, dI) vwCl [(h_act, .inl (cI, 780, .inl r_act)), (h_line, .inl (cI, 80, .inl r_line)), (h, .inr (10, [.ref h_all, .ref h_has, .int f_size, .int f_next_24, .int f_where_25, .int f_token_26, .int f_number_27, .int f_sign_28, .int f_word_29, .int f_wrong_30, .int f_open, .int f_lines, .int f_acts, .ref h_line, .ref h_act, .ref h_pile, .ref h_comes, .ref h_leaves, .ref h_tried, .ref h_met])), (h_all, .inl (cI, 53700, .inl r_all_31))] _ := hP
    have hD : va_D A [(h_act, .inl (cI, 780, .inl r_act)), (h_line, .inl (cI, 80, .inl r_line)), (h, .inr (10, [.ref h_all, .ref h_has, .int f_size, .int f_next_24, .int f_where_25, .int f_token_26, .int f_number_27, .int f_sign_28, .int f_word_29, .int f_wrong_30, .int f_open, .int f_lines, .int f_acts, .ref h_line, .ref h_act, .ref h_pile, .ref h_comes, .ref h_leaves, .ref h_tried, .ref h_met])), (h_all, .inl (cI, 53700, .inl r_all_31))] := hD
    refine lv_goto (tgt := 152) hx hb dX11_aLine_148 (by decide) ?_
    exact tX11_aLine_152 hC hK hA  x1 x2 x3 f_word r_32 f_size f_next_24 f_where_25 f_token_26 f_number_27 f_sign_28 f_word_29 f_wrong_30 f_open f_lines f_acts r_act r_all_31 r_line _ _ ls hw (hP.sub [2, 0, 3, 1] rfl) (hD.sub [2, 0, 3, 1] (by decide) rfl) hS (lv_sub hl [1, 2, 3, 4, 0] rfl)
set_option maxHeartbeats 4000000 in
set_option maxRecDepth 100000 in
theorem tX11_aLine_79 {p : Program} {l : Launch} {e : Env} {s : State} {m : MethodId} {args : Array Value} {below : List Frame} {meth : Method} {c : Code} {dC : Nat → ClassId} {dI : Nat → Nat → Nat} {cI cZ cO cW : ClassId} {A : Nat → Prop} {h h_all h_has h_line h_act h_pile h_comes h_leaves h_tried h_met : Nat} {Q : Int32 → Int32 → Int32 → Int32 → Int32 → Int32 → Int32 → Int32 → Int32 → Int32 → (Nat → Int32) → (Nat → Int32) → (Nat → Int32) → Prop}  (hC : Cx p s m args meth c cX11_aLine none 6 wsX11_aLine RX11) (hK : va_K (dC, dI) vwCl (tysA cI cZ cO cW) s) (hA : ∀ q : Nat, s.heap.size ≤ q → A q) :
    ∀ (x1 : Int32) (x2 : Int32) (x3 : Int32) (f_size : Int32) (f_next : Int32) (f_where : Int32) (f_token : Int32) (f_number : Int32) (f_sign : Int32) (f_word : Int32) (f_wrong : Int32) (f_open : Int32) (f_lines : Int32) (f_acts : Int32) (r_act : (Nat → Int32)) (r_all : (Nat → Int32)) (r_line : (Nat → Int32)) (H : Heap) (locs : List Loc) (ls : Array Slot), wX11_aLine_79 Q  x1 x2 x3 f_size f_next f_where f_token f_number f_sign f_word f_wrong f_open f_lines f_acts r_act r_all r_line → va_P (dC, dI) vwCl (vX11_aLine cI cZ h h_all h_has h_line h_act h_pile h_comes h_leaves h_tried h_met f_size f_next f_where f_token f_number f_sign f_word f_wrong f_open f_lines f_acts r_act r_all r_line) H → va_D A (vX11_aLine cI cZ h h_all h_has h_line h_act h_pile h_comes h_leaves h_tried h_met f_size f_next f_where f_token f_number f_sign f_word f_wrong f_open f_lines f_acts r_act r_all r_line) → va_S A s.heap H locs → lv_has ls 6 [(0, .ref h), (1, .int x1), (2, .int x2), (3, .int x3)] → W p l e rmX11_aLine s m args below meth c H locs 0 0 (MQ below (qX11_aLine dC dI cI cZ cO cW h h_all h_has h_line h_act h_pile h_comes h_leaves h_tried h_met f_size Q A) args s 0 0 A) (F0 m 79 ls []) := by
  obtain ⟨hx, hb, hr, hml, hown, hts, hlocks⟩ := id hC
  intro x1 x2 x3 f_size f_next f_where f_token f_number f_sign f_word f_wrong f_open f_lines f_acts r_act r_all r_line H locs ls hw hP hD hS hl
  refine lv_aload_n hx hb dX11_aLine_79 rfl (lv_at hl 0 rfl) ?_
  refine va_get (D := (dC, dI)) (ci := 10) (v := .int f_wrong) (C := RX11) (T := TX11) (N := 20) hx hb hts uX11_aLine_X11 hown hK hP 0 rfl rfl 9 (by decide) (hts _ mX11_aLine_4) (fun _ h9 => h9) rfl dX11_aLine_80 ?_
  refine lv_if_ne (tgt := 122) hx hb dX11_aLine_83 (by decide) (fun c_33 => ?_) (fun c_33 => ?_)
  · have hw := hw.1 c_33
    exact tX11_aLine_122 hC hK hA  f_size f_next f_where f_token f_number f_sign f_word f_wrong f_open f_lines f_acts r_act r_all r_line _ _ ls hw (hP.sub [0, 1, 2, 3] rfl) (hD.sub [0, 1, 2, 3] (by decide) rfl) hS (lv_sub hl [0] rfl)
  · have hw := hw.2 c_33
    refine lv_aload_n hx hb dX11_aLine_86 rfl (lv_at hl 0 rfl) ?_
    refine va_get (D := (dC, dI)) (ci := 10) (v := .int f_token) (C := RX11) (T := TX11) (N := 20) hx hb hts uX11_aLine_X11 hown hK hP 0 rfl rfl 5 (by decide) (hts _ mX11_aLine_5) (fun _ h9 => h9) rfl dX11_aLine_87 ?_
    refine lv_iconst (v := (3 : Int32)) hx hb dX11_aLine_90 (by decide) ?_
    refine lv_icmp_ne (tgt := 122) hx hb dX11_aLine_91 (by decide) (fun c_34 => ?_) (fun c_34 => ?_)
    · have hw := hw.1 c_34
      exact tX11_aLine_122 hC hK hA  f_size f_next f_where f_token f_number f_sign f_word f_wrong f_open f_lines f_acts r_act r_all r_line _ _ ls hw (hP.sub [0, 1, 2, 3] rfl) (hD.sub [0, 1, 2, 3] (by decide) rfl) hS (lv_sub hl [0] rfl)
    · have hw := hw.2 c_34
      refine lv_aload_n hx hb dX11_aLine_94 rfl (lv_at hl 0 rfl) ?_
      refine va_get (D := (dC, dI)) (ci := 10) (v := .int f_word) (C := RX11) (T := TX11) (N := 20) hx hb hts uX11_aLine_X11 hown hK hP 0 rfl rfl 8 (by decide) (hts _ mX11_aLine_3) (fun _ h9 => h9) rfl dX11_aLine_95 ?_
      refine lv_bipush (v := (8 : Int32)) hx hb dX11_aLine_98 (by decide) ?_
      refine lv_bipush (v := (11 : Int32)) hx hb dX11_aLine_100 (by decide) ?_
      have hPc := hP.sub (ws' := []) [] rfl
      have hDc := hD.sub (ws' := []) [] (by decide) rfl
      have hFc := va_free (wc := []) hD hS hA [] rfl
      refine va_calli (va_runS (As := [.int f_word, .int (8 : Int32), .int (11 : Int32)]) (rest := []) ⟨hx, hb, hml, hown, hts⟩ (kX11_isIn l dC dI cI cZ cO cW H.size f_word (8 : Int32) (11 : Int32) _ hw) (va_cwS 3 hts gX11_aLine_X11_isIn rfl rfl rfl (by decide +kernel) ⟨Nat.le_of_ble_eq_true rfl, Nat.le_of_ble_eq_true rfl⟩) (ps_of hPc hK hDc) rfl rfl hl.1 rfl (lv_room (Nat.le_of_ble_eq_true rfl)) dX11_aLine_102 ⟨Nat.zero_le _, Nat.zero_le _⟩) hS (fun q _ h => hFc q h) hFc (fun r_35 u t H locs ht hvm hw hB hz1 hk1 hS => ?_)
      obtain ⟨hP, hD⟩ := af_join (wr := [(h, .inr (10, [.ref h_all, .ref h_has, .int f_size, .int f_next, .int f_where, .int f_token, .int f_number, .int f_sign, .int f_word, .int f_wrong, .int f_open, .int f_lines, .int f_acts, .ref h_line, .ref h_act, .ref h_pile, .ref h_comes, .ref h_leaves, .ref h_tried, .ref h_met])), (h_act, .inl (cI, 780, .inl r_act)), (h_all, .inl (cI, 53700, .inl r_all)), (h_line, .inl (cI, 80, .inl r_line))]) (w1 := []) hB ht hP hD [] [0, 1, 2, 3] rfl rfl (by decide) (by decide) hk1 hFc
      have hP : va_P (dC, dI) vwCl [(h, .inr (10, [.ref h_all, .ref h_has, .int f_size, .int f_next, .int f_where, .int f_token, .int f_number, .int f_sign, .int f_word, .int f_wrong, .int f_open, .int f_lines, .int f_acts, .ref h_line, .ref h_act, .ref h_pile, .ref h_comes, .ref h_leaves, .ref h_tried, .ref h_met])), (h_act, .inl (cI, 780, .inl r_act)), (h_all, .inl (cI, 53700, .inl r_all)), (h_line, .inl (cI, 80, .inl r_line))] _ := hP
      have hD : va_D A [(h, .inr (10, [.ref h_all, .ref h_has, .int f_size, .int f_next, .int f_where, .int f_token, .int f_number, .int f_sign, .int f_word, .int f_wrong, .int f_open, .int f_lines, .int f_acts, .ref h_line, .ref h_act, .ref h_pile, .ref h_comes, .ref h_leaves, .ref h_tried, .ref h_met])), (h_act, .inl (cI, 780, .inl r_act)), (h_all, .inl (cI, 53700, .inl r_all)), (h_line, .inl (cI, 80, .inl r_line))] := hD
      refine lv_if_ne (tgt := 127) hx hb dX11_aLine_105 (by decide) (fun c_36 => ?_) (fun c_36 => ?_)
      · have hw := hw.1 c_36
        exact tX11_aLine_127 hC hK hA  x1 x2 x3 f_size f_next f_where f_token f_number f_sign f_word f_wrong f_open f_lines f_acts r_act r_all r_line _ _ ls hw (hP.sub [0, 1, 2, 3] rfl) (hD.sub [0, 1, 2, 3] (by decide) rfl) hS (lv_sub hl [0, 1, 2, 3] rfl)
      · have hw := hw.2 c_36
        refine lv_aload_n hx hb dX11_aLine_108 rfl (lv_at hl 0 rfl) ?_
        refine va_get (D := (dC, dI)) (ci := 10) (v := .int f_word) (C := RX11) (T := TX11) (N := 20) hx hb hts uX11_aLine_X11 hown hK hP 0 rfl rfl 8 (by decide) (hts _ mX11_aLine_3) (fun _ h9 => h9) rfl dX11_aLine_109 ?_
        refine lv_bipush (v := (24 : Int32)) hx hb dX11_aLine_112 (by decide) ?_
        refine lv_bipush (v := (26 : Int32)) hx hb dX11_aLine_114 (by decide) ?_
        have hPc := hP.sub (ws' := []) [] rfl
        have hDc := hD.sub (ws' := []) [] (by decide) rfl
        have hFc := va_free (wc := []) hD hS hA [] rfl
        refine va_calli (va_runS (As := [.int f_word, .int (24 : Int32), .int (26 : Int32)]) (rest := []) ⟨hx, hb, hml, hown, hts⟩ (kX11_isIn l dC dI cI cZ cO cW H.size f_word (24 : Int32) (26 : Int32) _ hw) (va_cwS 3 hts gX11_aLine_X11_isIn rfl rfl rfl (by decide +kernel) ⟨Nat.le_of_ble_eq_true rfl, Nat.le_of_ble_eq_true rfl⟩) (ps_of hPc hK hDc) rfl rfl hl.1 rfl (lv_room (Nat.le_of_ble_eq_true rfl)) dX11_aLine_116 ⟨Nat.zero_le _, Nat.zero_le _⟩) hS (fun q _ h => hFc q h) hFc (fun r_37 u t H locs ht hvm hw hB hz1 hk1 hS => ?_)
        obtain ⟨hP, hD⟩ := af_join (wr := [(h, .inr (10, [.ref h_all, .ref h_has, .int f_size, .int f_next, .int f_where, .int f_token, .int f_number, .int f_sign, .int f_word, .int f_wrong, .int f_open, .int f_lines, .int f_acts, .ref h_line, .ref h_act, .ref h_pile, .ref h_comes, .ref h_leaves, .ref h_tried, .ref h_met])), (h_act, .inl (cI, 780, .inl r_act)), (h_all, .inl (cI, 53700, .inl r_all)), (h_line, .inl (cI, 80, .inl r_line))]) (w1 := []) hB ht hP hD [] [0, 1, 2, 3] rfl rfl (by decide) (by decide) hk1 hFc
        have hP : va_P (dC, dI) vwCl [(h, .inr (10, [.ref h_all, .ref h_has, .int f_size, .int f_next, .int f_where, .int f_token, .int f_number, .int f_sign, .int f_word, .int f_wrong, .int f_open, .int f_lines, .int f_acts, .ref h_line, .ref h_act, .ref h_pile, .ref h_comes, .ref h_leaves, .ref h_tried, .ref h_met])), (h_act, .inl (cI, 780, .inl r_act)), (h_all, .inl (cI, 53700, .inl r_all)), (h_line, .inl (cI, 80, .inl r_line))] _ := hP
        have hD : va_D A [(h, .inr (10, [.ref h_all, .ref h_has, .int f_size, .int f_next, .int f_where, .int f_token, .int f_number, .int f_sign, .int f_word, .int f_wrong, .int f_open, .int f_lines, .int f_acts, .ref h_line, .ref h_act, .ref h_pile, .ref h_comes, .ref h_leaves, .ref h_tried, .ref h_met])), (h_act, .inl (cI, 780, .inl r_act)), (h_all, .inl (cI, 53700, .inl r_all)), (h_line, .inl (cI, 80, .inl r_line))] := hD
        refine lv_if_ne (tgt := 127) hx hb dX11_aLine_119 (by decide) (fun c_38 => ?_) (fun c_38 => ?_)
        · have hw := hw.1 c_38
          exact tX11_aLine_127 hC hK hA  x1 x2 x3 f_size f_next f_where f_token f_number f_sign f_word f_wrong f_open f_lines f_acts r_act r_all r_line _ _ ls hw (hP.sub [0, 1, 2, 3] rfl) (hD.sub [0, 1, 2, 3] (by decide) rfl) hS (lv_sub hl [0, 1, 2, 3] rfl)
        · have hw := hw.2 c_38
          exact tX11_aLine_122 hC hK hA  f_size f_next f_where f_token f_number f_sign f_word f_wrong f_open f_lines f_acts r_act r_all r_line _ _ ls hw (hP.sub [0, 1, 2, 3] rfl) (hD.sub [0, 1, 2, 3] (by decide) rfl) hS (lv_sub hl [0] rfl)
set_option maxHeartbeats 4000000 in
set_option maxRecDepth 100000 in
theorem tX11_aLine_48 {p : Program} {l : Launch} {e : Env} {s : State} {m : MethodId} {args : Array Value} {below : List Frame} {meth : Method} {c : Code} {dC : Nat → ClassId} {dI : Nat → Nat → Nat} {cI cZ cO cW : ClassId} {A : Nat → Prop} {h h_all h_has h_line h_act h_pile h_comes h_leaves h_tried h_met : Nat} {Q : Int32 → Int32 → Int32 → Int32 → Int32 → Int32 → Int32 → Int32 → Int32 → Int32 → (Nat → Int32) → (Nat → Int32) → (Nat → Int32) → Prop}  (hC : Cx p s m args meth c cX11_aLine none 6 wsX11_aLine RX11) (hK : va_K (dC, dI) vwCl (tysA cI cZ cO cW) s) (hA : ∀ q : Nat, s.heap.size ≤ q → A q) :
    ∀ (x1 : Int32) (f_size : Int32) (f_next : Int32) (f_where : Int32) (f_token : Int32) (f_number : Int32) (f_sign : Int32) (f_word : Int32) (f_wrong : Int32) (f_open : Int32) (f_lines : Int32) (f_acts : Int32) (r_act : (Nat → Int32)) (r_all : (Nat → Int32)) (r_line : (Nat → Int32)) (H : Heap) (locs : List Loc) (ls : Array Slot), wX11_aLine_48 Q  x1 f_size f_next f_where f_token f_number f_sign f_word f_wrong f_open f_lines f_acts r_act r_all r_line → va_P (dC, dI) vwCl (vX11_aLine cI cZ h h_all h_has h_line h_act h_pile h_comes h_leaves h_tried h_met f_size f_next f_where f_token f_number f_sign f_word f_wrong f_open f_lines f_acts r_act r_all r_line) H → va_D A (vX11_aLine cI cZ h h_all h_has h_line h_act h_pile h_comes h_leaves h_tried h_met f_size f_next f_where f_token f_number f_sign f_word f_wrong f_open f_lines f_acts r_act r_all r_line) → va_S A s.heap H locs → lv_has ls 6 [(0, .ref h), (1, .int x1)] → W p l e rmX11_aLine s m args below meth c H locs 0 0 (MQ below (qX11_aLine dC dI cI cZ cO cW h h_all h_has h_line h_act h_pile h_comes h_leaves h_tried h_met f_size Q A) args s 0 0 A) (F0 m 48 ls []) := by
  obtain ⟨hx, hb, hr, hml, hown, hts, hlocks⟩ := id hC
  intro x1 f_size f_next f_where f_token f_number f_sign f_word f_wrong f_open f_lines f_acts r_act r_all r_line H locs ls hw hP hD hS hl
  refine lv_aload_n hx hb dX11_aLine_48 rfl (lv_at hl 0 rfl) ?_
  refine va_get (D := (dC, dI)) (ci := 10) (v := .int f_acts) (C := RX11) (T := TX11) (N := 20) hx hb hts uX11_aLine_X11 hown hK hP 0 rfl rfl 12 (by decide) (hts _ mX11_aLine_2) (fun _ h9 => h9) rfl dX11_aLine_49 ?_
  refine lv_istore_n (lv' := [(2, .int f_acts), (0, .ref h), (1, .int x1)]) hx hb dX11_aLine_52 rfl hl (by decide) rfl (fun ls hl => ?_)
  refine lv_aload_n hx hb dX11_aLine_53 rfl (lv_at hl 1 rfl) ?_
  refine lv_bipush (v := (30 : Int32)) hx hb dX11_aLine_54 (by decide) ?_
  have hPc := hP.sub (ws' := [(h, .inr (10, [.ref h_all, .ref h_has, .int f_size, .int f_next, .int f_where, .int f_token, .int f_number, .int f_sign, .int f_word, .int f_wrong, .int f_open, .int f_lines, .int f_acts, .ref h_line, .ref h_act, .ref h_pile, .ref h_comes, .ref h_leaves, .ref h_tried, .ref h_met])), (h_all, .inl (cI, 53700, .inl r_all))]) [0, 2] rfl
  have hDc := hD.sub (ws' := [(h, .inr (10, [.ref h_all, .ref h_has, .int f_size, .int f_next, .int f_where, .int f_token, .int f_number, .int f_sign, .int f_word, .int f_wrong, .int f_open, .int f_lines, .int f_acts, .ref h_line, .ref h_act, .ref h_pile, .ref h_comes, .ref h_leaves, .ref h_tried, .ref h_met])), (h_all, .inl (cI, 53700, .inl r_all))]) [0, 2] (by decide) rfl
  have hFc := va_free (wc := [(h, .inr (10, [.ref h_all, .ref h_has, .int f_size, .int f_next, .int f_where, .int f_token, .int f_number, .int f_sign, .int f_word, .int f_wrong, .int f_open, .int f_lines, .int f_acts, .ref h_line, .ref h_act, .ref h_pile, .ref h_comes, .ref h_leaves, .ref h_tried, .ref h_met])), (h_all, .inl (cI, 53700, .inl r_all))]) hD hS hA [0, 2] rfl
  refine va_calli (va_runV (As := [.int (30 : Int32)]) (rest := []) ⟨hx, hb, hml, hown, hts⟩ (kX11_takesWord l dC dI cI cZ cO cW h h_all h_has h_line h_act h_pile h_comes h_leaves h_tried h_met H.size f_open f_lines f_acts f_size f_next f_where f_token f_number f_sign f_word f_wrong r_all (30 : Int32) _ hw) (cwV 1 hts gX11_aLine_X11_takesWord rfl rfl rfl (by decide +kernel) ⟨Nat.le_of_ble_eq_true rfl, Nat.le_of_ble_eq_true rfl⟩) (pv_of hPc hK hDc (va_recv hK hPc (ci := 10) (q0 := 0) rfl rfl)) rfl rfl hl.1 rfl (lv_room (Nat.le_of_ble_eq_true rfl)) dX11_aLine_56 ⟨Nat.zero_le _, Nat.zero_le _⟩) hS (fun q _ h => hFc q h) hFc (fun r_45 u t H locs ht hvm hw hB hz1 hk1 hS => ?_)
  obtain ⟨f_next_39, f_where_40, f_token_41, f_number_42, f_sign_43, f_word_44⟩ := u
  obtain ⟨hP, hD⟩ := af_join (wr := [(h_act, .inl (cI, 780, .inl r_act)), (h_line, .inl (cI, 80, .inl r_line))]) (w1 := [(h, .inr (10, [.ref h_all, .ref h_has, .int f_size, .int f_next_39, .int f_where_40, .int f_token_41, .int f_number_42, .int f_sign_43, .int f_word_44, .int f_wrong, .int f_open, .int f_lines, .int f_acts, .ref h_line, .ref h_act, .ref h_pile, .ref h_comes, .ref h_leaves, .ref h_tried, .ref h_met])), (h_all, .inl (cI, 53700, .inl r_all))]) hB ht hP hD [0, 2] [1, 3] rfl rfl (by decide) (by decide) hk1 hFc
  have hP : va_P (dC, dI) vwCl [(h_act, .inl (cI, 780, .inl r_act)), (h_line, .inl (cI, 80, .inl r_line)), (h, .inr (10, [.ref h_all, .ref h_has, .int f_size, .int f_next_39, .int f_where_40, .int f_token_41, .int f_number_42, .int f_sign_43, .int f_word_44, .int f_wrong, .int f_open, .int f_lines, .int f_acts, .ref h_line, .ref h_act, .ref h_pile, .ref h_comes, .ref h_leaves, .ref h_tried, .ref h_met])), (h_all, .inl (cI, 53700, .inl r_all))] _ := hP
  have hD : va_D A [(h_act, .inl (cI, 780, .inl r_act)), (h_line, .inl (cI, 80, .inl r_line)), (h, .inr (10, [.ref h_all, .ref h_has, .int f_size, .int f_next_39, .int f_where_40, .int f_token_41, .int f_number_42, .int f_sign_43, .int f_word_44, .int f_wrong, .int f_open, .int f_lines, .int f_acts, .ref h_line, .ref h_act, .ref h_pile, .ref h_comes, .ref h_leaves, .ref h_tried, .ref h_met])), (h_all, .inl (cI, 53700, .inl r_all))] := hD
  refine lv_istore_n (lv' := [(3, .int r_45), (2, .int f_acts), (0, .ref h), (1, .int x1)]) hx hb dX11_aLine_59 rfl hl (by decide) rfl (fun ls hl => ?_)
  refine lv_iload_n hx hb dX11_aLine_60 rfl (lv_at hl 0 rfl) ?_
  refine lv_if_eq (tgt := 79) hx hb dX11_aLine_61 (by decide) (fun c_46 => ?_) (fun c_46 => ?_)
  · have hw := hw.1 c_46
    exact tX11_aLine_79 hC hK hA  x1 f_acts r_45 f_size f_next_39 f_where_40 f_token_41 f_number_42 f_sign_43 f_word_44 f_wrong f_open f_lines f_acts r_act r_all r_line _ _ ls hw (hP.sub [2, 0, 3, 1] rfl) (hD.sub [2, 0, 3, 1] (by decide) rfl) hS (lv_sub hl [2, 3, 1, 0] rfl)
  · have hw := hw.2 c_46
    refine lv_aload_n hx hb dX11_aLine_64 rfl (lv_at hl 2 rfl) ?_
    refine lv_iconst (v := (0 : Int32)) hx hb dX11_aLine_65 (by decide) ?_
    refine va_put (D := (dC, dI)) (ci := 10) (v := .int (0 : Int32)) (ty := .int) (C := RX11) (T := TX11) (N := 20) hx hb hts uX11_aLine_X11 tyX11 tyX11_ok nmX11 hown hK hP hD hS 2 rfl rfl 10 (by decide) (hts _ mX11_aLine_6) (fun _ h9 => h9) rfl (tyX11_ok 10 (by decide)) rfl rfl (Nat.le_of_ble_eq_true rfl) dX11_aLine_66 (fun H locs hP hD hS => ?_)
    have hP : va_P (dC, dI) vwCl [(h_act, .inl (cI, 780, .inl r_act)), (h_line, .inl (cI, 80, .inl r_line)), (h, .inr (10, [.ref h_all, .ref h_has, .int f_size, .int f_next_39, .int f_where_40, .int f_token_41, .int f_number_42, .int f_sign_43, .int f_word_44, .int f_wrong, .int (0 : Int32), .int f_lines, .int f_acts, .ref h_line, .ref h_act, .ref h_pile, .ref h_comes, .ref h_leaves, .ref h_tried, .ref h_met])), (h_all, .inl (cI, 53700, .inl r_all))] _ := hP
    have hD : va_D A [(h_act, .inl (cI, 780, .inl r_act)), (h_line, .inl (cI, 80, .inl r_line)), (h, .inr (10, [.ref h_all, .ref h_has, .int f_size, .int f_next_39, .int f_where_40, .int f_token_41, .int f_number_42, .int f_sign_43, .int f_word_44, .int f_wrong, .int (0 : Int32), .int f_lines, .int f_acts, .ref h_line, .ref h_act, .ref h_pile, .ref h_comes, .ref h_leaves, .ref h_tried, .ref h_met])), (h_all, .inl (cI, 53700, .inl r_all))] := hD
    refine lv_aload_n hx hb dX11_aLine_69 rfl (lv_at hl 2 rfl) ?_
    have hPc := hP.sub (ws' := [(h, .inr (10, [.ref h_all, .ref h_has, .int f_size, .int f_next_39, .int f_where_40, .int f_token_41, .int f_number_42, .int f_sign_43, .int f_word_44, .int f_wrong, .int (0 : Int32), .int f_lines, .int f_acts, .ref h_line, .ref h_act, .ref h_pile, .ref h_comes, .ref h_leaves, .ref h_tried, .ref h_met])), (h_act, .inl (cI, 780, .inl r_act)), (h_all, .inl (cI, 53700, .inl r_all))]) [2, 0, 3] rfl
    have hDc := hD.sub (ws' := [(h, .inr (10, [.ref h_all, .ref h_has, .int f_size, .int f_next_39, .int f_where_40, .int f_token_41, .int f_number_42, .int f_sign_43, .int f_word_44, .int f_wrong, .int (0 : Int32), .int f_lines, .int f_acts, .ref h_line, .ref h_act, .ref h_pile, .ref h_comes, .ref h_leaves, .ref h_tried, .ref h_met])), (h_act, .inl (cI, 780, .inl r_act)), (h_all, .inl (cI, 53700, .inl r_all))]) [2, 0, 3] (by decide) rfl
    have hFc := va_free (wc := [(h, .inr (10, [.ref h_all, .ref h_has, .int f_size, .int f_next_39, .int f_where_40, .int f_token_41, .int f_number_42, .int f_sign_43, .int f_word_44, .int f_wrong, .int (0 : Int32), .int f_lines, .int f_acts, .ref h_line, .ref h_act, .ref h_pile, .ref h_comes, .ref h_leaves, .ref h_tried, .ref h_met])), (h_act, .inl (cI, 780, .inl r_act)), (h_all, .inl (cI, 53700, .inl r_all))]) hD hS hA [2, 0, 3] rfl
    refine va_callv (va_runV (As := []) (rest := []) ⟨hx, hb, hml, hown, hts⟩ (kX11_anyOf l dC dI cI cZ cO cW h h_all h_has h_line h_act h_pile h_comes h_leaves h_tried h_met H.size f_lines f_size f_next_39 f_where_40 f_token_41 f_number_42 f_sign_43 f_word_44 f_wrong (0 : Int32) f_acts r_act r_all _ hw) (cwV 0 hts gX11_aLine_X11_anyOf rfl rfl rfl (by decide +kernel) ⟨Nat.le_of_ble_eq_true rfl, Nat.le_of_ble_eq_true rfl⟩) (pv_of hPc hK hDc (va_recv hK hPc (ci := 10) (q0 := 0) rfl rfl)) rfl rfl hl.1 rfl (lv_room (Nat.le_of_ble_eq_true rfl)) dX11_aLine_70 ⟨Nat.zero_le _, Nat.zero_le _⟩) hS (fun q _ h => hFc q h) hFc (fun u t H locs ht hvm hw hB hz1 hk1 hS => ?_)
    obtain ⟨f_next_47, f_where_48, f_token_49, f_number_50, f_sign_51, f_word_52, f_wrong_53, f_open_54, f_acts_55, r_act_56, r_all_57⟩ := u
    obtain ⟨hP, hD⟩ := af_join (wr := [(h_line, .inl (cI, 80, .inl r_line))]) (w1 := [(h, .inr (10, [.ref h_all, .ref h_has, .int f_size, .int f_next_47, .int f_where_48, .int f_token_49, .int f_number_50, .int f_sign_51, .int f_word_52, .int f_wrong_53, .int f_open_54, .int f_lines, .int f_acts_55, .ref h_line, .ref h_act, .ref h_pile, .ref h_comes, .ref h_leaves, .ref h_tried, .ref h_met])), (h_act, .inl (cI, 780, .inl r_act_56)), (h_all, .inl (cI, 53700, .inl r_all_57))]) hB ht hP hD [2, 0, 3] [1] rfl rfl (by decide) (by decide) hk1 hFc
    have hP : va_P (dC, dI) vwCl [(h_line, .inl (cI, 80, .inl r_line)), (h, .inr (10, [.ref h_all, .ref h_has, .int f_size, .int f_next_47, .int f_where_48, .int f_token_49, .int f_number_50, .int f_sign_51, .int f_word_52, .int f_wrong_53, .int f_open_54, .int f_lines, .int f_acts_55, .ref h_line, .ref h_act, .ref h_pile, .ref h_comes, .ref h_leaves, .ref h_tried, .ref h_met])), (h_act, .inl (cI, 780, .inl r_act_56)), (h_all, .inl (cI, 53700, .inl r_all_57))] _ := hP
    have hD : va_D A [(h_line, .inl (cI, 80, .inl r_line)), (h, .inr (10, [.ref h_all, .ref h_has, .int f_size, .int f_next_47, .int f_where_48, .int f_token_49, .int f_number_50, .int f_sign_51, .int f_word_52, .int f_wrong_53, .int f_open_54, .int f_lines, .int f_acts_55, .ref h_line, .ref h_act, .ref h_pile, .ref h_comes, .ref h_leaves, .ref h_tried, .ref h_met])), (h_act, .inl (cI, 780, .inl r_act_56)), (h_all, .inl (cI, 53700, .inl r_all_57))] := hD
    refine lv_aload_n hx hb dX11_aLine_73 rfl (lv_at hl 2 rfl) ?_
    refine lv_bipush (v := (58 : Int32)) hx hb dX11_aLine_74 (by decide) ?_
    have hPc := hP.sub (ws' := [(h, .inr (10, [.ref h_all, .ref h_has, .int f_size, .int f_next_47, .int f_where_48, .int f_token_49, .int f_number_50, .int f_sign_51, .int f_word_52, .int f_wrong_53, .int f_open_54, .int f_lines, .int f_acts_55, .ref h_line, .ref h_act, .ref h_pile, .ref h_comes, .ref h_leaves, .ref h_tried, .ref h_met])), (h_all, .inl (cI, 53700, .inl r_all_57))]) [1, 3] rfl
    have hDc := hD.sub (ws' := [(h, .inr (10, [.ref h_all, .ref h_has, .int f_size, .int f_next_47, .int f_where_48, .int f_token_49, .int f_number_50, .int f_sign_51, .int f_word_52, .int f_wrong_53, .int f_open_54, .int f_lines, .int f_acts_55, .ref h_line, .ref h_act, .ref h_pile, .ref h_comes, .ref h_leaves, .ref h_tried, .ref h_met])), (h_all, .inl (cI, 53700, .inl r_all_57))]) [1, 3] (by decide) rfl
    have hFc := va_free (wc := [(h, .inr (10, [.ref h_all, .ref h_has, .int f_size, .int f_next_47, .int f_where_48, .int f_token_49, .int f_number_50, .int f_sign_51, .int f_word_52, .int f_wrong_53, .int f_open_54, .int f_lines, .int f_acts_55, .ref h_line, .ref h_act, .ref h_pile, .ref h_comes, .ref h_leaves, .ref h_tried, .ref h_met])), (h_all, .inl (cI, 53700, .inl r_all_57))]) hD hS hA [1, 3] rfl
    refine va_callv (va_runV (As := [.int (58 : Int32)]) (rest := []) ⟨hx, hb, hml, hown, hts⟩ (kX11_must l dC dI cI cZ cO cW h h_all h_has h_line h_act h_pile h_comes h_leaves h_tried h_met H.size f_open_54 f_lines f_acts_55 f_size f_next_47 f_where_48 f_token_49 f_number_50 f_sign_51 f_word_52 f_wrong_53 r_all_57 (58 : Int32) _ hw) (cwV 1 hts gX11_aLine_X11_must rfl rfl rfl (by decide +kernel) ⟨Nat.le_of_ble_eq_true rfl, Nat.le_of_ble_eq_true rfl⟩) (pv_of hPc hK hDc (va_recv hK hPc (ci := 10) (q0 := 0) rfl rfl)) rfl rfl hl.1 rfl (lv_room (Nat.le_of_ble_eq_true rfl)) dX11_aLine_76 ⟨Nat.zero_le _, Nat.zero_le _⟩) hS (fun q _ h => hFc q h) hFc (fun u t H locs ht hvm hw hB hz1 hk1 hS => ?_)
    obtain ⟨f_next_58, f_where_59, f_token_60, f_number_61, f_sign_62, f_word_63, f_wrong_64, r_all_65⟩ := u
    obtain ⟨hP, hD⟩ := af_join (wr := [(h_line, .inl (cI, 80, .inl r_line)), (h_act, .inl (cI, 780, .inl r_act_56))]) (w1 := [(h, .inr (10, [.ref h_all, .ref h_has, .int f_size, .int f_next_58, .int f_where_59, .int f_token_60, .int f_number_61, .int f_sign_62, .int f_word_63, .int f_wrong_64, .int f_open_54, .int f_lines, .int f_acts_55, .ref h_line, .ref h_act, .ref h_pile, .ref h_comes, .ref h_leaves, .ref h_tried, .ref h_met])), (h_all, .inl (cI, 53700, .inl r_all_65))]) hB ht hP hD [1, 3] [0, 2] rfl rfl (by decide) (by decide) hk1 hFc
    have hP : va_P (dC, dI) vwCl [(h_line, .inl (cI, 80, .inl r_line)), (h_act, .inl (cI, 780, .inl r_act_56)), (h, .inr (10, [.ref h_all, .ref h_has, .int f_size, .int f_next_58, .int f_where_59, .int f_token_60, .int f_number_61, .int f_sign_62, .int f_word_63, .int f_wrong_64, .int f_open_54, .int f_lines, .int f_acts_55, .ref h_line, .ref h_act, .ref h_pile, .ref h_comes, .ref h_leaves, .ref h_tried, .ref h_met])), (h_all, .inl (cI, 53700, .inl r_all_65))] _ := hP
    have hD : va_D A [(h_line, .inl (cI, 80, .inl r_line)), (h_act, .inl (cI, 780, .inl r_act_56)), (h, .inr (10, [.ref h_all, .ref h_has, .int f_size, .int f_next_58, .int f_where_59, .int f_token_60, .int f_number_61, .int f_sign_62, .int f_word_63, .int f_wrong_64, .int f_open_54, .int f_lines, .int f_acts_55, .ref h_line, .ref h_act, .ref h_pile, .ref h_comes, .ref h_leaves, .ref h_tried, .ref h_met])), (h_all, .inl (cI, 53700, .inl r_all_65))] := hD
    exact tX11_aLine_79 hC hK hA  x1 f_acts r_45 f_size f_next_58 f_where_59 f_token_60 f_number_61 f_sign_62 f_word_63 f_wrong_64 f_open_54 f_lines f_acts_55 r_act_56 r_all_65 r_line _ _ ls hw (hP.sub [2, 1, 3, 0] rfl) (hD.sub [2, 1, 3, 0] (by decide) rfl) hS (lv_sub hl [2, 3, 1, 0] rfl)
set_option maxHeartbeats 4000000 in
set_option maxRecDepth 100000 in
theorem tX11_aLine_14 {p : Program} {l : Launch} {e : Env} {s : State} {m : MethodId} {args : Array Value} {below : List Frame} {meth : Method} {c : Code} {dC : Nat → ClassId} {dI : Nat → Nat → Nat} {cI cZ cO cW : ClassId} {A : Nat → Prop} {h h_all h_has h_line h_act h_pile h_comes h_leaves h_tried h_met : Nat} {Q : Int32 → Int32 → Int32 → Int32 → Int32 → Int32 → Int32 → Int32 → Int32 → Int32 → (Nat → Int32) → (Nat → Int32) → (Nat → Int32) → Prop}  (hC : Cx p s m args meth c cX11_aLine none 6 wsX11_aLine RX11) (hK : va_K (dC, dI) vwCl (tysA cI cZ cO cW) s) (hA : ∀ q : Nat, s.heap.size ≤ q → A q) :
    ∀ (s0 : Int32) (f_size : Int32) (f_next : Int32) (f_where : Int32) (f_token : Int32) (f_number : Int32) (f_sign : Int32) (f_word : Int32) (f_wrong : Int32) (f_open : Int32) (f_lines : Int32) (f_acts : Int32) (r_act : (Nat → Int32)) (r_all : (Nat → Int32)) (r_line : (Nat → Int32)) (H : Heap) (locs : List Loc) (ls : Array Slot), wX11_aLine_14 Q  s0 f_size f_next f_where f_token f_number f_sign f_word f_wrong f_open f_lines f_acts r_act r_all r_line → va_P (dC, dI) vwCl (vX11_aLine cI cZ h h_all h_has h_line h_act h_pile h_comes h_leaves h_tried h_met f_size f_next f_where f_token f_number f_sign f_word f_wrong f_open f_lines f_acts r_act r_all r_line) H → va_D A (vX11_aLine cI cZ h h_all h_has h_line h_act h_pile h_comes h_leaves h_tried h_met f_size f_next f_where f_token f_number f_sign f_word f_wrong f_open f_lines f_acts r_act r_all r_line) → va_S A s.heap H locs → lv_has ls 6 [(0, .ref h)] → W p l e rmX11_aLine s m args below meth c H locs 0 0 (MQ below (qX11_aLine dC dI cI cZ cO cW h h_all h_has h_line h_act h_pile h_comes h_leaves h_tried h_met f_size Q A) args s 0 0 A) (F0 m 14 ls [.int s0]) := by
  obtain ⟨hx, hb, hr, hml, hown, hts, hlocks⟩ := id hC
  intro s0 f_size f_next f_where f_token f_number f_sign f_word f_wrong f_open f_lines f_acts r_act r_all r_line H locs ls hw hP hD hS hl
  refine lv_istore_n (lv' := [(1, .int s0), (0, .ref h)]) hx hb dX11_aLine_14 rfl hl (by decide) rfl (fun ls hl => ?_)
  refine lv_iload_n hx hb dX11_aLine_15 rfl (lv_at hl 0 rfl) ?_
  refine lv_if_eq (tgt := 48) hx hb dX11_aLine_16 (by decide) (fun c_66 => ?_) (fun c_66 => ?_)
  · have hw := hw.1 c_66
    exact tX11_aLine_48 hC hK hA  s0 f_size f_next f_where f_token f_number f_sign f_word f_wrong f_open f_lines f_acts r_act r_all r_line _ _ ls hw (hP.sub [0, 1, 2, 3] rfl) (hD.sub [0, 1, 2, 3] (by decide) rfl) hS (lv_sub hl [1, 0] rfl)
  · have hw := hw.2 c_66
    refine lv_aload_n hx hb dX11_aLine_19 rfl (lv_at hl 1 rfl) ?_
    refine va_get (D := (dC, dI)) (ci := 10) (v := .ref h_all) (C := RX11) (T := TX11) (N := 20) hx hb hts uX11_aLine_X11 hown hK hP 0 rfl rfl 0 (by decide) (hts _ mX11_aLine_7) (fun _ h9 => h9) rfl dX11_aLine_20 ?_
    refine lv_bipush (v := (10 : Int32)) hx hb dX11_aLine_23 (by decide) ?_
    obtain ⟨h_67, hw⟩ := hw
    refine va_iald hx hb hK hP 2 0 rfl rfl h_67 dX11_aLine_25 ?_
    refine lv_if_ne (tgt := 48) hx hb dX11_aLine_26 (by decide) (fun c_68 => ?_) (fun c_68 => ?_)
    · have hw := hw.1 c_68
      exact tX11_aLine_48 hC hK hA  s0 f_size f_next f_where f_token f_number f_sign f_word f_wrong f_open f_lines f_acts r_act r_all r_line _ _ ls hw (hP.sub [0, 1, 2, 3] rfl) (hD.sub [0, 1, 2, 3] (by decide) rfl) hS (lv_sub hl [1, 0] rfl)
    · have hw := hw.2 c_68
      refine lv_aload_n hx hb dX11_aLine_29 rfl (lv_at hl 1 rfl) ?_
      refine va_get (D := (dC, dI)) (ci := 10) (v := .ref h_all) (C := RX11) (T := TX11) (N := 20) hx hb hts uX11_aLine_X11 hown hK hP 0 rfl rfl 0 (by decide) (hts _ mX11_aLine_7) (fun _ h9 => h9) rfl dX11_aLine_30 ?_
      refine lv_bipush (v := (10 : Int32)) hx hb dX11_aLine_33 (by decide) ?_
      refine lv_iconst (v := (2 : Int32)) hx hb dX11_aLine_35 (by decide) ?_
      obtain ⟨h_69, hw⟩ := hw
      refine va_iast hx hb hK hP hD hS 2 0 rfl rfl h_69 dX11_aLine_36 (fun H locs hP hD hS => ?_)
      have hP : va_P (dC, dI) vwCl [(h, .inr (10, [.ref h_all, .ref h_has, .int f_size, .int f_next, .int f_where, .int f_token, .int f_number, .int f_sign, .int f_word, .int f_wrong, .int f_open, .int f_lines, .int f_acts, .ref h_line, .ref h_act, .ref h_pile, .ref h_comes, .ref h_leaves, .ref h_tried, .ref h_met])), (h_act, .inl (cI, 780, .inl r_act)), (h_all, .inl (cI, 53700, .inl (upd r_all (10 : Int32).toNatClampNeg (2 : Int32)))), (h_line, .inl (cI, 80, .inl r_line))] _ := hP
      have hD : va_D A [(h, .inr (10, [.ref h_all, .ref h_has, .int f_size, .int f_next, .int f_where, .int f_token, .int f_number, .int f_sign, .int f_word, .int f_wrong, .int f_open, .int f_lines, .int f_acts, .ref h_line, .ref h_act, .ref h_pile, .ref h_comes, .ref h_leaves, .ref h_tried, .ref h_met])), (h_act, .inl (cI, 780, .inl r_act)), (h_all, .inl (cI, 53700, .inl (upd r_all (10 : Int32).toNatClampNeg (2 : Int32)))), (h_line, .inl (cI, 80, .inl r_line))] := hD
      refine lv_aload_n hx hb dX11_aLine_37 rfl (lv_at hl 1 rfl) ?_
      refine va_get (D := (dC, dI)) (ci := 10) (v := .ref h_all) (C := RX11) (T := TX11) (N := 20) hx hb hts uX11_aLine_X11 hown hK hP 0 rfl rfl 0 (by decide) (hts _ mX11_aLine_7) (fun _ h9 => h9) rfl dX11_aLine_38 ?_
      refine lv_bipush (v := (11 : Int32)) hx hb dX11_aLine_41 (by decide) ?_
      refine lv_aload_n hx hb dX11_aLine_43 rfl (lv_at hl 1 rfl) ?_
      refine va_get (D := (dC, dI)) (ci := 10) (v := .int f_where) (C := RX11) (T := TX11) (N := 20) hx hb hts uX11_aLine_X11 hown hK hP 0 rfl rfl 4 (by decide) (hts _ mX11_aLine_8) (fun _ h9 => h9) rfl dX11_aLine_44 ?_
      obtain ⟨h_70, hw⟩ := hw
      refine va_iast hx hb hK hP hD hS 2 0 rfl rfl h_70 dX11_aLine_47 (fun H locs hP hD hS => ?_)
      have hP : va_P (dC, dI) vwCl [(h, .inr (10, [.ref h_all, .ref h_has, .int f_size, .int f_next, .int f_where, .int f_token, .int f_number, .int f_sign, .int f_word, .int f_wrong, .int f_open, .int f_lines, .int f_acts, .ref h_line, .ref h_act, .ref h_pile, .ref h_comes, .ref h_leaves, .ref h_tried, .ref h_met])), (h_act, .inl (cI, 780, .inl r_act)), (h_all, .inl (cI, 53700, .inl (upd (upd r_all (10 : Int32).toNatClampNeg (2 : Int32)) (11 : Int32).toNatClampNeg f_where))), (h_line, .inl (cI, 80, .inl r_line))] _ := hP
      have hD : va_D A [(h, .inr (10, [.ref h_all, .ref h_has, .int f_size, .int f_next, .int f_where, .int f_token, .int f_number, .int f_sign, .int f_word, .int f_wrong, .int f_open, .int f_lines, .int f_acts, .ref h_line, .ref h_act, .ref h_pile, .ref h_comes, .ref h_leaves, .ref h_tried, .ref h_met])), (h_act, .inl (cI, 780, .inl r_act)), (h_all, .inl (cI, 53700, .inl (upd (upd r_all (10 : Int32).toNatClampNeg (2 : Int32)) (11 : Int32).toNatClampNeg f_where))), (h_line, .inl (cI, 80, .inl r_line))] := hD
      exact tX11_aLine_48 hC hK hA  s0 f_size f_next f_where f_token f_number f_sign f_word f_wrong f_open f_lines f_acts r_act (upd (upd r_all (10 : Int32).toNatClampNeg (2 : Int32)) (11 : Int32).toNatClampNeg f_where) r_line _ _ ls hw (hP.sub [0, 1, 2, 3] rfl) (hD.sub [0, 1, 2, 3] (by decide) rfl) hS (lv_sub hl [1, 0] rfl)
set_option maxHeartbeats 4000000 in
set_option maxRecDepth 100000 in
theorem tX11_aLine_e {p : Program} {l : Launch} {e : Env} {s : State} {m : MethodId} {args : Array Value} {below : List Frame} {meth : Method} {c : Code} {dC : Nat → ClassId} {dI : Nat → Nat → Nat} {cI cZ cO cW : ClassId} {A : Nat → Prop} {h h_all h_has h_line h_act h_pile h_comes h_leaves h_tried h_met : Nat} {Q : Int32 → Int32 → Int32 → Int32 → Int32 → Int32 → Int32 → Int32 → Int32 → Int32 → (Nat → Int32) → (Nat → Int32) → (Nat → Int32) → Prop} (hC : Cx p s m args meth c cX11_aLine none 6 wsX11_aLine RX11) (hK : va_K (dC, dI) vwCl (tysA cI cZ cO cW) s) (hA : ∀ q : Nat, s.heap.size ≤ q → A q) :
    ∀ (f_size : Int32) (f_next : Int32) (f_where : Int32) (f_token : Int32) (f_number : Int32) (f_sign : Int32) (f_word : Int32) (f_wrong : Int32) (f_open : Int32) (f_lines : Int32) (f_acts : Int32) (r_act : Nat → Int32) (r_all : Nat → Int32) (r_line : Nat → Int32) (H : Heap) (locs : List Loc) (ls : Array Slot), wX11_aLine Q  f_size f_next f_where f_token f_number f_sign f_word f_wrong f_open f_lines f_acts r_act r_all r_line → va_P (dC, dI) vwCl (vX11_aLine cI cZ h h_all h_has h_line h_act h_pile h_comes h_leaves h_tried h_met f_size f_next f_where f_token f_number f_sign f_word f_wrong f_open f_lines f_acts r_act r_all r_line) H → va_D A (vX11_aLine cI cZ h h_all h_has h_line h_act h_pile h_comes h_leaves h_tried h_met f_size f_next f_where f_token f_number f_sign f_word f_wrong f_open f_lines f_acts r_act r_all r_line) → va_S A s.heap H locs → lv_has ls 6 [(0, .ref h)] → W p l e rmX11_aLine s m args below meth c H locs 0 0 (MQ below (qX11_aLine dC dI cI cZ cO cW h h_all h_has h_line h_act h_pile h_comes h_leaves h_tried h_met f_size Q A) args s 0 0 A) (F0 m 0 ls []) := by
  obtain ⟨hx, hb, hr, hml, hown, hts, hlocks⟩ := id hC
  intro  f_size f_next f_where f_token f_number f_sign f_word f_wrong f_open f_lines f_acts r_act r_all r_line H locs ls hw hP hD hS hl
  refine lv_aload_n hx hb dX11_aLine_0 rfl (lv_at hl 0 rfl) ?_
  refine va_get (D := (dC, dI)) (ci := 10) (v := .int f_lines) (C := RX11) (T := TX11) (N := 20) hx hb hts uX11_aLine_X11 hown hK hP 0 rfl rfl 11 (by decide) (hts _ mX11_aLine_0) (fun _ h9 => h9) rfl dX11_aLine_1 ?_
  refine lv_bipush (v := (20 : Int32)) hx hb dX11_aLine_4 (by decide) ?_
  refine lv_icmp_lt (tgt := 13) hx hb dX11_aLine_6 (by decide) (fun c_71 => ?_) (fun c_71 => ?_)
  · have hw := hw.1 c_71
    refine lv_iconst (v := (0 : Int32)) hx hb dX11_aLine_13 (by decide) ?_
    exact tX11_aLine_14 hC hK hA  (0 : Int32) f_size f_next f_where f_token f_number f_sign f_word f_wrong f_open f_lines f_acts r_act r_all r_line _ _ ls hw (hP.sub [0, 1, 2, 3] rfl) (hD.sub [0, 1, 2, 3] (by decide) rfl) hS (lv_sub hl [0] rfl)
  · have hw := hw.2 c_71
    refine lv_iconst (v := (1 : Int32)) hx hb dX11_aLine_9 (by decide) ?_
    refine lv_goto (tgt := 14) hx hb dX11_aLine_10 (by decide) ?_
    exact tX11_aLine_14 hC hK hA  (1 : Int32) f_size f_next f_where f_token f_number f_sign f_word f_wrong f_open f_lines f_acts r_act r_all r_line _ _ ls hw (hP.sub [0, 1, 2, 3] rfl) (hD.sub [0, 1, 2, 3] (by decide) rfl) hS (lv_sub hl [0] rfl)
set_option maxHeartbeats 4000000 in
set_option maxRecDepth 100000 in
theorem kX11_aLine (l : Launch) (dC : Nat → ClassId) (dI : Nat → Nat → Nat) (cI cZ cO cW : ClassId) (h h_all h_has h_line h_act h_pile h_comes h_leaves h_tried h_met : Nat)  (sz : Nat) (f_size : Int32) (f_next : Int32) (f_where : Int32) (f_token : Int32) (f_number : Int32) (f_sign : Int32) (f_word : Int32) (f_wrong : Int32) (f_open : Int32) (f_lines : Int32) (f_acts : Int32) (r_act : Nat → Int32) (r_all : Nat → Int32) (r_line : Nat → Int32)  (Q : Int32 → Int32 → Int32 → Int32 → Int32 → Int32 → Int32 → Int32 → Int32 → Int32 → (Nat → Int32) → (Nat → Int32) → (Nat → Int32) → Prop) (hw : wX11_aLine Q  f_size f_next f_where f_token f_number f_sign f_word f_wrong f_open f_lines f_acts r_act r_all r_line) : Met l yX11_aLine wsX11_aLine rmX11_aLine (va_Pc [.ref h] (fun U => U.heap.size = sz ∧ va_P (dC, dI) vwCl (vX11_aLine cI cZ h h_all h_has h_line h_act h_pile h_comes h_leaves h_tried h_met f_size f_next f_where f_token f_number f_sign f_word f_wrong f_open f_lines f_acts r_act r_all r_line) U.heap ∧ va_K (dC, dI) vwCl (tysA cI cZ cO cW) U ∧ va_D (fun _ => True) (vX11_aLine cI cZ h h_all h_has h_line h_act h_pile h_comes h_leaves h_tried h_met f_size f_next f_where f_token f_number f_sign f_word f_wrong f_open f_lines f_acts r_act r_all r_line))) (qX11_aLine dC dI cI cZ cO cW h h_all h_has h_line h_act h_pile h_comes h_leaves h_tried h_met f_size Q (va_A (vX11_aLine cI cZ h h_all h_has h_line h_act h_pile h_comes h_leaves h_tried h_met f_size f_next f_where f_token f_number f_sign f_word f_wrong f_open f_lines f_acts r_act r_all r_line) sz)) 0 0 (va_A (vX11_aLine cI cZ h h_all h_has h_line h_act h_pile h_comes h_leaves h_tried h_met f_size f_next f_where f_token f_number f_sign f_word f_wrong f_open f_lines f_acts r_act r_all r_line) sz) := by
  refine Met.ofW (cc := cX11_aLine) (maxL := 6) (ret := none) (by decide) rfl ?_
  intro p e s m args below meth c s₁ B hml hv
  obtain ⟨rfl, hsz, hP, hK, hD0⟩ := hv
  subst hsz
  have hC : Cx p s m ([.ref h] : List Value).toArray meth c cX11_aLine none 6 wsX11_aLine RX11 := ⟨B.exec, B.bytes, B.returns, hml, findClass_of_methodNamed B.named, atoms_spec (ws := wsX11_aLine) B.pre, B.notSynchronized⟩
  have hD := hD0.self (sz := s.heap.size)
  generalize hAe : va_A (vX11_aLine cI cZ h h_all h_has h_line h_act h_pile h_comes h_leaves h_tried h_met f_size f_next f_where f_token f_number f_sign f_word f_wrong f_open f_lines f_acts r_act r_all r_line) s.heap.size = A at hD ⊢
  have hA : ∀ q : Nat, s.heap.size ≤ q → A q := fun q h => by rw [← hAe]; exact Or.inr h
  have hl := lv_entry ([.ref h]) (n := 6) (Nat.le_of_ble_eq_true rfl)
  rw [lg_entry_eq]
  generalize (lg_sl ([.ref h]) ++ List.replicate (6 - (lg_sl ([.ref h])).length) Slot.unset).toArray = ls at hl ⊢
  exact tX11_aLine_e hC hK hA  f_size f_next f_where f_token f_number f_sign f_word f_wrong f_open f_lines f_acts r_act r_all r_line _ _ ls hw hP hD va_S.rf hl

/-! X11_orders -/
def wX11_orders_140 (Q : Int32 → Int32 → Int32 → Int32 → Int32 → Int32 → Int32 → Int32 → Int32 → Int32 → Int32 → Int32 → (Nat → Int32) → (Nat → Int32) → (Nat → Int32) → Prop)   : Nat → Int32 → Int32 → Int32 → Int32 → Int32 → Int32 → Int32 → Int32 → Int32 → Int32 → Int32 → Int32 → Int32 → (Nat → Int32) → (Nat → Int32) → (Nat → Int32) → Prop
  | 0, _, _, _, _, _, _, _, _, _, _, _, _, _, _, _, _ => False
  | n + 1, x1, x2, f_size, f_next, f_where, f_token, f_number, f_sign, f_word, f_wrong, f_open, f_lines, f_acts, r_act, r_all, r_line => (((780 : Int32) ≤ x2 → (wX11_ships (fun r_all_2 => (Q f_lines f_size f_next f_where f_token f_number f_sign f_word f_wrong f_open f_lines f_acts r_act r_all_2 r_line)) x1 (8 : Int32) f_lines r_all)) ∧ (¬ (780 : Int32) ≤ x2 → (vp_in x2 780 ∧ (vp_in (((4100 : Int32) + ((780 : Int32) * x1)) + x2) 53700 ∧ (wX11_orders_140 Q n x1 (x2 + (1 : Int32)) f_size f_next f_where f_token f_number f_sign f_word f_wrong f_open f_lines f_acts r_act (upd r_all (((4100 : Int32) + ((780 : Int32) * x1)) + x2).toNatClampNeg (r_act x2.toNatClampNeg)) r_line)))))
def wX11_orders_105 (Q : Int32 → Int32 → Int32 → Int32 → Int32 → Int32 → Int32 → Int32 → Int32 → Int32 → Int32 → Int32 → (Nat → Int32) → (Nat → Int32) → (Nat → Int32) → Prop)   : Nat → Int32 → Int32 → Int32 → Int32 → Int32 → Int32 → Int32 → Int32 → Int32 → Int32 → Int32 → Int32 → Int32 → (Nat → Int32) → (Nat → Int32) → (Nat → Int32) → Prop
  | 0, _, _, _, _, _, _, _, _, _, _, _, _, _, _, _, _ => False
  | n + 1, x1, x2, f_size, f_next, f_where, f_token, f_number, f_sign, f_word, f_wrong, f_open, f_lines, f_acts, r_act, r_all, r_line => (((80 : Int32) ≤ x2 → (∃ j_, wX11_orders_140 Q j_ x1 (0 : Int32) f_size f_next f_where f_token f_number f_sign f_word f_wrong f_open f_lines f_acts r_act r_all r_line)) ∧ (¬ (80 : Int32) ≤ x2 → (vp_in x2 80 ∧ (vp_in (((3460 : Int32) + ((80 : Int32) * x1)) + x2) 53700 ∧ (wX11_orders_105 Q n x1 (x2 + (1 : Int32)) f_size f_next f_where f_token f_number f_sign f_word f_wrong f_open f_lines f_acts r_act (upd r_all (((3460 : Int32) + ((80 : Int32) * x1)) + x2).toNatClampNeg (r_line x2.toNatClampNeg)) r_line)))))
def wX11_orders_91 (Q : Int32 → Int32 → Int32 → Int32 → Int32 → Int32 → Int32 → Int32 → Int32 → Int32 → Int32 → Int32 → (Nat → Int32) → (Nat → Int32) → (Nat → Int32) → Prop)   (x1 : Int32) (f_size : Int32) (f_next : Int32) (f_where : Int32) (f_token : Int32) (f_number : Int32) (f_sign : Int32) (f_word : Int32) (f_wrong : Int32) (f_open : Int32) (f_lines : Int32) (f_acts : Int32) (r_act : (Nat → Int32)) (r_all : (Nat → Int32)) (r_line : (Nat → Int32)) : Prop :=
  (vp_in (10 : Int32) 53700 ∧ (((r_all (10 : Int32).toNatClampNeg) = 0 → (∃ j_, wX11_orders_105 Q j_ x1 (0 : Int32) f_size f_next f_where f_token f_number f_sign f_word f_wrong f_open f_lines f_acts r_act r_all r_line)) ∧ (¬ (r_all (10 : Int32).toNatClampNeg) = 0 → (Q (-1 : Int32) f_size f_next f_where f_token f_number f_sign f_word f_wrong f_open f_lines f_acts r_act r_all r_line))))
def wX11_orders_70 (Q : Int32 → Int32 → Int32 → Int32 → Int32 → Int32 → Int32 → Int32 → Int32 → Int32 → Int32 → Int32 → (Nat → Int32) → (Nat → Int32) → (Nat → Int32) → Prop)   : Nat → Int32 → Int32 → Int32 → Int32 → Int32 → Int32 → Int32 → Int32 → Int32 → Int32 → Int32 → Int32 → (Nat → Int32) → (Nat → Int32) → (Nat → Int32) → Prop
  | 0, _, _, _, _, _, _, _, _, _, _, _, _, _, _, _ => False
  | n + 1, x1, f_size, f_next, f_where, f_token, f_number, f_sign, f_word, f_wrong, f_open, f_lines, f_acts, r_act, r_all, r_line => ((¬ f_wrong = 0 → (wX11_orders_91 Q x1 f_size f_next f_where f_token f_number f_sign f_word f_wrong f_open f_lines f_acts r_act r_all r_line)) ∧ (f_wrong = 0 → ((f_token = 0 → (wX11_orders_91 Q x1 f_size f_next f_where f_token f_number f_sign f_word f_wrong f_open f_lines f_acts r_act r_all r_line)) ∧ (¬ f_token = 0 → (wX11_aLine (fun f_next_14 f_where_15 f_token_16 f_number_17 f_sign_18 f_word_19 f_wrong_20 f_open_21 f_lines_22 f_acts_23 r_act_24 r_all_25 r_line_26 => (wX11_orders_70 Q n x1 f_size f_next_14 f_where_15 f_token_16 f_number_17 f_sign_18 f_word_19 f_wrong_20 f_open_21 f_lines_22 f_acts_23 r_act_24 r_all_25 r_line_26)) f_size f_next f_where f_token f_number f_sign f_word f_wrong f_open f_lines f_acts r_act r_all r_line)))))
def wX11_orders (Q : Int32 → Int32 → Int32 → Int32 → Int32 → Int32 → Int32 → Int32 → Int32 → Int32 → Int32 → Int32 → (Nat → Int32) → (Nat → Int32) → (Nat → Int32) → Prop) (x1 : Int32) (f_size : Int32) (f_next : Int32) (f_where : Int32) (f_token : Int32) (f_number : Int32) (f_sign : Int32) (f_word : Int32) (f_wrong : Int32) (f_open : Int32) (f_lines : Int32) (f_acts : Int32) (r_act : Nat → Int32) (r_all : Nat → Int32) (r_line : Nat → Int32) : Prop :=
  (wX11_isShip (fun r_27 => ((¬ r_27 = 0 → (vp_in (9 : Int32) 53700 ∧ (vp_in (9 : Int32) 53700 ∧ (vp_in (10 : Int32) 53700 ∧ (vp_in (11 : Int32) 53700 ∧ (wX11_advance (fun f_next_33 f_where_34 f_token_35 f_number_36 f_sign_37 f_word_38 => (∃ j_, wX11_orders_70 Q j_ x1 (r_all (9 : Int32).toNatClampNeg) f_next_33 f_where_34 f_token_35 f_number_36 f_sign_37 f_word_38 (0 : Int32) f_open (0 : Int32) (0 : Int32) r_act (upd (upd (upd r_all (9 : Int32).toNatClampNeg (0 : Int32)) (10 : Int32).toNatClampNeg (0 : Int32)) (11 : Int32).toNatClampNeg (-1 : Int32)) r_line)) (r_all (9 : Int32).toNatClampNeg) (0 : Int32) f_where f_token f_number f_sign f_word (upd (upd (upd r_all (9 : Int32).toNatClampNeg (0 : Int32)) (10 : Int32).toNatClampNeg (0 : Int32)) (11 : Int32).toNatClampNeg (-1 : Int32)))))))) ∧ (r_27 = 0 → (Q (-2 : Int32) f_size f_next f_where f_token f_number f_sign f_word f_wrong f_open f_lines f_acts r_act r_all r_line)))) x1 r_all)
abbrev vX11_orders (cI cZ : ClassId) (h h_all h_has h_line h_act h_pile h_comes h_leaves h_tried h_met : Nat) (f_size : Int32) (f_next : Int32) (f_where : Int32) (f_token : Int32) (f_number : Int32) (f_sign : Int32) (f_word : Int32) (f_wrong : Int32) (f_open : Int32) (f_lines : Int32) (f_acts : Int32) (r_act : Nat → Int32) (r_all : Nat → Int32) (r_line : Nat → Int32) : va_W := [(h, .inr (10, [.ref h_all, .ref h_has, .int f_size, .int f_next, .int f_where, .int f_token, .int f_number, .int f_sign, .int f_word, .int f_wrong, .int f_open, .int f_lines, .int f_acts, .ref h_line, .ref h_act, .ref h_pile, .ref h_comes, .ref h_leaves, .ref h_tried, .ref h_met])), (h_act, .inl (cI, 780, .inl r_act)), (h_all, .inl (cI, 53700, .inl r_all)), (h_line, .inl (cI, 80, .inl r_line))]
abbrev rmX11_orders : Room := { frames := 47, cells := 0, slots := 0, locals := 984 }
abbrev qX11_orders (dC : Nat → ClassId) (dI : Nat → Nat → Nat) (cI cZ cO cW : ClassId) (h h_all h_has h_line h_act h_pile h_comes h_leaves h_tried h_met : Nat)  (Q : Int32 → Int32 → Int32 → Int32 → Int32 → Int32 → Int32 → Int32 → Int32 → Int32 → Int32 → Int32 → (Nat → Int32) → (Nat → Int32) → (Nat → Int32) → Prop) (A : Nat → Prop) : Array Value → State → Outcome → State → Prop := va_Qi (fun (r : Int32) (u : Int32 × Int32 × Int32 × Int32 × Int32 × Int32 × Int32 × Int32 × Int32 × Int32 × Int32 × (Nat → Int32) × (Nat → Int32) × (Nat → Int32)) => Q r u.1 u.2.1 u.2.2.1 u.2.2.2.1 u.2.2.2.2.1 u.2.2.2.2.2.1 u.2.2.2.2.2.2.1 u.2.2.2.2.2.2.2.1 u.2.2.2.2.2.2.2.2.1 u.2.2.2.2.2.2.2.2.2.1 u.2.2.2.2.2.2.2.2.2.2.1 u.2.2.2.2.2.2.2.2.2.2.2.1 u.2.2.2.2.2.2.2.2.2.2.2.2.1 u.2.2.2.2.2.2.2.2.2.2.2.2.2) (fun (u : Int32 × Int32 × Int32 × Int32 × Int32 × Int32 × Int32 × Int32 × Int32 × Int32 × Int32 × (Nat → Int32) × (Nat → Int32) × (Nat → Int32)) (t : State) => va_P (dC, dI) vwCl (vX11_orders cI cZ h h_all h_has h_line h_act h_pile h_comes h_leaves h_tried h_met u.1 u.2.1 u.2.2.1 u.2.2.2.1 u.2.2.2.2.1 u.2.2.2.2.2.1 u.2.2.2.2.2.2.1 u.2.2.2.2.2.2.2.1 u.2.2.2.2.2.2.2.2.1 u.2.2.2.2.2.2.2.2.2.1 u.2.2.2.2.2.2.2.2.2.2.1 u.2.2.2.2.2.2.2.2.2.2.2.1 u.2.2.2.2.2.2.2.2.2.2.2.2.1 u.2.2.2.2.2.2.2.2.2.2.2.2.2) t.heap ∧ va_K (dC, dI) vwCl (tysA cI cZ cO cW) t ∧ va_D A (vX11_orders cI cZ h h_all h_has h_line h_act h_pile h_comes h_leaves h_tried h_met u.1 u.2.1 u.2.2.1 u.2.2.2.1 u.2.2.2.2.1 u.2.2.2.2.2.1 u.2.2.2.2.2.2.1 u.2.2.2.2.2.2.2.1 u.2.2.2.2.2.2.2.2.1 u.2.2.2.2.2.2.2.2.2.1 u.2.2.2.2.2.2.2.2.2.2.1 u.2.2.2.2.2.2.2.2.2.2.2.1 u.2.2.2.2.2.2.2.2.2.2.2.2.1 u.2.2.2.2.2.2.2.2.2.2.2.2.2)) A
theorem mX11_orders_0 : Cond.fieldLink RX11 187 "IcePilotsModel" "lines" "I" ∈ wsX11_orders := by decide +kernel
theorem mX11_orders_1 : Cond.fieldLink RX11 8 "IcePilotsModel" "all" "[I" ∈ wsX11_orders := by decide +kernel
theorem mX11_orders_2 : Cond.fieldLink RX11 21 "IcePilotsModel" "act" "[I" ∈ wsX11_orders := by decide +kernel
theorem mX11_orders_3 : Cond.fieldLink RX11 18 "IcePilotsModel" "line" "[I" ∈ wsX11_orders := by decide +kernel
theorem mX11_orders_4 : Cond.fieldLink RX11 139 "IcePilotsModel" "wrong" "Z" ∈ wsX11_orders := by decide +kernel
theorem mX11_orders_5 : Cond.fieldLink RX11 113 "IcePilotsModel" "token" "I" ∈ wsX11_orders := by decide +kernel
theorem mX11_orders_6 : Cond.fieldLink RX11 155 "IcePilotsModel" "acts" "I" ∈ wsX11_orders := by decide +kernel
theorem mX11_orders_7 : Cond.fieldLink RX11 103 "IcePilotsModel" "next" "I" ∈ wsX11_orders := by decide +kernel
theorem mX11_orders_8 : Cond.fieldLink RX11 73 "IcePilotsModel" "size" "I" ∈ wsX11_orders := by decide +kernel
theorem uX11_orders_X11 : ∀ w ∈ u_ws RX11 TX11 20, w ∈ wsX11_orders := by decide +kernel
set_option maxHeartbeats 4000000 in
set_option maxRecDepth 100000 in
theorem tX11_orders_140 {p : Program} {l : Launch} {e : Env} {s : State} {m : MethodId} {args : Array Value} {below : List Frame} {meth : Method} {c : Code} {dC : Nat → ClassId} {dI : Nat → Nat → Nat} {cI cZ cO cW : ClassId} {A : Nat → Prop} {h h_all h_has h_line h_act h_pile h_comes h_leaves h_tried h_met : Nat} {Q : Int32 → Int32 → Int32 → Int32 → Int32 → Int32 → Int32 → Int32 → Int32 → Int32 → Int32 → Int32 → (Nat → Int32) → (Nat → Int32) → (Nat → Int32) → Prop}  (hC : Cx p s m args meth c cX11_orders (some .int) 3 wsX11_orders RX11) (hK : va_K (dC, dI) vwCl (tysA cI cZ cO cW) s) (hA : ∀ q : Nat, s.heap.size ≤ q → A q) :
    ∀ (n : Nat) (x1 : Int32) (x2 : Int32) (f_size : Int32) (f_next : Int32) (f_where : Int32) (f_token : Int32) (f_number : Int32) (f_sign : Int32) (f_word : Int32) (f_wrong : Int32) (f_open : Int32) (f_lines : Int32) (f_acts : Int32) (r_act : (Nat → Int32)) (r_all : (Nat → Int32)) (r_line : (Nat → Int32)) (H : Heap) (locs : List Loc) (ls : Array Slot), wX11_orders_140 Q  n x1 x2 f_size f_next f_where f_token f_number f_sign f_word f_wrong f_open f_lines f_acts r_act r_all r_line → va_P (dC, dI) vwCl (vX11_orders cI cZ h h_all h_has h_line h_act h_pile h_comes h_leaves h_tried h_met f_size f_next f_where f_token f_number f_sign f_word f_wrong f_open f_lines f_acts r_act r_all r_line) H → va_D A (vX11_orders cI cZ h h_all h_has h_line h_act h_pile h_comes h_leaves h_tried h_met f_size f_next f_where f_token f_number f_sign f_word f_wrong f_open f_lines f_acts r_act r_all r_line) → va_S A s.heap H locs → lv_has ls 3 [(0, .ref h), (1, .int x1), (2, .int x2)] → W p l e rmX11_orders s m args below meth c H locs 0 0 (MQ below (qX11_orders dC dI cI cZ cO cW h h_all h_has h_line h_act h_pile h_comes h_leaves h_tried h_met Q A) args s 0 0 A) (F0 m 140 ls []) := by
  obtain ⟨hx, hb, hr, hml, hown, hts, hlocks⟩ := id hC
  intro n
  induction n with
  | zero =>
    intro x1 x2 f_size f_next f_where f_token f_number f_sign f_word f_wrong f_open f_lines f_acts r_act r_all r_line H locs ls hw
    exact hw.elim
  | succ n ih =>
    intro x1 x2 f_size f_next f_where f_token f_number f_sign f_word f_wrong f_open f_lines f_acts r_act r_all r_line H locs ls hw hP hD hS hl
    refine lv_iload_n hx hb dX11_orders_140 rfl (lv_at hl 2 rfl) ?_
    refine lv_sipush (v := (780 : Int32)) hx hb dX11_orders_141 (by decide) ?_
    refine lv_icmp_ge (tgt := 175) hx hb dX11_orders_144 (by decide) (fun c_1 => ?_) (fun c_1 => ?_)
    · have hw := hw.1 c_1
      refine lv_aload_n hx hb dX11_orders_175 rfl (lv_at hl 0 rfl) ?_
      refine lv_iload_n hx hb dX11_orders_176 rfl (lv_at hl 1 rfl) ?_
      refine lv_bipush (v := (8 : Int32)) hx hb dX11_orders_177 (by decide) ?_
      refine lv_aload_n hx hb dX11_orders_179 rfl (lv_at hl 0 rfl) ?_
      refine va_get (D := (dC, dI)) (ci := 10) (v := .int f_lines) (C := RX11) (T := TX11) (N := 20) hx hb hts uX11_orders_X11 hown hK hP 0 rfl rfl 11 (by decide) (hts _ mX11_orders_0) (fun _ h9 => h9) rfl dX11_orders_180 ?_
      have hPc := hP.sub (ws' := [(h, .inr (10, [.ref h_all, .ref h_has, .int f_size, .int f_next, .int f_where, .int f_token, .int f_number, .int f_sign, .int f_word, .int f_wrong, .int f_open, .int f_lines, .int f_acts, .ref h_line, .ref h_act, .ref h_pile, .ref h_comes, .ref h_leaves, .ref h_tried, .ref h_met])), (h_all, .inl (cI, 53700, .inl r_all))]) [0, 2] rfl
      have hDc := hD.sub (ws' := [(h, .inr (10, [.ref h_all, .ref h_has, .int f_size, .int f_next, .int f_where, .int f_token, .int f_number, .int f_sign, .int f_word, .int f_wrong, .int f_open, .int f_lines, .int f_acts, .ref h_line, .ref h_act, .ref h_pile, .ref h_comes, .ref h_leaves, .ref h_tried, .ref h_met])), (h_all, .inl (cI, 53700, .inl r_all))]) [0, 2] (by decide) rfl
      have hFc := va_free (wc := [(h, .inr (10, [.ref h_all, .ref h_has, .int f_size, .int f_next, .int f_where, .int f_token, .int f_number, .int f_sign, .int f_word, .int f_wrong, .int f_open, .int f_lines, .int f_acts, .ref h_line, .ref h_act, .ref h_pile, .ref h_comes, .ref h_leaves, .ref h_tried, .ref h_met])), (h_all, .inl (cI, 53700, .inl r_all))]) hD hS hA [0, 2] rfl
      refine va_callv (va_runV (As := [.int x1, .int (8 : Int32), .int f_lines]) (rest := []) ⟨hx, hb, hml, hown, hts⟩ (kX11_ships l dC dI cI cZ cO cW h h_all h_has h_line h_act h_pile h_comes h_leaves h_tried h_met H.size f_size f_next f_where f_token f_number f_sign f_word f_wrong f_open f_lines f_acts r_all x1 (8 : Int32) f_lines _ hw) (cwV 3 hts gX11_orders_X11_ships rfl rfl rfl (by decide +kernel) ⟨Nat.le_of_ble_eq_true rfl, Nat.le_of_ble_eq_true rfl⟩) (pv_of hPc hK hDc (va_recv hK hPc (ci := 10) (q0 := 0) rfl rfl)) rfl rfl hl.1 rfl (lv_room (Nat.le_of_ble_eq_true rfl)) dX11_orders_183 ⟨Nat.zero_le _, Nat.zero_le _⟩) hS (fun q _ h => hFc q h) hFc (fun u t H locs ht hvm hw hB hz1 hk1 hS => ?_)
      obtain ⟨r_all_2, rfl⟩ : ∃ z, z = u := ⟨_, rfl⟩
      obtain ⟨hP, hD⟩ := af_join (wr := [(h_act, .inl (cI, 780, .inl r_act)), (h_line, .inl (cI, 80, .inl r_line))]) (w1 := [(h, .inr (10, [.ref h_all, .ref h_has, .int f_size, .int f_next, .int f_where, .int f_token, .int f_number, .int f_sign, .int f_word, .int f_wrong, .int f_open, .int f_lines, .int f_acts, .ref h_line, .ref h_act, .ref h_pile, .ref h_comes, .ref h_leaves, .ref h_tried, .ref h_met])), (h_all, .inl (cI, 53700, .inl r_all_2))]) hB ht hP hD [0, 2] [1, 3] rfl rfl (by decide) (by decide) hk1 hFc
      have hP : va_P (dC, dI) vwCl [(h_act, .inl (cI, 780, .inl r_act)), (h_line, .inl (cI, 80, .inl r_line)), (h, .inr (10, [.ref h_all, .ref h_has, .int f_size, .int f_next, .int f_where, .int f_token, .int f_number, .int f_sign, .int f_word, .int f_wrong, .int f_open, .int f_lines, .int f_acts, .ref h_line, .ref h_act, .ref h_pile, .ref h_comes, .ref h_leaves, .ref h_tried, .ref h_met])), (h_all, .inl (cI, 53700, .inl r_all_2))] _ := hP
      have hD : va_D A [(h_act, .inl (cI, 780, .inl r_act)), (h_line, .inl (cI, 80, .inl r_line)), (h, .inr (10, [.ref h_all, .ref h_has, .int f_size, .int f_next, .int f_where, .int f_token, .int f_number, .int f_sign, .int f_word, .int f_wrong, .int f_open, .int f_lines, .int f_acts, .ref h_line, .ref h_act, .ref h_pile, .ref h_comes, .ref h_leaves, .ref h_tried, .ref h_met])), (h_all, .inl (cI, 53700, .inl r_all_2))] := hD
      refine lv_aload_n hx hb dX11_orders_186 rfl (lv_at hl 0 rfl) ?_
      refine va_get (D := (dC, dI)) (ci := 10) (v := .int f_lines) (C := RX11) (T := TX11) (N := 20) hx hb hts uX11_orders_X11 hown hK hP 2 rfl rfl 11 (by decide) (hts _ mX11_orders_0) (fun _ h9 => h9) rfl dX11_orders_187 ?_
      have hP9 := hP.sub (ws' := (vX11_orders cI cZ h h_all h_has h_line h_act h_pile h_comes h_leaves h_tried h_met f_size f_next f_where f_token f_number f_sign f_word f_wrong f_open f_lines f_acts r_act r_all_2 r_line)) [2, 0, 3, 1] rfl
      have hD9 := hD.sub (ws' := (vX11_orders cI cZ h h_all h_has h_line h_act h_pile h_comes h_leaves h_tried h_met f_size f_next f_where f_token f_number f_sign f_word f_wrong f_open f_lines f_acts r_act r_all_2 r_line)) [2, 0, 3, 1] (by decide) rfl
      exact W.iret (v := f_lines) hx hb hr (fun t ht hW => ⟨⟨f_lines, (f_size, f_next, f_where, f_token, f_number, f_sign, f_word, f_wrong, f_open, f_lines, f_acts, r_act, r_all_2, r_line), rfl, hw, by rw [ht]; exact hP9, va_K.moved hW.alike hK, hD9⟩, hS.F ht⟩) hS.2.2 dX11_orders_190
    · have hw := hw.2 c_1
      refine lv_aload_n hx hb dX11_orders_147 rfl (lv_at hl 0 rfl) ?_
      refine va_get (D := (dC, dI)) (ci := 10) (v := .ref h_all) (C := RX11) (T := TX11) (N := 20) hx hb hts uX11_orders_X11 hown hK hP 0 rfl rfl 0 (by decide) (hts _ mX11_orders_1) (fun _ h9 => h9) rfl dX11_orders_148 ?_
      refine lv_sipush (v := (4100 : Int32)) hx hb dX11_orders_151 (by decide) ?_
      refine lv_sipush (v := (780 : Int32)) hx hb dX11_orders_154 (by decide) ?_
      refine lv_iload_n hx hb dX11_orders_157 rfl (lv_at hl 1 rfl) ?_
      refine lv_imul hx hb dX11_orders_158 ?_
      refine lv_iadd hx hb dX11_orders_159 ?_
      refine lv_iload_n hx hb dX11_orders_160 rfl (lv_at hl 2 rfl) ?_
      refine lv_iadd hx hb dX11_orders_161 ?_
      refine lv_aload_n hx hb dX11_orders_162 rfl (lv_at hl 0 rfl) ?_
      refine va_get (D := (dC, dI)) (ci := 10) (v := .ref h_act) (C := RX11) (T := TX11) (N := 20) hx hb hts uX11_orders_X11 hown hK hP 0 rfl rfl 14 (by decide) (hts _ mX11_orders_2) (fun _ h9 => h9) rfl dX11_orders_163 ?_
      refine lv_iload_n hx hb dX11_orders_166 rfl (lv_at hl 2 rfl) ?_
      obtain ⟨h_3, hw⟩ := hw
      refine va_iald hx hb hK hP 1 0 rfl rfl h_3 dX11_orders_167 ?_
      obtain ⟨h_4, hw⟩ := hw
      refine va_iast hx hb hK hP hD hS 2 0 rfl rfl h_4 dX11_orders_168 (fun H locs hP hD hS => ?_)
      have hP : va_P (dC, dI) vwCl [(h, .inr (10, [.ref h_all, .ref h_has, .int f_size, .int f_next, .int f_where, .int f_token, .int f_number, .int f_sign, .int f_word, .int f_wrong, .int f_open, .int f_lines, .int f_acts, .ref h_line, .ref h_act, .ref h_pile, .ref h_comes, .ref h_leaves, .ref h_tried, .ref h_met])), (h_act, .inl (cI, 780, .inl r_act)), (h_all, .inl (cI, 53700, .inl (upd r_all (((4100 : Int32) + ((780 : Int32) * x1)) + x2).toNatClampNeg (r_act x2.toNatClampNeg)))), (h_line, .inl (cI, 80, .inl r_line))] _ := hP
      have hD : va_D A [(h, .inr (10, [.ref h_all, .ref h_has, .int f_size, .int f_next, .int f_where, .int f_token, .int f_number, .int f_sign, .int f_word, .int f_wrong, .int f_open, .int f_lines, .int f_acts, .ref h_line, .ref h_act, .ref h_pile, .ref h_comes, .ref h_leaves, .ref h_tried, .ref h_met])), (h_act, .inl (cI, 780, .inl r_act)), (h_all, .inl (cI, 53700, .inl (upd r_all (((4100 : Int32) + ((780 : Int32) * x1)) + x2).toNatClampNeg (r_act x2.toNatClampNeg)))), (h_line, .inl (cI, 80, .inl r_line))] := hD
      refine lv_iinc (v := (x2 + (1 : Int32))) (lv' := [(2, .int (x2 + (1 : Int32))), (0, .ref h), (1, .int x1)]) hx hb dX11_orders_169 hl (k := 2) rfl rfl (by decide) rfl (fun ls hl => ?_)
      refine lv_goto (tgt := 140) hx hb dX11_orders_172 (by decide) ?_
      exact ih x1 (x2 + (1 : Int32)) f_size f_next f_where f_token f_number f_sign f_word f_wrong f_open f_lines f_acts r_act (upd r_all (((4100 : Int32) + ((780 : Int32) * x1)) + x2).toNatClampNeg (r_act x2.toNatClampNeg)) r_line _ _ ls hw (hP.sub [0, 1, 2, 3] rfl) (hD.sub [0, 1, 2, 3] (by decide) rfl) hS (lv_sub hl [1, 2, 0] rfl)
set_option maxHeartbeats 4000000 in
set_option maxRecDepth 100000 in
theorem tX11_orders_105 {p : Program} {l : Launch} {e : Env} {s : State} {m : MethodId} {args : Array Value} {below : List Frame} {meth : Method} {c : Code} {dC : Nat → ClassId} {dI : Nat → Nat → Nat} {cI cZ cO cW : ClassId} {A : Nat → Prop} {h h_all h_has h_line h_act h_pile h_comes h_leaves h_tried h_met : Nat} {Q : Int32 → Int32 → Int32 → Int32 → Int32 → Int32 → Int32 → Int32 → Int32 → Int32 → Int32 → Int32 → (Nat → Int32) → (Nat → Int32) → (Nat → Int32) → Prop}  (hC : Cx p s m args meth c cX11_orders (some .int) 3 wsX11_orders RX11) (hK : va_K (dC, dI) vwCl (tysA cI cZ cO cW) s) (hA : ∀ q : Nat, s.heap.size ≤ q → A q) :
    ∀ (n : Nat) (x1 : Int32) (x2 : Int32) (f_size : Int32) (f_next : Int32) (f_where : Int32) (f_token : Int32) (f_number : Int32) (f_sign : Int32) (f_word : Int32) (f_wrong : Int32) (f_open : Int32) (f_lines : Int32) (f_acts : Int32) (r_act : (Nat → Int32)) (r_all : (Nat → Int32)) (r_line : (Nat → Int32)) (H : Heap) (locs : List Loc) (ls : Array Slot), wX11_orders_105 Q  n x1 x2 f_size f_next f_where f_token f_number f_sign f_word f_wrong f_open f_lines f_acts r_act r_all r_line → va_P (dC, dI) vwCl (vX11_orders cI cZ h h_all h_has h_line h_act h_pile h_comes h_leaves h_tried h_met f_size f_next f_where f_token f_number f_sign f_word f_wrong f_open f_lines f_acts r_act r_all r_line) H → va_D A (vX11_orders cI cZ h h_all h_has h_line h_act h_pile h_comes h_leaves h_tried h_met f_size f_next f_where f_token f_number f_sign f_word f_wrong f_open f_lines f_acts r_act r_all r_line) → va_S A s.heap H locs → lv_has ls 3 [(0, .ref h), (1, .int x1), (2, .int x2)] → W p l e rmX11_orders s m args below meth c H locs 0 0 (MQ below (qX11_orders dC dI cI cZ cO cW h h_all h_has h_line h_act h_pile h_comes h_leaves h_tried h_met Q A) args s 0 0 A) (F0 m 105 ls []) := by
  obtain ⟨hx, hb, hr, hml, hown, hts, hlocks⟩ := id hC
  intro n
  induction n with
  | zero =>
    intro x1 x2 f_size f_next f_where f_token f_number f_sign f_word f_wrong f_open f_lines f_acts r_act r_all r_line H locs ls hw
    exact hw.elim
  | succ n ih =>
    intro x1 x2 f_size f_next f_where f_token f_number f_sign f_word f_wrong f_open f_lines f_acts r_act r_all r_line H locs ls hw hP hD hS hl
    refine lv_iload_n hx hb dX11_orders_105 rfl (lv_at hl 2 rfl) ?_
    refine lv_bipush (v := (80 : Int32)) hx hb dX11_orders_106 (by decide) ?_
    refine lv_icmp_ge (tgt := 138) hx hb dX11_orders_108 (by decide) (fun c_5 => ?_) (fun c_5 => ?_)
    · have hw := hw.1 c_5
      refine lv_iconst (v := (0 : Int32)) hx hb dX11_orders_138 (by decide) ?_
      refine lv_istore_n (lv' := [(2, .int (0 : Int32)), (0, .ref h), (1, .int x1)]) hx hb dX11_orders_139 rfl hl (by decide) rfl (fun ls hl => ?_)
      obtain ⟨n_6, hw⟩ := hw
      exact tX11_orders_140 hC hK hA  n_6 x1 (0 : Int32) f_size f_next f_where f_token f_number f_sign f_word f_wrong f_open f_lines f_acts r_act r_all r_line _ _ ls hw (hP.sub [0, 1, 2, 3] rfl) (hD.sub [0, 1, 2, 3] (by decide) rfl) hS (lv_sub hl [1, 2, 0] rfl)
    · have hw := hw.2 c_5
      refine lv_aload_n hx hb dX11_orders_111 rfl (lv_at hl 0 rfl) ?_
      refine va_get (D := (dC, dI)) (ci := 10) (v := .ref h_all) (C := RX11) (T := TX11) (N := 20) hx hb hts uX11_orders_X11 hown hK hP 0 rfl rfl 0 (by decide) (hts _ mX11_orders_1) (fun _ h9 => h9) rfl dX11_orders_112 ?_
      refine lv_sipush (v := (3460 : Int32)) hx hb dX11_orders_115 (by decide) ?_
      refine lv_bipush (v := (80 : Int32)) hx hb dX11_orders_118 (by decide) ?_
      refine lv_iload_n hx hb dX11_orders_120 rfl (lv_at hl 1 rfl) ?_
      refine lv_imul hx hb dX11_orders_121 ?_
      refine lv_iadd hx hb dX11_orders_122 ?_
      refine lv_iload_n hx hb dX11_orders_123 rfl (lv_at hl 2 rfl) ?_
      refine lv_iadd hx hb dX11_orders_124 ?_
      refine lv_aload_n hx hb dX11_orders_125 rfl (lv_at hl 0 rfl) ?_
      refine va_get (D := (dC, dI)) (ci := 10) (v := .ref h_line) (C := RX11) (T := TX11) (N := 20) hx hb hts uX11_orders_X11 hown hK hP 0 rfl rfl 13 (by decide) (hts _ mX11_orders_3) (fun _ h9 => h9) rfl dX11_orders_126 ?_
      refine lv_iload_n hx hb dX11_orders_129 rfl (lv_at hl 2 rfl) ?_
      obtain ⟨h_7, hw⟩ := hw
      refine va_iald hx hb hK hP 3 0 rfl rfl h_7 dX11_orders_130 ?_
      obtain ⟨h_8, hw⟩ := hw
      refine va_iast hx hb hK hP hD hS 2 0 rfl rfl h_8 dX11_orders_131 (fun H locs hP hD hS => ?_)
      have hP : va_P (dC, dI) vwCl [(h, .inr (10, [.ref h_all, .ref h_has, .int f_size, .int f_next, .int f_where, .int f_token, .int f_number, .int f_sign, .int f_word, .int f_wrong, .int f_open, .int f_lines, .int f_acts, .ref h_line, .ref h_act, .ref h_pile, .ref h_comes, .ref h_leaves, .ref h_tried, .ref h_met])), (h_act, .inl (cI, 780, .inl r_act)), (h_all, .inl (cI, 53700, .inl (upd r_all (((3460 : Int32) + ((80 : Int32) * x1)) + x2).toNatClampNeg (r_line x2.toNatClampNeg)))), (h_line, .inl (cI, 80, .inl r_line))] _ := hP
      have hD : va_D A [(h, .inr (10, [.ref h_all, .ref h_has, .int f_size, .int f_next, .int f_where, .int f_token, .int f_number, .int f_sign, .int f_word, .int f_wrong, .int f_open, .int f_lines, .int f_acts, .ref h_line, .ref h_act, .ref h_pile, .ref h_comes, .ref h_leaves, .ref h_tried, .ref h_met])), (h_act, .inl (cI, 780, .inl r_act)), (h_all, .inl (cI, 53700, .inl (upd r_all (((3460 : Int32) + ((80 : Int32) * x1)) + x2).toNatClampNeg (r_line x2.toNatClampNeg)))), (h_line, .inl (cI, 80, .inl r_line))] := hD
      refine lv_iinc (v := (x2 + (1 : Int32))) (lv' := [(2, .int (x2 + (1 : Int32))), (0, .ref h), (1, .int x1)]) hx hb dX11_orders_132 hl (k := 2) rfl rfl (by decide) rfl (fun ls hl => ?_)
      refine lv_goto (tgt := 105) hx hb dX11_orders_135 (by decide) ?_
      exact ih x1 (x2 + (1 : Int32)) f_size f_next f_where f_token f_number f_sign f_word f_wrong f_open f_lines f_acts r_act (upd r_all (((3460 : Int32) + ((80 : Int32) * x1)) + x2).toNatClampNeg (r_line x2.toNatClampNeg)) r_line _ _ ls hw (hP.sub [0, 1, 2, 3] rfl) (hD.sub [0, 1, 2, 3] (by decide) rfl) hS (lv_sub hl [1, 2, 0] rfl)
set_option maxHeartbeats 4000000 in
set_option maxRecDepth 100000 in
theorem tX11_orders_91 {p : Program} {l : Launch} {e : Env} {s : State} {m : MethodId} {args : Array Value} {below : List Frame} {meth : Method} {c : Code} {dC : Nat → ClassId} {dI : Nat → Nat → Nat} {cI cZ cO cW : ClassId} {A : Nat → Prop} {h h_all h_has h_line h_act h_pile h_comes h_leaves h_tried h_met : Nat} {Q : Int32 → Int32 → Int32 → Int32 → Int32 → Int32 → Int32 → Int32 → Int32 → Int32 → Int32 → Int32 → (Nat → Int32) → (Nat → Int32) → (Nat → Int32) → Prop}  (hC : Cx p s m args meth c cX11_orders (some .int) 3 wsX11_orders RX11) (hK : va_K (dC, dI) vwCl (tysA cI cZ cO cW) s) (hA : ∀ q : Nat, s.heap.size ≤ q → A q) :
    ∀ (x1 : Int32) (f_size : Int32) (f_next : Int32) (f_where : Int32) (f_token : Int32) (f_number : Int32) (f_sign : Int32) (f_word : Int32) (f_wrong : Int32) (f_open : Int32) (f_lines : Int32) (f_acts : Int32) (r_act : (Nat → Int32)) (r_all : (Nat → Int32)) (r_line : (Nat → Int32)) (H : Heap) (locs : List Loc) (ls : Array Slot), wX11_orders_91 Q  x1 f_size f_next f_where f_token f_number f_sign f_word f_wrong f_open f_lines f_acts r_act r_all r_line → va_P (dC, dI) vwCl (vX11_orders cI cZ h h_all h_has h_line h_act h_pile h_comes h_leaves h_tried h_met f_size f_next f_where f_token f_number f_sign f_word f_wrong f_open f_lines f_acts r_act r_all r_line) H → va_D A (vX11_orders cI cZ h h_all h_has h_line h_act h_pile h_comes h_leaves h_tried h_met f_size f_next f_where f_token f_number f_sign f_word f_wrong f_open f_lines f_acts r_act r_all r_line) → va_S A s.heap H locs → lv_has ls 3 [(0, .ref h), (1, .int x1)] → W p l e rmX11_orders s m args below meth c H locs 0 0 (MQ below (qX11_orders dC dI cI cZ cO cW h h_all h_has h_line h_act h_pile h_comes h_leaves h_tried h_met Q A) args s 0 0 A) (F0 m 91 ls []) := by
  obtain ⟨hx, hb, hr, hml, hown, hts, hlocks⟩ := id hC
  intro x1 f_size f_next f_where f_token f_number f_sign f_word f_wrong f_open f_lines f_acts r_act r_all r_line H locs ls hw hP hD hS hl
  refine lv_aload_n hx hb dX11_orders_91 rfl (lv_at hl 0 rfl) ?_
  refine va_get (D := (dC, dI)) (ci := 10) (v := .ref h_all) (C := RX11) (T := TX11) (N := 20) hx hb hts uX11_orders_X11 hown hK hP 0 rfl rfl 0 (by decide) (hts _ mX11_orders_1) (fun _ h9 => h9) rfl dX11_orders_92 ?_
  refine lv_bipush (v := (10 : Int32)) hx hb dX11_orders_95 (by decide) ?_
  obtain ⟨h_9, hw⟩ := hw
  refine va_iald hx hb hK hP 2 0 rfl rfl h_9 dX11_orders_97 ?_
  refine lv_if_eq (tgt := 103) hx hb dX11_orders_98 (by decide) (fun c_10 => ?_) (fun c_10 => ?_)
  · have hw := hw.1 c_10
    refine lv_iconst (v := (0 : Int32)) hx hb dX11_orders_103 (by decide) ?_
    refine lv_istore_n (lv' := [(2, .int (0 : Int32)), (0, .ref h), (1, .int x1)]) hx hb dX11_orders_104 rfl hl (by decide) rfl (fun ls hl => ?_)
    obtain ⟨n_11, hw⟩ := hw
    exact tX11_orders_105 hC hK hA  n_11 x1 (0 : Int32) f_size f_next f_where f_token f_number f_sign f_word f_wrong f_open f_lines f_acts r_act r_all r_line _ _ ls hw (hP.sub [0, 1, 2, 3] rfl) (hD.sub [0, 1, 2, 3] (by decide) rfl) hS (lv_sub hl [1, 2, 0] rfl)
  · have hw := hw.2 c_10
    refine lv_iconst (v := (-1 : Int32)) hx hb dX11_orders_101 (by decide) ?_
    have hP9 := hP.sub (ws' := (vX11_orders cI cZ h h_all h_has h_line h_act h_pile h_comes h_leaves h_tried h_met f_size f_next f_where f_token f_number f_sign f_word f_wrong f_open f_lines f_acts r_act r_all r_line)) [0, 1, 2, 3] rfl
    have hD9 := hD.sub (ws' := (vX11_orders cI cZ h h_all h_has h_line h_act h_pile h_comes h_leaves h_tried h_met f_size f_next f_where f_token f_number f_sign f_word f_wrong f_open f_lines f_acts r_act r_all r_line)) [0, 1, 2, 3] (by decide) rfl
    exact W.iret (v := (-1 : Int32)) hx hb hr (fun t ht hW => ⟨⟨(-1 : Int32), (f_size, f_next, f_where, f_token, f_number, f_sign, f_word, f_wrong, f_open, f_lines, f_acts, r_act, r_all, r_line), rfl, hw, by rw [ht]; exact hP9, va_K.moved hW.alike hK, hD9⟩, hS.F ht⟩) hS.2.2 dX11_orders_102
set_option maxHeartbeats 4000000 in
set_option maxRecDepth 100000 in
theorem tX11_orders_70 {p : Program} {l : Launch} {e : Env} {s : State} {m : MethodId} {args : Array Value} {below : List Frame} {meth : Method} {c : Code} {dC : Nat → ClassId} {dI : Nat → Nat → Nat} {cI cZ cO cW : ClassId} {A : Nat → Prop} {h h_all h_has h_line h_act h_pile h_comes h_leaves h_tried h_met : Nat} {Q : Int32 → Int32 → Int32 → Int32 → Int32 → Int32 → Int32 → Int32 → Int32 → Int32 → Int32 → Int32 → (Nat → Int32) → (Nat → Int32) → (Nat → Int32) → Prop}  (hC : Cx p s m args meth c cX11_orders (some .int) 3 wsX11_orders RX11) (hK : va_K (dC, dI) vwCl (tysA cI cZ cO cW) s) (hA : ∀ q : Nat, s.heap.size ≤ q → A q) :
    ∀ (n : Nat) (x1 : Int32) (f_size : Int32) (f_next : Int32) (f_where : Int32) (f_token : Int32) (f_number : Int32) (f_sign : Int32) (f_word : Int32) (f_wrong : Int32) (f_open : Int32) (f_lines : Int32) (f_acts : Int32) (r_act : (Nat → Int32)) (r_all : (Nat → Int32)) (r_line : (Nat → Int32)) (H : Heap) (locs : List Loc) (ls : Array Slot), wX11_orders_70 Q  n x1 f_size f_next f_where f_token f_number f_sign f_word f_wrong f_open f_lines f_acts r_act r_all r_line → va_P (dC, dI) vwCl (vX11_orders cI cZ h h_all h_has h_line h_act h_pile h_comes h_leaves h_tried h_met f_size f_next f_where f_token f_number f_sign f_word f_wrong f_open f_lines f_acts r_act r_all r_line) H → va_D A (vX11_orders cI cZ h h_all h_has h_line h_act h_pile h_comes h_leaves h_tried h_met f_size f_next f_where f_token f_number f_sign f_word f_wrong f_open f_lines f_acts r_act r_all r_line) → va_S A s.heap H locs → lv_has ls 3 [(0, .ref h), (1, .int x1)] → W p l e rmX11_orders s m args below meth c H locs 0 0 (MQ below (qX11_orders dC dI cI cZ cO cW h h_all h_has h_line h_act h_pile h_comes h_leaves h_tried h_met Q A) args s 0 0 A) (F0 m 70 ls []) := by
  obtain ⟨hx, hb, hr, hml, hown, hts, hlocks⟩ := id hC
  intro n
  induction n with
  | zero =>
    intro x1 f_size f_next f_where f_token f_number f_sign f_word f_wrong f_open f_lines f_acts r_act r_all r_line H locs ls hw
    exact hw.elim
  | succ n ih =>
    intro x1 f_size f_next f_where f_token f_number f_sign f_word f_wrong f_open f_lines f_acts r_act r_all r_line H locs ls hw hP hD hS hl
    refine lv_aload_n hx hb dX11_orders_70 rfl (lv_at hl 0 rfl) ?_
    refine va_get (D := (dC, dI)) (ci := 10) (v := .int f_wrong) (C := RX11) (T := TX11) (N := 20) hx hb hts uX11_orders_X11 hown hK hP 0 rfl rfl 9 (by decide) (hts _ mX11_orders_4) (fun _ h9 => h9) rfl dX11_orders_71 ?_
    refine lv_if_ne (tgt := 91) hx hb dX11_orders_74 (by decide) (fun c_12 => ?_) (fun c_12 => ?_)
    · have hw := hw.1 c_12
      exact tX11_orders_91 hC hK hA  x1 f_size f_next f_where f_token f_number f_sign f_word f_wrong f_open f_lines f_acts r_act r_all r_line _ _ ls hw (hP.sub [0, 1, 2, 3] rfl) (hD.sub [0, 1, 2, 3] (by decide) rfl) hS (lv_sub hl [0, 1] rfl)
    · have hw := hw.2 c_12
      refine lv_aload_n hx hb dX11_orders_77 rfl (lv_at hl 0 rfl) ?_
      refine va_get (D := (dC, dI)) (ci := 10) (v := .int f_token) (C := RX11) (T := TX11) (N := 20) hx hb hts uX11_orders_X11 hown hK hP 0 rfl rfl 5 (by decide) (hts _ mX11_orders_5) (fun _ h9 => h9) rfl dX11_orders_78 ?_
      refine lv_if_eq (tgt := 91) hx hb dX11_orders_81 (by decide) (fun c_13 => ?_) (fun c_13 => ?_)
      · have hw := hw.1 c_13
        exact tX11_orders_91 hC hK hA  x1 f_size f_next f_where f_token f_number f_sign f_word f_wrong f_open f_lines f_acts r_act r_all r_line _ _ ls hw (hP.sub [0, 1, 2, 3] rfl) (hD.sub [0, 1, 2, 3] (by decide) rfl) hS (lv_sub hl [0, 1] rfl)
      · have hw := hw.2 c_13
        refine lv_aload_n hx hb dX11_orders_84 rfl (lv_at hl 0 rfl) ?_
        have hPc := hP.sub (ws' := [(h, .inr (10, [.ref h_all, .ref h_has, .int f_size, .int f_next, .int f_where, .int f_token, .int f_number, .int f_sign, .int f_word, .int f_wrong, .int f_open, .int f_lines, .int f_acts, .ref h_line, .ref h_act, .ref h_pile, .ref h_comes, .ref h_leaves, .ref h_tried, .ref h_met])), (h_act, .inl (cI, 780, .inl r_act)), (h_all, .inl (cI, 53700, .inl r_all)), (h_line, .inl (cI, 80, .inl r_line))]) [0, 1, 2, 3] rfl
        have hDc := hD.sub (ws' := [(h, .inr (10, [.ref h_all, .ref h_has, .int f_size, .int f_next, .int f_where, .int f_token, .int f_number, .int f_sign, .int f_word, .int f_wrong, .int f_open, .int f_lines, .int f_acts, .ref h_line, .ref h_act, .ref h_pile, .ref h_comes, .ref h_leaves, .ref h_tried, .ref h_met])), (h_act, .inl (cI, 780, .inl r_act)), (h_all, .inl (cI, 53700, .inl r_all)), (h_line, .inl (cI, 80, .inl r_line))]) [0, 1, 2, 3] (by decide) rfl
        have hFc := va_free (wc := [(h, .inr (10, [.ref h_all, .ref h_has, .int f_size, .int f_next, .int f_where, .int f_token, .int f_number, .int f_sign, .int f_word, .int f_wrong, .int f_open, .int f_lines, .int f_acts, .ref h_line, .ref h_act, .ref h_pile, .ref h_comes, .ref h_leaves, .ref h_tried, .ref h_met])), (h_act, .inl (cI, 780, .inl r_act)), (h_all, .inl (cI, 53700, .inl r_all)), (h_line, .inl (cI, 80, .inl r_line))]) hD hS hA [0, 1, 2, 3] rfl
        refine va_callv (va_runV (As := []) (rest := []) ⟨hx, hb, hml, hown, hts⟩ (kX11_aLine l dC dI cI cZ cO cW h h_all h_has h_line h_act h_pile h_comes h_leaves h_tried h_met H.size f_size f_next f_where f_token f_number f_sign f_word f_wrong f_open f_lines f_acts r_act r_all r_line _ hw) (cwV 0 hts gX11_orders_X11_aLine rfl rfl rfl (by decide +kernel) ⟨Nat.le_of_ble_eq_true rfl, Nat.le_of_ble_eq_true rfl⟩) (pv_of hPc hK hDc (va_recv hK hPc (ci := 10) (q0 := 0) rfl rfl)) rfl rfl hl.1 rfl (lv_room (Nat.le_of_ble_eq_true rfl)) dX11_orders_85 ⟨Nat.zero_le _, Nat.zero_le _⟩) hS (fun q _ h => hFc q h) hFc (fun u t H locs ht hvm hw hB hz1 hk1 hS => ?_)
        obtain ⟨f_next_14, f_where_15, f_token_16, f_number_17, f_sign_18, f_word_19, f_wrong_20, f_open_21, f_lines_22, f_acts_23, r_act_24, r_all_25, r_line_26⟩ := u
        obtain ⟨hP, hD⟩ := af_join (wr := []) (w1 := [(h, .inr (10, [.ref h_all, .ref h_has, .int f_size, .int f_next_14, .int f_where_15, .int f_token_16, .int f_number_17, .int f_sign_18, .int f_word_19, .int f_wrong_20, .int f_open_21, .int f_lines_22, .int f_acts_23, .ref h_line, .ref h_act, .ref h_pile, .ref h_comes, .ref h_leaves, .ref h_tried, .ref h_met])), (h_act, .inl (cI, 780, .inl r_act_24)), (h_all, .inl (cI, 53700, .inl r_all_25)), (h_line, .inl (cI, 80, .inl r_line_26))]) hB ht hP hD [0, 1, 2, 3] [] rfl rfl (by decide) (by decide) hk1 hFc
        have hP : va_P (dC, dI) vwCl [(h, .inr (10, [.ref h_all, .ref h_has, .int f_size, .int f_next_14, .int f_where_15, .int f_token_16, .int f_number_17, .int f_sign_18, .int f_word_19, .int f_wrong_20, .int f_open_21, .int f_lines_22, .int f_acts_23, .ref h_line, .ref h_act, .ref h_pile, .ref h_comes, .ref h_leaves, .ref h_tried, .ref h_met])), (h_act, .inl (cI, 780, .inl r_act_24)), (h_all, .inl (cI, 53700, .inl r_all_25)), (h_line, .inl (cI, 80, .inl r_line_26))] _ := hP
        have hD : va_D A [(h, .inr (10, [.ref h_all, .ref h_has, .int f_size, .int f_next_14, .int f_where_15, .int f_token_16, .int f_number_17, .int f_sign_18, .int f_word_19, .int f_wrong_20, .int f_open_21, .int f_lines_22, .int f_acts_23, .ref h_line, .ref h_act, .ref h_pile, .ref h_comes, .ref h_leaves, .ref h_tried, .ref h_met])), (h_act, .inl (cI, 780, .inl r_act_24)), (h_all, .inl (cI, 53700, .inl r_all_25)), (h_line, .inl (cI, 80, .inl r_line_26))] := hD
        refine lv_goto (tgt := 70) hx hb dX11_orders_88 (by decide) ?_
        exact ih x1 f_size f_next_14 f_where_15 f_token_16 f_number_17 f_sign_18 f_word_19 f_wrong_20 f_open_21 f_lines_22 f_acts_23 r_act_24 r_all_25 r_line_26 _ _ ls hw (hP.sub [0, 1, 2, 3] rfl) (hD.sub [0, 1, 2, 3] (by decide) rfl) hS (lv_sub hl [0, 1] rfl)
set_option maxHeartbeats 4000000 in
set_option maxRecDepth 100000 in
theorem tX11_orders_e {p : Program} {l : Launch} {e : Env} {s : State} {m : MethodId} {args : Array Value} {below : List Frame} {meth : Method} {c : Code} {dC : Nat → ClassId} {dI : Nat → Nat → Nat} {cI cZ cO cW : ClassId} {A : Nat → Prop} {h h_all h_has h_line h_act h_pile h_comes h_leaves h_tried h_met : Nat} {Q : Int32 → Int32 → Int32 → Int32 → Int32 → Int32 → Int32 → Int32 → Int32 → Int32 → Int32 → Int32 → (Nat → Int32) → (Nat → Int32) → (Nat → Int32) → Prop} (hC : Cx p s m args meth c cX11_orders (some .int) 3 wsX11_orders RX11) (hK : va_K (dC, dI) vwCl (tysA cI cZ cO cW) s) (hA : ∀ q : Nat, s.heap.size ≤ q → A q) :
    ∀ (x1 : Int32) (f_size : Int32) (f_next : Int32) (f_where : Int32) (f_token : Int32) (f_number : Int32) (f_sign : Int32) (f_word : Int32) (f_wrong : Int32) (f_open : Int32) (f_lines : Int32) (f_acts : Int32) (r_act : Nat → Int32) (r_all : Nat → Int32) (r_line : Nat → Int32) (H : Heap) (locs : List Loc) (ls : Array Slot), wX11_orders Q x1 f_size f_next f_where f_token f_number f_sign f_word f_wrong f_open f_lines f_acts r_act r_all r_line → va_P (dC, dI) vwCl (vX11_orders cI cZ h h_all h_has h_line h_act h_pile h_comes h_leaves h_tried h_met f_size f_next f_where f_token f_number f_sign f_word f_wrong f_open f_lines f_acts r_act r_all r_line) H → va_D A (vX11_orders cI cZ h h_all h_has h_line h_act h_pile h_comes h_leaves h_tried h_met f_size f_next f_where f_token f_number f_sign f_word f_wrong f_open f_lines f_acts r_act r_all r_line) → va_S A s.heap H locs → lv_has ls 3 [(0, .ref h), (1, .int x1)] → W p l e rmX11_orders s m args below meth c H locs 0 0 (MQ below (qX11_orders dC dI cI cZ cO cW h h_all h_has h_line h_act h_pile h_comes h_leaves h_tried h_met Q A) args s 0 0 A) (F0 m 0 ls []) := by
  obtain ⟨hx, hb, hr, hml, hown, hts, hlocks⟩ := id hC
  intro x1 f_size f_next f_where f_token f_number f_sign f_word f_wrong f_open f_lines f_acts r_act r_all r_line H locs ls hw hP hD hS hl
  refine lv_aload_n hx hb dX11_orders_0 rfl (lv_at hl 0 rfl) ?_
  refine lv_iload_n hx hb dX11_orders_1 rfl (lv_at hl 1 rfl) ?_
  have hPc := hP.sub (ws' := [(h, .inr (10, [.ref h_all, .ref h_has, .int f_size, .int f_next, .int f_where, .int f_token, .int f_number, .int f_sign, .int f_word, .int f_wrong, .int f_open, .int f_lines, .int f_acts, .ref h_line, .ref h_act, .ref h_pile, .ref h_comes, .ref h_leaves, .ref h_tried, .ref h_met])), (h_all, .inl (cI, 53700, .inl r_all))]) [0, 2] rfl
  have hDc := hD.sub (ws' := [(h, .inr (10, [.ref h_all, .ref h_has, .int f_size, .int f_next, .int f_where, .int f_token, .int f_number, .int f_sign, .int f_word, .int f_wrong, .int f_open, .int f_lines, .int f_acts, .ref h_line, .ref h_act, .ref h_pile, .ref h_comes, .ref h_leaves, .ref h_tried, .ref h_met])), (h_all, .inl (cI, 53700, .inl r_all))]) [0, 2] (by decide) rfl
  have hFc := va_free (wc := [(h, .inr (10, [.ref h_all, .ref h_has, .int f_size, .int f_next, .int f_where, .int f_token, .int f_number, .int f_sign, .int f_word, .int f_wrong, .int f_open, .int f_lines, .int f_acts, .ref h_line, .ref h_act, .ref h_pile, .ref h_comes, .ref h_leaves, .ref h_tried, .ref h_met])), (h_all, .inl (cI, 53700, .inl r_all))]) hD hS hA [0, 2] rfl
  refine va_calli (va_runV (As := [.int x1]) (rest := []) ⟨hx, hb, hml, hown, hts⟩ (kX11_isShip l dC dI cI cZ cO cW h h_all h_has h_line h_act h_pile h_comes h_leaves h_tried h_met H.size f_size f_next f_where f_token f_number f_sign f_word f_wrong f_open f_lines f_acts r_all x1 _ hw) (cwV 1 hts gX11_orders_X11_isShip rfl rfl rfl (by decide +kernel) ⟨Nat.le_of_ble_eq_true rfl, Nat.le_of_ble_eq_true rfl⟩) (pv_of hPc hK hDc (va_recv hK hPc (ci := 10) (q0 := 0) rfl rfl)) rfl rfl hl.1 rfl (lv_room (Nat.le_of_ble_eq_true rfl)) dX11_orders_2 ⟨Nat.zero_le _, Nat.zero_le _⟩) hS (fun q _ h => hFc q h) hFc (fun r_27 u t H locs ht hvm hw hB hz1 hk1 hS => ?_)
  obtain ⟨hP, hD⟩ := af_join (wr := [(h_act, .inl (cI, 780, .inl r_act)), (h_line, .inl (cI, 80, .inl r_line))]) (w1 := [(h, .inr (10, [.ref h_all, .ref h_has, .int f_size, .int f_next, .int f_where, .int f_token, .int f_number, .int f_sign, .int f_word, .int f_wrong, .int f_open, .int f_lines, .int f_acts, .ref h_line, .ref h_act, .ref h_pile, .ref h_comes, .ref h_leaves, .ref h_tried, .ref h_met])), (h_all, .inl (cI, 53700, .inl r_all))]) hB ht hP hD [0, 2] [1, 3] rfl rfl (by decide) (by decide) hk1 hFc
  have hP : va_P (dC, dI) vwCl [(h_act, .inl (cI, 780, .inl r_act)), (h_line, .inl (cI, 80, .inl r_line)), (h, .inr (10, [.ref h_all, .ref h_has, .int f_size, .int f_next, .int f_where, .int f_token, .int f_number, .int f_sign, .int f_word, .int f_wrong, .int f_open, .int f_lines, .int f_acts, .ref h_line, .ref h_act, .ref h_pile, .ref h_comes, .ref h_leaves, .ref h_tried, .ref h_met])), (h_all, .inl (cI, 53700, .inl r_all))] _ := hP
  have hD : va_D A [(h_act, .inl (cI, 780, .inl r_act)), (h_line, .inl (cI, 80, .inl r_line)), (h, .inr (10, [.ref h_all, .ref h_has, .int f_size, .int f_next, .int f_where, .int f_token, .int f_number, .int f_sign, .int f_word, .int f_wrong, .int f_open, .int f_lines, .int f_acts, .ref h_line, .ref h_act, .ref h_pile, .ref h_comes, .ref h_leaves, .ref h_tried, .ref h_met])), (h_all, .inl (cI, 53700, .inl r_all))] := hD
  refine lv_if_ne (tgt := 11) hx hb dX11_orders_5 (by decide) (fun c_28 => ?_) (fun c_28 => ?_)
  · have hw := hw.1 c_28
    refine lv_aload_n hx hb dX11_orders_11 rfl (lv_at hl 0 rfl) ?_
    refine lv_aload_n hx hb dX11_orders_12 rfl (lv_at hl 0 rfl) ?_
    refine va_get (D := (dC, dI)) (ci := 10) (v := .ref h_all) (C := RX11) (T := TX11) (N := 20) hx hb hts uX11_orders_X11 hown hK hP 2 rfl rfl 0 (by decide) (hts _ mX11_orders_1) (fun _ h9 => h9) rfl dX11_orders_13 ?_
    refine lv_bipush (v := (9 : Int32)) hx hb dX11_orders_16 (by decide) ?_
    obtain ⟨h_29, hw⟩ := hw
    refine va_iald hx hb hK hP 3 0 rfl rfl h_29 dX11_orders_18 ?_
    refine va_put (D := (dC, dI)) (ci := 10) (v := .int (r_all (9 : Int32).toNatClampNeg)) (ty := .int) (C := RX11) (T := TX11) (N := 20) hx hb hts uX11_orders_X11 tyX11 tyX11_ok nmX11 hown hK hP hD hS 2 rfl rfl 2 (by decide) (hts _ mX11_orders_8) (fun _ h9 => h9) rfl (tyX11_ok 2 (by decide)) rfl rfl (Nat.le_of_ble_eq_true rfl) dX11_orders_19 (fun H locs hP hD hS => ?_)
    have hP : va_P (dC, dI) vwCl [(h_act, .inl (cI, 780, .inl r_act)), (h_line, .inl (cI, 80, .inl r_line)), (h, .inr (10, [.ref h_all, .ref h_has, .int (r_all (9 : Int32).toNatClampNeg), .int f_next, .int f_where, .int f_token, .int f_number, .int f_sign, .int f_word, .int f_wrong, .int f_open, .int f_lines, .int f_acts, .ref h_line, .ref h_act, .ref h_pile, .ref h_comes, .ref h_leaves, .ref h_tried, .ref h_met])), (h_all, .inl (cI, 53700, .inl r_all))] _ := hP
    have hD : va_D A [(h_act, .inl (cI, 780, .inl r_act)), (h_line, .inl (cI, 80, .inl r_line)), (h, .inr (10, [.ref h_all, .ref h_has, .int (r_all (9 : Int32).toNatClampNeg), .int f_next, .int f_where, .int f_token, .int f_number, .int f_sign, .int f_word, .int f_wrong, .int f_open, .int f_lines, .int f_acts, .ref h_line, .ref h_act, .ref h_pile, .ref h_comes, .ref h_leaves, .ref h_tried, .ref h_met])), (h_all, .inl (cI, 53700, .inl r_all))] := hD
    refine lv_aload_n hx hb dX11_orders_22 rfl (lv_at hl 0 rfl) ?_
    refine va_get (D := (dC, dI)) (ci := 10) (v := .ref h_all) (C := RX11) (T := TX11) (N := 20) hx hb hts uX11_orders_X11 hown hK hP 2 rfl rfl 0 (by decide) (hts _ mX11_orders_1) (fun _ h9 => h9) rfl dX11_orders_23 ?_
    refine lv_bipush (v := (9 : Int32)) hx hb dX11_orders_26 (by decide) ?_
    refine lv_iconst (v := (0 : Int32)) hx hb dX11_orders_28 (by decide) ?_
    obtain ⟨h_30, hw⟩ := hw
    refine va_iast hx hb hK hP hD hS 3 0 rfl rfl h_30 dX11_orders_29 (fun H locs hP hD hS => ?_)
    have hP : va_P (dC, dI) vwCl [(h_act, .inl (cI, 780, .inl r_act)), (h_line, .inl (cI, 80, .inl r_line)), (h, .inr (10, [.ref h_all, .ref h_has, .int (r_all (9 : Int32).toNatClampNeg), .int f_next, .int f_where, .int f_token, .int f_number, .int f_sign, .int f_word, .int f_wrong, .int f_open, .int f_lines, .int f_acts, .ref h_line, .ref h_act, .ref h_pile, .ref h_comes, .ref h_leaves, .ref h_tried, .ref h_met])), (h_all, .inl (cI, 53700, .inl (upd r_all (9 : Int32).toNatClampNeg (0 : Int32))))] _ := hP
    have hD : va_D A [(h_act, .inl (cI, 780, .inl r_act)), (h_line, .inl (cI, 80, .inl r_line)), (h, .inr (10, [.ref h_all, .ref h_has, .int (r_all (9 : Int32).toNatClampNeg), .int f_next, .int f_where, .int f_token, .int f_number, .int f_sign, .int f_word, .int f_wrong, .int f_open, .int f_lines, .int f_acts, .ref h_line, .ref h_act, .ref h_pile, .ref h_comes, .ref h_leaves, .ref h_tried, .ref h_met])), (h_all, .inl (cI, 53700, .inl (upd r_all (9 : Int32).toNatClampNeg (0 : Int32))))] := hD
    refine lv_aload_n hx hb dX11_orders_30 rfl (lv_at hl 0 rfl) ?_
    refine lv_iconst (v := (0 : Int32)) hx hb dX11_orders_31 (by decide) ?_
    refine va_put (D := (dC, dI)) (ci := 10) (v := .int (0 : Int32)) (ty := .int) (C := RX11) (T := TX11) (N := 20) hx hb hts uX11_orders_X11 tyX11 tyX11_ok nmX11 hown hK hP hD hS 2 rfl rfl 3 (by decide) (hts _ mX11_orders_7) (fun _ h9 => h9) rfl (tyX11_ok 3 (by decide)) rfl rfl (Nat.le_of_ble_eq_true rfl) dX11_orders_32 (fun H locs hP hD hS => ?_)
    have hP : va_P (dC, dI) vwCl [(h_act, .inl (cI, 780, .inl r_act)), (h_line, .inl (cI, 80, .inl r_line)), (h, .inr (10, [.ref h_all, .ref h_has, .int (r_all (9 : Int32).toNatClampNeg), .int (0 : Int32), .int f_where, .int f_token, .int f_number, .int f_sign, .int f_word, .int f_wrong, .int f_open, .int f_lines, .int f_acts, .ref h_line, .ref h_act, .ref h_pile, .ref h_comes, .ref h_leaves, .ref h_tried, .ref h_met])), (h_all, .inl (cI, 53700, .inl (upd r_all (9 : Int32).toNatClampNeg (0 : Int32))))] _ := hP
    have hD : va_D A [(h_act, .inl (cI, 780, .inl r_act)), (h_line, .inl (cI, 80, .inl r_line)), (h, .inr (10, [.ref h_all, .ref h_has, .int (r_all (9 : Int32).toNatClampNeg), .int (0 : Int32), .int f_where, .int f_token, .int f_number, .int f_sign, .int f_word, .int f_wrong, .int f_open, .int f_lines, .int f_acts, .ref h_line, .ref h_act, .ref h_pile, .ref h_comes, .ref h_leaves, .ref h_tried, .ref h_met])), (h_all, .inl (cI, 53700, .inl (upd r_all (9 : Int32).toNatClampNeg (0 : Int32))))] := hD
    refine lv_aload_n hx hb dX11_orders_35 rfl (lv_at hl 0 rfl) ?_
    refine va_get (D := (dC, dI)) (ci := 10) (v := .ref h_all) (C := RX11) (T := TX11) (N := 20) hx hb hts uX11_orders_X11 hown hK hP 2 rfl rfl 0 (by decide) (hts _ mX11_orders_1) (fun _ h9 => h9) rfl dX11_orders_36 ?_
    refine lv_bipush (v := (10 : Int32)) hx hb dX11_orders_39 (by decide) ?_
    refine lv_iconst (v := (0 : Int32)) hx hb dX11_orders_41 (by decide) ?_
    obtain ⟨h_31, hw⟩ := hw
    refine va_iast hx hb hK hP hD hS 3 0 rfl rfl h_31 dX11_orders_42 (fun H locs hP hD hS => ?_)
    have hP : va_P (dC, dI) vwCl [(h_act, .inl (cI, 780, .inl r_act)), (h_line, .inl (cI, 80, .inl r_line)), (h, .inr (10, [.ref h_all, .ref h_has, .int (r_all (9 : Int32).toNatClampNeg), .int (0 : Int32), .int f_where, .int f_token, .int f_number, .int f_sign, .int f_word, .int f_wrong, .int f_open, .int f_lines, .int f_acts, .ref h_line, .ref h_act, .ref h_pile, .ref h_comes, .ref h_leaves, .ref h_tried, .ref h_met])), (h_all, .inl (cI, 53700, .inl (upd (upd r_all (9 : Int32).toNatClampNeg (0 : Int32)) (10 : Int32).toNatClampNeg (0 : Int32))))] _ := hP
    have hD : va_D A [(h_act, .inl (cI, 780, .inl r_act)), (h_line, .inl (cI, 80, .inl r_line)), (h, .inr (10, [.ref h_all, .ref h_has, .int (r_all (9 : Int32).toNatClampNeg), .int (0 : Int32), .int f_where, .int f_token, .int f_number, .int f_sign, .int f_word, .int f_wrong, .int f_open, .int f_lines, .int f_acts, .ref h_line, .ref h_act, .ref h_pile, .ref h_comes, .ref h_leaves, .ref h_tried, .ref h_met])), (h_all, .inl (cI, 53700, .inl (upd (upd r_all (9 : Int32).toNatClampNeg (0 : Int32)) (10 : Int32).toNatClampNeg (0 : Int32))))] := hD
    refine lv_aload_n hx hb dX11_orders_43 rfl (lv_at hl 0 rfl) ?_
    refine va_get (D := (dC, dI)) (ci := 10) (v := .ref h_all) (C := RX11) (T := TX11) (N := 20) hx hb hts uX11_orders_X11 hown hK hP 2 rfl rfl 0 (by decide) (hts _ mX11_orders_1) (fun _ h9 => h9) rfl dX11_orders_44 ?_
    refine lv_bipush (v := (11 : Int32)) hx hb dX11_orders_47 (by decide) ?_
    refine lv_iconst (v := (-1 : Int32)) hx hb dX11_orders_49 (by decide) ?_
    obtain ⟨h_32, hw⟩ := hw
    refine va_iast hx hb hK hP hD hS 3 0 rfl rfl h_32 dX11_orders_50 (fun H locs hP hD hS => ?_)
    have hP : va_P (dC, dI) vwCl [(h_act, .inl (cI, 780, .inl r_act)), (h_line, .inl (cI, 80, .inl r_line)), (h, .inr (10, [.ref h_all, .ref h_has, .int (r_all (9 : Int32).toNatClampNeg), .int (0 : Int32), .int f_where, .int f_token, .int f_number, .int f_sign, .int f_word, .int f_wrong, .int f_open, .int f_lines, .int f_acts, .ref h_line, .ref h_act, .ref h_pile, .ref h_comes, .ref h_leaves, .ref h_tried, .ref h_met])), (h_all, .inl (cI, 53700, .inl (upd (upd (upd r_all (9 : Int32).toNatClampNeg (0 : Int32)) (10 : Int32).toNatClampNeg (0 : Int32)) (11 : Int32).toNatClampNeg (-1 : Int32))))] _ := hP
    have hD : va_D A [(h_act, .inl (cI, 780, .inl r_act)), (h_line, .inl (cI, 80, .inl r_line)), (h, .inr (10, [.ref h_all, .ref h_has, .int (r_all (9 : Int32).toNatClampNeg), .int (0 : Int32), .int f_where, .int f_token, .int f_number, .int f_sign, .int f_word, .int f_wrong, .int f_open, .int f_lines, .int f_acts, .ref h_line, .ref h_act, .ref h_pile, .ref h_comes, .ref h_leaves, .ref h_tried, .ref h_met])), (h_all, .inl (cI, 53700, .inl (upd (upd (upd r_all (9 : Int32).toNatClampNeg (0 : Int32)) (10 : Int32).toNatClampNeg (0 : Int32)) (11 : Int32).toNatClampNeg (-1 : Int32))))] := hD
    refine lv_aload_n hx hb dX11_orders_51 rfl (lv_at hl 0 rfl) ?_
    refine lv_iconst (v := (0 : Int32)) hx hb dX11_orders_52 (by decide) ?_
    refine va_put (D := (dC, dI)) (ci := 10) (v := .int (0 : Int32)) (ty := .boolean) (C := RX11) (T := TX11) (N := 20) hx hb hts uX11_orders_X11 tyX11 tyX11_ok nmX11 hown hK hP hD hS 2 rfl rfl 9 (by decide) (hts _ mX11_orders_4) (fun _ h9 => h9) rfl (tyX11_ok 9 (by decide)) rfl rfl (Nat.le_of_ble_eq_true rfl) dX11_orders_53 (fun H locs hP hD hS => ?_)
    have hP : va_P (dC, dI) vwCl [(h_act, .inl (cI, 780, .inl r_act)), (h_line, .inl (cI, 80, .inl r_line)), (h, .inr (10, [.ref h_all, .ref h_has, .int (r_all (9 : Int32).toNatClampNeg), .int (0 : Int32), .int f_where, .int f_token, .int f_number, .int f_sign, .int f_word, .int (0 : Int32), .int f_open, .int f_lines, .int f_acts, .ref h_line, .ref h_act, .ref h_pile, .ref h_comes, .ref h_leaves, .ref h_tried, .ref h_met])), (h_all, .inl (cI, 53700, .inl (upd (upd (upd r_all (9 : Int32).toNatClampNeg (0 : Int32)) (10 : Int32).toNatClampNeg (0 : Int32)) (11 : Int32).toNatClampNeg (-1 : Int32))))] _ := hP
    have hD : va_D A [(h_act, .inl (cI, 780, .inl r_act)), (h_line, .inl (cI, 80, .inl r_line)), (h, .inr (10, [.ref h_all, .ref h_has, .int (r_all (9 : Int32).toNatClampNeg), .int (0 : Int32), .int f_where, .int f_token, .int f_number, .int f_sign, .int f_word, .int (0 : Int32), .int f_open, .int f_lines, .int f_acts, .ref h_line, .ref h_act, .ref h_pile, .ref h_comes, .ref h_leaves, .ref h_tried, .ref h_met])), (h_all, .inl (cI, 53700, .inl (upd (upd (upd r_all (9 : Int32).toNatClampNeg (0 : Int32)) (10 : Int32).toNatClampNeg (0 : Int32)) (11 : Int32).toNatClampNeg (-1 : Int32))))] := hD
    refine lv_aload_n hx hb dX11_orders_56 rfl (lv_at hl 0 rfl) ?_
    refine lv_iconst (v := (0 : Int32)) hx hb dX11_orders_57 (by decide) ?_
    refine va_put (D := (dC, dI)) (ci := 10) (v := .int (0 : Int32)) (ty := .int) (C := RX11) (T := TX11) (N := 20) hx hb hts uX11_orders_X11 tyX11 tyX11_ok nmX11 hown hK hP hD hS 2 rfl rfl 11 (by decide) (hts _ mX11_orders_0) (fun _ h9 => h9) rfl (tyX11_ok 11 (by decide)) rfl rfl (Nat.le_of_ble_eq_true rfl) dX11_orders_58 (fun H locs hP hD hS => ?_)
    have hP : va_P (dC, dI) vwCl [(h_act, .inl (cI, 780, .inl r_act)), (h_line, .inl (cI, 80, .inl r_line)), (h, .inr (10, [.ref h_all, .ref h_has, .int (r_all (9 : Int32).toNatClampNeg), .int (0 : Int32), .int f_where, .int f_token, .int f_number, .int f_sign, .int f_word, .int (0 : Int32), .int f_open, .int (0 : Int32), .int f_acts, .ref h_line, .ref h_act, .ref h_pile, .ref h_comes, .ref h_leaves, .ref h_tried, .ref h_met])), (h_all, .inl (cI, 53700, .inl (upd (upd (upd r_all (9 : Int32).toNatClampNeg (0 : Int32)) (10 : Int32).toNatClampNeg (0 : Int32)) (11 : Int32).toNatClampNeg (-1 : Int32))))] _ := hP
    have hD : va_D A [(h_act, .inl (cI, 780, .inl r_act)), (h_line, .inl (cI, 80, .inl r_line)), (h, .inr (10, [.ref h_all, .ref h_has, .int (r_all (9 : Int32).toNatClampNeg), .int (0 : Int32), .int f_where, .int f_token, .int f_number, .int f_sign, .int f_word, .int (0 : Int32), .int f_open, .int (0 : Int32), .int f_acts, .ref h_line, .ref h_act, .ref h_pile, .ref h_comes, .ref h_leaves, .ref h_tried, .ref h_met])), (h_all, .inl (cI, 53700, .inl (upd (upd (upd r_all (9 : Int32).toNatClampNeg (0 : Int32)) (10 : Int32).toNatClampNeg (0 : Int32)) (11 : Int32).toNatClampNeg (-1 : Int32))))] := hD
    refine lv_aload_n hx hb dX11_orders_61 rfl (lv_at hl 0 rfl) ?_
    refine lv_iconst (v := (0 : Int32)) hx hb dX11_orders_62 (by decide) ?_
    refine va_put (D := (dC, dI)) (ci := 10) (v := .int (0 : Int32)) (ty := .int) (C := RX11) (T := TX11) (N := 20) hx hb hts uX11_orders_X11 tyX11 tyX11_ok nmX11 hown hK hP hD hS 2 rfl rfl 12 (by decide) (hts _ mX11_orders_6) (fun _ h9 => h9) rfl (tyX11_ok 12 (by decide)) rfl rfl (Nat.le_of_ble_eq_true rfl) dX11_orders_63 (fun H locs hP hD hS => ?_)
    have hP : va_P (dC, dI) vwCl [(h_act, .inl (cI, 780, .inl r_act)), (h_line, .inl (cI, 80, .inl r_line)), (h, .inr (10, [.ref h_all, .ref h_has, .int (r_all (9 : Int32).toNatClampNeg), .int (0 : Int32), .int f_where, .int f_token, .int f_number, .int f_sign, .int f_word, .int (0 : Int32), .int f_open, .int (0 : Int32), .int (0 : Int32), .ref h_line, .ref h_act, .ref h_pile, .ref h_comes, .ref h_leaves, .ref h_tried, .ref h_met])), (h_all, .inl (cI, 53700, .inl (upd (upd (upd r_all (9 : Int32).toNatClampNeg (0 : Int32)) (10 : Int32).toNatClampNeg (0 : Int32)) (11 : Int32).toNatClampNeg (-1 : Int32))))] _ := hP
    have hD : va_D A [(h_act, .inl (cI, 780, .inl r_act)), (h_line, .inl (cI, 80, .inl r_line)), (h, .inr (10, [.ref h_all, .ref h_has, .int (r_all (9 : Int32).toNatClampNeg), .int (0 : Int32), .int f_where, .int f_token, .int f_number, .int f_sign, .int f_word, .int (0 : Int32), .int f_open, .int (0 : Int32), .int (0 : Int32), .ref h_line, .ref h_act, .ref h_pile, .ref h_comes, .ref h_leaves, .ref h_tried, .ref h_met])), (h_all, .inl (cI, 53700, .inl (upd (upd (upd r_all (9 : Int32).toNatClampNeg (0 : Int32)) (10 : Int32).toNatClampNeg (0 : Int32)) (11 : Int32).toNatClampNeg (-1 : Int32))))] := hD
    refine lv_aload_n hx hb dX11_orders_66 rfl (lv_at hl 0 rfl) ?_
    have hPc := hP.sub (ws' := [(h, .inr (10, [.ref h_all, .ref h_has, .int (r_all (9 : Int32).toNatClampNeg), .int (0 : Int32), .int f_where, .int f_token, .int f_number, .int f_sign, .int f_word, .int (0 : Int32), .int f_open, .int (0 : Int32), .int (0 : Int32), .ref h_line, .ref h_act, .ref h_pile, .ref h_comes, .ref h_leaves, .ref h_tried, .ref h_met])), (h_all, .inl (cI, 53700, .inl (upd (upd (upd r_all (9 : Int32).toNatClampNeg (0 : Int32)) (10 : Int32).toNatClampNeg (0 : Int32)) (11 : Int32).toNatClampNeg (-1 : Int32))))]) [2, 3] rfl
    have hDc := hD.sub (ws' := [(h, .inr (10, [.ref h_all, .ref h_has, .int (r_all (9 : Int32).toNatClampNeg), .int (0 : Int32), .int f_where, .int f_token, .int f_number, .int f_sign, .int f_word, .int (0 : Int32), .int f_open, .int (0 : Int32), .int (0 : Int32), .ref h_line, .ref h_act, .ref h_pile, .ref h_comes, .ref h_leaves, .ref h_tried, .ref h_met])), (h_all, .inl (cI, 53700, .inl (upd (upd (upd r_all (9 : Int32).toNatClampNeg (0 : Int32)) (10 : Int32).toNatClampNeg (0 : Int32)) (11 : Int32).toNatClampNeg (-1 : Int32))))]) [2, 3] (by decide) rfl
    have hFc := va_free (wc := [(h, .inr (10, [.ref h_all, .ref h_has, .int (r_all (9 : Int32).toNatClampNeg), .int (0 : Int32), .int f_where, .int f_token, .int f_number, .int f_sign, .int f_word, .int (0 : Int32), .int f_open, .int (0 : Int32), .int (0 : Int32), .ref h_line, .ref h_act, .ref h_pile, .ref h_comes, .ref h_leaves, .ref h_tried, .ref h_met])), (h_all, .inl (cI, 53700, .inl (upd (upd (upd r_all (9 : Int32).toNatClampNeg (0 : Int32)) (10 : Int32).toNatClampNeg (0 : Int32)) (11 : Int32).toNatClampNeg (-1 : Int32))))]) hD hS hA [2, 3] rfl
    refine va_callv (va_runV (As := []) (rest := []) ⟨hx, hb, hml, hown, hts⟩ (kX11_advance l dC dI cI cZ cO cW h h_all h_has h_line h_act h_pile h_comes h_leaves h_tried h_met H.size (0 : Int32) f_open (0 : Int32) (0 : Int32) (r_all (9 : Int32).toNatClampNeg) (0 : Int32) f_where f_token f_number f_sign f_word (upd (upd (upd r_all (9 : Int32).toNatClampNeg (0 : Int32)) (10 : Int32).toNatClampNeg (0 : Int32)) (11 : Int32).toNatClampNeg (-1 : Int32)) _ hw) (cwV 0 hts gX11_orders_X11_advance rfl rfl rfl (by decide +kernel) ⟨Nat.le_of_ble_eq_true rfl, Nat.le_of_ble_eq_true rfl⟩) (pv_of hPc hK hDc (va_recv hK hPc (ci := 10) (q0 := 0) rfl rfl)) rfl rfl hl.1 rfl (lv_room (Nat.le_of_ble_eq_true rfl)) dX11_orders_67 ⟨Nat.zero_le _, Nat.zero_le _⟩) hS (fun q _ h => hFc q h) hFc (fun u t H locs ht hvm hw hB hz1 hk1 hS => ?_)
    obtain ⟨f_next_33, f_where_34, f_token_35, f_number_36, f_sign_37, f_word_38⟩ := u
    obtain ⟨hP, hD⟩ := af_join (wr := [(h_act, .inl (cI, 780, .inl r_act)), (h_line, .inl (cI, 80, .inl r_line))]) (w1 := [(h, .inr (10, [.ref h_all, .ref h_has, .int (r_all (9 : Int32).toNatClampNeg), .int f_next_33, .int f_where_34, .int f_token_35, .int f_number_36, .int f_sign_37, .int f_word_38, .int (0 : Int32), .int f_open, .int (0 : Int32), .int (0 : Int32), .ref h_line, .ref h_act, .ref h_pile, .ref h_comes, .ref h_leaves, .ref h_tried, .ref h_met])), (h_all, .inl (cI, 53700, .inl (upd (upd (upd r_all (9 : Int32).toNatClampNeg (0 : Int32)) (10 : Int32).toNatClampNeg (0 : Int32)) (11 : Int32).toNatClampNeg (-1 : Int32))))]) hB ht hP hD [2, 3] [0, 1] rfl rfl (by decide) (by decide) hk1 hFc
    have hP : va_P (dC, dI) vwCl [(h_act, .inl (cI, 780, .inl r_act)), (h_line, .inl (cI, 80, .inl r_line)), (h, .inr (10, [.ref h_all, .ref h_has, .int (r_all (9 : Int32).toNatClampNeg), .int f_next_33, .int f_where_34, .int f_token_35, .int f_number_36, .int f_sign_37, .int f_word_38, .int (0 : Int32), .int f_open, .int (0 : Int32), .int (0 : Int32), .ref h_line, .ref h_act, .ref h_pile, .ref h_comes, .ref h_leaves, .ref h_tried, .ref h_met])), (h_all, .inl (cI, 53700, .inl (upd (upd (upd r_all (9 : Int32).toNatClampNeg (0 : Int32)) (10 : Int32).toNatClampNeg (0 : Int32)) (11 : Int32).toNatClampNeg (-1 : Int32))))] _ := hP
    have hD : va_D A [(h_act, .inl (cI, 780, .inl r_act)), (h_line, .inl (cI, 80, .inl r_line)), (h, .inr (10, [.ref h_all, .ref h_has, .int (r_all (9 : Int32).toNatClampNeg), .int f_next_33, .int f_where_34, .int f_token_35, .int f_number_36, .int f_sign_37, .int f_word_38, .int (0 : Int32), .int f_open, .int (0 : Int32), .int (0 : Int32), .ref h_line, .ref h_act, .ref h_pile, .ref h_comes, .ref h_leaves, .ref h_tried, .ref h_met])), (h_all, .inl (cI, 53700, .inl (upd (upd (upd r_all (9 : Int32).toNatClampNeg (0 : Int32)) (10 : Int32).toNatClampNeg (0 : Int32)) (11 : Int32).toNatClampNeg (-1 : Int32))))] := hD
    obtain ⟨n_39, hw⟩ := hw
    exact tX11_orders_70 hC hK hA  n_39 x1 (r_all (9 : Int32).toNatClampNeg) f_next_33 f_where_34 f_token_35 f_number_36 f_sign_37 f_word_38 (0 : Int32) f_open (0 : Int32) (0 : Int32) r_act (upd (upd (upd r_all (9 : Int32).toNatClampNeg (0 : Int32)) (10 : Int32).toNatClampNeg (0 : Int32)) (11 : Int32).toNatClampNeg (-1 : Int32)) r_line _ _ ls hw (hP.sub [2, 0, 3, 1] rfl) (hD.sub [2, 0, 3, 1] (by decide) rfl) hS (lv_sub hl [0, 1] rfl)
  · have hw := hw.2 c_28
    refine lv_bipush (v := (-2 : Int32)) hx hb dX11_orders_8 (by decide) ?_
    have hP9 := hP.sub (ws' := (vX11_orders cI cZ h h_all h_has h_line h_act h_pile h_comes h_leaves h_tried h_met f_size f_next f_where f_token f_number f_sign f_word f_wrong f_open f_lines f_acts r_act r_all r_line)) [2, 0, 3, 1] rfl
    have hD9 := hD.sub (ws' := (vX11_orders cI cZ h h_all h_has h_line h_act h_pile h_comes h_leaves h_tried h_met f_size f_next f_where f_token f_number f_sign f_word f_wrong f_open f_lines f_acts r_act r_all r_line)) [2, 0, 3, 1] (by decide) rfl
    exact W.iret (v := (-2 : Int32)) hx hb hr (fun t ht hW => ⟨⟨(-2 : Int32), (f_size, f_next, f_where, f_token, f_number, f_sign, f_word, f_wrong, f_open, f_lines, f_acts, r_act, r_all, r_line), rfl, hw, by rw [ht]; exact hP9, va_K.moved hW.alike hK, hD9⟩, hS.F ht⟩) hS.2.2 dX11_orders_10
set_option maxHeartbeats 4000000 in
set_option maxRecDepth 100000 in
theorem kX11_orders (l : Launch) (dC : Nat → ClassId) (dI : Nat → Nat → Nat) (cI cZ cO cW : ClassId) (h h_all h_has h_line h_act h_pile h_comes h_leaves h_tried h_met : Nat)  (sz : Nat) (f_size : Int32) (f_next : Int32) (f_where : Int32) (f_token : Int32) (f_number : Int32) (f_sign : Int32) (f_word : Int32) (f_wrong : Int32) (f_open : Int32) (f_lines : Int32) (f_acts : Int32) (r_act : Nat → Int32) (r_all : Nat → Int32) (r_line : Nat → Int32) (x1 : Int32) (Q : Int32 → Int32 → Int32 → Int32 → Int32 → Int32 → Int32 → Int32 → Int32 → Int32 → Int32 → Int32 → (Nat → Int32) → (Nat → Int32) → (Nat → Int32) → Prop) (hw : wX11_orders Q x1 f_size f_next f_where f_token f_number f_sign f_word f_wrong f_open f_lines f_acts r_act r_all r_line) : Met l yX11_orders wsX11_orders rmX11_orders (va_Pc [.ref h, .int x1] (fun U => U.heap.size = sz ∧ va_P (dC, dI) vwCl (vX11_orders cI cZ h h_all h_has h_line h_act h_pile h_comes h_leaves h_tried h_met f_size f_next f_where f_token f_number f_sign f_word f_wrong f_open f_lines f_acts r_act r_all r_line) U.heap ∧ va_K (dC, dI) vwCl (tysA cI cZ cO cW) U ∧ va_D (fun _ => True) (vX11_orders cI cZ h h_all h_has h_line h_act h_pile h_comes h_leaves h_tried h_met f_size f_next f_where f_token f_number f_sign f_word f_wrong f_open f_lines f_acts r_act r_all r_line))) (qX11_orders dC dI cI cZ cO cW h h_all h_has h_line h_act h_pile h_comes h_leaves h_tried h_met Q (va_A (vX11_orders cI cZ h h_all h_has h_line h_act h_pile h_comes h_leaves h_tried h_met f_size f_next f_where f_token f_number f_sign f_word f_wrong f_open f_lines f_acts r_act r_all r_line) sz)) 0 0 (va_A (vX11_orders cI cZ h h_all h_has h_line h_act h_pile h_comes h_leaves h_tried h_met f_size f_next f_where f_token f_number f_sign f_word f_wrong f_open f_lines f_acts r_act r_all r_line) sz) := by
  refine Met.ofW (cc := cX11_orders) (maxL := 3) (ret := (some .int)) (by decide) rfl ?_
  intro p e s m args below meth c s₁ B hml hv
  obtain ⟨rfl, hsz, hP, hK, hD0⟩ := hv
  subst hsz
  have hC : Cx p s m ([.ref h, .int x1] : List Value).toArray meth c cX11_orders (some .int) 3 wsX11_orders RX11 := ⟨B.exec, B.bytes, B.returns, hml, findClass_of_methodNamed B.named, atoms_spec (ws := wsX11_orders) B.pre, B.notSynchronized⟩
  have hD := hD0.self (sz := s.heap.size)
  generalize hAe : va_A (vX11_orders cI cZ h h_all h_has h_line h_act h_pile h_comes h_leaves h_tried h_met f_size f_next f_where f_token f_number f_sign f_word f_wrong f_open f_lines f_acts r_act r_all r_line) s.heap.size = A at hD ⊢
  have hA : ∀ q : Nat, s.heap.size ≤ q → A q := fun q h => by rw [← hAe]; exact Or.inr h
  have hl := lv_entry ([.ref h, .int x1]) (n := 3) (Nat.le_of_ble_eq_true rfl)
  rw [lg_entry_eq]
  generalize (lg_sl ([.ref h, .int x1]) ++ List.replicate (3 - (lg_sl ([.ref h, .int x1])).length) Slot.unset).toArray = ls at hl ⊢
  exact tX11_orders_e hC hK hA x1 f_size f_next f_where f_token f_number f_sign f_word f_wrong f_open f_lines f_acts r_act r_all r_line _ _ ls hw hP hD va_S.rf hl

theorem dX11_holds_0 : decode cX11_holds 0 = .ok (.aload_n 0, 1) := by decide +kernel
theorem dX11_holds_1 : decode cX11_holds 1 = .ok (.getfield 8, 3) := by decide +kernel
theorem dX11_holds_4 : decode cX11_holds 4 = .ok (.sipush 3460, 3) := by decide +kernel
theorem dX11_holds_7 : decode cX11_holds 7 = .ok (.bipush 80, 2) := by decide +kernel
theorem dX11_holds_9 : decode cX11_holds 9 = .ok (.iload_n 1, 1) := by decide +kernel
theorem dX11_holds_10 : decode cX11_holds 10 = .ok (.imul, 1) := by decide +kernel
theorem dX11_holds_11 : decode cX11_holds 11 = .ok (.iadd, 1) := by decide +kernel
theorem dX11_holds_12 : decode cX11_holds 12 = .ok (.iconst 4, 1) := by decide +kernel
theorem dX11_holds_13 : decode cX11_holds 13 = .ok (.iload_n 2, 1) := by decide +kernel
theorem dX11_holds_14 : decode cX11_holds 14 = .ok (.imul, 1) := by decide +kernel
theorem dX11_holds_15 : decode cX11_holds 15 = .ok (.iadd, 1) := by decide +kernel
theorem dX11_holds_16 : decode cX11_holds 16 = .ok (.iaload, 1) := by decide +kernel
theorem dX11_holds_17 : decode cX11_holds 17 = .ok (.istore_n 3, 1) := by decide +kernel
theorem dX11_holds_18 : decode cX11_holds 18 = .ok (.iload_n 3, 1) := by decide +kernel
theorem dX11_holds_19 : decode cX11_holds 19 = .ok (.ifCond .ge 5, 3) := by decide +kernel
theorem dX11_holds_22 : decode cX11_holds 22 = .ok (.iconst 1, 1) := by decide +kernel
theorem dX11_holds_23 : decode cX11_holds 23 = .ok (.ireturn, 1) := by decide +kernel
theorem dX11_holds_24 : decode cX11_holds 24 = .ok (.iconst 0, 1) := by decide +kernel
theorem dX11_holds_25 : decode cX11_holds 25 = .ok (.istore 4, 2) := by decide +kernel
theorem dX11_holds_27 : decode cX11_holds 27 = .ok (.iload_n 3, 1) := by decide +kernel
theorem dX11_holds_28 : decode cX11_holds 28 = .ok (.istore 5, 2) := by decide +kernel
theorem dX11_holds_30 : decode cX11_holds 30 = .ok (.iload 5, 2) := by decide +kernel
theorem dX11_holds_32 : decode cX11_holds 32 = .ok (.aload_n 0, 1) := by decide +kernel
theorem dX11_holds_33 : decode cX11_holds 33 = .ok (.getfield 8, 3) := by decide +kernel
theorem dX11_holds_36 : decode cX11_holds 36 = .ok (.sipush 3460, 3) := by decide +kernel
theorem dX11_holds_39 : decode cX11_holds 39 = .ok (.bipush 80, 2) := by decide +kernel
theorem dX11_holds_41 : decode cX11_holds 41 = .ok (.iload_n 1, 1) := by decide +kernel
theorem dX11_holds_42 : decode cX11_holds 42 = .ok (.imul, 1) := by decide +kernel
theorem dX11_holds_43 : decode cX11_holds 43 = .ok (.iadd, 1) := by decide +kernel
theorem dX11_holds_44 : decode cX11_holds 44 = .ok (.iconst 4, 1) := by decide +kernel
theorem dX11_holds_45 : decode cX11_holds 45 = .ok (.iload_n 2, 1) := by decide +kernel
theorem dX11_holds_46 : decode cX11_holds 46 = .ok (.imul, 1) := by decide +kernel
theorem dX11_holds_47 : decode cX11_holds 47 = .ok (.iadd, 1) := by decide +kernel
theorem dX11_holds_48 : decode cX11_holds 48 = .ok (.iconst 1, 1) := by decide +kernel
theorem dX11_holds_49 : decode cX11_holds 49 = .ok (.iadd, 1) := by decide +kernel
theorem dX11_holds_50 : decode cX11_holds 50 = .ok (.iaload, 1) := by decide +kernel
theorem dX11_holds_51 : decode cX11_holds 51 = .ok (.if_icmp .ge 263, 3) := by decide +kernel
theorem dX11_holds_54 : decode cX11_holds 54 = .ok (.sipush 4100, 3) := by decide +kernel
theorem dX11_holds_57 : decode cX11_holds 57 = .ok (.sipush 780, 3) := by decide +kernel
theorem dX11_holds_60 : decode cX11_holds 60 = .ok (.iload_n 1, 1) := by decide +kernel
theorem dX11_holds_61 : decode cX11_holds 61 = .ok (.imul, 1) := by decide +kernel
theorem dX11_holds_62 : decode cX11_holds 62 = .ok (.iadd, 1) := by decide +kernel
theorem dX11_holds_63 : decode cX11_holds 63 = .ok (.iconst 3, 1) := by decide +kernel
theorem dX11_holds_64 : decode cX11_holds 64 = .ok (.iload 5, 2) := by decide +kernel
theorem dX11_holds_66 : decode cX11_holds 66 = .ok (.imul, 1) := by decide +kernel
theorem dX11_holds_67 : decode cX11_holds 67 = .ok (.iadd, 1) := by decide +kernel
theorem dX11_holds_68 : decode cX11_holds 68 = .ok (.istore 6, 2) := by decide +kernel
theorem dX11_holds_70 : decode cX11_holds 70 = .ok (.aload_n 0, 1) := by decide +kernel
theorem dX11_holds_71 : decode cX11_holds 71 = .ok (.getfield 8, 3) := by decide +kernel
theorem dX11_holds_74 : decode cX11_holds 74 = .ok (.iload 6, 2) := by decide +kernel
theorem dX11_holds_76 : decode cX11_holds 76 = .ok (.iaload, 1) := by decide +kernel
theorem dX11_holds_77 : decode cX11_holds 77 = .ok (.istore 7, 2) := by decide +kernel
theorem dX11_holds_79 : decode cX11_holds 79 = .ok (.iload 7, 2) := by decide +kernel
theorem dX11_holds_81 : decode cX11_holds 81 = .ok (.bipush 33, 2) := by decide +kernel
theorem dX11_holds_83 : decode cX11_holds 83 = .ok (.if_icmp .ne 32, 3) := by decide +kernel
theorem dX11_holds_86 : decode cX11_holds 86 = .ok (.aload_n 0, 1) := by decide +kernel
theorem dX11_holds_87 : decode cX11_holds 87 = .ok (.getfield 24, 3) := by decide +kernel
theorem dX11_holds_90 : decode cX11_holds 90 = .ok (.iload 4, 2) := by decide +kernel
theorem dX11_holds_92 : decode cX11_holds 92 = .ok (.iconst 1, 1) := by decide +kernel
theorem dX11_holds_93 : decode cX11_holds 93 = .ok (.isub, 1) := by decide +kernel
theorem dX11_holds_94 : decode cX11_holds 94 = .ok (.aload_n 0, 1) := by decide +kernel
theorem dX11_holds_95 : decode cX11_holds 95 = .ok (.getfield 24, 3) := by decide +kernel
theorem dX11_holds_98 : decode cX11_holds 98 = .ok (.iload 4, 2) := by decide +kernel
theorem dX11_holds_100 : decode cX11_holds 100 = .ok (.iconst 1, 1) := by decide +kernel
theorem dX11_holds_101 : decode cX11_holds 101 = .ok (.isub, 1) := by decide +kernel
theorem dX11_holds_102 : decode cX11_holds 102 = .ok (.baload, 1) := by decide +kernel
theorem dX11_holds_103 : decode cX11_holds 103 = .ok (.ifCond .ne 7, 3) := by decide +kernel
theorem dX11_holds_106 : decode cX11_holds 106 = .ok (.iconst 1, 1) := by decide +kernel
theorem dX11_holds_107 : decode cX11_holds 107 = .ok (.goto 4, 3) := by decide +kernel
theorem dX11_holds_110 : decode cX11_holds 110 = .ok (.iconst 0, 1) := by decide +kernel
theorem dX11_holds_111 : decode cX11_holds 111 = .ok (.bastore, 1) := by decide +kernel
theorem dX11_holds_112 : decode cX11_holds 112 = .ok (.goto 196, 3) := by decide +kernel
theorem dX11_holds_115 : decode cX11_holds 115 = .ok (.iload 7, 2) := by decide +kernel
theorem dX11_holds_117 : decode cX11_holds 117 = .ok (.bipush 32, 2) := by decide +kernel
theorem dX11_holds_119 : decode cX11_holds 119 = .ok (.if_icmp .eq 10, 3) := by decide +kernel
theorem dX11_holds_122 : decode cX11_holds 122 = .ok (.iload 7, 2) := by decide +kernel
theorem dX11_holds_124 : decode cX11_holds 124 = .ok (.bipush 31, 2) := by decide +kernel
theorem dX11_holds_126 : decode cX11_holds 126 = .ok (.if_icmp .ne 82, 3) := by decide +kernel
theorem dX11_holds_129 : decode cX11_holds 129 = .ok (.iinc 4 (-1), 3) := by decide +kernel
theorem dX11_holds_132 : decode cX11_holds 132 = .ok (.aload_n 0, 1) := by decide +kernel
theorem dX11_holds_133 : decode cX11_holds 133 = .ok (.getfield 24, 3) := by decide +kernel
theorem dX11_holds_136 : decode cX11_holds 136 = .ok (.iload 4, 2) := by decide +kernel
theorem dX11_holds_138 : decode cX11_holds 138 = .ok (.iconst 1, 1) := by decide +kernel
theorem dX11_holds_139 : decode cX11_holds 139 = .ok (.isub, 1) := by decide +kernel
theorem dX11_holds_140 : decode cX11_holds 140 = .ok (.iload 7, 2) := by decide +kernel
theorem dX11_holds_142 : decode cX11_holds 142 = .ok (.bipush 32, 2) := by decide +kernel
theorem dX11_holds_144 : decode cX11_holds 144 = .ok (.if_icmp .ne 33, 3) := by decide +kernel
theorem dX11_holds_147 : decode cX11_holds 147 = .ok (.aload_n 0, 1) := by decide +kernel
theorem dX11_holds_148 : decode cX11_holds 148 = .ok (.getfield 24, 3) := by decide +kernel
theorem dX11_holds_151 : decode cX11_holds 151 = .ok (.iload 4, 2) := by decide +kernel
theorem dX11_holds_153 : decode cX11_holds 153 = .ok (.iconst 1, 1) := by decide +kernel
theorem dX11_holds_154 : decode cX11_holds 154 = .ok (.isub, 1) := by decide +kernel
theorem dX11_holds_155 : decode cX11_holds 155 = .ok (.baload, 1) := by decide +kernel
theorem dX11_holds_156 : decode cX11_holds 156 = .ok (.ifCond .eq 17, 3) := by decide +kernel
theorem dX11_holds_159 : decode cX11_holds 159 = .ok (.aload_n 0, 1) := by decide +kernel
theorem dX11_holds_160 : decode cX11_holds 160 = .ok (.getfield 24, 3) := by decide +kernel
theorem dX11_holds_163 : decode cX11_holds 163 = .ok (.iload 4, 2) := by decide +kernel
theorem dX11_holds_165 : decode cX11_holds 165 = .ok (.baload, 1) := by decide +kernel
theorem dX11_holds_166 : decode cX11_holds 166 = .ok (.ifCond .eq 7, 3) := by decide +kernel
theorem dX11_holds_169 : decode cX11_holds 169 = .ok (.iconst 1, 1) := by decide +kernel
theorem dX11_holds_170 : decode cX11_holds 170 = .ok (.goto 34, 3) := by decide +kernel
theorem dX11_holds_173 : decode cX11_holds 173 = .ok (.iconst 0, 1) := by decide +kernel
theorem dX11_holds_174 : decode cX11_holds 174 = .ok (.goto 30, 3) := by decide +kernel
theorem dX11_holds_177 : decode cX11_holds 177 = .ok (.aload_n 0, 1) := by decide +kernel
theorem dX11_holds_178 : decode cX11_holds 178 = .ok (.getfield 24, 3) := by decide +kernel
theorem dX11_holds_181 : decode cX11_holds 181 = .ok (.iload 4, 2) := by decide +kernel
theorem dX11_holds_183 : decode cX11_holds 183 = .ok (.iconst 1, 1) := by decide +kernel
theorem dX11_holds_184 : decode cX11_holds 184 = .ok (.isub, 1) := by decide +kernel
theorem dX11_holds_185 : decode cX11_holds 185 = .ok (.baload, 1) := by decide +kernel
theorem dX11_holds_186 : decode cX11_holds 186 = .ok (.ifCond .ne 13, 3) := by decide +kernel
theorem dX11_holds_189 : decode cX11_holds 189 = .ok (.aload_n 0, 1) := by decide +kernel
theorem dX11_holds_190 : decode cX11_holds 190 = .ok (.getfield 24, 3) := by decide +kernel
theorem dX11_holds_193 : decode cX11_holds 193 = .ok (.iload 4, 2) := by decide +kernel
theorem dX11_holds_195 : decode cX11_holds 195 = .ok (.baload, 1) := by decide +kernel
theorem dX11_holds_196 : decode cX11_holds 196 = .ok (.ifCond .eq 7, 3) := by decide +kernel
theorem dX11_holds_199 : decode cX11_holds 199 = .ok (.iconst 1, 1) := by decide +kernel
theorem dX11_holds_200 : decode cX11_holds 200 = .ok (.goto 4, 3) := by decide +kernel
theorem dX11_holds_203 : decode cX11_holds 203 = .ok (.iconst 0, 1) := by decide +kernel
theorem dX11_holds_204 : decode cX11_holds 204 = .ok (.bastore, 1) := by decide +kernel
theorem dX11_holds_205 : decode cX11_holds 205 = .ok (.goto 103, 3) := by decide +kernel
theorem dX11_holds_208 : decode cX11_holds 208 = .ok (.aload_n 0, 1) := by decide +kernel
theorem dX11_holds_209 : decode cX11_holds 209 = .ok (.iload_n 1, 1) := by decide +kernel
theorem dX11_holds_210 : decode cX11_holds 210 = .ok (.iload 7, 2) := by decide +kernel
theorem dX11_holds_212 : decode cX11_holds 212 = .ok (.invokevirtual 214, 3) := by decide +kernel
theorem dX11_holds_215 : decode cX11_holds 215 = .ok (.istore 8, 2) := by decide +kernel
theorem dX11_holds_217 : decode cX11_holds 217 = .ok (.aload_n 0, 1) := by decide +kernel
theorem dX11_holds_218 : decode cX11_holds 218 = .ok (.getfield 8, 3) := by decide +kernel
theorem dX11_holds_221 : decode cX11_holds 221 = .ok (.iload 6, 2) := by decide +kernel
theorem dX11_holds_223 : decode cX11_holds 223 = .ok (.iconst 2, 1) := by decide +kernel
theorem dX11_holds_224 : decode cX11_holds 224 = .ok (.iadd, 1) := by decide +kernel
theorem dX11_holds_225 : decode cX11_holds 225 = .ok (.iaload, 1) := by decide +kernel
theorem dX11_holds_226 : decode cX11_holds 226 = .ok (.istore 9, 2) := by decide +kernel
theorem dX11_holds_228 : decode cX11_holds 228 = .ok (.aload_n 0, 1) := by decide +kernel
theorem dX11_holds_229 : decode cX11_holds 229 = .ok (.getfield 24, 3) := by decide +kernel
theorem dX11_holds_232 : decode cX11_holds 232 = .ok (.iload 4, 2) := by decide +kernel
theorem dX11_holds_234 : decode cX11_holds 234 = .ok (.aload_n 0, 1) := by decide +kernel
theorem dX11_holds_235 : decode cX11_holds 235 = .ok (.getfield 8, 3) := by decide +kernel
theorem dX11_holds_238 : decode cX11_holds 238 = .ok (.iload 6, 2) := by decide +kernel
theorem dX11_holds_240 : decode cX11_holds 240 = .ok (.iconst 1, 1) := by decide +kernel
theorem dX11_holds_241 : decode cX11_holds 241 = .ok (.iadd, 1) := by decide +kernel
theorem dX11_holds_242 : decode cX11_holds 242 = .ok (.iaload, 1) := by decide +kernel
theorem dX11_holds_243 : decode cX11_holds 243 = .ok (.bipush 61, 2) := by decide +kernel
theorem dX11_holds_245 : decode cX11_holds 245 = .ok (.if_icmp .ne 18, 3) := by decide +kernel
theorem dX11_holds_248 : decode cX11_holds 248 = .ok (.iload 8, 2) := by decide +kernel
theorem dX11_holds_250 : decode cX11_holds 250 = .ok (.iload 9, 2) := by decide +kernel
theorem dX11_holds_252 : decode cX11_holds 252 = .ok (.if_icmp .ne 7, 3) := by decide +kernel
theorem dX11_holds_255 : decode cX11_holds 255 = .ok (.iconst 1, 1) := by decide +kernel
theorem dX11_holds_256 : decode cX11_holds 256 = .ok (.goto 48, 3) := by decide +kernel
theorem dX11_holds_259 : decode cX11_holds 259 = .ok (.iconst 0, 1) := by decide +kernel
theorem dX11_holds_260 : decode cX11_holds 260 = .ok (.goto 44, 3) := by decide +kernel
theorem dX11_holds_263 : decode cX11_holds 263 = .ok (.aload_n 0, 1) := by decide +kernel
theorem dX11_holds_264 : decode cX11_holds 264 = .ok (.getfield 8, 3) := by decide +kernel
theorem dX11_holds_267 : decode cX11_holds 267 = .ok (.iload 6, 2) := by decide +kernel
theorem dX11_holds_269 : decode cX11_holds 269 = .ok (.iconst 1, 1) := by decide +kernel
theorem dX11_holds_270 : decode cX11_holds 270 = .ok (.iadd, 1) := by decide +kernel
theorem dX11_holds_271 : decode cX11_holds 271 = .ok (.iaload, 1) := by decide +kernel
theorem dX11_holds_272 : decode cX11_holds 272 = .ok (.bipush 60, 2) := by decide +kernel
theorem dX11_holds_274 : decode cX11_holds 274 = .ok (.if_icmp .ne 18, 3) := by decide +kernel
theorem dX11_holds_277 : decode cX11_holds 277 = .ok (.iload 8, 2) := by decide +kernel
theorem dX11_holds_279 : decode cX11_holds 279 = .ok (.iload 9, 2) := by decide +kernel
theorem dX11_holds_281 : decode cX11_holds 281 = .ok (.if_icmp .ge 7, 3) := by decide +kernel
theorem dX11_holds_284 : decode cX11_holds 284 = .ok (.iconst 1, 1) := by decide +kernel
theorem dX11_holds_285 : decode cX11_holds 285 = .ok (.goto 19, 3) := by decide +kernel
theorem dX11_holds_288 : decode cX11_holds 288 = .ok (.iconst 0, 1) := by decide +kernel
theorem dX11_holds_289 : decode cX11_holds 289 = .ok (.goto 15, 3) := by decide +kernel
theorem dX11_holds_292 : decode cX11_holds 292 = .ok (.iload 8, 2) := by decide +kernel
theorem dX11_holds_294 : decode cX11_holds 294 = .ok (.iload 9, 2) := by decide +kernel
theorem dX11_holds_296 : decode cX11_holds 296 = .ok (.if_icmp .le 7, 3) := by decide +kernel
theorem dX11_holds_299 : decode cX11_holds 299 = .ok (.iconst 1, 1) := by decide +kernel
theorem dX11_holds_300 : decode cX11_holds 300 = .ok (.goto 4, 3) := by decide +kernel
theorem dX11_holds_303 : decode cX11_holds 303 = .ok (.iconst 0, 1) := by decide +kernel
theorem dX11_holds_304 : decode cX11_holds 304 = .ok (.bastore, 1) := by decide +kernel
theorem dX11_holds_305 : decode cX11_holds 305 = .ok (.iinc 4 1, 3) := by decide +kernel
theorem dX11_holds_308 : decode cX11_holds 308 = .ok (.iinc 5 1, 3) := by decide +kernel
theorem dX11_holds_311 : decode cX11_holds 311 = .ok (.goto (-281), 3) := by decide +kernel
theorem dX11_holds_314 : decode cX11_holds 314 = .ok (.aload_n 0, 1) := by decide +kernel
theorem dX11_holds_315 : decode cX11_holds 315 = .ok (.getfield 24, 3) := by decide +kernel
theorem dX11_holds_318 : decode cX11_holds 318 = .ok (.iconst 0, 1) := by decide +kernel
theorem dX11_holds_319 : decode cX11_holds 319 = .ok (.baload, 1) := by decide +kernel
theorem dX11_holds_320 : decode cX11_holds 320 = .ok (.ireturn, 1) := by decide +kernel

theorem dX11_goes_0 : decode cX11_goes 0 = .ok (.aload_n 0, 1) := by decide +kernel
theorem dX11_goes_1 : decode cX11_goes 1 = .ok (.iload_n 1, 1) := by decide +kernel
theorem dX11_goes_2 : decode cX11_goes 2 = .ok (.iload_n 2, 1) := by decide +kernel
theorem dX11_goes_3 : decode cX11_goes 3 = .ok (.invokevirtual 211, 3) := by decide +kernel
theorem dX11_goes_6 : decode cX11_goes 6 = .ok (.istore_n 3, 1) := by decide +kernel
theorem dX11_goes_7 : decode cX11_goes 7 = .ok (.iconst 1, 1) := by decide +kernel
theorem dX11_goes_8 : decode cX11_goes 8 = .ok (.iload_n 3, 1) := by decide +kernel
theorem dX11_goes_9 : decode cX11_goes 9 = .ok (.bipush 10, 2) := by decide +kernel
theorem dX11_goes_11 : decode cX11_goes 11 = .ok (.idiv, 1) := by decide +kernel
theorem dX11_goes_12 : decode cX11_goes 12 = .ok (.iadd, 1) := by decide +kernel
theorem dX11_goes_13 : decode cX11_goes 13 = .ok (.istore 4, 2) := by decide +kernel
theorem dX11_goes_15 : decode cX11_goes 15 = .ok (.aload_n 0, 1) := by decide +kernel
theorem dX11_goes_16 : decode cX11_goes 16 = .ok (.iload_n 1, 1) := by decide +kernel
theorem dX11_goes_17 : decode cX11_goes 17 = .ok (.invokevirtual 208, 3) := by decide +kernel
theorem dX11_goes_20 : decode cX11_goes 20 = .ok (.ifCond .ne 34, 3) := by decide +kernel
theorem dX11_goes_23 : decode cX11_goes 23 = .ok (.iload_n 3, 1) := by decide +kernel
theorem dX11_goes_24 : decode cX11_goes 24 = .ok (.aload_n 0, 1) := by decide +kernel
theorem dX11_goes_25 : decode cX11_goes 25 = .ok (.iload_n 1, 1) := by decide +kernel
theorem dX11_goes_26 : decode cX11_goes 26 = .ok (.iconst 0, 1) := by decide +kernel
theorem dX11_goes_27 : decode cX11_goes 27 = .ok (.invokevirtual 55, 3) := by decide +kernel
theorem dX11_goes_30 : decode cX11_goes 30 = .ok (.if_icmp .gt 24, 3) := by decide +kernel
theorem dX11_goes_33 : decode cX11_goes 33 = .ok (.aload_n 0, 1) := by decide +kernel
theorem dX11_goes_34 : decode cX11_goes 34 = .ok (.iload_n 1, 1) := by decide +kernel
theorem dX11_goes_35 : decode cX11_goes 35 = .ok (.iconst 1, 1) := by decide +kernel
theorem dX11_goes_36 : decode cX11_goes 36 = .ok (.invokevirtual 55, 3) := by decide +kernel
theorem dX11_goes_39 : decode cX11_goes 39 = .ok (.iconst (-1), 1) := by decide +kernel
theorem dX11_goes_40 : decode cX11_goes 40 = .ok (.if_icmp .eq 16, 3) := by decide +kernel
theorem dX11_goes_43 : decode cX11_goes 43 = .ok (.aload_n 0, 1) := by decide +kernel
theorem dX11_goes_44 : decode cX11_goes 44 = .ok (.iload_n 1, 1) := by decide +kernel
theorem dX11_goes_45 : decode cX11_goes 45 = .ok (.iconst 1, 1) := by decide +kernel
theorem dX11_goes_46 : decode cX11_goes 46 = .ok (.invokevirtual 55, 3) := by decide +kernel
theorem dX11_goes_49 : decode cX11_goes 49 = .ok (.iload 4, 2) := by decide +kernel
theorem dX11_goes_51 : decode cX11_goes 51 = .ok (.if_icmp .ge 5, 3) := by decide +kernel
theorem dX11_goes_54 : decode cX11_goes 54 = .ok (.iconst 0, 1) := by decide +kernel
theorem dX11_goes_55 : decode cX11_goes 55 = .ok (.ireturn, 1) := by decide +kernel
theorem dX11_goes_56 : decode cX11_goes 56 = .ok (.aload_n 0, 1) := by decide +kernel
theorem dX11_goes_57 : decode cX11_goes 57 = .ok (.iload_n 1, 1) := by decide +kernel
theorem dX11_goes_58 : decode cX11_goes 58 = .ok (.iconst 1, 1) := by decide +kernel
theorem dX11_goes_59 : decode cX11_goes 59 = .ok (.invokevirtual 55, 3) := by decide +kernel
theorem dX11_goes_62 : decode cX11_goes 62 = .ok (.iconst (-1), 1) := by decide +kernel
theorem dX11_goes_63 : decode cX11_goes 63 = .ok (.if_icmp .eq 18, 3) := by decide +kernel
theorem dX11_goes_66 : decode cX11_goes 66 = .ok (.aload_n 0, 1) := by decide +kernel
theorem dX11_goes_67 : decode cX11_goes 67 = .ok (.iload_n 1, 1) := by decide +kernel
theorem dX11_goes_68 : decode cX11_goes 68 = .ok (.iconst 1, 1) := by decide +kernel
theorem dX11_goes_69 : decode cX11_goes 69 = .ok (.aload_n 0, 1) := by decide +kernel
theorem dX11_goes_70 : decode cX11_goes 70 = .ok (.iload_n 1, 1) := by decide +kernel
theorem dX11_goes_71 : decode cX11_goes 71 = .ok (.iconst 1, 1) := by decide +kernel
theorem dX11_goes_72 : decode cX11_goes 72 = .ok (.invokevirtual 55, 3) := by decide +kernel
theorem dX11_goes_75 : decode cX11_goes 75 = .ok (.iload 4, 2) := by decide +kernel
theorem dX11_goes_77 : decode cX11_goes 77 = .ok (.isub, 1) := by decide +kernel
theorem dX11_goes_78 : decode cX11_goes 78 = .ok (.invokevirtual 69, 3) := by decide +kernel
theorem dX11_goes_81 : decode cX11_goes 81 = .ok (.aload_n 0, 1) := by decide +kernel
theorem dX11_goes_82 : decode cX11_goes 82 = .ok (.iload_n 1, 1) := by decide +kernel
theorem dX11_goes_83 : decode cX11_goes 83 = .ok (.iconst 2, 1) := by decide +kernel
theorem dX11_goes_84 : decode cX11_goes 84 = .ok (.aload_n 0, 1) := by decide +kernel
theorem dX11_goes_85 : decode cX11_goes 85 = .ok (.iload_n 1, 1) := by decide +kernel
theorem dX11_goes_86 : decode cX11_goes 86 = .ok (.iconst 2, 1) := by decide +kernel
theorem dX11_goes_87 : decode cX11_goes 87 = .ok (.invokevirtual 55, 3) := by decide +kernel
theorem dX11_goes_90 : decode cX11_goes 90 = .ok (.iload_n 2, 1) := by decide +kernel
theorem dX11_goes_91 : decode cX11_goes 91 = .ok (.invokestatic 196, 3) := by decide +kernel
theorem dX11_goes_94 : decode cX11_goes 94 = .ok (.iadd, 1) := by decide +kernel
theorem dX11_goes_95 : decode cX11_goes 95 = .ok (.invokevirtual 69, 3) := by decide +kernel
theorem dX11_goes_98 : decode cX11_goes 98 = .ok (.aload_n 0, 1) := by decide +kernel
theorem dX11_goes_99 : decode cX11_goes 99 = .ok (.iload_n 1, 1) := by decide +kernel
theorem dX11_goes_100 : decode cX11_goes 100 = .ok (.iconst 3, 1) := by decide +kernel
theorem dX11_goes_101 : decode cX11_goes 101 = .ok (.aload_n 0, 1) := by decide +kernel
theorem dX11_goes_102 : decode cX11_goes 102 = .ok (.iload_n 1, 1) := by decide +kernel
theorem dX11_goes_103 : decode cX11_goes 103 = .ok (.iconst 3, 1) := by decide +kernel
theorem dX11_goes_104 : decode cX11_goes 104 = .ok (.invokevirtual 55, 3) := by decide +kernel
theorem dX11_goes_107 : decode cX11_goes 107 = .ok (.iload_n 2, 1) := by decide +kernel
theorem dX11_goes_108 : decode cX11_goes 108 = .ok (.invokestatic 199, 3) := by decide +kernel
theorem dX11_goes_111 : decode cX11_goes 111 = .ok (.iadd, 1) := by decide +kernel
theorem dX11_goes_112 : decode cX11_goes 112 = .ok (.invokevirtual 69, 3) := by decide +kernel
theorem dX11_goes_115 : decode cX11_goes 115 = .ok (.aload_n 0, 1) := by decide +kernel
theorem dX11_goes_116 : decode cX11_goes 116 = .ok (.iload_n 1, 1) := by decide +kernel
theorem dX11_goes_117 : decode cX11_goes 117 = .ok (.iconst 5, 1) := by decide +kernel
theorem dX11_goes_118 : decode cX11_goes 118 = .ok (.aload_n 0, 1) := by decide +kernel
theorem dX11_goes_119 : decode cX11_goes 119 = .ok (.iload_n 1, 1) := by decide +kernel
theorem dX11_goes_120 : decode cX11_goes 120 = .ok (.iconst 5, 1) := by decide +kernel
theorem dX11_goes_121 : decode cX11_goes 121 = .ok (.invokevirtual 55, 3) := by decide +kernel
theorem dX11_goes_124 : decode cX11_goes 124 = .ok (.iconst 1, 1) := by decide +kernel
theorem dX11_goes_125 : decode cX11_goes 125 = .ok (.iadd, 1) := by decide +kernel
theorem dX11_goes_126 : decode cX11_goes 126 = .ok (.invokevirtual 69, 3) := by decide +kernel
theorem dX11_goes_129 : decode cX11_goes 129 = .ok (.iconst 1, 1) := by decide +kernel
theorem dX11_goes_130 : decode cX11_goes 130 = .ok (.ireturn, 1) := by decide +kernel

theorem dX11_cuts_0 : decode cX11_cuts 0 = .ok (.aload_n 0, 1) := by decide +kernel
theorem dX11_cuts_1 : decode cX11_cuts 1 = .ok (.iload_n 1, 1) := by decide +kernel
theorem dX11_cuts_2 : decode cX11_cuts 2 = .ok (.iconst 2, 1) := by decide +kernel
theorem dX11_cuts_3 : decode cX11_cuts 3 = .ok (.invokevirtual 55, 3) := by decide +kernel
theorem dX11_cuts_6 : decode cX11_cuts 6 = .ok (.istore_n 2, 1) := by decide +kernel
theorem dX11_cuts_7 : decode cX11_cuts 7 = .ok (.aload_n 0, 1) := by decide +kernel
theorem dX11_cuts_8 : decode cX11_cuts 8 = .ok (.iload_n 1, 1) := by decide +kernel
theorem dX11_cuts_9 : decode cX11_cuts 9 = .ok (.iconst 3, 1) := by decide +kernel
theorem dX11_cuts_10 : decode cX11_cuts 10 = .ok (.invokevirtual 55, 3) := by decide +kernel
theorem dX11_cuts_13 : decode cX11_cuts 13 = .ok (.istore_n 3, 1) := by decide +kernel
theorem dX11_cuts_14 : decode cX11_cuts 14 = .ok (.aload_n 0, 1) := by decide +kernel
theorem dX11_cuts_15 : decode cX11_cuts 15 = .ok (.iload_n 1, 1) := by decide +kernel
theorem dX11_cuts_16 : decode cX11_cuts 16 = .ok (.iconst 1, 1) := by decide +kernel
theorem dX11_cuts_17 : decode cX11_cuts 17 = .ok (.invokevirtual 55, 3) := by decide +kernel
theorem dX11_cuts_20 : decode cX11_cuts 20 = .ok (.iconst 5, 1) := by decide +kernel
theorem dX11_cuts_21 : decode cX11_cuts 21 = .ok (.if_icmp .lt 13, 3) := by decide +kernel
theorem dX11_cuts_24 : decode cX11_cuts 24 = .ok (.aload_n 0, 1) := by decide +kernel
theorem dX11_cuts_25 : decode cX11_cuts 25 = .ok (.iload_n 2, 1) := by decide +kernel
theorem dX11_cuts_26 : decode cX11_cuts 26 = .ok (.iload_n 3, 1) := by decide +kernel
theorem dX11_cuts_27 : decode cX11_cuts 27 = .ok (.iconst 3, 1) := by decide +kernel
theorem dX11_cuts_28 : decode cX11_cuts 28 = .ok (.invokevirtual 51, 3) := by decide +kernel
theorem dX11_cuts_31 : decode cX11_cuts 31 = .ok (.ifCond .lt 5, 3) := by decide +kernel
theorem dX11_cuts_34 : decode cX11_cuts 34 = .ok (.iconst 0, 1) := by decide +kernel
theorem dX11_cuts_35 : decode cX11_cuts 35 = .ok (.ireturn, 1) := by decide +kernel
theorem dX11_cuts_36 : decode cX11_cuts 36 = .ok (.aload_n 0, 1) := by decide +kernel
theorem dX11_cuts_37 : decode cX11_cuts 37 = .ok (.iload_n 2, 1) := by decide +kernel
theorem dX11_cuts_38 : decode cX11_cuts 38 = .ok (.iload_n 3, 1) := by decide +kernel
theorem dX11_cuts_39 : decode cX11_cuts 39 = .ok (.iconst 3, 1) := by decide +kernel
theorem dX11_cuts_40 : decode cX11_cuts 40 = .ok (.aload_n 0, 1) := by decide +kernel
theorem dX11_cuts_41 : decode cX11_cuts 41 = .ok (.getfield 8, 3) := by decide +kernel
theorem dX11_cuts_44 : decode cX11_cuts 44 = .ok (.iconst 3, 1) := by decide +kernel
theorem dX11_cuts_45 : decode cX11_cuts 45 = .ok (.iaload, 1) := by decide +kernel
theorem dX11_cuts_46 : decode cX11_cuts 46 = .ok (.invokevirtual 62, 3) := by decide +kernel
theorem dX11_cuts_49 : decode cX11_cuts 49 = .ok (.aload_n 0, 1) := by decide +kernel
theorem dX11_cuts_50 : decode cX11_cuts 50 = .ok (.iload_n 1, 1) := by decide +kernel
theorem dX11_cuts_51 : decode cX11_cuts 51 = .ok (.iconst 1, 1) := by decide +kernel
theorem dX11_cuts_52 : decode cX11_cuts 52 = .ok (.aload_n 0, 1) := by decide +kernel
theorem dX11_cuts_53 : decode cX11_cuts 53 = .ok (.iload_n 1, 1) := by decide +kernel
theorem dX11_cuts_54 : decode cX11_cuts 54 = .ok (.iconst 1, 1) := by decide +kernel
theorem dX11_cuts_55 : decode cX11_cuts 55 = .ok (.invokevirtual 55, 3) := by decide +kernel
theorem dX11_cuts_58 : decode cX11_cuts 58 = .ok (.iconst 5, 1) := by decide +kernel
theorem dX11_cuts_59 : decode cX11_cuts 59 = .ok (.isub, 1) := by decide +kernel
theorem dX11_cuts_60 : decode cX11_cuts 60 = .ok (.invokevirtual 69, 3) := by decide +kernel
theorem dX11_cuts_63 : decode cX11_cuts 63 = .ok (.iconst 1, 1) := by decide +kernel
theorem dX11_cuts_64 : decode cX11_cuts 64 = .ok (.ireturn, 1) := by decide +kernel

theorem dX11_does_0 : decode cX11_does 0 = .ok (.iload_n 2, 1) := by decide +kernel
theorem dX11_does_1 : decode cX11_does 1 = .ok (.bipush 24, 2) := by decide +kernel
theorem dX11_does_3 : decode cX11_does 3 = .ok (.if_icmp .ne 5, 3) := by decide +kernel
theorem dX11_does_6 : decode cX11_does 6 = .ok (.iconst 1, 1) := by decide +kernel
theorem dX11_does_7 : decode cX11_does 7 = .ok (.ireturn, 1) := by decide +kernel
theorem dX11_does_8 : decode cX11_does 8 = .ok (.iload_n 2, 1) := by decide +kernel
theorem dX11_does_9 : decode cX11_does 9 = .ok (.bipush 25, 2) := by decide +kernel
theorem dX11_does_11 : decode cX11_does 11 = .ok (.if_icmp .ne 9, 3) := by decide +kernel
theorem dX11_does_14 : decode cX11_does 14 = .ok (.aload_n 0, 1) := by decide +kernel
theorem dX11_does_15 : decode cX11_does 15 = .ok (.iload_n 1, 1) := by decide +kernel
theorem dX11_does_16 : decode cX11_does 16 = .ok (.invokevirtual 217, 3) := by decide +kernel
theorem dX11_does_19 : decode cX11_does 19 = .ok (.ireturn, 1) := by decide +kernel
theorem dX11_does_20 : decode cX11_does 20 = .ok (.iload_n 2, 1) := by decide +kernel
theorem dX11_does_21 : decode cX11_does 21 = .ok (.bipush 26, 2) := by decide +kernel
theorem dX11_does_23 : decode cX11_does 23 = .ok (.if_icmp .eq 13, 3) := by decide +kernel
theorem dX11_does_26 : decode cX11_does 26 = .ok (.aload_n 0, 1) := by decide +kernel
theorem dX11_does_27 : decode cX11_does 27 = .ok (.iload_n 1, 1) := by decide +kernel
theorem dX11_does_28 : decode cX11_does 28 = .ok (.iload_n 2, 1) := by decide +kernel
theorem dX11_does_29 : decode cX11_does 29 = .ok (.bipush 8, 2) := by decide +kernel
theorem dX11_does_31 : decode cX11_does 31 = .ok (.isub, 1) := by decide +kernel
theorem dX11_does_32 : decode cX11_does 32 = .ok (.invokevirtual 220, 3) := by decide +kernel
theorem dX11_does_35 : decode cX11_does 35 = .ok (.ireturn, 1) := by decide +kernel
theorem dX11_does_36 : decode cX11_does 36 = .ok (.iconst 0, 1) := by decide +kernel
theorem dX11_does_37 : decode cX11_does 37 = .ok (.istore 4, 2) := by decide +kernel
theorem dX11_does_39 : decode cX11_does 39 = .ok (.iload 4, 2) := by decide +kernel
theorem dX11_does_41 : decode cX11_does 41 = .ok (.aload_n 0, 1) := by decide +kernel
theorem dX11_does_42 : decode cX11_does 42 = .ok (.getfield 8, 3) := by decide +kernel
theorem dX11_does_45 : decode cX11_does 45 = .ok (.iconst 2, 1) := by decide +kernel
theorem dX11_does_46 : decode cX11_does 46 = .ok (.iaload, 1) := by decide +kernel
theorem dX11_does_47 : decode cX11_does 47 = .ok (.if_icmp .ge 23, 3) := by decide +kernel
theorem dX11_does_50 : decode cX11_does 50 = .ok (.iload 4, 2) := by decide +kernel
theorem dX11_does_52 : decode cX11_does 52 = .ok (.iload_n 1, 1) := by decide +kernel
theorem dX11_does_53 : decode cX11_does 53 = .ok (.if_icmp .eq 11, 3) := by decide +kernel
theorem dX11_does_56 : decode cX11_does 56 = .ok (.aload_n 0, 1) := by decide +kernel
theorem dX11_does_57 : decode cX11_does 57 = .ok (.iload 4, 2) := by decide +kernel
theorem dX11_does_59 : decode cX11_does 59 = .ok (.iconst 4, 1) := by decide +kernel
theorem dX11_does_60 : decode cX11_does 60 = .ok (.iload_n 3, 1) := by decide +kernel
theorem dX11_does_61 : decode cX11_does 61 = .ok (.invokevirtual 69, 3) := by decide +kernel
theorem dX11_does_64 : decode cX11_does 64 = .ok (.iinc 4 1, 3) := by decide +kernel
theorem dX11_does_67 : decode cX11_does 67 = .ok (.goto (-28), 3) := by decide +kernel
theorem dX11_does_70 : decode cX11_does 70 = .ok (.iconst 1, 1) := by decide +kernel
theorem dX11_does_71 : decode cX11_does 71 = .ok (.ireturn, 1) := by decide +kernel

theorem dX11_obeys_0 : decode cX11_obeys 0 = .ok (.aload_n 0, 1) := by decide +kernel
theorem dX11_obeys_1 : decode cX11_obeys 1 = .ok (.iload_n 1, 1) := by decide +kernel
theorem dX11_obeys_2 : decode cX11_obeys 2 = .ok (.bipush 6, 2) := by decide +kernel
theorem dX11_obeys_4 : decode cX11_obeys 4 = .ok (.iconst (-1), 1) := by decide +kernel
theorem dX11_obeys_5 : decode cX11_obeys 5 = .ok (.invokevirtual 69, 3) := by decide +kernel
theorem dX11_obeys_8 : decode cX11_obeys 8 = .ok (.aload_n 0, 1) := by decide +kernel
theorem dX11_obeys_9 : decode cX11_obeys 9 = .ok (.iload_n 1, 1) := by decide +kernel
theorem dX11_obeys_10 : decode cX11_obeys 10 = .ok (.bipush 7, 2) := by decide +kernel
theorem dX11_obeys_12 : decode cX11_obeys 12 = .ok (.iconst 0, 1) := by decide +kernel
theorem dX11_obeys_13 : decode cX11_obeys 13 = .ok (.invokevirtual 69, 3) := by decide +kernel
theorem dX11_obeys_16 : decode cX11_obeys 16 = .ok (.iconst 0, 1) := by decide +kernel
theorem dX11_obeys_17 : decode cX11_obeys 17 = .ok (.istore_n 2, 1) := by decide +kernel
theorem dX11_obeys_18 : decode cX11_obeys 18 = .ok (.iload_n 2, 1) := by decide +kernel
theorem dX11_obeys_19 : decode cX11_obeys 19 = .ok (.aload_n 0, 1) := by decide +kernel
theorem dX11_obeys_20 : decode cX11_obeys 20 = .ok (.iload_n 1, 1) := by decide +kernel
theorem dX11_obeys_21 : decode cX11_obeys 21 = .ok (.bipush 8, 2) := by decide +kernel
theorem dX11_obeys_23 : decode cX11_obeys 23 = .ok (.invokevirtual 55, 3) := by decide +kernel
theorem dX11_obeys_26 : decode cX11_obeys 26 = .ok (.if_icmp .ge 88, 3) := by decide +kernel
theorem dX11_obeys_29 : decode cX11_obeys 29 = .ok (.aload_n 0, 1) := by decide +kernel
theorem dX11_obeys_30 : decode cX11_obeys 30 = .ok (.iload_n 1, 1) := by decide +kernel
theorem dX11_obeys_31 : decode cX11_obeys 31 = .ok (.iload_n 2, 1) := by decide +kernel
theorem dX11_obeys_32 : decode cX11_obeys 32 = .ok (.invokevirtual 223, 3) := by decide +kernel
theorem dX11_obeys_35 : decode cX11_obeys 35 = .ok (.ifCond .ne 6, 3) := by decide +kernel
theorem dX11_obeys_38 : decode cX11_obeys 38 = .ok (.goto 70, 3) := by decide +kernel
theorem dX11_obeys_41 : decode cX11_obeys 41 = .ok (.aload_n 0, 1) := by decide +kernel
theorem dX11_obeys_42 : decode cX11_obeys 42 = .ok (.iload_n 1, 1) := by decide +kernel
theorem dX11_obeys_43 : decode cX11_obeys 43 = .ok (.bipush 6, 2) := by decide +kernel
theorem dX11_obeys_45 : decode cX11_obeys 45 = .ok (.iload_n 2, 1) := by decide +kernel
theorem dX11_obeys_46 : decode cX11_obeys 46 = .ok (.invokevirtual 69, 3) := by decide +kernel
theorem dX11_obeys_49 : decode cX11_obeys 49 = .ok (.aload_n 0, 1) := by decide +kernel
theorem dX11_obeys_50 : decode cX11_obeys 50 = .ok (.iload_n 1, 1) := by decide +kernel
theorem dX11_obeys_51 : decode cX11_obeys 51 = .ok (.bipush 7, 2) := by decide +kernel
theorem dX11_obeys_53 : decode cX11_obeys 53 = .ok (.aload_n 0, 1) := by decide +kernel
theorem dX11_obeys_54 : decode cX11_obeys 54 = .ok (.iload_n 1, 1) := by decide +kernel
theorem dX11_obeys_55 : decode cX11_obeys 55 = .ok (.aload_n 0, 1) := by decide +kernel
theorem dX11_obeys_56 : decode cX11_obeys 56 = .ok (.getfield 8, 3) := by decide +kernel
theorem dX11_obeys_59 : decode cX11_obeys 59 = .ok (.sipush 3460, 3) := by decide +kernel
theorem dX11_obeys_62 : decode cX11_obeys 62 = .ok (.bipush 80, 2) := by decide +kernel
theorem dX11_obeys_64 : decode cX11_obeys 64 = .ok (.iload_n 1, 1) := by decide +kernel
theorem dX11_obeys_65 : decode cX11_obeys 65 = .ok (.imul, 1) := by decide +kernel
theorem dX11_obeys_66 : decode cX11_obeys 66 = .ok (.iadd, 1) := by decide +kernel
theorem dX11_obeys_67 : decode cX11_obeys 67 = .ok (.iconst 4, 1) := by decide +kernel
theorem dX11_obeys_68 : decode cX11_obeys 68 = .ok (.iload_n 2, 1) := by decide +kernel
theorem dX11_obeys_69 : decode cX11_obeys 69 = .ok (.imul, 1) := by decide +kernel
theorem dX11_obeys_70 : decode cX11_obeys 70 = .ok (.iadd, 1) := by decide +kernel
theorem dX11_obeys_71 : decode cX11_obeys 71 = .ok (.iconst 2, 1) := by decide +kernel
theorem dX11_obeys_72 : decode cX11_obeys 72 = .ok (.iadd, 1) := by decide +kernel
theorem dX11_obeys_73 : decode cX11_obeys 73 = .ok (.iaload, 1) := by decide +kernel
theorem dX11_obeys_74 : decode cX11_obeys 74 = .ok (.aload_n 0, 1) := by decide +kernel
theorem dX11_obeys_75 : decode cX11_obeys 75 = .ok (.getfield 8, 3) := by decide +kernel
theorem dX11_obeys_78 : decode cX11_obeys 78 = .ok (.sipush 3460, 3) := by decide +kernel
theorem dX11_obeys_81 : decode cX11_obeys 81 = .ok (.bipush 80, 2) := by decide +kernel
theorem dX11_obeys_83 : decode cX11_obeys 83 = .ok (.iload_n 1, 1) := by decide +kernel
theorem dX11_obeys_84 : decode cX11_obeys 84 = .ok (.imul, 1) := by decide +kernel
theorem dX11_obeys_85 : decode cX11_obeys 85 = .ok (.iadd, 1) := by decide +kernel
theorem dX11_obeys_86 : decode cX11_obeys 86 = .ok (.iconst 4, 1) := by decide +kernel
theorem dX11_obeys_87 : decode cX11_obeys 87 = .ok (.iload_n 2, 1) := by decide +kernel
theorem dX11_obeys_88 : decode cX11_obeys 88 = .ok (.imul, 1) := by decide +kernel
theorem dX11_obeys_89 : decode cX11_obeys 89 = .ok (.iadd, 1) := by decide +kernel
theorem dX11_obeys_90 : decode cX11_obeys 90 = .ok (.iconst 3, 1) := by decide +kernel
theorem dX11_obeys_91 : decode cX11_obeys 91 = .ok (.iadd, 1) := by decide +kernel
theorem dX11_obeys_92 : decode cX11_obeys 92 = .ok (.iaload, 1) := by decide +kernel
theorem dX11_obeys_93 : decode cX11_obeys 93 = .ok (.invokevirtual 226, 3) := by decide +kernel
theorem dX11_obeys_96 : decode cX11_obeys 96 = .ok (.ifCond .eq 7, 3) := by decide +kernel
theorem dX11_obeys_99 : decode cX11_obeys 99 = .ok (.iconst 1, 1) := by decide +kernel
theorem dX11_obeys_100 : decode cX11_obeys 100 = .ok (.goto 4, 3) := by decide +kernel
theorem dX11_obeys_103 : decode cX11_obeys 103 = .ok (.iconst 0, 1) := by decide +kernel
theorem dX11_obeys_104 : decode cX11_obeys 104 = .ok (.invokevirtual 69, 3) := by decide +kernel
theorem dX11_obeys_107 : decode cX11_obeys 107 = .ok (.return_, 1) := by decide +kernel
theorem dX11_obeys_108 : decode cX11_obeys 108 = .ok (.iinc 2 1, 3) := by decide +kernel
theorem dX11_obeys_111 : decode cX11_obeys 111 = .ok (.goto (-93), 3) := by decide +kernel
theorem dX11_obeys_114 : decode cX11_obeys 114 = .ok (.return_, 1) := by decide +kernel

/-! X11_holds -/
def wX11_holds_308 (Q : Int32 → (Nat → Int32) → Prop) (K_30 : Int32 → Int32 → Int32 → Int32 → (Nat → Int32) → (Nat → Int32) → Prop)  (x1 : Int32) (x2 : Int32) (x4 : Int32) (x5 : Int32) (r_all : (Nat → Int32)) (r_pile : (Nat → Int32)) : Prop :=
  (K_30 x1 x2 x4 (x5 + (1 : Int32)) r_all r_pile)
def wX11_holds_111 (Q : Int32 → (Nat → Int32) → Prop) (K_30 : Int32 → Int32 → Int32 → Int32 → (Nat → Int32) → (Nat → Int32) → Prop)  (x1 : Int32) (x2 : Int32) (x4 : Int32) (x5 : Int32) (s1 : Int32) (s2 : Int32) (r_all : (Nat → Int32)) (r_pile : (Nat → Int32)) : Prop :=
  (vp_in s1 300 ∧ (wX11_holds_308 Q K_30 x1 x2 x4 x5 r_all (upd r_pile s1.toNatClampNeg (vp_nar .boolean s2))))
def wX11_holds_204 (Q : Int32 → (Nat → Int32) → Prop) (K_30 : Int32 → Int32 → Int32 → Int32 → (Nat → Int32) → (Nat → Int32) → Prop)  (x1 : Int32) (x2 : Int32) (x4 : Int32) (x5 : Int32) (s1 : Int32) (s2 : Int32) (r_all : (Nat → Int32)) (r_pile : (Nat → Int32)) : Prop :=
  (vp_in s1 300 ∧ (wX11_holds_308 Q K_30 x1 x2 x4 x5 r_all (upd r_pile s1.toNatClampNeg (vp_nar .boolean s2))))
def wX11_holds_173 (Q : Int32 → (Nat → Int32) → Prop) (K_30 : Int32 → Int32 → Int32 → Int32 → (Nat → Int32) → (Nat → Int32) → Prop)  (x1 : Int32) (x2 : Int32) (x4 : Int32) (x5 : Int32) (s1 : Int32) (r_all : (Nat → Int32)) (r_pile : (Nat → Int32)) : Prop :=
  (wX11_holds_204 Q K_30 x1 x2 x4 x5 s1 (0 : Int32) r_all r_pile)
def wX11_holds_199 (Q : Int32 → (Nat → Int32) → Prop) (K_30 : Int32 → Int32 → Int32 → Int32 → (Nat → Int32) → (Nat → Int32) → Prop)  (x1 : Int32) (x2 : Int32) (x4 : Int32) (x5 : Int32) (s1 : Int32) (r_all : (Nat → Int32)) (r_pile : (Nat → Int32)) : Prop :=
  (wX11_holds_204 Q K_30 x1 x2 x4 x5 s1 (1 : Int32) r_all r_pile)
def wX11_holds_129 (Q : Int32 → (Nat → Int32) → Prop) (K_30 : Int32 → Int32 → Int32 → Int32 → (Nat → Int32) → (Nat → Int32) → Prop)  (x1 : Int32) (x2 : Int32) (x4 : Int32) (x5 : Int32) (x7 : Int32) (r_all : (Nat → Int32)) (r_pile : (Nat → Int32)) : Prop :=
  ((¬ x7 = (32 : Int32) → (vp_in ((x4 + (-1 : Int32)) - (1 : Int32)) 300 ∧ ((¬ (r_pile ((x4 + (-1 : Int32)) - (1 : Int32)).toNatClampNeg) = 0 → (wX11_holds_199 Q K_30 x1 x2 (x4 + (-1 : Int32)) x5 ((x4 + (-1 : Int32)) - (1 : Int32)) r_all r_pile)) ∧ ((r_pile ((x4 + (-1 : Int32)) - (1 : Int32)).toNatClampNeg) = 0 → (vp_in (x4 + (-1 : Int32)) 300 ∧ (((r_pile (x4 + (-1 : Int32)).toNatClampNeg) = 0 → (wX11_holds_204 Q K_30 x1 x2 (x4 + (-1 : Int32)) x5 ((x4 + (-1 : Int32)) - (1 : Int32)) (0 : Int32) r_all r_pile)) ∧ (¬ (r_pile (x4 + (-1 : Int32)).toNatClampNeg) = 0 → (wX11_holds_199 Q K_30 x1 x2 (x4 + (-1 : Int32)) x5 ((x4 + (-1 : Int32)) - (1 : Int32)) r_all r_pile)))))))) ∧ (x7 = (32 : Int32) → (vp_in ((x4 + (-1 : Int32)) - (1 : Int32)) 300 ∧ (((r_pile ((x4 + (-1 : Int32)) - (1 : Int32)).toNatClampNeg) = 0 → (wX11_holds_173 Q K_30 x1 x2 (x4 + (-1 : Int32)) x5 ((x4 + (-1 : Int32)) - (1 : Int32)) r_all r_pile)) ∧ (¬ (r_pile ((x4 + (-1 : Int32)) - (1 : Int32)).toNatClampNeg) = 0 → (vp_in (x4 + (-1 : Int32)) 300 ∧ (((r_pile (x4 + (-1 : Int32)).toNatClampNeg) = 0 → (wX11_holds_173 Q K_30 x1 x2 (x4 + (-1 : Int32)) x5 ((x4 + (-1 : Int32)) - (1 : Int32)) r_all r_pile)) ∧ (¬ (r_pile (x4 + (-1 : Int32)).toNatClampNeg) = 0 → (wX11_holds_204 Q K_30 x1 x2 (x4 + (-1 : Int32)) x5 ((x4 + (-1 : Int32)) - (1 : Int32)) (1 : Int32) r_all r_pile)))))))))
def wX11_holds_304 (Q : Int32 → (Nat → Int32) → Prop) (K_30 : Int32 → Int32 → Int32 → Int32 → (Nat → Int32) → (Nat → Int32) → Prop)  (x1 : Int32) (x2 : Int32) (x4 : Int32) (x5 : Int32) (s1 : Int32) (s2 : Int32) (r_all : (Nat → Int32)) (r_pile : (Nat → Int32)) : Prop :=
  (vp_in s1 300 ∧ (wX11_holds_308 Q K_30 x1 x2 (x4 + (1 : Int32)) x5 r_all (upd r_pile s1.toNatClampNeg (vp_nar .boolean s2))))
def wX11_holds_30 (Q : Int32 → (Nat → Int32) → Prop)   : Nat → Int32 → Int32 → Int32 → Int32 → (Nat → Int32) → (Nat → Int32) → Prop
  | 0, _, _, _, _, _, _ => False
  | n + 1, x1, x2, x4, x5, r_all, r_pile => (vp_in ((((3460 : Int32) + ((80 : Int32) * x1)) + ((4 : Int32) * x2)) + (1 : Int32)) 53700 ∧ (((r_all ((((3460 : Int32) + ((80 : Int32) * x1)) + ((4 : Int32) * x2)) + (1 : Int32)).toNatClampNeg) ≤ x5 → (vp_in (0 : Int32) 300 ∧ (narrow .boolean (.int (r_pile (0 : Int32).toNatClampNeg)) = .int (r_pile (0 : Int32).toNatClampNeg) ∧ (Q (r_pile (0 : Int32).toNatClampNeg) r_pile)))) ∧ (¬ (r_all ((((3460 : Int32) + ((80 : Int32) * x1)) + ((4 : Int32) * x2)) + (1 : Int32)).toNatClampNeg) ≤ x5 → (vp_in (((4100 : Int32) + ((780 : Int32) * x1)) + ((3 : Int32) * x5)) 53700 ∧ ((¬ (r_all (((4100 : Int32) + ((780 : Int32) * x1)) + ((3 : Int32) * x5)).toNatClampNeg) = (33 : Int32) → (((r_all (((4100 : Int32) + ((780 : Int32) * x1)) + ((3 : Int32) * x5)).toNatClampNeg) = (32 : Int32) → (wX11_holds_129 Q (wX11_holds_30 Q n) x1 x2 x4 x5 (r_all (((4100 : Int32) + ((780 : Int32) * x1)) + ((3 : Int32) * x5)).toNatClampNeg) r_all r_pile)) ∧ (¬ (r_all (((4100 : Int32) + ((780 : Int32) * x1)) + ((3 : Int32) * x5)).toNatClampNeg) = (32 : Int32) → ((¬ (r_all (((4100 : Int32) + ((780 : Int32) * x1)) + ((3 : Int32) * x5)).toNatClampNeg) = (31 : Int32) → (wX11_asked (fun r_21 => (vp_in ((((4100 : Int32) + ((780 : Int32) * x1)) + ((3 : Int32) * x5)) + (2 : Int32)) 53700 ∧ (vp_in ((((4100 : Int32) + ((780 : Int32) * x1)) + ((3 : Int32) * x5)) + (1 : Int32)) 53700 ∧ ((¬ (r_all ((((4100 : Int32) + ((780 : Int32) * x1)) + ((3 : Int32) * x5)) + (1 : Int32)).toNatClampNeg) = (61 : Int32) → (vp_in ((((4100 : Int32) + ((780 : Int32) * x1)) + ((3 : Int32) * x5)) + (1 : Int32)) 53700 ∧ ((¬ (r_all ((((4100 : Int32) + ((780 : Int32) * x1)) + ((3 : Int32) * x5)) + (1 : Int32)).toNatClampNeg) = (60 : Int32) → ((r_21 ≤ (r_all ((((4100 : Int32) + ((780 : Int32) * x1)) + ((3 : Int32) * x5)) + (2 : Int32)).toNatClampNeg) → (wX11_holds_304 Q (wX11_holds_30 Q n) x1 x2 x4 x5 x4 (0 : Int32) r_all r_pile)) ∧ (¬ r_21 ≤ (r_all ((((4100 : Int32) + ((780 : Int32) * x1)) + ((3 : Int32) * x5)) + (2 : Int32)).toNatClampNeg) → (wX11_holds_304 Q (wX11_holds_30 Q n) x1 x2 x4 x5 x4 (1 : Int32) r_all r_pile)))) ∧ ((r_all ((((4100 : Int32) + ((780 : Int32) * x1)) + ((3 : Int32) * x5)) + (1 : Int32)).toNatClampNeg) = (60 : Int32) → (((r_all ((((4100 : Int32) + ((780 : Int32) * x1)) + ((3 : Int32) * x5)) + (2 : Int32)).toNatClampNeg) ≤ r_21 → (wX11_holds_304 Q (wX11_holds_30 Q n) x1 x2 x4 x5 x4 (0 : Int32) r_all r_pile)) ∧ (¬ (r_all ((((4100 : Int32) + ((780 : Int32) * x1)) + ((3 : Int32) * x5)) + (2 : Int32)).toNatClampNeg) ≤ r_21 → (wX11_holds_304 Q (wX11_holds_30 Q n) x1 x2 x4 x5 x4 (1 : Int32) r_all r_pile))))))) ∧ ((r_all ((((4100 : Int32) + ((780 : Int32) * x1)) + ((3 : Int32) * x5)) + (1 : Int32)).toNatClampNeg) = (61 : Int32) → ((¬ r_21 = (r_all ((((4100 : Int32) + ((780 : Int32) * x1)) + ((3 : Int32) * x5)) + (2 : Int32)).toNatClampNeg) → (wX11_holds_304 Q (wX11_holds_30 Q n) x1 x2 x4 x5 x4 (0 : Int32) r_all r_pile)) ∧ (r_21 = (r_all ((((4100 : Int32) + ((780 : Int32) * x1)) + ((3 : Int32) * x5)) + (2 : Int32)).toNatClampNeg) → (wX11_holds_304 Q (wX11_holds_30 Q n) x1 x2 x4 x5 x4 (1 : Int32) r_all r_pile)))))))) x1 (r_all (((4100 : Int32) + ((780 : Int32) * x1)) + ((3 : Int32) * x5)).toNatClampNeg) r_all)) ∧ ((r_all (((4100 : Int32) + ((780 : Int32) * x1)) + ((3 : Int32) * x5)).toNatClampNeg) = (31 : Int32) → (wX11_holds_129 Q (wX11_holds_30 Q n) x1 x2 x4 x5 (r_all (((4100 : Int32) + ((780 : Int32) * x1)) + ((3 : Int32) * x5)).toNatClampNeg) r_all r_pile)))))) ∧ ((r_all (((4100 : Int32) + ((780 : Int32) * x1)) + ((3 : Int32) * x5)).toNatClampNeg) = (33 : Int32) → (vp_in (x4 - (1 : Int32)) 300 ∧ ((¬ (r_pile (x4 - (1 : Int32)).toNatClampNeg) = 0 → (wX11_holds_111 Q (wX11_holds_30 Q n) x1 x2 x4 x5 (x4 - (1 : Int32)) (0 : Int32) r_all r_pile)) ∧ ((r_pile (x4 - (1 : Int32)).toNatClampNeg) = 0 → (wX11_holds_111 Q (wX11_holds_30 Q n) x1 x2 x4 x5 (x4 - (1 : Int32)) (1 : Int32) r_all r_pile))))))))))
def wX11_holds (Q : Int32 → (Nat → Int32) → Prop) (x1 : Int32) (x2 : Int32) (r_all : Nat → Int32) (r_pile : Nat → Int32) : Prop :=
  (vp_in (((3460 : Int32) + ((80 : Int32) * x1)) + ((4 : Int32) * x2)) 53700 ∧ ((0 ≤ (r_all (((3460 : Int32) + ((80 : Int32) * x1)) + ((4 : Int32) * x2)).toNatClampNeg) → (∃ j_, wX11_holds_30 Q j_ x1 x2 (0 : Int32) (r_all (((3460 : Int32) + ((80 : Int32) * x1)) + ((4 : Int32) * x2)).toNatClampNeg) r_all r_pile)) ∧ (¬ 0 ≤ (r_all (((3460 : Int32) + ((80 : Int32) * x1)) + ((4 : Int32) * x2)).toNatClampNeg) → (Q (1 : Int32) r_pile))))
abbrev vX11_holds (cI cZ : ClassId) (h h_all h_has h_line h_act h_pile h_comes h_leaves h_tried h_met : Nat) (f_size : Int32) (f_next : Int32) (f_where : Int32) (f_token : Int32) (f_number : Int32) (f_sign : Int32) (f_word : Int32) (f_wrong : Int32) (f_open : Int32) (f_lines : Int32) (f_acts : Int32) (r_all : Nat → Int32) (r_pile : Nat → Int32) : va_W := [(h, .inr (10, [.ref h_all, .ref h_has, .int f_size, .int f_next, .int f_where, .int f_token, .int f_number, .int f_sign, .int f_word, .int f_wrong, .int f_open, .int f_lines, .int f_acts, .ref h_line, .ref h_act, .ref h_pile, .ref h_comes, .ref h_leaves, .ref h_tried, .ref h_met])), (h_all, .inl (cI, 53700, .inl r_all)), (h_pile, .inl (cZ, 300, .inl r_pile))]
abbrev rmX11_holds : Room := { frames := 5, cells := 0, slots := 0, locals := 115 }
abbrev qX11_holds (dC : Nat → ClassId) (dI : Nat → Nat → Nat) (cI cZ cO cW : ClassId) (h h_all h_has h_line h_act h_pile h_comes h_leaves h_tried h_met : Nat) (f_size : Int32) (f_next : Int32) (f_where : Int32) (f_token : Int32) (f_number : Int32) (f_sign : Int32) (f_word : Int32) (f_wrong : Int32) (f_open : Int32) (f_lines : Int32) (f_acts : Int32) (r_all : Nat → Int32) (Q : Int32 → (Nat → Int32) → Prop) (A : Nat → Prop) : Array Value → State → Outcome → State → Prop := va_Qi (fun (r : Int32) (u : (Nat → Int32)) => Q r u) (fun (u : (Nat → Int32)) (t : State) => va_P (dC, dI) vwCl (vX11_holds cI cZ h h_all h_has h_line h_act h_pile h_comes h_leaves h_tried h_met f_size f_next f_where f_token f_number f_sign f_word f_wrong f_open f_lines f_acts r_all u) t.heap ∧ va_K (dC, dI) vwCl (tysA cI cZ cO cW) t ∧ va_D A (vX11_holds cI cZ h h_all h_has h_line h_act h_pile h_comes h_leaves h_tried h_met f_size f_next f_where f_token f_number f_sign f_word f_wrong f_open f_lines f_acts r_all u)) A
def zsX11_holds : List Cond := Cond.code yX11_holds cX11_holds 10 (some .boolean) :: GW
set_option maxHeartbeats 4000000 in
set_option maxRecDepth 100000 in
theorem tX11_holds_308 {p : Program} {l : Launch} {e : Env} {s : State} {m : MethodId} {args : Array Value} {below : List Frame} {meth : Method} {c : Code} {dC : Nat → ClassId} {dI : Nat → Nat → Nat} {cI cZ cO cW : ClassId} {A : Nat → Prop} {h h_all h_has h_line h_act h_pile h_comes h_leaves h_tried h_met : Nat} {f_size f_next f_where f_token f_number f_sign f_word f_wrong f_open f_lines f_acts : Int32} {Q : Int32 → (Nat → Int32) → Prop} {K_30 : Int32 → Int32 → Int32 → Int32 → (Nat → Int32) → (Nat → Int32) → Prop} (hC : Cx p s m args meth c cX11_holds (some .boolean) 10 GW RX11) (hK : va_K (dC, dI) vwCl (tysA cI cZ cO cW) s) (hA : ∀ q : Nat, s.heap.size ≤ q → A q) (hk_30 : ∀ (x1 : Int32) (x2 : Int32) (x4 : Int32) (x5 : Int32) (r_all : (Nat → Int32)) (r_pile : (Nat → Int32)) (H : Heap) (locs : List Loc) (ls : Array Slot), K_30 x1 x2 x4 x5 r_all r_pile → va_P (dC, dI) vwCl (vX11_holds cI cZ h h_all h_has h_line h_act h_pile h_comes h_leaves h_tried h_met f_size f_next f_where f_token f_number f_sign f_word f_wrong f_open f_lines f_acts r_all r_pile) H → va_D A (vX11_holds cI cZ h h_all h_has h_line h_act h_pile h_comes h_leaves h_tried h_met f_size f_next f_where f_token f_number f_sign f_word f_wrong f_open f_lines f_acts r_all r_pile) → va_S A s.heap H locs → lv_has ls 10 [(0, .ref h), (1, .int x1), (2, .int x2), (4, .int x4), (5, .int x5)] → W p l e rmX11_holds s m args below meth c H locs 0 0 (MQ below (qX11_holds dC dI cI cZ cO cW h h_all h_has h_line h_act h_pile h_comes h_leaves h_tried h_met f_size f_next f_where f_token f_number f_sign f_word f_wrong f_open f_lines f_acts r_all Q A) args s 0 0 A) (F0 m 30 ls [])) :
    ∀ (x1 : Int32) (x2 : Int32) (x4 : Int32) (x5 : Int32) (r_all : (Nat → Int32)) (r_pile : (Nat → Int32)) (H : Heap) (locs : List Loc) (ls : Array Slot), wX11_holds_308 Q K_30 x1 x2 x4 x5 r_all r_pile → va_P (dC, dI) vwCl (vX11_holds cI cZ h h_all h_has h_line h_act h_pile h_comes h_leaves h_tried h_met f_size f_next f_where f_token f_number f_sign f_word f_wrong f_open f_lines f_acts r_all r_pile) H → va_D A (vX11_holds cI cZ h h_all h_has h_line h_act h_pile h_comes h_leaves h_tried h_met f_size f_next f_where f_token f_number f_sign f_word f_wrong f_open f_lines f_acts r_all r_pile) → va_S A s.heap H locs → lv_has ls 10 [(0, .ref h), (1, .int x1), (2, .int x2), (4, .int x4), (5, .int x5)] → W p l e rmX11_holds s m args below meth c H locs 0 0 (MQ below (qX11_holds dC dI cI cZ cO cW h h_all h_has h_line h_act h_pile h_comes h_leaves h_tried h_met f_size f_next f_where f_token f_number f_sign f_word f_wrong f_open f_lines f_acts r_all Q A) args s 0 0 A) (F0 m 308 ls []) := by
  obtain ⟨hx, hb, hr, hml, hown, hts, hlocks⟩ := id hC
  intro x1 x2 x4 x5 r_all r_pile H locs ls hw hP hD hS hl
  refine lv_iinc (v := (x5 + (1 : Int32))) (lv' := [(5, .int (x5 + (1 : Int32))), (0, .ref h), (1, .int x1), (2, .int x2), (4, .int x4)]) hx hb dX11_holds_308 hl (k := 4) rfl rfl (by decide) rfl (fun ls hl => ?_)
  refine lv_goto (tgt := 30) hx hb dX11_holds_311 (by decide) ?_
  exact hk_30 x1 x2 x4 (x5 + (1 : Int32)) r_all r_pile _ _ ls hw (hP.sub [0, 1, 2] rfl) (hD.sub [0, 1, 2] (by decide) rfl) hS (lv_sub hl [1, 2, 3, 4, 0] rfl)
set_option maxHeartbeats 4000000 in
set_option maxRecDepth 100000 in
theorem tX11_holds_111 {p : Program} {l : Launch} {e : Env} {s : State} {m : MethodId} {args : Array Value} {below : List Frame} {meth : Method} {c : Code} {dC : Nat → ClassId} {dI : Nat → Nat → Nat} {cI cZ cO cW : ClassId} {A : Nat → Prop} {h h_all h_has h_line h_act h_pile h_comes h_leaves h_tried h_met : Nat} {f_size f_next f_where f_token f_number f_sign f_word f_wrong f_open f_lines f_acts : Int32} {Q : Int32 → (Nat → Int32) → Prop} {K_30 : Int32 → Int32 → Int32 → Int32 → (Nat → Int32) → (Nat → Int32) → Prop} (hC : Cx p s m args meth c cX11_holds (some .boolean) 10 GW RX11) (hK : va_K (dC, dI) vwCl (tysA cI cZ cO cW) s) (hA : ∀ q : Nat, s.heap.size ≤ q → A q) (hk_30 : ∀ (x1 : Int32) (x2 : Int32) (x4 : Int32) (x5 : Int32) (r_all : (Nat → Int32)) (r_pile : (Nat → Int32)) (H : Heap) (locs : List Loc) (ls : Array Slot), K_30 x1 x2 x4 x5 r_all r_pile → va_P (dC, dI) vwCl (vX11_holds cI cZ h h_all h_has h_line h_act h_pile h_comes h_leaves h_tried h_met f_size f_next f_where f_token f_number f_sign f_word f_wrong f_open f_lines f_acts r_all r_pile) H → va_D A (vX11_holds cI cZ h h_all h_has h_line h_act h_pile h_comes h_leaves h_tried h_met f_size f_next f_where f_token f_number f_sign f_word f_wrong f_open f_lines f_acts r_all r_pile) → va_S A s.heap H locs → lv_has ls 10 [(0, .ref h), (1, .int x1), (2, .int x2), (4, .int x4), (5, .int x5)] → W p l e rmX11_holds s m args below meth c H locs 0 0 (MQ below (qX11_holds dC dI cI cZ cO cW h h_all h_has h_line h_act h_pile h_comes h_leaves h_tried h_met f_size f_next f_where f_token f_number f_sign f_word f_wrong f_open f_lines f_acts r_all Q A) args s 0 0 A) (F0 m 30 ls [])) :
    ∀ (x1 : Int32) (x2 : Int32) (x4 : Int32) (x5 : Int32) (s1 : Int32) (s2 : Int32) (r_all : (Nat → Int32)) (r_pile : (Nat → Int32)) (H : Heap) (locs : List Loc) (ls : Array Slot), wX11_holds_111 Q K_30 x1 x2 x4 x5 s1 s2 r_all r_pile → va_P (dC, dI) vwCl (vX11_holds cI cZ h h_all h_has h_line h_act h_pile h_comes h_leaves h_tried h_met f_size f_next f_where f_token f_number f_sign f_word f_wrong f_open f_lines f_acts r_all r_pile) H → va_D A (vX11_holds cI cZ h h_all h_has h_line h_act h_pile h_comes h_leaves h_tried h_met f_size f_next f_where f_token f_number f_sign f_word f_wrong f_open f_lines f_acts r_all r_pile) → va_S A s.heap H locs → lv_has ls 10 [(0, .ref h), (1, .int x1), (2, .int x2), (4, .int x4), (5, .int x5)] → W p l e rmX11_holds s m args below meth c H locs 0 0 (MQ below (qX11_holds dC dI cI cZ cO cW h h_all h_has h_line h_act h_pile h_comes h_leaves h_tried h_met f_size f_next f_where f_token f_number f_sign f_word f_wrong f_open f_lines f_acts r_all Q A) args s 0 0 A) (F0 m 111 ls [.int s2, .int s1, .ref h_pile]) := by
  obtain ⟨hx, hb, hr, hml, hown, hts, hlocks⟩ := id hC
  intro x1 x2 x4 x5 s1 s2 r_all r_pile H locs ls hw hP hD hS hl
  obtain ⟨h_1, hw⟩ := hw
  refine va_zast hx hb hK hP hD hS 2 1 rfl rfl h_1 dX11_holds_111 (fun H locs hP hD hS => ?_)
  have hP : va_P (dC, dI) vwCl [(h, .inr (10, [.ref h_all, .ref h_has, .int f_size, .int f_next, .int f_where, .int f_token, .int f_number, .int f_sign, .int f_word, .int f_wrong, .int f_open, .int f_lines, .int f_acts, .ref h_line, .ref h_act, .ref h_pile, .ref h_comes, .ref h_leaves, .ref h_tried, .ref h_met])), (h_all, .inl (cI, 53700, .inl r_all)), (h_pile, .inl (cZ, 300, .inl (upd r_pile s1.toNatClampNeg (vp_nar .boolean s2))))] _ := hP
  have hD : va_D A [(h, .inr (10, [.ref h_all, .ref h_has, .int f_size, .int f_next, .int f_where, .int f_token, .int f_number, .int f_sign, .int f_word, .int f_wrong, .int f_open, .int f_lines, .int f_acts, .ref h_line, .ref h_act, .ref h_pile, .ref h_comes, .ref h_leaves, .ref h_tried, .ref h_met])), (h_all, .inl (cI, 53700, .inl r_all)), (h_pile, .inl (cZ, 300, .inl (upd r_pile s1.toNatClampNeg (vp_nar .boolean s2))))] := hD
  refine lv_goto (tgt := 308) hx hb dX11_holds_112 (by decide) ?_
  exact tX11_holds_308 hC hK hA hk_30 x1 x2 x4 x5 r_all (upd r_pile s1.toNatClampNeg (vp_nar .boolean s2)) _ _ ls hw (hP.sub [0, 1, 2] rfl) (hD.sub [0, 1, 2] (by decide) rfl) hS (lv_sub hl [0, 1, 2, 3, 4] rfl)
set_option maxHeartbeats 4000000 in
set_option maxRecDepth 100000 in
theorem tX11_holds_204 {p : Program} {l : Launch} {e : Env} {s : State} {m : MethodId} {args : Array Value} {below : List Frame} {meth : Method} {c : Code} {dC : Nat → ClassId} {dI : Nat → Nat → Nat} {cI cZ cO cW : ClassId} {A : Nat → Prop} {h h_all h_has h_line h_act h_pile h_comes h_leaves h_tried h_met : Nat} {f_size f_next f_where f_token f_number f_sign f_word f_wrong f_open f_lines f_acts : Int32} {Q : Int32 → (Nat → Int32) → Prop} {K_30 : Int32 → Int32 → Int32 → Int32 → (Nat → Int32) → (Nat → Int32) → Prop} (hC : Cx p s m args meth c cX11_holds (some .boolean) 10 GW RX11) (hK : va_K (dC, dI) vwCl (tysA cI cZ cO cW) s) (hA : ∀ q : Nat, s.heap.size ≤ q → A q) (hk_30 : ∀ (x1 : Int32) (x2 : Int32) (x4 : Int32) (x5 : Int32) (r_all : (Nat → Int32)) (r_pile : (Nat → Int32)) (H : Heap) (locs : List Loc) (ls : Array Slot), K_30 x1 x2 x4 x5 r_all r_pile → va_P (dC, dI) vwCl (vX11_holds cI cZ h h_all h_has h_line h_act h_pile h_comes h_leaves h_tried h_met f_size f_next f_where f_token f_number f_sign f_word f_wrong f_open f_lines f_acts r_all r_pile) H → va_D A (vX11_holds cI cZ h h_all h_has h_line h_act h_pile h_comes h_leaves h_tried h_met f_size f_next f_where f_token f_number f_sign f_word f_wrong f_open f_lines f_acts r_all r_pile) → va_S A s.heap H locs → lv_has ls 10 [(0, .ref h), (1, .int x1), (2, .int x2), (4, .int x4), (5, .int x5)] → W p l e rmX11_holds s m args below meth c H locs 0 0 (MQ below (qX11_holds dC dI cI cZ cO cW h h_all h_has h_line h_act h_pile h_comes h_leaves h_tried h_met f_size f_next f_where f_token f_number f_sign f_word f_wrong f_open f_lines f_acts r_all Q A) args s 0 0 A) (F0 m 30 ls [])) :
    ∀ (x1 : Int32) (x2 : Int32) (x4 : Int32) (x5 : Int32) (s1 : Int32) (s2 : Int32) (r_all : (Nat → Int32)) (r_pile : (Nat → Int32)) (H : Heap) (locs : List Loc) (ls : Array Slot), wX11_holds_204 Q K_30 x1 x2 x4 x5 s1 s2 r_all r_pile → va_P (dC, dI) vwCl (vX11_holds cI cZ h h_all h_has h_line h_act h_pile h_comes h_leaves h_tried h_met f_size f_next f_where f_token f_number f_sign f_word f_wrong f_open f_lines f_acts r_all r_pile) H → va_D A (vX11_holds cI cZ h h_all h_has h_line h_act h_pile h_comes h_leaves h_tried h_met f_size f_next f_where f_token f_number f_sign f_word f_wrong f_open f_lines f_acts r_all r_pile) → va_S A s.heap H locs → lv_has ls 10 [(0, .ref h), (1, .int x1), (2, .int x2), (4, .int x4), (5, .int x5)] → W p l e rmX11_holds s m args below meth c H locs 0 0 (MQ below (qX11_holds dC dI cI cZ cO cW h h_all h_has h_line h_act h_pile h_comes h_leaves h_tried h_met f_size f_next f_where f_token f_number f_sign f_word f_wrong f_open f_lines f_acts r_all Q A) args s 0 0 A) (F0 m 204 ls [.int s2, .int s1, .ref h_pile]) := by
  obtain ⟨hx, hb, hr, hml, hown, hts, hlocks⟩ := id hC
  intro x1 x2 x4 x5 s1 s2 r_all r_pile H locs ls hw hP hD hS hl
  obtain ⟨h_2, hw⟩ := hw
  refine va_zast hx hb hK hP hD hS 2 1 rfl rfl h_2 dX11_holds_204 (fun H locs hP hD hS => ?_)
  have hP : va_P (dC, dI) vwCl [(h, .inr (10, [.ref h_all, .ref h_has, .int f_size, .int f_next, .int f_where, .int f_token, .int f_number, .int f_sign, .int f_word, .int f_wrong, .int f_open, .int f_lines, .int f_acts, .ref h_line, .ref h_act, .ref h_pile, .ref h_comes, .ref h_leaves, .ref h_tried, .ref h_met])), (h_all, .inl (cI, 53700, .inl r_all)), (h_pile, .inl (cZ, 300, .inl (upd r_pile s1.toNatClampNeg (vp_nar .boolean s2))))] _ := hP
  have hD : va_D A [(h, .inr (10, [.ref h_all, .ref h_has, .int f_size, .int f_next, .int f_where, .int f_token, .int f_number, .int f_sign, .int f_word, .int f_wrong, .int f_open, .int f_lines, .int f_acts, .ref h_line, .ref h_act, .ref h_pile, .ref h_comes, .ref h_leaves, .ref h_tried, .ref h_met])), (h_all, .inl (cI, 53700, .inl r_all)), (h_pile, .inl (cZ, 300, .inl (upd r_pile s1.toNatClampNeg (vp_nar .boolean s2))))] := hD
  refine lv_goto (tgt := 308) hx hb dX11_holds_205 (by decide) ?_
  exact tX11_holds_308 hC hK hA hk_30 x1 x2 x4 x5 r_all (upd r_pile s1.toNatClampNeg (vp_nar .boolean s2)) _ _ ls hw (hP.sub [0, 1, 2] rfl) (hD.sub [0, 1, 2] (by decide) rfl) hS (lv_sub hl [0, 1, 2, 3, 4] rfl)
set_option maxHeartbeats 4000000 in
set_option maxRecDepth 100000 in
theorem tX11_holds_173 {p : Program} {l : Launch} {e : Env} {s : State} {m : MethodId} {args : Array Value} {below : List Frame} {meth : Method} {c : Code} {dC : Nat → ClassId} {dI : Nat → Nat → Nat} {cI cZ cO cW : ClassId} {A : Nat → Prop} {h h_all h_has h_line h_act h_pile h_comes h_leaves h_tried h_met : Nat} {f_size f_next f_where f_token f_number f_sign f_word f_wrong f_open f_lines f_acts : Int32} {Q : Int32 → (Nat → Int32) → Prop} {K_30 : Int32 → Int32 → Int32 → Int32 → (Nat → Int32) → (Nat → Int32) → Prop} (hC : Cx p s m args meth c cX11_holds (some .boolean) 10 GW RX11) (hK : va_K (dC, dI) vwCl (tysA cI cZ cO cW) s) (hA : ∀ q : Nat, s.heap.size ≤ q → A q) (hk_30 : ∀ (x1 : Int32) (x2 : Int32) (x4 : Int32) (x5 : Int32) (r_all : (Nat → Int32)) (r_pile : (Nat → Int32)) (H : Heap) (locs : List Loc) (ls : Array Slot), K_30 x1 x2 x4 x5 r_all r_pile → va_P (dC, dI) vwCl (vX11_holds cI cZ h h_all h_has h_line h_act h_pile h_comes h_leaves h_tried h_met f_size f_next f_where f_token f_number f_sign f_word f_wrong f_open f_lines f_acts r_all r_pile) H → va_D A (vX11_holds cI cZ h h_all h_has h_line h_act h_pile h_comes h_leaves h_tried h_met f_size f_next f_where f_token f_number f_sign f_word f_wrong f_open f_lines f_acts r_all r_pile) → va_S A s.heap H locs → lv_has ls 10 [(0, .ref h), (1, .int x1), (2, .int x2), (4, .int x4), (5, .int x5)] → W p l e rmX11_holds s m args below meth c H locs 0 0 (MQ below (qX11_holds dC dI cI cZ cO cW h h_all h_has h_line h_act h_pile h_comes h_leaves h_tried h_met f_size f_next f_where f_token f_number f_sign f_word f_wrong f_open f_lines f_acts r_all Q A) args s 0 0 A) (F0 m 30 ls [])) :
    ∀ (x1 : Int32) (x2 : Int32) (x4 : Int32) (x5 : Int32) (s1 : Int32) (r_all : (Nat → Int32)) (r_pile : (Nat → Int32)) (H : Heap) (locs : List Loc) (ls : Array Slot), wX11_holds_173 Q K_30 x1 x2 x4 x5 s1 r_all r_pile → va_P (dC, dI) vwCl (vX11_holds cI cZ h h_all h_has h_line h_act h_pile h_comes h_leaves h_tried h_met f_size f_next f_where f_token f_number f_sign f_word f_wrong f_open f_lines f_acts r_all r_pile) H → va_D A (vX11_holds cI cZ h h_all h_has h_line h_act h_pile h_comes h_leaves h_tried h_met f_size f_next f_where f_token f_number f_sign f_word f_wrong f_open f_lines f_acts r_all r_pile) → va_S A s.heap H locs → lv_has ls 10 [(0, .ref h), (1, .int x1), (2, .int x2), (4, .int x4), (5, .int x5)] → W p l e rmX11_holds s m args below meth c H locs 0 0 (MQ below (qX11_holds dC dI cI cZ cO cW h h_all h_has h_line h_act h_pile h_comes h_leaves h_tried h_met f_size f_next f_where f_token f_number f_sign f_word f_wrong f_open f_lines f_acts r_all Q A) args s 0 0 A) (F0 m 173 ls [.int s1, .ref h_pile]) := by
  obtain ⟨hx, hb, hr, hml, hown, hts, hlocks⟩ := id hC
  intro x1 x2 x4 x5 s1 r_all r_pile H locs ls hw hP hD hS hl
  refine lv_iconst (v := (0 : Int32)) hx hb dX11_holds_173 (by decide) ?_
  refine lv_goto (tgt := 204) hx hb dX11_holds_174 (by decide) ?_
  exact tX11_holds_204 hC hK hA hk_30 x1 x2 x4 x5 s1 (0 : Int32) r_all r_pile _ _ ls hw (hP.sub [0, 1, 2] rfl) (hD.sub [0, 1, 2] (by decide) rfl) hS (lv_sub hl [0, 1, 2, 3, 4] rfl)
set_option maxHeartbeats 4000000 in
set_option maxRecDepth 100000 in
theorem tX11_holds_199 {p : Program} {l : Launch} {e : Env} {s : State} {m : MethodId} {args : Array Value} {below : List Frame} {meth : Method} {c : Code} {dC : Nat → ClassId} {dI : Nat → Nat → Nat} {cI cZ cO cW : ClassId} {A : Nat → Prop} {h h_all h_has h_line h_act h_pile h_comes h_leaves h_tried h_met : Nat} {f_size f_next f_where f_token f_number f_sign f_word f_wrong f_open f_lines f_acts : Int32} {Q : Int32 → (Nat → Int32) → Prop} {K_30 : Int32 → Int32 → Int32 → Int32 → (Nat → Int32) → (Nat → Int32) → Prop} (hC : Cx p s m args meth c cX11_holds (some .boolean) 10 GW RX11) (hK : va_K (dC, dI) vwCl (tysA cI cZ cO cW) s) (hA : ∀ q : Nat, s.heap.size ≤ q → A q) (hk_30 : ∀ (x1 : Int32) (x2 : Int32) (x4 : Int32) (x5 : Int32) (r_all : (Nat → Int32)) (r_pile : (Nat → Int32)) (H : Heap) (locs : List Loc) (ls : Array Slot), K_30 x1 x2 x4 x5 r_all r_pile → va_P (dC, dI) vwCl (vX11_holds cI cZ h h_all h_has h_line h_act h_pile h_comes h_leaves h_tried h_met f_size f_next f_where f_token f_number f_sign f_word f_wrong f_open f_lines f_acts r_all r_pile) H → va_D A (vX11_holds cI cZ h h_all h_has h_line h_act h_pile h_comes h_leaves h_tried h_met f_size f_next f_where f_token f_number f_sign f_word f_wrong f_open f_lines f_acts r_all r_pile) → va_S A s.heap H locs → lv_has ls 10 [(0, .ref h), (1, .int x1), (2, .int x2), (4, .int x4), (5, .int x5)] → W p l e rmX11_holds s m args below meth c H locs 0 0 (MQ below (qX11_holds dC dI cI cZ cO cW h h_all h_has h_line h_act h_pile h_comes h_leaves h_tried h_met f_size f_next f_where f_token f_number f_sign f_word f_wrong f_open f_lines f_acts r_all Q A) args s 0 0 A) (F0 m 30 ls [])) :
    ∀ (x1 : Int32) (x2 : Int32) (x4 : Int32) (x5 : Int32) (s1 : Int32) (r_all : (Nat → Int32)) (r_pile : (Nat → Int32)) (H : Heap) (locs : List Loc) (ls : Array Slot), wX11_holds_199 Q K_30 x1 x2 x4 x5 s1 r_all r_pile → va_P (dC, dI) vwCl (vX11_holds cI cZ h h_all h_has h_line h_act h_pile h_comes h_leaves h_tried h_met f_size f_next f_where f_token f_number f_sign f_word f_wrong f_open f_lines f_acts r_all r_pile) H → va_D A (vX11_holds cI cZ h h_all h_has h_line h_act h_pile h_comes h_leaves h_tried h_met f_size f_next f_where f_token f_number f_sign f_word f_wrong f_open f_lines f_acts r_all r_pile) → va_S A s.heap H locs → lv_has ls 10 [(0, .ref h), (1, .int x1), (2, .int x2), (4, .int x4), (5, .int x5)] → W p l e rmX11_holds s m args below meth c H locs 0 0 (MQ below (qX11_holds dC dI cI cZ cO cW h h_all h_has h_line h_act h_pile h_comes h_leaves h_tried h_met f_size f_next f_where f_token f_number f_sign f_word f_wrong f_open f_lines f_acts r_all Q A) args s 0 0 A) (F0 m 199 ls [.int s1, .ref h_pile]) := by
  obtain ⟨hx, hb, hr, hml, hown, hts, hlocks⟩ := id hC
  intro x1 x2 x4 x5 s1 r_all r_pile H locs ls hw hP hD hS hl
  refine lv_iconst (v := (1 : Int32)) hx hb dX11_holds_199 (by decide) ?_
  refine lv_goto (tgt := 204) hx hb dX11_holds_200 (by decide) ?_
  exact tX11_holds_204 hC hK hA hk_30 x1 x2 x4 x5 s1 (1 : Int32) r_all r_pile _ _ ls hw (hP.sub [0, 1, 2] rfl) (hD.sub [0, 1, 2] (by decide) rfl) hS (lv_sub hl [0, 1, 2, 3, 4] rfl)
set_option maxHeartbeats 4000000 in
set_option maxRecDepth 100000 in
theorem tX11_holds_129 {p : Program} {l : Launch} {e : Env} {s : State} {m : MethodId} {args : Array Value} {below : List Frame} {meth : Method} {c : Code} {dC : Nat → ClassId} {dI : Nat → Nat → Nat} {cI cZ cO cW : ClassId} {A : Nat → Prop} {h h_all h_has h_line h_act h_pile h_comes h_leaves h_tried h_met : Nat} {f_size f_next f_where f_token f_number f_sign f_word f_wrong f_open f_lines f_acts : Int32} {Q : Int32 → (Nat → Int32) → Prop} {K_30 : Int32 → Int32 → Int32 → Int32 → (Nat → Int32) → (Nat → Int32) → Prop} (hC : Cx p s m args meth c cX11_holds (some .boolean) 10 GW RX11) (hK : va_K (dC, dI) vwCl (tysA cI cZ cO cW) s) (hA : ∀ q : Nat, s.heap.size ≤ q → A q) (hk_30 : ∀ (x1 : Int32) (x2 : Int32) (x4 : Int32) (x5 : Int32) (r_all : (Nat → Int32)) (r_pile : (Nat → Int32)) (H : Heap) (locs : List Loc) (ls : Array Slot), K_30 x1 x2 x4 x5 r_all r_pile → va_P (dC, dI) vwCl (vX11_holds cI cZ h h_all h_has h_line h_act h_pile h_comes h_leaves h_tried h_met f_size f_next f_where f_token f_number f_sign f_word f_wrong f_open f_lines f_acts r_all r_pile) H → va_D A (vX11_holds cI cZ h h_all h_has h_line h_act h_pile h_comes h_leaves h_tried h_met f_size f_next f_where f_token f_number f_sign f_word f_wrong f_open f_lines f_acts r_all r_pile) → va_S A s.heap H locs → lv_has ls 10 [(0, .ref h), (1, .int x1), (2, .int x2), (4, .int x4), (5, .int x5)] → W p l e rmX11_holds s m args below meth c H locs 0 0 (MQ below (qX11_holds dC dI cI cZ cO cW h h_all h_has h_line h_act h_pile h_comes h_leaves h_tried h_met f_size f_next f_where f_token f_number f_sign f_word f_wrong f_open f_lines f_acts r_all Q A) args s 0 0 A) (F0 m 30 ls [])) :
    ∀ (x1 : Int32) (x2 : Int32) (x4 : Int32) (x5 : Int32) (x7 : Int32) (r_all : (Nat → Int32)) (r_pile : (Nat → Int32)) (H : Heap) (locs : List Loc) (ls : Array Slot), wX11_holds_129 Q K_30 x1 x2 x4 x5 x7 r_all r_pile → va_P (dC, dI) vwCl (vX11_holds cI cZ h h_all h_has h_line h_act h_pile h_comes h_leaves h_tried h_met f_size f_next f_where f_token f_number f_sign f_word f_wrong f_open f_lines f_acts r_all r_pile) H → va_D A (vX11_holds cI cZ h h_all h_has h_line h_act h_pile h_comes h_leaves h_tried h_met f_size f_next f_where f_token f_number f_sign f_word f_wrong f_open f_lines f_acts r_all r_pile) → va_S A s.heap H locs → lv_has ls 10 [(0, .ref h), (1, .int x1), (2, .int x2), (4, .int x4), (5, .int x5), (7, .int x7)] → W p l e rmX11_holds s m args below meth c H locs 0 0 (MQ below (qX11_holds dC dI cI cZ cO cW h h_all h_has h_line h_act h_pile h_comes h_leaves h_tried h_met f_size f_next f_where f_token f_number f_sign f_word f_wrong f_open f_lines f_acts r_all Q A) args s 0 0 A) (F0 m 129 ls []) := by
  obtain ⟨hx, hb, hr, hml, hown, hts, hlocks⟩ := id hC
  intro x1 x2 x4 x5 x7 r_all r_pile H locs ls hw hP hD hS hl
  refine lv_iinc (v := (x4 + (-1 : Int32))) (lv' := [(4, .int (x4 + (-1 : Int32))), (0, .ref h), (1, .int x1), (2, .int x2), (5, .int x5), (7, .int x7)]) hx hb dX11_holds_129 hl (k := 3) rfl rfl (by decide) rfl (fun ls hl => ?_)
  refine lv_aload_n hx hb dX11_holds_132 rfl (lv_at hl 1 rfl) ?_
  refine va_get (D := (dC, dI)) (ci := 10) (v := .ref h_pile) (C := RX11) (T := TX11) (N := 20) hx hb hts gu_X11 hown hK hP 0 rfl rfl 15 (by decide) (hts _ gw_614) (fun _ h9 => h9) rfl dX11_holds_133 ?_
  refine lv_iload hx hb dX11_holds_136 (lv_at hl 0 rfl) ?_
  refine lv_iconst (v := (1 : Int32)) hx hb dX11_holds_138 (by decide) ?_
  refine lv_isub hx hb dX11_holds_139 ?_
  refine lv_iload hx hb dX11_holds_140 (lv_at hl 5 rfl) ?_
  refine lv_bipush (v := (32 : Int32)) hx hb dX11_holds_142 (by decide) ?_
  refine lv_icmp_ne (tgt := 177) hx hb dX11_holds_144 (by decide) (fun c_3 => ?_) (fun c_3 => ?_)
  · have hw := hw.1 c_3
    refine lv_aload_n hx hb dX11_holds_177 rfl (lv_at hl 1 rfl) ?_
    refine va_get (D := (dC, dI)) (ci := 10) (v := .ref h_pile) (C := RX11) (T := TX11) (N := 20) hx hb hts gu_X11 hown hK hP 0 rfl rfl 15 (by decide) (hts _ gw_614) (fun _ h9 => h9) rfl dX11_holds_178 ?_
    refine lv_iload hx hb dX11_holds_181 (lv_at hl 0 rfl) ?_
    refine lv_iconst (v := (1 : Int32)) hx hb dX11_holds_183 (by decide) ?_
    refine lv_isub hx hb dX11_holds_184 ?_
    obtain ⟨h_4, hw⟩ := hw
    refine va_zald hx hb hK hP 2 1 rfl rfl h_4 dX11_holds_185 ?_
    refine lv_if_ne (tgt := 199) hx hb dX11_holds_186 (by decide) (fun c_5 => ?_) (fun c_5 => ?_)
    · have hw := hw.1 c_5
      exact tX11_holds_199 hC hK hA hk_30 x1 x2 (x4 + (-1 : Int32)) x5 ((x4 + (-1 : Int32)) - (1 : Int32)) r_all r_pile _ _ ls hw (hP.sub [0, 1, 2] rfl) (hD.sub [0, 1, 2] (by decide) rfl) hS (lv_sub hl [1, 2, 3, 0, 4] rfl)
    · have hw := hw.2 c_5
      refine lv_aload_n hx hb dX11_holds_189 rfl (lv_at hl 1 rfl) ?_
      refine va_get (D := (dC, dI)) (ci := 10) (v := .ref h_pile) (C := RX11) (T := TX11) (N := 20) hx hb hts gu_X11 hown hK hP 0 rfl rfl 15 (by decide) (hts _ gw_614) (fun _ h9 => h9) rfl dX11_holds_190 ?_
      refine lv_iload hx hb dX11_holds_193 (lv_at hl 0 rfl) ?_
      obtain ⟨h_6, hw⟩ := hw
      refine va_zald hx hb hK hP 2 1 rfl rfl h_6 dX11_holds_195 ?_
      refine lv_if_eq (tgt := 203) hx hb dX11_holds_196 (by decide) (fun c_7 => ?_) (fun c_7 => ?_)
      · have hw := hw.1 c_7
        refine lv_iconst (v := (0 : Int32)) hx hb dX11_holds_203 (by decide) ?_
        exact tX11_holds_204 hC hK hA hk_30 x1 x2 (x4 + (-1 : Int32)) x5 ((x4 + (-1 : Int32)) - (1 : Int32)) (0 : Int32) r_all r_pile _ _ ls hw (hP.sub [0, 1, 2] rfl) (hD.sub [0, 1, 2] (by decide) rfl) hS (lv_sub hl [1, 2, 3, 0, 4] rfl)
      · have hw := hw.2 c_7
        exact tX11_holds_199 hC hK hA hk_30 x1 x2 (x4 + (-1 : Int32)) x5 ((x4 + (-1 : Int32)) - (1 : Int32)) r_all r_pile _ _ ls hw (hP.sub [0, 1, 2] rfl) (hD.sub [0, 1, 2] (by decide) rfl) hS (lv_sub hl [1, 2, 3, 0, 4] rfl)
  · have hw := hw.2 c_3
    refine lv_aload_n hx hb dX11_holds_147 rfl (lv_at hl 1 rfl) ?_
    refine va_get (D := (dC, dI)) (ci := 10) (v := .ref h_pile) (C := RX11) (T := TX11) (N := 20) hx hb hts gu_X11 hown hK hP 0 rfl rfl 15 (by decide) (hts _ gw_614) (fun _ h9 => h9) rfl dX11_holds_148 ?_
    refine lv_iload hx hb dX11_holds_151 (lv_at hl 0 rfl) ?_
    refine lv_iconst (v := (1 : Int32)) hx hb dX11_holds_153 (by decide) ?_
    refine lv_isub hx hb dX11_holds_154 ?_
    obtain ⟨h_8, hw⟩ := hw
    refine va_zald hx hb hK hP 2 1 rfl rfl h_8 dX11_holds_155 ?_
    refine lv_if_eq (tgt := 173) hx hb dX11_holds_156 (by decide) (fun c_9 => ?_) (fun c_9 => ?_)
    · have hw := hw.1 c_9
      exact tX11_holds_173 hC hK hA hk_30 x1 x2 (x4 + (-1 : Int32)) x5 ((x4 + (-1 : Int32)) - (1 : Int32)) r_all r_pile _ _ ls hw (hP.sub [0, 1, 2] rfl) (hD.sub [0, 1, 2] (by decide) rfl) hS (lv_sub hl [1, 2, 3, 0, 4] rfl)
    · have hw := hw.2 c_9
      refine lv_aload_n hx hb dX11_holds_159 rfl (lv_at hl 1 rfl) ?_
      refine va_get (D := (dC, dI)) (ci := 10) (v := .ref h_pile) (C := RX11) (T := TX11) (N := 20) hx hb hts gu_X11 hown hK hP 0 rfl rfl 15 (by decide) (hts _ gw_614) (fun _ h9 => h9) rfl dX11_holds_160 ?_
      refine lv_iload hx hb dX11_holds_163 (lv_at hl 0 rfl) ?_
      obtain ⟨h_10, hw⟩ := hw
      refine va_zald hx hb hK hP 2 1 rfl rfl h_10 dX11_holds_165 ?_
      refine lv_if_eq (tgt := 173) hx hb dX11_holds_166 (by decide) (fun c_11 => ?_) (fun c_11 => ?_)
      · have hw := hw.1 c_11
        exact tX11_holds_173 hC hK hA hk_30 x1 x2 (x4 + (-1 : Int32)) x5 ((x4 + (-1 : Int32)) - (1 : Int32)) r_all r_pile _ _ ls hw (hP.sub [0, 1, 2] rfl) (hD.sub [0, 1, 2] (by decide) rfl) hS (lv_sub hl [1, 2, 3, 0, 4] rfl)
      · have hw := hw.2 c_11
        refine lv_iconst (v := (1 : Int32)) hx hb dX11_holds_169 (by decide) ?_
        refine lv_goto (tgt := 204) hx hb dX11_holds_170 (by decide) ?_
        exact tX11_holds_204 hC hK hA hk_30 x1 x2 (x4 + (-1 : Int32)) x5 ((x4 + (-1 : Int32)) - (1 : Int32)) (1 : Int32) r_all r_pile _ _ ls hw (hP.sub [0, 1, 2] rfl) (hD.sub [0, 1, 2] (by decide) rfl) hS (lv_sub hl [1, 2, 3, 0, 4] rfl)
set_option maxHeartbeats 4000000 in
set_option maxRecDepth 100000 in
theorem tX11_holds_304 {p : Program} {l : Launch} {e : Env} {s : State} {m : MethodId} {args : Array Value} {below : List Frame} {meth : Method} {c : Code} {dC : Nat → ClassId} {dI : Nat → Nat → Nat} {cI cZ cO cW : ClassId} {A : Nat → Prop} {h h_all h_has h_line h_act h_pile h_comes h_leaves h_tried h_met : Nat} {f_size f_next f_where f_token f_number f_sign f_word f_wrong f_open f_lines f_acts : Int32} {Q : Int32 → (Nat → Int32) → Prop} {K_30 : Int32 → Int32 → Int32 → Int32 → (Nat → Int32) → (Nat → Int32) → Prop} (hC : Cx p s m args meth c cX11_holds (some .boolean) 10 GW RX11) (hK : va_K (dC, dI) vwCl (tysA cI cZ cO cW) s) (hA : ∀ q : Nat, s.heap.size ≤ q → A q) (hk_30 : ∀ (x1 : Int32) (x2 : Int32) (x4 : Int32) (x5 : Int32) (r_all : (Nat → Int32)) (r_pile : (Nat → Int32)) (H : Heap) (locs : List Loc) (ls : Array Slot), K_30 x1 x2 x4 x5 r_all r_pile → va_P (dC, dI) vwCl (vX11_holds cI cZ h h_all h_has h_line h_act h_pile h_comes h_leaves h_tried h_met f_size f_next f_where f_token f_number f_sign f_word f_wrong f_open f_lines f_acts r_all r_pile) H → va_D A (vX11_holds cI cZ h h_all h_has h_line h_act h_pile h_comes h_leaves h_tried h_met f_size f_next f_where f_token f_number f_sign f_word f_wrong f_open f_lines f_acts r_all r_pile) → va_S A s.heap H locs → lv_has ls 10 [(0, .ref h), (1, .int x1), (2, .int x2), (4, .int x4), (5, .int x5)] → W p l e rmX11_holds s m args below meth c H locs 0 0 (MQ below (qX11_holds dC dI cI cZ cO cW h h_all h_has h_line h_act h_pile h_comes h_leaves h_tried h_met f_size f_next f_where f_token f_number f_sign f_word f_wrong f_open f_lines f_acts r_all Q A) args s 0 0 A) (F0 m 30 ls [])) :
    ∀ (x1 : Int32) (x2 : Int32) (x4 : Int32) (x5 : Int32) (s1 : Int32) (s2 : Int32) (r_all : (Nat → Int32)) (r_pile : (Nat → Int32)) (H : Heap) (locs : List Loc) (ls : Array Slot), wX11_holds_304 Q K_30 x1 x2 x4 x5 s1 s2 r_all r_pile → va_P (dC, dI) vwCl (vX11_holds cI cZ h h_all h_has h_line h_act h_pile h_comes h_leaves h_tried h_met f_size f_next f_where f_token f_number f_sign f_word f_wrong f_open f_lines f_acts r_all r_pile) H → va_D A (vX11_holds cI cZ h h_all h_has h_line h_act h_pile h_comes h_leaves h_tried h_met f_size f_next f_where f_token f_number f_sign f_word f_wrong f_open f_lines f_acts r_all r_pile) → va_S A s.heap H locs → lv_has ls 10 [(0, .ref h), (1, .int x1), (2, .int x2), (4, .int x4), (5, .int x5)] → W p l e rmX11_holds s m args below meth c H locs 0 0 (MQ below (qX11_holds dC dI cI cZ cO cW h h_all h_has h_line h_act h_pile h_comes h_leaves h_tried h_met f_size f_next f_where f_token f_number f_sign f_word f_wrong f_open f_lines f_acts r_all Q A) args s 0 0 A) (F0 m 304 ls [.int s2, .int s1, .ref h_pile]) := by
  obtain ⟨hx, hb, hr, hml, hown, hts, hlocks⟩ := id hC
  intro x1 x2 x4 x5 s1 s2 r_all r_pile H locs ls hw hP hD hS hl
  obtain ⟨h_12, hw⟩ := hw
  refine va_zast hx hb hK hP hD hS 2 1 rfl rfl h_12 dX11_holds_304 (fun H locs hP hD hS => ?_)
  have hP : va_P (dC, dI) vwCl [(h, .inr (10, [.ref h_all, .ref h_has, .int f_size, .int f_next, .int f_where, .int f_token, .int f_number, .int f_sign, .int f_word, .int f_wrong, .int f_open, .int f_lines, .int f_acts, .ref h_line, .ref h_act, .ref h_pile, .ref h_comes, .ref h_leaves, .ref h_tried, .ref h_met])), (h_all, .inl (cI, 53700, .inl r_all)), (h_pile, .inl (cZ, 300, .inl (upd r_pile s1.toNatClampNeg (vp_nar .boolean s2))))] _ := hP
  have hD : va_D A [(h, .inr (10, [.ref h_all, .ref h_has, .int f_size, .int f_next, .int f_where, .int f_token, .int f_number, .int f_sign, .int f_word, .int f_wrong, .int f_open, .int f_lines, .int f_acts, .ref h_line, .ref h_act, .ref h_pile, .ref h_comes, .ref h_leaves, .ref h_tried, .ref h_met])), (h_all, .inl (cI, 53700, .inl r_all)), (h_pile, .inl (cZ, 300, .inl (upd r_pile s1.toNatClampNeg (vp_nar .boolean s2))))] := hD
  refine lv_iinc (v := (x4 + (1 : Int32))) (lv' := [(4, .int (x4 + (1 : Int32))), (0, .ref h), (1, .int x1), (2, .int x2), (5, .int x5)]) hx hb dX11_holds_305 hl (k := 3) rfl rfl (by decide) rfl (fun ls hl => ?_)
  exact tX11_holds_308 hC hK hA hk_30 x1 x2 (x4 + (1 : Int32)) x5 r_all (upd r_pile s1.toNatClampNeg (vp_nar .boolean s2)) _ _ ls hw (hP.sub [0, 1, 2] rfl) (hD.sub [0, 1, 2] (by decide) rfl) hS (lv_sub hl [1, 2, 3, 0, 4] rfl)
set_option maxHeartbeats 4000000 in
set_option maxRecDepth 100000 in
theorem tX11_holds_30 {p : Program} {l : Launch} {e : Env} {s : State} {m : MethodId} {args : Array Value} {below : List Frame} {meth : Method} {c : Code} {dC : Nat → ClassId} {dI : Nat → Nat → Nat} {cI cZ cO cW : ClassId} {A : Nat → Prop} {h h_all h_has h_line h_act h_pile h_comes h_leaves h_tried h_met : Nat} {f_size f_next f_where f_token f_number f_sign f_word f_wrong f_open f_lines f_acts : Int32} {Q : Int32 → (Nat → Int32) → Prop}  (hC : Cx p s m args meth c cX11_holds (some .boolean) 10 GW RX11) (hK : va_K (dC, dI) vwCl (tysA cI cZ cO cW) s) (hA : ∀ q : Nat, s.heap.size ≤ q → A q) :
    ∀ (n : Nat) (x1 : Int32) (x2 : Int32) (x4 : Int32) (x5 : Int32) (r_all : (Nat → Int32)) (r_pile : (Nat → Int32)) (H : Heap) (locs : List Loc) (ls : Array Slot), wX11_holds_30 Q  n x1 x2 x4 x5 r_all r_pile → va_P (dC, dI) vwCl (vX11_holds cI cZ h h_all h_has h_line h_act h_pile h_comes h_leaves h_tried h_met f_size f_next f_where f_token f_number f_sign f_word f_wrong f_open f_lines f_acts r_all r_pile) H → va_D A (vX11_holds cI cZ h h_all h_has h_line h_act h_pile h_comes h_leaves h_tried h_met f_size f_next f_where f_token f_number f_sign f_word f_wrong f_open f_lines f_acts r_all r_pile) → va_S A s.heap H locs → lv_has ls 10 [(0, .ref h), (1, .int x1), (2, .int x2), (4, .int x4), (5, .int x5)] → W p l e rmX11_holds s m args below meth c H locs 0 0 (MQ below (qX11_holds dC dI cI cZ cO cW h h_all h_has h_line h_act h_pile h_comes h_leaves h_tried h_met f_size f_next f_where f_token f_number f_sign f_word f_wrong f_open f_lines f_acts r_all Q A) args s 0 0 A) (F0 m 30 ls []) := by
  obtain ⟨hx, hb, hr, hml, hown, hts, hlocks⟩ := id hC
  intro n
  induction n with
  | zero =>
    intro  x1 x2 x4 x5 r_all r_pile H locs ls hw
    exact hw.elim
  | succ n ih =>
    intro  x1 x2 x4 x5 r_all r_pile H locs ls hw hP hD hS hl
    refine lv_iload hx hb dX11_holds_30 (lv_at hl 4 rfl) ?_
    refine lv_aload_n hx hb dX11_holds_32 rfl (lv_at hl 0 rfl) ?_
    refine va_get (D := (dC, dI)) (ci := 10) (v := .ref h_all) (C := RX11) (T := TX11) (N := 20) hx hb hts gu_X11 hown hK hP 0 rfl rfl 0 (by decide) (hts _ gw_607) (fun _ h9 => h9) rfl dX11_holds_33 ?_
    refine lv_sipush (v := (3460 : Int32)) hx hb dX11_holds_36 (by decide) ?_
    refine lv_bipush (v := (80 : Int32)) hx hb dX11_holds_39 (by decide) ?_
    refine lv_iload_n hx hb dX11_holds_41 rfl (lv_at hl 1 rfl) ?_
    refine lv_imul hx hb dX11_holds_42 ?_
    refine lv_iadd hx hb dX11_holds_43 ?_
    refine lv_iconst (v := (4 : Int32)) hx hb dX11_holds_44 (by decide) ?_
    refine lv_iload_n hx hb dX11_holds_45 rfl (lv_at hl 2 rfl) ?_
    refine lv_imul hx hb dX11_holds_46 ?_
    refine lv_iadd hx hb dX11_holds_47 ?_
    refine lv_iconst (v := (1 : Int32)) hx hb dX11_holds_48 (by decide) ?_
    refine lv_iadd hx hb dX11_holds_49 ?_
    obtain ⟨h_13, hw⟩ := hw
    refine va_iald hx hb hK hP 1 0 rfl rfl h_13 dX11_holds_50 ?_
    refine lv_icmp_ge (tgt := 314) hx hb dX11_holds_51 (by decide) (fun c_14 => ?_) (fun c_14 => ?_)
    · have hw := hw.1 c_14
      refine lv_aload_n hx hb dX11_holds_314 rfl (lv_at hl 0 rfl) ?_
      refine va_get (D := (dC, dI)) (ci := 10) (v := .ref h_pile) (C := RX11) (T := TX11) (N := 20) hx hb hts gu_X11 hown hK hP 0 rfl rfl 15 (by decide) (hts _ gw_614) (fun _ h9 => h9) rfl dX11_holds_315 ?_
      refine lv_iconst (v := (0 : Int32)) hx hb dX11_holds_318 (by decide) ?_
      obtain ⟨h_15, hw⟩ := hw
      refine va_zald hx hb hK hP 2 1 rfl rfl h_15 dX11_holds_319 ?_
      obtain ⟨h_16, hw⟩ := hw
      have hP9 := hP.sub (ws' := (vX11_holds cI cZ h h_all h_has h_line h_act h_pile h_comes h_leaves h_tried h_met f_size f_next f_where f_token f_number f_sign f_word f_wrong f_open f_lines f_acts r_all r_pile)) [0, 1, 2] rfl
      have hD9 := hD.sub (ws' := (vX11_holds cI cZ h h_all h_has h_line h_act h_pile h_comes h_leaves h_tried h_met f_size f_next f_where f_token f_number f_sign f_word f_wrong f_open f_lines f_acts r_all r_pile)) [0, 1, 2] (by decide) rfl
      exact W.zret (v := (r_pile (0 : Int32).toNatClampNeg)) (ty := .boolean) hx hb hr h_16 (fun t ht hW => ⟨⟨(r_pile (0 : Int32).toNatClampNeg), r_pile, rfl, hw, by rw [ht]; exact hP9, va_K.moved hW.alike hK, hD9⟩, hS.F ht⟩) hS.2.2 dX11_holds_320
    · have hw := hw.2 c_14
      refine lv_sipush (v := (4100 : Int32)) hx hb dX11_holds_54 (by decide) ?_
      refine lv_sipush (v := (780 : Int32)) hx hb dX11_holds_57 (by decide) ?_
      refine lv_iload_n hx hb dX11_holds_60 rfl (lv_at hl 1 rfl) ?_
      refine lv_imul hx hb dX11_holds_61 ?_
      refine lv_iadd hx hb dX11_holds_62 ?_
      refine lv_iconst (v := (3 : Int32)) hx hb dX11_holds_63 (by decide) ?_
      refine lv_iload hx hb dX11_holds_64 (lv_at hl 4 rfl) ?_
      refine lv_imul hx hb dX11_holds_66 ?_
      refine lv_iadd hx hb dX11_holds_67 ?_
      refine lv_istore (lv' := [(6, .int (((4100 : Int32) + ((780 : Int32) * x1)) + ((3 : Int32) * x5))), (0, .ref h), (1, .int x1), (2, .int x2), (4, .int x4), (5, .int x5)]) hx hb dX11_holds_68 hl (by decide) rfl (fun ls hl => ?_)
      refine lv_aload_n hx hb dX11_holds_70 rfl (lv_at hl 1 rfl) ?_
      refine va_get (D := (dC, dI)) (ci := 10) (v := .ref h_all) (C := RX11) (T := TX11) (N := 20) hx hb hts gu_X11 hown hK hP 0 rfl rfl 0 (by decide) (hts _ gw_607) (fun _ h9 => h9) rfl dX11_holds_71 ?_
      refine lv_iload hx hb dX11_holds_74 (lv_at hl 0 rfl) ?_
      obtain ⟨h_17, hw⟩ := hw
      refine va_iald hx hb hK hP 1 0 rfl rfl h_17 dX11_holds_76 ?_
      refine lv_istore (lv' := [(7, .int (r_all (((4100 : Int32) + ((780 : Int32) * x1)) + ((3 : Int32) * x5)).toNatClampNeg)), (6, .int (((4100 : Int32) + ((780 : Int32) * x1)) + ((3 : Int32) * x5))), (0, .ref h), (1, .int x1), (2, .int x2), (4, .int x4), (5, .int x5)]) hx hb dX11_holds_77 hl (by decide) rfl (fun ls hl => ?_)
      refine lv_iload hx hb dX11_holds_79 (lv_at hl 0 rfl) ?_
      refine lv_bipush (v := (33 : Int32)) hx hb dX11_holds_81 (by decide) ?_
      refine lv_icmp_ne (tgt := 115) hx hb dX11_holds_83 (by decide) (fun c_18 => ?_) (fun c_18 => ?_)
      · have hw := hw.1 c_18
        refine lv_iload hx hb dX11_holds_115 (lv_at hl 0 rfl) ?_
        refine lv_bipush (v := (32 : Int32)) hx hb dX11_holds_117 (by decide) ?_
        refine lv_icmp_eq (tgt := 129) hx hb dX11_holds_119 (by decide) (fun c_19 => ?_) (fun c_19 => ?_)
        · have hw := hw.1 c_19
          exact tX11_holds_129 hC hK hA ih x1 x2 x4 x5 (r_all (((4100 : Int32) + ((780 : Int32) * x1)) + ((3 : Int32) * x5)).toNatClampNeg) r_all r_pile _ _ ls hw (hP.sub [0, 1, 2] rfl) (hD.sub [0, 1, 2] (by decide) rfl) hS (lv_sub hl [2, 3, 4, 5, 6, 0] rfl)
        · have hw := hw.2 c_19
          refine lv_iload hx hb dX11_holds_122 (lv_at hl 0 rfl) ?_
          refine lv_bipush (v := (31 : Int32)) hx hb dX11_holds_124 (by decide) ?_
          refine lv_icmp_ne (tgt := 208) hx hb dX11_holds_126 (by decide) (fun c_20 => ?_) (fun c_20 => ?_)
          · have hw := hw.1 c_20
            refine lv_aload_n hx hb dX11_holds_208 rfl (lv_at hl 2 rfl) ?_
            refine lv_iload_n hx hb dX11_holds_209 rfl (lv_at hl 3 rfl) ?_
            refine lv_iload hx hb dX11_holds_210 (lv_at hl 0 rfl) ?_
            have hPc := hP.sub (ws' := [(h, .inr (10, [.ref h_all, .ref h_has, .int f_size, .int f_next, .int f_where, .int f_token, .int f_number, .int f_sign, .int f_word, .int f_wrong, .int f_open, .int f_lines, .int f_acts, .ref h_line, .ref h_act, .ref h_pile, .ref h_comes, .ref h_leaves, .ref h_tried, .ref h_met])), (h_all, .inl (cI, 53700, .inl r_all))]) [0, 1] rfl
            have hDc := hD.sub (ws' := [(h, .inr (10, [.ref h_all, .ref h_has, .int f_size, .int f_next, .int f_where, .int f_token, .int f_number, .int f_sign, .int f_word, .int f_wrong, .int f_open, .int f_lines, .int f_acts, .ref h_line, .ref h_act, .ref h_pile, .ref h_comes, .ref h_leaves, .ref h_tried, .ref h_met])), (h_all, .inl (cI, 53700, .inl r_all))]) [0, 1] (by decide) rfl
            have hFc := va_free (wc := [(h, .inr (10, [.ref h_all, .ref h_has, .int f_size, .int f_next, .int f_where, .int f_token, .int f_number, .int f_sign, .int f_word, .int f_wrong, .int f_open, .int f_lines, .int f_acts, .ref h_line, .ref h_act, .ref h_pile, .ref h_comes, .ref h_leaves, .ref h_tried, .ref h_met])), (h_all, .inl (cI, 53700, .inl r_all))]) hD hS hA [0, 1] rfl
            refine va_calli (va_runV (As := [.int x1, .int (r_all (((4100 : Int32) + ((780 : Int32) * x1)) + ((3 : Int32) * x5)).toNatClampNeg)]) (rest := []) ⟨hx, hb, hml, hown, hts⟩ (kX11_asked l dC dI cI cZ cO cW h h_all h_has h_line h_act h_pile h_comes h_leaves h_tried h_met H.size f_size f_next f_where f_token f_number f_sign f_word f_wrong f_open f_lines f_acts r_all x1 (r_all (((4100 : Int32) + ((780 : Int32) * x1)) + ((3 : Int32) * x5)).toNatClampNeg) _ hw) (cwV 2 hts (gV gw_785 gw_786 gw_787 gw_622 (gM gw_784)) rfl rfl rfl (by decide +kernel) ⟨Nat.le_of_ble_eq_true rfl, Nat.le_of_ble_eq_true rfl⟩) (pv_of hPc hK hDc (va_recv hK hPc (ci := 10) (q0 := 0) rfl rfl)) rfl rfl hl.1 rfl (lv_room (Nat.le_of_ble_eq_true rfl)) dX11_holds_212 ⟨Nat.zero_le _, Nat.zero_le _⟩) hS (fun q _ h => hFc q h) hFc (fun r_21 u t H locs ht hvm hw hB hz1 hk1 hS => ?_)
            obtain ⟨hP, hD⟩ := af_join (wr := [(h_pile, .inl (cZ, 300, .inl r_pile))]) (w1 := [(h, .inr (10, [.ref h_all, .ref h_has, .int f_size, .int f_next, .int f_where, .int f_token, .int f_number, .int f_sign, .int f_word, .int f_wrong, .int f_open, .int f_lines, .int f_acts, .ref h_line, .ref h_act, .ref h_pile, .ref h_comes, .ref h_leaves, .ref h_tried, .ref h_met])), (h_all, .inl (cI, 53700, .inl r_all))]) hB ht hP hD [0, 1] [2] rfl rfl (by decide) (by decide) hk1 hFc
            have hP : va_P (dC, dI) vwCl [(h_pile, .inl (cZ, 300, .inl r_pile)), (h, .inr (10, [.ref h_all, .ref h_has, .int f_size, .int f_next, .int f_where, .int f_token, .int f_number, .int f_sign, .int f_word, .int f_wrong, .int f_open, .int f_lines, .int f_acts, .ref h_line, .ref h_act, .ref h_pile, .ref h_comes, .ref h_leaves, .ref h_tried, .ref h_met])), (h_all, .inl (cI, 53700, .inl r_all))] _ := hP
            have hD : va_D A [(h_pile, .inl (cZ, 300, .inl r_pile)), (h, .inr (10, [.ref h_all, .ref h_has, .int f_size, .int f_next, .int f_where, .int f_token, .int f_number, .int f_sign, .int f_word, .int f_wrong, .int f_open, .int f_lines, .int f_acts, .ref h_line, .ref h_act, .ref h_pile, .ref h_comes, .ref h_leaves, .ref h_tried, .ref h_met])), (h_all, .inl (cI, 53700, .inl r_all))] := hD
            refine lv_istore (lv' := [(8, .int r_21), (7, .int (r_all (((4100 : Int32) + ((780 : Int32) * x1)) + ((3 : Int32) * x5)).toNatClampNeg)), (6, .int (((4100 : Int32) + ((780 : Int32) * x1)) + ((3 : Int32) * x5))), (0, .ref h), (1, .int x1), (2, .int x2), (4, .int x4), (5, .int x5)]) hx hb dX11_holds_215 hl (by decide) rfl (fun ls hl => ?_)
            refine lv_aload_n hx hb dX11_holds_217 rfl (lv_at hl 3 rfl) ?_
            refine va_get (D := (dC, dI)) (ci := 10) (v := .ref h_all) (C := RX11) (T := TX11) (N := 20) hx hb hts gu_X11 hown hK hP 1 rfl rfl 0 (by decide) (hts _ gw_607) (fun _ h9 => h9) rfl dX11_holds_218 ?_
            refine lv_iload hx hb dX11_holds_221 (lv_at hl 2 rfl) ?_
            refine lv_iconst (v := (2 : Int32)) hx hb dX11_holds_223 (by decide) ?_
            refine lv_iadd hx hb dX11_holds_224 ?_
            obtain ⟨h_22, hw⟩ := hw
            refine va_iald hx hb hK hP 2 0 rfl rfl h_22 dX11_holds_225 ?_
            refine lv_istore (lv' := [(9, .int (r_all ((((4100 : Int32) + ((780 : Int32) * x1)) + ((3 : Int32) * x5)) + (2 : Int32)).toNatClampNeg)), (8, .int r_21), (7, .int (r_all (((4100 : Int32) + ((780 : Int32) * x1)) + ((3 : Int32) * x5)).toNatClampNeg)), (6, .int (((4100 : Int32) + ((780 : Int32) * x1)) + ((3 : Int32) * x5))), (0, .ref h), (1, .int x1), (2, .int x2), (4, .int x4), (5, .int x5)]) hx hb dX11_holds_226 hl (by decide) rfl (fun ls hl => ?_)
            refine lv_aload_n hx hb dX11_holds_228 rfl (lv_at hl 4 rfl) ?_
            refine va_get (D := (dC, dI)) (ci := 10) (v := .ref h_pile) (C := RX11) (T := TX11) (N := 20) hx hb hts gu_X11 hown hK hP 1 rfl rfl 15 (by decide) (hts _ gw_614) (fun _ h9 => h9) rfl dX11_holds_229 ?_
            refine lv_iload hx hb dX11_holds_232 (lv_at hl 7 rfl) ?_
            refine lv_aload_n hx hb dX11_holds_234 rfl (lv_at hl 4 rfl) ?_
            refine va_get (D := (dC, dI)) (ci := 10) (v := .ref h_all) (C := RX11) (T := TX11) (N := 20) hx hb hts gu_X11 hown hK hP 1 rfl rfl 0 (by decide) (hts _ gw_607) (fun _ h9 => h9) rfl dX11_holds_235 ?_
            refine lv_iload hx hb dX11_holds_238 (lv_at hl 3 rfl) ?_
            refine lv_iconst (v := (1 : Int32)) hx hb dX11_holds_240 (by decide) ?_
            refine lv_iadd hx hb dX11_holds_241 ?_
            obtain ⟨h_23, hw⟩ := hw
            refine va_iald hx hb hK hP 2 0 rfl rfl h_23 dX11_holds_242 ?_
            refine lv_bipush (v := (61 : Int32)) hx hb dX11_holds_243 (by decide) ?_
            refine lv_icmp_ne (tgt := 263) hx hb dX11_holds_245 (by decide) (fun c_24 => ?_) (fun c_24 => ?_)
            · have hw := hw.1 c_24
              refine lv_aload_n hx hb dX11_holds_263 rfl (lv_at hl 4 rfl) ?_
              refine va_get (D := (dC, dI)) (ci := 10) (v := .ref h_all) (C := RX11) (T := TX11) (N := 20) hx hb hts gu_X11 hown hK hP 1 rfl rfl 0 (by decide) (hts _ gw_607) (fun _ h9 => h9) rfl dX11_holds_264 ?_
              refine lv_iload hx hb dX11_holds_267 (lv_at hl 3 rfl) ?_
              refine lv_iconst (v := (1 : Int32)) hx hb dX11_holds_269 (by decide) ?_
              refine lv_iadd hx hb dX11_holds_270 ?_
              obtain ⟨h_25, hw⟩ := hw
              refine va_iald hx hb hK hP 2 0 rfl rfl h_25 dX11_holds_271 ?_
              refine lv_bipush (v := (60 : Int32)) hx hb dX11_holds_272 (by decide) ?_
              refine lv_icmp_ne (tgt := 292) hx hb dX11_holds_274 (by decide) (fun c_26 => ?_) (fun c_26 => ?_)
              · have hw := hw.1 c_26
                refine lv_iload hx hb dX11_holds_292 (lv_at hl 1 rfl) ?_
                refine lv_iload hx hb dX11_holds_294 (lv_at hl 0 rfl) ?_
                refine lv_icmp_le (tgt := 303) hx hb dX11_holds_296 (by decide) (fun c_27 => ?_) (fun c_27 => ?_)
                · have hw := hw.1 c_27
                  refine lv_iconst (v := (0 : Int32)) hx hb dX11_holds_303 (by decide) ?_
                  exact tX11_holds_304 hC hK hA ih x1 x2 x4 x5 x4 (0 : Int32) r_all r_pile _ _ ls hw (hP.sub [1, 2, 0] rfl) (hD.sub [1, 2, 0] (by decide) rfl) hS (lv_sub hl [4, 5, 6, 7, 8] rfl)
                · have hw := hw.2 c_27
                  refine lv_iconst (v := (1 : Int32)) hx hb dX11_holds_299 (by decide) ?_
                  refine lv_goto (tgt := 304) hx hb dX11_holds_300 (by decide) ?_
                  exact tX11_holds_304 hC hK hA ih x1 x2 x4 x5 x4 (1 : Int32) r_all r_pile _ _ ls hw (hP.sub [1, 2, 0] rfl) (hD.sub [1, 2, 0] (by decide) rfl) hS (lv_sub hl [4, 5, 6, 7, 8] rfl)
              · have hw := hw.2 c_26
                refine lv_iload hx hb dX11_holds_277 (lv_at hl 1 rfl) ?_
                refine lv_iload hx hb dX11_holds_279 (lv_at hl 0 rfl) ?_
                refine lv_icmp_ge (tgt := 288) hx hb dX11_holds_281 (by decide) (fun c_28 => ?_) (fun c_28 => ?_)
                · have hw := hw.1 c_28
                  refine lv_iconst (v := (0 : Int32)) hx hb dX11_holds_288 (by decide) ?_
                  refine lv_goto (tgt := 304) hx hb dX11_holds_289 (by decide) ?_
                  exact tX11_holds_304 hC hK hA ih x1 x2 x4 x5 x4 (0 : Int32) r_all r_pile _ _ ls hw (hP.sub [1, 2, 0] rfl) (hD.sub [1, 2, 0] (by decide) rfl) hS (lv_sub hl [4, 5, 6, 7, 8] rfl)
                · have hw := hw.2 c_28
                  refine lv_iconst (v := (1 : Int32)) hx hb dX11_holds_284 (by decide) ?_
                  refine lv_goto (tgt := 304) hx hb dX11_holds_285 (by decide) ?_
                  exact tX11_holds_304 hC hK hA ih x1 x2 x4 x5 x4 (1 : Int32) r_all r_pile _ _ ls hw (hP.sub [1, 2, 0] rfl) (hD.sub [1, 2, 0] (by decide) rfl) hS (lv_sub hl [4, 5, 6, 7, 8] rfl)
            · have hw := hw.2 c_24
              refine lv_iload hx hb dX11_holds_248 (lv_at hl 1 rfl) ?_
              refine lv_iload hx hb dX11_holds_250 (lv_at hl 0 rfl) ?_
              refine lv_icmp_ne (tgt := 259) hx hb dX11_holds_252 (by decide) (fun c_29 => ?_) (fun c_29 => ?_)
              · have hw := hw.1 c_29
                refine lv_iconst (v := (0 : Int32)) hx hb dX11_holds_259 (by decide) ?_
                refine lv_goto (tgt := 304) hx hb dX11_holds_260 (by decide) ?_
                exact tX11_holds_304 hC hK hA ih x1 x2 x4 x5 x4 (0 : Int32) r_all r_pile _ _ ls hw (hP.sub [1, 2, 0] rfl) (hD.sub [1, 2, 0] (by decide) rfl) hS (lv_sub hl [4, 5, 6, 7, 8] rfl)
              · have hw := hw.2 c_29
                refine lv_iconst (v := (1 : Int32)) hx hb dX11_holds_255 (by decide) ?_
                refine lv_goto (tgt := 304) hx hb dX11_holds_256 (by decide) ?_
                exact tX11_holds_304 hC hK hA ih x1 x2 x4 x5 x4 (1 : Int32) r_all r_pile _ _ ls hw (hP.sub [1, 2, 0] rfl) (hD.sub [1, 2, 0] (by decide) rfl) hS (lv_sub hl [4, 5, 6, 7, 8] rfl)
          · have hw := hw.2 c_20
            exact tX11_holds_129 hC hK hA ih x1 x2 x4 x5 (r_all (((4100 : Int32) + ((780 : Int32) * x1)) + ((3 : Int32) * x5)).toNatClampNeg) r_all r_pile _ _ ls hw (hP.sub [0, 1, 2] rfl) (hD.sub [0, 1, 2] (by decide) rfl) hS (lv_sub hl [2, 3, 4, 5, 6, 0] rfl)
      · have hw := hw.2 c_18
        refine lv_aload_n hx hb dX11_holds_86 rfl (lv_at hl 2 rfl) ?_
        refine va_get (D := (dC, dI)) (ci := 10) (v := .ref h_pile) (C := RX11) (T := TX11) (N := 20) hx hb hts gu_X11 hown hK hP 0 rfl rfl 15 (by decide) (hts _ gw_614) (fun _ h9 => h9) rfl dX11_holds_87 ?_
        refine lv_iload hx hb dX11_holds_90 (lv_at hl 5 rfl) ?_
        refine lv_iconst (v := (1 : Int32)) hx hb dX11_holds_92 (by decide) ?_
        refine lv_isub hx hb dX11_holds_93 ?_
        refine lv_aload_n hx hb dX11_holds_94 rfl (lv_at hl 2 rfl) ?_
        refine va_get (D := (dC, dI)) (ci := 10) (v := .ref h_pile) (C := RX11) (T := TX11) (N := 20) hx hb hts gu_X11 hown hK hP 0 rfl rfl 15 (by decide) (hts _ gw_614) (fun _ h9 => h9) rfl dX11_holds_95 ?_
        refine lv_iload hx hb dX11_holds_98 (lv_at hl 5 rfl) ?_
        refine lv_iconst (v := (1 : Int32)) hx hb dX11_holds_100 (by decide) ?_
        refine lv_isub hx hb dX11_holds_101 ?_
        obtain ⟨h_30, hw⟩ := hw
        refine va_zald hx hb hK hP 2 1 rfl rfl h_30 dX11_holds_102 ?_
        refine lv_if_ne (tgt := 110) hx hb dX11_holds_103 (by decide) (fun c_31 => ?_) (fun c_31 => ?_)
        · have hw := hw.1 c_31
          refine lv_iconst (v := (0 : Int32)) hx hb dX11_holds_110 (by decide) ?_
          exact tX11_holds_111 hC hK hA ih x1 x2 x4 x5 (x4 - (1 : Int32)) (0 : Int32) r_all r_pile _ _ ls hw (hP.sub [0, 1, 2] rfl) (hD.sub [0, 1, 2] (by decide) rfl) hS (lv_sub hl [2, 3, 4, 5, 6] rfl)
        · have hw := hw.2 c_31
          refine lv_iconst (v := (1 : Int32)) hx hb dX11_holds_106 (by decide) ?_
          refine lv_goto (tgt := 111) hx hb dX11_holds_107 (by decide) ?_
          exact tX11_holds_111 hC hK hA ih x1 x2 x4 x5 (x4 - (1 : Int32)) (1 : Int32) r_all r_pile _ _ ls hw (hP.sub [0, 1, 2] rfl) (hD.sub [0, 1, 2] (by decide) rfl) hS (lv_sub hl [2, 3, 4, 5, 6] rfl)
set_option maxHeartbeats 4000000 in
set_option maxRecDepth 100000 in
theorem tX11_holds_e {p : Program} {l : Launch} {e : Env} {s : State} {m : MethodId} {args : Array Value} {below : List Frame} {meth : Method} {c : Code} {dC : Nat → ClassId} {dI : Nat → Nat → Nat} {cI cZ cO cW : ClassId} {A : Nat → Prop} {h h_all h_has h_line h_act h_pile h_comes h_leaves h_tried h_met : Nat} {f_size f_next f_where f_token f_number f_sign f_word f_wrong f_open f_lines f_acts : Int32} {Q : Int32 → (Nat → Int32) → Prop} (hC : Cx p s m args meth c cX11_holds (some .boolean) 10 GW RX11) (hK : va_K (dC, dI) vwCl (tysA cI cZ cO cW) s) (hA : ∀ q : Nat, s.heap.size ≤ q → A q) :
    ∀ (x1 : Int32) (x2 : Int32) (r_all : Nat → Int32) (r_pile : Nat → Int32) (H : Heap) (locs : List Loc) (ls : Array Slot), wX11_holds Q x1 x2 r_all r_pile → va_P (dC, dI) vwCl (vX11_holds cI cZ h h_all h_has h_line h_act h_pile h_comes h_leaves h_tried h_met f_size f_next f_where f_token f_number f_sign f_word f_wrong f_open f_lines f_acts r_all r_pile) H → va_D A (vX11_holds cI cZ h h_all h_has h_line h_act h_pile h_comes h_leaves h_tried h_met f_size f_next f_where f_token f_number f_sign f_word f_wrong f_open f_lines f_acts r_all r_pile) → va_S A s.heap H locs → lv_has ls 10 [(0, .ref h), (1, .int x1), (2, .int x2)] → W p l e rmX11_holds s m args below meth c H locs 0 0 (MQ below (qX11_holds dC dI cI cZ cO cW h h_all h_has h_line h_act h_pile h_comes h_leaves h_tried h_met f_size f_next f_where f_token f_number f_sign f_word f_wrong f_open f_lines f_acts r_all Q A) args s 0 0 A) (F0 m 0 ls []) := by
  obtain ⟨hx, hb, hr, hml, hown, hts, hlocks⟩ := id hC
  intro x1 x2 r_all r_pile H locs ls hw hP hD hS hl
  refine lv_aload_n hx hb dX11_holds_0 rfl (lv_at hl 0 rfl) ?_
  refine va_get (D := (dC, dI)) (ci := 10) (v := .ref h_all) (C := RX11) (T := TX11) (N := 20) hx hb hts gu_X11 hown hK hP 0 rfl rfl 0 (by decide) (hts _ gw_607) (fun _ h9 => h9) rfl dX11_holds_1 ?_
  refine lv_sipush (v := (3460 : Int32)) hx hb dX11_holds_4 (by decide) ?_
  refine lv_bipush (v := (80 : Int32)) hx hb dX11_holds_7 (by decide) ?_
  refine lv_iload_n hx hb dX11_holds_9 rfl (lv_at hl 1 rfl) ?_
  refine lv_imul hx hb dX11_holds_10 ?_
  refine lv_iadd hx hb dX11_holds_11 ?_
  refine lv_iconst (v := (4 : Int32)) hx hb dX11_holds_12 (by decide) ?_
  refine lv_iload_n hx hb dX11_holds_13 rfl (lv_at hl 2 rfl) ?_
  refine lv_imul hx hb dX11_holds_14 ?_
  refine lv_iadd hx hb dX11_holds_15 ?_
  obtain ⟨h_32, hw⟩ := hw
  refine va_iald hx hb hK hP 1 0 rfl rfl h_32 dX11_holds_16 ?_
  refine lv_istore_n (lv' := [(3, .int (r_all (((3460 : Int32) + ((80 : Int32) * x1)) + ((4 : Int32) * x2)).toNatClampNeg)), (0, .ref h), (1, .int x1), (2, .int x2)]) hx hb dX11_holds_17 rfl hl (by decide) rfl (fun ls hl => ?_)
  refine lv_iload_n hx hb dX11_holds_18 rfl (lv_at hl 0 rfl) ?_
  refine lv_if_ge (tgt := 24) hx hb dX11_holds_19 (by decide) (fun c_33 => ?_) (fun c_33 => ?_)
  · have hw := hw.1 c_33
    refine lv_iconst (v := (0 : Int32)) hx hb dX11_holds_24 (by decide) ?_
    refine lv_istore (lv' := [(4, .int (0 : Int32)), (3, .int (r_all (((3460 : Int32) + ((80 : Int32) * x1)) + ((4 : Int32) * x2)).toNatClampNeg)), (0, .ref h), (1, .int x1), (2, .int x2)]) hx hb dX11_holds_25 hl (by decide) rfl (fun ls hl => ?_)
    refine lv_iload_n hx hb dX11_holds_27 rfl (lv_at hl 1 rfl) ?_
    refine lv_istore (lv' := [(5, .int (r_all (((3460 : Int32) + ((80 : Int32) * x1)) + ((4 : Int32) * x2)).toNatClampNeg)), (4, .int (0 : Int32)), (3, .int (r_all (((3460 : Int32) + ((80 : Int32) * x1)) + ((4 : Int32) * x2)).toNatClampNeg)), (0, .ref h), (1, .int x1), (2, .int x2)]) hx hb dX11_holds_28 hl (by decide) rfl (fun ls hl => ?_)
    obtain ⟨n_34, hw⟩ := hw
    exact tX11_holds_30 hC hK hA  n_34 x1 x2 (0 : Int32) (r_all (((3460 : Int32) + ((80 : Int32) * x1)) + ((4 : Int32) * x2)).toNatClampNeg) r_all r_pile _ _ ls hw (hP.sub [0, 1, 2] rfl) (hD.sub [0, 1, 2] (by decide) rfl) hS (lv_sub hl [3, 4, 5, 1, 0] rfl)
  · have hw := hw.2 c_33
    refine lv_iconst (v := (1 : Int32)) hx hb dX11_holds_22 (by decide) ?_
    have hP9 := hP.sub (ws' := (vX11_holds cI cZ h h_all h_has h_line h_act h_pile h_comes h_leaves h_tried h_met f_size f_next f_where f_token f_number f_sign f_word f_wrong f_open f_lines f_acts r_all r_pile)) [0, 1, 2] rfl
    have hD9 := hD.sub (ws' := (vX11_holds cI cZ h h_all h_has h_line h_act h_pile h_comes h_leaves h_tried h_met f_size f_next f_where f_token f_number f_sign f_word f_wrong f_open f_lines f_acts r_all r_pile)) [0, 1, 2] (by decide) rfl
    exact W.zret (v := (1 : Int32)) (ty := .boolean) hx hb hr rfl (fun t ht hW => ⟨⟨(1 : Int32), r_pile, rfl, hw, by rw [ht]; exact hP9, va_K.moved hW.alike hK, hD9⟩, hS.F ht⟩) hS.2.2 dX11_holds_23
set_option maxHeartbeats 4000000 in
set_option maxRecDepth 100000 in
theorem kX11_holds (l : Launch) (dC : Nat → ClassId) (dI : Nat → Nat → Nat) (cI cZ cO cW : ClassId) (h h_all h_has h_line h_act h_pile h_comes h_leaves h_tried h_met : Nat)  (sz : Nat) (f_size : Int32) (f_next : Int32) (f_where : Int32) (f_token : Int32) (f_number : Int32) (f_sign : Int32) (f_word : Int32) (f_wrong : Int32) (f_open : Int32) (f_lines : Int32) (f_acts : Int32) (r_all : Nat → Int32) (r_pile : Nat → Int32) (x1 : Int32) (x2 : Int32) (Q : Int32 → (Nat → Int32) → Prop) (hw : wX11_holds Q x1 x2 r_all r_pile) : Met l yX11_holds zsX11_holds rmX11_holds (va_Pc [.ref h, .int x1, .int x2] (fun U => U.heap.size = sz ∧ va_P (dC, dI) vwCl (vX11_holds cI cZ h h_all h_has h_line h_act h_pile h_comes h_leaves h_tried h_met f_size f_next f_where f_token f_number f_sign f_word f_wrong f_open f_lines f_acts r_all r_pile) U.heap ∧ va_K (dC, dI) vwCl (tysA cI cZ cO cW) U ∧ va_D (fun _ => True) (vX11_holds cI cZ h h_all h_has h_line h_act h_pile h_comes h_leaves h_tried h_met f_size f_next f_where f_token f_number f_sign f_word f_wrong f_open f_lines f_acts r_all r_pile))) (qX11_holds dC dI cI cZ cO cW h h_all h_has h_line h_act h_pile h_comes h_leaves h_tried h_met f_size f_next f_where f_token f_number f_sign f_word f_wrong f_open f_lines f_acts r_all Q (va_A (vX11_holds cI cZ h h_all h_has h_line h_act h_pile h_comes h_leaves h_tried h_met f_size f_next f_where f_token f_number f_sign f_word f_wrong f_open f_lines f_acts r_all r_pile) sz)) 0 0 (va_A (vX11_holds cI cZ h h_all h_has h_line h_act h_pile h_comes h_leaves h_tried h_met f_size f_next f_where f_token f_number f_sign f_word f_wrong f_open f_lines f_acts r_all r_pile) sz) := by
  refine Met.ofW (cc := cX11_holds) (maxL := 10) (ret := (some .boolean)) (by decide) rfl ?_
  intro p e s m args below meth c s₁ B hml hv
  obtain ⟨rfl, hsz, hP, hK, hD0⟩ := hv
  subst hsz
  have hC : Cx p s m ([.ref h, .int x1, .int x2] : List Value).toArray meth c cX11_holds (some .boolean) 10 GW RX11 := ⟨B.exec, B.bytes, B.returns, hml, findClass_of_methodNamed B.named, fun w h => atoms_spec (ws := zsX11_holds) B.pre w (List.mem_cons_of_mem _ h), B.notSynchronized⟩
  have hD := hD0.self (sz := s.heap.size)
  generalize hAe : va_A (vX11_holds cI cZ h h_all h_has h_line h_act h_pile h_comes h_leaves h_tried h_met f_size f_next f_where f_token f_number f_sign f_word f_wrong f_open f_lines f_acts r_all r_pile) s.heap.size = A at hD ⊢
  have hA : ∀ q : Nat, s.heap.size ≤ q → A q := fun q h => by rw [← hAe]; exact Or.inr h
  have hl := lv_entry ([.ref h, .int x1, .int x2]) (n := 10) (Nat.le_of_ble_eq_true rfl)
  rw [lg_entry_eq]
  generalize (lg_sl ([.ref h, .int x1, .int x2]) ++ List.replicate (10 - (lg_sl ([.ref h, .int x1, .int x2])).length) Slot.unset).toArray = ls at hl ⊢
  exact tX11_holds_e hC hK hA x1 x2 r_all r_pile _ _ ls hw hP hD va_S.rf hl

/-! X11_goes -/
def wX11_goes_81 (Q : Int32 → (Nat → Int32) → Prop)   (x1 : Int32) (x2 : Int32) (r_all : (Nat → Int32)) : Prop :=
  (wX11_its (fun r_1 => (wX11_rowTo (fun r_2 => (wX11_ships (fun r_all_3 => (wX11_its (fun r_4 => (wX11_columnTo (fun r_5 => (wX11_ships (fun r_all_6 => (wX11_its (fun r_7 => (wX11_ships (fun r_all_8 => (Q (1 : Int32) r_all_8)) x1 (5 : Int32) (r_7 + (1 : Int32)) r_all_6)) x1 (5 : Int32) r_all_6)) x1 (3 : Int32) (r_4 + r_5) r_all_3)) x2)) x1 (3 : Int32) r_all_3)) x1 (2 : Int32) (r_1 + r_2) r_all)) x2)) x1 (2 : Int32) r_all)
def wX11_goes_56 (Q : Int32 → (Nat → Int32) → Prop)   (x1 : Int32) (x2 : Int32) (x4 : Int32) (r_all : (Nat → Int32)) : Prop :=
  (wX11_its (fun r_9 => ((r_9 = (-1 : Int32) → (wX11_goes_81 Q x1 x2 r_all)) ∧ (¬ r_9 = (-1 : Int32) → (wX11_its (fun r_11 => (wX11_ships (fun r_all_12 => (wX11_goes_81 Q x1 x2 r_all_12)) x1 (1 : Int32) (r_11 - x4) r_all)) x1 (1 : Int32) r_all)))) x1 (1 : Int32) r_all)
def wX11_goes (Q : Int32 → (Nat → Int32) → Prop) (x1 : Int32) (x2 : Int32) (r_all : Nat → Int32) : Prop :=
  (wX11_there (fun r_13 => (wX11_isHeld (fun r_14 => ((¬ r_14 = 0 → (Q (0 : Int32) r_all)) ∧ (r_14 = 0 → (wX11_its (fun r_16 => ((r_16 < r_13 → (Q (0 : Int32) r_all)) ∧ (¬ r_16 < r_13 → (wX11_its (fun r_18 => ((r_18 = (-1 : Int32) → (wX11_goes_56 Q x1 x2 ((1 : Int32) + (r_13 / (10 : Int32))) r_all)) ∧ (¬ r_18 = (-1 : Int32) → (wX11_its (fun r_20 => ((((1 : Int32) + (r_13 / (10 : Int32))) ≤ r_20 → (wX11_goes_56 Q x1 x2 ((1 : Int32) + (r_13 / (10 : Int32))) r_all)) ∧ (¬ ((1 : Int32) + (r_13 / (10 : Int32))) ≤ r_20 → (Q (0 : Int32) r_all)))) x1 (1 : Int32) r_all)))) x1 (1 : Int32) r_all)))) x1 (0 : Int32) r_all)))) x1 r_all)) x1 x2 r_all)
abbrev vX11_goes (cI cZ : ClassId) (h h_all h_has h_line h_act h_pile h_comes h_leaves h_tried h_met : Nat) (f_size : Int32) (f_next : Int32) (f_where : Int32) (f_token : Int32) (f_number : Int32) (f_sign : Int32) (f_word : Int32) (f_wrong : Int32) (f_open : Int32) (f_lines : Int32) (f_acts : Int32) (r_all : Nat → Int32) : va_W := [(h, .inr (10, [.ref h_all, .ref h_has, .int f_size, .int f_next, .int f_where, .int f_token, .int f_number, .int f_sign, .int f_word, .int f_wrong, .int f_open, .int f_lines, .int f_acts, .ref h_line, .ref h_act, .ref h_pile, .ref h_comes, .ref h_leaves, .ref h_tried, .ref h_met])), (h_all, .inl (cI, 53700, .inl r_all))]
abbrev rmX11_goes : Room := { frames := 4, cells := 0, slots := 0, locals := 91 }
abbrev qX11_goes (dC : Nat → ClassId) (dI : Nat → Nat → Nat) (cI cZ cO cW : ClassId) (h h_all h_has h_line h_act h_pile h_comes h_leaves h_tried h_met : Nat) (f_size : Int32) (f_next : Int32) (f_where : Int32) (f_token : Int32) (f_number : Int32) (f_sign : Int32) (f_word : Int32) (f_wrong : Int32) (f_open : Int32) (f_lines : Int32) (f_acts : Int32) (Q : Int32 → (Nat → Int32) → Prop) (A : Nat → Prop) : Array Value → State → Outcome → State → Prop := va_Qi (fun (r : Int32) (u : (Nat → Int32)) => Q r u) (fun (u : (Nat → Int32)) (t : State) => va_P (dC, dI) vwCl (vX11_goes cI cZ h h_all h_has h_line h_act h_pile h_comes h_leaves h_tried h_met f_size f_next f_where f_token f_number f_sign f_word f_wrong f_open f_lines f_acts u) t.heap ∧ va_K (dC, dI) vwCl (tysA cI cZ cO cW) t ∧ va_D A (vX11_goes cI cZ h h_all h_has h_line h_act h_pile h_comes h_leaves h_tried h_met f_size f_next f_where f_token f_number f_sign f_word f_wrong f_open f_lines f_acts u)) A
def zsX11_goes : List Cond := Cond.code yX11_goes cX11_goes 5 (some .boolean) :: GW
set_option maxHeartbeats 4000000 in
set_option maxRecDepth 100000 in
theorem tX11_goes_81 {p : Program} {l : Launch} {e : Env} {s : State} {m : MethodId} {args : Array Value} {below : List Frame} {meth : Method} {c : Code} {dC : Nat → ClassId} {dI : Nat → Nat → Nat} {cI cZ cO cW : ClassId} {A : Nat → Prop} {h h_all h_has h_line h_act h_pile h_comes h_leaves h_tried h_met : Nat} {f_size f_next f_where f_token f_number f_sign f_word f_wrong f_open f_lines f_acts : Int32} {Q : Int32 → (Nat → Int32) → Prop}  (hC : Cx p s m args meth c cX11_goes (some .boolean) 5 GW RX11) (hK : va_K (dC, dI) vwCl (tysA cI cZ cO cW) s) (hA : ∀ q : Nat, s.heap.size ≤ q → A q) :
    ∀ (x1 : Int32) (x2 : Int32) (r_all : (Nat → Int32)) (H : Heap) (locs : List Loc) (ls : Array Slot), wX11_goes_81 Q  x1 x2 r_all → va_P (dC, dI) vwCl (vX11_goes cI cZ h h_all h_has h_line h_act h_pile h_comes h_leaves h_tried h_met f_size f_next f_where f_token f_number f_sign f_word f_wrong f_open f_lines f_acts r_all) H → va_D A (vX11_goes cI cZ h h_all h_has h_line h_act h_pile h_comes h_leaves h_tried h_met f_size f_next f_where f_token f_number f_sign f_word f_wrong f_open f_lines f_acts r_all) → va_S A s.heap H locs → lv_has ls 5 [(0, .ref h), (1, .int x1), (2, .int x2)] → W p l e rmX11_goes s m args below meth c H locs 0 0 (MQ below (qX11_goes dC dI cI cZ cO cW h h_all h_has h_line h_act h_pile h_comes h_leaves h_tried h_met f_size f_next f_where f_token f_number f_sign f_word f_wrong f_open f_lines f_acts Q A) args s 0 0 A) (F0 m 81 ls []) := by
  obtain ⟨hx, hb, hr, hml, hown, hts, hlocks⟩ := id hC
  intro x1 x2 r_all H locs ls hw hP hD hS hl
  refine lv_aload_n hx hb dX11_goes_81 rfl (lv_at hl 0 rfl) ?_
  refine lv_iload_n hx hb dX11_goes_82 rfl (lv_at hl 1 rfl) ?_
  refine lv_iconst (v := (2 : Int32)) hx hb dX11_goes_83 (by decide) ?_
  refine lv_aload_n hx hb dX11_goes_84 rfl (lv_at hl 0 rfl) ?_
  refine lv_iload_n hx hb dX11_goes_85 rfl (lv_at hl 1 rfl) ?_
  refine lv_iconst (v := (2 : Int32)) hx hb dX11_goes_86 (by decide) ?_
  have hPc := hP.sub (ws' := [(h, .inr (10, [.ref h_all, .ref h_has, .int f_size, .int f_next, .int f_where, .int f_token, .int f_number, .int f_sign, .int f_word, .int f_wrong, .int f_open, .int f_lines, .int f_acts, .ref h_line, .ref h_act, .ref h_pile, .ref h_comes, .ref h_leaves, .ref h_tried, .ref h_met])), (h_all, .inl (cI, 53700, .inl r_all))]) [0, 1] rfl
  have hDc := hD.sub (ws' := [(h, .inr (10, [.ref h_all, .ref h_has, .int f_size, .int f_next, .int f_where, .int f_token, .int f_number, .int f_sign, .int f_word, .int f_wrong, .int f_open, .int f_lines, .int f_acts, .ref h_line, .ref h_act, .ref h_pile, .ref h_comes, .ref h_leaves, .ref h_tried, .ref h_met])), (h_all, .inl (cI, 53700, .inl r_all))]) [0, 1] (by decide) rfl
  have hFc := va_free (wc := [(h, .inr (10, [.ref h_all, .ref h_has, .int f_size, .int f_next, .int f_where, .int f_token, .int f_number, .int f_sign, .int f_word, .int f_wrong, .int f_open, .int f_lines, .int f_acts, .ref h_line, .ref h_act, .ref h_pile, .ref h_comes, .ref h_leaves, .ref h_tried, .ref h_met])), (h_all, .inl (cI, 53700, .inl r_all))]) hD hS hA [0, 1] rfl
  refine va_calli (va_runV (As := [.int x1, .int (2 : Int32)]) (rest := [.int (2 : Int32), .int x1, .ref h]) ⟨hx, hb, hml, hown, hts⟩ (kX11_its l dC dI cI cZ cO cW h h_all h_has h_line h_act h_pile h_comes h_leaves h_tried h_met H.size f_size f_next f_where f_token f_number f_sign f_word f_wrong f_open f_lines f_acts r_all x1 (2 : Int32) _ hw) (cwV 2 hts (gV gw_640 gw_641 gw_642 gw_622 (gM gw_637)) rfl rfl rfl (by decide +kernel) ⟨Nat.le_of_ble_eq_true rfl, Nat.le_of_ble_eq_true rfl⟩) (pv_of hPc hK hDc (va_recv hK hPc (ci := 10) (q0 := 0) rfl rfl)) rfl rfl hl.1 rfl (lv_room (Nat.le_of_ble_eq_true rfl)) dX11_goes_87 ⟨Nat.zero_le _, Nat.zero_le _⟩) hS (fun q _ h => hFc q h) hFc (fun r_1 u t H locs ht hvm hw hB hz1 hk1 hS => ?_)
  obtain ⟨hP, hD⟩ := af_join (wr := []) (w1 := [(h, .inr (10, [.ref h_all, .ref h_has, .int f_size, .int f_next, .int f_where, .int f_token, .int f_number, .int f_sign, .int f_word, .int f_wrong, .int f_open, .int f_lines, .int f_acts, .ref h_line, .ref h_act, .ref h_pile, .ref h_comes, .ref h_leaves, .ref h_tried, .ref h_met])), (h_all, .inl (cI, 53700, .inl r_all))]) hB ht hP hD [0, 1] [] rfl rfl (by decide) (by decide) hk1 hFc
  have hP : va_P (dC, dI) vwCl [(h, .inr (10, [.ref h_all, .ref h_has, .int f_size, .int f_next, .int f_where, .int f_token, .int f_number, .int f_sign, .int f_word, .int f_wrong, .int f_open, .int f_lines, .int f_acts, .ref h_line, .ref h_act, .ref h_pile, .ref h_comes, .ref h_leaves, .ref h_tried, .ref h_met])), (h_all, .inl (cI, 53700, .inl r_all))] _ := hP
  have hD : va_D A [(h, .inr (10, [.ref h_all, .ref h_has, .int f_size, .int f_next, .int f_where, .int f_token, .int f_number, .int f_sign, .int f_word, .int f_wrong, .int f_open, .int f_lines, .int f_acts, .ref h_line, .ref h_act, .ref h_pile, .ref h_comes, .ref h_leaves, .ref h_tried, .ref h_met])), (h_all, .inl (cI, 53700, .inl r_all))] := hD
  refine lv_iload_n hx hb dX11_goes_90 rfl (lv_at hl 2 rfl) ?_
  have hPc := hP.sub (ws' := []) [] rfl
  have hDc := hD.sub (ws' := []) [] (by decide) rfl
  have hFc := va_free (wc := []) hD hS hA [] rfl
  refine va_calli (va_runS (As := [.int x2]) (rest := [.int r_1, .int (2 : Int32), .int x1, .ref h]) ⟨hx, hb, hml, hown, hts⟩ (kX11_rowTo l dC dI cI cZ cO cW H.size x2 _ hw) (va_cwS 1 hts (gS gw_766 gw_767 gw_622 (gM gw_762)) rfl rfl rfl (by decide +kernel) ⟨Nat.le_of_ble_eq_true rfl, Nat.le_of_ble_eq_true rfl⟩) (ps_of hPc hK hDc) rfl rfl hl.1 rfl (lv_room (Nat.le_of_ble_eq_true rfl)) dX11_goes_91 ⟨Nat.zero_le _, Nat.zero_le _⟩) hS (fun q _ h => hFc q h) hFc (fun r_2 u t H locs ht hvm hw hB hz1 hk1 hS => ?_)
  obtain ⟨hP, hD⟩ := af_join (wr := [(h, .inr (10, [.ref h_all, .ref h_has, .int f_size, .int f_next, .int f_where, .int f_token, .int f_number, .int f_sign, .int f_word, .int f_wrong, .int f_open, .int f_lines, .int f_acts, .ref h_line, .ref h_act, .ref h_pile, .ref h_comes, .ref h_leaves, .ref h_tried, .ref h_met])), (h_all, .inl (cI, 53700, .inl r_all))]) (w1 := []) hB ht hP hD [] [0, 1] rfl rfl (by decide) (by decide) hk1 hFc
  have hP : va_P (dC, dI) vwCl [(h, .inr (10, [.ref h_all, .ref h_has, .int f_size, .int f_next, .int f_where, .int f_token, .int f_number, .int f_sign, .int f_word, .int f_wrong, .int f_open, .int f_lines, .int f_acts, .ref h_line, .ref h_act, .ref h_pile, .ref h_comes, .ref h_leaves, .ref h_tried, .ref h_met])), (h_all, .inl (cI, 53700, .inl r_all))] _ := hP
  have hD : va_D A [(h, .inr (10, [.ref h_all, .ref h_has, .int f_size, .int f_next, .int f_where, .int f_token, .int f_number, .int f_sign, .int f_word, .int f_wrong, .int f_open, .int f_lines, .int f_acts, .ref h_line, .ref h_act, .ref h_pile, .ref h_comes, .ref h_leaves, .ref h_tried, .ref h_met])), (h_all, .inl (cI, 53700, .inl r_all))] := hD
  refine lv_iadd hx hb dX11_goes_94 ?_
  have hPc := hP.sub (ws' := [(h, .inr (10, [.ref h_all, .ref h_has, .int f_size, .int f_next, .int f_where, .int f_token, .int f_number, .int f_sign, .int f_word, .int f_wrong, .int f_open, .int f_lines, .int f_acts, .ref h_line, .ref h_act, .ref h_pile, .ref h_comes, .ref h_leaves, .ref h_tried, .ref h_met])), (h_all, .inl (cI, 53700, .inl r_all))]) [0, 1] rfl
  have hDc := hD.sub (ws' := [(h, .inr (10, [.ref h_all, .ref h_has, .int f_size, .int f_next, .int f_where, .int f_token, .int f_number, .int f_sign, .int f_word, .int f_wrong, .int f_open, .int f_lines, .int f_acts, .ref h_line, .ref h_act, .ref h_pile, .ref h_comes, .ref h_leaves, .ref h_tried, .ref h_met])), (h_all, .inl (cI, 53700, .inl r_all))]) [0, 1] (by decide) rfl
  have hFc := va_free (wc := [(h, .inr (10, [.ref h_all, .ref h_has, .int f_size, .int f_next, .int f_where, .int f_token, .int f_number, .int f_sign, .int f_word, .int f_wrong, .int f_open, .int f_lines, .int f_acts, .ref h_line, .ref h_act, .ref h_pile, .ref h_comes, .ref h_leaves, .ref h_tried, .ref h_met])), (h_all, .inl (cI, 53700, .inl r_all))]) hD hS hA [0, 1] rfl
  refine va_callv (va_runV (As := [.int x1, .int (2 : Int32), .int (r_1 + r_2)]) (rest := []) ⟨hx, hb, hml, hown, hts⟩ (kX11_ships l dC dI cI cZ cO cW h h_all h_has h_line h_act h_pile h_comes h_leaves h_tried h_met H.size f_size f_next f_where f_token f_number f_sign f_word f_wrong f_open f_lines f_acts r_all x1 (2 : Int32) (r_1 + r_2) _ hw) (cwV 3 hts (gV gw_655 gw_656 gw_657 gw_622 (gM gw_638)) rfl rfl rfl (by decide +kernel) ⟨Nat.le_of_ble_eq_true rfl, Nat.le_of_ble_eq_true rfl⟩) (pv_of hPc hK hDc (va_recv hK hPc (ci := 10) (q0 := 0) rfl rfl)) rfl rfl hl.1 rfl (lv_room (Nat.le_of_ble_eq_true rfl)) dX11_goes_95 ⟨Nat.zero_le _, Nat.zero_le _⟩) hS (fun q _ h => hFc q h) hFc (fun u t H locs ht hvm hw hB hz1 hk1 hS => ?_)
  obtain ⟨r_all_3, rfl⟩ : ∃ z, z = u := ⟨_, rfl⟩
  obtain ⟨hP, hD⟩ := af_join (wr := []) (w1 := [(h, .inr (10, [.ref h_all, .ref h_has, .int f_size, .int f_next, .int f_where, .int f_token, .int f_number, .int f_sign, .int f_word, .int f_wrong, .int f_open, .int f_lines, .int f_acts, .ref h_line, .ref h_act, .ref h_pile, .ref h_comes, .ref h_leaves, .ref h_tried, .ref h_met])), (h_all, .inl (cI, 53700, .inl r_all_3))]) hB ht hP hD [0, 1] [] rfl rfl (by decide) (by decide) hk1 hFc
  have hP : va_P (dC, dI) vwCl [(h, .inr (10, [.ref h_all, .ref h_has, .int f_size, .int f_next, .int f_where, .int f_token, .int f_number, .int f_sign, .int f_word, .int f_wrong, .int f_open, .int f_lines, .int f_acts, .ref h_line, .ref h_act, .ref h_pile, .ref h_comes, .ref h_leaves, .ref h_tried, .ref h_met])), (h_all, .inl (cI, 53700, .inl r_all_3))] _ := hP
  have hD : va_D A [(h, .inr (10, [.ref h_all, .ref h_has, .int f_size, .int f_next, .int f_where, .int f_token, .int f_number, .int f_sign, .int f_word, .int f_wrong, .int f_open, .int f_lines, .int f_acts, .ref h_line, .ref h_act, .ref h_pile, .ref h_comes, .ref h_leaves, .ref h_tried, .ref h_met])), (h_all, .inl (cI, 53700, .inl r_all_3))] := hD
  refine lv_aload_n hx hb dX11_goes_98 rfl (lv_at hl 0 rfl) ?_
  refine lv_iload_n hx hb dX11_goes_99 rfl (lv_at hl 1 rfl) ?_
  refine lv_iconst (v := (3 : Int32)) hx hb dX11_goes_100 (by decide) ?_
  refine lv_aload_n hx hb dX11_goes_101 rfl (lv_at hl 0 rfl) ?_
  refine lv_iload_n hx hb dX11_goes_102 rfl (lv_at hl 1 rfl) ?_
  refine lv_iconst (v := (3 : Int32)) hx hb dX11_goes_103 (by decide) ?_
  have hPc := hP.sub (ws' := [(h, .inr (10, [.ref h_all, .ref h_has, .int f_size, .int f_next, .int f_where, .int f_token, .int f_number, .int f_sign, .int f_word, .int f_wrong, .int f_open, .int f_lines, .int f_acts, .ref h_line, .ref h_act, .ref h_pile, .ref h_comes, .ref h_leaves, .ref h_tried, .ref h_met])), (h_all, .inl (cI, 53700, .inl r_all_3))]) [0, 1] rfl
  have hDc := hD.sub (ws' := [(h, .inr (10, [.ref h_all, .ref h_has, .int f_size, .int f_next, .int f_where, .int f_token, .int f_number, .int f_sign, .int f_word, .int f_wrong, .int f_open, .int f_lines, .int f_acts, .ref h_line, .ref h_act, .ref h_pile, .ref h_comes, .ref h_leaves, .ref h_tried, .ref h_met])), (h_all, .inl (cI, 53700, .inl r_all_3))]) [0, 1] (by decide) rfl
  have hFc := va_free (wc := [(h, .inr (10, [.ref h_all, .ref h_has, .int f_size, .int f_next, .int f_where, .int f_token, .int f_number, .int f_sign, .int f_word, .int f_wrong, .int f_open, .int f_lines, .int f_acts, .ref h_line, .ref h_act, .ref h_pile, .ref h_comes, .ref h_leaves, .ref h_tried, .ref h_met])), (h_all, .inl (cI, 53700, .inl r_all_3))]) hD hS hA [0, 1] rfl
  refine va_calli (va_runV (As := [.int x1, .int (3 : Int32)]) (rest := [.int (3 : Int32), .int x1, .ref h]) ⟨hx, hb, hml, hown, hts⟩ (kX11_its l dC dI cI cZ cO cW h h_all h_has h_line h_act h_pile h_comes h_leaves h_tried h_met H.size f_size f_next f_where f_token f_number f_sign f_word f_wrong f_open f_lines f_acts r_all_3 x1 (3 : Int32) _ hw) (cwV 2 hts (gV gw_640 gw_641 gw_642 gw_622 (gM gw_637)) rfl rfl rfl (by decide +kernel) ⟨Nat.le_of_ble_eq_true rfl, Nat.le_of_ble_eq_true rfl⟩) (pv_of hPc hK hDc (va_recv hK hPc (ci := 10) (q0 := 0) rfl rfl)) rfl rfl hl.1 rfl (lv_room (Nat.le_of_ble_eq_true rfl)) dX11_goes_104 ⟨Nat.zero_le _, Nat.zero_le _⟩) hS (fun q _ h => hFc q h) hFc (fun r_4 u t H locs ht hvm hw hB hz1 hk1 hS => ?_)
  obtain ⟨hP, hD⟩ := af_join (wr := []) (w1 := [(h, .inr (10, [.ref h_all, .ref h_has, .int f_size, .int f_next, .int f_where, .int f_token, .int f_number, .int f_sign, .int f_word, .int f_wrong, .int f_open, .int f_lines, .int f_acts, .ref h_line, .ref h_act, .ref h_pile, .ref h_comes, .ref h_leaves, .ref h_tried, .ref h_met])), (h_all, .inl (cI, 53700, .inl r_all_3))]) hB ht hP hD [0, 1] [] rfl rfl (by decide) (by decide) hk1 hFc
  have hP : va_P (dC, dI) vwCl [(h, .inr (10, [.ref h_all, .ref h_has, .int f_size, .int f_next, .int f_where, .int f_token, .int f_number, .int f_sign, .int f_word, .int f_wrong, .int f_open, .int f_lines, .int f_acts, .ref h_line, .ref h_act, .ref h_pile, .ref h_comes, .ref h_leaves, .ref h_tried, .ref h_met])), (h_all, .inl (cI, 53700, .inl r_all_3))] _ := hP
  have hD : va_D A [(h, .inr (10, [.ref h_all, .ref h_has, .int f_size, .int f_next, .int f_where, .int f_token, .int f_number, .int f_sign, .int f_word, .int f_wrong, .int f_open, .int f_lines, .int f_acts, .ref h_line, .ref h_act, .ref h_pile, .ref h_comes, .ref h_leaves, .ref h_tried, .ref h_met])), (h_all, .inl (cI, 53700, .inl r_all_3))] := hD
  refine lv_iload_n hx hb dX11_goes_107 rfl (lv_at hl 2 rfl) ?_
  have hPc := hP.sub (ws' := []) [] rfl
  have hDc := hD.sub (ws' := []) [] (by decide) rfl
  have hFc := va_free (wc := []) hD hS hA [] rfl
  refine va_calli (va_runS (As := [.int x2]) (rest := [.int r_4, .int (3 : Int32), .int x1, .ref h]) ⟨hx, hb, hml, hown, hts⟩ (kX11_columnTo l dC dI cI cZ cO cW H.size x2 _ hw) (va_cwS 1 hts (gS gw_768 gw_769 gw_622 (gM gw_763)) rfl rfl rfl (by decide +kernel) ⟨Nat.le_of_ble_eq_true rfl, Nat.le_of_ble_eq_true rfl⟩) (ps_of hPc hK hDc) rfl rfl hl.1 rfl (lv_room (Nat.le_of_ble_eq_true rfl)) dX11_goes_108 ⟨Nat.zero_le _, Nat.zero_le _⟩) hS (fun q _ h => hFc q h) hFc (fun r_5 u t H locs ht hvm hw hB hz1 hk1 hS => ?_)
  obtain ⟨hP, hD⟩ := af_join (wr := [(h, .inr (10, [.ref h_all, .ref h_has, .int f_size, .int f_next, .int f_where, .int f_token, .int f_number, .int f_sign, .int f_word, .int f_wrong, .int f_open, .int f_lines, .int f_acts, .ref h_line, .ref h_act, .ref h_pile, .ref h_comes, .ref h_leaves, .ref h_tried, .ref h_met])), (h_all, .inl (cI, 53700, .inl r_all_3))]) (w1 := []) hB ht hP hD [] [0, 1] rfl rfl (by decide) (by decide) hk1 hFc
  have hP : va_P (dC, dI) vwCl [(h, .inr (10, [.ref h_all, .ref h_has, .int f_size, .int f_next, .int f_where, .int f_token, .int f_number, .int f_sign, .int f_word, .int f_wrong, .int f_open, .int f_lines, .int f_acts, .ref h_line, .ref h_act, .ref h_pile, .ref h_comes, .ref h_leaves, .ref h_tried, .ref h_met])), (h_all, .inl (cI, 53700, .inl r_all_3))] _ := hP
  have hD : va_D A [(h, .inr (10, [.ref h_all, .ref h_has, .int f_size, .int f_next, .int f_where, .int f_token, .int f_number, .int f_sign, .int f_word, .int f_wrong, .int f_open, .int f_lines, .int f_acts, .ref h_line, .ref h_act, .ref h_pile, .ref h_comes, .ref h_leaves, .ref h_tried, .ref h_met])), (h_all, .inl (cI, 53700, .inl r_all_3))] := hD
  refine lv_iadd hx hb dX11_goes_111 ?_
  have hPc := hP.sub (ws' := [(h, .inr (10, [.ref h_all, .ref h_has, .int f_size, .int f_next, .int f_where, .int f_token, .int f_number, .int f_sign, .int f_word, .int f_wrong, .int f_open, .int f_lines, .int f_acts, .ref h_line, .ref h_act, .ref h_pile, .ref h_comes, .ref h_leaves, .ref h_tried, .ref h_met])), (h_all, .inl (cI, 53700, .inl r_all_3))]) [0, 1] rfl
  have hDc := hD.sub (ws' := [(h, .inr (10, [.ref h_all, .ref h_has, .int f_size, .int f_next, .int f_where, .int f_token, .int f_number, .int f_sign, .int f_word, .int f_wrong, .int f_open, .int f_lines, .int f_acts, .ref h_line, .ref h_act, .ref h_pile, .ref h_comes, .ref h_leaves, .ref h_tried, .ref h_met])), (h_all, .inl (cI, 53700, .inl r_all_3))]) [0, 1] (by decide) rfl
  have hFc := va_free (wc := [(h, .inr (10, [.ref h_all, .ref h_has, .int f_size, .int f_next, .int f_where, .int f_token, .int f_number, .int f_sign, .int f_word, .int f_wrong, .int f_open, .int f_lines, .int f_acts, .ref h_line, .ref h_act, .ref h_pile, .ref h_comes, .ref h_leaves, .ref h_tried, .ref h_met])), (h_all, .inl (cI, 53700, .inl r_all_3))]) hD hS hA [0, 1] rfl
  refine va_callv (va_runV (As := [.int x1, .int (3 : Int32), .int (r_4 + r_5)]) (rest := []) ⟨hx, hb, hml, hown, hts⟩ (kX11_ships l dC dI cI cZ cO cW h h_all h_has h_line h_act h_pile h_comes h_leaves h_tried h_met H.size f_size f_next f_where f_token f_number f_sign f_word f_wrong f_open f_lines f_acts r_all_3 x1 (3 : Int32) (r_4 + r_5) _ hw) (cwV 3 hts (gV gw_655 gw_656 gw_657 gw_622 (gM gw_638)) rfl rfl rfl (by decide +kernel) ⟨Nat.le_of_ble_eq_true rfl, Nat.le_of_ble_eq_true rfl⟩) (pv_of hPc hK hDc (va_recv hK hPc (ci := 10) (q0 := 0) rfl rfl)) rfl rfl hl.1 rfl (lv_room (Nat.le_of_ble_eq_true rfl)) dX11_goes_112 ⟨Nat.zero_le _, Nat.zero_le _⟩) hS (fun q _ h => hFc q h) hFc (fun u t H locs ht hvm hw hB hz1 hk1 hS => ?_)
  obtain ⟨r_all_6, rfl⟩ : ∃ z, z = u := ⟨_, rfl⟩
  obtain ⟨hP, hD⟩ := af_join (wr := []) (w1 := [(h, .inr (10, [.ref h_all, .ref h_has, .int f_size, .int f_next, .int f_where, .int f_token, .int f_number, .int f_sign, .int f_word, .int f_wrong, .int f_open, .int f_lines, .int f_acts, .ref h_line, .ref h_act, .ref h_pile, .ref h_comes, .ref h_leaves, .ref h_tried, .ref h_met])), (h_all, .inl (cI, 53700, .inl r_all_6))]) hB ht hP hD [0, 1] [] rfl rfl (by decide) (by decide) hk1 hFc
  have hP : va_P (dC, dI) vwCl [(h, .inr (10, [.ref h_all, .ref h_has, .int f_size, .int f_next, .int f_where, .int f_token, .int f_number, .int f_sign, .int f_word, .int f_wrong, .int f_open, .int f_lines, .int f_acts, .ref h_line, .ref h_act, .ref h_pile, .ref h_comes, .ref h_leaves, .ref h_tried, .ref h_met])), (h_all, .inl (cI, 53700, .inl r_all_6))] _ := hP
  have hD : va_D A [(h, .inr (10, [.ref h_all, .ref h_has, .int f_size, .int f_next, .int f_where, .int f_token, .int f_number, .int f_sign, .int f_word, .int f_wrong, .int f_open, .int f_lines, .int f_acts, .ref h_line, .ref h_act, .ref h_pile, .ref h_comes, .ref h_leaves, .ref h_tried, .ref h_met])), (h_all, .inl (cI, 53700, .inl r_all_6))] := hD
  refine lv_aload_n hx hb dX11_goes_115 rfl (lv_at hl 0 rfl) ?_
  refine lv_iload_n hx hb dX11_goes_116 rfl (lv_at hl 1 rfl) ?_
  refine lv_iconst (v := (5 : Int32)) hx hb dX11_goes_117 (by decide) ?_
  refine lv_aload_n hx hb dX11_goes_118 rfl (lv_at hl 0 rfl) ?_
  refine lv_iload_n hx hb dX11_goes_119 rfl (lv_at hl 1 rfl) ?_
  refine lv_iconst (v := (5 : Int32)) hx hb dX11_goes_120 (by decide) ?_
  have hPc := hP.sub (ws' := [(h, .inr (10, [.ref h_all, .ref h_has, .int f_size, .int f_next, .int f_where, .int f_token, .int f_number, .int f_sign, .int f_word, .int f_wrong, .int f_open, .int f_lines, .int f_acts, .ref h_line, .ref h_act, .ref h_pile, .ref h_comes, .ref h_leaves, .ref h_tried, .ref h_met])), (h_all, .inl (cI, 53700, .inl r_all_6))]) [0, 1] rfl
  have hDc := hD.sub (ws' := [(h, .inr (10, [.ref h_all, .ref h_has, .int f_size, .int f_next, .int f_where, .int f_token, .int f_number, .int f_sign, .int f_word, .int f_wrong, .int f_open, .int f_lines, .int f_acts, .ref h_line, .ref h_act, .ref h_pile, .ref h_comes, .ref h_leaves, .ref h_tried, .ref h_met])), (h_all, .inl (cI, 53700, .inl r_all_6))]) [0, 1] (by decide) rfl
  have hFc := va_free (wc := [(h, .inr (10, [.ref h_all, .ref h_has, .int f_size, .int f_next, .int f_where, .int f_token, .int f_number, .int f_sign, .int f_word, .int f_wrong, .int f_open, .int f_lines, .int f_acts, .ref h_line, .ref h_act, .ref h_pile, .ref h_comes, .ref h_leaves, .ref h_tried, .ref h_met])), (h_all, .inl (cI, 53700, .inl r_all_6))]) hD hS hA [0, 1] rfl
  refine va_calli (va_runV (As := [.int x1, .int (5 : Int32)]) (rest := [.int (5 : Int32), .int x1, .ref h]) ⟨hx, hb, hml, hown, hts⟩ (kX11_its l dC dI cI cZ cO cW h h_all h_has h_line h_act h_pile h_comes h_leaves h_tried h_met H.size f_size f_next f_where f_token f_number f_sign f_word f_wrong f_open f_lines f_acts r_all_6 x1 (5 : Int32) _ hw) (cwV 2 hts (gV gw_640 gw_641 gw_642 gw_622 (gM gw_637)) rfl rfl rfl (by decide +kernel) ⟨Nat.le_of_ble_eq_true rfl, Nat.le_of_ble_eq_true rfl⟩) (pv_of hPc hK hDc (va_recv hK hPc (ci := 10) (q0 := 0) rfl rfl)) rfl rfl hl.1 rfl (lv_room (Nat.le_of_ble_eq_true rfl)) dX11_goes_121 ⟨Nat.zero_le _, Nat.zero_le _⟩) hS (fun q _ h => hFc q h) hFc (fun r_7 u t H locs ht hvm hw hB hz1 hk1 hS => ?_)
  obtain ⟨hP, hD⟩ := af_join (wr := []) (w1 := [(h, .inr (10, [.ref h_all, .ref h_has, .int f_size, .int f_next, .int f_where, .int f_token, .int f_number, .int f_sign, .int f_word, .int f_wrong, .int f_open, .int f_lines, .int f_acts, .ref h_line, .ref h_act, .ref h_pile, .ref h_comes, .ref h_leaves, .ref h_tried, .ref h_met])), (h_all, .inl (cI, 53700, .inl r_all_6))]) hB ht hP hD [0, 1] [] rfl rfl (by decide) (by decide) hk1 hFc
  have hP : va_P (dC, dI) vwCl [(h, .inr (10, [.ref h_all, .ref h_has, .int f_size, .int f_next, .int f_where, .int f_token, .int f_number, .int f_sign, .int f_word, .int f_wrong, .int f_open, .int f_lines, .int f_acts, .ref h_line, .ref h_act, .ref h_pile, .ref h_comes, .ref h_leaves, .ref h_tried, .ref h_met])), (h_all, .inl (cI, 53700, .inl r_all_6))] _ := hP
  have hD : va_D A [(h, .inr (10, [.ref h_all, .ref h_has, .int f_size, .int f_next, .int f_where, .int f_token, .int f_number, .int f_sign, .int f_word, .int f_wrong, .int f_open, .int f_lines, .int f_acts, .ref h_line, .ref h_act, .ref h_pile, .ref h_comes, .ref h_leaves, .ref h_tried, .ref h_met])), (h_all, .inl (cI, 53700, .inl r_all_6))] := hD
  refine lv_iconst (v := (1 : Int32)) hx hb dX11_goes_124 (by decide) ?_
  refine lv_iadd hx hb dX11_goes_125 ?_
  have hPc := hP.sub (ws' := [(h, .inr (10, [.ref h_all, .ref h_has, .int f_size, .int f_next, .int f_where, .int f_token, .int f_number, .int f_sign, .int f_word, .int f_wrong, .int f_open, .int f_lines, .int f_acts, .ref h_line, .ref h_act, .ref h_pile, .ref h_comes, .ref h_leaves, .ref h_tried, .ref h_met])), (h_all, .inl (cI, 53700, .inl r_all_6))]) [0, 1] rfl
  have hDc := hD.sub (ws' := [(h, .inr (10, [.ref h_all, .ref h_has, .int f_size, .int f_next, .int f_where, .int f_token, .int f_number, .int f_sign, .int f_word, .int f_wrong, .int f_open, .int f_lines, .int f_acts, .ref h_line, .ref h_act, .ref h_pile, .ref h_comes, .ref h_leaves, .ref h_tried, .ref h_met])), (h_all, .inl (cI, 53700, .inl r_all_6))]) [0, 1] (by decide) rfl
  have hFc := va_free (wc := [(h, .inr (10, [.ref h_all, .ref h_has, .int f_size, .int f_next, .int f_where, .int f_token, .int f_number, .int f_sign, .int f_word, .int f_wrong, .int f_open, .int f_lines, .int f_acts, .ref h_line, .ref h_act, .ref h_pile, .ref h_comes, .ref h_leaves, .ref h_tried, .ref h_met])), (h_all, .inl (cI, 53700, .inl r_all_6))]) hD hS hA [0, 1] rfl
  refine va_callv (va_runV (As := [.int x1, .int (5 : Int32), .int (r_7 + (1 : Int32))]) (rest := []) ⟨hx, hb, hml, hown, hts⟩ (kX11_ships l dC dI cI cZ cO cW h h_all h_has h_line h_act h_pile h_comes h_leaves h_tried h_met H.size f_size f_next f_where f_token f_number f_sign f_word f_wrong f_open f_lines f_acts r_all_6 x1 (5 : Int32) (r_7 + (1 : Int32)) _ hw) (cwV 3 hts (gV gw_655 gw_656 gw_657 gw_622 (gM gw_638)) rfl rfl rfl (by decide +kernel) ⟨Nat.le_of_ble_eq_true rfl, Nat.le_of_ble_eq_true rfl⟩) (pv_of hPc hK hDc (va_recv hK hPc (ci := 10) (q0 := 0) rfl rfl)) rfl rfl hl.1 rfl (lv_room (Nat.le_of_ble_eq_true rfl)) dX11_goes_126 ⟨Nat.zero_le _, Nat.zero_le _⟩) hS (fun q _ h => hFc q h) hFc (fun u t H locs ht hvm hw hB hz1 hk1 hS => ?_)
  obtain ⟨r_all_8, rfl⟩ : ∃ z, z = u := ⟨_, rfl⟩
  obtain ⟨hP, hD⟩ := af_join (wr := []) (w1 := [(h, .inr (10, [.ref h_all, .ref h_has, .int f_size, .int f_next, .int f_where, .int f_token, .int f_number, .int f_sign, .int f_word, .int f_wrong, .int f_open, .int f_lines, .int f_acts, .ref h_line, .ref h_act, .ref h_pile, .ref h_comes, .ref h_leaves, .ref h_tried, .ref h_met])), (h_all, .inl (cI, 53700, .inl r_all_8))]) hB ht hP hD [0, 1] [] rfl rfl (by decide) (by decide) hk1 hFc
  have hP : va_P (dC, dI) vwCl [(h, .inr (10, [.ref h_all, .ref h_has, .int f_size, .int f_next, .int f_where, .int f_token, .int f_number, .int f_sign, .int f_word, .int f_wrong, .int f_open, .int f_lines, .int f_acts, .ref h_line, .ref h_act, .ref h_pile, .ref h_comes, .ref h_leaves, .ref h_tried, .ref h_met])), (h_all, .inl (cI, 53700, .inl r_all_8))] _ := hP
  have hD : va_D A [(h, .inr (10, [.ref h_all, .ref h_has, .int f_size, .int f_next, .int f_where, .int f_token, .int f_number, .int f_sign, .int f_word, .int f_wrong, .int f_open, .int f_lines, .int f_acts, .ref h_line, .ref h_act, .ref h_pile, .ref h_comes, .ref h_leaves, .ref h_tried, .ref h_met])), (h_all, .inl (cI, 53700, .inl r_all_8))] := hD
  refine lv_iconst (v := (1 : Int32)) hx hb dX11_goes_129 (by decide) ?_
  have hP9 := hP.sub (ws' := (vX11_goes cI cZ h h_all h_has h_line h_act h_pile h_comes h_leaves h_tried h_met f_size f_next f_where f_token f_number f_sign f_word f_wrong f_open f_lines f_acts r_all_8)) [0, 1] rfl
  have hD9 := hD.sub (ws' := (vX11_goes cI cZ h h_all h_has h_line h_act h_pile h_comes h_leaves h_tried h_met f_size f_next f_where f_token f_number f_sign f_word f_wrong f_open f_lines f_acts r_all_8)) [0, 1] (by decide) rfl
  exact W.zret (v := (1 : Int32)) (ty := .boolean) hx hb hr rfl (fun t ht hW => ⟨⟨(1 : Int32), r_all_8, rfl, hw, by rw [ht]; exact hP9, va_K.moved hW.alike hK, hD9⟩, hS.F ht⟩) hS.2.2 dX11_goes_130
set_option maxHeartbeats 4000000 in
set_option maxRecDepth 100000 in
theorem tX11_goes_56 {p : Program} {l : Launch} {e : Env} {s : State} {m : MethodId} {args : Array Value} {below : List Frame} {meth : Method} {c : Code} {dC : Nat → ClassId} {dI : Nat → Nat → Nat} {cI cZ cO cW : ClassId} {A : Nat → Prop} {h h_all h_has h_line h_act h_pile h_comes h_leaves h_tried h_met : Nat} {f_size f_next f_where f_token f_number f_sign f_word f_wrong f_open f_lines f_acts : Int32} {Q : Int32 → (Nat → Int32) → Prop}  (hC : Cx p s m args meth c cX11_goes (some .boolean) 5 GW RX11) (hK : va_K (dC, dI) vwCl (tysA cI cZ cO cW) s) (hA : ∀ q : Nat, s.heap.size ≤ q → A q) :
    ∀ (x1 : Int32) (x2 : Int32) (x4 : Int32) (r_all : (Nat → Int32)) (H : Heap) (locs : List Loc) (ls : Array Slot), wX11_goes_56 Q  x1 x2 x4 r_all → va_P (dC, dI) vwCl (vX11_goes cI cZ h h_all h_has h_line h_act h_pile h_comes h_leaves h_tried h_met f_size f_next f_where f_token f_number f_sign f_word f_wrong f_open f_lines f_acts r_all) H → va_D A (vX11_goes cI cZ h h_all h_has h_line h_act h_pile h_comes h_leaves h_tried h_met f_size f_next f_where f_token f_number f_sign f_word f_wrong f_open f_lines f_acts r_all) → va_S A s.heap H locs → lv_has ls 5 [(0, .ref h), (1, .int x1), (2, .int x2), (4, .int x4)] → W p l e rmX11_goes s m args below meth c H locs 0 0 (MQ below (qX11_goes dC dI cI cZ cO cW h h_all h_has h_line h_act h_pile h_comes h_leaves h_tried h_met f_size f_next f_where f_token f_number f_sign f_word f_wrong f_open f_lines f_acts Q A) args s 0 0 A) (F0 m 56 ls []) := by
  obtain ⟨hx, hb, hr, hml, hown, hts, hlocks⟩ := id hC
  intro x1 x2 x4 r_all H locs ls hw hP hD hS hl
  refine lv_aload_n hx hb dX11_goes_56 rfl (lv_at hl 0 rfl) ?_
  refine lv_iload_n hx hb dX11_goes_57 rfl (lv_at hl 1 rfl) ?_
  refine lv_iconst (v := (1 : Int32)) hx hb dX11_goes_58 (by decide) ?_
  have hPc := hP.sub (ws' := [(h, .inr (10, [.ref h_all, .ref h_has, .int f_size, .int f_next, .int f_where, .int f_token, .int f_number, .int f_sign, .int f_word, .int f_wrong, .int f_open, .int f_lines, .int f_acts, .ref h_line, .ref h_act, .ref h_pile, .ref h_comes, .ref h_leaves, .ref h_tried, .ref h_met])), (h_all, .inl (cI, 53700, .inl r_all))]) [0, 1] rfl
  have hDc := hD.sub (ws' := [(h, .inr (10, [.ref h_all, .ref h_has, .int f_size, .int f_next, .int f_where, .int f_token, .int f_number, .int f_sign, .int f_word, .int f_wrong, .int f_open, .int f_lines, .int f_acts, .ref h_line, .ref h_act, .ref h_pile, .ref h_comes, .ref h_leaves, .ref h_tried, .ref h_met])), (h_all, .inl (cI, 53700, .inl r_all))]) [0, 1] (by decide) rfl
  have hFc := va_free (wc := [(h, .inr (10, [.ref h_all, .ref h_has, .int f_size, .int f_next, .int f_where, .int f_token, .int f_number, .int f_sign, .int f_word, .int f_wrong, .int f_open, .int f_lines, .int f_acts, .ref h_line, .ref h_act, .ref h_pile, .ref h_comes, .ref h_leaves, .ref h_tried, .ref h_met])), (h_all, .inl (cI, 53700, .inl r_all))]) hD hS hA [0, 1] rfl
  refine va_calli (va_runV (As := [.int x1, .int (1 : Int32)]) (rest := []) ⟨hx, hb, hml, hown, hts⟩ (kX11_its l dC dI cI cZ cO cW h h_all h_has h_line h_act h_pile h_comes h_leaves h_tried h_met H.size f_size f_next f_where f_token f_number f_sign f_word f_wrong f_open f_lines f_acts r_all x1 (1 : Int32) _ hw) (cwV 2 hts (gV gw_640 gw_641 gw_642 gw_622 (gM gw_637)) rfl rfl rfl (by decide +kernel) ⟨Nat.le_of_ble_eq_true rfl, Nat.le_of_ble_eq_true rfl⟩) (pv_of hPc hK hDc (va_recv hK hPc (ci := 10) (q0 := 0) rfl rfl)) rfl rfl hl.1 rfl (lv_room (Nat.le_of_ble_eq_true rfl)) dX11_goes_59 ⟨Nat.zero_le _, Nat.zero_le _⟩) hS (fun q _ h => hFc q h) hFc (fun r_9 u t H locs ht hvm hw hB hz1 hk1 hS => ?_)
  obtain ⟨hP, hD⟩ := af_join (wr := []) (w1 := [(h, .inr (10, [.ref h_all, .ref h_has, .int f_size, .int f_next, .int f_where, .int f_token, .int f_number, .int f_sign, .int f_word, .int f_wrong, .int f_open, .int f_lines, .int f_acts, .ref h_line, .ref h_act, .ref h_pile, .ref h_comes, .ref h_leaves, .ref h_tried, .ref h_met])), (h_all, .inl (cI, 53700, .inl r_all))]) hB ht hP hD [0, 1] [] rfl rfl (by decide) (by decide) hk1 hFc
  have hP : va_P (dC, dI) vwCl [(h, .inr (10, [.ref h_all, .ref h_has, .int f_size, .int f_next, .int f_where, .int f_token, .int f_number, .int f_sign, .int f_word, .int f_wrong, .int f_open, .int f_lines, .int f_acts, .ref h_line, .ref h_act, .ref h_pile, .ref h_comes, .ref h_leaves, .ref h_tried, .ref h_met])), (h_all, .inl (cI, 53700, .inl r_all))] _ := hP
  have hD : va_D A [(h, .inr (10, [.ref h_all, .ref h_has, .int f_size, .int f_next, .int f_where, .int f_token, .int f_number, .int f_sign, .int f_word, .int f_wrong, .int f_open, .int f_lines, .int f_acts, .ref h_line, .ref h_act, .ref h_pile, .ref h_comes, .ref h_leaves, .ref h_tried, .ref h_met])), (h_all, .inl (cI, 53700, .inl r_all))] := hD
  refine lv_iconst (v := (-1 : Int32)) hx hb dX11_goes_62 (by decide) ?_
  refine lv_icmp_eq (tgt := 81) hx hb dX11_goes_63 (by decide) (fun c_10 => ?_) (fun c_10 => ?_)
  · have hw := hw.1 c_10
    exact tX11_goes_81 hC hK hA  x1 x2 r_all _ _ ls hw (hP.sub [0, 1] rfl) (hD.sub [0, 1] (by decide) rfl) hS (lv_sub hl [0, 1, 2] rfl)
  · have hw := hw.2 c_10
    refine lv_aload_n hx hb dX11_goes_66 rfl (lv_at hl 0 rfl) ?_
    refine lv_iload_n hx hb dX11_goes_67 rfl (lv_at hl 1 rfl) ?_
    refine lv_iconst (v := (1 : Int32)) hx hb dX11_goes_68 (by decide) ?_
    refine lv_aload_n hx hb dX11_goes_69 rfl (lv_at hl 0 rfl) ?_
    refine lv_iload_n hx hb dX11_goes_70 rfl (lv_at hl 1 rfl) ?_
    refine lv_iconst (v := (1 : Int32)) hx hb dX11_goes_71 (by decide) ?_
    have hPc := hP.sub (ws' := [(h, .inr (10, [.ref h_all, .ref h_has, .int f_size, .int f_next, .int f_where, .int f_token, .int f_number, .int f_sign, .int f_word, .int f_wrong, .int f_open, .int f_lines, .int f_acts, .ref h_line, .ref h_act, .ref h_pile, .ref h_comes, .ref h_leaves, .ref h_tried, .ref h_met])), (h_all, .inl (cI, 53700, .inl r_all))]) [0, 1] rfl
    have hDc := hD.sub (ws' := [(h, .inr (10, [.ref h_all, .ref h_has, .int f_size, .int f_next, .int f_where, .int f_token, .int f_number, .int f_sign, .int f_word, .int f_wrong, .int f_open, .int f_lines, .int f_acts, .ref h_line, .ref h_act, .ref h_pile, .ref h_comes, .ref h_leaves, .ref h_tried, .ref h_met])), (h_all, .inl (cI, 53700, .inl r_all))]) [0, 1] (by decide) rfl
    have hFc := va_free (wc := [(h, .inr (10, [.ref h_all, .ref h_has, .int f_size, .int f_next, .int f_where, .int f_token, .int f_number, .int f_sign, .int f_word, .int f_wrong, .int f_open, .int f_lines, .int f_acts, .ref h_line, .ref h_act, .ref h_pile, .ref h_comes, .ref h_leaves, .ref h_tried, .ref h_met])), (h_all, .inl (cI, 53700, .inl r_all))]) hD hS hA [0, 1] rfl
    refine va_calli (va_runV (As := [.int x1, .int (1 : Int32)]) (rest := [.int (1 : Int32), .int x1, .ref h]) ⟨hx, hb, hml, hown, hts⟩ (kX11_its l dC dI cI cZ cO cW h h_all h_has h_line h_act h_pile h_comes h_leaves h_tried h_met H.size f_size f_next f_where f_token f_number f_sign f_word f_wrong f_open f_lines f_acts r_all x1 (1 : Int32) _ hw) (cwV 2 hts (gV gw_640 gw_641 gw_642 gw_622 (gM gw_637)) rfl rfl rfl (by decide +kernel) ⟨Nat.le_of_ble_eq_true rfl, Nat.le_of_ble_eq_true rfl⟩) (pv_of hPc hK hDc (va_recv hK hPc (ci := 10) (q0 := 0) rfl rfl)) rfl rfl hl.1 rfl (lv_room (Nat.le_of_ble_eq_true rfl)) dX11_goes_72 ⟨Nat.zero_le _, Nat.zero_le _⟩) hS (fun q _ h => hFc q h) hFc (fun r_11 u t H locs ht hvm hw hB hz1 hk1 hS => ?_)
    obtain ⟨hP, hD⟩ := af_join (wr := []) (w1 := [(h, .inr (10, [.ref h_all, .ref h_has, .int f_size, .int f_next, .int f_where, .int f_token, .int f_number, .int f_sign, .int f_word, .int f_wrong, .int f_open, .int f_lines, .int f_acts, .ref h_line, .ref h_act, .ref h_pile, .ref h_comes, .ref h_leaves, .ref h_tried, .ref h_met])), (h_all, .inl (cI, 53700, .inl r_all))]) hB ht hP hD [0, 1] [] rfl rfl (by decide) (by decide) hk1 hFc
    have hP : va_P (dC, dI) vwCl [(h, .inr (10, [.ref h_all, .ref h_has, .int f_size, .int f_next, .int f_where, .int f_token, .int f_number, .int f_sign, .int f_word, .int f_wrong, .int f_open, .int f_lines, .int f_acts, .ref h_line, .ref h_act, .ref h_pile, .ref h_comes, .ref h_leaves, .ref h_tried, .ref h_met])), (h_all, .inl (cI, 53700, .inl r_all))] _ := hP
    have hD : va_D A [(h, .inr (10, [.ref h_all, .ref h_has, .int f_size, .int f_next, .int f_where, .int f_token, .int f_number, .int f_sign, .int f_word, .int f_wrong, .int f_open, .int f_lines, .int f_acts, .ref h_line, .ref h_act, .ref h_pile, .ref h_comes, .ref h_leaves, .ref h_tried, .ref h_met])), (h_all, .inl (cI, 53700, .inl r_all))] := hD
    refine lv_iload hx hb dX11_goes_75 (lv_at hl 3 rfl) ?_
    refine lv_isub hx hb dX11_goes_77 ?_
    have hPc := hP.sub (ws' := [(h, .inr (10, [.ref h_all, .ref h_has, .int f_size, .int f_next, .int f_where, .int f_token, .int f_number, .int f_sign, .int f_word, .int f_wrong, .int f_open, .int f_lines, .int f_acts, .ref h_line, .ref h_act, .ref h_pile, .ref h_comes, .ref h_leaves, .ref h_tried, .ref h_met])), (h_all, .inl (cI, 53700, .inl r_all))]) [0, 1] rfl
    have hDc := hD.sub (ws' := [(h, .inr (10, [.ref h_all, .ref h_has, .int f_size, .int f_next, .int f_where, .int f_token, .int f_number, .int f_sign, .int f_word, .int f_wrong, .int f_open, .int f_lines, .int f_acts, .ref h_line, .ref h_act, .ref h_pile, .ref h_comes, .ref h_leaves, .ref h_tried, .ref h_met])), (h_all, .inl (cI, 53700, .inl r_all))]) [0, 1] (by decide) rfl
    have hFc := va_free (wc := [(h, .inr (10, [.ref h_all, .ref h_has, .int f_size, .int f_next, .int f_where, .int f_token, .int f_number, .int f_sign, .int f_word, .int f_wrong, .int f_open, .int f_lines, .int f_acts, .ref h_line, .ref h_act, .ref h_pile, .ref h_comes, .ref h_leaves, .ref h_tried, .ref h_met])), (h_all, .inl (cI, 53700, .inl r_all))]) hD hS hA [0, 1] rfl
    refine va_callv (va_runV (As := [.int x1, .int (1 : Int32), .int (r_11 - x4)]) (rest := []) ⟨hx, hb, hml, hown, hts⟩ (kX11_ships l dC dI cI cZ cO cW h h_all h_has h_line h_act h_pile h_comes h_leaves h_tried h_met H.size f_size f_next f_where f_token f_number f_sign f_word f_wrong f_open f_lines f_acts r_all x1 (1 : Int32) (r_11 - x4) _ hw) (cwV 3 hts (gV gw_655 gw_656 gw_657 gw_622 (gM gw_638)) rfl rfl rfl (by decide +kernel) ⟨Nat.le_of_ble_eq_true rfl, Nat.le_of_ble_eq_true rfl⟩) (pv_of hPc hK hDc (va_recv hK hPc (ci := 10) (q0 := 0) rfl rfl)) rfl rfl hl.1 rfl (lv_room (Nat.le_of_ble_eq_true rfl)) dX11_goes_78 ⟨Nat.zero_le _, Nat.zero_le _⟩) hS (fun q _ h => hFc q h) hFc (fun u t H locs ht hvm hw hB hz1 hk1 hS => ?_)
    obtain ⟨r_all_12, rfl⟩ : ∃ z, z = u := ⟨_, rfl⟩
    obtain ⟨hP, hD⟩ := af_join (wr := []) (w1 := [(h, .inr (10, [.ref h_all, .ref h_has, .int f_size, .int f_next, .int f_where, .int f_token, .int f_number, .int f_sign, .int f_word, .int f_wrong, .int f_open, .int f_lines, .int f_acts, .ref h_line, .ref h_act, .ref h_pile, .ref h_comes, .ref h_leaves, .ref h_tried, .ref h_met])), (h_all, .inl (cI, 53700, .inl r_all_12))]) hB ht hP hD [0, 1] [] rfl rfl (by decide) (by decide) hk1 hFc
    have hP : va_P (dC, dI) vwCl [(h, .inr (10, [.ref h_all, .ref h_has, .int f_size, .int f_next, .int f_where, .int f_token, .int f_number, .int f_sign, .int f_word, .int f_wrong, .int f_open, .int f_lines, .int f_acts, .ref h_line, .ref h_act, .ref h_pile, .ref h_comes, .ref h_leaves, .ref h_tried, .ref h_met])), (h_all, .inl (cI, 53700, .inl r_all_12))] _ := hP
    have hD : va_D A [(h, .inr (10, [.ref h_all, .ref h_has, .int f_size, .int f_next, .int f_where, .int f_token, .int f_number, .int f_sign, .int f_word, .int f_wrong, .int f_open, .int f_lines, .int f_acts, .ref h_line, .ref h_act, .ref h_pile, .ref h_comes, .ref h_leaves, .ref h_tried, .ref h_met])), (h_all, .inl (cI, 53700, .inl r_all_12))] := hD
    exact tX11_goes_81 hC hK hA  x1 x2 r_all_12 _ _ ls hw (hP.sub [0, 1] rfl) (hD.sub [0, 1] (by decide) rfl) hS (lv_sub hl [0, 1, 2] rfl)
set_option maxHeartbeats 4000000 in
set_option maxRecDepth 100000 in
theorem tX11_goes_e {p : Program} {l : Launch} {e : Env} {s : State} {m : MethodId} {args : Array Value} {below : List Frame} {meth : Method} {c : Code} {dC : Nat → ClassId} {dI : Nat → Nat → Nat} {cI cZ cO cW : ClassId} {A : Nat → Prop} {h h_all h_has h_line h_act h_pile h_comes h_leaves h_tried h_met : Nat} {f_size f_next f_where f_token f_number f_sign f_word f_wrong f_open f_lines f_acts : Int32} {Q : Int32 → (Nat → Int32) → Prop} (hC : Cx p s m args meth c cX11_goes (some .boolean) 5 GW RX11) (hK : va_K (dC, dI) vwCl (tysA cI cZ cO cW) s) (hA : ∀ q : Nat, s.heap.size ≤ q → A q) :
    ∀ (x1 : Int32) (x2 : Int32) (r_all : Nat → Int32) (H : Heap) (locs : List Loc) (ls : Array Slot), wX11_goes Q x1 x2 r_all → va_P (dC, dI) vwCl (vX11_goes cI cZ h h_all h_has h_line h_act h_pile h_comes h_leaves h_tried h_met f_size f_next f_where f_token f_number f_sign f_word f_wrong f_open f_lines f_acts r_all) H → va_D A (vX11_goes cI cZ h h_all h_has h_line h_act h_pile h_comes h_leaves h_tried h_met f_size f_next f_where f_token f_number f_sign f_word f_wrong f_open f_lines f_acts r_all) → va_S A s.heap H locs → lv_has ls 5 [(0, .ref h), (1, .int x1), (2, .int x2)] → W p l e rmX11_goes s m args below meth c H locs 0 0 (MQ below (qX11_goes dC dI cI cZ cO cW h h_all h_has h_line h_act h_pile h_comes h_leaves h_tried h_met f_size f_next f_where f_token f_number f_sign f_word f_wrong f_open f_lines f_acts Q A) args s 0 0 A) (F0 m 0 ls []) := by
  obtain ⟨hx, hb, hr, hml, hown, hts, hlocks⟩ := id hC
  intro x1 x2 r_all H locs ls hw hP hD hS hl
  refine lv_aload_n hx hb dX11_goes_0 rfl (lv_at hl 0 rfl) ?_
  refine lv_iload_n hx hb dX11_goes_1 rfl (lv_at hl 1 rfl) ?_
  refine lv_iload_n hx hb dX11_goes_2 rfl (lv_at hl 2 rfl) ?_
  have hPc := hP.sub (ws' := [(h, .inr (10, [.ref h_all, .ref h_has, .int f_size, .int f_next, .int f_where, .int f_token, .int f_number, .int f_sign, .int f_word, .int f_wrong, .int f_open, .int f_lines, .int f_acts, .ref h_line, .ref h_act, .ref h_pile, .ref h_comes, .ref h_leaves, .ref h_tried, .ref h_met])), (h_all, .inl (cI, 53700, .inl r_all))]) [0, 1] rfl
  have hDc := hD.sub (ws' := [(h, .inr (10, [.ref h_all, .ref h_has, .int f_size, .int f_next, .int f_where, .int f_token, .int f_number, .int f_sign, .int f_word, .int f_wrong, .int f_open, .int f_lines, .int f_acts, .ref h_line, .ref h_act, .ref h_pile, .ref h_comes, .ref h_leaves, .ref h_tried, .ref h_met])), (h_all, .inl (cI, 53700, .inl r_all))]) [0, 1] (by decide) rfl
  have hFc := va_free (wc := [(h, .inr (10, [.ref h_all, .ref h_has, .int f_size, .int f_next, .int f_where, .int f_token, .int f_number, .int f_sign, .int f_word, .int f_wrong, .int f_open, .int f_lines, .int f_acts, .ref h_line, .ref h_act, .ref h_pile, .ref h_comes, .ref h_leaves, .ref h_tried, .ref h_met])), (h_all, .inl (cI, 53700, .inl r_all))]) hD hS hA [0, 1] rfl
  refine va_calli (va_runV (As := [.int x1, .int x2]) (rest := []) ⟨hx, hb, hml, hown, hts⟩ (kX11_there l dC dI cI cZ cO cW h h_all h_has h_line h_act h_pile h_comes h_leaves h_tried h_met H.size f_size f_next f_where f_token f_number f_sign f_word f_wrong f_open f_lines f_acts r_all x1 x2 _ hw) (cwV 2 hts (gV gw_781 gw_782 gw_783 gw_622 (gM gw_777)) rfl rfl rfl (by decide +kernel) ⟨Nat.le_of_ble_eq_true rfl, Nat.le_of_ble_eq_true rfl⟩) (pv_of hPc hK hDc (va_recv hK hPc (ci := 10) (q0 := 0) rfl rfl)) rfl rfl hl.1 rfl (lv_room (Nat.le_of_ble_eq_true rfl)) dX11_goes_3 ⟨Nat.zero_le _, Nat.zero_le _⟩) hS (fun q _ h => hFc q h) hFc (fun r_13 u t H locs ht hvm hw hB hz1 hk1 hS => ?_)
  obtain ⟨hP, hD⟩ := af_join (wr := []) (w1 := [(h, .inr (10, [.ref h_all, .ref h_has, .int f_size, .int f_next, .int f_where, .int f_token, .int f_number, .int f_sign, .int f_word, .int f_wrong, .int f_open, .int f_lines, .int f_acts, .ref h_line, .ref h_act, .ref h_pile, .ref h_comes, .ref h_leaves, .ref h_tried, .ref h_met])), (h_all, .inl (cI, 53700, .inl r_all))]) hB ht hP hD [0, 1] [] rfl rfl (by decide) (by decide) hk1 hFc
  have hP : va_P (dC, dI) vwCl [(h, .inr (10, [.ref h_all, .ref h_has, .int f_size, .int f_next, .int f_where, .int f_token, .int f_number, .int f_sign, .int f_word, .int f_wrong, .int f_open, .int f_lines, .int f_acts, .ref h_line, .ref h_act, .ref h_pile, .ref h_comes, .ref h_leaves, .ref h_tried, .ref h_met])), (h_all, .inl (cI, 53700, .inl r_all))] _ := hP
  have hD : va_D A [(h, .inr (10, [.ref h_all, .ref h_has, .int f_size, .int f_next, .int f_where, .int f_token, .int f_number, .int f_sign, .int f_word, .int f_wrong, .int f_open, .int f_lines, .int f_acts, .ref h_line, .ref h_act, .ref h_pile, .ref h_comes, .ref h_leaves, .ref h_tried, .ref h_met])), (h_all, .inl (cI, 53700, .inl r_all))] := hD
  refine lv_istore_n (lv' := [(3, .int r_13), (0, .ref h), (1, .int x1), (2, .int x2)]) hx hb dX11_goes_6 rfl hl (by decide) rfl (fun ls hl => ?_)
  refine lv_iconst (v := (1 : Int32)) hx hb dX11_goes_7 (by decide) ?_
  refine lv_iload_n hx hb dX11_goes_8 rfl (lv_at hl 0 rfl) ?_
  refine lv_bipush (v := (10 : Int32)) hx hb dX11_goes_9 (by decide) ?_
  refine lv_idiv hx hb dX11_goes_11 (by decide) ?_
  refine lv_iadd hx hb dX11_goes_12 ?_
  refine lv_istore (lv' := [(4, .int ((1 : Int32) + (r_13 / (10 : Int32)))), (3, .int r_13), (0, .ref h), (1, .int x1), (2, .int x2)]) hx hb dX11_goes_13 hl (by decide) rfl (fun ls hl => ?_)
  refine lv_aload_n hx hb dX11_goes_15 rfl (lv_at hl 2 rfl) ?_
  refine lv_iload_n hx hb dX11_goes_16 rfl (lv_at hl 3 rfl) ?_
  have hPc := hP.sub (ws' := [(h, .inr (10, [.ref h_all, .ref h_has, .int f_size, .int f_next, .int f_where, .int f_token, .int f_number, .int f_sign, .int f_word, .int f_wrong, .int f_open, .int f_lines, .int f_acts, .ref h_line, .ref h_act, .ref h_pile, .ref h_comes, .ref h_leaves, .ref h_tried, .ref h_met])), (h_all, .inl (cI, 53700, .inl r_all))]) [0, 1] rfl
  have hDc := hD.sub (ws' := [(h, .inr (10, [.ref h_all, .ref h_has, .int f_size, .int f_next, .int f_where, .int f_token, .int f_number, .int f_sign, .int f_word, .int f_wrong, .int f_open, .int f_lines, .int f_acts, .ref h_line, .ref h_act, .ref h_pile, .ref h_comes, .ref h_leaves, .ref h_tried, .ref h_met])), (h_all, .inl (cI, 53700, .inl r_all))]) [0, 1] (by decide) rfl
  have hFc := va_free (wc := [(h, .inr (10, [.ref h_all, .ref h_has, .int f_size, .int f_next, .int f_where, .int f_token, .int f_number, .int f_sign, .int f_word, .int f_wrong, .int f_open, .int f_lines, .int f_acts, .ref h_line, .ref h_act, .ref h_pile, .ref h_comes, .ref h_leaves, .ref h_tried, .ref h_met])), (h_all, .inl (cI, 53700, .inl r_all))]) hD hS hA [0, 1] rfl
  refine va_calli (va_runV (As := [.int x1]) (rest := []) ⟨hx, hb, hml, hown, hts⟩ (kX11_isHeld l dC dI cI cZ cO cW h h_all h_has h_line h_act h_pile h_comes h_leaves h_tried h_met H.size f_size f_next f_where f_token f_number f_sign f_word f_wrong f_open f_lines f_acts r_all x1 _ hw) (cwV 1 hts (gV gw_778 gw_779 gw_780 gw_622 (gM gw_776)) rfl rfl rfl (by decide +kernel) ⟨Nat.le_of_ble_eq_true rfl, Nat.le_of_ble_eq_true rfl⟩) (pv_of hPc hK hDc (va_recv hK hPc (ci := 10) (q0 := 0) rfl rfl)) rfl rfl hl.1 rfl (lv_room (Nat.le_of_ble_eq_true rfl)) dX11_goes_17 ⟨Nat.zero_le _, Nat.zero_le _⟩) hS (fun q _ h => hFc q h) hFc (fun r_14 u t H locs ht hvm hw hB hz1 hk1 hS => ?_)
  obtain ⟨hP, hD⟩ := af_join (wr := []) (w1 := [(h, .inr (10, [.ref h_all, .ref h_has, .int f_size, .int f_next, .int f_where, .int f_token, .int f_number, .int f_sign, .int f_word, .int f_wrong, .int f_open, .int f_lines, .int f_acts, .ref h_line, .ref h_act, .ref h_pile, .ref h_comes, .ref h_leaves, .ref h_tried, .ref h_met])), (h_all, .inl (cI, 53700, .inl r_all))]) hB ht hP hD [0, 1] [] rfl rfl (by decide) (by decide) hk1 hFc
  have hP : va_P (dC, dI) vwCl [(h, .inr (10, [.ref h_all, .ref h_has, .int f_size, .int f_next, .int f_where, .int f_token, .int f_number, .int f_sign, .int f_word, .int f_wrong, .int f_open, .int f_lines, .int f_acts, .ref h_line, .ref h_act, .ref h_pile, .ref h_comes, .ref h_leaves, .ref h_tried, .ref h_met])), (h_all, .inl (cI, 53700, .inl r_all))] _ := hP
  have hD : va_D A [(h, .inr (10, [.ref h_all, .ref h_has, .int f_size, .int f_next, .int f_where, .int f_token, .int f_number, .int f_sign, .int f_word, .int f_wrong, .int f_open, .int f_lines, .int f_acts, .ref h_line, .ref h_act, .ref h_pile, .ref h_comes, .ref h_leaves, .ref h_tried, .ref h_met])), (h_all, .inl (cI, 53700, .inl r_all))] := hD
  refine lv_if_ne (tgt := 54) hx hb dX11_goes_20 (by decide) (fun c_15 => ?_) (fun c_15 => ?_)
  · have hw := hw.1 c_15
    refine lv_iconst (v := (0 : Int32)) hx hb dX11_goes_54 (by decide) ?_
    have hP9 := hP.sub (ws' := (vX11_goes cI cZ h h_all h_has h_line h_act h_pile h_comes h_leaves h_tried h_met f_size f_next f_where f_token f_number f_sign f_word f_wrong f_open f_lines f_acts r_all)) [0, 1] rfl
    have hD9 := hD.sub (ws' := (vX11_goes cI cZ h h_all h_has h_line h_act h_pile h_comes h_leaves h_tried h_met f_size f_next f_where f_token f_number f_sign f_word f_wrong f_open f_lines f_acts r_all)) [0, 1] (by decide) rfl
    exact W.zret (v := (0 : Int32)) (ty := .boolean) hx hb hr rfl (fun t ht hW => ⟨⟨(0 : Int32), r_all, rfl, hw, by rw [ht]; exact hP9, va_K.moved hW.alike hK, hD9⟩, hS.F ht⟩) hS.2.2 dX11_goes_55
  · have hw := hw.2 c_15
    refine lv_iload_n hx hb dX11_goes_23 rfl (lv_at hl 1 rfl) ?_
    refine lv_aload_n hx hb dX11_goes_24 rfl (lv_at hl 2 rfl) ?_
    refine lv_iload_n hx hb dX11_goes_25 rfl (lv_at hl 3 rfl) ?_
    refine lv_iconst (v := (0 : Int32)) hx hb dX11_goes_26 (by decide) ?_
    have hPc := hP.sub (ws' := [(h, .inr (10, [.ref h_all, .ref h_has, .int f_size, .int f_next, .int f_where, .int f_token, .int f_number, .int f_sign, .int f_word, .int f_wrong, .int f_open, .int f_lines, .int f_acts, .ref h_line, .ref h_act, .ref h_pile, .ref h_comes, .ref h_leaves, .ref h_tried, .ref h_met])), (h_all, .inl (cI, 53700, .inl r_all))]) [0, 1] rfl
    have hDc := hD.sub (ws' := [(h, .inr (10, [.ref h_all, .ref h_has, .int f_size, .int f_next, .int f_where, .int f_token, .int f_number, .int f_sign, .int f_word, .int f_wrong, .int f_open, .int f_lines, .int f_acts, .ref h_line, .ref h_act, .ref h_pile, .ref h_comes, .ref h_leaves, .ref h_tried, .ref h_met])), (h_all, .inl (cI, 53700, .inl r_all))]) [0, 1] (by decide) rfl
    have hFc := va_free (wc := [(h, .inr (10, [.ref h_all, .ref h_has, .int f_size, .int f_next, .int f_where, .int f_token, .int f_number, .int f_sign, .int f_word, .int f_wrong, .int f_open, .int f_lines, .int f_acts, .ref h_line, .ref h_act, .ref h_pile, .ref h_comes, .ref h_leaves, .ref h_tried, .ref h_met])), (h_all, .inl (cI, 53700, .inl r_all))]) hD hS hA [0, 1] rfl
    refine va_calli (va_runV (As := [.int x1, .int (0 : Int32)]) (rest := [.int r_13]) ⟨hx, hb, hml, hown, hts⟩ (kX11_its l dC dI cI cZ cO cW h h_all h_has h_line h_act h_pile h_comes h_leaves h_tried h_met H.size f_size f_next f_where f_token f_number f_sign f_word f_wrong f_open f_lines f_acts r_all x1 (0 : Int32) _ hw) (cwV 2 hts (gV gw_640 gw_641 gw_642 gw_622 (gM gw_637)) rfl rfl rfl (by decide +kernel) ⟨Nat.le_of_ble_eq_true rfl, Nat.le_of_ble_eq_true rfl⟩) (pv_of hPc hK hDc (va_recv hK hPc (ci := 10) (q0 := 0) rfl rfl)) rfl rfl hl.1 rfl (lv_room (Nat.le_of_ble_eq_true rfl)) dX11_goes_27 ⟨Nat.zero_le _, Nat.zero_le _⟩) hS (fun q _ h => hFc q h) hFc (fun r_16 u t H locs ht hvm hw hB hz1 hk1 hS => ?_)
    obtain ⟨hP, hD⟩ := af_join (wr := []) (w1 := [(h, .inr (10, [.ref h_all, .ref h_has, .int f_size, .int f_next, .int f_where, .int f_token, .int f_number, .int f_sign, .int f_word, .int f_wrong, .int f_open, .int f_lines, .int f_acts, .ref h_line, .ref h_act, .ref h_pile, .ref h_comes, .ref h_leaves, .ref h_tried, .ref h_met])), (h_all, .inl (cI, 53700, .inl r_all))]) hB ht hP hD [0, 1] [] rfl rfl (by decide) (by decide) hk1 hFc
    have hP : va_P (dC, dI) vwCl [(h, .inr (10, [.ref h_all, .ref h_has, .int f_size, .int f_next, .int f_where, .int f_token, .int f_number, .int f_sign, .int f_word, .int f_wrong, .int f_open, .int f_lines, .int f_acts, .ref h_line, .ref h_act, .ref h_pile, .ref h_comes, .ref h_leaves, .ref h_tried, .ref h_met])), (h_all, .inl (cI, 53700, .inl r_all))] _ := hP
    have hD : va_D A [(h, .inr (10, [.ref h_all, .ref h_has, .int f_size, .int f_next, .int f_where, .int f_token, .int f_number, .int f_sign, .int f_word, .int f_wrong, .int f_open, .int f_lines, .int f_acts, .ref h_line, .ref h_act, .ref h_pile, .ref h_comes, .ref h_leaves, .ref h_tried, .ref h_met])), (h_all, .inl (cI, 53700, .inl r_all))] := hD
    refine lv_icmp_gt (tgt := 54) hx hb dX11_goes_30 (by decide) (fun c_17 => ?_) (fun c_17 => ?_)
    · have hw := hw.1 c_17
      refine lv_iconst (v := (0 : Int32)) hx hb dX11_goes_54 (by decide) ?_
      have hP9 := hP.sub (ws' := (vX11_goes cI cZ h h_all h_has h_line h_act h_pile h_comes h_leaves h_tried h_met f_size f_next f_where f_token f_number f_sign f_word f_wrong f_open f_lines f_acts r_all)) [0, 1] rfl
      have hD9 := hD.sub (ws' := (vX11_goes cI cZ h h_all h_has h_line h_act h_pile h_comes h_leaves h_tried h_met f_size f_next f_where f_token f_number f_sign f_word f_wrong f_open f_lines f_acts r_all)) [0, 1] (by decide) rfl
      exact W.zret (v := (0 : Int32)) (ty := .boolean) hx hb hr rfl (fun t ht hW => ⟨⟨(0 : Int32), r_all, rfl, hw, by rw [ht]; exact hP9, va_K.moved hW.alike hK, hD9⟩, hS.F ht⟩) hS.2.2 dX11_goes_55
    · have hw := hw.2 c_17
      refine lv_aload_n hx hb dX11_goes_33 rfl (lv_at hl 2 rfl) ?_
      refine lv_iload_n hx hb dX11_goes_34 rfl (lv_at hl 3 rfl) ?_
      refine lv_iconst (v := (1 : Int32)) hx hb dX11_goes_35 (by decide) ?_
      have hPc := hP.sub (ws' := [(h, .inr (10, [.ref h_all, .ref h_has, .int f_size, .int f_next, .int f_where, .int f_token, .int f_number, .int f_sign, .int f_word, .int f_wrong, .int f_open, .int f_lines, .int f_acts, .ref h_line, .ref h_act, .ref h_pile, .ref h_comes, .ref h_leaves, .ref h_tried, .ref h_met])), (h_all, .inl (cI, 53700, .inl r_all))]) [0, 1] rfl
      have hDc := hD.sub (ws' := [(h, .inr (10, [.ref h_all, .ref h_has, .int f_size, .int f_next, .int f_where, .int f_token, .int f_number, .int f_sign, .int f_word, .int f_wrong, .int f_open, .int f_lines, .int f_acts, .ref h_line, .ref h_act, .ref h_pile, .ref h_comes, .ref h_leaves, .ref h_tried, .ref h_met])), (h_all, .inl (cI, 53700, .inl r_all))]) [0, 1] (by decide) rfl
      have hFc := va_free (wc := [(h, .inr (10, [.ref h_all, .ref h_has, .int f_size, .int f_next, .int f_where, .int f_token, .int f_number, .int f_sign, .int f_word, .int f_wrong, .int f_open, .int f_lines, .int f_acts, .ref h_line, .ref h_act, .ref h_pile, .ref h_comes, .ref h_leaves, .ref h_tried, .ref h_met])), (h_all, .inl (cI, 53700, .inl r_all))]) hD hS hA [0, 1] rfl
      refine va_calli (va_runV (As := [.int x1, .int (1 : Int32)]) (rest := []) ⟨hx, hb, hml, hown, hts⟩ (kX11_its l dC dI cI cZ cO cW h h_all h_has h_line h_act h_pile h_comes h_leaves h_tried h_met H.size f_size f_next f_where f_token f_number f_sign f_word f_wrong f_open f_lines f_acts r_all x1 (1 : Int32) _ hw) (cwV 2 hts (gV gw_640 gw_641 gw_642 gw_622 (gM gw_637)) rfl rfl rfl (by decide +kernel) ⟨Nat.le_of_ble_eq_true rfl, Nat.le_of_ble_eq_true rfl⟩) (pv_of hPc hK hDc (va_recv hK hPc (ci := 10) (q0 := 0) rfl rfl)) rfl rfl hl.1 rfl (lv_room (Nat.le_of_ble_eq_true rfl)) dX11_goes_36 ⟨Nat.zero_le _, Nat.zero_le _⟩) hS (fun q _ h => hFc q h) hFc (fun r_18 u t H locs ht hvm hw hB hz1 hk1 hS => ?_)
      obtain ⟨hP, hD⟩ := af_join (wr := []) (w1 := [(h, .inr (10, [.ref h_all, .ref h_has, .int f_size, .int f_next, .int f_where, .int f_token, .int f_number, .int f_sign, .int f_word, .int f_wrong, .int f_open, .int f_lines, .int f_acts, .ref h_line, .ref h_act, .ref h_pile, .ref h_comes, .ref h_leaves, .ref h_tried, .ref h_met])), (h_all, .inl (cI, 53700, .inl r_all))]) hB ht hP hD [0, 1] [] rfl rfl (by decide) (by decide) hk1 hFc
      have hP : va_P (dC, dI) vwCl [(h, .inr (10, [.ref h_all, .ref h_has, .int f_size, .int f_next, .int f_where, .int f_token, .int f_number, .int f_sign, .int f_word, .int f_wrong, .int f_open, .int f_lines, .int f_acts, .ref h_line, .ref h_act, .ref h_pile, .ref h_comes, .ref h_leaves, .ref h_tried, .ref h_met])), (h_all, .inl (cI, 53700, .inl r_all))] _ := hP
      have hD : va_D A [(h, .inr (10, [.ref h_all, .ref h_has, .int f_size, .int f_next, .int f_where, .int f_token, .int f_number, .int f_sign, .int f_word, .int f_wrong, .int f_open, .int f_lines, .int f_acts, .ref h_line, .ref h_act, .ref h_pile, .ref h_comes, .ref h_leaves, .ref h_tried, .ref h_met])), (h_all, .inl (cI, 53700, .inl r_all))] := hD
      refine lv_iconst (v := (-1 : Int32)) hx hb dX11_goes_39 (by decide) ?_
      refine lv_icmp_eq (tgt := 56) hx hb dX11_goes_40 (by decide) (fun c_19 => ?_) (fun c_19 => ?_)
      · have hw := hw.1 c_19
        exact tX11_goes_56 hC hK hA  x1 x2 ((1 : Int32) + (r_13 / (10 : Int32))) r_all _ _ ls hw (hP.sub [0, 1] rfl) (hD.sub [0, 1] (by decide) rfl) hS (lv_sub hl [2, 3, 4, 0] rfl)
      · have hw := hw.2 c_19
        refine lv_aload_n hx hb dX11_goes_43 rfl (lv_at hl 2 rfl) ?_
        refine lv_iload_n hx hb dX11_goes_44 rfl (lv_at hl 3 rfl) ?_
        refine lv_iconst (v := (1 : Int32)) hx hb dX11_goes_45 (by decide) ?_
        have hPc := hP.sub (ws' := [(h, .inr (10, [.ref h_all, .ref h_has, .int f_size, .int f_next, .int f_where, .int f_token, .int f_number, .int f_sign, .int f_word, .int f_wrong, .int f_open, .int f_lines, .int f_acts, .ref h_line, .ref h_act, .ref h_pile, .ref h_comes, .ref h_leaves, .ref h_tried, .ref h_met])), (h_all, .inl (cI, 53700, .inl r_all))]) [0, 1] rfl
        have hDc := hD.sub (ws' := [(h, .inr (10, [.ref h_all, .ref h_has, .int f_size, .int f_next, .int f_where, .int f_token, .int f_number, .int f_sign, .int f_word, .int f_wrong, .int f_open, .int f_lines, .int f_acts, .ref h_line, .ref h_act, .ref h_pile, .ref h_comes, .ref h_leaves, .ref h_tried, .ref h_met])), (h_all, .inl (cI, 53700, .inl r_all))]) [0, 1] (by decide) rfl
        have hFc := va_free (wc := [(h, .inr (10, [.ref h_all, .ref h_has, .int f_size, .int f_next, .int f_where, .int f_token, .int f_number, .int f_sign, .int f_word, .int f_wrong, .int f_open, .int f_lines, .int f_acts, .ref h_line, .ref h_act, .ref h_pile, .ref h_comes, .ref h_leaves, .ref h_tried, .ref h_met])), (h_all, .inl (cI, 53700, .inl r_all))]) hD hS hA [0, 1] rfl
        refine va_calli (va_runV (As := [.int x1, .int (1 : Int32)]) (rest := []) ⟨hx, hb, hml, hown, hts⟩ (kX11_its l dC dI cI cZ cO cW h h_all h_has h_line h_act h_pile h_comes h_leaves h_tried h_met H.size f_size f_next f_where f_token f_number f_sign f_word f_wrong f_open f_lines f_acts r_all x1 (1 : Int32) _ hw) (cwV 2 hts (gV gw_640 gw_641 gw_642 gw_622 (gM gw_637)) rfl rfl rfl (by decide +kernel) ⟨Nat.le_of_ble_eq_true rfl, Nat.le_of_ble_eq_true rfl⟩) (pv_of hPc hK hDc (va_recv hK hPc (ci := 10) (q0 := 0) rfl rfl)) rfl rfl hl.1 rfl (lv_room (Nat.le_of_ble_eq_true rfl)) dX11_goes_46 ⟨Nat.zero_le _, Nat.zero_le _⟩) hS (fun q _ h => hFc q h) hFc (fun r_20 u t H locs ht hvm hw hB hz1 hk1 hS => ?_)
        obtain ⟨hP, hD⟩ := af_join (wr := []) (w1 := [(h, .inr (10, [.ref h_all, .ref h_has, .int f_size, .int f_next, .int f_where, .int f_token, .int f_number, .int f_sign, .int f_word, .int f_wrong, .int f_open, .int f_lines, .int f_acts, .ref h_line, .ref h_act, .ref h_pile, .ref h_comes, .ref h_leaves, .ref h_tried, .ref h_met])), (h_all, .inl (cI, 53700, .inl r_all))]) hB ht hP hD [0, 1] [] rfl rfl (by decide) (by decide) hk1 hFc
        have hP : va_P (dC, dI) vwCl [(h, .inr (10, [.ref h_all, .ref h_has, .int f_size, .int f_next, .int f_where, .int f_token, .int f_number, .int f_sign, .int f_word, .int f_wrong, .int f_open, .int f_lines, .int f_acts, .ref h_line, .ref h_act, .ref h_pile, .ref h_comes, .ref h_leaves, .ref h_tried, .ref h_met])), (h_all, .inl (cI, 53700, .inl r_all))] _ := hP
        have hD : va_D A [(h, .inr (10, [.ref h_all, .ref h_has, .int f_size, .int f_next, .int f_where, .int f_token, .int f_number, .int f_sign, .int f_word, .int f_wrong, .int f_open, .int f_lines, .int f_acts, .ref h_line, .ref h_act, .ref h_pile, .ref h_comes, .ref h_leaves, .ref h_tried, .ref h_met])), (h_all, .inl (cI, 53700, .inl r_all))] := hD
        refine lv_iload hx hb dX11_goes_49 (lv_at hl 0 rfl) ?_
        refine lv_icmp_ge (tgt := 56) hx hb dX11_goes_51 (by decide) (fun c_21 => ?_) (fun c_21 => ?_)
        · have hw := hw.1 c_21
          exact tX11_goes_56 hC hK hA  x1 x2 ((1 : Int32) + (r_13 / (10 : Int32))) r_all _ _ ls hw (hP.sub [0, 1] rfl) (hD.sub [0, 1] (by decide) rfl) hS (lv_sub hl [2, 3, 4, 0] rfl)
        · have hw := hw.2 c_21
          refine lv_iconst (v := (0 : Int32)) hx hb dX11_goes_54 (by decide) ?_
          have hP9 := hP.sub (ws' := (vX11_goes cI cZ h h_all h_has h_line h_act h_pile h_comes h_leaves h_tried h_met f_size f_next f_where f_token f_number f_sign f_word f_wrong f_open f_lines f_acts r_all)) [0, 1] rfl
          have hD9 := hD.sub (ws' := (vX11_goes cI cZ h h_all h_has h_line h_act h_pile h_comes h_leaves h_tried h_met f_size f_next f_where f_token f_number f_sign f_word f_wrong f_open f_lines f_acts r_all)) [0, 1] (by decide) rfl
          exact W.zret (v := (0 : Int32)) (ty := .boolean) hx hb hr rfl (fun t ht hW => ⟨⟨(0 : Int32), r_all, rfl, hw, by rw [ht]; exact hP9, va_K.moved hW.alike hK, hD9⟩, hS.F ht⟩) hS.2.2 dX11_goes_55
set_option maxHeartbeats 4000000 in
set_option maxRecDepth 100000 in
theorem kX11_goes (l : Launch) (dC : Nat → ClassId) (dI : Nat → Nat → Nat) (cI cZ cO cW : ClassId) (h h_all h_has h_line h_act h_pile h_comes h_leaves h_tried h_met : Nat)  (sz : Nat) (f_size : Int32) (f_next : Int32) (f_where : Int32) (f_token : Int32) (f_number : Int32) (f_sign : Int32) (f_word : Int32) (f_wrong : Int32) (f_open : Int32) (f_lines : Int32) (f_acts : Int32) (r_all : Nat → Int32) (x1 : Int32) (x2 : Int32) (Q : Int32 → (Nat → Int32) → Prop) (hw : wX11_goes Q x1 x2 r_all) : Met l yX11_goes zsX11_goes rmX11_goes (va_Pc [.ref h, .int x1, .int x2] (fun U => U.heap.size = sz ∧ va_P (dC, dI) vwCl (vX11_goes cI cZ h h_all h_has h_line h_act h_pile h_comes h_leaves h_tried h_met f_size f_next f_where f_token f_number f_sign f_word f_wrong f_open f_lines f_acts r_all) U.heap ∧ va_K (dC, dI) vwCl (tysA cI cZ cO cW) U ∧ va_D (fun _ => True) (vX11_goes cI cZ h h_all h_has h_line h_act h_pile h_comes h_leaves h_tried h_met f_size f_next f_where f_token f_number f_sign f_word f_wrong f_open f_lines f_acts r_all))) (qX11_goes dC dI cI cZ cO cW h h_all h_has h_line h_act h_pile h_comes h_leaves h_tried h_met f_size f_next f_where f_token f_number f_sign f_word f_wrong f_open f_lines f_acts Q (va_A (vX11_goes cI cZ h h_all h_has h_line h_act h_pile h_comes h_leaves h_tried h_met f_size f_next f_where f_token f_number f_sign f_word f_wrong f_open f_lines f_acts r_all) sz)) 0 0 (va_A (vX11_goes cI cZ h h_all h_has h_line h_act h_pile h_comes h_leaves h_tried h_met f_size f_next f_where f_token f_number f_sign f_word f_wrong f_open f_lines f_acts r_all) sz) := by
  refine Met.ofW (cc := cX11_goes) (maxL := 5) (ret := (some .boolean)) (by decide) rfl ?_
  intro p e s m args below meth c s₁ B hml hv
  obtain ⟨rfl, hsz, hP, hK, hD0⟩ := hv
  subst hsz
  have hC : Cx p s m ([.ref h, .int x1, .int x2] : List Value).toArray meth c cX11_goes (some .boolean) 5 GW RX11 := ⟨B.exec, B.bytes, B.returns, hml, findClass_of_methodNamed B.named, fun w h => atoms_spec (ws := zsX11_goes) B.pre w (List.mem_cons_of_mem _ h), B.notSynchronized⟩
  have hD := hD0.self (sz := s.heap.size)
  generalize hAe : va_A (vX11_goes cI cZ h h_all h_has h_line h_act h_pile h_comes h_leaves h_tried h_met f_size f_next f_where f_token f_number f_sign f_word f_wrong f_open f_lines f_acts r_all) s.heap.size = A at hD ⊢
  have hA : ∀ q : Nat, s.heap.size ≤ q → A q := fun q h => by rw [← hAe]; exact Or.inr h
  have hl := lv_entry ([.ref h, .int x1, .int x2]) (n := 5) (Nat.le_of_ble_eq_true rfl)
  rw [lg_entry_eq]
  generalize (lg_sl ([.ref h, .int x1, .int x2]) ++ List.replicate (5 - (lg_sl ([.ref h, .int x1, .int x2])).length) Slot.unset).toArray = ls at hl ⊢
  exact tX11_goes_e hC hK hA x1 x2 r_all _ _ ls hw hP hD va_S.rf hl

/-! X11_cuts -/
def wX11_cuts (Q : Int32 → (Nat → Int32) → Prop) (x1 : Int32) (r_all : Nat → Int32) : Prop :=
  (wX11_its (fun r_1 => (wX11_its (fun r_2 => (wX11_its (fun r_3 => ((r_3 < (5 : Int32) → (Q (0 : Int32) r_all)) ∧ (¬ r_3 < (5 : Int32) → (wX11_of (fun r_5 => ((r_5 < 0 → (vp_in (3 : Int32) 53700 ∧ (wX11_sets (fun r_all_8 => (wX11_its (fun r_9 => (wX11_ships (fun r_all_10 => (Q (1 : Int32) r_all_10)) x1 (1 : Int32) (r_9 - (5 : Int32)) r_all_8)) x1 (1 : Int32) r_all_8)) r_1 r_2 (3 : Int32) (r_all (3 : Int32).toNatClampNeg) r_all))) ∧ (¬ r_5 < 0 → (Q (0 : Int32) r_all)))) r_1 r_2 (3 : Int32) r_all)))) x1 (1 : Int32) r_all)) x1 (3 : Int32) r_all)) x1 (2 : Int32) r_all)
abbrev vX11_cuts (cI cZ : ClassId) (h h_all h_has h_line h_act h_pile h_comes h_leaves h_tried h_met : Nat) (f_size : Int32) (f_next : Int32) (f_where : Int32) (f_token : Int32) (f_number : Int32) (f_sign : Int32) (f_word : Int32) (f_wrong : Int32) (f_open : Int32) (f_lines : Int32) (f_acts : Int32) (r_all : Nat → Int32) : va_W := [(h, .inr (10, [.ref h_all, .ref h_has, .int f_size, .int f_next, .int f_where, .int f_token, .int f_number, .int f_sign, .int f_word, .int f_wrong, .int f_open, .int f_lines, .int f_acts, .ref h_line, .ref h_act, .ref h_pile, .ref h_comes, .ref h_leaves, .ref h_tried, .ref h_met])), (h_all, .inl (cI, 53700, .inl r_all))]
abbrev rmX11_cuts : Room := { frames := 1, cells := 0, slots := 0, locals := 24 }
abbrev qX11_cuts (dC : Nat → ClassId) (dI : Nat → Nat → Nat) (cI cZ cO cW : ClassId) (h h_all h_has h_line h_act h_pile h_comes h_leaves h_tried h_met : Nat) (f_size : Int32) (f_next : Int32) (f_where : Int32) (f_token : Int32) (f_number : Int32) (f_sign : Int32) (f_word : Int32) (f_wrong : Int32) (f_open : Int32) (f_lines : Int32) (f_acts : Int32) (Q : Int32 → (Nat → Int32) → Prop) (A : Nat → Prop) : Array Value → State → Outcome → State → Prop := va_Qi (fun (r : Int32) (u : (Nat → Int32)) => Q r u) (fun (u : (Nat → Int32)) (t : State) => va_P (dC, dI) vwCl (vX11_cuts cI cZ h h_all h_has h_line h_act h_pile h_comes h_leaves h_tried h_met f_size f_next f_where f_token f_number f_sign f_word f_wrong f_open f_lines f_acts u) t.heap ∧ va_K (dC, dI) vwCl (tysA cI cZ cO cW) t ∧ va_D A (vX11_cuts cI cZ h h_all h_has h_line h_act h_pile h_comes h_leaves h_tried h_met f_size f_next f_where f_token f_number f_sign f_word f_wrong f_open f_lines f_acts u)) A
def zsX11_cuts : List Cond := Cond.code yX11_cuts cX11_cuts 4 (some .boolean) :: GW
set_option maxHeartbeats 4000000 in
set_option maxRecDepth 100000 in
theorem tX11_cuts_e {p : Program} {l : Launch} {e : Env} {s : State} {m : MethodId} {args : Array Value} {below : List Frame} {meth : Method} {c : Code} {dC : Nat → ClassId} {dI : Nat → Nat → Nat} {cI cZ cO cW : ClassId} {A : Nat → Prop} {h h_all h_has h_line h_act h_pile h_comes h_leaves h_tried h_met : Nat} {f_size f_next f_where f_token f_number f_sign f_word f_wrong f_open f_lines f_acts : Int32} {Q : Int32 → (Nat → Int32) → Prop} (hC : Cx p s m args meth c cX11_cuts (some .boolean) 4 GW RX11) (hK : va_K (dC, dI) vwCl (tysA cI cZ cO cW) s) (hA : ∀ q : Nat, s.heap.size ≤ q → A q) :
    ∀ (x1 : Int32) (r_all : Nat → Int32) (H : Heap) (locs : List Loc) (ls : Array Slot), wX11_cuts Q x1 r_all → va_P (dC, dI) vwCl (vX11_cuts cI cZ h h_all h_has h_line h_act h_pile h_comes h_leaves h_tried h_met f_size f_next f_where f_token f_number f_sign f_word f_wrong f_open f_lines f_acts r_all) H → va_D A (vX11_cuts cI cZ h h_all h_has h_line h_act h_pile h_comes h_leaves h_tried h_met f_size f_next f_where f_token f_number f_sign f_word f_wrong f_open f_lines f_acts r_all) → va_S A s.heap H locs → lv_has ls 4 [(0, .ref h), (1, .int x1)] → W p l e rmX11_cuts s m args below meth c H locs 0 0 (MQ below (qX11_cuts dC dI cI cZ cO cW h h_all h_has h_line h_act h_pile h_comes h_leaves h_tried h_met f_size f_next f_where f_token f_number f_sign f_word f_wrong f_open f_lines f_acts Q A) args s 0 0 A) (F0 m 0 ls []) := by
  obtain ⟨hx, hb, hr, hml, hown, hts, hlocks⟩ := id hC
  intro x1 r_all H locs ls hw hP hD hS hl
  refine lv_aload_n hx hb dX11_cuts_0 rfl (lv_at hl 0 rfl) ?_
  refine lv_iload_n hx hb dX11_cuts_1 rfl (lv_at hl 1 rfl) ?_
  refine lv_iconst (v := (2 : Int32)) hx hb dX11_cuts_2 (by decide) ?_
  have hPc := hP.sub (ws' := [(h, .inr (10, [.ref h_all, .ref h_has, .int f_size, .int f_next, .int f_where, .int f_token, .int f_number, .int f_sign, .int f_word, .int f_wrong, .int f_open, .int f_lines, .int f_acts, .ref h_line, .ref h_act, .ref h_pile, .ref h_comes, .ref h_leaves, .ref h_tried, .ref h_met])), (h_all, .inl (cI, 53700, .inl r_all))]) [0, 1] rfl
  have hDc := hD.sub (ws' := [(h, .inr (10, [.ref h_all, .ref h_has, .int f_size, .int f_next, .int f_where, .int f_token, .int f_number, .int f_sign, .int f_word, .int f_wrong, .int f_open, .int f_lines, .int f_acts, .ref h_line, .ref h_act, .ref h_pile, .ref h_comes, .ref h_leaves, .ref h_tried, .ref h_met])), (h_all, .inl (cI, 53700, .inl r_all))]) [0, 1] (by decide) rfl
  have hFc := va_free (wc := [(h, .inr (10, [.ref h_all, .ref h_has, .int f_size, .int f_next, .int f_where, .int f_token, .int f_number, .int f_sign, .int f_word, .int f_wrong, .int f_open, .int f_lines, .int f_acts, .ref h_line, .ref h_act, .ref h_pile, .ref h_comes, .ref h_leaves, .ref h_tried, .ref h_met])), (h_all, .inl (cI, 53700, .inl r_all))]) hD hS hA [0, 1] rfl
  refine va_calli (va_runV (As := [.int x1, .int (2 : Int32)]) (rest := []) ⟨hx, hb, hml, hown, hts⟩ (kX11_its l dC dI cI cZ cO cW h h_all h_has h_line h_act h_pile h_comes h_leaves h_tried h_met H.size f_size f_next f_where f_token f_number f_sign f_word f_wrong f_open f_lines f_acts r_all x1 (2 : Int32) _ hw) (cwV 2 hts (gV gw_640 gw_641 gw_642 gw_622 (gM gw_637)) rfl rfl rfl (by decide +kernel) ⟨Nat.le_of_ble_eq_true rfl, Nat.le_of_ble_eq_true rfl⟩) (pv_of hPc hK hDc (va_recv hK hPc (ci := 10) (q0 := 0) rfl rfl)) rfl rfl hl.1 rfl (lv_room (Nat.le_of_ble_eq_true rfl)) dX11_cuts_3 ⟨Nat.zero_le _, Nat.zero_le _⟩) hS (fun q _ h => hFc q h) hFc (fun r_1 u t H locs ht hvm hw hB hz1 hk1 hS => ?_)
  obtain ⟨hP, hD⟩ := af_join (wr := []) (w1 := [(h, .inr (10, [.ref h_all, .ref h_has, .int f_size, .int f_next, .int f_where, .int f_token, .int f_number, .int f_sign, .int f_word, .int f_wrong, .int f_open, .int f_lines, .int f_acts, .ref h_line, .ref h_act, .ref h_pile, .ref h_comes, .ref h_leaves, .ref h_tried, .ref h_met])), (h_all, .inl (cI, 53700, .inl r_all))]) hB ht hP hD [0, 1] [] rfl rfl (by decide) (by decide) hk1 hFc
  have hP : va_P (dC, dI) vwCl [(h, .inr (10, [.ref h_all, .ref h_has, .int f_size, .int f_next, .int f_where, .int f_token, .int f_number, .int f_sign, .int f_word, .int f_wrong, .int f_open, .int f_lines, .int f_acts, .ref h_line, .ref h_act, .ref h_pile, .ref h_comes, .ref h_leaves, .ref h_tried, .ref h_met])), (h_all, .inl (cI, 53700, .inl r_all))] _ := hP
  have hD : va_D A [(h, .inr (10, [.ref h_all, .ref h_has, .int f_size, .int f_next, .int f_where, .int f_token, .int f_number, .int f_sign, .int f_word, .int f_wrong, .int f_open, .int f_lines, .int f_acts, .ref h_line, .ref h_act, .ref h_pile, .ref h_comes, .ref h_leaves, .ref h_tried, .ref h_met])), (h_all, .inl (cI, 53700, .inl r_all))] := hD
  refine lv_istore_n (lv' := [(2, .int r_1), (0, .ref h), (1, .int x1)]) hx hb dX11_cuts_6 rfl hl (by decide) rfl (fun ls hl => ?_)
  refine lv_aload_n hx hb dX11_cuts_7 rfl (lv_at hl 1 rfl) ?_
  refine lv_iload_n hx hb dX11_cuts_8 rfl (lv_at hl 2 rfl) ?_
  refine lv_iconst (v := (3 : Int32)) hx hb dX11_cuts_9 (by decide) ?_
  have hPc := hP.sub (ws' := [(h, .inr (10, [.ref h_all, .ref h_has, .int f_size, .int f_next, .int f_where, .int f_token, .int f_number, .int f_sign, .int f_word, .int f_wrong, .int f_open, .int f_lines, .int f_acts, .ref h_line, .ref h_act, .ref h_pile, .ref h_comes, .ref h_leaves, .ref h_tried, .ref h_met])), (h_all, .inl (cI, 53700, .inl r_all))]) [0, 1] rfl
  have hDc := hD.sub (ws' := [(h, .inr (10, [.ref h_all, .ref h_has, .int f_size, .int f_next, .int f_where, .int f_token, .int f_number, .int f_sign, .int f_word, .int f_wrong, .int f_open, .int f_lines, .int f_acts, .ref h_line, .ref h_act, .ref h_pile, .ref h_comes, .ref h_leaves, .ref h_tried, .ref h_met])), (h_all, .inl (cI, 53700, .inl r_all))]) [0, 1] (by decide) rfl
  have hFc := va_free (wc := [(h, .inr (10, [.ref h_all, .ref h_has, .int f_size, .int f_next, .int f_where, .int f_token, .int f_number, .int f_sign, .int f_word, .int f_wrong, .int f_open, .int f_lines, .int f_acts, .ref h_line, .ref h_act, .ref h_pile, .ref h_comes, .ref h_leaves, .ref h_tried, .ref h_met])), (h_all, .inl (cI, 53700, .inl r_all))]) hD hS hA [0, 1] rfl
  refine va_calli (va_runV (As := [.int x1, .int (3 : Int32)]) (rest := []) ⟨hx, hb, hml, hown, hts⟩ (kX11_its l dC dI cI cZ cO cW h h_all h_has h_line h_act h_pile h_comes h_leaves h_tried h_met H.size f_size f_next f_where f_token f_number f_sign f_word f_wrong f_open f_lines f_acts r_all x1 (3 : Int32) _ hw) (cwV 2 hts (gV gw_640 gw_641 gw_642 gw_622 (gM gw_637)) rfl rfl rfl (by decide +kernel) ⟨Nat.le_of_ble_eq_true rfl, Nat.le_of_ble_eq_true rfl⟩) (pv_of hPc hK hDc (va_recv hK hPc (ci := 10) (q0 := 0) rfl rfl)) rfl rfl hl.1 rfl (lv_room (Nat.le_of_ble_eq_true rfl)) dX11_cuts_10 ⟨Nat.zero_le _, Nat.zero_le _⟩) hS (fun q _ h => hFc q h) hFc (fun r_2 u t H locs ht hvm hw hB hz1 hk1 hS => ?_)
  obtain ⟨hP, hD⟩ := af_join (wr := []) (w1 := [(h, .inr (10, [.ref h_all, .ref h_has, .int f_size, .int f_next, .int f_where, .int f_token, .int f_number, .int f_sign, .int f_word, .int f_wrong, .int f_open, .int f_lines, .int f_acts, .ref h_line, .ref h_act, .ref h_pile, .ref h_comes, .ref h_leaves, .ref h_tried, .ref h_met])), (h_all, .inl (cI, 53700, .inl r_all))]) hB ht hP hD [0, 1] [] rfl rfl (by decide) (by decide) hk1 hFc
  have hP : va_P (dC, dI) vwCl [(h, .inr (10, [.ref h_all, .ref h_has, .int f_size, .int f_next, .int f_where, .int f_token, .int f_number, .int f_sign, .int f_word, .int f_wrong, .int f_open, .int f_lines, .int f_acts, .ref h_line, .ref h_act, .ref h_pile, .ref h_comes, .ref h_leaves, .ref h_tried, .ref h_met])), (h_all, .inl (cI, 53700, .inl r_all))] _ := hP
  have hD : va_D A [(h, .inr (10, [.ref h_all, .ref h_has, .int f_size, .int f_next, .int f_where, .int f_token, .int f_number, .int f_sign, .int f_word, .int f_wrong, .int f_open, .int f_lines, .int f_acts, .ref h_line, .ref h_act, .ref h_pile, .ref h_comes, .ref h_leaves, .ref h_tried, .ref h_met])), (h_all, .inl (cI, 53700, .inl r_all))] := hD
  refine lv_istore_n (lv' := [(3, .int r_2), (2, .int r_1), (0, .ref h), (1, .int x1)]) hx hb dX11_cuts_13 rfl hl (by decide) rfl (fun ls hl => ?_)
  refine lv_aload_n hx hb dX11_cuts_14 rfl (lv_at hl 2 rfl) ?_
  refine lv_iload_n hx hb dX11_cuts_15 rfl (lv_at hl 3 rfl) ?_
  refine lv_iconst (v := (1 : Int32)) hx hb dX11_cuts_16 (by decide) ?_
  have hPc := hP.sub (ws' := [(h, .inr (10, [.ref h_all, .ref h_has, .int f_size, .int f_next, .int f_where, .int f_token, .int f_number, .int f_sign, .int f_word, .int f_wrong, .int f_open, .int f_lines, .int f_acts, .ref h_line, .ref h_act, .ref h_pile, .ref h_comes, .ref h_leaves, .ref h_tried, .ref h_met])), (h_all, .inl (cI, 53700, .inl r_all))]) [0, 1] rfl
  have hDc := hD.sub (ws' := [(h, .inr (10, [.ref h_all, .ref h_has, .int f_size, .int f_next, .int f_where, .int f_token, .int f_number, .int f_sign, .int f_word, .int f_wrong, .int f_open, .int f_lines, .int f_acts, .ref h_line, .ref h_act, .ref h_pile, .ref h_comes, .ref h_leaves, .ref h_tried, .ref h_met])), (h_all, .inl (cI, 53700, .inl r_all))]) [0, 1] (by decide) rfl
  have hFc := va_free (wc := [(h, .inr (10, [.ref h_all, .ref h_has, .int f_size, .int f_next, .int f_where, .int f_token, .int f_number, .int f_sign, .int f_word, .int f_wrong, .int f_open, .int f_lines, .int f_acts, .ref h_line, .ref h_act, .ref h_pile, .ref h_comes, .ref h_leaves, .ref h_tried, .ref h_met])), (h_all, .inl (cI, 53700, .inl r_all))]) hD hS hA [0, 1] rfl
  refine va_calli (va_runV (As := [.int x1, .int (1 : Int32)]) (rest := []) ⟨hx, hb, hml, hown, hts⟩ (kX11_its l dC dI cI cZ cO cW h h_all h_has h_line h_act h_pile h_comes h_leaves h_tried h_met H.size f_size f_next f_where f_token f_number f_sign f_word f_wrong f_open f_lines f_acts r_all x1 (1 : Int32) _ hw) (cwV 2 hts (gV gw_640 gw_641 gw_642 gw_622 (gM gw_637)) rfl rfl rfl (by decide +kernel) ⟨Nat.le_of_ble_eq_true rfl, Nat.le_of_ble_eq_true rfl⟩) (pv_of hPc hK hDc (va_recv hK hPc (ci := 10) (q0 := 0) rfl rfl)) rfl rfl hl.1 rfl (lv_room (Nat.le_of_ble_eq_true rfl)) dX11_cuts_17 ⟨Nat.zero_le _, Nat.zero_le _⟩) hS (fun q _ h => hFc q h) hFc (fun r_3 u t H locs ht hvm hw hB hz1 hk1 hS => ?_)
  obtain ⟨hP, hD⟩ := af_join (wr := []) (w1 := [(h, .inr (10, [.ref h_all, .ref h_has, .int f_size, .int f_next, .int f_where, .int f_token, .int f_number, .int f_sign, .int f_word, .int f_wrong, .int f_open, .int f_lines, .int f_acts, .ref h_line, .ref h_act, .ref h_pile, .ref h_comes, .ref h_leaves, .ref h_tried, .ref h_met])), (h_all, .inl (cI, 53700, .inl r_all))]) hB ht hP hD [0, 1] [] rfl rfl (by decide) (by decide) hk1 hFc
  have hP : va_P (dC, dI) vwCl [(h, .inr (10, [.ref h_all, .ref h_has, .int f_size, .int f_next, .int f_where, .int f_token, .int f_number, .int f_sign, .int f_word, .int f_wrong, .int f_open, .int f_lines, .int f_acts, .ref h_line, .ref h_act, .ref h_pile, .ref h_comes, .ref h_leaves, .ref h_tried, .ref h_met])), (h_all, .inl (cI, 53700, .inl r_all))] _ := hP
  have hD : va_D A [(h, .inr (10, [.ref h_all, .ref h_has, .int f_size, .int f_next, .int f_where, .int f_token, .int f_number, .int f_sign, .int f_word, .int f_wrong, .int f_open, .int f_lines, .int f_acts, .ref h_line, .ref h_act, .ref h_pile, .ref h_comes, .ref h_leaves, .ref h_tried, .ref h_met])), (h_all, .inl (cI, 53700, .inl r_all))] := hD
  refine lv_iconst (v := (5 : Int32)) hx hb dX11_cuts_20 (by decide) ?_
  refine lv_icmp_lt (tgt := 34) hx hb dX11_cuts_21 (by decide) (fun c_4 => ?_) (fun c_4 => ?_)
  · have hw := hw.1 c_4
    refine lv_iconst (v := (0 : Int32)) hx hb dX11_cuts_34 (by decide) ?_
    have hP9 := hP.sub (ws' := (vX11_cuts cI cZ h h_all h_has h_line h_act h_pile h_comes h_leaves h_tried h_met f_size f_next f_where f_token f_number f_sign f_word f_wrong f_open f_lines f_acts r_all)) [0, 1] rfl
    have hD9 := hD.sub (ws' := (vX11_cuts cI cZ h h_all h_has h_line h_act h_pile h_comes h_leaves h_tried h_met f_size f_next f_where f_token f_number f_sign f_word f_wrong f_open f_lines f_acts r_all)) [0, 1] (by decide) rfl
    exact W.zret (v := (0 : Int32)) (ty := .boolean) hx hb hr rfl (fun t ht hW => ⟨⟨(0 : Int32), r_all, rfl, hw, by rw [ht]; exact hP9, va_K.moved hW.alike hK, hD9⟩, hS.F ht⟩) hS.2.2 dX11_cuts_35
  · have hw := hw.2 c_4
    refine lv_aload_n hx hb dX11_cuts_24 rfl (lv_at hl 2 rfl) ?_
    refine lv_iload_n hx hb dX11_cuts_25 rfl (lv_at hl 1 rfl) ?_
    refine lv_iload_n hx hb dX11_cuts_26 rfl (lv_at hl 0 rfl) ?_
    refine lv_iconst (v := (3 : Int32)) hx hb dX11_cuts_27 (by decide) ?_
    have hPc := hP.sub (ws' := [(h, .inr (10, [.ref h_all, .ref h_has, .int f_size, .int f_next, .int f_where, .int f_token, .int f_number, .int f_sign, .int f_word, .int f_wrong, .int f_open, .int f_lines, .int f_acts, .ref h_line, .ref h_act, .ref h_pile, .ref h_comes, .ref h_leaves, .ref h_tried, .ref h_met])), (h_all, .inl (cI, 53700, .inl r_all))]) [0, 1] rfl
    have hDc := hD.sub (ws' := [(h, .inr (10, [.ref h_all, .ref h_has, .int f_size, .int f_next, .int f_where, .int f_token, .int f_number, .int f_sign, .int f_word, .int f_wrong, .int f_open, .int f_lines, .int f_acts, .ref h_line, .ref h_act, .ref h_pile, .ref h_comes, .ref h_leaves, .ref h_tried, .ref h_met])), (h_all, .inl (cI, 53700, .inl r_all))]) [0, 1] (by decide) rfl
    have hFc := va_free (wc := [(h, .inr (10, [.ref h_all, .ref h_has, .int f_size, .int f_next, .int f_where, .int f_token, .int f_number, .int f_sign, .int f_word, .int f_wrong, .int f_open, .int f_lines, .int f_acts, .ref h_line, .ref h_act, .ref h_pile, .ref h_comes, .ref h_leaves, .ref h_tried, .ref h_met])), (h_all, .inl (cI, 53700, .inl r_all))]) hD hS hA [0, 1] rfl
    refine va_calli (va_runV (As := [.int r_1, .int r_2, .int (3 : Int32)]) (rest := []) ⟨hx, hb, hml, hown, hts⟩ (kX11_of l dC dI cI cZ cO cW h h_all h_has h_line h_act h_pile h_comes h_leaves h_tried h_met H.size f_size f_next f_where f_token f_number f_sign f_word f_wrong f_open f_lines f_acts r_all r_1 r_2 (3 : Int32) _ hw) (cwV 3 hts (gV gw_634 gw_635 gw_636 gw_622 (gM gw_628)) rfl rfl rfl (by decide +kernel) ⟨Nat.le_of_ble_eq_true rfl, Nat.le_of_ble_eq_true rfl⟩) (pv_of hPc hK hDc (va_recv hK hPc (ci := 10) (q0 := 0) rfl rfl)) rfl rfl hl.1 rfl (lv_room (Nat.le_of_ble_eq_true rfl)) dX11_cuts_28 ⟨Nat.zero_le _, Nat.zero_le _⟩) hS (fun q _ h => hFc q h) hFc (fun r_5 u t H locs ht hvm hw hB hz1 hk1 hS => ?_)
    obtain ⟨hP, hD⟩ := af_join (wr := []) (w1 := [(h, .inr (10, [.ref h_all, .ref h_has, .int f_size, .int f_next, .int f_where, .int f_token, .int f_number, .int f_sign, .int f_word, .int f_wrong, .int f_open, .int f_lines, .int f_acts, .ref h_line, .ref h_act, .ref h_pile, .ref h_comes, .ref h_leaves, .ref h_tried, .ref h_met])), (h_all, .inl (cI, 53700, .inl r_all))]) hB ht hP hD [0, 1] [] rfl rfl (by decide) (by decide) hk1 hFc
    have hP : va_P (dC, dI) vwCl [(h, .inr (10, [.ref h_all, .ref h_has, .int f_size, .int f_next, .int f_where, .int f_token, .int f_number, .int f_sign, .int f_word, .int f_wrong, .int f_open, .int f_lines, .int f_acts, .ref h_line, .ref h_act, .ref h_pile, .ref h_comes, .ref h_leaves, .ref h_tried, .ref h_met])), (h_all, .inl (cI, 53700, .inl r_all))] _ := hP
    have hD : va_D A [(h, .inr (10, [.ref h_all, .ref h_has, .int f_size, .int f_next, .int f_where, .int f_token, .int f_number, .int f_sign, .int f_word, .int f_wrong, .int f_open, .int f_lines, .int f_acts, .ref h_line, .ref h_act, .ref h_pile, .ref h_comes, .ref h_leaves, .ref h_tried, .ref h_met])), (h_all, .inl (cI, 53700, .inl r_all))] := hD
    refine lv_if_lt (tgt := 36) hx hb dX11_cuts_31 (by decide) (fun c_6 => ?_) (fun c_6 => ?_)
    · have hw := hw.1 c_6
      refine lv_aload_n hx hb dX11_cuts_36 rfl (lv_at hl 2 rfl) ?_
      refine lv_iload_n hx hb dX11_cuts_37 rfl (lv_at hl 1 rfl) ?_
      refine lv_iload_n hx hb dX11_cuts_38 rfl (lv_at hl 0 rfl) ?_
      refine lv_iconst (v := (3 : Int32)) hx hb dX11_cuts_39 (by decide) ?_
      refine lv_aload_n hx hb dX11_cuts_40 rfl (lv_at hl 2 rfl) ?_
      refine va_get (D := (dC, dI)) (ci := 10) (v := .ref h_all) (C := RX11) (T := TX11) (N := 20) hx hb hts gu_X11 hown hK hP 0 rfl rfl 0 (by decide) (hts _ gw_607) (fun _ h9 => h9) rfl dX11_cuts_41 ?_
      refine lv_iconst (v := (3 : Int32)) hx hb dX11_cuts_44 (by decide) ?_
      obtain ⟨h_7, hw⟩ := hw
      refine va_iald hx hb hK hP 1 0 rfl rfl h_7 dX11_cuts_45 ?_
      have hPc := hP.sub (ws' := [(h, .inr (10, [.ref h_all, .ref h_has, .int f_size, .int f_next, .int f_where, .int f_token, .int f_number, .int f_sign, .int f_word, .int f_wrong, .int f_open, .int f_lines, .int f_acts, .ref h_line, .ref h_act, .ref h_pile, .ref h_comes, .ref h_leaves, .ref h_tried, .ref h_met])), (h_all, .inl (cI, 53700, .inl r_all))]) [0, 1] rfl
      have hDc := hD.sub (ws' := [(h, .inr (10, [.ref h_all, .ref h_has, .int f_size, .int f_next, .int f_where, .int f_token, .int f_number, .int f_sign, .int f_word, .int f_wrong, .int f_open, .int f_lines, .int f_acts, .ref h_line, .ref h_act, .ref h_pile, .ref h_comes, .ref h_leaves, .ref h_tried, .ref h_met])), (h_all, .inl (cI, 53700, .inl r_all))]) [0, 1] (by decide) rfl
      have hFc := va_free (wc := [(h, .inr (10, [.ref h_all, .ref h_has, .int f_size, .int f_next, .int f_where, .int f_token, .int f_number, .int f_sign, .int f_word, .int f_wrong, .int f_open, .int f_lines, .int f_acts, .ref h_line, .ref h_act, .ref h_pile, .ref h_comes, .ref h_leaves, .ref h_tried, .ref h_met])), (h_all, .inl (cI, 53700, .inl r_all))]) hD hS hA [0, 1] rfl
      refine va_callv (va_runV (As := [.int r_1, .int r_2, .int (3 : Int32), .int (r_all (3 : Int32).toNatClampNeg)]) (rest := []) ⟨hx, hb, hml, hown, hts⟩ (kX11_sets l dC dI cI cZ cO cW h h_all h_has h_line h_act h_pile h_comes h_leaves h_tried h_met H.size f_size f_next f_where f_token f_number f_sign f_word f_wrong f_open f_lines f_acts r_all r_1 r_2 (3 : Int32) (r_all (3 : Int32).toNatClampNeg) _ hw) (cwV 4 hts (gV gw_646 gw_647 gw_648 gw_622 (gM gw_629)) rfl rfl rfl (by decide +kernel) ⟨Nat.le_of_ble_eq_true rfl, Nat.le_of_ble_eq_true rfl⟩) (pv_of hPc hK hDc (va_recv hK hPc (ci := 10) (q0 := 0) rfl rfl)) rfl rfl hl.1 rfl (lv_room (Nat.le_of_ble_eq_true rfl)) dX11_cuts_46 ⟨Nat.zero_le _, Nat.zero_le _⟩) hS (fun q _ h => hFc q h) hFc (fun u t H locs ht hvm hw hB hz1 hk1 hS => ?_)
      obtain ⟨r_all_8, rfl⟩ : ∃ z, z = u := ⟨_, rfl⟩
      obtain ⟨hP, hD⟩ := af_join (wr := []) (w1 := [(h, .inr (10, [.ref h_all, .ref h_has, .int f_size, .int f_next, .int f_where, .int f_token, .int f_number, .int f_sign, .int f_word, .int f_wrong, .int f_open, .int f_lines, .int f_acts, .ref h_line, .ref h_act, .ref h_pile, .ref h_comes, .ref h_leaves, .ref h_tried, .ref h_met])), (h_all, .inl (cI, 53700, .inl r_all_8))]) hB ht hP hD [0, 1] [] rfl rfl (by decide) (by decide) hk1 hFc
      have hP : va_P (dC, dI) vwCl [(h, .inr (10, [.ref h_all, .ref h_has, .int f_size, .int f_next, .int f_where, .int f_token, .int f_number, .int f_sign, .int f_word, .int f_wrong, .int f_open, .int f_lines, .int f_acts, .ref h_line, .ref h_act, .ref h_pile, .ref h_comes, .ref h_leaves, .ref h_tried, .ref h_met])), (h_all, .inl (cI, 53700, .inl r_all_8))] _ := hP
      have hD : va_D A [(h, .inr (10, [.ref h_all, .ref h_has, .int f_size, .int f_next, .int f_where, .int f_token, .int f_number, .int f_sign, .int f_word, .int f_wrong, .int f_open, .int f_lines, .int f_acts, .ref h_line, .ref h_act, .ref h_pile, .ref h_comes, .ref h_leaves, .ref h_tried, .ref h_met])), (h_all, .inl (cI, 53700, .inl r_all_8))] := hD
      refine lv_aload_n hx hb dX11_cuts_49 rfl (lv_at hl 2 rfl) ?_
      refine lv_iload_n hx hb dX11_cuts_50 rfl (lv_at hl 3 rfl) ?_
      refine lv_iconst (v := (1 : Int32)) hx hb dX11_cuts_51 (by decide) ?_
      refine lv_aload_n hx hb dX11_cuts_52 rfl (lv_at hl 2 rfl) ?_
      refine lv_iload_n hx hb dX11_cuts_53 rfl (lv_at hl 3 rfl) ?_
      refine lv_iconst (v := (1 : Int32)) hx hb dX11_cuts_54 (by decide) ?_
      have hPc := hP.sub (ws' := [(h, .inr (10, [.ref h_all, .ref h_has, .int f_size, .int f_next, .int f_where, .int f_token, .int f_number, .int f_sign, .int f_word, .int f_wrong, .int f_open, .int f_lines, .int f_acts, .ref h_line, .ref h_act, .ref h_pile, .ref h_comes, .ref h_leaves, .ref h_tried, .ref h_met])), (h_all, .inl (cI, 53700, .inl r_all_8))]) [0, 1] rfl
      have hDc := hD.sub (ws' := [(h, .inr (10, [.ref h_all, .ref h_has, .int f_size, .int f_next, .int f_where, .int f_token, .int f_number, .int f_sign, .int f_word, .int f_wrong, .int f_open, .int f_lines, .int f_acts, .ref h_line, .ref h_act, .ref h_pile, .ref h_comes, .ref h_leaves, .ref h_tried, .ref h_met])), (h_all, .inl (cI, 53700, .inl r_all_8))]) [0, 1] (by decide) rfl
      have hFc := va_free (wc := [(h, .inr (10, [.ref h_all, .ref h_has, .int f_size, .int f_next, .int f_where, .int f_token, .int f_number, .int f_sign, .int f_word, .int f_wrong, .int f_open, .int f_lines, .int f_acts, .ref h_line, .ref h_act, .ref h_pile, .ref h_comes, .ref h_leaves, .ref h_tried, .ref h_met])), (h_all, .inl (cI, 53700, .inl r_all_8))]) hD hS hA [0, 1] rfl
      refine va_calli (va_runV (As := [.int x1, .int (1 : Int32)]) (rest := [.int (1 : Int32), .int x1, .ref h]) ⟨hx, hb, hml, hown, hts⟩ (kX11_its l dC dI cI cZ cO cW h h_all h_has h_line h_act h_pile h_comes h_leaves h_tried h_met H.size f_size f_next f_where f_token f_number f_sign f_word f_wrong f_open f_lines f_acts r_all_8 x1 (1 : Int32) _ hw) (cwV 2 hts (gV gw_640 gw_641 gw_642 gw_622 (gM gw_637)) rfl rfl rfl (by decide +kernel) ⟨Nat.le_of_ble_eq_true rfl, Nat.le_of_ble_eq_true rfl⟩) (pv_of hPc hK hDc (va_recv hK hPc (ci := 10) (q0 := 0) rfl rfl)) rfl rfl hl.1 rfl (lv_room (Nat.le_of_ble_eq_true rfl)) dX11_cuts_55 ⟨Nat.zero_le _, Nat.zero_le _⟩) hS (fun q _ h => hFc q h) hFc (fun r_9 u t H locs ht hvm hw hB hz1 hk1 hS => ?_)
      obtain ⟨hP, hD⟩ := af_join (wr := []) (w1 := [(h, .inr (10, [.ref h_all, .ref h_has, .int f_size, .int f_next, .int f_where, .int f_token, .int f_number, .int f_sign, .int f_word, .int f_wrong, .int f_open, .int f_lines, .int f_acts, .ref h_line, .ref h_act, .ref h_pile, .ref h_comes, .ref h_leaves, .ref h_tried, .ref h_met])), (h_all, .inl (cI, 53700, .inl r_all_8))]) hB ht hP hD [0, 1] [] rfl rfl (by decide) (by decide) hk1 hFc
      have hP : va_P (dC, dI) vwCl [(h, .inr (10, [.ref h_all, .ref h_has, .int f_size, .int f_next, .int f_where, .int f_token, .int f_number, .int f_sign, .int f_word, .int f_wrong, .int f_open, .int f_lines, .int f_acts, .ref h_line, .ref h_act, .ref h_pile, .ref h_comes, .ref h_leaves, .ref h_tried, .ref h_met])), (h_all, .inl (cI, 53700, .inl r_all_8))] _ := hP
      have hD : va_D A [(h, .inr (10, [.ref h_all, .ref h_has, .int f_size, .int f_next, .int f_where, .int f_token, .int f_number, .int f_sign, .int f_word, .int f_wrong, .int f_open, .int f_lines, .int f_acts, .ref h_line, .ref h_act, .ref h_pile, .ref h_comes, .ref h_leaves, .ref h_tried, .ref h_met])), (h_all, .inl (cI, 53700, .inl r_all_8))] := hD
      refine lv_iconst (v := (5 : Int32)) hx hb dX11_cuts_58 (by decide) ?_
      refine lv_isub hx hb dX11_cuts_59 ?_
      have hPc := hP.sub (ws' := [(h, .inr (10, [.ref h_all, .ref h_has, .int f_size, .int f_next, .int f_where, .int f_token, .int f_number, .int f_sign, .int f_word, .int f_wrong, .int f_open, .int f_lines, .int f_acts, .ref h_line, .ref h_act, .ref h_pile, .ref h_comes, .ref h_leaves, .ref h_tried, .ref h_met])), (h_all, .inl (cI, 53700, .inl r_all_8))]) [0, 1] rfl
      have hDc := hD.sub (ws' := [(h, .inr (10, [.ref h_all, .ref h_has, .int f_size, .int f_next, .int f_where, .int f_token, .int f_number, .int f_sign, .int f_word, .int f_wrong, .int f_open, .int f_lines, .int f_acts, .ref h_line, .ref h_act, .ref h_pile, .ref h_comes, .ref h_leaves, .ref h_tried, .ref h_met])), (h_all, .inl (cI, 53700, .inl r_all_8))]) [0, 1] (by decide) rfl
      have hFc := va_free (wc := [(h, .inr (10, [.ref h_all, .ref h_has, .int f_size, .int f_next, .int f_where, .int f_token, .int f_number, .int f_sign, .int f_word, .int f_wrong, .int f_open, .int f_lines, .int f_acts, .ref h_line, .ref h_act, .ref h_pile, .ref h_comes, .ref h_leaves, .ref h_tried, .ref h_met])), (h_all, .inl (cI, 53700, .inl r_all_8))]) hD hS hA [0, 1] rfl
      refine va_callv (va_runV (As := [.int x1, .int (1 : Int32), .int (r_9 - (5 : Int32))]) (rest := []) ⟨hx, hb, hml, hown, hts⟩ (kX11_ships l dC dI cI cZ cO cW h h_all h_has h_line h_act h_pile h_comes h_leaves h_tried h_met H.size f_size f_next f_where f_token f_number f_sign f_word f_wrong f_open f_lines f_acts r_all_8 x1 (1 : Int32) (r_9 - (5 : Int32)) _ hw) (cwV 3 hts (gV gw_655 gw_656 gw_657 gw_622 (gM gw_638)) rfl rfl rfl (by decide +kernel) ⟨Nat.le_of_ble_eq_true rfl, Nat.le_of_ble_eq_true rfl⟩) (pv_of hPc hK hDc (va_recv hK hPc (ci := 10) (q0 := 0) rfl rfl)) rfl rfl hl.1 rfl (lv_room (Nat.le_of_ble_eq_true rfl)) dX11_cuts_60 ⟨Nat.zero_le _, Nat.zero_le _⟩) hS (fun q _ h => hFc q h) hFc (fun u t H locs ht hvm hw hB hz1 hk1 hS => ?_)
      obtain ⟨r_all_10, rfl⟩ : ∃ z, z = u := ⟨_, rfl⟩
      obtain ⟨hP, hD⟩ := af_join (wr := []) (w1 := [(h, .inr (10, [.ref h_all, .ref h_has, .int f_size, .int f_next, .int f_where, .int f_token, .int f_number, .int f_sign, .int f_word, .int f_wrong, .int f_open, .int f_lines, .int f_acts, .ref h_line, .ref h_act, .ref h_pile, .ref h_comes, .ref h_leaves, .ref h_tried, .ref h_met])), (h_all, .inl (cI, 53700, .inl r_all_10))]) hB ht hP hD [0, 1] [] rfl rfl (by decide) (by decide) hk1 hFc
      have hP : va_P (dC, dI) vwCl [(h, .inr (10, [.ref h_all, .ref h_has, .int f_size, .int f_next, .int f_where, .int f_token, .int f_number, .int f_sign, .int f_word, .int f_wrong, .int f_open, .int f_lines, .int f_acts, .ref h_line, .ref h_act, .ref h_pile, .ref h_comes, .ref h_leaves, .ref h_tried, .ref h_met])), (h_all, .inl (cI, 53700, .inl r_all_10))] _ := hP
      have hD : va_D A [(h, .inr (10, [.ref h_all, .ref h_has, .int f_size, .int f_next, .int f_where, .int f_token, .int f_number, .int f_sign, .int f_word, .int f_wrong, .int f_open, .int f_lines, .int f_acts, .ref h_line, .ref h_act, .ref h_pile, .ref h_comes, .ref h_leaves, .ref h_tried, .ref h_met])), (h_all, .inl (cI, 53700, .inl r_all_10))] := hD
      refine lv_iconst (v := (1 : Int32)) hx hb dX11_cuts_63 (by decide) ?_
      have hP9 := hP.sub (ws' := (vX11_cuts cI cZ h h_all h_has h_line h_act h_pile h_comes h_leaves h_tried h_met f_size f_next f_where f_token f_number f_sign f_word f_wrong f_open f_lines f_acts r_all_10)) [0, 1] rfl
      have hD9 := hD.sub (ws' := (vX11_cuts cI cZ h h_all h_has h_line h_act h_pile h_comes h_leaves h_tried h_met f_size f_next f_where f_token f_number f_sign f_word f_wrong f_open f_lines f_acts r_all_10)) [0, 1] (by decide) rfl
      exact W.zret (v := (1 : Int32)) (ty := .boolean) hx hb hr rfl (fun t ht hW => ⟨⟨(1 : Int32), r_all_10, rfl, hw, by rw [ht]; exact hP9, va_K.moved hW.alike hK, hD9⟩, hS.F ht⟩) hS.2.2 dX11_cuts_64
    · have hw := hw.2 c_6
      refine lv_iconst (v := (0 : Int32)) hx hb dX11_cuts_34 (by decide) ?_
      have hP9 := hP.sub (ws' := (vX11_cuts cI cZ h h_all h_has h_line h_act h_pile h_comes h_leaves h_tried h_met f_size f_next f_where f_token f_number f_sign f_word f_wrong f_open f_lines f_acts r_all)) [0, 1] rfl
      have hD9 := hD.sub (ws' := (vX11_cuts cI cZ h h_all h_has h_line h_act h_pile h_comes h_leaves h_tried h_met f_size f_next f_where f_token f_number f_sign f_word f_wrong f_open f_lines f_acts r_all)) [0, 1] (by decide) rfl
      exact W.zret (v := (0 : Int32)) (ty := .boolean) hx hb hr rfl (fun t ht hW => ⟨⟨(0 : Int32), r_all, rfl, hw, by rw [ht]; exact hP9, va_K.moved hW.alike hK, hD9⟩, hS.F ht⟩) hS.2.2 dX11_cuts_35
set_option maxHeartbeats 4000000 in
set_option maxRecDepth 100000 in
theorem kX11_cuts (l : Launch) (dC : Nat → ClassId) (dI : Nat → Nat → Nat) (cI cZ cO cW : ClassId) (h h_all h_has h_line h_act h_pile h_comes h_leaves h_tried h_met : Nat)  (sz : Nat) (f_size : Int32) (f_next : Int32) (f_where : Int32) (f_token : Int32) (f_number : Int32) (f_sign : Int32) (f_word : Int32) (f_wrong : Int32) (f_open : Int32) (f_lines : Int32) (f_acts : Int32) (r_all : Nat → Int32) (x1 : Int32) (Q : Int32 → (Nat → Int32) → Prop) (hw : wX11_cuts Q x1 r_all) : Met l yX11_cuts zsX11_cuts rmX11_cuts (va_Pc [.ref h, .int x1] (fun U => U.heap.size = sz ∧ va_P (dC, dI) vwCl (vX11_cuts cI cZ h h_all h_has h_line h_act h_pile h_comes h_leaves h_tried h_met f_size f_next f_where f_token f_number f_sign f_word f_wrong f_open f_lines f_acts r_all) U.heap ∧ va_K (dC, dI) vwCl (tysA cI cZ cO cW) U ∧ va_D (fun _ => True) (vX11_cuts cI cZ h h_all h_has h_line h_act h_pile h_comes h_leaves h_tried h_met f_size f_next f_where f_token f_number f_sign f_word f_wrong f_open f_lines f_acts r_all))) (qX11_cuts dC dI cI cZ cO cW h h_all h_has h_line h_act h_pile h_comes h_leaves h_tried h_met f_size f_next f_where f_token f_number f_sign f_word f_wrong f_open f_lines f_acts Q (va_A (vX11_cuts cI cZ h h_all h_has h_line h_act h_pile h_comes h_leaves h_tried h_met f_size f_next f_where f_token f_number f_sign f_word f_wrong f_open f_lines f_acts r_all) sz)) 0 0 (va_A (vX11_cuts cI cZ h h_all h_has h_line h_act h_pile h_comes h_leaves h_tried h_met f_size f_next f_where f_token f_number f_sign f_word f_wrong f_open f_lines f_acts r_all) sz) := by
  refine Met.ofW (cc := cX11_cuts) (maxL := 4) (ret := (some .boolean)) (by decide) rfl ?_
  intro p e s m args below meth c s₁ B hml hv
  obtain ⟨rfl, hsz, hP, hK, hD0⟩ := hv
  subst hsz
  have hC : Cx p s m ([.ref h, .int x1] : List Value).toArray meth c cX11_cuts (some .boolean) 4 GW RX11 := ⟨B.exec, B.bytes, B.returns, hml, findClass_of_methodNamed B.named, fun w h => atoms_spec (ws := zsX11_cuts) B.pre w (List.mem_cons_of_mem _ h), B.notSynchronized⟩
  have hD := hD0.self (sz := s.heap.size)
  generalize hAe : va_A (vX11_cuts cI cZ h h_all h_has h_line h_act h_pile h_comes h_leaves h_tried h_met f_size f_next f_where f_token f_number f_sign f_word f_wrong f_open f_lines f_acts r_all) s.heap.size = A at hD ⊢
  have hA : ∀ q : Nat, s.heap.size ≤ q → A q := fun q h => by rw [← hAe]; exact Or.inr h
  have hl := lv_entry ([.ref h, .int x1]) (n := 4) (Nat.le_of_ble_eq_true rfl)
  rw [lg_entry_eq]
  generalize (lg_sl ([.ref h, .int x1]) ++ List.replicate (4 - (lg_sl ([.ref h, .int x1])).length) Slot.unset).toArray = ls at hl ⊢
  exact tX11_cuts_e hC hK hA x1 r_all _ _ ls hw hP hD va_S.rf hl

/-! X11_does -/
def wX11_does_64 (Q : Int32 → (Nat → Int32) → Prop) (K_39 : Int32 → Int32 → Int32 → (Nat → Int32) → Prop)  (x1 : Int32) (x3 : Int32) (x4 : Int32) (r_all : (Nat → Int32)) : Prop :=
  (K_39 x1 x3 (x4 + (1 : Int32)) r_all)
def wX11_does_39 (Q : Int32 → (Nat → Int32) → Prop)   : Nat → Int32 → Int32 → Int32 → (Nat → Int32) → Prop
  | 0, _, _, _, _ => False
  | n + 1, x1, x3, x4, r_all => (vp_in (2 : Int32) 53700 ∧ (((r_all (2 : Int32).toNatClampNeg) ≤ x4 → (Q (1 : Int32) r_all)) ∧ (¬ (r_all (2 : Int32).toNatClampNeg) ≤ x4 → ((x4 = x1 → (wX11_does_64 Q (wX11_does_39 Q n) x1 x3 x4 r_all)) ∧ (¬ x4 = x1 → (wX11_ships (fun r_all_4 => (wX11_does_64 Q (wX11_does_39 Q n) x1 x3 x4 r_all_4)) x4 (4 : Int32) x3 r_all))))))
def wX11_does (Q : Int32 → (Nat → Int32) → Prop) (x1 : Int32) (x2 : Int32) (x3 : Int32) (r_all : Nat → Int32) : Prop :=
  ((¬ x2 = (24 : Int32) → ((¬ x2 = (25 : Int32) → ((x2 = (26 : Int32) → (∃ j_, wX11_does_39 Q j_ x1 x3 (0 : Int32) r_all)) ∧ (¬ x2 = (26 : Int32) → (wX11_goes (fun r_10 r_all_9 => (narrow .boolean (.int r_10) = .int r_10 ∧ (Q r_10 r_all_9))) x1 (x2 - (8 : Int32)) r_all)))) ∧ (x2 = (25 : Int32) → (wX11_cuts (fun r_13 r_all_12 => (narrow .boolean (.int r_13) = .int r_13 ∧ (Q r_13 r_all_12))) x1 r_all)))) ∧ (x2 = (24 : Int32) → (Q (1 : Int32) r_all)))
abbrev vX11_does (cI cZ : ClassId) (h h_all h_has h_line h_act h_pile h_comes h_leaves h_tried h_met : Nat) (f_size : Int32) (f_next : Int32) (f_where : Int32) (f_token : Int32) (f_number : Int32) (f_sign : Int32) (f_word : Int32) (f_wrong : Int32) (f_open : Int32) (f_lines : Int32) (f_acts : Int32) (r_all : Nat → Int32) : va_W := [(h, .inr (10, [.ref h_all, .ref h_has, .int f_size, .int f_next, .int f_where, .int f_token, .int f_number, .int f_sign, .int f_word, .int f_wrong, .int f_open, .int f_lines, .int f_acts, .ref h_line, .ref h_act, .ref h_pile, .ref h_comes, .ref h_leaves, .ref h_tried, .ref h_met])), (h_all, .inl (cI, 53700, .inl r_all))]
abbrev rmX11_does : Room := { frames := 5, cells := 0, slots := 0, locals := 115 }
abbrev qX11_does (dC : Nat → ClassId) (dI : Nat → Nat → Nat) (cI cZ cO cW : ClassId) (h h_all h_has h_line h_act h_pile h_comes h_leaves h_tried h_met : Nat) (f_size : Int32) (f_next : Int32) (f_where : Int32) (f_token : Int32) (f_number : Int32) (f_sign : Int32) (f_word : Int32) (f_wrong : Int32) (f_open : Int32) (f_lines : Int32) (f_acts : Int32) (Q : Int32 → (Nat → Int32) → Prop) (A : Nat → Prop) : Array Value → State → Outcome → State → Prop := va_Qi (fun (r : Int32) (u : (Nat → Int32)) => Q r u) (fun (u : (Nat → Int32)) (t : State) => va_P (dC, dI) vwCl (vX11_does cI cZ h h_all h_has h_line h_act h_pile h_comes h_leaves h_tried h_met f_size f_next f_where f_token f_number f_sign f_word f_wrong f_open f_lines f_acts u) t.heap ∧ va_K (dC, dI) vwCl (tysA cI cZ cO cW) t ∧ va_D A (vX11_does cI cZ h h_all h_has h_line h_act h_pile h_comes h_leaves h_tried h_met f_size f_next f_where f_token f_number f_sign f_word f_wrong f_open f_lines f_acts u)) A
def zsX11_does : List Cond := Cond.code yX11_does cX11_does 5 (some .boolean) :: GW
set_option maxHeartbeats 4000000 in
set_option maxRecDepth 100000 in
theorem tX11_does_64 {p : Program} {l : Launch} {e : Env} {s : State} {m : MethodId} {args : Array Value} {below : List Frame} {meth : Method} {c : Code} {dC : Nat → ClassId} {dI : Nat → Nat → Nat} {cI cZ cO cW : ClassId} {A : Nat → Prop} {h h_all h_has h_line h_act h_pile h_comes h_leaves h_tried h_met : Nat} {f_size f_next f_where f_token f_number f_sign f_word f_wrong f_open f_lines f_acts : Int32} {Q : Int32 → (Nat → Int32) → Prop} {K_39 : Int32 → Int32 → Int32 → (Nat → Int32) → Prop} (hC : Cx p s m args meth c cX11_does (some .boolean) 5 GW RX11) (hK : va_K (dC, dI) vwCl (tysA cI cZ cO cW) s) (hA : ∀ q : Nat, s.heap.size ≤ q → A q) (hk_39 : ∀ (x1 : Int32) (x3 : Int32) (x4 : Int32) (r_all : (Nat → Int32)) (H : Heap) (locs : List Loc) (ls : Array Slot), K_39 x1 x3 x4 r_all → va_P (dC, dI) vwCl (vX11_does cI cZ h h_all h_has h_line h_act h_pile h_comes h_leaves h_tried h_met f_size f_next f_where f_token f_number f_sign f_word f_wrong f_open f_lines f_acts r_all) H → va_D A (vX11_does cI cZ h h_all h_has h_line h_act h_pile h_comes h_leaves h_tried h_met f_size f_next f_where f_token f_number f_sign f_word f_wrong f_open f_lines f_acts r_all) → va_S A s.heap H locs → lv_has ls 5 [(0, .ref h), (1, .int x1), (3, .int x3), (4, .int x4)] → W p l e rmX11_does s m args below meth c H locs 0 0 (MQ below (qX11_does dC dI cI cZ cO cW h h_all h_has h_line h_act h_pile h_comes h_leaves h_tried h_met f_size f_next f_where f_token f_number f_sign f_word f_wrong f_open f_lines f_acts Q A) args s 0 0 A) (F0 m 39 ls [])) :
    ∀ (x1 : Int32) (x3 : Int32) (x4 : Int32) (r_all : (Nat → Int32)) (H : Heap) (locs : List Loc) (ls : Array Slot), wX11_does_64 Q K_39 x1 x3 x4 r_all → va_P (dC, dI) vwCl (vX11_does cI cZ h h_all h_has h_line h_act h_pile h_comes h_leaves h_tried h_met f_size f_next f_where f_token f_number f_sign f_word f_wrong f_open f_lines f_acts r_all) H → va_D A (vX11_does cI cZ h h_all h_has h_line h_act h_pile h_comes h_leaves h_tried h_met f_size f_next f_where f_token f_number f_sign f_word f_wrong f_open f_lines f_acts r_all) → va_S A s.heap H locs → lv_has ls 5 [(0, .ref h), (1, .int x1), (3, .int x3), (4, .int x4)] → W p l e rmX11_does s m args below meth c H locs 0 0 (MQ below (qX11_does dC dI cI cZ cO cW h h_all h_has h_line h_act h_pile h_comes h_leaves h_tried h_met f_size f_next f_where f_token f_number f_sign f_word f_wrong f_open f_lines f_acts Q A) args s 0 0 A) (F0 m 64 ls []) := by
  obtain ⟨hx, hb, hr, hml, hown, hts, hlocks⟩ := id hC
  intro x1 x3 x4 r_all H locs ls hw hP hD hS hl
  refine lv_iinc (v := (x4 + (1 : Int32))) (lv' := [(4, .int (x4 + (1 : Int32))), (0, .ref h), (1, .int x1), (3, .int x3)]) hx hb dX11_does_64 hl (k := 3) rfl rfl (by decide) rfl (fun ls hl => ?_)
  refine lv_goto (tgt := 39) hx hb dX11_does_67 (by decide) ?_
  exact hk_39 x1 x3 (x4 + (1 : Int32)) r_all _ _ ls hw (hP.sub [0, 1] rfl) (hD.sub [0, 1] (by decide) rfl) hS (lv_sub hl [1, 2, 3, 0] rfl)
set_option maxHeartbeats 4000000 in
set_option maxRecDepth 100000 in
theorem tX11_does_39 {p : Program} {l : Launch} {e : Env} {s : State} {m : MethodId} {args : Array Value} {below : List Frame} {meth : Method} {c : Code} {dC : Nat → ClassId} {dI : Nat → Nat → Nat} {cI cZ cO cW : ClassId} {A : Nat → Prop} {h h_all h_has h_line h_act h_pile h_comes h_leaves h_tried h_met : Nat} {f_size f_next f_where f_token f_number f_sign f_word f_wrong f_open f_lines f_acts : Int32} {Q : Int32 → (Nat → Int32) → Prop}  (hC : Cx p s m args meth c cX11_does (some .boolean) 5 GW RX11) (hK : va_K (dC, dI) vwCl (tysA cI cZ cO cW) s) (hA : ∀ q : Nat, s.heap.size ≤ q → A q) :
    ∀ (n : Nat) (x1 : Int32) (x3 : Int32) (x4 : Int32) (r_all : (Nat → Int32)) (H : Heap) (locs : List Loc) (ls : Array Slot), wX11_does_39 Q  n x1 x3 x4 r_all → va_P (dC, dI) vwCl (vX11_does cI cZ h h_all h_has h_line h_act h_pile h_comes h_leaves h_tried h_met f_size f_next f_where f_token f_number f_sign f_word f_wrong f_open f_lines f_acts r_all) H → va_D A (vX11_does cI cZ h h_all h_has h_line h_act h_pile h_comes h_leaves h_tried h_met f_size f_next f_where f_token f_number f_sign f_word f_wrong f_open f_lines f_acts r_all) → va_S A s.heap H locs → lv_has ls 5 [(0, .ref h), (1, .int x1), (3, .int x3), (4, .int x4)] → W p l e rmX11_does s m args below meth c H locs 0 0 (MQ below (qX11_does dC dI cI cZ cO cW h h_all h_has h_line h_act h_pile h_comes h_leaves h_tried h_met f_size f_next f_where f_token f_number f_sign f_word f_wrong f_open f_lines f_acts Q A) args s 0 0 A) (F0 m 39 ls []) := by
  obtain ⟨hx, hb, hr, hml, hown, hts, hlocks⟩ := id hC
  intro n
  induction n with
  | zero =>
    intro  x1 x3 x4 r_all H locs ls hw
    exact hw.elim
  | succ n ih =>
    intro  x1 x3 x4 r_all H locs ls hw hP hD hS hl
    refine lv_iload hx hb dX11_does_39 (lv_at hl 3 rfl) ?_
    refine lv_aload_n hx hb dX11_does_41 rfl (lv_at hl 0 rfl) ?_
    refine va_get (D := (dC, dI)) (ci := 10) (v := .ref h_all) (C := RX11) (T := TX11) (N := 20) hx hb hts gu_X11 hown hK hP 0 rfl rfl 0 (by decide) (hts _ gw_607) (fun _ h9 => h9) rfl dX11_does_42 ?_
    refine lv_iconst (v := (2 : Int32)) hx hb dX11_does_45 (by decide) ?_
    obtain ⟨h_1, hw⟩ := hw
    refine va_iald hx hb hK hP 1 0 rfl rfl h_1 dX11_does_46 ?_
    refine lv_icmp_ge (tgt := 70) hx hb dX11_does_47 (by decide) (fun c_2 => ?_) (fun c_2 => ?_)
    · have hw := hw.1 c_2
      refine lv_iconst (v := (1 : Int32)) hx hb dX11_does_70 (by decide) ?_
      have hP9 := hP.sub (ws' := (vX11_does cI cZ h h_all h_has h_line h_act h_pile h_comes h_leaves h_tried h_met f_size f_next f_where f_token f_number f_sign f_word f_wrong f_open f_lines f_acts r_all)) [0, 1] rfl
      have hD9 := hD.sub (ws' := (vX11_does cI cZ h h_all h_has h_line h_act h_pile h_comes h_leaves h_tried h_met f_size f_next f_where f_token f_number f_sign f_word f_wrong f_open f_lines f_acts r_all)) [0, 1] (by decide) rfl
      exact W.zret (v := (1 : Int32)) (ty := .boolean) hx hb hr rfl (fun t ht hW => ⟨⟨(1 : Int32), r_all, rfl, hw, by rw [ht]; exact hP9, va_K.moved hW.alike hK, hD9⟩, hS.F ht⟩) hS.2.2 dX11_does_71
    · have hw := hw.2 c_2
      refine lv_iload hx hb dX11_does_50 (lv_at hl 3 rfl) ?_
      refine lv_iload_n hx hb dX11_does_52 rfl (lv_at hl 1 rfl) ?_
      refine lv_icmp_eq (tgt := 64) hx hb dX11_does_53 (by decide) (fun c_3 => ?_) (fun c_3 => ?_)
      · have hw := hw.1 c_3
        exact tX11_does_64 hC hK hA ih x1 x3 x4 r_all _ _ ls hw (hP.sub [0, 1] rfl) (hD.sub [0, 1] (by decide) rfl) hS (lv_sub hl [0, 1, 2, 3] rfl)
      · have hw := hw.2 c_3
        refine lv_aload_n hx hb dX11_does_56 rfl (lv_at hl 0 rfl) ?_
        refine lv_iload hx hb dX11_does_57 (lv_at hl 3 rfl) ?_
        refine lv_iconst (v := (4 : Int32)) hx hb dX11_does_59 (by decide) ?_
        refine lv_iload_n hx hb dX11_does_60 rfl (lv_at hl 2 rfl) ?_
        have hPc := hP.sub (ws' := [(h, .inr (10, [.ref h_all, .ref h_has, .int f_size, .int f_next, .int f_where, .int f_token, .int f_number, .int f_sign, .int f_word, .int f_wrong, .int f_open, .int f_lines, .int f_acts, .ref h_line, .ref h_act, .ref h_pile, .ref h_comes, .ref h_leaves, .ref h_tried, .ref h_met])), (h_all, .inl (cI, 53700, .inl r_all))]) [0, 1] rfl
        have hDc := hD.sub (ws' := [(h, .inr (10, [.ref h_all, .ref h_has, .int f_size, .int f_next, .int f_where, .int f_token, .int f_number, .int f_sign, .int f_word, .int f_wrong, .int f_open, .int f_lines, .int f_acts, .ref h_line, .ref h_act, .ref h_pile, .ref h_comes, .ref h_leaves, .ref h_tried, .ref h_met])), (h_all, .inl (cI, 53700, .inl r_all))]) [0, 1] (by decide) rfl
        have hFc := va_free (wc := [(h, .inr (10, [.ref h_all, .ref h_has, .int f_size, .int f_next, .int f_where, .int f_token, .int f_number, .int f_sign, .int f_word, .int f_wrong, .int f_open, .int f_lines, .int f_acts, .ref h_line, .ref h_act, .ref h_pile, .ref h_comes, .ref h_leaves, .ref h_tried, .ref h_met])), (h_all, .inl (cI, 53700, .inl r_all))]) hD hS hA [0, 1] rfl
        refine va_callv (va_runV (As := [.int x4, .int (4 : Int32), .int x3]) (rest := []) ⟨hx, hb, hml, hown, hts⟩ (kX11_ships l dC dI cI cZ cO cW h h_all h_has h_line h_act h_pile h_comes h_leaves h_tried h_met H.size f_size f_next f_where f_token f_number f_sign f_word f_wrong f_open f_lines f_acts r_all x4 (4 : Int32) x3 _ hw) (cwV 3 hts (gV gw_655 gw_656 gw_657 gw_622 (gM gw_638)) rfl rfl rfl (by decide +kernel) ⟨Nat.le_of_ble_eq_true rfl, Nat.le_of_ble_eq_true rfl⟩) (pv_of hPc hK hDc (va_recv hK hPc (ci := 10) (q0 := 0) rfl rfl)) rfl rfl hl.1 rfl (lv_room (Nat.le_of_ble_eq_true rfl)) dX11_does_61 ⟨Nat.zero_le _, Nat.zero_le _⟩) hS (fun q _ h => hFc q h) hFc (fun u t H locs ht hvm hw hB hz1 hk1 hS => ?_)
        obtain ⟨r_all_4, rfl⟩ : ∃ z, z = u := ⟨_, rfl⟩
        obtain ⟨hP, hD⟩ := af_join (wr := []) (w1 := [(h, .inr (10, [.ref h_all, .ref h_has, .int f_size, .int f_next, .int f_where, .int f_token, .int f_number, .int f_sign, .int f_word, .int f_wrong, .int f_open, .int f_lines, .int f_acts, .ref h_line, .ref h_act, .ref h_pile, .ref h_comes, .ref h_leaves, .ref h_tried, .ref h_met])), (h_all, .inl (cI, 53700, .inl r_all_4))]) hB ht hP hD [0, 1] [] rfl rfl (by decide) (by decide) hk1 hFc
        have hP : va_P (dC, dI) vwCl [(h, .inr (10, [.ref h_all, .ref h_has, .int f_size, .int f_next, .int f_where, .int f_token, .int f_number, .int f_sign, .int f_word, .int f_wrong, .int f_open, .int f_lines, .int f_acts, .ref h_line, .ref h_act, .ref h_pile, .ref h_comes, .ref h_leaves, .ref h_tried, .ref h_met])), (h_all, .inl (cI, 53700, .inl r_all_4))] _ := hP
        have hD : va_D A [(h, .inr (10, [.ref h_all, .ref h_has, .int f_size, .int f_next, .int f_where, .int f_token, .int f_number, .int f_sign, .int f_word, .int f_wrong, .int f_open, .int f_lines, .int f_acts, .ref h_line, .ref h_act, .ref h_pile, .ref h_comes, .ref h_leaves, .ref h_tried, .ref h_met])), (h_all, .inl (cI, 53700, .inl r_all_4))] := hD
        exact tX11_does_64 hC hK hA ih x1 x3 x4 r_all_4 _ _ ls hw (hP.sub [0, 1] rfl) (hD.sub [0, 1] (by decide) rfl) hS (lv_sub hl [0, 1, 2, 3] rfl)
set_option maxHeartbeats 4000000 in
set_option maxRecDepth 100000 in
theorem tX11_does_e {p : Program} {l : Launch} {e : Env} {s : State} {m : MethodId} {args : Array Value} {below : List Frame} {meth : Method} {c : Code} {dC : Nat → ClassId} {dI : Nat → Nat → Nat} {cI cZ cO cW : ClassId} {A : Nat → Prop} {h h_all h_has h_line h_act h_pile h_comes h_leaves h_tried h_met : Nat} {f_size f_next f_where f_token f_number f_sign f_word f_wrong f_open f_lines f_acts : Int32} {Q : Int32 → (Nat → Int32) → Prop} (hC : Cx p s m args meth c cX11_does (some .boolean) 5 GW RX11) (hK : va_K (dC, dI) vwCl (tysA cI cZ cO cW) s) (hA : ∀ q : Nat, s.heap.size ≤ q → A q) :
    ∀ (x1 : Int32) (x2 : Int32) (x3 : Int32) (r_all : Nat → Int32) (H : Heap) (locs : List Loc) (ls : Array Slot), wX11_does Q x1 x2 x3 r_all → va_P (dC, dI) vwCl (vX11_does cI cZ h h_all h_has h_line h_act h_pile h_comes h_leaves h_tried h_met f_size f_next f_where f_token f_number f_sign f_word f_wrong f_open f_lines f_acts r_all) H → va_D A (vX11_does cI cZ h h_all h_has h_line h_act h_pile h_comes h_leaves h_tried h_met f_size f_next f_where f_token f_number f_sign f_word f_wrong f_open f_lines f_acts r_all) → va_S A s.heap H locs → lv_has ls 5 [(0, .ref h), (1, .int x1), (2, .int x2), (3, .int x3)] → W p l e rmX11_does s m args below meth c H locs 0 0 (MQ below (qX11_does dC dI cI cZ cO cW h h_all h_has h_line h_act h_pile h_comes h_leaves h_tried h_met f_size f_next f_where f_token f_number f_sign f_word f_wrong f_open f_lines f_acts Q A) args s 0 0 A) (F0 m 0 ls []) := by
  obtain ⟨hx, hb, hr, hml, hown, hts, hlocks⟩ := id hC
  intro x1 x2 x3 r_all H locs ls hw hP hD hS hl
  refine lv_iload_n hx hb dX11_does_0 rfl (lv_at hl 2 rfl) ?_
  refine lv_bipush (v := (24 : Int32)) hx hb dX11_does_1 (by decide) ?_
  refine lv_icmp_ne (tgt := 8) hx hb dX11_does_3 (by decide) (fun c_5 => ?_) (fun c_5 => ?_)
  · have hw := hw.1 c_5
    refine lv_iload_n hx hb dX11_does_8 rfl (lv_at hl 2 rfl) ?_
    refine lv_bipush (v := (25 : Int32)) hx hb dX11_does_9 (by decide) ?_
    refine lv_icmp_ne (tgt := 20) hx hb dX11_does_11 (by decide) (fun c_6 => ?_) (fun c_6 => ?_)
    · have hw := hw.1 c_6
      refine lv_iload_n hx hb dX11_does_20 rfl (lv_at hl 2 rfl) ?_
      refine lv_bipush (v := (26 : Int32)) hx hb dX11_does_21 (by decide) ?_
      refine lv_icmp_eq (tgt := 36) hx hb dX11_does_23 (by decide) (fun c_7 => ?_) (fun c_7 => ?_)
      · have hw := hw.1 c_7
        refine lv_iconst (v := (0 : Int32)) hx hb dX11_does_36 (by decide) ?_
        refine lv_istore (lv' := [(4, .int (0 : Int32)), (0, .ref h), (1, .int x1), (2, .int x2), (3, .int x3)]) hx hb dX11_does_37 hl (by decide) rfl (fun ls hl => ?_)
        obtain ⟨n_8, hw⟩ := hw
        exact tX11_does_39 hC hK hA  n_8 x1 x3 (0 : Int32) r_all _ _ ls hw (hP.sub [0, 1] rfl) (hD.sub [0, 1] (by decide) rfl) hS (lv_sub hl [1, 2, 4, 0] rfl)
      · have hw := hw.2 c_7
        refine lv_aload_n hx hb dX11_does_26 rfl (lv_at hl 0 rfl) ?_
        refine lv_iload_n hx hb dX11_does_27 rfl (lv_at hl 1 rfl) ?_
        refine lv_iload_n hx hb dX11_does_28 rfl (lv_at hl 2 rfl) ?_
        refine lv_bipush (v := (8 : Int32)) hx hb dX11_does_29 (by decide) ?_
        refine lv_isub hx hb dX11_does_31 ?_
        have hPc := hP.sub (ws' := [(h, .inr (10, [.ref h_all, .ref h_has, .int f_size, .int f_next, .int f_where, .int f_token, .int f_number, .int f_sign, .int f_word, .int f_wrong, .int f_open, .int f_lines, .int f_acts, .ref h_line, .ref h_act, .ref h_pile, .ref h_comes, .ref h_leaves, .ref h_tried, .ref h_met])), (h_all, .inl (cI, 53700, .inl r_all))]) [0, 1] rfl
        have hDc := hD.sub (ws' := [(h, .inr (10, [.ref h_all, .ref h_has, .int f_size, .int f_next, .int f_where, .int f_token, .int f_number, .int f_sign, .int f_word, .int f_wrong, .int f_open, .int f_lines, .int f_acts, .ref h_line, .ref h_act, .ref h_pile, .ref h_comes, .ref h_leaves, .ref h_tried, .ref h_met])), (h_all, .inl (cI, 53700, .inl r_all))]) [0, 1] (by decide) rfl
        have hFc := va_free (wc := [(h, .inr (10, [.ref h_all, .ref h_has, .int f_size, .int f_next, .int f_where, .int f_token, .int f_number, .int f_sign, .int f_word, .int f_wrong, .int f_open, .int f_lines, .int f_acts, .ref h_line, .ref h_act, .ref h_pile, .ref h_comes, .ref h_leaves, .ref h_tried, .ref h_met])), (h_all, .inl (cI, 53700, .inl r_all))]) hD hS hA [0, 1] rfl
        refine va_calli (va_runV (As := [.int x1, .int (x2 - (8 : Int32))]) (rest := []) ⟨hx, hb, hml, hown, hts⟩ (kX11_goes l dC dI cI cZ cO cW h h_all h_has h_line h_act h_pile h_comes h_leaves h_tried h_met H.size f_size f_next f_where f_token f_number f_sign f_word f_wrong f_open f_lines f_acts r_all x1 (x2 - (8 : Int32)) _ hw) (cwV 2 hts (gV gw_794 gw_795 gw_796 gw_622 (gM gw_789)) rfl rfl rfl (by decide +kernel) ⟨Nat.le_of_ble_eq_true rfl, Nat.le_of_ble_eq_true rfl⟩) (pv_of hPc hK hDc (va_recv hK hPc (ci := 10) (q0 := 0) rfl rfl)) rfl rfl hl.1 rfl (lv_room (Nat.le_of_ble_eq_true rfl)) dX11_does_32 ⟨Nat.zero_le _, Nat.zero_le _⟩) hS (fun q _ h => hFc q h) hFc (fun r_10 u t H locs ht hvm hw hB hz1 hk1 hS => ?_)
        obtain ⟨r_all_9, rfl⟩ : ∃ z, z = u := ⟨_, rfl⟩
        obtain ⟨hP, hD⟩ := af_join (wr := []) (w1 := [(h, .inr (10, [.ref h_all, .ref h_has, .int f_size, .int f_next, .int f_where, .int f_token, .int f_number, .int f_sign, .int f_word, .int f_wrong, .int f_open, .int f_lines, .int f_acts, .ref h_line, .ref h_act, .ref h_pile, .ref h_comes, .ref h_leaves, .ref h_tried, .ref h_met])), (h_all, .inl (cI, 53700, .inl r_all_9))]) hB ht hP hD [0, 1] [] rfl rfl (by decide) (by decide) hk1 hFc
        have hP : va_P (dC, dI) vwCl [(h, .inr (10, [.ref h_all, .ref h_has, .int f_size, .int f_next, .int f_where, .int f_token, .int f_number, .int f_sign, .int f_word, .int f_wrong, .int f_open, .int f_lines, .int f_acts, .ref h_line, .ref h_act, .ref h_pile, .ref h_comes, .ref h_leaves, .ref h_tried, .ref h_met])), (h_all, .inl (cI, 53700, .inl r_all_9))] _ := hP
        have hD : va_D A [(h, .inr (10, [.ref h_all, .ref h_has, .int f_size, .int f_next, .int f_where, .int f_token, .int f_number, .int f_sign, .int f_word, .int f_wrong, .int f_open, .int f_lines, .int f_acts, .ref h_line, .ref h_act, .ref h_pile, .ref h_comes, .ref h_leaves, .ref h_tried, .ref h_met])), (h_all, .inl (cI, 53700, .inl r_all_9))] := hD
        obtain ⟨h_11, hw⟩ := hw
        have hP9 := hP.sub (ws' := (vX11_does cI cZ h h_all h_has h_line h_act h_pile h_comes h_leaves h_tried h_met f_size f_next f_where f_token f_number f_sign f_word f_wrong f_open f_lines f_acts r_all_9)) [0, 1] rfl
        have hD9 := hD.sub (ws' := (vX11_does cI cZ h h_all h_has h_line h_act h_pile h_comes h_leaves h_tried h_met f_size f_next f_where f_token f_number f_sign f_word f_wrong f_open f_lines f_acts r_all_9)) [0, 1] (by decide) rfl
        exact W.zret (v := r_10) (ty := .boolean) hx hb hr h_11 (fun t ht hW => ⟨⟨r_10, r_all_9, rfl, hw, by rw [ht]; exact hP9, va_K.moved hW.alike hK, hD9⟩, hS.F ht⟩) hS.2.2 dX11_does_35
    · have hw := hw.2 c_6
      refine lv_aload_n hx hb dX11_does_14 rfl (lv_at hl 0 rfl) ?_
      refine lv_iload_n hx hb dX11_does_15 rfl (lv_at hl 1 rfl) ?_
      have hPc := hP.sub (ws' := [(h, .inr (10, [.ref h_all, .ref h_has, .int f_size, .int f_next, .int f_where, .int f_token, .int f_number, .int f_sign, .int f_word, .int f_wrong, .int f_open, .int f_lines, .int f_acts, .ref h_line, .ref h_act, .ref h_pile, .ref h_comes, .ref h_leaves, .ref h_tried, .ref h_met])), (h_all, .inl (cI, 53700, .inl r_all))]) [0, 1] rfl
      have hDc := hD.sub (ws' := [(h, .inr (10, [.ref h_all, .ref h_has, .int f_size, .int f_next, .int f_where, .int f_token, .int f_number, .int f_sign, .int f_word, .int f_wrong, .int f_open, .int f_lines, .int f_acts, .ref h_line, .ref h_act, .ref h_pile, .ref h_comes, .ref h_leaves, .ref h_tried, .ref h_met])), (h_all, .inl (cI, 53700, .inl r_all))]) [0, 1] (by decide) rfl
      have hFc := va_free (wc := [(h, .inr (10, [.ref h_all, .ref h_has, .int f_size, .int f_next, .int f_where, .int f_token, .int f_number, .int f_sign, .int f_word, .int f_wrong, .int f_open, .int f_lines, .int f_acts, .ref h_line, .ref h_act, .ref h_pile, .ref h_comes, .ref h_leaves, .ref h_tried, .ref h_met])), (h_all, .inl (cI, 53700, .inl r_all))]) hD hS hA [0, 1] rfl
      refine va_calli (va_runV (As := [.int x1]) (rest := []) ⟨hx, hb, hml, hown, hts⟩ (kX11_cuts l dC dI cI cZ cO cW h h_all h_has h_line h_act h_pile h_comes h_leaves h_tried h_met H.size f_size f_next f_where f_token f_number f_sign f_word f_wrong f_open f_lines f_acts r_all x1 _ hw) (cwV 1 hts (gV gw_791 gw_792 gw_793 gw_622 (gM gw_790)) rfl rfl rfl (by decide +kernel) ⟨Nat.le_of_ble_eq_true rfl, Nat.le_of_ble_eq_true rfl⟩) (pv_of hPc hK hDc (va_recv hK hPc (ci := 10) (q0 := 0) rfl rfl)) rfl rfl hl.1 rfl (lv_room (Nat.le_of_ble_eq_true rfl)) dX11_does_16 ⟨Nat.zero_le _, Nat.zero_le _⟩) hS (fun q _ h => hFc q h) hFc (fun r_13 u t H locs ht hvm hw hB hz1 hk1 hS => ?_)
      obtain ⟨r_all_12, rfl⟩ : ∃ z, z = u := ⟨_, rfl⟩
      obtain ⟨hP, hD⟩ := af_join (wr := []) (w1 := [(h, .inr (10, [.ref h_all, .ref h_has, .int f_size, .int f_next, .int f_where, .int f_token, .int f_number, .int f_sign, .int f_word, .int f_wrong, .int f_open, .int f_lines, .int f_acts, .ref h_line, .ref h_act, .ref h_pile, .ref h_comes, .ref h_leaves, .ref h_tried, .ref h_met])), (h_all, .inl (cI, 53700, .inl r_all_12))]) hB ht hP hD [0, 1] [] rfl rfl (by decide) (by decide) hk1 hFc
      have hP : va_P (dC, dI) vwCl [(h, .inr (10, [.ref h_all, .ref h_has, .int f_size, .int f_next, .int f_where, .int f_token, .int f_number, .int f_sign, .int f_word, .int f_wrong, .int f_open, .int f_lines, .int f_acts, .ref h_line, .ref h_act, .ref h_pile, .ref h_comes, .ref h_leaves, .ref h_tried, .ref h_met])), (h_all, .inl (cI, 53700, .inl r_all_12))] _ := hP
      have hD : va_D A [(h, .inr (10, [.ref h_all, .ref h_has, .int f_size, .int f_next, .int f_where, .int f_token, .int f_number, .int f_sign, .int f_word, .int f_wrong, .int f_open, .int f_lines, .int f_acts, .ref h_line, .ref h_act, .ref h_pile, .ref h_comes, .ref h_leaves, .ref h_tried, .ref h_met])), (h_all, .inl (cI, 53700, .inl r_all_12))] := hD
      obtain ⟨h_14, hw⟩ := hw
      have hP9 := hP.sub (ws' := (vX11_does cI cZ h h_all h_has h_line h_act h_pile h_comes h_leaves h_tried h_met f_size f_next f_where f_token f_number f_sign f_word f_wrong f_open f_lines f_acts r_all_12)) [0, 1] rfl
      have hD9 := hD.sub (ws' := (vX11_does cI cZ h h_all h_has h_line h_act h_pile h_comes h_leaves h_tried h_met f_size f_next f_where f_token f_number f_sign f_word f_wrong f_open f_lines f_acts r_all_12)) [0, 1] (by decide) rfl
      exact W.zret (v := r_13) (ty := .boolean) hx hb hr h_14 (fun t ht hW => ⟨⟨r_13, r_all_12, rfl, hw, by rw [ht]; exact hP9, va_K.moved hW.alike hK, hD9⟩, hS.F ht⟩) hS.2.2 dX11_does_19
  · have hw := hw.2 c_5
    refine lv_iconst (v := (1 : Int32)) hx hb dX11_does_6 (by decide) ?_
    have hP9 := hP.sub (ws' := (vX11_does cI cZ h h_all h_has h_line h_act h_pile h_comes h_leaves h_tried h_met f_size f_next f_where f_token f_number f_sign f_word f_wrong f_open f_lines f_acts r_all)) [0, 1] rfl
    have hD9 := hD.sub (ws' := (vX11_does cI cZ h h_all h_has h_line h_act h_pile h_comes h_leaves h_tried h_met f_size f_next f_where f_token f_number f_sign f_word f_wrong f_open f_lines f_acts r_all)) [0, 1] (by decide) rfl
    exact W.zret (v := (1 : Int32)) (ty := .boolean) hx hb hr rfl (fun t ht hW => ⟨⟨(1 : Int32), r_all, rfl, hw, by rw [ht]; exact hP9, va_K.moved hW.alike hK, hD9⟩, hS.F ht⟩) hS.2.2 dX11_does_7
set_option maxHeartbeats 4000000 in
set_option maxRecDepth 100000 in
theorem kX11_does (l : Launch) (dC : Nat → ClassId) (dI : Nat → Nat → Nat) (cI cZ cO cW : ClassId) (h h_all h_has h_line h_act h_pile h_comes h_leaves h_tried h_met : Nat)  (sz : Nat) (f_size : Int32) (f_next : Int32) (f_where : Int32) (f_token : Int32) (f_number : Int32) (f_sign : Int32) (f_word : Int32) (f_wrong : Int32) (f_open : Int32) (f_lines : Int32) (f_acts : Int32) (r_all : Nat → Int32) (x1 : Int32) (x2 : Int32) (x3 : Int32) (Q : Int32 → (Nat → Int32) → Prop) (hw : wX11_does Q x1 x2 x3 r_all) : Met l yX11_does zsX11_does rmX11_does (va_Pc [.ref h, .int x1, .int x2, .int x3] (fun U => U.heap.size = sz ∧ va_P (dC, dI) vwCl (vX11_does cI cZ h h_all h_has h_line h_act h_pile h_comes h_leaves h_tried h_met f_size f_next f_where f_token f_number f_sign f_word f_wrong f_open f_lines f_acts r_all) U.heap ∧ va_K (dC, dI) vwCl (tysA cI cZ cO cW) U ∧ va_D (fun _ => True) (vX11_does cI cZ h h_all h_has h_line h_act h_pile h_comes h_leaves h_tried h_met f_size f_next f_where f_token f_number f_sign f_word f_wrong f_open f_lines f_acts r_all))) (qX11_does dC dI cI cZ cO cW h h_all h_has h_line h_act h_pile h_comes h_leaves h_tried h_met f_size f_next f_where f_token f_number f_sign f_word f_wrong f_open f_lines f_acts Q (va_A (vX11_does cI cZ h h_all h_has h_line h_act h_pile h_comes h_leaves h_tried h_met f_size f_next f_where f_token f_number f_sign f_word f_wrong f_open f_lines f_acts r_all) sz)) 0 0 (va_A (vX11_does cI cZ h h_all h_has h_line h_act h_pile h_comes h_leaves h_tried h_met f_size f_next f_where f_token f_number f_sign f_word f_wrong f_open f_lines f_acts r_all) sz) := by
  refine Met.ofW (cc := cX11_does) (maxL := 5) (ret := (some .boolean)) (by decide) rfl ?_
  intro p e s m args below meth c s₁ B hml hv
  obtain ⟨rfl, hsz, hP, hK, hD0⟩ := hv
  subst hsz
  have hC : Cx p s m ([.ref h, .int x1, .int x2, .int x3] : List Value).toArray meth c cX11_does (some .boolean) 5 GW RX11 := ⟨B.exec, B.bytes, B.returns, hml, findClass_of_methodNamed B.named, fun w h => atoms_spec (ws := zsX11_does) B.pre w (List.mem_cons_of_mem _ h), B.notSynchronized⟩
  have hD := hD0.self (sz := s.heap.size)
  generalize hAe : va_A (vX11_does cI cZ h h_all h_has h_line h_act h_pile h_comes h_leaves h_tried h_met f_size f_next f_where f_token f_number f_sign f_word f_wrong f_open f_lines f_acts r_all) s.heap.size = A at hD ⊢
  have hA : ∀ q : Nat, s.heap.size ≤ q → A q := fun q h => by rw [← hAe]; exact Or.inr h
  have hl := lv_entry ([.ref h, .int x1, .int x2, .int x3]) (n := 5) (Nat.le_of_ble_eq_true rfl)
  rw [lg_entry_eq]
  generalize (lg_sl ([.ref h, .int x1, .int x2, .int x3]) ++ List.replicate (5 - (lg_sl ([.ref h, .int x1, .int x2, .int x3])).length) Slot.unset).toArray = ls at hl ⊢
  exact tX11_does_e hC hK hA x1 x2 x3 r_all _ _ ls hw hP hD va_S.rf hl

/-! X11_obeys -/
def wX11_obeys_104 (Q : (Nat → Int32) → (Nat → Int32) → Prop)   (s1 : Int32) (s2 : Int32) (s3 : Int32) (r_all : (Nat → Int32)) (r_pile : (Nat → Int32)) : Prop :=
  (wX11_ships (fun r_all_1 => (Q r_all_1 r_pile)) s1 s2 s3 r_all)
def wX11_obeys_18 (Q : (Nat → Int32) → (Nat → Int32) → Prop)   : Nat → Int32 → Int32 → (Nat → Int32) → (Nat → Int32) → Prop
  | 0, _, _, _, _ => False
  | n + 1, x1, x2, r_all, r_pile => (wX11_its (fun r_2 => ((r_2 ≤ x2 → (Q r_all r_pile)) ∧ (¬ r_2 ≤ x2 → (wX11_holds (fun r_5 r_pile_4 => ((¬ r_5 = 0 → (wX11_ships (fun r_all_7 => (vp_in ((((3460 : Int32) + ((80 : Int32) * x1)) + ((4 : Int32) * x2)) + (2 : Int32)) 53700 ∧ (vp_in ((((3460 : Int32) + ((80 : Int32) * x1)) + ((4 : Int32) * x2)) + (3 : Int32)) 53700 ∧ (wX11_does (fun r_11 r_all_10 => ((r_11 = 0 → (wX11_obeys_104 Q x1 (7 : Int32) (0 : Int32) r_all_10 r_pile_4)) ∧ (¬ r_11 = 0 → (wX11_obeys_104 Q x1 (7 : Int32) (1 : Int32) r_all_10 r_pile_4)))) x1 (r_all_7 ((((3460 : Int32) + ((80 : Int32) * x1)) + ((4 : Int32) * x2)) + (2 : Int32)).toNatClampNeg) (r_all_7 ((((3460 : Int32) + ((80 : Int32) * x1)) + ((4 : Int32) * x2)) + (3 : Int32)).toNatClampNeg) r_all_7)))) x1 (6 : Int32) x2 r_all)) ∧ (r_5 = 0 → (wX11_obeys_18 Q n x1 (x2 + (1 : Int32)) r_all r_pile_4)))) x1 x2 r_all r_pile)))) x1 (8 : Int32) r_all)
def wX11_obeys (Q : (Nat → Int32) → (Nat → Int32) → Prop) (x1 : Int32) (r_all : Nat → Int32) (r_pile : Nat → Int32) : Prop :=
  (wX11_ships (fun r_all_13 => (wX11_ships (fun r_all_14 => (∃ j_, wX11_obeys_18 Q j_ x1 (0 : Int32) r_all_14 r_pile)) x1 (7 : Int32) (0 : Int32) r_all_13)) x1 (6 : Int32) (-1 : Int32) r_all)
abbrev vX11_obeys (cI cZ : ClassId) (h h_all h_has h_line h_act h_pile h_comes h_leaves h_tried h_met : Nat) (f_size : Int32) (f_next : Int32) (f_where : Int32) (f_token : Int32) (f_number : Int32) (f_sign : Int32) (f_word : Int32) (f_wrong : Int32) (f_open : Int32) (f_lines : Int32) (f_acts : Int32) (r_all : Nat → Int32) (r_pile : Nat → Int32) : va_W := [(h, .inr (10, [.ref h_all, .ref h_has, .int f_size, .int f_next, .int f_where, .int f_token, .int f_number, .int f_sign, .int f_word, .int f_wrong, .int f_open, .int f_lines, .int f_acts, .ref h_line, .ref h_act, .ref h_pile, .ref h_comes, .ref h_leaves, .ref h_tried, .ref h_met])), (h_all, .inl (cI, 53700, .inl r_all)), (h_pile, .inl (cZ, 300, .inl r_pile))]
abbrev rmX11_obeys : Room := { frames := 6, cells := 0, slots := 0, locals := 144 }
abbrev qX11_obeys (dC : Nat → ClassId) (dI : Nat → Nat → Nat) (cI cZ cO cW : ClassId) (h h_all h_has h_line h_act h_pile h_comes h_leaves h_tried h_met : Nat) (f_size : Int32) (f_next : Int32) (f_where : Int32) (f_token : Int32) (f_number : Int32) (f_sign : Int32) (f_word : Int32) (f_wrong : Int32) (f_open : Int32) (f_lines : Int32) (f_acts : Int32) (Q : (Nat → Int32) → (Nat → Int32) → Prop) (A : Nat → Prop) : Array Value → State → Outcome → State → Prop := va_Qv (fun (u : (Nat → Int32) × (Nat → Int32)) => Q u.1 u.2) (fun (u : (Nat → Int32) × (Nat → Int32)) (t : State) => va_P (dC, dI) vwCl (vX11_obeys cI cZ h h_all h_has h_line h_act h_pile h_comes h_leaves h_tried h_met f_size f_next f_where f_token f_number f_sign f_word f_wrong f_open f_lines f_acts u.1 u.2) t.heap ∧ va_K (dC, dI) vwCl (tysA cI cZ cO cW) t ∧ va_D A (vX11_obeys cI cZ h h_all h_has h_line h_act h_pile h_comes h_leaves h_tried h_met f_size f_next f_where f_token f_number f_sign f_word f_wrong f_open f_lines f_acts u.1 u.2)) A
def zsX11_obeys : List Cond := Cond.code yX11_obeys cX11_obeys 3 none :: GW
set_option maxHeartbeats 4000000 in
set_option maxRecDepth 100000 in
theorem tX11_obeys_104 {p : Program} {l : Launch} {e : Env} {s : State} {m : MethodId} {args : Array Value} {below : List Frame} {meth : Method} {c : Code} {dC : Nat → ClassId} {dI : Nat → Nat → Nat} {cI cZ cO cW : ClassId} {A : Nat → Prop} {h h_all h_has h_line h_act h_pile h_comes h_leaves h_tried h_met : Nat} {f_size f_next f_where f_token f_number f_sign f_word f_wrong f_open f_lines f_acts : Int32} {Q : (Nat → Int32) → (Nat → Int32) → Prop}  (hC : Cx p s m args meth c cX11_obeys none 3 GW RX11) (hK : va_K (dC, dI) vwCl (tysA cI cZ cO cW) s) (hA : ∀ q : Nat, s.heap.size ≤ q → A q) :
    ∀ (s1 : Int32) (s2 : Int32) (s3 : Int32) (r_all : (Nat → Int32)) (r_pile : (Nat → Int32)) (H : Heap) (locs : List Loc) (ls : Array Slot), wX11_obeys_104 Q  s1 s2 s3 r_all r_pile → va_P (dC, dI) vwCl (vX11_obeys cI cZ h h_all h_has h_line h_act h_pile h_comes h_leaves h_tried h_met f_size f_next f_where f_token f_number f_sign f_word f_wrong f_open f_lines f_acts r_all r_pile) H → va_D A (vX11_obeys cI cZ h h_all h_has h_line h_act h_pile h_comes h_leaves h_tried h_met f_size f_next f_where f_token f_number f_sign f_word f_wrong f_open f_lines f_acts r_all r_pile) → va_S A s.heap H locs → lv_has ls 3 [] → W p l e rmX11_obeys s m args below meth c H locs 0 0 (MQ below (qX11_obeys dC dI cI cZ cO cW h h_all h_has h_line h_act h_pile h_comes h_leaves h_tried h_met f_size f_next f_where f_token f_number f_sign f_word f_wrong f_open f_lines f_acts Q A) args s 0 0 A) (F0 m 104 ls [.int s3, .int s2, .int s1, .ref h]) := by
  obtain ⟨hx, hb, hr, hml, hown, hts, hlocks⟩ := id hC
  intro s1 s2 s3 r_all r_pile H locs ls hw hP hD hS hl
  have hPc := hP.sub (ws' := [(h, .inr (10, [.ref h_all, .ref h_has, .int f_size, .int f_next, .int f_where, .int f_token, .int f_number, .int f_sign, .int f_word, .int f_wrong, .int f_open, .int f_lines, .int f_acts, .ref h_line, .ref h_act, .ref h_pile, .ref h_comes, .ref h_leaves, .ref h_tried, .ref h_met])), (h_all, .inl (cI, 53700, .inl r_all))]) [0, 1] rfl
  have hDc := hD.sub (ws' := [(h, .inr (10, [.ref h_all, .ref h_has, .int f_size, .int f_next, .int f_where, .int f_token, .int f_number, .int f_sign, .int f_word, .int f_wrong, .int f_open, .int f_lines, .int f_acts, .ref h_line, .ref h_act, .ref h_pile, .ref h_comes, .ref h_leaves, .ref h_tried, .ref h_met])), (h_all, .inl (cI, 53700, .inl r_all))]) [0, 1] (by decide) rfl
  have hFc := va_free (wc := [(h, .inr (10, [.ref h_all, .ref h_has, .int f_size, .int f_next, .int f_where, .int f_token, .int f_number, .int f_sign, .int f_word, .int f_wrong, .int f_open, .int f_lines, .int f_acts, .ref h_line, .ref h_act, .ref h_pile, .ref h_comes, .ref h_leaves, .ref h_tried, .ref h_met])), (h_all, .inl (cI, 53700, .inl r_all))]) hD hS hA [0, 1] rfl
  refine va_callv (va_runV (As := [.int s1, .int s2, .int s3]) (rest := []) ⟨hx, hb, hml, hown, hts⟩ (kX11_ships l dC dI cI cZ cO cW h h_all h_has h_line h_act h_pile h_comes h_leaves h_tried h_met H.size f_size f_next f_where f_token f_number f_sign f_word f_wrong f_open f_lines f_acts r_all s1 s2 s3 _ hw) (cwV 3 hts (gV gw_655 gw_656 gw_657 gw_622 (gM gw_638)) rfl rfl rfl (by decide +kernel) ⟨Nat.le_of_ble_eq_true rfl, Nat.le_of_ble_eq_true rfl⟩) (pv_of hPc hK hDc (va_recv hK hPc (ci := 10) (q0 := 0) rfl rfl)) rfl rfl hl.1 rfl (lv_room (Nat.le_of_ble_eq_true rfl)) dX11_obeys_104 ⟨Nat.zero_le _, Nat.zero_le _⟩) hS (fun q _ h => hFc q h) hFc (fun u t H locs ht hvm hw hB hz1 hk1 hS => ?_)
  obtain ⟨r_all_1, rfl⟩ : ∃ z, z = u := ⟨_, rfl⟩
  obtain ⟨hP, hD⟩ := af_join (wr := [(h_pile, .inl (cZ, 300, .inl r_pile))]) (w1 := [(h, .inr (10, [.ref h_all, .ref h_has, .int f_size, .int f_next, .int f_where, .int f_token, .int f_number, .int f_sign, .int f_word, .int f_wrong, .int f_open, .int f_lines, .int f_acts, .ref h_line, .ref h_act, .ref h_pile, .ref h_comes, .ref h_leaves, .ref h_tried, .ref h_met])), (h_all, .inl (cI, 53700, .inl r_all_1))]) hB ht hP hD [0, 1] [2] rfl rfl (by decide) (by decide) hk1 hFc
  have hP : va_P (dC, dI) vwCl [(h_pile, .inl (cZ, 300, .inl r_pile)), (h, .inr (10, [.ref h_all, .ref h_has, .int f_size, .int f_next, .int f_where, .int f_token, .int f_number, .int f_sign, .int f_word, .int f_wrong, .int f_open, .int f_lines, .int f_acts, .ref h_line, .ref h_act, .ref h_pile, .ref h_comes, .ref h_leaves, .ref h_tried, .ref h_met])), (h_all, .inl (cI, 53700, .inl r_all_1))] _ := hP
  have hD : va_D A [(h_pile, .inl (cZ, 300, .inl r_pile)), (h, .inr (10, [.ref h_all, .ref h_has, .int f_size, .int f_next, .int f_where, .int f_token, .int f_number, .int f_sign, .int f_word, .int f_wrong, .int f_open, .int f_lines, .int f_acts, .ref h_line, .ref h_act, .ref h_pile, .ref h_comes, .ref h_leaves, .ref h_tried, .ref h_met])), (h_all, .inl (cI, 53700, .inl r_all_1))] := hD
  have hP9 := hP.sub (ws' := (vX11_obeys cI cZ h h_all h_has h_line h_act h_pile h_comes h_leaves h_tried h_met f_size f_next f_where f_token f_number f_sign f_word f_wrong f_open f_lines f_acts r_all_1 r_pile)) [1, 2, 0] rfl
  have hD9 := hD.sub (ws' := (vX11_obeys cI cZ h h_all h_has h_line h_act h_pile h_comes h_leaves h_tried h_met f_size f_next f_where f_token f_number f_sign f_word f_wrong f_open f_lines f_acts r_all_1 r_pile)) [1, 2, 0] (by decide) rfl
  exact W.vret hx hb hr (fun t ht hW => ⟨⟨(r_all_1, r_pile), rfl, hw, by rw [ht]; exact hP9, va_K.moved hW.alike hK, hD9⟩, hS.F ht⟩) hS.2.2 dX11_obeys_107
set_option maxHeartbeats 4000000 in
set_option maxRecDepth 100000 in
theorem tX11_obeys_18 {p : Program} {l : Launch} {e : Env} {s : State} {m : MethodId} {args : Array Value} {below : List Frame} {meth : Method} {c : Code} {dC : Nat → ClassId} {dI : Nat → Nat → Nat} {cI cZ cO cW : ClassId} {A : Nat → Prop} {h h_all h_has h_line h_act h_pile h_comes h_leaves h_tried h_met : Nat} {f_size f_next f_where f_token f_number f_sign f_word f_wrong f_open f_lines f_acts : Int32} {Q : (Nat → Int32) → (Nat → Int32) → Prop}  (hC : Cx p s m args meth c cX11_obeys none 3 GW RX11) (hK : va_K (dC, dI) vwCl (tysA cI cZ cO cW) s) (hA : ∀ q : Nat, s.heap.size ≤ q → A q) :
    ∀ (n : Nat) (x1 : Int32) (x2 : Int32) (r_all : (Nat → Int32)) (r_pile : (Nat → Int32)) (H : Heap) (locs : List Loc) (ls : Array Slot), wX11_obeys_18 Q  n x1 x2 r_all r_pile → va_P (dC, dI) vwCl (vX11_obeys cI cZ h h_all h_has h_line h_act h_pile h_comes h_leaves h_tried h_met f_size f_next f_where f_token f_number f_sign f_word f_wrong f_open f_lines f_acts r_all r_pile) H → va_D A (vX11_obeys cI cZ h h_all h_has h_line h_act h_pile h_comes h_leaves h_tried h_met f_size f_next f_where f_token f_number f_sign f_word f_wrong f_open f_lines f_acts r_all r_pile) → va_S A s.heap H locs → lv_has ls 3 [(0, .ref h), (1, .int x1), (2, .int x2)] → W p l e rmX11_obeys s m args below meth c H locs 0 0 (MQ below (qX11_obeys dC dI cI cZ cO cW h h_all h_has h_line h_act h_pile h_comes h_leaves h_tried h_met f_size f_next f_where f_token f_number f_sign f_word f_wrong f_open f_lines f_acts Q A) args s 0 0 A) (F0 m 18 ls []) := by
  obtain ⟨hx, hb, hr, hml, hown, hts, hlocks⟩ := id hC
  intro n
  induction n with
  | zero =>
    intro  x1 x2 r_all r_pile H locs ls hw
    exact hw.elim
  | succ n ih =>
    intro  x1 x2 r_all r_pile H locs ls hw hP hD hS hl
    refine lv_iload_n hx hb dX11_obeys_18 rfl (lv_at hl 2 rfl) ?_
    refine lv_aload_n hx hb dX11_obeys_19 rfl (lv_at hl 0 rfl) ?_
    refine lv_iload_n hx hb dX11_obeys_20 rfl (lv_at hl 1 rfl) ?_
    refine lv_bipush (v := (8 : Int32)) hx hb dX11_obeys_21 (by decide) ?_
    have hPc := hP.sub (ws' := [(h, .inr (10, [.ref h_all, .ref h_has, .int f_size, .int f_next, .int f_where, .int f_token, .int f_number, .int f_sign, .int f_word, .int f_wrong, .int f_open, .int f_lines, .int f_acts, .ref h_line, .ref h_act, .ref h_pile, .ref h_comes, .ref h_leaves, .ref h_tried, .ref h_met])), (h_all, .inl (cI, 53700, .inl r_all))]) [0, 1] rfl
    have hDc := hD.sub (ws' := [(h, .inr (10, [.ref h_all, .ref h_has, .int f_size, .int f_next, .int f_where, .int f_token, .int f_number, .int f_sign, .int f_word, .int f_wrong, .int f_open, .int f_lines, .int f_acts, .ref h_line, .ref h_act, .ref h_pile, .ref h_comes, .ref h_leaves, .ref h_tried, .ref h_met])), (h_all, .inl (cI, 53700, .inl r_all))]) [0, 1] (by decide) rfl
    have hFc := va_free (wc := [(h, .inr (10, [.ref h_all, .ref h_has, .int f_size, .int f_next, .int f_where, .int f_token, .int f_number, .int f_sign, .int f_word, .int f_wrong, .int f_open, .int f_lines, .int f_acts, .ref h_line, .ref h_act, .ref h_pile, .ref h_comes, .ref h_leaves, .ref h_tried, .ref h_met])), (h_all, .inl (cI, 53700, .inl r_all))]) hD hS hA [0, 1] rfl
    refine va_calli (va_runV (As := [.int x1, .int (8 : Int32)]) (rest := [.int x2]) ⟨hx, hb, hml, hown, hts⟩ (kX11_its l dC dI cI cZ cO cW h h_all h_has h_line h_act h_pile h_comes h_leaves h_tried h_met H.size f_size f_next f_where f_token f_number f_sign f_word f_wrong f_open f_lines f_acts r_all x1 (8 : Int32) _ hw) (cwV 2 hts (gV gw_640 gw_641 gw_642 gw_622 (gM gw_637)) rfl rfl rfl (by decide +kernel) ⟨Nat.le_of_ble_eq_true rfl, Nat.le_of_ble_eq_true rfl⟩) (pv_of hPc hK hDc (va_recv hK hPc (ci := 10) (q0 := 0) rfl rfl)) rfl rfl hl.1 rfl (lv_room (Nat.le_of_ble_eq_true rfl)) dX11_obeys_23 ⟨Nat.zero_le _, Nat.zero_le _⟩) hS (fun q _ h => hFc q h) hFc (fun r_2 u t H locs ht hvm hw hB hz1 hk1 hS => ?_)
    obtain ⟨hP, hD⟩ := af_join (wr := [(h_pile, .inl (cZ, 300, .inl r_pile))]) (w1 := [(h, .inr (10, [.ref h_all, .ref h_has, .int f_size, .int f_next, .int f_where, .int f_token, .int f_number, .int f_sign, .int f_word, .int f_wrong, .int f_open, .int f_lines, .int f_acts, .ref h_line, .ref h_act, .ref h_pile, .ref h_comes, .ref h_leaves, .ref h_tried, .ref h_met])), (h_all, .inl (cI, 53700, .inl r_all))]) hB ht hP hD [0, 1] [2] rfl rfl (by decide) (by decide) hk1 hFc
    have hP : va_P (dC, dI) vwCl [(h_pile, .inl (cZ, 300, .inl r_pile)), (h, .inr (10, [.ref h_all, .ref h_has, .int f_size, .int f_next, .int f_where, .int f_token, .int f_number, .int f_sign, .int f_word, .int f_wrong, .int f_open, .int f_lines, .int f_acts, .ref h_line, .ref h_act, .ref h_pile, .ref h_comes, .ref h_leaves, .ref h_tried, .ref h_met])), (h_all, .inl (cI, 53700, .inl r_all))] _ := hP
    have hD : va_D A [(h_pile, .inl (cZ, 300, .inl r_pile)), (h, .inr (10, [.ref h_all, .ref h_has, .int f_size, .int f_next, .int f_where, .int f_token, .int f_number, .int f_sign, .int f_word, .int f_wrong, .int f_open, .int f_lines, .int f_acts, .ref h_line, .ref h_act, .ref h_pile, .ref h_comes, .ref h_leaves, .ref h_tried, .ref h_met])), (h_all, .inl (cI, 53700, .inl r_all))] := hD
    refine lv_icmp_ge (tgt := 114) hx hb dX11_obeys_26 (by decide) (fun c_3 => ?_) (fun c_3 => ?_)
    · have hw := hw.1 c_3
      have hP9 := hP.sub (ws' := (vX11_obeys cI cZ h h_all h_has h_line h_act h_pile h_comes h_leaves h_tried h_met f_size f_next f_where f_token f_number f_sign f_word f_wrong f_open f_lines f_acts r_all r_pile)) [1, 2, 0] rfl
      have hD9 := hD.sub (ws' := (vX11_obeys cI cZ h h_all h_has h_line h_act h_pile h_comes h_leaves h_tried h_met f_size f_next f_where f_token f_number f_sign f_word f_wrong f_open f_lines f_acts r_all r_pile)) [1, 2, 0] (by decide) rfl
      exact W.vret hx hb hr (fun t ht hW => ⟨⟨(r_all, r_pile), rfl, hw, by rw [ht]; exact hP9, va_K.moved hW.alike hK, hD9⟩, hS.F ht⟩) hS.2.2 dX11_obeys_114
    · have hw := hw.2 c_3
      refine lv_aload_n hx hb dX11_obeys_29 rfl (lv_at hl 0 rfl) ?_
      refine lv_iload_n hx hb dX11_obeys_30 rfl (lv_at hl 1 rfl) ?_
      refine lv_iload_n hx hb dX11_obeys_31 rfl (lv_at hl 2 rfl) ?_
      have hPc := hP.sub (ws' := [(h, .inr (10, [.ref h_all, .ref h_has, .int f_size, .int f_next, .int f_where, .int f_token, .int f_number, .int f_sign, .int f_word, .int f_wrong, .int f_open, .int f_lines, .int f_acts, .ref h_line, .ref h_act, .ref h_pile, .ref h_comes, .ref h_leaves, .ref h_tried, .ref h_met])), (h_all, .inl (cI, 53700, .inl r_all)), (h_pile, .inl (cZ, 300, .inl r_pile))]) [1, 2, 0] rfl
      have hDc := hD.sub (ws' := [(h, .inr (10, [.ref h_all, .ref h_has, .int f_size, .int f_next, .int f_where, .int f_token, .int f_number, .int f_sign, .int f_word, .int f_wrong, .int f_open, .int f_lines, .int f_acts, .ref h_line, .ref h_act, .ref h_pile, .ref h_comes, .ref h_leaves, .ref h_tried, .ref h_met])), (h_all, .inl (cI, 53700, .inl r_all)), (h_pile, .inl (cZ, 300, .inl r_pile))]) [1, 2, 0] (by decide) rfl
      have hFc := va_free (wc := [(h, .inr (10, [.ref h_all, .ref h_has, .int f_size, .int f_next, .int f_where, .int f_token, .int f_number, .int f_sign, .int f_word, .int f_wrong, .int f_open, .int f_lines, .int f_acts, .ref h_line, .ref h_act, .ref h_pile, .ref h_comes, .ref h_leaves, .ref h_tried, .ref h_met])), (h_all, .inl (cI, 53700, .inl r_all)), (h_pile, .inl (cZ, 300, .inl r_pile))]) hD hS hA [1, 2, 0] rfl
      refine va_calli (va_runV (As := [.int x1, .int x2]) (rest := []) ⟨hx, hb, hml, hown, hts⟩ (kX11_holds l dC dI cI cZ cO cW h h_all h_has h_line h_act h_pile h_comes h_leaves h_tried h_met H.size f_size f_next f_where f_token f_number f_sign f_word f_wrong f_open f_lines f_acts r_all r_pile x1 x2 _ hw) (cwV 2 hts (gV gw_798 gw_799 gw_800 gw_622 (gM gw_788)) rfl rfl rfl (by decide +kernel) ⟨Nat.le_of_ble_eq_true rfl, Nat.le_of_ble_eq_true rfl⟩) (pv_of hPc hK hDc (va_recv hK hPc (ci := 10) (q0 := 0) rfl rfl)) rfl rfl hl.1 rfl (lv_room (Nat.le_of_ble_eq_true rfl)) dX11_obeys_32 ⟨Nat.zero_le _, Nat.zero_le _⟩) hS (fun q _ h => hFc q h) hFc (fun r_5 u t H locs ht hvm hw hB hz1 hk1 hS => ?_)
      obtain ⟨r_pile_4, rfl⟩ : ∃ z, z = u := ⟨_, rfl⟩
      obtain ⟨hP, hD⟩ := af_join (wr := []) (w1 := [(h, .inr (10, [.ref h_all, .ref h_has, .int f_size, .int f_next, .int f_where, .int f_token, .int f_number, .int f_sign, .int f_word, .int f_wrong, .int f_open, .int f_lines, .int f_acts, .ref h_line, .ref h_act, .ref h_pile, .ref h_comes, .ref h_leaves, .ref h_tried, .ref h_met])), (h_all, .inl (cI, 53700, .inl r_all)), (h_pile, .inl (cZ, 300, .inl r_pile_4))]) hB ht hP hD [1, 2, 0] [] rfl rfl (by decide) (by decide) hk1 hFc
      have hP : va_P (dC, dI) vwCl [(h, .inr (10, [.ref h_all, .ref h_has, .int f_size, .int f_next, .int f_where, .int f_token, .int f_number, .int f_sign, .int f_word, .int f_wrong, .int f_open, .int f_lines, .int f_acts, .ref h_line, .ref h_act, .ref h_pile, .ref h_comes, .ref h_leaves, .ref h_tried, .ref h_met])), (h_all, .inl (cI, 53700, .inl r_all)), (h_pile, .inl (cZ, 300, .inl r_pile_4))] _ := hP
      have hD : va_D A [(h, .inr (10, [.ref h_all, .ref h_has, .int f_size, .int f_next, .int f_where, .int f_token, .int f_number, .int f_sign, .int f_word, .int f_wrong, .int f_open, .int f_lines, .int f_acts, .ref h_line, .ref h_act, .ref h_pile, .ref h_comes, .ref h_leaves, .ref h_tried, .ref h_met])), (h_all, .inl (cI, 53700, .inl r_all)), (h_pile, .inl (cZ, 300, .inl r_pile_4))] := hD
      refine lv_if_ne (tgt := 41) hx hb dX11_obeys_35 (by decide) (fun c_6 => ?_) (fun c_6 => ?_)
      · have hw := hw.1 c_6
        refine lv_aload_n hx hb dX11_obeys_41 rfl (lv_at hl 0 rfl) ?_
        refine lv_iload_n hx hb dX11_obeys_42 rfl (lv_at hl 1 rfl) ?_
        refine lv_bipush (v := (6 : Int32)) hx hb dX11_obeys_43 (by decide) ?_
        refine lv_iload_n hx hb dX11_obeys_45 rfl (lv_at hl 2 rfl) ?_
        have hPc := hP.sub (ws' := [(h, .inr (10, [.ref h_all, .ref h_has, .int f_size, .int f_next, .int f_where, .int f_token, .int f_number, .int f_sign, .int f_word, .int f_wrong, .int f_open, .int f_lines, .int f_acts, .ref h_line, .ref h_act, .ref h_pile, .ref h_comes, .ref h_leaves, .ref h_tried, .ref h_met])), (h_all, .inl (cI, 53700, .inl r_all))]) [0, 1] rfl
        have hDc := hD.sub (ws' := [(h, .inr (10, [.ref h_all, .ref h_has, .int f_size, .int f_next, .int f_where, .int f_token, .int f_number, .int f_sign, .int f_word, .int f_wrong, .int f_open, .int f_lines, .int f_acts, .ref h_line, .ref h_act, .ref h_pile, .ref h_comes, .ref h_leaves, .ref h_tried, .ref h_met])), (h_all, .inl (cI, 53700, .inl r_all))]) [0, 1] (by decide) rfl
        have hFc := va_free (wc := [(h, .inr (10, [.ref h_all, .ref h_has, .int f_size, .int f_next, .int f_where, .int f_token, .int f_number, .int f_sign, .int f_word, .int f_wrong, .int f_open, .int f_lines, .int f_acts, .ref h_line, .ref h_act, .ref h_pile, .ref h_comes, .ref h_leaves, .ref h_tried, .ref h_met])), (h_all, .inl (cI, 53700, .inl r_all))]) hD hS hA [0, 1] rfl
        refine va_callv (va_runV (As := [.int x1, .int (6 : Int32), .int x2]) (rest := []) ⟨hx, hb, hml, hown, hts⟩ (kX11_ships l dC dI cI cZ cO cW h h_all h_has h_line h_act h_pile h_comes h_leaves h_tried h_met H.size f_size f_next f_where f_token f_number f_sign f_word f_wrong f_open f_lines f_acts r_all x1 (6 : Int32) x2 _ hw) (cwV 3 hts (gV gw_655 gw_656 gw_657 gw_622 (gM gw_638)) rfl rfl rfl (by decide +kernel) ⟨Nat.le_of_ble_eq_true rfl, Nat.le_of_ble_eq_true rfl⟩) (pv_of hPc hK hDc (va_recv hK hPc (ci := 10) (q0 := 0) rfl rfl)) rfl rfl hl.1 rfl (lv_room (Nat.le_of_ble_eq_true rfl)) dX11_obeys_46 ⟨Nat.zero_le _, Nat.zero_le _⟩) hS (fun q _ h => hFc q h) hFc (fun u t H locs ht hvm hw hB hz1 hk1 hS => ?_)
        obtain ⟨r_all_7, rfl⟩ : ∃ z, z = u := ⟨_, rfl⟩
        obtain ⟨hP, hD⟩ := af_join (wr := [(h_pile, .inl (cZ, 300, .inl r_pile_4))]) (w1 := [(h, .inr (10, [.ref h_all, .ref h_has, .int f_size, .int f_next, .int f_where, .int f_token, .int f_number, .int f_sign, .int f_word, .int f_wrong, .int f_open, .int f_lines, .int f_acts, .ref h_line, .ref h_act, .ref h_pile, .ref h_comes, .ref h_leaves, .ref h_tried, .ref h_met])), (h_all, .inl (cI, 53700, .inl r_all_7))]) hB ht hP hD [0, 1] [2] rfl rfl (by decide) (by decide) hk1 hFc
        have hP : va_P (dC, dI) vwCl [(h_pile, .inl (cZ, 300, .inl r_pile_4)), (h, .inr (10, [.ref h_all, .ref h_has, .int f_size, .int f_next, .int f_where, .int f_token, .int f_number, .int f_sign, .int f_word, .int f_wrong, .int f_open, .int f_lines, .int f_acts, .ref h_line, .ref h_act, .ref h_pile, .ref h_comes, .ref h_leaves, .ref h_tried, .ref h_met])), (h_all, .inl (cI, 53700, .inl r_all_7))] _ := hP
        have hD : va_D A [(h_pile, .inl (cZ, 300, .inl r_pile_4)), (h, .inr (10, [.ref h_all, .ref h_has, .int f_size, .int f_next, .int f_where, .int f_token, .int f_number, .int f_sign, .int f_word, .int f_wrong, .int f_open, .int f_lines, .int f_acts, .ref h_line, .ref h_act, .ref h_pile, .ref h_comes, .ref h_leaves, .ref h_tried, .ref h_met])), (h_all, .inl (cI, 53700, .inl r_all_7))] := hD
        refine lv_aload_n hx hb dX11_obeys_49 rfl (lv_at hl 0 rfl) ?_
        refine lv_iload_n hx hb dX11_obeys_50 rfl (lv_at hl 1 rfl) ?_
        refine lv_bipush (v := (7 : Int32)) hx hb dX11_obeys_51 (by decide) ?_
        refine lv_aload_n hx hb dX11_obeys_53 rfl (lv_at hl 0 rfl) ?_
        refine lv_iload_n hx hb dX11_obeys_54 rfl (lv_at hl 1 rfl) ?_
        refine lv_aload_n hx hb dX11_obeys_55 rfl (lv_at hl 0 rfl) ?_
        refine va_get (D := (dC, dI)) (ci := 10) (v := .ref h_all) (C := RX11) (T := TX11) (N := 20) hx hb hts gu_X11 hown hK hP 1 rfl rfl 0 (by decide) (hts _ gw_607) (fun _ h9 => h9) rfl dX11_obeys_56 ?_
        refine lv_sipush (v := (3460 : Int32)) hx hb dX11_obeys_59 (by decide) ?_
        refine lv_bipush (v := (80 : Int32)) hx hb dX11_obeys_62 (by decide) ?_
        refine lv_iload_n hx hb dX11_obeys_64 rfl (lv_at hl 1 rfl) ?_
        refine lv_imul hx hb dX11_obeys_65 ?_
        refine lv_iadd hx hb dX11_obeys_66 ?_
        refine lv_iconst (v := (4 : Int32)) hx hb dX11_obeys_67 (by decide) ?_
        refine lv_iload_n hx hb dX11_obeys_68 rfl (lv_at hl 2 rfl) ?_
        refine lv_imul hx hb dX11_obeys_69 ?_
        refine lv_iadd hx hb dX11_obeys_70 ?_
        refine lv_iconst (v := (2 : Int32)) hx hb dX11_obeys_71 (by decide) ?_
        refine lv_iadd hx hb dX11_obeys_72 ?_
        obtain ⟨h_8, hw⟩ := hw
        refine va_iald hx hb hK hP 2 0 rfl rfl h_8 dX11_obeys_73 ?_
        refine lv_aload_n hx hb dX11_obeys_74 rfl (lv_at hl 0 rfl) ?_
        refine va_get (D := (dC, dI)) (ci := 10) (v := .ref h_all) (C := RX11) (T := TX11) (N := 20) hx hb hts gu_X11 hown hK hP 1 rfl rfl 0 (by decide) (hts _ gw_607) (fun _ h9 => h9) rfl dX11_obeys_75 ?_
        refine lv_sipush (v := (3460 : Int32)) hx hb dX11_obeys_78 (by decide) ?_
        refine lv_bipush (v := (80 : Int32)) hx hb dX11_obeys_81 (by decide) ?_
        refine lv_iload_n hx hb dX11_obeys_83 rfl (lv_at hl 1 rfl) ?_
        refine lv_imul hx hb dX11_obeys_84 ?_
        refine lv_iadd hx hb dX11_obeys_85 ?_
        refine lv_iconst (v := (4 : Int32)) hx hb dX11_obeys_86 (by decide) ?_
        refine lv_iload_n hx hb dX11_obeys_87 rfl (lv_at hl 2 rfl) ?_
        refine lv_imul hx hb dX11_obeys_88 ?_
        refine lv_iadd hx hb dX11_obeys_89 ?_
        refine lv_iconst (v := (3 : Int32)) hx hb dX11_obeys_90 (by decide) ?_
        refine lv_iadd hx hb dX11_obeys_91 ?_
        obtain ⟨h_9, hw⟩ := hw
        refine va_iald hx hb hK hP 2 0 rfl rfl h_9 dX11_obeys_92 ?_
        have hPc := hP.sub (ws' := [(h, .inr (10, [.ref h_all, .ref h_has, .int f_size, .int f_next, .int f_where, .int f_token, .int f_number, .int f_sign, .int f_word, .int f_wrong, .int f_open, .int f_lines, .int f_acts, .ref h_line, .ref h_act, .ref h_pile, .ref h_comes, .ref h_leaves, .ref h_tried, .ref h_met])), (h_all, .inl (cI, 53700, .inl r_all_7))]) [1, 2] rfl
        have hDc := hD.sub (ws' := [(h, .inr (10, [.ref h_all, .ref h_has, .int f_size, .int f_next, .int f_where, .int f_token, .int f_number, .int f_sign, .int f_word, .int f_wrong, .int f_open, .int f_lines, .int f_acts, .ref h_line, .ref h_act, .ref h_pile, .ref h_comes, .ref h_leaves, .ref h_tried, .ref h_met])), (h_all, .inl (cI, 53700, .inl r_all_7))]) [1, 2] (by decide) rfl
        have hFc := va_free (wc := [(h, .inr (10, [.ref h_all, .ref h_has, .int f_size, .int f_next, .int f_where, .int f_token, .int f_number, .int f_sign, .int f_word, .int f_wrong, .int f_open, .int f_lines, .int f_acts, .ref h_line, .ref h_act, .ref h_pile, .ref h_comes, .ref h_leaves, .ref h_tried, .ref h_met])), (h_all, .inl (cI, 53700, .inl r_all_7))]) hD hS hA [1, 2] rfl
        refine va_calli (va_runV (As := [.int x1, .int (r_all_7 ((((3460 : Int32) + ((80 : Int32) * x1)) + ((4 : Int32) * x2)) + (2 : Int32)).toNatClampNeg), .int (r_all_7 ((((3460 : Int32) + ((80 : Int32) * x1)) + ((4 : Int32) * x2)) + (3 : Int32)).toNatClampNeg)]) (rest := [.int (7 : Int32), .int x1, .ref h]) ⟨hx, hb, hml, hown, hts⟩ (kX11_does l dC dI cI cZ cO cW h h_all h_has h_line h_act h_pile h_comes h_leaves h_tried h_met H.size f_size f_next f_where f_token f_number f_sign f_word f_wrong f_open f_lines f_acts r_all_7 x1 (r_all_7 ((((3460 : Int32) + ((80 : Int32) * x1)) + ((4 : Int32) * x2)) + (2 : Int32)).toNatClampNeg) (r_all_7 ((((3460 : Int32) + ((80 : Int32) * x1)) + ((4 : Int32) * x2)) + (3 : Int32)).toNatClampNeg) _ hw) (cwV 3 hts (gV gw_801 gw_802 gw_803 gw_622 (gM gw_797)) rfl rfl rfl (by decide +kernel) ⟨Nat.le_of_ble_eq_true rfl, Nat.le_of_ble_eq_true rfl⟩) (pv_of hPc hK hDc (va_recv hK hPc (ci := 10) (q0 := 0) rfl rfl)) rfl rfl hl.1 rfl (lv_room (Nat.le_of_ble_eq_true rfl)) dX11_obeys_93 ⟨Nat.zero_le _, Nat.zero_le _⟩) hS (fun q _ h => hFc q h) hFc (fun r_11 u t H locs ht hvm hw hB hz1 hk1 hS => ?_)
        obtain ⟨r_all_10, rfl⟩ : ∃ z, z = u := ⟨_, rfl⟩
        obtain ⟨hP, hD⟩ := af_join (wr := [(h_pile, .inl (cZ, 300, .inl r_pile_4))]) (w1 := [(h, .inr (10, [.ref h_all, .ref h_has, .int f_size, .int f_next, .int f_where, .int f_token, .int f_number, .int f_sign, .int f_word, .int f_wrong, .int f_open, .int f_lines, .int f_acts, .ref h_line, .ref h_act, .ref h_pile, .ref h_comes, .ref h_leaves, .ref h_tried, .ref h_met])), (h_all, .inl (cI, 53700, .inl r_all_10))]) hB ht hP hD [1, 2] [0] rfl rfl (by decide) (by decide) hk1 hFc
        have hP : va_P (dC, dI) vwCl [(h_pile, .inl (cZ, 300, .inl r_pile_4)), (h, .inr (10, [.ref h_all, .ref h_has, .int f_size, .int f_next, .int f_where, .int f_token, .int f_number, .int f_sign, .int f_word, .int f_wrong, .int f_open, .int f_lines, .int f_acts, .ref h_line, .ref h_act, .ref h_pile, .ref h_comes, .ref h_leaves, .ref h_tried, .ref h_met])), (h_all, .inl (cI, 53700, .inl r_all_10))] _ := hP
        have hD : va_D A [(h_pile, .inl (cZ, 300, .inl r_pile_4)), (h, .inr (10, [.ref h_all, .ref h_has, .int f_size, .int f_next, .int f_where, .int f_token, .int f_number, .int f_sign, .int f_word, .int f_wrong, .int f_open, .int f_lines, .int f_acts, .ref h_line, .ref h_act, .ref h_pile, .ref h_comes, .ref h_leaves, .ref h_tried, .ref h_met])), (h_all, .inl (cI, 53700, .inl r_all_10))] := hD
        refine lv_if_eq (tgt := 103) hx hb dX11_obeys_96 (by decide) (fun c_12 => ?_) (fun c_12 => ?_)
        · have hw := hw.1 c_12
          refine lv_iconst (v := (0 : Int32)) hx hb dX11_obeys_103 (by decide) ?_
          exact tX11_obeys_104 hC hK hA  x1 (7 : Int32) (0 : Int32) r_all_10 r_pile_4 _ _ ls hw (hP.sub [1, 2, 0] rfl) (hD.sub [1, 2, 0] (by decide) rfl) hS (lv_sub hl [] rfl)
        · have hw := hw.2 c_12
          refine lv_iconst (v := (1 : Int32)) hx hb dX11_obeys_99 (by decide) ?_
          refine lv_goto (tgt := 104) hx hb dX11_obeys_100 (by decide) ?_
          exact tX11_obeys_104 hC hK hA  x1 (7 : Int32) (1 : Int32) r_all_10 r_pile_4 _ _ ls hw (hP.sub [1, 2, 0] rfl) (hD.sub [1, 2, 0] (by decide) rfl) hS (lv_sub hl [] rfl)
      · have hw := hw.2 c_6
        refine lv_goto (tgt := 108) hx hb dX11_obeys_38 (by decide) ?_
        refine lv_iinc (v := (x2 + (1 : Int32))) (lv' := [(2, .int (x2 + (1 : Int32))), (0, .ref h), (1, .int x1)]) hx hb dX11_obeys_108 hl (k := 2) rfl rfl (by decide) rfl (fun ls hl => ?_)
        refine lv_goto (tgt := 18) hx hb dX11_obeys_111 (by decide) ?_
        exact ih x1 (x2 + (1 : Int32)) r_all r_pile_4 _ _ ls hw (hP.sub [0, 1, 2] rfl) (hD.sub [0, 1, 2] (by decide) rfl) hS (lv_sub hl [1, 2, 0] rfl)
set_option maxHeartbeats 4000000 in
set_option maxRecDepth 100000 in
theorem tX11_obeys_e {p : Program} {l : Launch} {e : Env} {s : State} {m : MethodId} {args : Array Value} {below : List Frame} {meth : Method} {c : Code} {dC : Nat → ClassId} {dI : Nat → Nat → Nat} {cI cZ cO cW : ClassId} {A : Nat → Prop} {h h_all h_has h_line h_act h_pile h_comes h_leaves h_tried h_met : Nat} {f_size f_next f_where f_token f_number f_sign f_word f_wrong f_open f_lines f_acts : Int32} {Q : (Nat → Int32) → (Nat → Int32) → Prop} (hC : Cx p s m args meth c cX11_obeys none 3 GW RX11) (hK : va_K (dC, dI) vwCl (tysA cI cZ cO cW) s) (hA : ∀ q : Nat, s.heap.size ≤ q → A q) :
    ∀ (x1 : Int32) (r_all : Nat → Int32) (r_pile : Nat → Int32) (H : Heap) (locs : List Loc) (ls : Array Slot), wX11_obeys Q x1 r_all r_pile → va_P (dC, dI) vwCl (vX11_obeys cI cZ h h_all h_has h_line h_act h_pile h_comes h_leaves h_tried h_met f_size f_next f_where f_token f_number f_sign f_word f_wrong f_open f_lines f_acts r_all r_pile) H → va_D A (vX11_obeys cI cZ h h_all h_has h_line h_act h_pile h_comes h_leaves h_tried h_met f_size f_next f_where f_token f_number f_sign f_word f_wrong f_open f_lines f_acts r_all r_pile) → va_S A s.heap H locs → lv_has ls 3 [(0, .ref h), (1, .int x1)] → W p l e rmX11_obeys s m args below meth c H locs 0 0 (MQ below (qX11_obeys dC dI cI cZ cO cW h h_all h_has h_line h_act h_pile h_comes h_leaves h_tried h_met f_size f_next f_where f_token f_number f_sign f_word f_wrong f_open f_lines f_acts Q A) args s 0 0 A) (F0 m 0 ls []) := by
  obtain ⟨hx, hb, hr, hml, hown, hts, hlocks⟩ := id hC
  intro x1 r_all r_pile H locs ls hw hP hD hS hl
  refine lv_aload_n hx hb dX11_obeys_0 rfl (lv_at hl 0 rfl) ?_
  refine lv_iload_n hx hb dX11_obeys_1 rfl (lv_at hl 1 rfl) ?_
  refine lv_bipush (v := (6 : Int32)) hx hb dX11_obeys_2 (by decide) ?_
  refine lv_iconst (v := (-1 : Int32)) hx hb dX11_obeys_4 (by decide) ?_
  have hPc := hP.sub (ws' := [(h, .inr (10, [.ref h_all, .ref h_has, .int f_size, .int f_next, .int f_where, .int f_token, .int f_number, .int f_sign, .int f_word, .int f_wrong, .int f_open, .int f_lines, .int f_acts, .ref h_line, .ref h_act, .ref h_pile, .ref h_comes, .ref h_leaves, .ref h_tried, .ref h_met])), (h_all, .inl (cI, 53700, .inl r_all))]) [0, 1] rfl
  have hDc := hD.sub (ws' := [(h, .inr (10, [.ref h_all, .ref h_has, .int f_size, .int f_next, .int f_where, .int f_token, .int f_number, .int f_sign, .int f_word, .int f_wrong, .int f_open, .int f_lines, .int f_acts, .ref h_line, .ref h_act, .ref h_pile, .ref h_comes, .ref h_leaves, .ref h_tried, .ref h_met])), (h_all, .inl (cI, 53700, .inl r_all))]) [0, 1] (by decide) rfl
  have hFc := va_free (wc := [(h, .inr (10, [.ref h_all, .ref h_has, .int f_size, .int f_next, .int f_where, .int f_token, .int f_number, .int f_sign, .int f_word, .int f_wrong, .int f_open, .int f_lines, .int f_acts, .ref h_line, .ref h_act, .ref h_pile, .ref h_comes, .ref h_leaves, .ref h_tried, .ref h_met])), (h_all, .inl (cI, 53700, .inl r_all))]) hD hS hA [0, 1] rfl
  refine va_callv (va_runV (As := [.int x1, .int (6 : Int32), .int (-1 : Int32)]) (rest := []) ⟨hx, hb, hml, hown, hts⟩ (kX11_ships l dC dI cI cZ cO cW h h_all h_has h_line h_act h_pile h_comes h_leaves h_tried h_met H.size f_size f_next f_where f_token f_number f_sign f_word f_wrong f_open f_lines f_acts r_all x1 (6 : Int32) (-1 : Int32) _ hw) (cwV 3 hts (gV gw_655 gw_656 gw_657 gw_622 (gM gw_638)) rfl rfl rfl (by decide +kernel) ⟨Nat.le_of_ble_eq_true rfl, Nat.le_of_ble_eq_true rfl⟩) (pv_of hPc hK hDc (va_recv hK hPc (ci := 10) (q0 := 0) rfl rfl)) rfl rfl hl.1 rfl (lv_room (Nat.le_of_ble_eq_true rfl)) dX11_obeys_5 ⟨Nat.zero_le _, Nat.zero_le _⟩) hS (fun q _ h => hFc q h) hFc (fun u t H locs ht hvm hw hB hz1 hk1 hS => ?_)
  obtain ⟨r_all_13, rfl⟩ : ∃ z, z = u := ⟨_, rfl⟩
  obtain ⟨hP, hD⟩ := af_join (wr := [(h_pile, .inl (cZ, 300, .inl r_pile))]) (w1 := [(h, .inr (10, [.ref h_all, .ref h_has, .int f_size, .int f_next, .int f_where, .int f_token, .int f_number, .int f_sign, .int f_word, .int f_wrong, .int f_open, .int f_lines, .int f_acts, .ref h_line, .ref h_act, .ref h_pile, .ref h_comes, .ref h_leaves, .ref h_tried, .ref h_met])), (h_all, .inl (cI, 53700, .inl r_all_13))]) hB ht hP hD [0, 1] [2] rfl rfl (by decide) (by decide) hk1 hFc
  have hP : va_P (dC, dI) vwCl [(h_pile, .inl (cZ, 300, .inl r_pile)), (h, .inr (10, [.ref h_all, .ref h_has, .int f_size, .int f_next, .int f_where, .int f_token, .int f_number, .int f_sign, .int f_word, .int f_wrong, .int f_open, .int f_lines, .int f_acts, .ref h_line, .ref h_act, .ref h_pile, .ref h_comes, .ref h_leaves, .ref h_tried, .ref h_met])), (h_all, .inl (cI, 53700, .inl r_all_13))] _ := hP
  have hD : va_D A [(h_pile, .inl (cZ, 300, .inl r_pile)), (h, .inr (10, [.ref h_all, .ref h_has, .int f_size, .int f_next, .int f_where, .int f_token, .int f_number, .int f_sign, .int f_word, .int f_wrong, .int f_open, .int f_lines, .int f_acts, .ref h_line, .ref h_act, .ref h_pile, .ref h_comes, .ref h_leaves, .ref h_tried, .ref h_met])), (h_all, .inl (cI, 53700, .inl r_all_13))] := hD
  refine lv_aload_n hx hb dX11_obeys_8 rfl (lv_at hl 0 rfl) ?_
  refine lv_iload_n hx hb dX11_obeys_9 rfl (lv_at hl 1 rfl) ?_
  refine lv_bipush (v := (7 : Int32)) hx hb dX11_obeys_10 (by decide) ?_
  refine lv_iconst (v := (0 : Int32)) hx hb dX11_obeys_12 (by decide) ?_
  have hPc := hP.sub (ws' := [(h, .inr (10, [.ref h_all, .ref h_has, .int f_size, .int f_next, .int f_where, .int f_token, .int f_number, .int f_sign, .int f_word, .int f_wrong, .int f_open, .int f_lines, .int f_acts, .ref h_line, .ref h_act, .ref h_pile, .ref h_comes, .ref h_leaves, .ref h_tried, .ref h_met])), (h_all, .inl (cI, 53700, .inl r_all_13))]) [1, 2] rfl
  have hDc := hD.sub (ws' := [(h, .inr (10, [.ref h_all, .ref h_has, .int f_size, .int f_next, .int f_where, .int f_token, .int f_number, .int f_sign, .int f_word, .int f_wrong, .int f_open, .int f_lines, .int f_acts, .ref h_line, .ref h_act, .ref h_pile, .ref h_comes, .ref h_leaves, .ref h_tried, .ref h_met])), (h_all, .inl (cI, 53700, .inl r_all_13))]) [1, 2] (by decide) rfl
  have hFc := va_free (wc := [(h, .inr (10, [.ref h_all, .ref h_has, .int f_size, .int f_next, .int f_where, .int f_token, .int f_number, .int f_sign, .int f_word, .int f_wrong, .int f_open, .int f_lines, .int f_acts, .ref h_line, .ref h_act, .ref h_pile, .ref h_comes, .ref h_leaves, .ref h_tried, .ref h_met])), (h_all, .inl (cI, 53700, .inl r_all_13))]) hD hS hA [1, 2] rfl
  refine va_callv (va_runV (As := [.int x1, .int (7 : Int32), .int (0 : Int32)]) (rest := []) ⟨hx, hb, hml, hown, hts⟩ (kX11_ships l dC dI cI cZ cO cW h h_all h_has h_line h_act h_pile h_comes h_leaves h_tried h_met H.size f_size f_next f_where f_token f_number f_sign f_word f_wrong f_open f_lines f_acts r_all_13 x1 (7 : Int32) (0 : Int32) _ hw) (cwV 3 hts (gV gw_655 gw_656 gw_657 gw_622 (gM gw_638)) rfl rfl rfl (by decide +kernel) ⟨Nat.le_of_ble_eq_true rfl, Nat.le_of_ble_eq_true rfl⟩) (pv_of hPc hK hDc (va_recv hK hPc (ci := 10) (q0 := 0) rfl rfl)) rfl rfl hl.1 rfl (lv_room (Nat.le_of_ble_eq_true rfl)) dX11_obeys_13 ⟨Nat.zero_le _, Nat.zero_le _⟩) hS (fun q _ h => hFc q h) hFc (fun u t H locs ht hvm hw hB hz1 hk1 hS => ?_)
  obtain ⟨r_all_14, rfl⟩ : ∃ z, z = u := ⟨_, rfl⟩
  obtain ⟨hP, hD⟩ := af_join (wr := [(h_pile, .inl (cZ, 300, .inl r_pile))]) (w1 := [(h, .inr (10, [.ref h_all, .ref h_has, .int f_size, .int f_next, .int f_where, .int f_token, .int f_number, .int f_sign, .int f_word, .int f_wrong, .int f_open, .int f_lines, .int f_acts, .ref h_line, .ref h_act, .ref h_pile, .ref h_comes, .ref h_leaves, .ref h_tried, .ref h_met])), (h_all, .inl (cI, 53700, .inl r_all_14))]) hB ht hP hD [1, 2] [0] rfl rfl (by decide) (by decide) hk1 hFc
  have hP : va_P (dC, dI) vwCl [(h_pile, .inl (cZ, 300, .inl r_pile)), (h, .inr (10, [.ref h_all, .ref h_has, .int f_size, .int f_next, .int f_where, .int f_token, .int f_number, .int f_sign, .int f_word, .int f_wrong, .int f_open, .int f_lines, .int f_acts, .ref h_line, .ref h_act, .ref h_pile, .ref h_comes, .ref h_leaves, .ref h_tried, .ref h_met])), (h_all, .inl (cI, 53700, .inl r_all_14))] _ := hP
  have hD : va_D A [(h_pile, .inl (cZ, 300, .inl r_pile)), (h, .inr (10, [.ref h_all, .ref h_has, .int f_size, .int f_next, .int f_where, .int f_token, .int f_number, .int f_sign, .int f_word, .int f_wrong, .int f_open, .int f_lines, .int f_acts, .ref h_line, .ref h_act, .ref h_pile, .ref h_comes, .ref h_leaves, .ref h_tried, .ref h_met])), (h_all, .inl (cI, 53700, .inl r_all_14))] := hD
  refine lv_iconst (v := (0 : Int32)) hx hb dX11_obeys_16 (by decide) ?_
  refine lv_istore_n (lv' := [(2, .int (0 : Int32)), (0, .ref h), (1, .int x1)]) hx hb dX11_obeys_17 rfl hl (by decide) rfl (fun ls hl => ?_)
  obtain ⟨n_15, hw⟩ := hw
  exact tX11_obeys_18 hC hK hA  n_15 x1 (0 : Int32) r_all_14 r_pile _ _ ls hw (hP.sub [1, 2, 0] rfl) (hD.sub [1, 2, 0] (by decide) rfl) hS (lv_sub hl [1, 2, 0] rfl)
set_option maxHeartbeats 4000000 in
set_option maxRecDepth 100000 in
theorem kX11_obeys (l : Launch) (dC : Nat → ClassId) (dI : Nat → Nat → Nat) (cI cZ cO cW : ClassId) (h h_all h_has h_line h_act h_pile h_comes h_leaves h_tried h_met : Nat)  (sz : Nat) (f_size : Int32) (f_next : Int32) (f_where : Int32) (f_token : Int32) (f_number : Int32) (f_sign : Int32) (f_word : Int32) (f_wrong : Int32) (f_open : Int32) (f_lines : Int32) (f_acts : Int32) (r_all : Nat → Int32) (r_pile : Nat → Int32) (x1 : Int32) (Q : (Nat → Int32) → (Nat → Int32) → Prop) (hw : wX11_obeys Q x1 r_all r_pile) : Met l yX11_obeys zsX11_obeys rmX11_obeys (va_Pc [.ref h, .int x1] (fun U => U.heap.size = sz ∧ va_P (dC, dI) vwCl (vX11_obeys cI cZ h h_all h_has h_line h_act h_pile h_comes h_leaves h_tried h_met f_size f_next f_where f_token f_number f_sign f_word f_wrong f_open f_lines f_acts r_all r_pile) U.heap ∧ va_K (dC, dI) vwCl (tysA cI cZ cO cW) U ∧ va_D (fun _ => True) (vX11_obeys cI cZ h h_all h_has h_line h_act h_pile h_comes h_leaves h_tried h_met f_size f_next f_where f_token f_number f_sign f_word f_wrong f_open f_lines f_acts r_all r_pile))) (qX11_obeys dC dI cI cZ cO cW h h_all h_has h_line h_act h_pile h_comes h_leaves h_tried h_met f_size f_next f_where f_token f_number f_sign f_word f_wrong f_open f_lines f_acts Q (va_A (vX11_obeys cI cZ h h_all h_has h_line h_act h_pile h_comes h_leaves h_tried h_met f_size f_next f_where f_token f_number f_sign f_word f_wrong f_open f_lines f_acts r_all r_pile) sz)) 0 0 (va_A (vX11_obeys cI cZ h h_all h_has h_line h_act h_pile h_comes h_leaves h_tried h_met f_size f_next f_where f_token f_number f_sign f_word f_wrong f_open f_lines f_acts r_all r_pile) sz) := by
  refine Met.ofW (cc := cX11_obeys) (maxL := 3) (ret := none) (by decide) rfl ?_
  intro p e s m args below meth c s₁ B hml hv
  obtain ⟨rfl, hsz, hP, hK, hD0⟩ := hv
  subst hsz
  have hC : Cx p s m ([.ref h, .int x1] : List Value).toArray meth c cX11_obeys none 3 GW RX11 := ⟨B.exec, B.bytes, B.returns, hml, findClass_of_methodNamed B.named, fun w h => atoms_spec (ws := zsX11_obeys) B.pre w (List.mem_cons_of_mem _ h), B.notSynchronized⟩
  have hD := hD0.self (sz := s.heap.size)
  generalize hAe : va_A (vX11_obeys cI cZ h h_all h_has h_line h_act h_pile h_comes h_leaves h_tried h_met f_size f_next f_where f_token f_number f_sign f_word f_wrong f_open f_lines f_acts r_all r_pile) s.heap.size = A at hD ⊢
  have hA : ∀ q : Nat, s.heap.size ≤ q → A q := fun q h => by rw [← hAe]; exact Or.inr h
  have hl := lv_entry ([.ref h, .int x1]) (n := 3) (Nat.le_of_ble_eq_true rfl)
  rw [lg_entry_eq]
  generalize (lg_sl ([.ref h, .int x1]) ++ List.replicate (3 - (lg_sl ([.ref h, .int x1])).length) Slot.unset).toArray = ls at hl ⊢
  exact tX11_obeys_e hC hK hA x1 r_all r_pile _ _ ls hw hP hD va_S.rf hl

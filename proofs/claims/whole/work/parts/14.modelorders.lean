set_option maxRecDepth 20000 in
theorem ggX11_aLine_X11_takesWord : GoodIn wsX11_aLine wsX11_takesWord := goodIn_r _ [14, 15, 16, 17, 13, 18, 6, 7, 8, 19, 20, 21, 22, 23, 3, 24, 25, 26, 27, 28, 29, 30, 31, 32, 2, 33, 34, 35, 36, 37, 38, 39, 40, 41, 42, 43, 44, 45, 46, 47, 48, 49, 50, 51, 52, 53, 54, 55, 56, 57, 98, 99, 100, 101, 102, 103, 104, 105, 106, 107, 108, 109, 110, 111, 112, 113, 114, 115, 116, 117] (by decide +kernel) (by decide +kernel)
set_option maxRecDepth 20000 in
theorem gX11_aLine_X11_takesWord : GoodIn wsX11_aLine (wsV RX11 164 RX11 yX11_takesWord wsX11_takesWord) := goodIn_app (goodIn_of _ (by decide +kernel)) ggX11_aLine_X11_takesWord
set_option maxRecDepth 20000 in
theorem ggX11_aLine_X11_anyOf : GoodIn wsX11_aLine wsX11_anyOf := goodIn_r _ [61, 5, 6, 62, 63, 64, 13, 65, 2, 3, 66, 67, 68, 10, 11, 12, 14, 15, 16, 17, 18, 7, 8, 19, 20, 21, 22, 23, 24, 25, 26, 27, 28, 29, 30, 31, 32, 33, 34, 35, 36, 37, 38, 39, 40, 41, 42, 43, 44, 45, 46, 47, 48, 49, 50, 51, 52, 53, 54, 55, 56, 57, 69, 70, 71, 72, 73, 4, 74, 75, 76, 77, 78, 79, 80, 81, 82, 58, 59, 60, 83, 84, 85, 86, 87, 88, 89, 90, 91, 92, 93, 94, 98, 99, 100, 101, 102, 103, 104, 105, 106, 107, 108, 109, 110, 111, 112, 113, 114, 115, 116, 117] (by decide +kernel) (by decide +kernel)
set_option maxRecDepth 20000 in
theorem gX11_aLine_X11_anyOf : GoodIn wsX11_aLine (wsV RX11 176 RX11 yX11_anyOf wsX11_anyOf) := goodIn_app (goodIn_of _ (by decide +kernel)) ggX11_aLine_X11_anyOf
set_option maxRecDepth 20000 in
theorem ggX11_aLine_X11_must : GoodIn wsX11_aLine wsX11_must := goodIn_r _ [86, 79, 80, 81, 13, 82, 6, 7, 27, 19, 20, 21, 22, 23, 3, 24, 25, 8, 26, 28, 29, 30, 31, 32, 2, 33, 34, 35, 36, 37, 38, 39, 40, 41, 42, 43, 44, 45, 46, 47, 48, 49, 50, 51, 52, 53, 54, 55, 56, 57, 62, 63, 64, 65, 98, 99, 100, 101, 102, 103, 104, 105, 106, 107, 108, 109, 110, 111, 112, 113, 114, 115, 116, 117] (by decide +kernel) (by decide +kernel)
set_option maxRecDepth 20000 in
theorem gX11_aLine_X11_must : GoodIn wsX11_aLine (wsV RX11 179 RX11 yX11_must wsX11_must) := goodIn_app (goodIn_of _ (by decide +kernel)) ggX11_aLine_X11_must
set_option maxRecDepth 20000 in
theorem ggX11_aLine_X11_isIn : GoodIn wsX11_aLine wsX11_isIn := goodIn_r _ [97] (by decide +kernel) (by decide +kernel)
set_option maxRecDepth 20000 in
theorem gX11_aLine_X11_isIn : GoodIn wsX11_aLine (va_wsS RX11 43 yX11_isIn wsX11_isIn) := goodIn_app (goodIn_of _ (by decide +kernel)) ggX11_aLine_X11_isIn
set_option maxRecDepth 20000 in
theorem ggX11_aLine_X11_stops : GoodIn wsX11_aLine wsX11_stops := goodIn_r _ [65, 6, 2, 3, 98, 99, 100, 101, 102, 103, 104, 105, 106, 107, 108, 109, 110, 111, 112, 113, 114, 115, 116, 117] (by decide +kernel) (by decide +kernel)
set_option maxRecDepth 20000 in
theorem gX11_aLine_X11_stops : GoodIn wsX11_aLine (wsV RX11 152 RX11 yX11_stops wsX11_stops) := goodIn_app (goodIn_of _ (by decide +kernel)) ggX11_aLine_X11_stops
set_option maxRecDepth 20000 in
theorem ggX11_aLine_X11_advance : GoodIn wsX11_aLine wsX11_advance := goodIn_r _ [22, 23, 3, 7, 24, 25, 8, 26, 27, 28, 29, 30, 13, 31, 32, 2, 33, 34, 35, 36, 37, 38, 39, 40, 41, 42, 43, 44, 45, 46, 47, 48, 49, 50, 51, 52, 53, 54, 55, 56, 57, 98, 99, 100, 101, 102, 103, 104, 105, 106, 107, 108, 109, 110, 111, 112, 113, 114, 115, 116, 117] (by decide +kernel) (by decide +kernel)
set_option maxRecDepth 20000 in
theorem gX11_aLine_X11_advance : GoodIn wsX11_aLine (wsV RX11 146 RX11 yX11_advance wsX11_advance) := goodIn_app (goodIn_of _ (by decide +kernel)) ggX11_aLine_X11_advance
set_option maxRecDepth 20000 in
theorem ggX11_aLine_X11_numbered : GoodIn wsX11_aLine wsX11_numbered := goodIn_r _ [90, 26, 6, 7, 19, 20, 21, 13, 22, 23, 3, 24, 25, 8, 27, 28, 29, 30, 31, 32, 2, 33, 34, 35, 36, 37, 38, 39, 40, 41, 42, 43, 44, 45, 46, 47, 48, 49, 50, 51, 52, 53, 54, 55, 56, 57, 62, 63, 64, 65, 98, 99, 100, 101, 102, 103, 104, 105, 106, 107, 108, 109, 110, 111, 112, 113, 114, 115, 116, 117] (by decide +kernel) (by decide +kernel)
set_option maxRecDepth 20000 in
theorem gX11_aLine_X11_numbered : GoodIn wsX11_aLine (wsV RX11 183 RX11 yX11_numbered wsX11_numbered) := goodIn_app (goodIn_of _ (by decide +kernel)) ggX11_aLine_X11_numbered
theorem dX11_aLine_0 : decode cX11_aLine 0 = .ok (.aload_n 0, 1) := by decide +kernel
theorem dX11_aLine_1 : decode cX11_aLine 1 = .ok (.getfield 187, 3) := by decide +kernel
theorem dX11_aLine_4 : decode cX11_aLine 4 = .ok (.bipush 20, 2) := by decide +kernel
theorem dX11_aLine_6 : decode cX11_aLine 6 = .ok (.if_icmp .lt 7, 3) := by decide +kernel
theorem dX11_aLine_9 : decode cX11_aLine 9 = .ok (.iconst 1, 1) := by decide +kernel
theorem dX11_aLine_10 : decode cX11_aLine 10 = .ok (.goto 4, 3) := by decide +kernel
theorem dX11_aLine_13 : decode cX11_aLine 13 = .ok (.iconst 0, 1) := by decide +kernel
theorem dX11_aLine_14 : decode cX11_aLine 14 = .ok (.istore_n 1, 1) := by decide +kernel
theorem dX11_aLine_15 : decode cX11_aLine 15 = .ok (.iload_n 1, 1) := by decide +kernel
theorem dX11_aLine_16 : decode cX11_aLine 16 = .ok (.ifCond .eq 32, 3) := by decide +kernel
theorem dX11_aLine_19 : decode cX11_aLine 19 = .ok (.aload_n 0, 1) := by decide +kernel
theorem dX11_aLine_20 : decode cX11_aLine 20 = .ok (.getfield 8, 3) := by decide +kernel
theorem dX11_aLine_23 : decode cX11_aLine 23 = .ok (.bipush 10, 2) := by decide +kernel
theorem dX11_aLine_25 : decode cX11_aLine 25 = .ok (.iaload, 1) := by decide +kernel
theorem dX11_aLine_26 : decode cX11_aLine 26 = .ok (.ifCond .ne 22, 3) := by decide +kernel
theorem dX11_aLine_29 : decode cX11_aLine 29 = .ok (.aload_n 0, 1) := by decide +kernel
theorem dX11_aLine_30 : decode cX11_aLine 30 = .ok (.getfield 8, 3) := by decide +kernel
theorem dX11_aLine_33 : decode cX11_aLine 33 = .ok (.bipush 10, 2) := by decide +kernel
theorem dX11_aLine_35 : decode cX11_aLine 35 = .ok (.iconst 2, 1) := by decide +kernel
theorem dX11_aLine_36 : decode cX11_aLine 36 = .ok (.iastore, 1) := by decide +kernel
theorem dX11_aLine_37 : decode cX11_aLine 37 = .ok (.aload_n 0, 1) := by decide +kernel
theorem dX11_aLine_38 : decode cX11_aLine 38 = .ok (.getfield 8, 3) := by decide +kernel
theorem dX11_aLine_41 : decode cX11_aLine 41 = .ok (.bipush 11, 2) := by decide +kernel
theorem dX11_aLine_43 : decode cX11_aLine 43 = .ok (.aload_n 0, 1) := by decide +kernel
theorem dX11_aLine_44 : decode cX11_aLine 44 = .ok (.getfield 110, 3) := by decide +kernel
theorem dX11_aLine_47 : decode cX11_aLine 47 = .ok (.iastore, 1) := by decide +kernel
theorem dX11_aLine_48 : decode cX11_aLine 48 = .ok (.aload_n 0, 1) := by decide +kernel
theorem dX11_aLine_49 : decode cX11_aLine 49 = .ok (.getfield 155, 3) := by decide +kernel
theorem dX11_aLine_52 : decode cX11_aLine 52 = .ok (.istore_n 2, 1) := by decide +kernel
theorem dX11_aLine_53 : decode cX11_aLine 53 = .ok (.aload_n 0, 1) := by decide +kernel
theorem dX11_aLine_54 : decode cX11_aLine 54 = .ok (.bipush 30, 2) := by decide +kernel
theorem dX11_aLine_56 : decode cX11_aLine 56 = .ok (.invokevirtual 164, 3) := by decide +kernel
theorem dX11_aLine_59 : decode cX11_aLine 59 = .ok (.istore_n 3, 1) := by decide +kernel
theorem dX11_aLine_60 : decode cX11_aLine 60 = .ok (.iload_n 3, 1) := by decide +kernel
theorem dX11_aLine_61 : decode cX11_aLine 61 = .ok (.ifCond .eq 18, 3) := by decide +kernel
theorem dX11_aLine_64 : decode cX11_aLine 64 = .ok (.aload_n 0, 1) := by decide +kernel
theorem dX11_aLine_65 : decode cX11_aLine 65 = .ok (.iconst 0, 1) := by decide +kernel
theorem dX11_aLine_66 : decode cX11_aLine 66 = .ok (.putfield 158, 3) := by decide +kernel
theorem dX11_aLine_69 : decode cX11_aLine 69 = .ok (.aload_n 0, 1) := by decide +kernel
theorem dX11_aLine_70 : decode cX11_aLine 70 = .ok (.invokevirtual 176, 3) := by decide +kernel
theorem dX11_aLine_73 : decode cX11_aLine 73 = .ok (.aload_n 0, 1) := by decide +kernel
theorem dX11_aLine_74 : decode cX11_aLine 74 = .ok (.bipush 58, 2) := by decide +kernel
theorem dX11_aLine_76 : decode cX11_aLine 76 = .ok (.invokevirtual 179, 3) := by decide +kernel
theorem dX11_aLine_79 : decode cX11_aLine 79 = .ok (.aload_n 0, 1) := by decide +kernel
theorem dX11_aLine_80 : decode cX11_aLine 80 = .ok (.getfield 139, 3) := by decide +kernel
theorem dX11_aLine_83 : decode cX11_aLine 83 = .ok (.ifCond .ne 39, 3) := by decide +kernel
theorem dX11_aLine_86 : decode cX11_aLine 86 = .ok (.aload_n 0, 1) := by decide +kernel
theorem dX11_aLine_87 : decode cX11_aLine 87 = .ok (.getfield 113, 3) := by decide +kernel
theorem dX11_aLine_90 : decode cX11_aLine 90 = .ok (.iconst 3, 1) := by decide +kernel
theorem dX11_aLine_91 : decode cX11_aLine 91 = .ok (.if_icmp .ne 31, 3) := by decide +kernel
theorem dX11_aLine_94 : decode cX11_aLine 94 = .ok (.aload_n 0, 1) := by decide +kernel
theorem dX11_aLine_95 : decode cX11_aLine 95 = .ok (.getfield 124, 3) := by decide +kernel
theorem dX11_aLine_98 : decode cX11_aLine 98 = .ok (.bipush 8, 2) := by decide +kernel
theorem dX11_aLine_100 : decode cX11_aLine 100 = .ok (.bipush 11, 2) := by decide +kernel
theorem dX11_aLine_102 : decode cX11_aLine 102 = .ok (.invokestatic 43, 3) := by decide +kernel
theorem dX11_aLine_105 : decode cX11_aLine 105 = .ok (.ifCond .ne 22, 3) := by decide +kernel
theorem dX11_aLine_108 : decode cX11_aLine 108 = .ok (.aload_n 0, 1) := by decide +kernel
theorem dX11_aLine_109 : decode cX11_aLine 109 = .ok (.getfield 124, 3) := by decide +kernel
theorem dX11_aLine_112 : decode cX11_aLine 112 = .ok (.bipush 24, 2) := by decide +kernel
theorem dX11_aLine_114 : decode cX11_aLine 114 = .ok (.bipush 26, 2) := by decide +kernel
theorem dX11_aLine_116 : decode cX11_aLine 116 = .ok (.invokestatic 43, 3) := by decide +kernel
theorem dX11_aLine_119 : decode cX11_aLine 119 = .ok (.ifCond .ne 8, 3) := by decide +kernel
theorem dX11_aLine_122 : decode cX11_aLine 122 = .ok (.aload_n 0, 1) := by decide +kernel
theorem dX11_aLine_123 : decode cX11_aLine 123 = .ok (.invokevirtual 152, 3) := by decide +kernel
theorem dX11_aLine_126 : decode cX11_aLine 126 = .ok (.return_, 1) := by decide +kernel
theorem dX11_aLine_127 : decode cX11_aLine 127 = .ok (.aload_n 0, 1) := by decide +kernel
theorem dX11_aLine_128 : decode cX11_aLine 128 = .ok (.getfield 124, 3) := by decide +kernel
theorem dX11_aLine_131 : decode cX11_aLine 131 = .ok (.istore 4, 2) := by decide +kernel
theorem dX11_aLine_133 : decode cX11_aLine 133 = .ok (.aload_n 0, 1) := by decide +kernel
theorem dX11_aLine_134 : decode cX11_aLine 134 = .ok (.invokevirtual 146, 3) := by decide +kernel
theorem dX11_aLine_137 : decode cX11_aLine 137 = .ok (.iload 4, 2) := by decide +kernel
theorem dX11_aLine_139 : decode cX11_aLine 139 = .ok (.bipush 26, 2) := by decide +kernel
theorem dX11_aLine_141 : decode cX11_aLine 141 = .ok (.if_icmp .ne 10, 3) := by decide +kernel
theorem dX11_aLine_144 : decode cX11_aLine 144 = .ok (.aload_n 0, 1) := by decide +kernel
theorem dX11_aLine_145 : decode cX11_aLine 145 = .ok (.invokevirtual 183, 3) := by decide +kernel
theorem dX11_aLine_148 : decode cX11_aLine 148 = .ok (.goto 4, 3) := by decide +kernel
theorem dX11_aLine_151 : decode cX11_aLine 151 = .ok (.iconst 0, 1) := by decide +kernel
theorem dX11_aLine_152 : decode cX11_aLine 152 = .ok (.istore 5, 2) := by decide +kernel
theorem dX11_aLine_154 : decode cX11_aLine 154 = .ok (.aload_n 0, 1) := by decide +kernel
theorem dX11_aLine_155 : decode cX11_aLine 155 = .ok (.bipush 59, 2) := by decide +kernel
theorem dX11_aLine_157 : decode cX11_aLine 157 = .ok (.invokevirtual 179, 3) := by decide +kernel
theorem dX11_aLine_160 : decode cX11_aLine 160 = .ok (.iload_n 1, 1) := by decide +kernel
theorem dX11_aLine_161 : decode cX11_aLine 161 = .ok (.ifCond .ne 70, 3) := by decide +kernel
theorem dX11_aLine_164 : decode cX11_aLine 164 = .ok (.aload_n 0, 1) := by decide +kernel
theorem dX11_aLine_165 : decode cX11_aLine 165 = .ok (.getfield 18, 3) := by decide +kernel
theorem dX11_aLine_168 : decode cX11_aLine 168 = .ok (.iconst 4, 1) := by decide +kernel
theorem dX11_aLine_169 : decode cX11_aLine 169 = .ok (.aload_n 0, 1) := by decide +kernel
theorem dX11_aLine_170 : decode cX11_aLine 170 = .ok (.getfield 187, 3) := by decide +kernel
theorem dX11_aLine_173 : decode cX11_aLine 173 = .ok (.imul, 1) := by decide +kernel
theorem dX11_aLine_174 : decode cX11_aLine 174 = .ok (.iload_n 3, 1) := by decide +kernel
theorem dX11_aLine_175 : decode cX11_aLine 175 = .ok (.ifCond .eq 7, 3) := by decide +kernel
theorem dX11_aLine_178 : decode cX11_aLine 178 = .ok (.iload_n 2, 1) := by decide +kernel
theorem dX11_aLine_179 : decode cX11_aLine 179 = .ok (.goto 4, 3) := by decide +kernel
theorem dX11_aLine_182 : decode cX11_aLine 182 = .ok (.iconst (-1), 1) := by decide +kernel
theorem dX11_aLine_183 : decode cX11_aLine 183 = .ok (.iastore, 1) := by decide +kernel
theorem dX11_aLine_184 : decode cX11_aLine 184 = .ok (.aload_n 0, 1) := by decide +kernel
theorem dX11_aLine_185 : decode cX11_aLine 185 = .ok (.getfield 18, 3) := by decide +kernel
theorem dX11_aLine_188 : decode cX11_aLine 188 = .ok (.iconst 4, 1) := by decide +kernel
theorem dX11_aLine_189 : decode cX11_aLine 189 = .ok (.aload_n 0, 1) := by decide +kernel
theorem dX11_aLine_190 : decode cX11_aLine 190 = .ok (.getfield 187, 3) := by decide +kernel
theorem dX11_aLine_193 : decode cX11_aLine 193 = .ok (.imul, 1) := by decide +kernel
theorem dX11_aLine_194 : decode cX11_aLine 194 = .ok (.iconst 1, 1) := by decide +kernel
theorem dX11_aLine_195 : decode cX11_aLine 195 = .ok (.iadd, 1) := by decide +kernel
theorem dX11_aLine_196 : decode cX11_aLine 196 = .ok (.aload_n 0, 1) := by decide +kernel
theorem dX11_aLine_197 : decode cX11_aLine 197 = .ok (.getfield 155, 3) := by decide +kernel
theorem dX11_aLine_200 : decode cX11_aLine 200 = .ok (.iastore, 1) := by decide +kernel
theorem dX11_aLine_201 : decode cX11_aLine 201 = .ok (.aload_n 0, 1) := by decide +kernel
theorem dX11_aLine_202 : decode cX11_aLine 202 = .ok (.getfield 18, 3) := by decide +kernel
theorem dX11_aLine_205 : decode cX11_aLine 205 = .ok (.iconst 4, 1) := by decide +kernel
theorem dX11_aLine_206 : decode cX11_aLine 206 = .ok (.aload_n 0, 1) := by decide +kernel
theorem dX11_aLine_207 : decode cX11_aLine 207 = .ok (.getfield 187, 3) := by decide +kernel
theorem dX11_aLine_210 : decode cX11_aLine 210 = .ok (.imul, 1) := by decide +kernel
theorem dX11_aLine_211 : decode cX11_aLine 211 = .ok (.iconst 2, 1) := by decide +kernel
theorem dX11_aLine_212 : decode cX11_aLine 212 = .ok (.iadd, 1) := by decide +kernel
theorem dX11_aLine_213 : decode cX11_aLine 213 = .ok (.iload 4, 2) := by decide +kernel
theorem dX11_aLine_215 : decode cX11_aLine 215 = .ok (.iastore, 1) := by decide +kernel
theorem dX11_aLine_216 : decode cX11_aLine 216 = .ok (.aload_n 0, 1) := by decide +kernel
theorem dX11_aLine_217 : decode cX11_aLine 217 = .ok (.getfield 18, 3) := by decide +kernel
theorem dX11_aLine_220 : decode cX11_aLine 220 = .ok (.iconst 4, 1) := by decide +kernel
theorem dX11_aLine_221 : decode cX11_aLine 221 = .ok (.aload_n 0, 1) := by decide +kernel
theorem dX11_aLine_222 : decode cX11_aLine 222 = .ok (.getfield 187, 3) := by decide +kernel
theorem dX11_aLine_225 : decode cX11_aLine 225 = .ok (.imul, 1) := by decide +kernel
theorem dX11_aLine_226 : decode cX11_aLine 226 = .ok (.iconst 3, 1) := by decide +kernel
theorem dX11_aLine_227 : decode cX11_aLine 227 = .ok (.iadd, 1) := by decide +kernel
theorem dX11_aLine_228 : decode cX11_aLine 228 = .ok (.iload 5, 2) := by decide +kernel
theorem dX11_aLine_230 : decode cX11_aLine 230 = .ok (.iastore, 1) := by decide +kernel
theorem dX11_aLine_231 : decode cX11_aLine 231 = .ok (.aload_n 0, 1) := by decide +kernel
theorem dX11_aLine_232 : decode cX11_aLine 232 = .ok (.dup, 1) := by decide +kernel
theorem dX11_aLine_233 : decode cX11_aLine 233 = .ok (.getfield 187, 3) := by decide +kernel
theorem dX11_aLine_236 : decode cX11_aLine 236 = .ok (.iconst 1, 1) := by decide +kernel
theorem dX11_aLine_237 : decode cX11_aLine 237 = .ok (.iadd, 1) := by decide +kernel
theorem dX11_aLine_238 : decode cX11_aLine 238 = .ok (.putfield 187, 3) := by decide +kernel
theorem dX11_aLine_241 : decode cX11_aLine 241 = .ok (.return_, 1) := by decide +kernel

set_option maxRecDepth 20000 in
theorem ggX11_orders_X11_isShip : GoodIn wsX11_orders wsX11_isShip := goodIn_r _ [14, 1, 15, 16, 13, 17, 110, 111, 112, 113, 114, 115, 116, 117, 118, 119, 120, 121, 122, 123, 124, 125, 126, 127, 128, 129] (by decide +kernel) (by decide +kernel)
set_option maxRecDepth 20000 in
theorem gX11_orders_X11_isShip : GoodIn wsX11_orders (wsV RX11 190 RX11 yX11_isShip wsX11_isShip) := goodIn_app (goodIn_of _ (by decide +kernel)) ggX11_orders_X11_isShip
set_option maxRecDepth 20000 in
theorem ggX11_orders_X11_advance : GoodIn wsX11_orders wsX11_advance := goodIn_r _ [21, 3, 22, 7, 23, 24, 25, 26, 27, 28, 29, 30, 13, 31, 2, 1, 32, 33, 34, 35, 36, 37, 38, 39, 40, 41, 42, 43, 44, 45, 46, 47, 48, 49, 50, 51, 52, 53, 54, 55, 56, 110, 111, 112, 113, 114, 115, 116, 117, 118, 119, 120, 121, 122, 123, 124, 125, 126, 127, 128, 129] (by decide +kernel) (by decide +kernel)
set_option maxRecDepth 20000 in
theorem gX11_orders_X11_advance : GoodIn wsX11_orders (wsV RX11 146 RX11 yX11_advance wsX11_advance) := goodIn_app (goodIn_of _ (by decide +kernel)) ggX11_orders_X11_advance
set_option maxRecDepth 20000 in
theorem ggX11_orders_X11_aLine : GoodIn wsX11_orders wsX11_aLine := goodIn_r _ [60, 5, 1, 22, 6, 61, 4, 7, 25, 8, 62, 63, 64, 13, 65, 66, 67, 68, 69, 18, 19, 20, 21, 3, 23, 24, 26, 27, 28, 29, 30, 31, 2, 32, 33, 34, 35, 36, 37, 38, 39, 40, 41, 42, 43, 44, 45, 46, 47, 48, 49, 50, 51, 52, 53, 54, 55, 56, 70, 71, 72, 73, 74, 75, 76, 77, 78, 79, 80, 81, 82, 83, 84, 9, 85, 86, 87, 88, 89, 90, 91, 92, 93, 94, 95, 96, 97, 98, 99, 100, 101, 102, 103, 104, 105, 15, 16, 17, 110, 111, 112, 113, 114, 115, 116, 117, 118, 119, 120, 121, 122, 123, 124, 125, 126, 127, 128, 129] (by decide +kernel) (by decide +kernel)
set_option maxRecDepth 20000 in
theorem gX11_orders_X11_aLine : GoodIn wsX11_orders (wsV RX11 193 RX11 yX11_aLine wsX11_aLine) := goodIn_app (goodIn_of _ (by decide +kernel)) ggX11_orders_X11_aLine
set_option maxRecDepth 20000 in
theorem ggX11_orders_X11_ships : GoodIn wsX11_orders wsX11_ships := goodIn_r _ [109, 1, 110, 111, 112, 113, 114, 115, 116, 117, 118, 119, 120, 121, 122, 123, 124, 125, 126, 127, 128, 129] (by decide +kernel) (by decide +kernel)
set_option maxRecDepth 20000 in
theorem gX11_orders_X11_ships : GoodIn wsX11_orders (wsV RX11 69 RX11 yX11_ships wsX11_ships) := goodIn_app (goodIn_of _ (by decide +kernel)) ggX11_orders_X11_ships
theorem dX11_orders_0 : decode cX11_orders 0 = .ok (.aload_n 0, 1) := by decide +kernel
theorem dX11_orders_1 : decode cX11_orders 1 = .ok (.iload_n 1, 1) := by decide +kernel
theorem dX11_orders_2 : decode cX11_orders 2 = .ok (.invokevirtual 190, 3) := by decide +kernel
theorem dX11_orders_5 : decode cX11_orders 5 = .ok (.ifCond .ne 6, 3) := by decide +kernel
theorem dX11_orders_8 : decode cX11_orders 8 = .ok (.bipush (-2), 2) := by decide +kernel
theorem dX11_orders_10 : decode cX11_orders 10 = .ok (.ireturn, 1) := by decide +kernel
theorem dX11_orders_11 : decode cX11_orders 11 = .ok (.aload_n 0, 1) := by decide +kernel
theorem dX11_orders_12 : decode cX11_orders 12 = .ok (.aload_n 0, 1) := by decide +kernel
theorem dX11_orders_13 : decode cX11_orders 13 = .ok (.getfield 8, 3) := by decide +kernel
theorem dX11_orders_16 : decode cX11_orders 16 = .ok (.bipush 9, 2) := by decide +kernel
theorem dX11_orders_18 : decode cX11_orders 18 = .ok (.iaload, 1) := by decide +kernel
theorem dX11_orders_19 : decode cX11_orders 19 = .ok (.putfield 73, 3) := by decide +kernel
theorem dX11_orders_22 : decode cX11_orders 22 = .ok (.aload_n 0, 1) := by decide +kernel
theorem dX11_orders_23 : decode cX11_orders 23 = .ok (.getfield 8, 3) := by decide +kernel
theorem dX11_orders_26 : decode cX11_orders 26 = .ok (.bipush 9, 2) := by decide +kernel
theorem dX11_orders_28 : decode cX11_orders 28 = .ok (.iconst 0, 1) := by decide +kernel
theorem dX11_orders_29 : decode cX11_orders 29 = .ok (.iastore, 1) := by decide +kernel
theorem dX11_orders_30 : decode cX11_orders 30 = .ok (.aload_n 0, 1) := by decide +kernel
theorem dX11_orders_31 : decode cX11_orders 31 = .ok (.iconst 0, 1) := by decide +kernel
theorem dX11_orders_32 : decode cX11_orders 32 = .ok (.putfield 103, 3) := by decide +kernel
theorem dX11_orders_35 : decode cX11_orders 35 = .ok (.aload_n 0, 1) := by decide +kernel
theorem dX11_orders_36 : decode cX11_orders 36 = .ok (.getfield 8, 3) := by decide +kernel
theorem dX11_orders_39 : decode cX11_orders 39 = .ok (.bipush 10, 2) := by decide +kernel
theorem dX11_orders_41 : decode cX11_orders 41 = .ok (.iconst 0, 1) := by decide +kernel
theorem dX11_orders_42 : decode cX11_orders 42 = .ok (.iastore, 1) := by decide +kernel
theorem dX11_orders_43 : decode cX11_orders 43 = .ok (.aload_n 0, 1) := by decide +kernel
theorem dX11_orders_44 : decode cX11_orders 44 = .ok (.getfield 8, 3) := by decide +kernel
theorem dX11_orders_47 : decode cX11_orders 47 = .ok (.bipush 11, 2) := by decide +kernel
theorem dX11_orders_49 : decode cX11_orders 49 = .ok (.iconst (-1), 1) := by decide +kernel
theorem dX11_orders_50 : decode cX11_orders 50 = .ok (.iastore, 1) := by decide +kernel
theorem dX11_orders_51 : decode cX11_orders 51 = .ok (.aload_n 0, 1) := by decide +kernel
theorem dX11_orders_52 : decode cX11_orders 52 = .ok (.iconst 0, 1) := by decide +kernel
theorem dX11_orders_53 : decode cX11_orders 53 = .ok (.putfield 139, 3) := by decide +kernel
theorem dX11_orders_56 : decode cX11_orders 56 = .ok (.aload_n 0, 1) := by decide +kernel
theorem dX11_orders_57 : decode cX11_orders 57 = .ok (.iconst 0, 1) := by decide +kernel
theorem dX11_orders_58 : decode cX11_orders 58 = .ok (.putfield 187, 3) := by decide +kernel
theorem dX11_orders_61 : decode cX11_orders 61 = .ok (.aload_n 0, 1) := by decide +kernel
theorem dX11_orders_62 : decode cX11_orders 62 = .ok (.iconst 0, 1) := by decide +kernel
theorem dX11_orders_63 : decode cX11_orders 63 = .ok (.putfield 155, 3) := by decide +kernel
theorem dX11_orders_66 : decode cX11_orders 66 = .ok (.aload_n 0, 1) := by decide +kernel
theorem dX11_orders_67 : decode cX11_orders 67 = .ok (.invokevirtual 146, 3) := by decide +kernel
theorem dX11_orders_70 : decode cX11_orders 70 = .ok (.aload_n 0, 1) := by decide +kernel
theorem dX11_orders_71 : decode cX11_orders 71 = .ok (.getfield 139, 3) := by decide +kernel
theorem dX11_orders_74 : decode cX11_orders 74 = .ok (.ifCond .ne 17, 3) := by decide +kernel
theorem dX11_orders_77 : decode cX11_orders 77 = .ok (.aload_n 0, 1) := by decide +kernel
theorem dX11_orders_78 : decode cX11_orders 78 = .ok (.getfield 113, 3) := by decide +kernel
theorem dX11_orders_81 : decode cX11_orders 81 = .ok (.ifCond .eq 10, 3) := by decide +kernel
theorem dX11_orders_84 : decode cX11_orders 84 = .ok (.aload_n 0, 1) := by decide +kernel
theorem dX11_orders_85 : decode cX11_orders 85 = .ok (.invokevirtual 193, 3) := by decide +kernel
theorem dX11_orders_88 : decode cX11_orders 88 = .ok (.goto (-18), 3) := by decide +kernel
theorem dX11_orders_91 : decode cX11_orders 91 = .ok (.aload_n 0, 1) := by decide +kernel
theorem dX11_orders_92 : decode cX11_orders 92 = .ok (.getfield 8, 3) := by decide +kernel
theorem dX11_orders_95 : decode cX11_orders 95 = .ok (.bipush 10, 2) := by decide +kernel
theorem dX11_orders_97 : decode cX11_orders 97 = .ok (.iaload, 1) := by decide +kernel
theorem dX11_orders_98 : decode cX11_orders 98 = .ok (.ifCond .eq 5, 3) := by decide +kernel
theorem dX11_orders_101 : decode cX11_orders 101 = .ok (.iconst (-1), 1) := by decide +kernel
theorem dX11_orders_102 : decode cX11_orders 102 = .ok (.ireturn, 1) := by decide +kernel
theorem dX11_orders_103 : decode cX11_orders 103 = .ok (.iconst 0, 1) := by decide +kernel
theorem dX11_orders_104 : decode cX11_orders 104 = .ok (.istore_n 2, 1) := by decide +kernel
theorem dX11_orders_105 : decode cX11_orders 105 = .ok (.iload_n 2, 1) := by decide +kernel
theorem dX11_orders_106 : decode cX11_orders 106 = .ok (.bipush 80, 2) := by decide +kernel
theorem dX11_orders_108 : decode cX11_orders 108 = .ok (.if_icmp .ge 30, 3) := by decide +kernel
theorem dX11_orders_111 : decode cX11_orders 111 = .ok (.aload_n 0, 1) := by decide +kernel
theorem dX11_orders_112 : decode cX11_orders 112 = .ok (.getfield 8, 3) := by decide +kernel
theorem dX11_orders_115 : decode cX11_orders 115 = .ok (.sipush 3460, 3) := by decide +kernel
theorem dX11_orders_118 : decode cX11_orders 118 = .ok (.bipush 80, 2) := by decide +kernel
theorem dX11_orders_120 : decode cX11_orders 120 = .ok (.iload_n 1, 1) := by decide +kernel
theorem dX11_orders_121 : decode cX11_orders 121 = .ok (.imul, 1) := by decide +kernel
theorem dX11_orders_122 : decode cX11_orders 122 = .ok (.iadd, 1) := by decide +kernel
theorem dX11_orders_123 : decode cX11_orders 123 = .ok (.iload_n 2, 1) := by decide +kernel
theorem dX11_orders_124 : decode cX11_orders 124 = .ok (.iadd, 1) := by decide +kernel
theorem dX11_orders_125 : decode cX11_orders 125 = .ok (.aload_n 0, 1) := by decide +kernel
theorem dX11_orders_126 : decode cX11_orders 126 = .ok (.getfield 18, 3) := by decide +kernel
theorem dX11_orders_129 : decode cX11_orders 129 = .ok (.iload_n 2, 1) := by decide +kernel
theorem dX11_orders_130 : decode cX11_orders 130 = .ok (.iaload, 1) := by decide +kernel
theorem dX11_orders_131 : decode cX11_orders 131 = .ok (.iastore, 1) := by decide +kernel
theorem dX11_orders_132 : decode cX11_orders 132 = .ok (.iinc 2 1, 3) := by decide +kernel
theorem dX11_orders_135 : decode cX11_orders 135 = .ok (.goto (-30), 3) := by decide +kernel
theorem dX11_orders_138 : decode cX11_orders 138 = .ok (.iconst 0, 1) := by decide +kernel
theorem dX11_orders_139 : decode cX11_orders 139 = .ok (.istore_n 2, 1) := by decide +kernel
theorem dX11_orders_140 : decode cX11_orders 140 = .ok (.iload_n 2, 1) := by decide +kernel
theorem dX11_orders_141 : decode cX11_orders 141 = .ok (.sipush 780, 3) := by decide +kernel
theorem dX11_orders_144 : decode cX11_orders 144 = .ok (.if_icmp .ge 31, 3) := by decide +kernel
theorem dX11_orders_147 : decode cX11_orders 147 = .ok (.aload_n 0, 1) := by decide +kernel
theorem dX11_orders_148 : decode cX11_orders 148 = .ok (.getfield 8, 3) := by decide +kernel
theorem dX11_orders_151 : decode cX11_orders 151 = .ok (.sipush 4100, 3) := by decide +kernel
theorem dX11_orders_154 : decode cX11_orders 154 = .ok (.sipush 780, 3) := by decide +kernel
theorem dX11_orders_157 : decode cX11_orders 157 = .ok (.iload_n 1, 1) := by decide +kernel
theorem dX11_orders_158 : decode cX11_orders 158 = .ok (.imul, 1) := by decide +kernel
theorem dX11_orders_159 : decode cX11_orders 159 = .ok (.iadd, 1) := by decide +kernel
theorem dX11_orders_160 : decode cX11_orders 160 = .ok (.iload_n 2, 1) := by decide +kernel
theorem dX11_orders_161 : decode cX11_orders 161 = .ok (.iadd, 1) := by decide +kernel
theorem dX11_orders_162 : decode cX11_orders 162 = .ok (.aload_n 0, 1) := by decide +kernel
theorem dX11_orders_163 : decode cX11_orders 163 = .ok (.getfield 21, 3) := by decide +kernel
theorem dX11_orders_166 : decode cX11_orders 166 = .ok (.iload_n 2, 1) := by decide +kernel
theorem dX11_orders_167 : decode cX11_orders 167 = .ok (.iaload, 1) := by decide +kernel
theorem dX11_orders_168 : decode cX11_orders 168 = .ok (.iastore, 1) := by decide +kernel
theorem dX11_orders_169 : decode cX11_orders 169 = .ok (.iinc 2 1, 3) := by decide +kernel
theorem dX11_orders_172 : decode cX11_orders 172 = .ok (.goto (-32), 3) := by decide +kernel
theorem dX11_orders_175 : decode cX11_orders 175 = .ok (.aload_n 0, 1) := by decide +kernel
theorem dX11_orders_176 : decode cX11_orders 176 = .ok (.iload_n 1, 1) := by decide +kernel
theorem dX11_orders_177 : decode cX11_orders 177 = .ok (.bipush 8, 2) := by decide +kernel
theorem dX11_orders_179 : decode cX11_orders 179 = .ok (.aload_n 0, 1) := by decide +kernel
theorem dX11_orders_180 : decode cX11_orders 180 = .ok (.getfield 187, 3) := by decide +kernel
theorem dX11_orders_183 : decode cX11_orders 183 = .ok (.invokevirtual 69, 3) := by decide +kernel
theorem dX11_orders_186 : decode cX11_orders 186 = .ok (.aload_n 0, 1) := by decide +kernel
theorem dX11_orders_187 : decode cX11_orders 187 = .ok (.getfield 187, 3) := by decide +kernel
theorem dX11_orders_190 : decode cX11_orders 190 = .ok (.ireturn, 1) := by decide +kernel

/-! X11_aLine -/
def wX11_aLine_122 (Q : Int32 → Int32 → Int32 → Int32 → Int32 → Int32 → Int32 → Int32 → Int32 → Int32 → (Nat → Int32) → (Nat → Int32) → (Nat → Int32) → Prop)   (f_size : Int32) (f_next : Int32) (f_where : Int32) (f_token : Int32) (f_number : Int32) (f_sign : Int32) (f_word : Int32) (f_wrong : Int32) (f_open : Int32) (f_lines : Int32) (f_acts : Int32) (r_act : (Nat → Int32)) (r_all : (Nat → Int32)) (r_line : (Nat → Int32)) : Prop :=
  (wX11_stops (fun f_wrong_1 r_all_2 => (Q f_next f_where f_token f_number f_sign f_word f_wrong_1 f_open f_lines f_acts r_act r_all_2 r_line)) f_where f_wrong r_all)
def wX11_aLine_231 (Q : Int32 → Int32 → Int32 → Int32 → Int32 → Int32 → Int32 → Int32 → Int32 → Int32 → (Nat → Int32) → (Nat → Int32) → (Nat → Int32) → Prop)   (f_size : Int32) (f_next : Int32) (f_where : Int32) (f_token : Int32) (f_number : Int32) (f_sign : Int32) (f_word : Int32) (f_wrong : Int32) (f_open : Int32) (f_lines : Int32) (f_acts : Int32) (r_act : (Nat → Int32)) (r_all : (Nat → Int32)) (r_line : (Nat → Int32)) : Prop :=
  (Q f_next f_where f_token f_number f_sign f_word f_wrong f_open (f_lines + (1 : Int32)) f_acts r_act r_all r_line)
def wX11_aLine_183 (Q : Int32 → Int32 → Int32 → Int32 → Int32 → Int32 → Int32 → Int32 → Int32 → Int32 → (Nat → Int32) → (Nat → Int32) → (Nat → Int32) → Prop)   (x4 : Int32) (x5 : Int32) (s1 : Int32) (s2 : Int32) (f_size : Int32) (f_next : Int32) (f_where : Int32) (f_token : Int32) (f_number : Int32) (f_sign : Int32) (f_word : Int32) (f_wrong : Int32) (f_open : Int32) (f_lines : Int32) (f_acts : Int32) (r_act : (Nat → Int32)) (r_all : (Nat → Int32)) (r_line : (Nat → Int32)) : Prop :=
  (vp_in s1 80 ∧ (vp_in (((4 : Int32) * f_lines) + (1 : Int32)) 80 ∧ (vp_in (((4 : Int32) * f_lines) + (2 : Int32)) 80 ∧ (vp_in (((4 : Int32) * f_lines) + (3 : Int32)) 80 ∧ (wX11_aLine_231 Q f_size f_next f_where f_token f_number f_sign f_word f_wrong f_open f_lines f_acts r_act r_all (upd (upd (upd (upd r_line s1.toNatClampNeg s2) (((4 : Int32) * f_lines) + (1 : Int32)).toNatClampNeg f_acts) (((4 : Int32) * f_lines) + (2 : Int32)).toNatClampNeg x4) (((4 : Int32) * f_lines) + (3 : Int32)).toNatClampNeg x5))))))
def wX11_aLine_152 (Q : Int32 → Int32 → Int32 → Int32 → Int32 → Int32 → Int32 → Int32 → Int32 → Int32 → (Nat → Int32) → (Nat → Int32) → (Nat → Int32) → Prop)   (x1 : Int32) (x2 : Int32) (x3 : Int32) (x4 : Int32) (s0 : Int32) (f_size : Int32) (f_next : Int32) (f_where : Int32) (f_token : Int32) (f_number : Int32) (f_sign : Int32) (f_word : Int32) (f_wrong : Int32) (f_open : Int32) (f_lines : Int32) (f_acts : Int32) (r_act : (Nat → Int32)) (r_all : (Nat → Int32)) (r_line : (Nat → Int32)) : Prop :=
  (wX11_must (fun f_next_7 f_where_8 f_token_9 f_number_10 f_sign_11 f_word_12 f_wrong_13 r_all_14 => ((¬ x1 = 0 → (wX11_aLine_231 Q f_size f_next_7 f_where_8 f_token_9 f_number_10 f_sign_11 f_word_12 f_wrong_13 f_open f_lines f_acts r_act r_all_14 r_line)) ∧ (x1 = 0 → ((x3 = 0 → (wX11_aLine_183 Q x4 s0 ((4 : Int32) * f_lines) (-1 : Int32) f_size f_next_7 f_where_8 f_token_9 f_number_10 f_sign_11 f_word_12 f_wrong_13 f_open f_lines f_acts r_act r_all_14 r_line)) ∧ (¬ x3 = 0 → (wX11_aLine_183 Q x4 s0 ((4 : Int32) * f_lines) x2 f_size f_next_7 f_where_8 f_token_9 f_number_10 f_sign_11 f_word_12 f_wrong_13 f_open f_lines f_acts r_act r_all_14 r_line)))))) (59 : Int32) f_size f_next f_where f_token f_number f_sign f_word f_wrong r_all)
def wX11_aLine_127 (Q : Int32 → Int32 → Int32 → Int32 → Int32 → Int32 → Int32 → Int32 → Int32 → Int32 → (Nat → Int32) → (Nat → Int32) → (Nat → Int32) → Prop)   (x1 : Int32) (x2 : Int32) (x3 : Int32) (f_size : Int32) (f_next : Int32) (f_where : Int32) (f_token : Int32) (f_number : Int32) (f_sign : Int32) (f_word : Int32) (f_wrong : Int32) (f_open : Int32) (f_lines : Int32) (f_acts : Int32) (r_act : (Nat → Int32)) (r_all : (Nat → Int32)) (r_line : (Nat → Int32)) : Prop :=
  (wX11_advance (fun f_next_17 f_where_18 f_token_19 f_number_20 f_sign_21 f_word_22 => ((¬ f_word = (26 : Int32) → (wX11_aLine_152 Q x1 x2 x3 f_word (0 : Int32) f_size f_next_17 f_where_18 f_token_19 f_number_20 f_sign_21 f_word_22 f_wrong f_open f_lines f_acts r_act r_all r_line)) ∧ (f_word = (26 : Int32) → (wX11_numbered (fun r_32 f_next_24 f_where_25 f_token_26 f_number_27 f_sign_28 f_word_29 f_wrong_30 r_all_31 => (wX11_aLine_152 Q x1 x2 x3 f_word r_32 f_size f_next_24 f_where_25 f_token_26 f_number_27 f_sign_28 f_word_29 f_wrong_30 f_open f_lines f_acts r_act r_all_31 r_line)) f_size f_next_17 f_where_18 f_token_19 f_number_20 f_sign_21 f_word_22 f_wrong r_all)))) f_size f_next f_where f_token f_number f_sign f_word r_all)
def wX11_aLine_79 (Q : Int32 → Int32 → Int32 → Int32 → Int32 → Int32 → Int32 → Int32 → Int32 → Int32 → (Nat → Int32) → (Nat → Int32) → (Nat → Int32) → Prop)   (x1 : Int32) (x2 : Int32) (x3 : Int32) (f_size : Int32) (f_next : Int32) (f_where : Int32) (f_token : Int32) (f_number : Int32) (f_sign : Int32) (f_word : Int32) (f_wrong : Int32) (f_open : Int32) (f_lines : Int32) (f_acts : Int32) (r_act : (Nat → Int32)) (r_all : (Nat → Int32)) (r_line : (Nat → Int32)) : Prop :=
  ((¬ f_wrong = 0 → (wX11_aLine_122 Q f_size f_next f_where f_token f_number f_sign f_word f_wrong f_open f_lines f_acts r_act r_all r_line)) ∧ (f_wrong = 0 → ((¬ f_token = (3 : Int32) → (wX11_aLine_122 Q f_size f_next f_where f_token f_number f_sign f_word f_wrong f_open f_lines f_acts r_act r_all r_line)) ∧ (f_token = (3 : Int32) → (wX11_isIn (fun r_35 => ((¬ r_35 = 0 → (wX11_aLine_127 Q x1 x2 x3 f_size f_next f_where f_token f_number f_sign f_word f_wrong f_open f_lines f_acts r_act r_all r_line)) ∧ (r_35 = 0 → (wX11_isIn (fun r_37 => ((¬ r_37 = 0 → (wX11_aLine_127 Q x1 x2 x3 f_size f_next f_where f_token f_number f_sign f_word f_wrong f_open f_lines f_acts r_act r_all r_line)) ∧ (r_37 = 0 → (wX11_aLine_122 Q f_size f_next f_where f_token f_number f_sign f_word f_wrong f_open f_lines f_acts r_act r_all r_line)))) f_word (24 : Int32) (26 : Int32))))) f_word (8 : Int32) (11 : Int32))))))
def wX11_aLine_48 (Q : Int32 → Int32 → Int32 → Int32 → Int32 → Int32 → Int32 → Int32 → Int32 → Int32 → (Nat → Int32) → (Nat → Int32) → (Nat → Int32) → Prop)   (x1 : Int32) (f_size : Int32) (f_next : Int32) (f_where : Int32) (f_token : Int32) (f_number : Int32) (f_sign : Int32) (f_word : Int32) (f_wrong : Int32) (f_open : Int32) (f_lines : Int32) (f_acts : Int32) (r_act : (Nat → Int32)) (r_all : (Nat → Int32)) (r_line : (Nat → Int32)) : Prop :=
  (wX11_takesWord (fun r_45 f_next_39 f_where_40 f_token_41 f_number_42 f_sign_43 f_word_44 => ((r_45 = 0 → (wX11_aLine_79 Q x1 f_acts r_45 f_size f_next_39 f_where_40 f_token_41 f_number_42 f_sign_43 f_word_44 f_wrong f_open f_lines f_acts r_act r_all r_line)) ∧ (¬ r_45 = 0 → (wX11_anyOf (fun f_next_47 f_where_48 f_token_49 f_number_50 f_sign_51 f_word_52 f_wrong_53 f_open_54 f_acts_55 r_act_56 r_all_57 => (wX11_must (fun f_next_58 f_where_59 f_token_60 f_number_61 f_sign_62 f_word_63 f_wrong_64 r_all_65 => (wX11_aLine_79 Q x1 f_acts r_45 f_size f_next_58 f_where_59 f_token_60 f_number_61 f_sign_62 f_word_63 f_wrong_64 f_open_54 f_lines f_acts_55 r_act_56 r_all_65 r_line)) (58 : Int32) f_size f_next_47 f_where_48 f_token_49 f_number_50 f_sign_51 f_word_52 f_wrong_53 r_all_57)) f_size f_next_39 f_where_40 f_token_41 f_number_42 f_sign_43 f_word_44 f_wrong (0 : Int32) f_acts r_act r_all)))) (30 : Int32) f_size f_next f_where f_token f_number f_sign f_word f_wrong r_all)
def wX11_aLine_14 (Q : Int32 → Int32 → Int32 → Int32 → Int32 → Int32 → Int32 → Int32 → Int32 → Int32 → (Nat → Int32) → (Nat → Int32) → (Nat → Int32) → Prop)   (s0 : Int32) (f_size : Int32) (f_next : Int32) (f_where : Int32) (f_token : Int32) (f_number : Int32) (f_sign : Int32) (f_word : Int32) (f_wrong : Int32) (f_open : Int32) (f_lines : Int32) (f_acts : Int32) (r_act : (Nat → Int32)) (r_all : (Nat → Int32)) (r_line : (Nat → Int32)) : Prop :=
  ((s0 = 0 → (wX11_aLine_48 Q s0 f_size f_next f_where f_token f_number f_sign f_word f_wrong f_open f_lines f_acts r_act r_all r_line)) ∧ (¬ s0 = 0 → (vp_in (10 : Int32) 53700 ∧ ((¬ (r_all (10 : Int32).toNatClampNeg) = 0 → (wX11_aLine_48 Q s0 f_size f_next f_where f_token f_number f_sign f_word f_wrong f_open f_lines f_acts r_act r_all r_line)) ∧ ((r_all (10 : Int32).toNatClampNeg) = 0 → (vp_in (10 : Int32) 53700 ∧ (vp_in (11 : Int32) 53700 ∧ (wX11_aLine_48 Q s0 f_size f_next f_where f_token f_number f_sign f_word f_wrong f_open f_lines f_acts r_act (upd (upd r_all (10 : Int32).toNatClampNeg (2 : Int32)) (11 : Int32).toNatClampNeg f_where) r_line))))))))
def wX11_aLine (Q : Int32 → Int32 → Int32 → Int32 → Int32 → Int32 → Int32 → Int32 → Int32 → Int32 → (Nat → Int32) → (Nat → Int32) → (Nat → Int32) → Prop)  (f_size : Int32) (f_next : Int32) (f_where : Int32) (f_token : Int32) (f_number : Int32) (f_sign : Int32) (f_word : Int32) (f_wrong : Int32) (f_open : Int32) (f_lines : Int32) (f_acts : Int32) (r_act : Nat → Int32) (r_all : Nat → Int32) (r_line : Nat → Int32) : Prop :=
  ((f_lines < (20 : Int32) → (wX11_aLine_14 Q (0 : Int32) f_size f_next f_where f_token f_number f_sign f_word f_wrong f_open f_lines f_acts r_act r_all r_line)) ∧ (¬ f_lines < (20 : Int32) → (wX11_aLine_14 Q (1 : Int32) f_size f_next f_where f_token f_number f_sign f_word f_wrong f_open f_lines f_acts r_act r_all r_line)))
abbrev vX11_aLine (cI cZ : ClassId) (h h_all h_has h_line h_act h_pile h_comes h_leaves h_tried h_met : Nat) (f_size : Int32) (f_next : Int32) (f_where : Int32) (f_token : Int32) (f_number : Int32) (f_sign : Int32) (f_word : Int32) (f_wrong : Int32) (f_open : Int32) (f_lines : Int32) (f_acts : Int32) (r_act : Nat → Int32) (r_all : Nat → Int32) (r_line : Nat → Int32) : va_W := [(h, .inr (10, [.ref h_all, .ref h_has, .int f_size, .int f_next, .int f_where, .int f_token, .int f_number, .int f_sign, .int f_word, .int f_wrong, .int f_open, .int f_lines, .int f_acts, .ref h_line, .ref h_act, .ref h_pile, .ref h_comes, .ref h_leaves, .ref h_tried, .ref h_met])), (h_act, .inl (cI, 780, .inl r_act)), (h_all, .inl (cI, 53700, .inl r_all)), (h_line, .inl (cI, 80, .inl r_line))]
abbrev rmX11_aLine : Room := { frames := 46, cells := 0, slots := 0, locals := 959 }
abbrev qX11_aLine (dC : Nat → ClassId) (dI : Nat → Nat → Nat) (cI cZ cO cW : ClassId) (h h_all h_has h_line h_act h_pile h_comes h_leaves h_tried h_met : Nat) (f_size : Int32) (Q : Int32 → Int32 → Int32 → Int32 → Int32 → Int32 → Int32 → Int32 → Int32 → Int32 → (Nat → Int32) → (Nat → Int32) → (Nat → Int32) → Prop) (A : Nat → Prop) : Array Value → State → Outcome → State → Prop := va_Qv (fun (u : Int32 × Int32 × Int32 × Int32 × Int32 × Int32 × Int32 × Int32 × Int32 × Int32 × (Nat → Int32) × (Nat → Int32) × (Nat → Int32)) => Q u.1 u.2.1 u.2.2.1 u.2.2.2.1 u.2.2.2.2.1 u.2.2.2.2.2.1 u.2.2.2.2.2.2.1 u.2.2.2.2.2.2.2.1 u.2.2.2.2.2.2.2.2.1 u.2.2.2.2.2.2.2.2.2.1 u.2.2.2.2.2.2.2.2.2.2.1 u.2.2.2.2.2.2.2.2.2.2.2.1 u.2.2.2.2.2.2.2.2.2.2.2.2) (fun (u : Int32 × Int32 × Int32 × Int32 × Int32 × Int32 × Int32 × Int32 × Int32 × Int32 × (Nat → Int32) × (Nat → Int32) × (Nat → Int32)) (t : State) => va_P (dC, dI) vwCl (vX11_aLine cI cZ h h_all h_has h_line h_act h_pile h_comes h_leaves h_tried h_met f_size u.1 u.2.1 u.2.2.1 u.2.2.2.1 u.2.2.2.2.1 u.2.2.2.2.2.1 u.2.2.2.2.2.2.1 u.2.2.2.2.2.2.2.1 u.2.2.2.2.2.2.2.2.1 u.2.2.2.2.2.2.2.2.2.1 u.2.2.2.2.2.2.2.2.2.2.1 u.2.2.2.2.2.2.2.2.2.2.2.1 u.2.2.2.2.2.2.2.2.2.2.2.2) t.heap ∧ va_K (dC, dI) vwCl (tysA cI cZ cO cW) t ∧ va_D A (vX11_aLine cI cZ h h_all h_has h_line h_act h_pile h_comes h_leaves h_tried h_met f_size u.1 u.2.1 u.2.2.1 u.2.2.2.1 u.2.2.2.2.1 u.2.2.2.2.2.1 u.2.2.2.2.2.2.1 u.2.2.2.2.2.2.2.1 u.2.2.2.2.2.2.2.2.1 u.2.2.2.2.2.2.2.2.2.1 u.2.2.2.2.2.2.2.2.2.2.1 u.2.2.2.2.2.2.2.2.2.2.2.1 u.2.2.2.2.2.2.2.2.2.2.2.2)) A
theorem mX11_aLine_0 : Cond.fieldLink RX11 187 "IcePilotsModel" "lines" "I" ∈ wsX11_aLine := by decide +kernel
theorem mX11_aLine_1 : Cond.fieldLink RX11 18 "IcePilotsModel" "line" "[I" ∈ wsX11_aLine := by decide +kernel
theorem mX11_aLine_2 : Cond.fieldLink RX11 155 "IcePilotsModel" "acts" "I" ∈ wsX11_aLine := by decide +kernel
theorem mX11_aLine_3 : Cond.fieldLink RX11 124 "IcePilotsModel" "word" "I" ∈ wsX11_aLine := by decide +kernel
theorem mX11_aLine_4 : Cond.fieldLink RX11 139 "IcePilotsModel" "wrong" "Z" ∈ wsX11_aLine := by decide +kernel
theorem mX11_aLine_5 : Cond.fieldLink RX11 113 "IcePilotsModel" "token" "I" ∈ wsX11_aLine := by decide +kernel
theorem mX11_aLine_6 : Cond.fieldLink RX11 158 "IcePilotsModel" "open" "I" ∈ wsX11_aLine := by decide +kernel
theorem mX11_aLine_7 : Cond.fieldLink RX11 8 "IcePilotsModel" "all" "[I" ∈ wsX11_aLine := by decide +kernel
theorem mX11_aLine_8 : Cond.fieldLink RX11 110 "IcePilotsModel" "where" "I" ∈ wsX11_aLine := by decide +kernel
theorem uX11_aLine_X11 : ∀ w ∈ u_ws RX11 TX11 20, w ∈ wsX11_aLine := by decide +kernel
set_option maxHeartbeats 4000000 in
set_option maxRecDepth 100000 in
theorem tX11_aLine_122 {p : Program} {l : Launch} {e : Env} {s : State} {m : MethodId} {args : Array Value} {below : List Frame} {meth : Method} {c : Code} {dC : Nat → ClassId} {dI : Nat → Nat → Nat} {cI cZ cO cW : ClassId} {A : Nat → Prop} {h h_all h_has h_line h_act h_pile h_comes h_leaves h_tried h_met : Nat} {Q : Int32 → Int32 → Int32 → Int32 → Int32 → Int32 → Int32 → Int32 → Int32 → Int32 → (Nat → Int32) → (Nat → Int32) → (Nat → Int32) → Prop}  (hC : Cx p s m args meth c cX11_aLine none 6 wsX11_aLine RX11) (hK : va_K (dC, dI) vwCl (tysA cI cZ cO cW) s) (hA : ∀ q : Nat, s.heap.size ≤ q → A q) :
    ∀ (f_size : Int32) (f_next : Int32) (f_where : Int32) (f_token : Int32) (f_number : Int32) (f_sign : Int32) (f_word : Int32) (f_wrong : Int32) (f_open : Int32) (f_lines : Int32) (f_acts : Int32) (r_act : (Nat → Int32)) (r_all : (Nat → Int32)) (r_line : (Nat → Int32)) (H : Heap) (locs : List Loc) (ls : Array Slot), wX11_aLine_122 Q  f_size f_next f_where f_token f_number f_sign f_word f_wrong f_open f_lines f_acts r_act r_all r_line → va_P (dC, dI) vwCl (vX11_aLine cI cZ h h_all h_has h_line h_act h_pile h_comes h_leaves h_tried h_met f_size f_next f_where f_token f_number f_sign f_word f_wrong f_open f_lines f_acts r_act r_all r_line) H → va_D A (vX11_aLine cI cZ h h_all h_has h_line h_act h_pile h_comes h_leaves h_tried h_met f_size f_next f_where f_token f_number f_sign f_word f_wrong f_open f_lines f_acts r_act r_all r_line) → va_S A s.heap H locs → lv_has ls 6 [(0, .ref h)] → W p l e rmX11_aLine s m args below meth c H locs 0 0 (MQ below (qX11_aLine dC dI cI cZ cO cW h h_all h_has h_line h_act h_pile h_comes h_leaves h_tried h_met f_size Q A) args s 0 0 A) (F0 m 122 ls []) := by
  obtain ⟨hx, hb, hr, hml, hown, hts, hlocks⟩ := id hC
  intro f_size f_next f_where f_token f_number f_sign f_word f_wrong f_open f_lines f_acts r_act r_all r_line H locs ls hw hP hD hS hl
  refine lv_aload_n hx hb dX11_aLine_122 rfl (lv_at hl 0 rfl) ?_
  have hPc := hP.sub (ws' := [(h, .inr (10, [.ref h_all, .ref h_has, .int f_size, .int f_next, .int f_where, .int f_token, .int f_number, .int f_sign, .int f_word, .int f_wrong, .int f_open, .int f_lines, .int f_acts, .ref h_line, .ref h_act, .ref h_pile, .ref h_comes, .ref h_leaves, .ref h_tried, .ref h_met])), (h_all, .inl (cI, 53700, .inl r_all))]) [0, 2] rfl
  have hDc := hD.sub (ws' := [(h, .inr (10, [.ref h_all, .ref h_has, .int f_size, .int f_next, .int f_where, .int f_token, .int f_number, .int f_sign, .int f_word, .int f_wrong, .int f_open, .int f_lines, .int f_acts, .ref h_line, .ref h_act, .ref h_pile, .ref h_comes, .ref h_leaves, .ref h_tried, .ref h_met])), (h_all, .inl (cI, 53700, .inl r_all))]) [0, 2] (by decide) rfl
  have hFc := va_free (wc := [(h, .inr (10, [.ref h_all, .ref h_has, .int f_size, .int f_next, .int f_where, .int f_token, .int f_number, .int f_sign, .int f_word, .int f_wrong, .int f_open, .int f_lines, .int f_acts, .ref h_line, .ref h_act, .ref h_pile, .ref h_comes, .ref h_leaves, .ref h_tried, .ref h_met])), (h_all, .inl (cI, 53700, .inl r_all))]) hD hS hA [0, 2] rfl
  refine va_callv (va_runV (As := []) (rest := []) ⟨hx, hb, hml, hown, hts⟩ (kX11_stops l dC dI cI cZ cO cW h h_all h_has h_line h_act h_pile h_comes h_leaves h_tried h_met H.size f_size f_next f_token f_number f_sign f_word f_open f_lines f_acts f_where f_wrong r_all _ hw) (cwV 0 hts gX11_aLine_X11_stops rfl rfl rfl (by decide +kernel) ⟨Nat.le_of_ble_eq_true rfl, Nat.le_of_ble_eq_true rfl⟩) (pv_of hPc hK hDc (va_recv hK hPc (ci := 10) (q0 := 0) rfl rfl)) rfl rfl hl.1 rfl (lv_room (Nat.le_of_ble_eq_true rfl)) dX11_aLine_123 ⟨Nat.zero_le _, Nat.zero_le _⟩) hS (fun q _ h => hFc q h) hFc (fun u t H locs ht hvm hw hB hz1 hk1 hS => ?_)
  obtain ⟨f_wrong_1, r_all_2⟩ := u
  obtain ⟨hP, hD⟩ := af_join (wr := [(h_act, .inl (cI, 780, .inl r_act)), (h_line, .inl (cI, 80, .inl r_line))]) (w1 := [(h, .inr (10, [.ref h_all, .ref h_has, .int f_size, .int f_next, .int f_where, .int f_token, .int f_number, .int f_sign, .int f_word, .int f_wrong_1, .int f_open, .int f_lines, .int f_acts, .ref h_line, .ref h_act, .ref h_pile, .ref h_comes, .ref h_leaves, .ref h_tried, .ref h_met])), (h_all, .inl (cI, 53700, .inl r_all_2))]) hB ht hP hD [0, 2] [1, 3] rfl rfl (by decide) (by decide) hk1 hFc
  have hP : va_P (dC, dI) vwCl [(h_act, .inl (cI, 780, .inl r_act)), (h_line, .inl (cI, 80, .inl r_line)), (h, .inr (10, [.ref h_all, .ref h_has, .int f_size, .int f_next, .int f_where, .int f_token, .int f_number, .int f_sign, .int f_word, .int f_wrong_1, .int f_open, .int f_lines, .int f_acts, .ref h_line, .ref h_act, .ref h_pile, .ref h_comes, .ref h_leaves, .ref h_tried, .ref h_met])), (h_all, .inl (cI, 53700, .inl r_all_2))] _ := hP
  have hD : va_D A [(h_act, .inl (cI, 780, .inl r_act)), (h_line, .inl (cI, 80, .inl r_line)), (h, .inr (10, [.ref h_all, .ref h_has, .int f_size, .int f_next, .int f_where, .int f_token, .int f_number, .int f_sign, .int f_word, .int f_wrong_1, .int f_open, .int f_lines, .int f_acts, .ref h_line, .ref h_act, .ref h_pile, .ref h_comes, .ref h_leaves, .ref h_tried, .ref h_met])), (h_all, .inl (cI, 53700, .inl r_all_2))] := hD
  have hP9 := hP.sub (ws' := (vX11_aLine cI cZ h h_all h_has h_line h_act h_pile h_comes h_leaves h_tried h_met f_size f_next f_where f_token f_number f_sign f_word f_wrong_1 f_open f_lines f_acts r_act r_all_2 r_line)) [2, 0, 3, 1] rfl
  have hD9 := hD.sub (ws' := (vX11_aLine cI cZ h h_all h_has h_line h_act h_pile h_comes h_leaves h_tried h_met f_size f_next f_where f_token f_number f_sign f_word f_wrong_1 f_open f_lines f_acts r_act r_all_2 r_line)) [2, 0, 3, 1] (by decide) rfl
  exact W.vret hx hb hr (fun t ht hW => ⟨⟨(f_next, f_where, f_token, f_number, f_sign, f_word, f_wrong_1, f_open, f_lines, f_acts, r_act, r_all_2, r_line), rfl, hw, by rw [ht]; exact hP9, va_K.moved hW.alike hK, hD9⟩, hS.F ht⟩) hS.2.2 dX11_aLine_126
set_option maxHeartbeats 4000000 in
set_option maxRecDepth 100000 in
theorem tX11_aLine_231 {p : Program} {l : Launch} {e : Env} {s : State} {m : MethodId} {args : Array Value} {below : List Frame} {meth : Method} {c : Code} {dC : Nat → ClassId} {dI : Nat → Nat → Nat} {cI cZ cO cW : ClassId} {A : Nat → Prop} {h h_all h_has h_line h_act h_pile h_comes h_leaves h_tried h_met : Nat} {Q : Int32 → Int32 → Int32 → Int32 → Int32 → Int32 → Int32 → Int32 → Int32 → Int32 → (Nat → Int32) → (Nat → Int32) → (Nat → Int32) → Prop}  (hC : Cx p s m args meth c cX11_aLine none 6 wsX11_aLine RX11) (hK : va_K (dC, dI) vwCl (tysA cI cZ cO cW) s) (hA : ∀ q : Nat, s.heap.size ≤ q → A q) :
    ∀ (f_size : Int32) (f_next : Int32) (f_where : Int32) (f_token : Int32) (f_number : Int32) (f_sign : Int32) (f_word : Int32) (f_wrong : Int32) (f_open : Int32) (f_lines : Int32) (f_acts : Int32) (r_act : (Nat → Int32)) (r_all : (Nat → Int32)) (r_line : (Nat → Int32)) (H : Heap) (locs : List Loc) (ls : Array Slot), wX11_aLine_231 Q  f_size f_next f_where f_token f_number f_sign f_word f_wrong f_open f_lines f_acts r_act r_all r_line → va_P (dC, dI) vwCl (vX11_aLine cI cZ h h_all h_has h_line h_act h_pile h_comes h_leaves h_tried h_met f_size f_next f_where f_token f_number f_sign f_word f_wrong f_open f_lines f_acts r_act r_all r_line) H → va_D A (vX11_aLine cI cZ h h_all h_has h_line h_act h_pile h_comes h_leaves h_tried h_met f_size f_next f_where f_token f_number f_sign f_word f_wrong f_open f_lines f_acts r_act r_all r_line) → va_S A s.heap H locs → lv_has ls 6 [(0, .ref h)] → W p l e rmX11_aLine s m args below meth c H locs 0 0 (MQ below (qX11_aLine dC dI cI cZ cO cW h h_all h_has h_line h_act h_pile h_comes h_leaves h_tried h_met f_size Q A) args s 0 0 A) (F0 m 231 ls []) := by
  obtain ⟨hx, hb, hr, hml, hown, hts, hlocks⟩ := id hC
  intro f_size f_next f_where f_token f_number f_sign f_word f_wrong f_open f_lines f_acts r_act r_all r_line H locs ls hw hP hD hS hl
  refine lv_aload_n hx hb dX11_aLine_231 rfl (lv_at hl 0 rfl) ?_
  refine lv_dup hx hb dX11_aLine_232 rfl ?_
  refine va_get (D := (dC, dI)) (ci := 10) (v := .int f_lines) (C := RX11) (T := TX11) (N := 20) hx hb hts uX11_aLine_X11 hown hK hP 0 rfl rfl 11 (by decide) (hts _ mX11_aLine_0) (fun _ h9 => h9) rfl dX11_aLine_233 ?_
  refine lv_iconst (v := (1 : Int32)) hx hb dX11_aLine_236 (by decide) ?_
  refine lv_iadd hx hb dX11_aLine_237 ?_
  refine va_put (D := (dC, dI)) (ci := 10) (v := .int (f_lines + (1 : Int32))) (ty := .int) (C := RX11) (T := TX11) (N := 20) hx hb hts uX11_aLine_X11 tyX11 tyX11_ok nmX11 hown hK hP hD hS 0 rfl rfl 11 (by decide) (hts _ mX11_aLine_0) (fun _ h9 => h9) rfl (tyX11_ok 11 (by decide)) rfl rfl (Nat.le_of_ble_eq_true rfl) dX11_aLine_238 (fun H locs hP hD hS => ?_)
  have hP : va_P (dC, dI) vwCl [(h, .inr (10, [.ref h_all, .ref h_has, .int f_size, .int f_next, .int f_where, .int f_token, .int f_number, .int f_sign, .int f_word, .int f_wrong, .int f_open, .int (f_lines + (1 : Int32)), .int f_acts, .ref h_line, .ref h_act, .ref h_pile, .ref h_comes, .ref h_leaves, .ref h_tried, .ref h_met])), (h_act, .inl (cI, 780, .inl r_act)), (h_all, .inl (cI, 53700, .inl r_all)), (h_line, .inl (cI, 80, .inl r_line))] _ := hP
  have hD : va_D A [(h, .inr (10, [.ref h_all, .ref h_has, .int f_size, .int f_next, .int f_where, .int f_token, .int f_number, .int f_sign, .int f_word, .int f_wrong, .int f_open, .int (f_lines + (1 : Int32)), .int f_acts, .ref h_line, .ref h_act, .ref h_pile, .ref h_comes, .ref h_leaves, .ref h_tried, .ref h_met])), (h_act, .inl (cI, 780, .inl r_act)), (h_all, .inl (cI, 53700, .inl r_all)), (h_line, .inl (cI, 80, .inl r_line))] := hD
  have hP9 := hP.sub (ws' := (vX11_aLine cI cZ h h_all h_has h_line h_act h_pile h_comes h_leaves h_tried h_met f_size f_next f_where f_token f_number f_sign f_word f_wrong f_open (f_lines + (1 : Int32)) f_acts r_act r_all r_line)) [0, 1, 2, 3] rfl
  have hD9 := hD.sub (ws' := (vX11_aLine cI cZ h h_all h_has h_line h_act h_pile h_comes h_leaves h_tried h_met f_size f_next f_where f_token f_number f_sign f_word f_wrong f_open (f_lines + (1 : Int32)) f_acts r_act r_all r_line)) [0, 1, 2, 3] (by decide) rfl
  exact W.vret hx hb hr (fun t ht hW => ⟨⟨(f_next, f_where, f_token, f_number, f_sign, f_word, f_wrong, f_open, (f_lines + (1 : Int32)), f_acts, r_act, r_all, r_line), rfl, hw, by rw [ht]; exact hP9, va_K.moved hW.alike hK, hD9⟩, hS.F ht⟩) hS.2.2 dX11_aLine_241
set_option maxHeartbeats 4000000 in
set_option maxRecDepth 100000 in
theorem tX11_aLine_183 {p : Program} {l : Launch} {e : Env} {s : State} {m : MethodId} {args : Array Value} {below : List Frame} {meth : Method} {c : Code} {dC : Nat → ClassId} {dI : Nat → Nat → Nat} {cI cZ cO cW : ClassId} {A : Nat → Prop} {h h_all h_has h_line h_act h_pile h_comes h_leaves h_tried h_met : Nat} {Q : Int32 → Int32 → Int32 → Int32 → Int32 → Int32 → Int32 → Int32 → Int32 → Int32 → (Nat → Int32) → (Nat → Int32) → (Nat → Int32) → Prop}  (hC : Cx p s m args meth c cX11_aLine none 6 wsX11_aLine RX11) (hK : va_K (dC, dI) vwCl (tysA cI cZ cO cW) s) (hA : ∀ q : Nat, s.heap.size ≤ q → A q) :
    ∀ (x4 : Int32) (x5 : Int32) (s1 : Int32) (s2 : Int32) (f_size : Int32) (f_next : Int32) (f_where : Int32) (f_token : Int32) (f_number : Int32) (f_sign : Int32) (f_word : Int32) (f_wrong : Int32) (f_open : Int32) (f_lines : Int32) (f_acts : Int32) (r_act : (Nat → Int32)) (r_all : (Nat → Int32)) (r_line : (Nat → Int32)) (H : Heap) (locs : List Loc) (ls : Array Slot), wX11_aLine_183 Q  x4 x5 s1 s2 f_size f_next f_where f_token f_number f_sign f_word f_wrong f_open f_lines f_acts r_act r_all r_line → va_P (dC, dI) vwCl (vX11_aLine cI cZ h h_all h_has h_line h_act h_pile h_comes h_leaves h_tried h_met f_size f_next f_where f_token f_number f_sign f_word f_wrong f_open f_lines f_acts r_act r_all r_line) H → va_D A (vX11_aLine cI cZ h h_all h_has h_line h_act h_pile h_comes h_leaves h_tried h_met f_size f_next f_where f_token f_number f_sign f_word f_wrong f_open f_lines f_acts r_act r_all r_line) → va_S A s.heap H locs → lv_has ls 6 [(0, .ref h), (4, .int x4), (5, .int x5)] → W p l e rmX11_aLine s m args below meth c H locs 0 0 (MQ below (qX11_aLine dC dI cI cZ cO cW h h_all h_has h_line h_act h_pile h_comes h_leaves h_tried h_met f_size Q A) args s 0 0 A) (F0 m 183 ls [.int s2, .int s1, .ref h_line]) := by
  obtain ⟨hx, hb, hr, hml, hown, hts, hlocks⟩ := id hC
  intro x4 x5 s1 s2 f_size f_next f_where f_token f_number f_sign f_word f_wrong f_open f_lines f_acts r_act r_all r_line H locs ls hw hP hD hS hl
  obtain ⟨h_3, hw⟩ := hw
  refine va_iast hx hb hK hP hD hS 3 0 rfl rfl h_3 dX11_aLine_183 (fun H locs hP hD hS => ?_)
  have hP : va_P (dC, dI) vwCl [(h, .inr (10, [.ref h_all, .ref h_has, .int f_size, .int f_next, .int f_where, .int f_token, .int f_number, .int f_sign, .int f_word, .int f_wrong, .int f_open, .int f_lines, .int f_acts, .ref h_line, .ref h_act, .ref h_pile, .ref h_comes, .ref h_leaves, .ref h_tried, .ref h_met])), (h_act, .inl (cI, 780, .inl r_act)), (h_all, .inl (cI, 53700, .inl r_all)), (h_line, .inl (cI, 80, .inl (upd r_line s1.toNatClampNeg s2)))] _ := hP
  have hD : va_D A [(h, .inr (10, [.ref h_all, .ref h_has, .int f_size, .int f_next, .int f_where, .int f_token, .int f_number, .int f_sign, .int f_word, .int f_wrong, .int f_open, .int f_lines, .int f_acts, .ref h_line, .ref h_act, .ref h_pile, .ref h_comes, .ref h_leaves, .ref h_tried, .ref h_met])), (h_act, .inl (cI, 780, .inl r_act)), (h_all, .inl (cI, 53700, .inl r_all)), (h_line, .inl (cI, 80, .inl (upd r_line s1.toNatClampNeg s2)))] := hD
  refine lv_aload_n hx hb dX11_aLine_184 rfl (lv_at hl 0 rfl) ?_
  refine va_get (D := (dC, dI)) (ci := 10) (v := .ref h_line) (C := RX11) (T := TX11) (N := 20) hx hb hts uX11_aLine_X11 hown hK hP 0 rfl rfl 13 (by decide) (hts _ mX11_aLine_1) (fun _ h9 => h9) rfl dX11_aLine_185 ?_
  refine lv_iconst (v := (4 : Int32)) hx hb dX11_aLine_188 (by decide) ?_
  refine lv_aload_n hx hb dX11_aLine_189 rfl (lv_at hl 0 rfl) ?_
  refine va_get (D := (dC, dI)) (ci := 10) (v := .int f_lines) (C := RX11) (T := TX11) (N := 20) hx hb hts uX11_aLine_X11 hown hK hP 0 rfl rfl 11 (by decide) (hts _ mX11_aLine_0) (fun _ h9 => h9) rfl dX11_aLine_190 ?_
  refine lv_imul hx hb dX11_aLine_193 ?_
  refine lv_iconst (v := (1 : Int32)) hx hb dX11_aLine_194 (by decide) ?_
  refine lv_iadd hx hb dX11_aLine_195 ?_
  refine lv_aload_n hx hb dX11_aLine_196 rfl (lv_at hl 0 rfl) ?_
  refine va_get (D := (dC, dI)) (ci := 10) (v := .int f_acts) (C := RX11) (T := TX11) (N := 20) hx hb hts uX11_aLine_X11 hown hK hP 0 rfl rfl 12 (by decide) (hts _ mX11_aLine_2) (fun _ h9 => h9) rfl dX11_aLine_197 ?_
  obtain ⟨h_4, hw⟩ := hw
  refine va_iast hx hb hK hP hD hS 3 0 rfl rfl h_4 dX11_aLine_200 (fun H locs hP hD hS => ?_)
  have hP : va_P (dC, dI) vwCl [(h, .inr (10, [.ref h_all, .ref h_has, .int f_size, .int f_next, .int f_where, .int f_token, .int f_number, .int f_sign, .int f_word, .int f_wrong, .int f_open, .int f_lines, .int f_acts, .ref h_line, .ref h_act, .ref h_pile, .ref h_comes, .ref h_leaves, .ref h_tried, .ref h_met])), (h_act, .inl (cI, 780, .inl r_act)), (h_all, .inl (cI, 53700, .inl r_all)), (h_line, .inl (cI, 80, .inl (upd (upd r_line s1.toNatClampNeg s2) (((4 : Int32) * f_lines) + (1 : Int32)).toNatClampNeg f_acts)))] _ := hP
  have hD : va_D A [(h, .inr (10, [.ref h_all, .ref h_has, .int f_size, .int f_next, .int f_where, .int f_token, .int f_number, .int f_sign, .int f_word, .int f_wrong, .int f_open, .int f_lines, .int f_acts, .ref h_line, .ref h_act, .ref h_pile, .ref h_comes, .ref h_leaves, .ref h_tried, .ref h_met])), (h_act, .inl (cI, 780, .inl r_act)), (h_all, .inl (cI, 53700, .inl r_all)), (h_line, .inl (cI, 80, .inl (upd (upd r_line s1.toNatClampNeg s2) (((4 : Int32) * f_lines) + (1 : Int32)).toNatClampNeg f_acts)))] := hD
  refine lv_aload_n hx hb dX11_aLine_201 rfl (lv_at hl 0 rfl) ?_
  refine va_get (D := (dC, dI)) (ci := 10) (v := .ref h_line) (C := RX11) (T := TX11) (N := 20) hx hb hts uX11_aLine_X11 hown hK hP 0 rfl rfl 13 (by decide) (hts _ mX11_aLine_1) (fun _ h9 => h9) rfl dX11_aLine_202 ?_
  refine lv_iconst (v := (4 : Int32)) hx hb dX11_aLine_205 (by decide) ?_
  refine lv_aload_n hx hb dX11_aLine_206 rfl (lv_at hl 0 rfl) ?_
  refine va_get (D := (dC, dI)) (ci := 10) (v := .int f_lines) (C := RX11) (T := TX11) (N := 20) hx hb hts uX11_aLine_X11 hown hK hP 0 rfl rfl 11 (by decide) (hts _ mX11_aLine_0) (fun _ h9 => h9) rfl dX11_aLine_207 ?_
  refine lv_imul hx hb dX11_aLine_210 ?_
  refine lv_iconst (v := (2 : Int32)) hx hb dX11_aLine_211 (by decide) ?_
  refine lv_iadd hx hb dX11_aLine_212 ?_
  refine lv_iload hx hb dX11_aLine_213 (lv_at hl 1 rfl) ?_
  obtain ⟨h_5, hw⟩ := hw
  refine va_iast hx hb hK hP hD hS 3 0 rfl rfl h_5 dX11_aLine_215 (fun H locs hP hD hS => ?_)
  have hP : va_P (dC, dI) vwCl [(h, .inr (10, [.ref h_all, .ref h_has, .int f_size, .int f_next, .int f_where, .int f_token, .int f_number, .int f_sign, .int f_word, .int f_wrong, .int f_open, .int f_lines, .int f_acts, .ref h_line, .ref h_act, .ref h_pile, .ref h_comes, .ref h_leaves, .ref h_tried, .ref h_met])), (h_act, .inl (cI, 780, .inl r_act)), (h_all, .inl (cI, 53700, .inl r_all)), (h_line, .inl (cI, 80, .inl (upd (upd (upd r_line s1.toNatClampNeg s2) (((4 : Int32) * f_lines) + (1 : Int32)).toNatClampNeg f_acts) (((4 : Int32) * f_lines) + (2 : Int32)).toNatClampNeg x4)))] _ := hP
  have hD : va_D A [(h, .inr (10, [.ref h_all, .ref h_has, .int f_size, .int f_next, .int f_where, .int f_token, .int f_number, .int f_sign, .int f_word, .int f_wrong, .int f_open, .int f_lines, .int f_acts, .ref h_line, .ref h_act, .ref h_pile, .ref h_comes, .ref h_leaves, .ref h_tried, .ref h_met])), (h_act, .inl (cI, 780, .inl r_act)), (h_all, .inl (cI, 53700, .inl r_all)), (h_line, .inl (cI, 80, .inl (upd (upd (upd r_line s1.toNatClampNeg s2) (((4 : Int32) * f_lines) + (1 : Int32)).toNatClampNeg f_acts) (((4 : Int32) * f_lines) + (2 : Int32)).toNatClampNeg x4)))] := hD
  refine lv_aload_n hx hb dX11_aLine_216 rfl (lv_at hl 0 rfl) ?_
  refine va_get (D := (dC, dI)) (ci := 10) (v := .ref h_line) (C := RX11) (T := TX11) (N := 20) hx hb hts uX11_aLine_X11 hown hK hP 0 rfl rfl 13 (by decide) (hts _ mX11_aLine_1) (fun _ h9 => h9) rfl dX11_aLine_217 ?_
  refine lv_iconst (v := (4 : Int32)) hx hb dX11_aLine_220 (by decide) ?_
  refine lv_aload_n hx hb dX11_aLine_221 rfl (lv_at hl 0 rfl) ?_
  refine va_get (D := (dC, dI)) (ci := 10) (v := .int f_lines) (C := RX11) (T := TX11) (N := 20) hx hb hts uX11_aLine_X11 hown hK hP 0 rfl rfl 11 (by decide) (hts _ mX11_aLine_0) (fun _ h9 => h9) rfl dX11_aLine_222 ?_
  refine lv_imul hx hb dX11_aLine_225 ?_
  refine lv_iconst (v := (3 : Int32)) hx hb dX11_aLine_226 (by decide) ?_
  refine lv_iadd hx hb dX11_aLine_227 ?_
  refine lv_iload hx hb dX11_aLine_228 (lv_at hl 2 rfl) ?_
  obtain ⟨h_6, hw⟩ := hw
  refine va_iast hx hb hK hP hD hS 3 0 rfl rfl h_6 dX11_aLine_230 (fun H locs hP hD hS => ?_)
  have hP : va_P (dC, dI) vwCl [(h, .inr (10, [.ref h_all, .ref h_has, .int f_size, .int f_next, .int f_where, .int f_token, .int f_number, .int f_sign, .int f_word, .int f_wrong, .int f_open, .int f_lines, .int f_acts, .ref h_line, .ref h_act, .ref h_pile, .ref h_comes, .ref h_leaves, .ref h_tried, .ref h_met])), (h_act, .inl (cI, 780, .inl r_act)), (h_all, .inl (cI, 53700, .inl r_all)), (h_line, .inl (cI, 80, .inl (upd (upd (upd (upd r_line s1.toNatClampNeg s2) (((4 : Int32) * f_lines) + (1 : Int32)).toNatClampNeg f_acts) (((4 : Int32) * f_lines) + (2 : Int32)).toNatClampNeg x4) (((4 : Int32) * f_lines) + (3 : Int32)).toNatClampNeg x5)))] _ := hP
  have hD : va_D A [(h, .inr (10, [.ref h_all, .ref h_has, .int f_size, .int f_next, .int f_where, .int f_token, .int f_number, .int f_sign, .int f_word, .int f_wrong, .int f_open, .int f_lines, .int f_acts, .ref h_line, .ref h_act, .ref h_pile, .ref h_comes, .ref h_leaves, .ref h_tried, .ref h_met])), (h_act, .inl (cI, 780, .inl r_act)), (h_all, .inl (cI, 53700, .inl r_all)), (h_line, .inl (cI, 80, .inl (upd (upd (upd (upd r_line s1.toNatClampNeg s2) (((4 : Int32) * f_lines) + (1 : Int32)).toNatClampNeg f_acts) (((4 : Int32) * f_lines) + (2 : Int32)).toNatClampNeg x4) (((4 : Int32) * f_lines) + (3 : Int32)).toNatClampNeg x5)))] := hD
  exact tX11_aLine_231 hC hK hA  f_size f_next f_where f_token f_number f_sign f_word f_wrong f_open f_lines f_acts r_act r_all (upd (upd (upd (upd r_line s1.toNatClampNeg s2) (((4 : Int32) * f_lines) + (1 : Int32)).toNatClampNeg f_acts) (((4 : Int32) * f_lines) + (2 : Int32)).toNatClampNeg x4) (((4 : Int32) * f_lines) + (3 : Int32)).toNatClampNeg x5) _ _ ls hw (hP.sub [0, 1, 2, 3] rfl) (hD.sub [0, 1, 2, 3] (by decide) rfl) hS (lv_sub hl [0] rfl)
set_option maxHeartbeats 4000000 in
set_option maxRecDepth 100000 in
theorem tX11_aLine_152 {p : Program} {l : Launch} {e : Env} {s : State} {m : MethodId} {args : Array Value} {below : List Frame} {meth : Method} {c : Code} {dC : Nat → ClassId} {dI : Nat → Nat → Nat} {cI cZ cO cW : ClassId} {A : Nat → Prop} {h h_all h_has h_line h_act h_pile h_comes h_leaves h_tried h_met : Nat} {Q : Int32 → Int32 → Int32 → Int32 → Int32 → Int32 → Int32 → Int32 → Int32 → Int32 → (Nat → Int32) → (Nat → Int32) → (Nat → Int32) → Prop}  (hC : Cx p s m args meth c cX11_aLine none 6 wsX11_aLine RX11) (hK : va_K (dC, dI) vwCl (tysA cI cZ cO cW) s) (hA : ∀ q : Nat, s.heap.size ≤ q → A q) :
    ∀ (x1 : Int32) (x2 : Int32) (x3 : Int32) (x4 : Int32) (s0 : Int32) (f_size : Int32) (f_next : Int32) (f_where : Int32) (f_token : Int32) (f_number : Int32) (f_sign : Int32) (f_word : Int32) (f_wrong : Int32) (f_open : Int32) (f_lines : Int32) (f_acts : Int32) (r_act : (Nat → Int32)) (r_all : (Nat → Int32)) (r_line : (Nat → Int32)) (H : Heap) (locs : List Loc) (ls : Array Slot), wX11_aLine_152 Q  x1 x2 x3 x4 s0 f_size f_next f_where f_token f_number f_sign f_word f_wrong f_open f_lines f_acts r_act r_all r_line → va_P (dC, dI) vwCl (vX11_aLine cI cZ h h_all h_has h_line h_act h_pile h_comes h_leaves h_tried h_met f_size f_next f_where f_token f_number f_sign f_word f_wrong f_open f_lines f_acts r_act r_all r_line) H → va_D A (vX11_aLine cI cZ h h_all h_has h_line h_act h_pile h_comes h_leaves h_tried h_met f_size f_next f_where f_token f_number f_sign f_word f_wrong f_open f_lines f_acts r_act r_all r_line) → va_S A s.heap H locs → lv_has ls 6 [(0, .ref h), (1, .int x1), (2, .int x2), (3, .int x3), (4, .int x4)] → W p l e rmX11_aLine s m args below meth c H locs 0 0 (MQ below (qX11_aLine dC dI cI cZ cO cW h h_all h_has h_line h_act h_pile h_comes h_leaves h_tried h_met f_size Q A) args s 0 0 A) (F0 m 152 ls [.int s0]) := by
  obtain ⟨hx, hb, hr, hml, hown, hts, hlocks⟩ := id hC
  intro x1 x2 x3 x4 s0 f_size f_next f_where f_token f_number f_sign f_word f_wrong f_open f_lines f_acts r_act r_all r_line H locs ls hw hP hD hS hl
  refine lv_istore (lv' := [(5, .int s0), (0, .ref h), (1, .int x1), (2, .int x2), (3, .int x3), (4, .int x4)]) hx hb dX11_aLine_152 hl (by decide) rfl (fun ls hl => ?_)
  refine lv_aload_n hx hb dX11_aLine_154 rfl (lv_at hl 1 rfl) ?_
  refine lv_bipush (v := (59 : Int32)) hx hb dX11_aLine_155 (by decide) ?_
  have hPc := hP.sub (ws' := [(h, .inr (10, [.ref h_all, .ref h_has, .int f_size, .int f_next, .int f_where, .int f_token, .int f_number, .int f_sign, .int f_word, .int f_wrong, .int f_open, .int f_lines, .int f_acts, .ref h_line, .ref h_act, .ref h_pile, .ref h_comes, .ref h_leaves, .ref h_tried, .ref h_met])), (h_all, .inl (cI, 53700, .inl r_all))]) [0, 2] rfl
  have hDc := hD.sub (ws' := [(h, .inr (10, [.ref h_all, .ref h_has, .int f_size, .int f_next, .int f_where, .int f_token, .int f_number, .int f_sign, .int f_word, .int f_wrong, .int f_open, .int f_lines, .int f_acts, .ref h_line, .ref h_act, .ref h_pile, .ref h_comes, .ref h_leaves, .ref h_tried, .ref h_met])), (h_all, .inl (cI, 53700, .inl r_all))]) [0, 2] (by decide) rfl
  have hFc := va_free (wc := [(h, .inr (10, [.ref h_all, .ref h_has, .int f_size, .int f_next, .int f_where, .int f_token, .int f_number, .int f_sign, .int f_word, .int f_wrong, .int f_open, .int f_lines, .int f_acts, .ref h_line, .ref h_act, .ref h_pile, .ref h_comes, .ref h_leaves, .ref h_tried, .ref h_met])), (h_all, .inl (cI, 53700, .inl r_all))]) hD hS hA [0, 2] rfl
  refine va_callv (va_runV (As := [.int (59 : Int32)]) (rest := []) ⟨hx, hb, hml, hown, hts⟩ (kX11_must l dC dI cI cZ cO cW h h_all h_has h_line h_act h_pile h_comes h_leaves h_tried h_met H.size f_open f_lines f_acts f_size f_next f_where f_token f_number f_sign f_word f_wrong r_all (59 : Int32) _ hw) (cwV 1 hts gX11_aLine_X11_must rfl rfl rfl (by decide +kernel) ⟨Nat.le_of_ble_eq_true rfl, Nat.le_of_ble_eq_true rfl⟩) (pv_of hPc hK hDc (va_recv hK hPc (ci := 10) (q0 := 0) rfl rfl)) rfl rfl hl.1 rfl (lv_room (Nat.le_of_ble_eq_true rfl)) dX11_aLine_157 ⟨Nat.zero_le _, Nat.zero_le _⟩) hS (fun q _ h => hFc q h) hFc (fun u t H locs ht hvm hw hB hz1 hk1 hS => ?_)
  obtain ⟨f_next_7, f_where_8, f_token_9, f_number_10, f_sign_11, f_word_12, f_wrong_13, r_all_14⟩ := u
  obtain ⟨hP, hD⟩ := af_join (wr := [(h_act, .inl (cI, 780, .inl r_act)), (h_line, .inl (cI, 80, .inl r_line))]) (w1 := [(h, .inr (10, [.ref h_all, .ref h_has, .int f_size, .int f_next_7, .int f_where_8, .int f_token_9, .int f_number_10, .int f_sign_11, .int f_word_12, .int f_wrong_13, .int f_open, .int f_lines, .int f_acts, .ref h_line, .ref h_act, .ref h_pile, .ref h_comes, .ref h_leaves, .ref h_tried, .ref h_met])), (h_all, .inl (cI, 53700, .inl r_all_14))]) hB ht hP hD [0, 2] [1, 3] rfl rfl (by decide) (by decide) hk1 hFc
  have hP : va_P (dC, dI) vwCl [(h_act, .inl (cI, 780, .inl r_act)), (h_line, .inl (cI, 80, .inl r_line)), (h, .inr (10, [.ref h_all, .ref h_has, .int f_size, .int f_next_7, .int f_where_8, .int f_token_9, .int f_number_10, .int f_sign_11, .int f_word_12, .int f_wrong_13, .int f_open, .int f_lines, .int f_acts, .ref h_line, .ref h_act, .ref h_pile, .ref h_comes, .ref h_leaves, .ref h_tried, .ref h_met])), (h_all, .inl (cI, 53700, .inl r_all_14))] _ := hP
  have hD : va_D A [(h_act, .inl (cI, 780, .inl r_act)), (h_line, .inl (cI, 80, .inl r_line)), (h, .inr (10, [.ref h_all, .ref h_has, .int f_size, .int f_next_7, .int f_where_8, .int f_token_9, .int f_number_10, .int f_sign_11, .int f_word_12, .int f_wrong_13, .int f_open, .int f_lines, .int f_acts, .ref h_line, .ref h_act, .ref h_pile, .ref h_comes, .ref h_leaves, .ref h_tried, .ref h_met])), (h_all, .inl (cI, 53700, .inl r_all_14))] := hD
  refine lv_iload_n hx hb dX11_aLine_160 rfl (lv_at hl 2 rfl) ?_
  refine lv_if_ne (tgt := 231) hx hb dX11_aLine_161 (by decide) (fun c_15 => ?_) (fun c_15 => ?_)
  · have hw := hw.1 c_15
    exact tX11_aLine_231 hC hK hA  f_size f_next_7 f_where_8 f_token_9 f_number_10 f_sign_11 f_word_12 f_wrong_13 f_open f_lines f_acts r_act r_all_14 r_line _ _ ls hw (hP.sub [2, 0, 3, 1] rfl) (hD.sub [2, 0, 3, 1] (by decide) rfl) hS (lv_sub hl [1] rfl)
  · have hw := hw.2 c_15
    refine lv_aload_n hx hb dX11_aLine_164 rfl (lv_at hl 1 rfl) ?_
    refine va_get (D := (dC, dI)) (ci := 10) (v := .ref h_line) (C := RX11) (T := TX11) (N := 20) hx hb hts uX11_aLine_X11 hown hK hP 2 rfl rfl 13 (by decide) (hts _ mX11_aLine_1) (fun _ h9 => h9) rfl dX11_aLine_165 ?_
    refine lv_iconst (v := (4 : Int32)) hx hb dX11_aLine_168 (by decide) ?_
    refine lv_aload_n hx hb dX11_aLine_169 rfl (lv_at hl 1 rfl) ?_
    refine va_get (D := (dC, dI)) (ci := 10) (v := .int f_lines) (C := RX11) (T := TX11) (N := 20) hx hb hts uX11_aLine_X11 hown hK hP 2 rfl rfl 11 (by decide) (hts _ mX11_aLine_0) (fun _ h9 => h9) rfl dX11_aLine_170 ?_
    refine lv_imul hx hb dX11_aLine_173 ?_
    refine lv_iload_n hx hb dX11_aLine_174 rfl (lv_at hl 4 rfl) ?_
    refine lv_if_eq (tgt := 182) hx hb dX11_aLine_175 (by decide) (fun c_16 => ?_) (fun c_16 => ?_)
    · have hw := hw.1 c_16
      refine lv_iconst (v := (-1 : Int32)) hx hb dX11_aLine_182 (by decide) ?_
      exact tX11_aLine_183 hC hK hA  x4 s0 ((4 : Int32) * f_lines) (-1 : Int32) f_size f_next_7 f_where_8 f_token_9 f_number_10 f_sign_11 f_word_12 f_wrong_13 f_open f_lines f_acts r_act r_all_14 r_line _ _ ls hw (hP.sub [2, 0, 3, 1] rfl) (hD.sub [2, 0, 3, 1] (by decide) rfl) hS (lv_sub hl [1, 5, 0] rfl)
    · have hw := hw.2 c_16
      refine lv_iload_n hx hb dX11_aLine_178 rfl (lv_at hl 3 rfl) ?_
      refine lv_goto (tgt := 183) hx hb dX11_aLine_179 (by decide) ?_
      exact tX11_aLine_183 hC hK hA  x4 s0 ((4 : Int32) * f_lines) x2 f_size f_next_7 f_where_8 f_token_9 f_number_10 f_sign_11 f_word_12 f_wrong_13 f_open f_lines f_acts r_act r_all_14 r_line _ _ ls hw (hP.sub [2, 0, 3, 1] rfl) (hD.sub [2, 0, 3, 1] (by decide) rfl) hS (lv_sub hl [1, 5, 0] rfl)
set_option maxHeartbeats 4000000 in
set_option maxRecDepth 100000 in
theorem tX11_aLine_127 {p : Program} {l : Launch} {e : Env} {s : State} {m : MethodId} {args : Array Value} {below : List Frame} {meth : Method} {c : Code} {dC : Nat → ClassId} {dI : Nat → Nat → Nat} {cI cZ cO cW : ClassId} {A : Nat → Prop} {h h_all h_has h_line h_act h_pile h_comes h_leaves h_tried h_met : Nat} {Q : Int32 → Int32 → Int32 → Int32 → Int32 → Int32 → Int32 → Int32 → Int32 → Int32 → (Nat → Int32) → (Nat → Int32) → (Nat → Int32) → Prop}  (hC : Cx p s m args meth c cX11_aLine none 6 wsX11_aLine RX11) (hK : va_K (dC, dI) vwCl (tysA cI cZ cO cW) s) (hA : ∀ q : Nat, s.heap.size ≤ q → A q) :
    ∀ (x1 : Int32) (x2 : Int32) (x3 : Int32) (f_size : Int32) (f_next : Int32) (f_where : Int32) (f_token : Int32) (f_number : Int32) (f_sign : Int32) (f_word : Int32) (f_wrong : Int32) (f_open : Int32) (f_lines : Int32) (f_acts : Int32) (r_act : (Nat → Int32)) (r_all : (Nat → Int32)) (r_line : (Nat → Int32)) (H : Heap) (locs : List Loc) (ls : Array Slot), wX11_aLine_127 Q  x1 x2 x3 f_size f_next f_where f_token f_number f_sign f_word f_wrong f_open f_lines f_acts r_act r_all r_line → va_P (dC, dI) vwCl (vX11_aLine cI cZ h h_all h_has h_line h_act h_pile h_comes h_leaves h_tried h_met f_size f_next f_where f_token f_number f_sign f_word f_wrong f_open f_lines f_acts r_act r_all r_line) H → va_D A (vX11_aLine cI cZ h h_all h_has h_line h_act h_pile h_comes h_leaves h_tried h_met f_size f_next f_where f_token f_number f_sign f_word f_wrong f_open f_lines f_acts r_act r_all r_line) → va_S A s.heap H locs → lv_has ls 6 [(0, .ref h), (1, .int x1), (2, .int x2), (3, .int x3)] → W p l e rmX11_aLine s m args below meth c H locs 0 0 (MQ below (qX11_aLine dC dI cI cZ cO cW h h_all h_has h_line h_act h_pile h_comes h_leaves h_tried h_met f_size Q A) args s 0 0 A) (F0 m 127 ls []) := by
  obtain ⟨hx, hb, hr, hml, hown, hts, hlocks⟩ := id hC
  intro x1 x2 x3 f_size f_next f_where f_token f_number f_sign f_word f_wrong f_open f_lines f_acts r_act r_all r_line H locs ls hw hP hD hS hl
  refine lv_aload_n hx hb dX11_aLine_127 rfl (lv_at hl 0 rfl) ?_
  refine va_get (D := (dC, dI)) (ci := 10) (v := .int f_word) (C := RX11) (T := TX11) (N := 20) hx hb hts uX11_aLine_X11 hown hK hP 0 rfl rfl 8 (by decide) (hts _ mX11_aLine_3) (fun _ h9 => h9) rfl dX11_aLine_128 ?_
  refine lv_istore (lv' := [(4, .int f_word), (0, .ref h), (1, .int x1), (2, .int x2), (3, .int x3)]) hx hb dX11_aLine_131 hl (by decide) rfl (fun ls hl => ?_)
  refine lv_aload_n hx hb dX11_aLine_133 rfl (lv_at hl 1 rfl) ?_
  have hPc := hP.sub (ws' := [(h, .inr (10, [.ref h_all, .ref h_has, .int f_size, .int f_next, .int f_where, .int f_token, .int f_number, .int f_sign, .int f_word, .int f_wrong, .int f_open, .int f_lines, .int f_acts, .ref h_line, .ref h_act, .ref h_pile, .ref h_comes, .ref h_leaves, .ref h_tried, .ref h_met])), (h_all, .inl (cI, 53700, .inl r_all))]) [0, 2] rfl
  have hDc := hD.sub (ws' := [(h, .inr (10, [.ref h_all, .ref h_has, .int f_size, .int f_next, .int f_where, .int f_token, .int f_number, .int f_sign, .int f_word, .int f_wrong, .int f_open, .int f_lines, .int f_acts, .ref h_line, .ref h_act, .ref h_pile, .ref h_comes, .ref h_leaves, .ref h_tried, .ref h_met])), (h_all, .inl (cI, 53700, .inl r_all))]) [0, 2] (by decide) rfl
  have hFc := va_free (wc := [(h, .inr (10, [.ref h_all, .ref h_has, .int f_size, .int f_next, .int f_where, .int f_token, .int f_number, .int f_sign, .int f_word, .int f_wrong, .int f_open, .int f_lines, .int f_acts, .ref h_line, .ref h_act, .ref h_pile, .ref h_comes, .ref h_leaves, .ref h_tried, .ref h_met])), (h_all, .inl (cI, 53700, .inl r_all))]) hD hS hA [0, 2] rfl
  refine va_callv (va_runV (As := []) (rest := []) ⟨hx, hb, hml, hown, hts⟩ (kX11_advance l dC dI cI cZ cO cW h h_all h_has h_line h_act h_pile h_comes h_leaves h_tried h_met H.size f_wrong f_open f_lines f_acts f_size f_next f_where f_token f_number f_sign f_word r_all _ hw) (cwV 0 hts gX11_aLine_X11_advance rfl rfl rfl (by decide +kernel) ⟨Nat.le_of_ble_eq_true rfl, Nat.le_of_ble_eq_true rfl⟩) (pv_of hPc hK hDc (va_recv hK hPc (ci := 10) (q0 := 0) rfl rfl)) rfl rfl hl.1 rfl (lv_room (Nat.le_of_ble_eq_true rfl)) dX11_aLine_134 ⟨Nat.zero_le _, Nat.zero_le _⟩) hS (fun q _ h => hFc q h) hFc (fun u t H locs ht hvm hw hB hz1 hk1 hS => ?_)
  obtain ⟨f_next_17, f_where_18, f_token_19, f_number_20, f_sign_21, f_word_22⟩ := u
  obtain ⟨hP, hD⟩ := af_join (wr := [(h_act, .inl (cI, 780, .inl r_act)), (h_line, .inl (cI, 80, .inl r_line))]) (w1 := [(h, .inr (10, [.ref h_all, .ref h_has, .int f_size, .int f_next_17, .int f_where_18, .int f_token_19, .int f_number_20, .int f_sign_21, .int f_word_22, .int f_wrong, .int f_open, .int f_lines, .int f_acts, .ref h_line, .ref h_act, .ref h_pile, .ref h_comes, .ref h_leaves, .ref h_tried, .ref h_met])), (h_all, .inl (cI, 53700, .inl r_all))]) hB ht hP hD [0, 2] [1, 3] rfl rfl (by decide) (by decide) hk1 hFc
  have hP : va_P (dC, dI) vwCl [(h_act, .inl (cI, 780, .inl r_act)), (h_line, .inl (cI, 80, .inl r_line)), (h, .inr (10, [.ref h_all, .ref h_has, .int f_size, .int f_next_17, .int f_where_18, .int f_token_19, .int f_number_20, .int f_sign_21, .int f_word_22, .int f_wrong, .int f_open, .int f_lines, .int f_acts, .ref h_line, .ref h_act, .ref h_pile, .ref h_comes, .ref h_leaves, .ref h_tried, .ref h_met])), (h_all, .inl (cI, 53700, .inl r_all))] _ := hP
  have hD : va_D A [(h_act, .inl (cI, 780, .inl r_act)), (h_line, .inl (cI, 80, .inl r_line)), (h, .inr (10, [.ref h_all, .ref h_has, .int f_size, .int f_next_17, .int f_where_18, .int f_token_19, .int f_number_20, .int f_sign_21, .int f_word_22, .int f_wrong, .int f_open, .int f_lines, .int f_acts, .ref h_line, .ref h_act, .ref h_pile, .ref h_comes, .ref h_leaves, .ref h_tried, .ref h_met])), (h_all, .inl (cI, 53700, .inl r_all))] := hD
  refine lv_iload hx hb dX11_aLine_137 (lv_at hl 0 rfl) ?_
  refine lv_bipush (v := (26 : Int32)) hx hb dX11_aLine_139 (by decide) ?_
  refine lv_icmp_ne (tgt := 151) hx hb dX11_aLine_141 (by decide) (fun c_23 => ?_) (fun c_23 => ?_)
  · have hw := hw.1 c_23
    refine lv_iconst (v := (0 : Int32)) hx hb dX11_aLine_151 (by decide) ?_
    exact tX11_aLine_152 hC hK hA  x1 x2 x3 f_word (0 : Int32) f_size f_next_17 f_where_18 f_token_19 f_number_20 f_sign_21 f_word_22 f_wrong f_open f_lines f_acts r_act r_all r_line _ _ ls hw (hP.sub [2, 0, 3, 1] rfl) (hD.sub [2, 0, 3, 1] (by decide) rfl) hS (lv_sub hl [1, 2, 3, 4, 0] rfl)
  · have hw := hw.2 c_23
    refine lv_aload_n hx hb dX11_aLine_144 rfl (lv_at hl 1 rfl) ?_
    have hPc := hP.sub (ws' := [(h, .inr (10, [.ref h_all, .ref h_has, .int f_size, .int f_next_17, .int f_where_18, .int f_token_19, .int f_number_20, .int f_sign_21, .int f_word_22, .int f_wrong, .int f_open, .int f_lines, .int f_acts, .ref h_line, .ref h_act, .ref h_pile, .ref h_comes, .ref h_leaves, .ref h_tried, .ref h_met])), (h_all, .inl (cI, 53700, .inl r_all))]) [2, 3] rfl
    have hDc := hD.sub (ws' := [(h, .inr (10, [.ref h_all, .ref h_has, .int f_size, .int f_next_17, .int f_where_18, .int f_token_19, .int f_number_20, .int f_sign_21, .int f_word_22, .int f_wrong, .int f_open, .int f_lines, .int f_acts, .ref h_line, .ref h_act, .ref h_pile, .ref h_comes, .ref h_leaves, .ref h_tried, .ref h_met])), (h_all, .inl (cI, 53700, .inl r_all))]) [2, 3] (by decide) rfl
    have hFc := va_free (wc := [(h, .inr (10, [.ref h_all, .ref h_has, .int f_size, .int f_next_17, .int f_where_18, .int f_token_19, .int f_number_20, .int f_sign_21, .int f_word_22, .int f_wrong, .int f_open, .int f_lines, .int f_acts, .ref h_line, .ref h_act, .ref h_pile, .ref h_comes, .ref h_leaves, .ref h_tried, .ref h_met])), (h_all, .inl (cI, 53700, .inl r_all))]) hD hS hA [2, 3] rfl
    refine va_calli (va_runV (As := []) (rest := []) ⟨hx, hb, hml, hown, hts⟩ (kX11_numbered l dC dI cI cZ cO cW h h_all h_has h_line h_act h_pile h_comes h_leaves h_tried h_met H.size f_open f_lines f_acts f_size f_next_17 f_where_18 f_token_19 f_number_20 f_sign_21 f_word_22 f_wrong r_all _ hw) (cwV 0 hts gX11_aLine_X11_numbered rfl rfl rfl (by decide +kernel) ⟨Nat.le_of_ble_eq_true rfl, Nat.le_of_ble_eq_true rfl⟩) (pv_of hPc hK hDc (va_recv hK hPc (ci := 10) (q0 := 0) rfl rfl)) rfl rfl hl.1 rfl (lv_room (Nat.le_of_ble_eq_true rfl)) dX11_aLine_145 ⟨Nat.zero_le _, Nat.zero_le _⟩) hS (fun q _ h => hFc q h) hFc (fun r_32 u t H locs ht hvm hw hB hz1 hk1 hS => ?_)
    obtain ⟨f_next_24, f_where_25, f_token_26, f_number_27, f_sign_28, f_word_29, f_wrong_30, r_all_31⟩ := u
    obtain ⟨hP, hD⟩ := af_join (wr := [(h_act, .inl (cI, 780, .inl r_act)), (h_line, .inl (cI, 80, .inl r_line))]) (w1 := [(h, .inr (10, [.ref h_all, .ref h_has, .int f_size, .int f_next_24, .int f_where_25, .int f_token_26, .int f_number_27, .int f_sign_28, .int f_word_29, .int f_wrong_30, .int f_open, .int f_lines, .int f_acts, .ref h_line, .ref h_act, .ref h_pile, .ref h_comes, .ref h_leaves, .ref h_tried, .ref h_met])), (h_all, .inl (cI, 53700, .inl r_all_31))]) hB ht hP hD [2, 3] [0, 1] rfl rfl (by decide) (by decide) hk1 hFc
    have hP : va_P (dC, dI) vwCl [(h_act, .inl (cI, 780, .inl r_act)), (h_line, .inl (cI, 80, .inl r_line)), (h, .inr (10, [.ref h_all, .ref h_has, .int f_size, .int f_next_24, .int f_where_25, .int f_token_26, .int f_number_27, .int f_sign_28, .int f_word_29, .int f_wrong_30, .int f_open, .int f_lines, .int f_acts, .ref h_line, .ref h_act, .ref h_pile, .ref h_comes, .ref h_leaves, .ref h_tried, .ref h_met])), (h_all, .inl (cI, 53700, .inl r_all_31))] _ := hP
    have hD : va_D A [(h_act, .inl (cI, 780, .inl r_act)), (h_line, .inl (cI, 80, .inl r_line)), (h, .inr (10, [.ref h_all, .ref h_has, .int f_size, .int f_next_24, .int f_where_25, .int f_token_26, .int f_number_27, .int f_sign_28, .int f_word_29, .int f_wrong_30, .int f_open, .int f_lines, .int f_acts, .ref h_line, .ref h_act, .ref h_pile, .ref h_comes, .ref h_leaves, .ref h_tried, .ref h_met])), (h_all, .inl (cI, 53700, .inl r_all_31))] := hD
    refine lv_goto (tgt := 152) hx hb dX11_aLine_148 (by decide) ?_
    exact tX11_aLine_152 hC hK hA  x1 x2 x3 f_word r_32 f_size f_next_24 f_where_25 f_token_26 f_number_27 f_sign_28 f_word_29 f_wrong_30 f_open f_lines f_acts r_act r_all_31 r_line _ _ ls hw (hP.sub [2, 0, 3, 1] rfl) (hD.sub [2, 0, 3, 1] (by decide) rfl) hS (lv_sub hl [1, 2, 3, 4, 0] rfl)
set_option maxHeartbeats 4000000 in
set_option maxRecDepth 100000 in
theorem tX11_aLine_79 {p : Program} {l : Launch} {e : Env} {s : State} {m : MethodId} {args : Array Value} {below : List Frame} {meth : Method} {c : Code} {dC : Nat → ClassId} {dI : Nat → Nat → Nat} {cI cZ cO cW : ClassId} {A : Nat → Prop} {h h_all h_has h_line h_act h_pile h_comes h_leaves h_tried h_met : Nat} {Q : Int32 → Int32 → Int32 → Int32 → Int32 → Int32 → Int32 → Int32 → Int32 → Int32 → (Nat → Int32) → (Nat → Int32) → (Nat → Int32) → Prop}  (hC : Cx p s m args meth c cX11_aLine none 6 wsX11_aLine RX11) (hK : va_K (dC, dI) vwCl (tysA cI cZ cO cW) s) (hA : ∀ q : Nat, s.heap.size ≤ q → A q) :
    ∀ (x1 : Int32) (x2 : Int32) (x3 : Int32) (f_size : Int32) (f_next : Int32) (f_where : Int32) (f_token : Int32) (f_number : Int32) (f_sign : Int32) (f_word : Int32) (f_wrong : Int32) (f_open : Int32) (f_lines : Int32) (f_acts : Int32) (r_act : (Nat → Int32)) (r_all : (Nat → Int32)) (r_line : (Nat → Int32)) (H : Heap) (locs : List Loc) (ls : Array Slot), wX11_aLine_79 Q  x1 x2 x3 f_size f_next f_where f_token f_number f_sign f_word f_wrong f_open f_lines f_acts r_act r_all r_line → va_P (dC, dI) vwCl (vX11_aLine cI cZ h h_all h_has h_line h_act h_pile h_comes h_leaves h_tried h_met f_size f_next f_where f_token f_number f_sign f_word f_wrong f_open f_lines f_acts r_act r_all r_line) H → va_D A (vX11_aLine cI cZ h h_all h_has h_line h_act h_pile h_comes h_leaves h_tried h_met f_size f_next f_where f_token f_number f_sign f_word f_wrong f_open f_lines f_acts r_act r_all r_line) → va_S A s.heap H locs → lv_has ls 6 [(0, .ref h), (1, .int x1), (2, .int x2), (3, .int x3)] → W p l e rmX11_aLine s m args below meth c H locs 0 0 (MQ below (qX11_aLine dC dI cI cZ cO cW h h_all h_has h_line h_act h_pile h_comes h_leaves h_tried h_met f_size Q A) args s 0 0 A) (F0 m 79 ls []) := by
  obtain ⟨hx, hb, hr, hml, hown, hts, hlocks⟩ := id hC
  intro x1 x2 x3 f_size f_next f_where f_token f_number f_sign f_word f_wrong f_open f_lines f_acts r_act r_all r_line H locs ls hw hP hD hS hl
  refine lv_aload_n hx hb dX11_aLine_79 rfl (lv_at hl 0 rfl) ?_
  refine va_get (D := (dC, dI)) (ci := 10) (v := .int f_wrong) (C := RX11) (T := TX11) (N := 20) hx hb hts uX11_aLine_X11 hown hK hP 0 rfl rfl 9 (by decide) (hts _ mX11_aLine_4) (fun _ h9 => h9) rfl dX11_aLine_80 ?_
  refine lv_if_ne (tgt := 122) hx hb dX11_aLine_83 (by decide) (fun c_33 => ?_) (fun c_33 => ?_)
  · have hw := hw.1 c_33
    exact tX11_aLine_122 hC hK hA  f_size f_next f_where f_token f_number f_sign f_word f_wrong f_open f_lines f_acts r_act r_all r_line _ _ ls hw (hP.sub [0, 1, 2, 3] rfl) (hD.sub [0, 1, 2, 3] (by decide) rfl) hS (lv_sub hl [0] rfl)
  · have hw := hw.2 c_33
    refine lv_aload_n hx hb dX11_aLine_86 rfl (lv_at hl 0 rfl) ?_
    refine va_get (D := (dC, dI)) (ci := 10) (v := .int f_token) (C := RX11) (T := TX11) (N := 20) hx hb hts uX11_aLine_X11 hown hK hP 0 rfl rfl 5 (by decide) (hts _ mX11_aLine_5) (fun _ h9 => h9) rfl dX11_aLine_87 ?_
    refine lv_iconst (v := (3 : Int32)) hx hb dX11_aLine_90 (by decide) ?_
    refine lv_icmp_ne (tgt := 122) hx hb dX11_aLine_91 (by decide) (fun c_34 => ?_) (fun c_34 => ?_)
    · have hw := hw.1 c_34
      exact tX11_aLine_122 hC hK hA  f_size f_next f_where f_token f_number f_sign f_word f_wrong f_open f_lines f_acts r_act r_all r_line _ _ ls hw (hP.sub [0, 1, 2, 3] rfl) (hD.sub [0, 1, 2, 3] (by decide) rfl) hS (lv_sub hl [0] rfl)
    · have hw := hw.2 c_34
      refine lv_aload_n hx hb dX11_aLine_94 rfl (lv_at hl 0 rfl) ?_
      refine va_get (D := (dC, dI)) (ci := 10) (v := .int f_word) (C := RX11) (T := TX11) (N := 20) hx hb hts uX11_aLine_X11 hown hK hP 0 rfl rfl 8 (by decide) (hts _ mX11_aLine_3) (fun _ h9 => h9) rfl dX11_aLine_95 ?_
      refine lv_bipush (v := (8 : Int32)) hx hb dX11_aLine_98 (by decide) ?_
      refine lv_bipush (v := (11 : Int32)) hx hb dX11_aLine_100 (by decide) ?_
      have hPc := hP.sub (ws' := []) [] rfl
      have hDc := hD.sub (ws' := []) [] (by decide) rfl
      have hFc := va_free (wc := []) hD hS hA [] rfl
      refine va_calli (va_runS (As := [.int f_word, .int (8 : Int32), .int (11 : Int32)]) (rest := []) ⟨hx, hb, hml, hown, hts⟩ (kX11_isIn l dC dI cI cZ cO cW H.size f_word (8 : Int32) (11 : Int32) _ hw) (va_cwS 3 hts gX11_aLine_X11_isIn rfl rfl rfl (by decide +kernel) ⟨Nat.le_of_ble_eq_true rfl, Nat.le_of_ble_eq_true rfl⟩) (ps_of hPc hK hDc) rfl rfl hl.1 rfl (lv_room (Nat.le_of_ble_eq_true rfl)) dX11_aLine_102 ⟨Nat.zero_le _, Nat.zero_le _⟩) hS (fun q _ h => hFc q h) hFc (fun r_35 u t H locs ht hvm hw hB hz1 hk1 hS => ?_)
      obtain ⟨hP, hD⟩ := af_join (wr := [(h, .inr (10, [.ref h_all, .ref h_has, .int f_size, .int f_next, .int f_where, .int f_token, .int f_number, .int f_sign, .int f_word, .int f_wrong, .int f_open, .int f_lines, .int f_acts, .ref h_line, .ref h_act, .ref h_pile, .ref h_comes, .ref h_leaves, .ref h_tried, .ref h_met])), (h_act, .inl (cI, 780, .inl r_act)), (h_all, .inl (cI, 53700, .inl r_all)), (h_line, .inl (cI, 80, .inl r_line))]) (w1 := []) hB ht hP hD [] [0, 1, 2, 3] rfl rfl (by decide) (by decide) hk1 hFc
      have hP : va_P (dC, dI) vwCl [(h, .inr (10, [.ref h_all, .ref h_has, .int f_size, .int f_next, .int f_where, .int f_token, .int f_number, .int f_sign, .int f_word, .int f_wrong, .int f_open, .int f_lines, .int f_acts, .ref h_line, .ref h_act, .ref h_pile, .ref h_comes, .ref h_leaves, .ref h_tried, .ref h_met])), (h_act, .inl (cI, 780, .inl r_act)), (h_all, .inl (cI, 53700, .inl r_all)), (h_line, .inl (cI, 80, .inl r_line))] _ := hP
      have hD : va_D A [(h, .inr (10, [.ref h_all, .ref h_has, .int f_size, .int f_next, .int f_where, .int f_token, .int f_number, .int f_sign, .int f_word, .int f_wrong, .int f_open, .int f_lines, .int f_acts, .ref h_line, .ref h_act, .ref h_pile, .ref h_comes, .ref h_leaves, .ref h_tried, .ref h_met])), (h_act, .inl (cI, 780, .inl r_act)), (h_all, .inl (cI, 53700, .inl r_all)), (h_line, .inl (cI, 80, .inl r_line))] := hD
      refine lv_if_ne (tgt := 127) hx hb dX11_aLine_105 (by decide) (fun c_36 => ?_) (fun c_36 => ?_)
      · have hw := hw.1 c_36
        exact tX11_aLine_127 hC hK hA  x1 x2 x3 f_size f_next f_where f_token f_number f_sign f_word f_wrong f_open f_lines f_acts r_act r_all r_line _ _ ls hw (hP.sub [0, 1, 2, 3] rfl) (hD.sub [0, 1, 2, 3] (by decide) rfl) hS (lv_sub hl [0, 1, 2, 3] rfl)
      · have hw := hw.2 c_36
        refine lv_aload_n hx hb dX11_aLine_108 rfl (lv_at hl 0 rfl) ?_
        refine va_get (D := (dC, dI)) (ci := 10) (v := .int f_word) (C := RX11) (T := TX11) (N := 20) hx hb hts uX11_aLine_X11 hown hK hP 0 rfl rfl 8 (by decide) (hts _ mX11_aLine_3) (fun _ h9 => h9) rfl dX11_aLine_109 ?_
        refine lv_bipush (v := (24 : Int32)) hx hb dX11_aLine_112 (by decide) ?_
        refine lv_bipush (v := (26 : Int32)) hx hb dX11_aLine_114 (by decide) ?_
        have hPc := hP.sub (ws' := []) [] rfl
        have hDc := hD.sub (ws' := []) [] (by decide) rfl
        have hFc := va_free (wc := []) hD hS hA [] rfl
        refine va_calli (va_runS (As := [.int f_word, .int (24 : Int32), .int (26 : Int32)]) (rest := []) ⟨hx, hb, hml, hown, hts⟩ (kX11_isIn l dC dI cI cZ cO cW H.size f_word (24 : Int32) (26 : Int32) _ hw) (va_cwS 3 hts gX11_aLine_X11_isIn rfl rfl rfl (by decide +kernel) ⟨Nat.le_of_ble_eq_true rfl, Nat.le_of_ble_eq_true rfl⟩) (ps_of hPc hK hDc) rfl rfl hl.1 rfl (lv_room (Nat.le_of_ble_eq_true rfl)) dX11_aLine_116 ⟨Nat.zero_le _, Nat.zero_le _⟩) hS (fun q _ h => hFc q h) hFc (fun r_37 u t H locs ht hvm hw hB hz1 hk1 hS => ?_)
        obtain ⟨hP, hD⟩ := af_join (wr := [(h, .inr (10, [.ref h_all, .ref h_has, .int f_size, .int f_next, .int f_where, .int f_token, .int f_number, .int f_sign, .int f_word, .int f_wrong, .int f_open, .int f_lines, .int f_acts, .ref h_line, .ref h_act, .ref h_pile, .ref h_comes, .ref h_leaves, .ref h_tried, .ref h_met])), (h_act, .inl (cI, 780, .inl r_act)), (h_all, .inl (cI, 53700, .inl r_all)), (h_line, .inl (cI, 80, .inl r_line))]) (w1 := []) hB ht hP hD [] [0, 1, 2, 3] rfl rfl (by decide) (by decide) hk1 hFc
        have hP : va_P (dC, dI) vwCl [(h, .inr (10, [.ref h_all, .ref h_has, .int f_size, .int f_next, .int f_where, .int f_token, .int f_number, .int f_sign, .int f_word, .int f_wrong, .int f_open, .int f_lines, .int f_acts, .ref h_line, .ref h_act, .ref h_pile, .ref h_comes, .ref h_leaves, .ref h_tried, .ref h_met])), (h_act, .inl (cI, 780, .inl r_act)), (h_all, .inl (cI, 53700, .inl r_all)), (h_line, .inl (cI, 80, .inl r_line))] _ := hP
        have hD : va_D A [(h, .inr (10, [.ref h_all, .ref h_has, .int f_size, .int f_next, .int f_where, .int f_token, .int f_number, .int f_sign, .int f_word, .int f_wrong, .int f_open, .int f_lines, .int f_acts, .ref h_line, .ref h_act, .ref h_pile, .ref h_comes, .ref h_leaves, .ref h_tried, .ref h_met])), (h_act, .inl (cI, 780, .inl r_act)), (h_all, .inl (cI, 53700, .inl r_all)), (h_line, .inl (cI, 80, .inl r_line))] := hD
        refine lv_if_ne (tgt := 127) hx hb dX11_aLine_119 (by decide) (fun c_38 => ?_) (fun c_38 => ?_)
        · have hw := hw.1 c_38
          exact tX11_aLine_127 hC hK hA  x1 x2 x3 f_size f_next f_where f_token f_number f_sign f_word f_wrong f_open f_lines f_acts r_act r_all r_line _ _ ls hw (hP.sub [0, 1, 2, 3] rfl) (hD.sub [0, 1, 2, 3] (by decide) rfl) hS (lv_sub hl [0, 1, 2, 3] rfl)
        · have hw := hw.2 c_38
          exact tX11_aLine_122 hC hK hA  f_size f_next f_where f_token f_number f_sign f_word f_wrong f_open f_lines f_acts r_act r_all r_line _ _ ls hw (hP.sub [0, 1, 2, 3] rfl) (hD.sub [0, 1, 2, 3] (by decide) rfl) hS (lv_sub hl [0] rfl)
set_option maxHeartbeats 4000000 in
set_option maxRecDepth 100000 in
theorem tX11_aLine_48 {p : Program} {l : Launch} {e : Env} {s : State} {m : MethodId} {args : Array Value} {below : List Frame} {meth : Method} {c : Code} {dC : Nat → ClassId} {dI : Nat → Nat → Nat} {cI cZ cO cW : ClassId} {A : Nat → Prop} {h h_all h_has h_line h_act h_pile h_comes h_leaves h_tried h_met : Nat} {Q : Int32 → Int32 → Int32 → Int32 → Int32 → Int32 → Int32 → Int32 → Int32 → Int32 → (Nat → Int32) → (Nat → Int32) → (Nat → Int32) → Prop}  (hC : Cx p s m args meth c cX11_aLine none 6 wsX11_aLine RX11) (hK : va_K (dC, dI) vwCl (tysA cI cZ cO cW) s) (hA : ∀ q : Nat, s.heap.size ≤ q → A q) :
    ∀ (x1 : Int32) (f_size : Int32) (f_next : Int32) (f_where : Int32) (f_token : Int32) (f_number : Int32) (f_sign : Int32) (f_word : Int32) (f_wrong : Int32) (f_open : Int32) (f_lines : Int32) (f_acts : Int32) (r_act : (Nat → Int32)) (r_all : (Nat → Int32)) (r_line : (Nat → Int32)) (H : Heap) (locs : List Loc) (ls : Array Slot), wX11_aLine_48 Q  x1 f_size f_next f_where f_token f_number f_sign f_word f_wrong f_open f_lines f_acts r_act r_all r_line → va_P (dC, dI) vwCl (vX11_aLine cI cZ h h_all h_has h_line h_act h_pile h_comes h_leaves h_tried h_met f_size f_next f_where f_token f_number f_sign f_word f_wrong f_open f_lines f_acts r_act r_all r_line) H → va_D A (vX11_aLine cI cZ h h_all h_has h_line h_act h_pile h_comes h_leaves h_tried h_met f_size f_next f_where f_token f_number f_sign f_word f_wrong f_open f_lines f_acts r_act r_all r_line) → va_S A s.heap H locs → lv_has ls 6 [(0, .ref h), (1, .int x1)] → W p l e rmX11_aLine s m args below meth c H locs 0 0 (MQ below (qX11_aLine dC dI cI cZ cO cW h h_all h_has h_line h_act h_pile h_comes h_leaves h_tried h_met f_size Q A) args s 0 0 A) (F0 m 48 ls []) := by
  obtain ⟨hx, hb, hr, hml, hown, hts, hlocks⟩ := id hC
  intro x1 f_size f_next f_where f_token f_number f_sign f_word f_wrong f_open f_lines f_acts r_act r_all r_line H locs ls hw hP hD hS hl
  refine lv_aload_n hx hb dX11_aLine_48 rfl (lv_at hl 0 rfl) ?_
  refine va_get (D := (dC, dI)) (ci := 10) (v := .int f_acts) (C := RX11) (T := TX11) (N := 20) hx hb hts uX11_aLine_X11 hown hK hP 0 rfl rfl 12 (by decide) (hts _ mX11_aLine_2) (fun _ h9 => h9) rfl dX11_aLine_49 ?_
  refine lv_istore_n (lv' := [(2, .int f_acts), (0, .ref h), (1, .int x1)]) hx hb dX11_aLine_52 rfl hl (by decide) rfl (fun ls hl => ?_)
  refine lv_aload_n hx hb dX11_aLine_53 rfl (lv_at hl 1 rfl) ?_
  refine lv_bipush (v := (30 : Int32)) hx hb dX11_aLine_54 (by decide) ?_
  have hPc := hP.sub (ws' := [(h, .inr (10, [.ref h_all, .ref h_has, .int f_size, .int f_next, .int f_where, .int f_token, .int f_number, .int f_sign, .int f_word, .int f_wrong, .int f_open, .int f_lines, .int f_acts, .ref h_line, .ref h_act, .ref h_pile, .ref h_comes, .ref h_leaves, .ref h_tried, .ref h_met])), (h_all, .inl (cI, 53700, .inl r_all))]) [0, 2] rfl
  have hDc := hD.sub (ws' := [(h, .inr (10, [.ref h_all, .ref h_has, .int f_size, .int f_next, .int f_where, .int f_token, .int f_number, .int f_sign, .int f_word, .int f_wrong, .int f_open, .int f_lines, .int f_acts, .ref h_line, .ref h_act, .ref h_pile, .ref h_comes, .ref h_leaves, .ref h_tried, .ref h_met])), (h_all, .inl (cI, 53700, .inl r_all))]) [0, 2] (by decide) rfl
  have hFc := va_free (wc := [(h, .inr (10, [.ref h_all, .ref h_has, .int f_size, .int f_next, .int f_where, .int f_token, .int f_number, .int f_sign, .int f_word, .int f_wrong, .int f_open, .int f_lines, .int f_acts, .ref h_line, .ref h_act, .ref h_pile, .ref h_comes, .ref h_leaves, .ref h_tried, .ref h_met])), (h_all, .inl (cI, 53700, .inl r_all))]) hD hS hA [0, 2] rfl
  refine va_calli (va_runV (As := [.int (30 : Int32)]) (rest := []) ⟨hx, hb, hml, hown, hts⟩ (kX11_takesWord l dC dI cI cZ cO cW h h_all h_has h_line h_act h_pile h_comes h_leaves h_tried h_met H.size f_open f_lines f_acts f_size f_next f_where f_token f_number f_sign f_word f_wrong r_all (30 : Int32) _ hw) (cwV 1 hts gX11_aLine_X11_takesWord rfl rfl rfl (by decide +kernel) ⟨Nat.le_of_ble_eq_true rfl, Nat.le_of_ble_eq_true rfl⟩) (pv_of hPc hK hDc (va_recv hK hPc (ci := 10) (q0 := 0) rfl rfl)) rfl rfl hl.1 rfl (lv_room (Nat.le_of_ble_eq_true rfl)) dX11_aLine_56 ⟨Nat.zero_le _, Nat.zero_le _⟩) hS (fun q _ h => hFc q h) hFc (fun r_45 u t H locs ht hvm hw hB hz1 hk1 hS => ?_)
  obtain ⟨f_next_39, f_where_40, f_token_41, f_number_42, f_sign_43, f_word_44⟩ := u
  obtain ⟨hP, hD⟩ := af_join (wr := [(h_act, .inl (cI, 780, .inl r_act)), (h_line, .inl (cI, 80, .inl r_line))]) (w1 := [(h, .inr (10, [.ref h_all, .ref h_has, .int f_size, .int f_next_39, .int f_where_40, .int f_token_41, .int f_number_42, .int f_sign_43, .int f_word_44, .int f_wrong, .int f_open, .int f_lines, .int f_acts, .ref h_line, .ref h_act, .ref h_pile, .ref h_comes, .ref h_leaves, .ref h_tried, .ref h_met])), (h_all, .inl (cI, 53700, .inl r_all))]) hB ht hP hD [0, 2] [1, 3] rfl rfl (by decide) (by decide) hk1 hFc
  have hP : va_P (dC, dI) vwCl [(h_act, .inl (cI, 780, .inl r_act)), (h_line, .inl (cI, 80, .inl r_line)), (h, .inr (10, [.ref h_all, .ref h_has, .int f_size, .int f_next_39, .int f_where_40, .int f_token_41, .int f_number_42, .int f_sign_43, .int f_word_44, .int f_wrong, .int f_open, .int f_lines, .int f_acts, .ref h_line, .ref h_act, .ref h_pile, .ref h_comes, .ref h_leaves, .ref h_tried, .ref h_met])), (h_all, .inl (cI, 53700, .inl r_all))] _ := hP
  have hD : va_D A [(h_act, .inl (cI, 780, .inl r_act)), (h_line, .inl (cI, 80, .inl r_line)), (h, .inr (10, [.ref h_all, .ref h_has, .int f_size, .int f_next_39, .int f_where_40, .int f_token_41, .int f_number_42, .int f_sign_43, .int f_word_44, .int f_wrong, .int f_open, .int f_lines, .int f_acts, .ref h_line, .ref h_act, .ref h_pile, .ref h_comes, .ref h_leaves, .ref h_tried, .ref h_met])), (h_all, .inl (cI, 53700, .inl r_all))] := hD
  refine lv_istore_n (lv' := [(3, .int r_45), (2, .int f_acts), (0, .ref h), (1, .int x1)]) hx hb dX11_aLine_59 rfl hl (by decide) rfl (fun ls hl => ?_)
  refine lv_iload_n hx hb dX11_aLine_60 rfl (lv_at hl 0 rfl) ?_
  refine lv_if_eq (tgt := 79) hx hb dX11_aLine_61 (by decide) (fun c_46 => ?_) (fun c_46 => ?_)
  · have hw := hw.1 c_46
    exact tX11_aLine_79 hC hK hA  x1 f_acts r_45 f_size f_next_39 f_where_40 f_token_41 f_number_42 f_sign_43 f_word_44 f_wrong f_open f_lines f_acts r_act r_all r_line _ _ ls hw (hP.sub [2, 0, 3, 1] rfl) (hD.sub [2, 0, 3, 1] (by decide) rfl) hS (lv_sub hl [2, 3, 1, 0] rfl)
  · have hw := hw.2 c_46
    refine lv_aload_n hx hb dX11_aLine_64 rfl (lv_at hl 2 rfl) ?_
    refine lv_iconst (v := (0 : Int32)) hx hb dX11_aLine_65 (by decide) ?_
    refine va_put (D := (dC, dI)) (ci := 10) (v := .int (0 : Int32)) (ty := .int) (C := RX11) (T := TX11) (N := 20) hx hb hts uX11_aLine_X11 tyX11 tyX11_ok nmX11 hown hK hP hD hS 2 rfl rfl 10 (by decide) (hts _ mX11_aLine_6) (fun _ h9 => h9) rfl (tyX11_ok 10 (by decide)) rfl rfl (Nat.le_of_ble_eq_true rfl) dX11_aLine_66 (fun H locs hP hD hS => ?_)
    have hP : va_P (dC, dI) vwCl [(h_act, .inl (cI, 780, .inl r_act)), (h_line, .inl (cI, 80, .inl r_line)), (h, .inr (10, [.ref h_all, .ref h_has, .int f_size, .int f_next_39, .int f_where_40, .int f_token_41, .int f_number_42, .int f_sign_43, .int f_word_44, .int f_wrong, .int (0 : Int32), .int f_lines, .int f_acts, .ref h_line, .ref h_act, .ref h_pile, .ref h_comes, .ref h_leaves, .ref h_tried, .ref h_met])), (h_all, .inl (cI, 53700, .inl r_all))] _ := hP
    have hD : va_D A [(h_act, .inl (cI, 780, .inl r_act)), (h_line, .inl (cI, 80, .inl r_line)), (h, .inr (10, [.ref h_all, .ref h_has, .int f_size, .int f_next_39, .int f_where_40, .int f_token_41, .int f_number_42, .int f_sign_43, .int f_word_44, .int f_wrong, .int (0 : Int32), .int f_lines, .int f_acts, .ref h_line, .ref h_act, .ref h_pile, .ref h_comes, .ref h_leaves, .ref h_tried, .ref h_met])), (h_all, .inl (cI, 53700, .inl r_all))] := hD
    refine lv_aload_n hx hb dX11_aLine_69 rfl (lv_at hl 2 rfl) ?_
    have hPc := hP.sub (ws' := [(h, .inr (10, [.ref h_all, .ref h_has, .int f_size, .int f_next_39, .int f_where_40, .int f_token_41, .int f_number_42, .int f_sign_43, .int f_word_44, .int f_wrong, .int (0 : Int32), .int f_lines, .int f_acts, .ref h_line, .ref h_act, .ref h_pile, .ref h_comes, .ref h_leaves, .ref h_tried, .ref h_met])), (h_act, .inl (cI, 780, .inl r_act)), (h_all, .inl (cI, 53700, .inl r_all))]) [2, 0, 3] rfl
    have hDc := hD.sub (ws' := [(h, .inr (10, [.ref h_all, .ref h_has, .int f_size, .int f_next_39, .int f_where_40, .int f_token_41, .int f_number_42, .int f_sign_43, .int f_word_44, .int f_wrong, .int (0 : Int32), .int f_lines, .int f_acts, .ref h_line, .ref h_act, .ref h_pile, .ref h_comes, .ref h_leaves, .ref h_tried, .ref h_met])), (h_act, .inl (cI, 780, .inl r_act)), (h_all, .inl (cI, 53700, .inl r_all))]) [2, 0, 3] (by decide) rfl
    have hFc := va_free (wc := [(h, .inr (10, [.ref h_all, .ref h_has, .int f_size, .int f_next_39, .int f_where_40, .int f_token_41, .int f_number_42, .int f_sign_43, .int f_word_44, .int f_wrong, .int (0 : Int32), .int f_lines, .int f_acts, .ref h_line, .ref h_act, .ref h_pile, .ref h_comes, .ref h_leaves, .ref h_tried, .ref h_met])), (h_act, .inl (cI, 780, .inl r_act)), (h_all, .inl (cI, 53700, .inl r_all))]) hD hS hA [2, 0, 3] rfl
    refine va_callv (va_runV (As := []) (rest := []) ⟨hx, hb, hml, hown, hts⟩ (kX11_anyOf l dC dI cI cZ cO cW h h_all h_has h_line h_act h_pile h_comes h_leaves h_tried h_met H.size f_lines f_size f_next_39 f_where_40 f_token_41 f_number_42 f_sign_43 f_word_44 f_wrong (0 : Int32) f_acts r_act r_all _ hw) (cwV 0 hts gX11_aLine_X11_anyOf rfl rfl rfl (by decide +kernel) ⟨Nat.le_of_ble_eq_true rfl, Nat.le_of_ble_eq_true rfl⟩) (pv_of hPc hK hDc (va_recv hK hPc (ci := 10) (q0 := 0) rfl rfl)) rfl rfl hl.1 rfl (lv_room (Nat.le_of_ble_eq_true rfl)) dX11_aLine_70 ⟨Nat.zero_le _, Nat.zero_le _⟩) hS (fun q _ h => hFc q h) hFc (fun u t H locs ht hvm hw hB hz1 hk1 hS => ?_)
    obtain ⟨f_next_47, f_where_48, f_token_49, f_number_50, f_sign_51, f_word_52, f_wrong_53, f_open_54, f_acts_55, r_act_56, r_all_57⟩ := u
    obtain ⟨hP, hD⟩ := af_join (wr := [(h_line, .inl (cI, 80, .inl r_line))]) (w1 := [(h, .inr (10, [.ref h_all, .ref h_has, .int f_size, .int f_next_47, .int f_where_48, .int f_token_49, .int f_number_50, .int f_sign_51, .int f_word_52, .int f_wrong_53, .int f_open_54, .int f_lines, .int f_acts_55, .ref h_line, .ref h_act, .ref h_pile, .ref h_comes, .ref h_leaves, .ref h_tried, .ref h_met])), (h_act, .inl (cI, 780, .inl r_act_56)), (h_all, .inl (cI, 53700, .inl r_all_57))]) hB ht hP hD [2, 0, 3] [1] rfl rfl (by decide) (by decide) hk1 hFc
    have hP : va_P (dC, dI) vwCl [(h_line, .inl (cI, 80, .inl r_line)), (h, .inr (10, [.ref h_all, .ref h_has, .int f_size, .int f_next_47, .int f_where_48, .int f_token_49, .int f_number_50, .int f_sign_51, .int f_word_52, .int f_wrong_53, .int f_open_54, .int f_lines, .int f_acts_55, .ref h_line, .ref h_act, .ref h_pile, .ref h_comes, .ref h_leaves, .ref h_tried, .ref h_met])), (h_act, .inl (cI, 780, .inl r_act_56)), (h_all, .inl (cI, 53700, .inl r_all_57))] _ := hP
    have hD : va_D A [(h_line, .inl (cI, 80, .inl r_line)), (h, .inr (10, [.ref h_all, .ref h_has, .int f_size, .int f_next_47, .int f_where_48, .int f_token_49, .int f_number_50, .int f_sign_51, .int f_word_52, .int f_wrong_53, .int f_open_54, .int f_lines, .int f_acts_55, .ref h_line, .ref h_act, .ref h_pile, .ref h_comes, .ref h_leaves, .ref h_tried, .ref h_met])), (h_act, .inl (cI, 780, .inl r_act_56)), (h_all, .inl (cI, 53700, .inl r_all_57))] := hD
    refine lv_aload_n hx hb dX11_aLine_73 rfl (lv_at hl 2 rfl) ?_
    refine lv_bipush (v := (58 : Int32)) hx hb dX11_aLine_74 (by decide) ?_
    have hPc := hP.sub (ws' := [(h, .inr (10, [.ref h_all, .ref h_has, .int f_size, .int f_next_47, .int f_where_48, .int f_token_49, .int f_number_50, .int f_sign_51, .int f_word_52, .int f_wrong_53, .int f_open_54, .int f_lines, .int f_acts_55, .ref h_line, .ref h_act, .ref h_pile, .ref h_comes, .ref h_leaves, .ref h_tried, .ref h_met])), (h_all, .inl (cI, 53700, .inl r_all_57))]) [1, 3] rfl
    have hDc := hD.sub (ws' := [(h, .inr (10, [.ref h_all, .ref h_has, .int f_size, .int f_next_47, .int f_where_48, .int f_token_49, .int f_number_50, .int f_sign_51, .int f_word_52, .int f_wrong_53, .int f_open_54, .int f_lines, .int f_acts_55, .ref h_line, .ref h_act, .ref h_pile, .ref h_comes, .ref h_leaves, .ref h_tried, .ref h_met])), (h_all, .inl (cI, 53700, .inl r_all_57))]) [1, 3] (by decide) rfl
    have hFc := va_free (wc := [(h, .inr (10, [.ref h_all, .ref h_has, .int f_size, .int f_next_47, .int f_where_48, .int f_token_49, .int f_number_50, .int f_sign_51, .int f_word_52, .int f_wrong_53, .int f_open_54, .int f_lines, .int f_acts_55, .ref h_line, .ref h_act, .ref h_pile, .ref h_comes, .ref h_leaves, .ref h_tried, .ref h_met])), (h_all, .inl (cI, 53700, .inl r_all_57))]) hD hS hA [1, 3] rfl
    refine va_callv (va_runV (As := [.int (58 : Int32)]) (rest := []) ⟨hx, hb, hml, hown, hts⟩ (kX11_must l dC dI cI cZ cO cW h h_all h_has h_line h_act h_pile h_comes h_leaves h_tried h_met H.size f_open_54 f_lines f_acts_55 f_size f_next_47 f_where_48 f_token_49 f_number_50 f_sign_51 f_word_52 f_wrong_53 r_all_57 (58 : Int32) _ hw) (cwV 1 hts gX11_aLine_X11_must rfl rfl rfl (by decide +kernel) ⟨Nat.le_of_ble_eq_true rfl, Nat.le_of_ble_eq_true rfl⟩) (pv_of hPc hK hDc (va_recv hK hPc (ci := 10) (q0 := 0) rfl rfl)) rfl rfl hl.1 rfl (lv_room (Nat.le_of_ble_eq_true rfl)) dX11_aLine_76 ⟨Nat.zero_le _, Nat.zero_le _⟩) hS (fun q _ h => hFc q h) hFc (fun u t H locs ht hvm hw hB hz1 hk1 hS => ?_)
    obtain ⟨f_next_58, f_where_59, f_token_60, f_number_61, f_sign_62, f_word_63, f_wrong_64, r_all_65⟩ := u
    obtain ⟨hP, hD⟩ := af_join (wr := [(h_line, .inl (cI, 80, .inl r_line)), (h_act, .inl (cI, 780, .inl r_act_56))]) (w1 := [(h, .inr (10, [.ref h_all, .ref h_has, .int f_size, .int f_next_58, .int f_where_59, .int f_token_60, .int f_number_61, .int f_sign_62, .int f_word_63, .int f_wrong_64, .int f_open_54, .int f_lines, .int f_acts_55, .ref h_line, .ref h_act, .ref h_pile, .ref h_comes, .ref h_leaves, .ref h_tried, .ref h_met])), (h_all, .inl (cI, 53700, .inl r_all_65))]) hB ht hP hD [1, 3] [0, 2] rfl rfl (by decide) (by decide) hk1 hFc
    have hP : va_P (dC, dI) vwCl [(h_line, .inl (cI, 80, .inl r_line)), (h_act, .inl (cI, 780, .inl r_act_56)), (h, .inr (10, [.ref h_all, .ref h_has, .int f_size, .int f_next_58, .int f_where_59, .int f_token_60, .int f_number_61, .int f_sign_62, .int f_word_63, .int f_wrong_64, .int f_open_54, .int f_lines, .int f_acts_55, .ref h_line, .ref h_act, .ref h_pile, .ref h_comes, .ref h_leaves, .ref h_tried, .ref h_met])), (h_all, .inl (cI, 53700, .inl r_all_65))] _ := hP
    have hD : va_D A [(h_line, .inl (cI, 80, .inl r_line)), (h_act, .inl (cI, 780, .inl r_act_56)), (h, .inr (10, [.ref h_all, .ref h_has, .int f_size, .int f_next_58, .int f_where_59, .int f_token_60, .int f_number_61, .int f_sign_62, .int f_word_63, .int f_wrong_64, .int f_open_54, .int f_lines, .int f_acts_55, .ref h_line, .ref h_act, .ref h_pile, .ref h_comes, .ref h_leaves, .ref h_tried, .ref h_met])), (h_all, .inl (cI, 53700, .inl r_all_65))] := hD
    exact tX11_aLine_79 hC hK hA  x1 f_acts r_45 f_size f_next_58 f_where_59 f_token_60 f_number_61 f_sign_62 f_word_63 f_wrong_64 f_open_54 f_lines f_acts_55 r_act_56 r_all_65 r_line _ _ ls hw (hP.sub [2, 1, 3, 0] rfl) (hD.sub [2, 1, 3, 0] (by decide) rfl) hS (lv_sub hl [2, 3, 1, 0] rfl)
set_option maxHeartbeats 4000000 in
set_option maxRecDepth 100000 in
theorem tX11_aLine_14 {p : Program} {l : Launch} {e : Env} {s : State} {m : MethodId} {args : Array Value} {below : List Frame} {meth : Method} {c : Code} {dC : Nat → ClassId} {dI : Nat → Nat → Nat} {cI cZ cO cW : ClassId} {A : Nat → Prop} {h h_all h_has h_line h_act h_pile h_comes h_leaves h_tried h_met : Nat} {Q : Int32 → Int32 → Int32 → Int32 → Int32 → Int32 → Int32 → Int32 → Int32 → Int32 → (Nat → Int32) → (Nat → Int32) → (Nat → Int32) → Prop}  (hC : Cx p s m args meth c cX11_aLine none 6 wsX11_aLine RX11) (hK : va_K (dC, dI) vwCl (tysA cI cZ cO cW) s) (hA : ∀ q : Nat, s.heap.size ≤ q → A q) :
    ∀ (s0 : Int32) (f_size : Int32) (f_next : Int32) (f_where : Int32) (f_token : Int32) (f_number : Int32) (f_sign : Int32) (f_word : Int32) (f_wrong : Int32) (f_open : Int32) (f_lines : Int32) (f_acts : Int32) (r_act : (Nat → Int32)) (r_all : (Nat → Int32)) (r_line : (Nat → Int32)) (H : Heap) (locs : List Loc) (ls : Array Slot), wX11_aLine_14 Q  s0 f_size f_next f_where f_token f_number f_sign f_word f_wrong f_open f_lines f_acts r_act r_all r_line → va_P (dC, dI) vwCl (vX11_aLine cI cZ h h_all h_has h_line h_act h_pile h_comes h_leaves h_tried h_met f_size f_next f_where f_token f_number f_sign f_word f_wrong f_open f_lines f_acts r_act r_all r_line) H → va_D A (vX11_aLine cI cZ h h_all h_has h_line h_act h_pile h_comes h_leaves h_tried h_met f_size f_next f_where f_token f_number f_sign f_word f_wrong f_open f_lines f_acts r_act r_all r_line) → va_S A s.heap H locs → lv_has ls 6 [(0, .ref h)] → W p l e rmX11_aLine s m args below meth c H locs 0 0 (MQ below (qX11_aLine dC dI cI cZ cO cW h h_all h_has h_line h_act h_pile h_comes h_leaves h_tried h_met f_size Q A) args s 0 0 A) (F0 m 14 ls [.int s0]) := by
  obtain ⟨hx, hb, hr, hml, hown, hts, hlocks⟩ := id hC
  intro s0 f_size f_next f_where f_token f_number f_sign f_word f_wrong f_open f_lines f_acts r_act r_all r_line H locs ls hw hP hD hS hl
  refine lv_istore_n (lv' := [(1, .int s0), (0, .ref h)]) hx hb dX11_aLine_14 rfl hl (by decide) rfl (fun ls hl => ?_)
  refine lv_iload_n hx hb dX11_aLine_15 rfl (lv_at hl 0 rfl) ?_
  refine lv_if_eq (tgt := 48) hx hb dX11_aLine_16 (by decide) (fun c_66 => ?_) (fun c_66 => ?_)
  · have hw := hw.1 c_66
    exact tX11_aLine_48 hC hK hA  s0 f_size f_next f_where f_token f_number f_sign f_word f_wrong f_open f_lines f_acts r_act r_all r_line _ _ ls hw (hP.sub [0, 1, 2, 3] rfl) (hD.sub [0, 1, 2, 3] (by decide) rfl) hS (lv_sub hl [1, 0] rfl)
  · have hw := hw.2 c_66
    refine lv_aload_n hx hb dX11_aLine_19 rfl (lv_at hl 1 rfl) ?_
    refine va_get (D := (dC, dI)) (ci := 10) (v := .ref h_all) (C := RX11) (T := TX11) (N := 20) hx hb hts uX11_aLine_X11 hown hK hP 0 rfl rfl 0 (by decide) (hts _ mX11_aLine_7) (fun _ h9 => h9) rfl dX11_aLine_20 ?_
    refine lv_bipush (v := (10 : Int32)) hx hb dX11_aLine_23 (by decide) ?_
    obtain ⟨h_67, hw⟩ := hw
    refine va_iald hx hb hK hP 2 0 rfl rfl h_67 dX11_aLine_25 ?_
    refine lv_if_ne (tgt := 48) hx hb dX11_aLine_26 (by decide) (fun c_68 => ?_) (fun c_68 => ?_)
    · have hw := hw.1 c_68
      exact tX11_aLine_48 hC hK hA  s0 f_size f_next f_where f_token f_number f_sign f_word f_wrong f_open f_lines f_acts r_act r_all r_line _ _ ls hw (hP.sub [0, 1, 2, 3] rfl) (hD.sub [0, 1, 2, 3] (by decide) rfl) hS (lv_sub hl [1, 0] rfl)
    · have hw := hw.2 c_68
      refine lv_aload_n hx hb dX11_aLine_29 rfl (lv_at hl 1 rfl) ?_
      refine va_get (D := (dC, dI)) (ci := 10) (v := .ref h_all) (C := RX11) (T := TX11) (N := 20) hx hb hts uX11_aLine_X11 hown hK hP 0 rfl rfl 0 (by decide) (hts _ mX11_aLine_7) (fun _ h9 => h9) rfl dX11_aLine_30 ?_
      refine lv_bipush (v := (10 : Int32)) hx hb dX11_aLine_33 (by decide) ?_
      refine lv_iconst (v := (2 : Int32)) hx hb dX11_aLine_35 (by decide) ?_
      obtain ⟨h_69, hw⟩ := hw
      refine va_iast hx hb hK hP hD hS 2 0 rfl rfl h_69 dX11_aLine_36 (fun H locs hP hD hS => ?_)
      have hP : va_P (dC, dI) vwCl [(h, .inr (10, [.ref h_all, .ref h_has, .int f_size, .int f_next, .int f_where, .int f_token, .int f_number, .int f_sign, .int f_word, .int f_wrong, .int f_open, .int f_lines, .int f_acts, .ref h_line, .ref h_act, .ref h_pile, .ref h_comes, .ref h_leaves, .ref h_tried, .ref h_met])), (h_act, .inl (cI, 780, .inl r_act)), (h_all, .inl (cI, 53700, .inl (upd r_all (10 : Int32).toNatClampNeg (2 : Int32)))), (h_line, .inl (cI, 80, .inl r_line))] _ := hP
      have hD : va_D A [(h, .inr (10, [.ref h_all, .ref h_has, .int f_size, .int f_next, .int f_where, .int f_token, .int f_number, .int f_sign, .int f_word, .int f_wrong, .int f_open, .int f_lines, .int f_acts, .ref h_line, .ref h_act, .ref h_pile, .ref h_comes, .ref h_leaves, .ref h_tried, .ref h_met])), (h_act, .inl (cI, 780, .inl r_act)), (h_all, .inl (cI, 53700, .inl (upd r_all (10 : Int32).toNatClampNeg (2 : Int32)))), (h_line, .inl (cI, 80, .inl r_line))] := hD
      refine lv_aload_n hx hb dX11_aLine_37 rfl (lv_at hl 1 rfl) ?_
      refine va_get (D := (dC, dI)) (ci := 10) (v := .ref h_all) (C := RX11) (T := TX11) (N := 20) hx hb hts uX11_aLine_X11 hown hK hP 0 rfl rfl 0 (by decide) (hts _ mX11_aLine_7) (fun _ h9 => h9) rfl dX11_aLine_38 ?_
      refine lv_bipush (v := (11 : Int32)) hx hb dX11_aLine_41 (by decide) ?_
      refine lv_aload_n hx hb dX11_aLine_43 rfl (lv_at hl 1 rfl) ?_
      refine va_get (D := (dC, dI)) (ci := 10) (v := .int f_where) (C := RX11) (T := TX11) (N := 20) hx hb hts uX11_aLine_X11 hown hK hP 0 rfl rfl 4 (by decide) (hts _ mX11_aLine_8) (fun _ h9 => h9) rfl dX11_aLine_44 ?_
      obtain ⟨h_70, hw⟩ := hw
      refine va_iast hx hb hK hP hD hS 2 0 rfl rfl h_70 dX11_aLine_47 (fun H locs hP hD hS => ?_)
      have hP : va_P (dC, dI) vwCl [(h, .inr (10, [.ref h_all, .ref h_has, .int f_size, .int f_next, .int f_where, .int f_token, .int f_number, .int f_sign, .int f_word, .int f_wrong, .int f_open, .int f_lines, .int f_acts, .ref h_line, .ref h_act, .ref h_pile, .ref h_comes, .ref h_leaves, .ref h_tried, .ref h_met])), (h_act, .inl (cI, 780, .inl r_act)), (h_all, .inl (cI, 53700, .inl (upd (upd r_all (10 : Int32).toNatClampNeg (2 : Int32)) (11 : Int32).toNatClampNeg f_where))), (h_line, .inl (cI, 80, .inl r_line))] _ := hP
      have hD : va_D A [(h, .inr (10, [.ref h_all, .ref h_has, .int f_size, .int f_next, .int f_where, .int f_token, .int f_number, .int f_sign, .int f_word, .int f_wrong, .int f_open, .int f_lines, .int f_acts, .ref h_line, .ref h_act, .ref h_pile, .ref h_comes, .ref h_leaves, .ref h_tried, .ref h_met])), (h_act, .inl (cI, 780, .inl r_act)), (h_all, .inl (cI, 53700, .inl (upd (upd r_all (10 : Int32).toNatClampNeg (2 : Int32)) (11 : Int32).toNatClampNeg f_where))), (h_line, .inl (cI, 80, .inl r_line))] := hD
      exact tX11_aLine_48 hC hK hA  s0 f_size f_next f_where f_token f_number f_sign f_word f_wrong f_open f_lines f_acts r_act (upd (upd r_all (10 : Int32).toNatClampNeg (2 : Int32)) (11 : Int32).toNatClampNeg f_where) r_line _ _ ls hw (hP.sub [0, 1, 2, 3] rfl) (hD.sub [0, 1, 2, 3] (by decide) rfl) hS (lv_sub hl [1, 0] rfl)
set_option maxHeartbeats 4000000 in
set_option maxRecDepth 100000 in
theorem tX11_aLine_e {p : Program} {l : Launch} {e : Env} {s : State} {m : MethodId} {args : Array Value} {below : List Frame} {meth : Method} {c : Code} {dC : Nat → ClassId} {dI : Nat → Nat → Nat} {cI cZ cO cW : ClassId} {A : Nat → Prop} {h h_all h_has h_line h_act h_pile h_comes h_leaves h_tried h_met : Nat} {Q : Int32 → Int32 → Int32 → Int32 → Int32 → Int32 → Int32 → Int32 → Int32 → Int32 → (Nat → Int32) → (Nat → Int32) → (Nat → Int32) → Prop} (hC : Cx p s m args meth c cX11_aLine none 6 wsX11_aLine RX11) (hK : va_K (dC, dI) vwCl (tysA cI cZ cO cW) s) (hA : ∀ q : Nat, s.heap.size ≤ q → A q) :
    ∀ (f_size : Int32) (f_next : Int32) (f_where : Int32) (f_token : Int32) (f_number : Int32) (f_sign : Int32) (f_word : Int32) (f_wrong : Int32) (f_open : Int32) (f_lines : Int32) (f_acts : Int32) (r_act : Nat → Int32) (r_all : Nat → Int32) (r_line : Nat → Int32) (H : Heap) (locs : List Loc) (ls : Array Slot), wX11_aLine Q  f_size f_next f_where f_token f_number f_sign f_word f_wrong f_open f_lines f_acts r_act r_all r_line → va_P (dC, dI) vwCl (vX11_aLine cI cZ h h_all h_has h_line h_act h_pile h_comes h_leaves h_tried h_met f_size f_next f_where f_token f_number f_sign f_word f_wrong f_open f_lines f_acts r_act r_all r_line) H → va_D A (vX11_aLine cI cZ h h_all h_has h_line h_act h_pile h_comes h_leaves h_tried h_met f_size f_next f_where f_token f_number f_sign f_word f_wrong f_open f_lines f_acts r_act r_all r_line) → va_S A s.heap H locs → lv_has ls 6 [(0, .ref h)] → W p l e rmX11_aLine s m args below meth c H locs 0 0 (MQ below (qX11_aLine dC dI cI cZ cO cW h h_all h_has h_line h_act h_pile h_comes h_leaves h_tried h_met f_size Q A) args s 0 0 A) (F0 m 0 ls []) := by
  obtain ⟨hx, hb, hr, hml, hown, hts, hlocks⟩ := id hC
  intro  f_size f_next f_where f_token f_number f_sign f_word f_wrong f_open f_lines f_acts r_act r_all r_line H locs ls hw hP hD hS hl
  refine lv_aload_n hx hb dX11_aLine_0 rfl (lv_at hl 0 rfl) ?_
  refine va_get (D := (dC, dI)) (ci := 10) (v := .int f_lines) (C := RX11) (T := TX11) (N := 20) hx hb hts uX11_aLine_X11 hown hK hP 0 rfl rfl 11 (by decide) (hts _ mX11_aLine_0) (fun _ h9 => h9) rfl dX11_aLine_1 ?_
  refine lv_bipush (v := (20 : Int32)) hx hb dX11_aLine_4 (by decide) ?_
  refine lv_icmp_lt (tgt := 13) hx hb dX11_aLine_6 (by decide) (fun c_71 => ?_) (fun c_71 => ?_)
  · have hw := hw.1 c_71
    refine lv_iconst (v := (0 : Int32)) hx hb dX11_aLine_13 (by decide) ?_
    exact tX11_aLine_14 hC hK hA  (0 : Int32) f_size f_next f_where f_token f_number f_sign f_word f_wrong f_open f_lines f_acts r_act r_all r_line _ _ ls hw (hP.sub [0, 1, 2, 3] rfl) (hD.sub [0, 1, 2, 3] (by decide) rfl) hS (lv_sub hl [0] rfl)
  · have hw := hw.2 c_71
    refine lv_iconst (v := (1 : Int32)) hx hb dX11_aLine_9 (by decide) ?_
    refine lv_goto (tgt := 14) hx hb dX11_aLine_10 (by decide) ?_
    exact tX11_aLine_14 hC hK hA  (1 : Int32) f_size f_next f_where f_token f_number f_sign f_word f_wrong f_open f_lines f_acts r_act r_all r_line _ _ ls hw (hP.sub [0, 1, 2, 3] rfl) (hD.sub [0, 1, 2, 3] (by decide) rfl) hS (lv_sub hl [0] rfl)
set_option maxHeartbeats 4000000 in
set_option maxRecDepth 100000 in
theorem kX11_aLine (l : Launch) (dC : Nat → ClassId) (dI : Nat → Nat → Nat) (cI cZ cO cW : ClassId) (h h_all h_has h_line h_act h_pile h_comes h_leaves h_tried h_met : Nat)  (sz : Nat) (f_size : Int32) (f_next : Int32) (f_where : Int32) (f_token : Int32) (f_number : Int32) (f_sign : Int32) (f_word : Int32) (f_wrong : Int32) (f_open : Int32) (f_lines : Int32) (f_acts : Int32) (r_act : Nat → Int32) (r_all : Nat → Int32) (r_line : Nat → Int32)  (Q : Int32 → Int32 → Int32 → Int32 → Int32 → Int32 → Int32 → Int32 → Int32 → Int32 → (Nat → Int32) → (Nat → Int32) → (Nat → Int32) → Prop) (hw : wX11_aLine Q  f_size f_next f_where f_token f_number f_sign f_word f_wrong f_open f_lines f_acts r_act r_all r_line) : Met l yX11_aLine wsX11_aLine rmX11_aLine (va_Pc [.ref h] (fun U => U.heap.size = sz ∧ va_P (dC, dI) vwCl (vX11_aLine cI cZ h h_all h_has h_line h_act h_pile h_comes h_leaves h_tried h_met f_size f_next f_where f_token f_number f_sign f_word f_wrong f_open f_lines f_acts r_act r_all r_line) U.heap ∧ va_K (dC, dI) vwCl (tysA cI cZ cO cW) U ∧ va_D (fun _ => True) (vX11_aLine cI cZ h h_all h_has h_line h_act h_pile h_comes h_leaves h_tried h_met f_size f_next f_where f_token f_number f_sign f_word f_wrong f_open f_lines f_acts r_act r_all r_line))) (qX11_aLine dC dI cI cZ cO cW h h_all h_has h_line h_act h_pile h_comes h_leaves h_tried h_met f_size Q (va_A (vX11_aLine cI cZ h h_all h_has h_line h_act h_pile h_comes h_leaves h_tried h_met f_size f_next f_where f_token f_number f_sign f_word f_wrong f_open f_lines f_acts r_act r_all r_line) sz)) 0 0 (va_A (vX11_aLine cI cZ h h_all h_has h_line h_act h_pile h_comes h_leaves h_tried h_met f_size f_next f_where f_token f_number f_sign f_word f_wrong f_open f_lines f_acts r_act r_all r_line) sz) := by
  refine Met.ofW (cc := cX11_aLine) (maxL := 6) (ret := none) (by decide) rfl ?_
  intro p e s m args below meth c s₁ B hml hv
  obtain ⟨rfl, hsz, hP, hK, hD0⟩ := hv
  subst hsz
  have hC : Cx p s m ([.ref h] : List Value).toArray meth c cX11_aLine none 6 wsX11_aLine RX11 := ⟨B.exec, B.bytes, B.returns, hml, findClass_of_methodNamed B.named, atoms_spec (ws := wsX11_aLine) B.pre, B.notSynchronized⟩
  have hD := hD0.self (sz := s.heap.size)
  generalize hAe : va_A (vX11_aLine cI cZ h h_all h_has h_line h_act h_pile h_comes h_leaves h_tried h_met f_size f_next f_where f_token f_number f_sign f_word f_wrong f_open f_lines f_acts r_act r_all r_line) s.heap.size = A at hD ⊢
  have hA : ∀ q : Nat, s.heap.size ≤ q → A q := fun q h => by rw [← hAe]; exact Or.inr h
  have hl := lv_entry ([.ref h]) (n := 6) (Nat.le_of_ble_eq_true rfl)
  rw [lg_entry_eq]
  generalize (lg_sl ([.ref h]) ++ List.replicate (6 - (lg_sl ([.ref h])).length) Slot.unset).toArray = ls at hl ⊢
  exact tX11_aLine_e hC hK hA  f_size f_next f_where f_token f_number f_sign f_word f_wrong f_open f_lines f_acts r_act r_all r_line _ _ ls hw hP hD va_S.rf hl

/-! X11_orders -/
def wX11_orders_140 (Q : Int32 → Int32 → Int32 → Int32 → Int32 → Int32 → Int32 → Int32 → Int32 → Int32 → Int32 → Int32 → (Nat → Int32) → (Nat → Int32) → (Nat → Int32) → Prop)   : Nat → Int32 → Int32 → Int32 → Int32 → Int32 → Int32 → Int32 → Int32 → Int32 → Int32 → Int32 → Int32 → Int32 → (Nat → Int32) → (Nat → Int32) → (Nat → Int32) → Prop
  | 0, _, _, _, _, _, _, _, _, _, _, _, _, _, _, _, _ => False
  | n + 1, x1, x2, f_size, f_next, f_where, f_token, f_number, f_sign, f_word, f_wrong, f_open, f_lines, f_acts, r_act, r_all, r_line => (((780 : Int32) ≤ x2 → (wX11_ships (fun r_all_2 => (Q f_lines f_size f_next f_where f_token f_number f_sign f_word f_wrong f_open f_lines f_acts r_act r_all_2 r_line)) x1 (8 : Int32) f_lines r_all)) ∧ (¬ (780 : Int32) ≤ x2 → (vp_in x2 780 ∧ (vp_in (((4100 : Int32) + ((780 : Int32) * x1)) + x2) 53700 ∧ (wX11_orders_140 Q n x1 (x2 + (1 : Int32)) f_size f_next f_where f_token f_number f_sign f_word f_wrong f_open f_lines f_acts r_act (upd r_all (((4100 : Int32) + ((780 : Int32) * x1)) + x2).toNatClampNeg (r_act x2.toNatClampNeg)) r_line)))))
def wX11_orders_105 (Q : Int32 → Int32 → Int32 → Int32 → Int32 → Int32 → Int32 → Int32 → Int32 → Int32 → Int32 → Int32 → (Nat → Int32) → (Nat → Int32) → (Nat → Int32) → Prop)   : Nat → Int32 → Int32 → Int32 → Int32 → Int32 → Int32 → Int32 → Int32 → Int32 → Int32 → Int32 → Int32 → Int32 → (Nat → Int32) → (Nat → Int32) → (Nat → Int32) → Prop
  | 0, _, _, _, _, _, _, _, _, _, _, _, _, _, _, _, _ => False
  | n + 1, x1, x2, f_size, f_next, f_where, f_token, f_number, f_sign, f_word, f_wrong, f_open, f_lines, f_acts, r_act, r_all, r_line => (((80 : Int32) ≤ x2 → (∃ j_, wX11_orders_140 Q j_ x1 (0 : Int32) f_size f_next f_where f_token f_number f_sign f_word f_wrong f_open f_lines f_acts r_act r_all r_line)) ∧ (¬ (80 : Int32) ≤ x2 → (vp_in x2 80 ∧ (vp_in (((3460 : Int32) + ((80 : Int32) * x1)) + x2) 53700 ∧ (wX11_orders_105 Q n x1 (x2 + (1 : Int32)) f_size f_next f_where f_token f_number f_sign f_word f_wrong f_open f_lines f_acts r_act (upd r_all (((3460 : Int32) + ((80 : Int32) * x1)) + x2).toNatClampNeg (r_line x2.toNatClampNeg)) r_line)))))
def wX11_orders_91 (Q : Int32 → Int32 → Int32 → Int32 → Int32 → Int32 → Int32 → Int32 → Int32 → Int32 → Int32 → Int32 → (Nat → Int32) → (Nat → Int32) → (Nat → Int32) → Prop)   (x1 : Int32) (f_size : Int32) (f_next : Int32) (f_where : Int32) (f_token : Int32) (f_number : Int32) (f_sign : Int32) (f_word : Int32) (f_wrong : Int32) (f_open : Int32) (f_lines : Int32) (f_acts : Int32) (r_act : (Nat → Int32)) (r_all : (Nat → Int32)) (r_line : (Nat → Int32)) : Prop :=
  (vp_in (10 : Int32) 53700 ∧ (((r_all (10 : Int32).toNatClampNeg) = 0 → (∃ j_, wX11_orders_105 Q j_ x1 (0 : Int32) f_size f_next f_where f_token f_number f_sign f_word f_wrong f_open f_lines f_acts r_act r_all r_line)) ∧ (¬ (r_all (10 : Int32).toNatClampNeg) = 0 → (Q (-1 : Int32) f_size f_next f_where f_token f_number f_sign f_word f_wrong f_open f_lines f_acts r_act r_all r_line))))
def wX11_orders_70 (Q : Int32 → Int32 → Int32 → Int32 → Int32 → Int32 → Int32 → Int32 → Int32 → Int32 → Int32 → Int32 → (Nat → Int32) → (Nat → Int32) → (Nat → Int32) → Prop)   : Nat → Int32 → Int32 → Int32 → Int32 → Int32 → Int32 → Int32 → Int32 → Int32 → Int32 → Int32 → Int32 → (Nat → Int32) → (Nat → Int32) → (Nat → Int32) → Prop
  | 0, _, _, _, _, _, _, _, _, _, _, _, _, _, _, _ => False
  | n + 1, x1, f_size, f_next, f_where, f_token, f_number, f_sign, f_word, f_wrong, f_open, f_lines, f_acts, r_act, r_all, r_line => ((¬ f_wrong = 0 → (wX11_orders_91 Q x1 f_size f_next f_where f_token f_number f_sign f_word f_wrong f_open f_lines f_acts r_act r_all r_line)) ∧ (f_wrong = 0 → ((f_token = 0 → (wX11_orders_91 Q x1 f_size f_next f_where f_token f_number f_sign f_word f_wrong f_open f_lines f_acts r_act r_all r_line)) ∧ (¬ f_token = 0 → (wX11_aLine (fun f_next_14 f_where_15 f_token_16 f_number_17 f_sign_18 f_word_19 f_wrong_20 f_open_21 f_lines_22 f_acts_23 r_act_24 r_all_25 r_line_26 => (wX11_orders_70 Q n x1 f_size f_next_14 f_where_15 f_token_16 f_number_17 f_sign_18 f_word_19 f_wrong_20 f_open_21 f_lines_22 f_acts_23 r_act_24 r_all_25 r_line_26)) f_size f_next f_where f_token f_number f_sign f_word f_wrong f_open f_lines f_acts r_act r_all r_line)))))
def wX11_orders (Q : Int32 → Int32 → Int32 → Int32 → Int32 → Int32 → Int32 → Int32 → Int32 → Int32 → Int32 → Int32 → (Nat → Int32) → (Nat → Int32) → (Nat → Int32) → Prop) (x1 : Int32) (f_size : Int32) (f_next : Int32) (f_where : Int32) (f_token : Int32) (f_number : Int32) (f_sign : Int32) (f_word : Int32) (f_wrong : Int32) (f_open : Int32) (f_lines : Int32) (f_acts : Int32) (r_act : Nat → Int32) (r_all : Nat → Int32) (r_line : Nat → Int32) : Prop :=
  (wX11_isShip (fun r_27 => ((¬ r_27 = 0 → (vp_in (9 : Int32) 53700 ∧ (vp_in (9 : Int32) 53700 ∧ (vp_in (10 : Int32) 53700 ∧ (vp_in (11 : Int32) 53700 ∧ (wX11_advance (fun f_next_33 f_where_34 f_token_35 f_number_36 f_sign_37 f_word_38 => (∃ j_, wX11_orders_70 Q j_ x1 (r_all (9 : Int32).toNatClampNeg) f_next_33 f_where_34 f_token_35 f_number_36 f_sign_37 f_word_38 (0 : Int32) f_open (0 : Int32) (0 : Int32) r_act (upd (upd (upd r_all (9 : Int32).toNatClampNeg (0 : Int32)) (10 : Int32).toNatClampNeg (0 : Int32)) (11 : Int32).toNatClampNeg (-1 : Int32)) r_line)) (r_all (9 : Int32).toNatClampNeg) (0 : Int32) f_where f_token f_number f_sign f_word (upd (upd (upd r_all (9 : Int32).toNatClampNeg (0 : Int32)) (10 : Int32).toNatClampNeg (0 : Int32)) (11 : Int32).toNatClampNeg (-1 : Int32)))))))) ∧ (r_27 = 0 → (Q (-2 : Int32) f_size f_next f_where f_token f_number f_sign f_word f_wrong f_open f_lines f_acts r_act r_all r_line)))) x1 r_all)
abbrev vX11_orders (cI cZ : ClassId) (h h_all h_has h_line h_act h_pile h_comes h_leaves h_tried h_met : Nat) (f_size : Int32) (f_next : Int32) (f_where : Int32) (f_token : Int32) (f_number : Int32) (f_sign : Int32) (f_word : Int32) (f_wrong : Int32) (f_open : Int32) (f_lines : Int32) (f_acts : Int32) (r_act : Nat → Int32) (r_all : Nat → Int32) (r_line : Nat → Int32) : va_W := [(h, .inr (10, [.ref h_all, .ref h_has, .int f_size, .int f_next, .int f_where, .int f_token, .int f_number, .int f_sign, .int f_word, .int f_wrong, .int f_open, .int f_lines, .int f_acts, .ref h_line, .ref h_act, .ref h_pile, .ref h_comes, .ref h_leaves, .ref h_tried, .ref h_met])), (h_act, .inl (cI, 780, .inl r_act)), (h_all, .inl (cI, 53700, .inl r_all)), (h_line, .inl (cI, 80, .inl r_line))]
abbrev rmX11_orders : Room := { frames := 47, cells := 0, slots := 0, locals := 984 }
abbrev qX11_orders (dC : Nat → ClassId) (dI : Nat → Nat → Nat) (cI cZ cO cW : ClassId) (h h_all h_has h_line h_act h_pile h_comes h_leaves h_tried h_met : Nat)  (Q : Int32 → Int32 → Int32 → Int32 → Int32 → Int32 → Int32 → Int32 → Int32 → Int32 → Int32 → Int32 → (Nat → Int32) → (Nat → Int32) → (Nat → Int32) → Prop) (A : Nat → Prop) : Array Value → State → Outcome → State → Prop := va_Qi (fun (r : Int32) (u : Int32 × Int32 × Int32 × Int32 × Int32 × Int32 × Int32 × Int32 × Int32 × Int32 × Int32 × (Nat → Int32) × (Nat → Int32) × (Nat → Int32)) => Q r u.1 u.2.1 u.2.2.1 u.2.2.2.1 u.2.2.2.2.1 u.2.2.2.2.2.1 u.2.2.2.2.2.2.1 u.2.2.2.2.2.2.2.1 u.2.2.2.2.2.2.2.2.1 u.2.2.2.2.2.2.2.2.2.1 u.2.2.2.2.2.2.2.2.2.2.1 u.2.2.2.2.2.2.2.2.2.2.2.1 u.2.2.2.2.2.2.2.2.2.2.2.2.1 u.2.2.2.2.2.2.2.2.2.2.2.2.2) (fun (u : Int32 × Int32 × Int32 × Int32 × Int32 × Int32 × Int32 × Int32 × Int32 × Int32 × Int32 × (Nat → Int32) × (Nat → Int32) × (Nat → Int32)) (t : State) => va_P (dC, dI) vwCl (vX11_orders cI cZ h h_all h_has h_line h_act h_pile h_comes h_leaves h_tried h_met u.1 u.2.1 u.2.2.1 u.2.2.2.1 u.2.2.2.2.1 u.2.2.2.2.2.1 u.2.2.2.2.2.2.1 u.2.2.2.2.2.2.2.1 u.2.2.2.2.2.2.2.2.1 u.2.2.2.2.2.2.2.2.2.1 u.2.2.2.2.2.2.2.2.2.2.1 u.2.2.2.2.2.2.2.2.2.2.2.1 u.2.2.2.2.2.2.2.2.2.2.2.2.1 u.2.2.2.2.2.2.2.2.2.2.2.2.2) t.heap ∧ va_K (dC, dI) vwCl (tysA cI cZ cO cW) t ∧ va_D A (vX11_orders cI cZ h h_all h_has h_line h_act h_pile h_comes h_leaves h_tried h_met u.1 u.2.1 u.2.2.1 u.2.2.2.1 u.2.2.2.2.1 u.2.2.2.2.2.1 u.2.2.2.2.2.2.1 u.2.2.2.2.2.2.2.1 u.2.2.2.2.2.2.2.2.1 u.2.2.2.2.2.2.2.2.2.1 u.2.2.2.2.2.2.2.2.2.2.1 u.2.2.2.2.2.2.2.2.2.2.2.1 u.2.2.2.2.2.2.2.2.2.2.2.2.1 u.2.2.2.2.2.2.2.2.2.2.2.2.2)) A
theorem mX11_orders_0 : Cond.fieldLink RX11 187 "IcePilotsModel" "lines" "I" ∈ wsX11_orders := by decide +kernel
theorem mX11_orders_1 : Cond.fieldLink RX11 8 "IcePilotsModel" "all" "[I" ∈ wsX11_orders := by decide +kernel
theorem mX11_orders_2 : Cond.fieldLink RX11 21 "IcePilotsModel" "act" "[I" ∈ wsX11_orders := by decide +kernel
theorem mX11_orders_3 : Cond.fieldLink RX11 18 "IcePilotsModel" "line" "[I" ∈ wsX11_orders := by decide +kernel
theorem mX11_orders_4 : Cond.fieldLink RX11 139 "IcePilotsModel" "wrong" "Z" ∈ wsX11_orders := by decide +kernel
theorem mX11_orders_5 : Cond.fieldLink RX11 113 "IcePilotsModel" "token" "I" ∈ wsX11_orders := by decide +kernel
theorem mX11_orders_6 : Cond.fieldLink RX11 155 "IcePilotsModel" "acts" "I" ∈ wsX11_orders := by decide +kernel
theorem mX11_orders_7 : Cond.fieldLink RX11 103 "IcePilotsModel" "next" "I" ∈ wsX11_orders := by decide +kernel
theorem mX11_orders_8 : Cond.fieldLink RX11 73 "IcePilotsModel" "size" "I" ∈ wsX11_orders := by decide +kernel
theorem uX11_orders_X11 : ∀ w ∈ u_ws RX11 TX11 20, w ∈ wsX11_orders := by decide +kernel
set_option maxHeartbeats 4000000 in
set_option maxRecDepth 100000 in
theorem tX11_orders_140 {p : Program} {l : Launch} {e : Env} {s : State} {m : MethodId} {args : Array Value} {below : List Frame} {meth : Method} {c : Code} {dC : Nat → ClassId} {dI : Nat → Nat → Nat} {cI cZ cO cW : ClassId} {A : Nat → Prop} {h h_all h_has h_line h_act h_pile h_comes h_leaves h_tried h_met : Nat} {Q : Int32 → Int32 → Int32 → Int32 → Int32 → Int32 → Int32 → Int32 → Int32 → Int32 → Int32 → Int32 → (Nat → Int32) → (Nat → Int32) → (Nat → Int32) → Prop}  (hC : Cx p s m args meth c cX11_orders (some .int) 3 wsX11_orders RX11) (hK : va_K (dC, dI) vwCl (tysA cI cZ cO cW) s) (hA : ∀ q : Nat, s.heap.size ≤ q → A q) :
    ∀ (n : Nat) (x1 : Int32) (x2 : Int32) (f_size : Int32) (f_next : Int32) (f_where : Int32) (f_token : Int32) (f_number : Int32) (f_sign : Int32) (f_word : Int32) (f_wrong : Int32) (f_open : Int32) (f_lines : Int32) (f_acts : Int32) (r_act : (Nat → Int32)) (r_all : (Nat → Int32)) (r_line : (Nat → Int32)) (H : Heap) (locs : List Loc) (ls : Array Slot), wX11_orders_140 Q  n x1 x2 f_size f_next f_where f_token f_number f_sign f_word f_wrong f_open f_lines f_acts r_act r_all r_line → va_P (dC, dI) vwCl (vX11_orders cI cZ h h_all h_has h_line h_act h_pile h_comes h_leaves h_tried h_met f_size f_next f_where f_token f_number f_sign f_word f_wrong f_open f_lines f_acts r_act r_all r_line) H → va_D A (vX11_orders cI cZ h h_all h_has h_line h_act h_pile h_comes h_leaves h_tried h_met f_size f_next f_where f_token f_number f_sign f_word f_wrong f_open f_lines f_acts r_act r_all r_line) → va_S A s.heap H locs → lv_has ls 3 [(0, .ref h), (1, .int x1), (2, .int x2)] → W p l e rmX11_orders s m args below meth c H locs 0 0 (MQ below (qX11_orders dC dI cI cZ cO cW h h_all h_has h_line h_act h_pile h_comes h_leaves h_tried h_met Q A) args s 0 0 A) (F0 m 140 ls []) := by
  obtain ⟨hx, hb, hr, hml, hown, hts, hlocks⟩ := id hC
  intro n
  induction n with
  | zero =>
    intro  x1 x2 f_size f_next f_where f_token f_number f_sign f_word f_wrong f_open f_lines f_acts r_act r_all r_line H locs ls hw
    exact hw.elim
  | succ n ih =>
    intro  x1 x2 f_size f_next f_where f_token f_number f_sign f_word f_wrong f_open f_lines f_acts r_act r_all r_line H locs ls hw hP hD hS hl
    refine lv_iload_n hx hb dX11_orders_140 rfl (lv_at hl 2 rfl) ?_
    refine lv_sipush (v := (780 : Int32)) hx hb dX11_orders_141 (by decide) ?_
    refine lv_icmp_ge (tgt := 175) hx hb dX11_orders_144 (by decide) (fun c_1 => ?_) (fun c_1 => ?_)
    · have hw := hw.1 c_1
      refine lv_aload_n hx hb dX11_orders_175 rfl (lv_at hl 0 rfl) ?_
      refine lv_iload_n hx hb dX11_orders_176 rfl (lv_at hl 1 rfl) ?_
      refine lv_bipush (v := (8 : Int32)) hx hb dX11_orders_177 (by decide) ?_
      refine lv_aload_n hx hb dX11_orders_179 rfl (lv_at hl 0 rfl) ?_
      refine va_get (D := (dC, dI)) (ci := 10) (v := .int f_lines) (C := RX11) (T := TX11) (N := 20) hx hb hts uX11_orders_X11 hown hK hP 0 rfl rfl 11 (by decide) (hts _ mX11_orders_0) (fun _ h9 => h9) rfl dX11_orders_180 ?_
      have hPc := hP.sub (ws' := [(h, .inr (10, [.ref h_all, .ref h_has, .int f_size, .int f_next, .int f_where, .int f_token, .int f_number, .int f_sign, .int f_word, .int f_wrong, .int f_open, .int f_lines, .int f_acts, .ref h_line, .ref h_act, .ref h_pile, .ref h_comes, .ref h_leaves, .ref h_tried, .ref h_met])), (h_all, .inl (cI, 53700, .inl r_all))]) [0, 2] rfl
      have hDc := hD.sub (ws' := [(h, .inr (10, [.ref h_all, .ref h_has, .int f_size, .int f_next, .int f_where, .int f_token, .int f_number, .int f_sign, .int f_word, .int f_wrong, .int f_open, .int f_lines, .int f_acts, .ref h_line, .ref h_act, .ref h_pile, .ref h_comes, .ref h_leaves, .ref h_tried, .ref h_met])), (h_all, .inl (cI, 53700, .inl r_all))]) [0, 2] (by decide) rfl
      have hFc := va_free (wc := [(h, .inr (10, [.ref h_all, .ref h_has, .int f_size, .int f_next, .int f_where, .int f_token, .int f_number, .int f_sign, .int f_word, .int f_wrong, .int f_open, .int f_lines, .int f_acts, .ref h_line, .ref h_act, .ref h_pile, .ref h_comes, .ref h_leaves, .ref h_tried, .ref h_met])), (h_all, .inl (cI, 53700, .inl r_all))]) hD hS hA [0, 2] rfl
      refine va_callv (va_runV (As := [.int x1, .int (8 : Int32), .int f_lines]) (rest := []) ⟨hx, hb, hml, hown, hts⟩ (kX11_ships l dC dI cI cZ cO cW h h_all h_has h_line h_act h_pile h_comes h_leaves h_tried h_met H.size f_size f_next f_where f_token f_number f_sign f_word f_wrong f_open f_lines f_acts r_all x1 (8 : Int32) f_lines _ hw) (cwV 3 hts gX11_orders_X11_ships rfl rfl rfl (by decide +kernel) ⟨Nat.le_of_ble_eq_true rfl, Nat.le_of_ble_eq_true rfl⟩) (pv_of hPc hK hDc (va_recv hK hPc (ci := 10) (q0 := 0) rfl rfl)) rfl rfl hl.1 rfl (lv_room (Nat.le_of_ble_eq_true rfl)) dX11_orders_183 ⟨Nat.zero_le _, Nat.zero_le _⟩) hS (fun q _ h => hFc q h) hFc (fun u t H locs ht hvm hw hB hz1 hk1 hS => ?_)
      obtain ⟨r_all_2, rfl⟩ : ∃ z, z = u := ⟨_, rfl⟩
      obtain ⟨hP, hD⟩ := af_join (wr := [(h_act, .inl (cI, 780, .inl r_act)), (h_line, .inl (cI, 80, .inl r_line))]) (w1 := [(h, .inr (10, [.ref h_all, .ref h_has, .int f_size, .int f_next, .int f_where, .int f_token, .int f_number, .int f_sign, .int f_word, .int f_wrong, .int f_open, .int f_lines, .int f_acts, .ref h_line, .ref h_act, .ref h_pile, .ref h_comes, .ref h_leaves, .ref h_tried, .ref h_met])), (h_all, .inl (cI, 53700, .inl r_all_2))]) hB ht hP hD [0, 2] [1, 3] rfl rfl (by decide) (by decide) hk1 hFc
      have hP : va_P (dC, dI) vwCl [(h_act, .inl (cI, 780, .inl r_act)), (h_line, .inl (cI, 80, .inl r_line)), (h, .inr (10, [.ref h_all, .ref h_has, .int f_size, .int f_next, .int f_where, .int f_token, .int f_number, .int f_sign, .int f_word, .int f_wrong, .int f_open, .int f_lines, .int f_acts, .ref h_line, .ref h_act, .ref h_pile, .ref h_comes, .ref h_leaves, .ref h_tried, .ref h_met])), (h_all, .inl (cI, 53700, .inl r_all_2))] _ := hP
      have hD : va_D A [(h_act, .inl (cI, 780, .inl r_act)), (h_line, .inl (cI, 80, .inl r_line)), (h, .inr (10, [.ref h_all, .ref h_has, .int f_size, .int f_next, .int f_where, .int f_token, .int f_number, .int f_sign, .int f_word, .int f_wrong, .int f_open, .int f_lines, .int f_acts, .ref h_line, .ref h_act, .ref h_pile, .ref h_comes, .ref h_leaves, .ref h_tried, .ref h_met])), (h_all, .inl (cI, 53700, .inl r_all_2))] := hD
      refine lv_aload_n hx hb dX11_orders_186 rfl (lv_at hl 0 rfl) ?_
      refine va_get (D := (dC, dI)) (ci := 10) (v := .int f_lines) (C := RX11) (T := TX11) (N := 20) hx hb hts uX11_orders_X11 hown hK hP 2 rfl rfl 11 (by decide) (hts _ mX11_orders_0) (fun _ h9 => h9) rfl dX11_orders_187 ?_
      have hP9 := hP.sub (ws' := (vX11_orders cI cZ h h_all h_has h_line h_act h_pile h_comes h_leaves h_tried h_met f_size f_next f_where f_token f_number f_sign f_word f_wrong f_open f_lines f_acts r_act r_all_2 r_line)) [2, 0, 3, 1] rfl
      have hD9 := hD.sub (ws' := (vX11_orders cI cZ h h_all h_has h_line h_act h_pile h_comes h_leaves h_tried h_met f_size f_next f_where f_token f_number f_sign f_word f_wrong f_open f_lines f_acts r_act r_all_2 r_line)) [2, 0, 3, 1] (by decide) rfl
      exact W.iret (v := f_lines) hx hb hr (fun t ht hW => ⟨⟨f_lines, (f_size, f_next, f_where, f_token, f_number, f_sign, f_word, f_wrong, f_open, f_lines, f_acts, r_act, r_all_2, r_line), rfl, hw, by rw [ht]; exact hP9, va_K.moved hW.alike hK, hD9⟩, hS.F ht⟩) hS.2.2 dX11_orders_190
    · have hw := hw.2 c_1
      refine lv_aload_n hx hb dX11_orders_147 rfl (lv_at hl 0 rfl) ?_
      refine va_get (D := (dC, dI)) (ci := 10) (v := .ref h_all) (C := RX11) (T := TX11) (N := 20) hx hb hts uX11_orders_X11 hown hK hP 0 rfl rfl 0 (by decide) (hts _ mX11_orders_1) (fun _ h9 => h9) rfl dX11_orders_148 ?_
      refine lv_sipush (v := (4100 : Int32)) hx hb dX11_orders_151 (by decide) ?_
      refine lv_sipush (v := (780 : Int32)) hx hb dX11_orders_154 (by decide) ?_
      refine lv_iload_n hx hb dX11_orders_157 rfl (lv_at hl 1 rfl) ?_
      refine lv_imul hx hb dX11_orders_158 ?_
      refine lv_iadd hx hb dX11_orders_159 ?_
      refine lv_iload_n hx hb dX11_orders_160 rfl (lv_at hl 2 rfl) ?_
      refine lv_iadd hx hb dX11_orders_161 ?_
      refine lv_aload_n hx hb dX11_orders_162 rfl (lv_at hl 0 rfl) ?_
      refine va_get (D := (dC, dI)) (ci := 10) (v := .ref h_act) (C := RX11) (T := TX11) (N := 20) hx hb hts uX11_orders_X11 hown hK hP 0 rfl rfl 14 (by decide) (hts _ mX11_orders_2) (fun _ h9 => h9) rfl dX11_orders_163 ?_
      refine lv_iload_n hx hb dX11_orders_166 rfl (lv_at hl 2 rfl) ?_
      obtain ⟨h_3, hw⟩ := hw
      refine va_iald hx hb hK hP 1 0 rfl rfl h_3 dX11_orders_167 ?_
      obtain ⟨h_4, hw⟩ := hw
      refine va_iast hx hb hK hP hD hS 2 0 rfl rfl h_4 dX11_orders_168 (fun H locs hP hD hS => ?_)
      have hP : va_P (dC, dI) vwCl [(h, .inr (10, [.ref h_all, .ref h_has, .int f_size, .int f_next, .int f_where, .int f_token, .int f_number, .int f_sign, .int f_word, .int f_wrong, .int f_open, .int f_lines, .int f_acts, .ref h_line, .ref h_act, .ref h_pile, .ref h_comes, .ref h_leaves, .ref h_tried, .ref h_met])), (h_act, .inl (cI, 780, .inl r_act)), (h_all, .inl (cI, 53700, .inl (upd r_all (((4100 : Int32) + ((780 : Int32) * x1)) + x2).toNatClampNeg (r_act x2.toNatClampNeg)))), (h_line, .inl (cI, 80, .inl r_line))] _ := hP
      have hD : va_D A [(h, .inr (10, [.ref h_all, .ref h_has, .int f_size, .int f_next, .int f_where, .int f_token, .int f_number, .int f_sign, .int f_word, .int f_wrong, .int f_open, .int f_lines, .int f_acts, .ref h_line, .ref h_act, .ref h_pile, .ref h_comes, .ref h_leaves, .ref h_tried, .ref h_met])), (h_act, .inl (cI, 780, .inl r_act)), (h_all, .inl (cI, 53700, .inl (upd r_all (((4100 : Int32) + ((780 : Int32) * x1)) + x2).toNatClampNeg (r_act x2.toNatClampNeg)))), (h_line, .inl (cI, 80, .inl r_line))] := hD
      refine lv_iinc (v := (x2 + (1 : Int32))) (lv' := [(2, .int (x2 + (1 : Int32))), (0, .ref h), (1, .int x1)]) hx hb dX11_orders_169 hl (k := 2) rfl rfl (by decide) rfl (fun ls hl => ?_)
      refine lv_goto (tgt := 140) hx hb dX11_orders_172 (by decide) ?_
      exact ih x1 (x2 + (1 : Int32)) f_size f_next f_where f_token f_number f_sign f_word f_wrong f_open f_lines f_acts r_act (upd r_all (((4100 : Int32) + ((780 : Int32) * x1)) + x2).toNatClampNeg (r_act x2.toNatClampNeg)) r_line _ _ ls hw (hP.sub [0, 1, 2, 3] rfl) (hD.sub [0, 1, 2, 3] (by decide) rfl) hS (lv_sub hl [1, 2, 0] rfl)
set_option maxHeartbeats 4000000 in
set_option maxRecDepth 100000 in
theorem tX11_orders_105 {p : Program} {l : Launch} {e : Env} {s : State} {m : MethodId} {args : Array Value} {below : List Frame} {meth : Method} {c : Code} {dC : Nat → ClassId} {dI : Nat → Nat → Nat} {cI cZ cO cW : ClassId} {A : Nat → Prop} {h h_all h_has h_line h_act h_pile h_comes h_leaves h_tried h_met : Nat} {Q : Int32 → Int32 → Int32 → Int32 → Int32 → Int32 → Int32 → Int32 → Int32 → Int32 → Int32 → Int32 → (Nat → Int32) → (Nat → Int32) → (Nat → Int32) → Prop}  (hC : Cx p s m args meth c cX11_orders (some .int) 3 wsX11_orders RX11) (hK : va_K (dC, dI) vwCl (tysA cI cZ cO cW) s) (hA : ∀ q : Nat, s.heap.size ≤ q → A q) :
    ∀ (n : Nat) (x1 : Int32) (x2 : Int32) (f_size : Int32) (f_next : Int32) (f_where : Int32) (f_token : Int32) (f_number : Int32) (f_sign : Int32) (f_word : Int32) (f_wrong : Int32) (f_open : Int32) (f_lines : Int32) (f_acts : Int32) (r_act : (Nat → Int32)) (r_all : (Nat → Int32)) (r_line : (Nat → Int32)) (H : Heap) (locs : List Loc) (ls : Array Slot), wX11_orders_105 Q  n x1 x2 f_size f_next f_where f_token f_number f_sign f_word f_wrong f_open f_lines f_acts r_act r_all r_line → va_P (dC, dI) vwCl (vX11_orders cI cZ h h_all h_has h_line h_act h_pile h_comes h_leaves h_tried h_met f_size f_next f_where f_token f_number f_sign f_word f_wrong f_open f_lines f_acts r_act r_all r_line) H → va_D A (vX11_orders cI cZ h h_all h_has h_line h_act h_pile h_comes h_leaves h_tried h_met f_size f_next f_where f_token f_number f_sign f_word f_wrong f_open f_lines f_acts r_act r_all r_line) → va_S A s.heap H locs → lv_has ls 3 [(0, .ref h), (1, .int x1), (2, .int x2)] → W p l e rmX11_orders s m args below meth c H locs 0 0 (MQ below (qX11_orders dC dI cI cZ cO cW h h_all h_has h_line h_act h_pile h_comes h_leaves h_tried h_met Q A) args s 0 0 A) (F0 m 105 ls []) := by
  obtain ⟨hx, hb, hr, hml, hown, hts, hlocks⟩ := id hC
  intro n
  induction n with
  | zero =>
    intro  x1 x2 f_size f_next f_where f_token f_number f_sign f_word f_wrong f_open f_lines f_acts r_act r_all r_line H locs ls hw
    exact hw.elim
  | succ n ih =>
    intro  x1 x2 f_size f_next f_where f_token f_number f_sign f_word f_wrong f_open f_lines f_acts r_act r_all r_line H locs ls hw hP hD hS hl
    refine lv_iload_n hx hb dX11_orders_105 rfl (lv_at hl 2 rfl) ?_
    refine lv_bipush (v := (80 : Int32)) hx hb dX11_orders_106 (by decide) ?_
    refine lv_icmp_ge (tgt := 138) hx hb dX11_orders_108 (by decide) (fun c_5 => ?_) (fun c_5 => ?_)
    · have hw := hw.1 c_5
      refine lv_iconst (v := (0 : Int32)) hx hb dX11_orders_138 (by decide) ?_
      refine lv_istore_n (lv' := [(2, .int (0 : Int32)), (0, .ref h), (1, .int x1)]) hx hb dX11_orders_139 rfl hl (by decide) rfl (fun ls hl => ?_)
      obtain ⟨n_6, hw⟩ := hw
      exact tX11_orders_140 hC hK hA  n_6 x1 (0 : Int32) f_size f_next f_where f_token f_number f_sign f_word f_wrong f_open f_lines f_acts r_act r_all r_line _ _ ls hw (hP.sub [0, 1, 2, 3] rfl) (hD.sub [0, 1, 2, 3] (by decide) rfl) hS (lv_sub hl [1, 2, 0] rfl)
    · have hw := hw.2 c_5
      refine lv_aload_n hx hb dX11_orders_111 rfl (lv_at hl 0 rfl) ?_
      refine va_get (D := (dC, dI)) (ci := 10) (v := .ref h_all) (C := RX11) (T := TX11) (N := 20) hx hb hts uX11_orders_X11 hown hK hP 0 rfl rfl 0 (by decide) (hts _ mX11_orders_1) (fun _ h9 => h9) rfl dX11_orders_112 ?_
      refine lv_sipush (v := (3460 : Int32)) hx hb dX11_orders_115 (by decide) ?_
      refine lv_bipush (v := (80 : Int32)) hx hb dX11_orders_118 (by decide) ?_
      refine lv_iload_n hx hb dX11_orders_120 rfl (lv_at hl 1 rfl) ?_
      refine lv_imul hx hb dX11_orders_121 ?_
      refine lv_iadd hx hb dX11_orders_122 ?_
      refine lv_iload_n hx hb dX11_orders_123 rfl (lv_at hl 2 rfl) ?_
      refine lv_iadd hx hb dX11_orders_124 ?_
      refine lv_aload_n hx hb dX11_orders_125 rfl (lv_at hl 0 rfl) ?_
      refine va_get (D := (dC, dI)) (ci := 10) (v := .ref h_line) (C := RX11) (T := TX11) (N := 20) hx hb hts uX11_orders_X11 hown hK hP 0 rfl rfl 13 (by decide) (hts _ mX11_orders_3) (fun _ h9 => h9) rfl dX11_orders_126 ?_
      refine lv_iload_n hx hb dX11_orders_129 rfl (lv_at hl 2 rfl) ?_
      obtain ⟨h_7, hw⟩ := hw
      refine va_iald hx hb hK hP 3 0 rfl rfl h_7 dX11_orders_130 ?_
      obtain ⟨h_8, hw⟩ := hw
      refine va_iast hx hb hK hP hD hS 2 0 rfl rfl h_8 dX11_orders_131 (fun H locs hP hD hS => ?_)
      have hP : va_P (dC, dI) vwCl [(h, .inr (10, [.ref h_all, .ref h_has, .int f_size, .int f_next, .int f_where, .int f_token, .int f_number, .int f_sign, .int f_word, .int f_wrong, .int f_open, .int f_lines, .int f_acts, .ref h_line, .ref h_act, .ref h_pile, .ref h_comes, .ref h_leaves, .ref h_tried, .ref h_met])), (h_act, .inl (cI, 780, .inl r_act)), (h_all, .inl (cI, 53700, .inl (upd r_all (((3460 : Int32) + ((80 : Int32) * x1)) + x2).toNatClampNeg (r_line x2.toNatClampNeg)))), (h_line, .inl (cI, 80, .inl r_line))] _ := hP
      have hD : va_D A [(h, .inr (10, [.ref h_all, .ref h_has, .int f_size, .int f_next, .int f_where, .int f_token, .int f_number, .int f_sign, .int f_word, .int f_wrong, .int f_open, .int f_lines, .int f_acts, .ref h_line, .ref h_act, .ref h_pile, .ref h_comes, .ref h_leaves, .ref h_tried, .ref h_met])), (h_act, .inl (cI, 780, .inl r_act)), (h_all, .inl (cI, 53700, .inl (upd r_all (((3460 : Int32) + ((80 : Int32) * x1)) + x2).toNatClampNeg (r_line x2.toNatClampNeg)))), (h_line, .inl (cI, 80, .inl r_line))] := hD
      refine lv_iinc (v := (x2 + (1 : Int32))) (lv' := [(2, .int (x2 + (1 : Int32))), (0, .ref h), (1, .int x1)]) hx hb dX11_orders_132 hl (k := 2) rfl rfl (by decide) rfl (fun ls hl => ?_)
      refine lv_goto (tgt := 105) hx hb dX11_orders_135 (by decide) ?_
      exact ih x1 (x2 + (1 : Int32)) f_size f_next f_where f_token f_number f_sign f_word f_wrong f_open f_lines f_acts r_act (upd r_all (((3460 : Int32) + ((80 : Int32) * x1)) + x2).toNatClampNeg (r_line x2.toNatClampNeg)) r_line _ _ ls hw (hP.sub [0, 1, 2, 3] rfl) (hD.sub [0, 1, 2, 3] (by decide) rfl) hS (lv_sub hl [1, 2, 0] rfl)
set_option maxHeartbeats 4000000 in
set_option maxRecDepth 100000 in
theorem tX11_orders_91 {p : Program} {l : Launch} {e : Env} {s : State} {m : MethodId} {args : Array Value} {below : List Frame} {meth : Method} {c : Code} {dC : Nat → ClassId} {dI : Nat → Nat → Nat} {cI cZ cO cW : ClassId} {A : Nat → Prop} {h h_all h_has h_line h_act h_pile h_comes h_leaves h_tried h_met : Nat} {Q : Int32 → Int32 → Int32 → Int32 → Int32 → Int32 → Int32 → Int32 → Int32 → Int32 → Int32 → Int32 → (Nat → Int32) → (Nat → Int32) → (Nat → Int32) → Prop}  (hC : Cx p s m args meth c cX11_orders (some .int) 3 wsX11_orders RX11) (hK : va_K (dC, dI) vwCl (tysA cI cZ cO cW) s) (hA : ∀ q : Nat, s.heap.size ≤ q → A q) :
    ∀ (x1 : Int32) (f_size : Int32) (f_next : Int32) (f_where : Int32) (f_token : Int32) (f_number : Int32) (f_sign : Int32) (f_word : Int32) (f_wrong : Int32) (f_open : Int32) (f_lines : Int32) (f_acts : Int32) (r_act : (Nat → Int32)) (r_all : (Nat → Int32)) (r_line : (Nat → Int32)) (H : Heap) (locs : List Loc) (ls : Array Slot), wX11_orders_91 Q  x1 f_size f_next f_where f_token f_number f_sign f_word f_wrong f_open f_lines f_acts r_act r_all r_line → va_P (dC, dI) vwCl (vX11_orders cI cZ h h_all h_has h_line h_act h_pile h_comes h_leaves h_tried h_met f_size f_next f_where f_token f_number f_sign f_word f_wrong f_open f_lines f_acts r_act r_all r_line) H → va_D A (vX11_orders cI cZ h h_all h_has h_line h_act h_pile h_comes h_leaves h_tried h_met f_size f_next f_where f_token f_number f_sign f_word f_wrong f_open f_lines f_acts r_act r_all r_line) → va_S A s.heap H locs → lv_has ls 3 [(0, .ref h), (1, .int x1)] → W p l e rmX11_orders s m args below meth c H locs 0 0 (MQ below (qX11_orders dC dI cI cZ cO cW h h_all h_has h_line h_act h_pile h_comes h_leaves h_tried h_met Q A) args s 0 0 A) (F0 m 91 ls []) := by
  obtain ⟨hx, hb, hr, hml, hown, hts, hlocks⟩ := id hC
  intro x1 f_size f_next f_where f_token f_number f_sign f_word f_wrong f_open f_lines f_acts r_act r_all r_line H locs ls hw hP hD hS hl
  refine lv_aload_n hx hb dX11_orders_91 rfl (lv_at hl 0 rfl) ?_
  refine va_get (D := (dC, dI)) (ci := 10) (v := .ref h_all) (C := RX11) (T := TX11) (N := 20) hx hb hts uX11_orders_X11 hown hK hP 0 rfl rfl 0 (by decide) (hts _ mX11_orders_1) (fun _ h9 => h9) rfl dX11_orders_92 ?_
  refine lv_bipush (v := (10 : Int32)) hx hb dX11_orders_95 (by decide) ?_
  obtain ⟨h_9, hw⟩ := hw
  refine va_iald hx hb hK hP 2 0 rfl rfl h_9 dX11_orders_97 ?_
  refine lv_if_eq (tgt := 103) hx hb dX11_orders_98 (by decide) (fun c_10 => ?_) (fun c_10 => ?_)
  · have hw := hw.1 c_10
    refine lv_iconst (v := (0 : Int32)) hx hb dX11_orders_103 (by decide) ?_
    refine lv_istore_n (lv' := [(2, .int (0 : Int32)), (0, .ref h), (1, .int x1)]) hx hb dX11_orders_104 rfl hl (by decide) rfl (fun ls hl => ?_)
    obtain ⟨n_11, hw⟩ := hw
    exact tX11_orders_105 hC hK hA  n_11 x1 (0 : Int32) f_size f_next f_where f_token f_number f_sign f_word f_wrong f_open f_lines f_acts r_act r_all r_line _ _ ls hw (hP.sub [0, 1, 2, 3] rfl) (hD.sub [0, 1, 2, 3] (by decide) rfl) hS (lv_sub hl [1, 2, 0] rfl)
  · have hw := hw.2 c_10
    refine lv_iconst (v := (-1 : Int32)) hx hb dX11_orders_101 (by decide) ?_
    have hP9 := hP.sub (ws' := (vX11_orders cI cZ h h_all h_has h_line h_act h_pile h_comes h_leaves h_tried h_met f_size f_next f_where f_token f_number f_sign f_word f_wrong f_open f_lines f_acts r_act r_all r_line)) [0, 1, 2, 3] rfl
    have hD9 := hD.sub (ws' := (vX11_orders cI cZ h h_all h_has h_line h_act h_pile h_comes h_leaves h_tried h_met f_size f_next f_where f_token f_number f_sign f_word f_wrong f_open f_lines f_acts r_act r_all r_line)) [0, 1, 2, 3] (by decide) rfl
    exact W.iret (v := (-1 : Int32)) hx hb hr (fun t ht hW => ⟨⟨(-1 : Int32), (f_size, f_next, f_where, f_token, f_number, f_sign, f_word, f_wrong, f_open, f_lines, f_acts, r_act, r_all, r_line), rfl, hw, by rw [ht]; exact hP9, va_K.moved hW.alike hK, hD9⟩, hS.F ht⟩) hS.2.2 dX11_orders_102
set_option maxHeartbeats 4000000 in
set_option maxRecDepth 100000 in
theorem tX11_orders_70 {p : Program} {l : Launch} {e : Env} {s : State} {m : MethodId} {args : Array Value} {below : List Frame} {meth : Method} {c : Code} {dC : Nat → ClassId} {dI : Nat → Nat → Nat} {cI cZ cO cW : ClassId} {A : Nat → Prop} {h h_all h_has h_line h_act h_pile h_comes h_leaves h_tried h_met : Nat} {Q : Int32 → Int32 → Int32 → Int32 → Int32 → Int32 → Int32 → Int32 → Int32 → Int32 → Int32 → Int32 → (Nat → Int32) → (Nat → Int32) → (Nat → Int32) → Prop}  (hC : Cx p s m args meth c cX11_orders (some .int) 3 wsX11_orders RX11) (hK : va_K (dC, dI) vwCl (tysA cI cZ cO cW) s) (hA : ∀ q : Nat, s.heap.size ≤ q → A q) :
    ∀ (n : Nat) (x1 : Int32) (f_size : Int32) (f_next : Int32) (f_where : Int32) (f_token : Int32) (f_number : Int32) (f_sign : Int32) (f_word : Int32) (f_wrong : Int32) (f_open : Int32) (f_lines : Int32) (f_acts : Int32) (r_act : (Nat → Int32)) (r_all : (Nat → Int32)) (r_line : (Nat → Int32)) (H : Heap) (locs : List Loc) (ls : Array Slot), wX11_orders_70 Q  n x1 f_size f_next f_where f_token f_number f_sign f_word f_wrong f_open f_lines f_acts r_act r_all r_line → va_P (dC, dI) vwCl (vX11_orders cI cZ h h_all h_has h_line h_act h_pile h_comes h_leaves h_tried h_met f_size f_next f_where f_token f_number f_sign f_word f_wrong f_open f_lines f_acts r_act r_all r_line) H → va_D A (vX11_orders cI cZ h h_all h_has h_line h_act h_pile h_comes h_leaves h_tried h_met f_size f_next f_where f_token f_number f_sign f_word f_wrong f_open f_lines f_acts r_act r_all r_line) → va_S A s.heap H locs → lv_has ls 3 [(0, .ref h), (1, .int x1)] → W p l e rmX11_orders s m args below meth c H locs 0 0 (MQ below (qX11_orders dC dI cI cZ cO cW h h_all h_has h_line h_act h_pile h_comes h_leaves h_tried h_met Q A) args s 0 0 A) (F0 m 70 ls []) := by
  obtain ⟨hx, hb, hr, hml, hown, hts, hlocks⟩ := id hC
  intro n
  induction n with
  | zero =>
    intro  x1 f_size f_next f_where f_token f_number f_sign f_word f_wrong f_open f_lines f_acts r_act r_all r_line H locs ls hw
    exact hw.elim
  | succ n ih =>
    intro  x1 f_size f_next f_where f_token f_number f_sign f_word f_wrong f_open f_lines f_acts r_act r_all r_line H locs ls hw hP hD hS hl
    refine lv_aload_n hx hb dX11_orders_70 rfl (lv_at hl 0 rfl) ?_
    refine va_get (D := (dC, dI)) (ci := 10) (v := .int f_wrong) (C := RX11) (T := TX11) (N := 20) hx hb hts uX11_orders_X11 hown hK hP 0 rfl rfl 9 (by decide) (hts _ mX11_orders_4) (fun _ h9 => h9) rfl dX11_orders_71 ?_
    refine lv_if_ne (tgt := 91) hx hb dX11_orders_74 (by decide) (fun c_12 => ?_) (fun c_12 => ?_)
    · have hw := hw.1 c_12
      exact tX11_orders_91 hC hK hA  x1 f_size f_next f_where f_token f_number f_sign f_word f_wrong f_open f_lines f_acts r_act r_all r_line _ _ ls hw (hP.sub [0, 1, 2, 3] rfl) (hD.sub [0, 1, 2, 3] (by decide) rfl) hS (lv_sub hl [0, 1] rfl)
    · have hw := hw.2 c_12
      refine lv_aload_n hx hb dX11_orders_77 rfl (lv_at hl 0 rfl) ?_
      refine va_get (D := (dC, dI)) (ci := 10) (v := .int f_token) (C := RX11) (T := TX11) (N := 20) hx hb hts uX11_orders_X11 hown hK hP 0 rfl rfl 5 (by decide) (hts _ mX11_orders_5) (fun _ h9 => h9) rfl dX11_orders_78 ?_
      refine lv_if_eq (tgt := 91) hx hb dX11_orders_81 (by decide) (fun c_13 => ?_) (fun c_13 => ?_)
      · have hw := hw.1 c_13
        exact tX11_orders_91 hC hK hA  x1 f_size f_next f_where f_token f_number f_sign f_word f_wrong f_open f_lines f_acts r_act r_all r_line _ _ ls hw (hP.sub [0, 1, 2, 3] rfl) (hD.sub [0, 1, 2, 3] (by decide) rfl) hS (lv_sub hl [0, 1] rfl)
      · have hw := hw.2 c_13
        refine lv_aload_n hx hb dX11_orders_84 rfl (lv_at hl 0 rfl) ?_
        have hPc := hP.sub (ws' := [(h, .inr (10, [.ref h_all, .ref h_has, .int f_size, .int f_next, .int f_where, .int f_token, .int f_number, .int f_sign, .int f_word, .int f_wrong, .int f_open, .int f_lines, .int f_acts, .ref h_line, .ref h_act, .ref h_pile, .ref h_comes, .ref h_leaves, .ref h_tried, .ref h_met])), (h_act, .inl (cI, 780, .inl r_act)), (h_all, .inl (cI, 53700, .inl r_all)), (h_line, .inl (cI, 80, .inl r_line))]) [0, 1, 2, 3] rfl
        have hDc := hD.sub (ws' := [(h, .inr (10, [.ref h_all, .ref h_has, .int f_size, .int f_next, .int f_where, .int f_token, .int f_number, .int f_sign, .int f_word, .int f_wrong, .int f_open, .int f_lines, .int f_acts, .ref h_line, .ref h_act, .ref h_pile, .ref h_comes, .ref h_leaves, .ref h_tried, .ref h_met])), (h_act, .inl (cI, 780, .inl r_act)), (h_all, .inl (cI, 53700, .inl r_all)), (h_line, .inl (cI, 80, .inl r_line))]) [0, 1, 2, 3] (by decide) rfl
        have hFc := va_free (wc := [(h, .inr (10, [.ref h_all, .ref h_has, .int f_size, .int f_next, .int f_where, .int f_token, .int f_number, .int f_sign, .int f_word, .int f_wrong, .int f_open, .int f_lines, .int f_acts, .ref h_line, .ref h_act, .ref h_pile, .ref h_comes, .ref h_leaves, .ref h_tried, .ref h_met])), (h_act, .inl (cI, 780, .inl r_act)), (h_all, .inl (cI, 53700, .inl r_all)), (h_line, .inl (cI, 80, .inl r_line))]) hD hS hA [0, 1, 2, 3] rfl
        refine va_callv (va_runV (As := []) (rest := []) ⟨hx, hb, hml, hown, hts⟩ (kX11_aLine l dC dI cI cZ cO cW h h_all h_has h_line h_act h_pile h_comes h_leaves h_tried h_met H.size f_size f_next f_where f_token f_number f_sign f_word f_wrong f_open f_lines f_acts r_act r_all r_line _ hw) (cwV 0 hts gX11_orders_X11_aLine rfl rfl rfl (by decide +kernel) ⟨Nat.le_of_ble_eq_true rfl, Nat.le_of_ble_eq_true rfl⟩) (pv_of hPc hK hDc (va_recv hK hPc (ci := 10) (q0 := 0) rfl rfl)) rfl rfl hl.1 rfl (lv_room (Nat.le_of_ble_eq_true rfl)) dX11_orders_85 ⟨Nat.zero_le _, Nat.zero_le _⟩) hS (fun q _ h => hFc q h) hFc (fun u t H locs ht hvm hw hB hz1 hk1 hS => ?_)
        obtain ⟨f_next_14, f_where_15, f_token_16, f_number_17, f_sign_18, f_word_19, f_wrong_20, f_open_21, f_lines_22, f_acts_23, r_act_24, r_all_25, r_line_26⟩ := u
        obtain ⟨hP, hD⟩ := af_join (wr := []) (w1 := [(h, .inr (10, [.ref h_all, .ref h_has, .int f_size, .int f_next_14, .int f_where_15, .int f_token_16, .int f_number_17, .int f_sign_18, .int f_word_19, .int f_wrong_20, .int f_open_21, .int f_lines_22, .int f_acts_23, .ref h_line, .ref h_act, .ref h_pile, .ref h_comes, .ref h_leaves, .ref h_tried, .ref h_met])), (h_act, .inl (cI, 780, .inl r_act_24)), (h_all, .inl (cI, 53700, .inl r_all_25)), (h_line, .inl (cI, 80, .inl r_line_26))]) hB ht hP hD [0, 1, 2, 3] [] rfl rfl (by decide) (by decide) hk1 hFc
        have hP : va_P (dC, dI) vwCl [(h, .inr (10, [.ref h_all, .ref h_has, .int f_size, .int f_next_14, .int f_where_15, .int f_token_16, .int f_number_17, .int f_sign_18, .int f_word_19, .int f_wrong_20, .int f_open_21, .int f_lines_22, .int f_acts_23, .ref h_line, .ref h_act, .ref h_pile, .ref h_comes, .ref h_leaves, .ref h_tried, .ref h_met])), (h_act, .inl (cI, 780, .inl r_act_24)), (h_all, .inl (cI, 53700, .inl r_all_25)), (h_line, .inl (cI, 80, .inl r_line_26))] _ := hP
        have hD : va_D A [(h, .inr (10, [.ref h_all, .ref h_has, .int f_size, .int f_next_14, .int f_where_15, .int f_token_16, .int f_number_17, .int f_sign_18, .int f_word_19, .int f_wrong_20, .int f_open_21, .int f_lines_22, .int f_acts_23, .ref h_line, .ref h_act, .ref h_pile, .ref h_comes, .ref h_leaves, .ref h_tried, .ref h_met])), (h_act, .inl (cI, 780, .inl r_act_24)), (h_all, .inl (cI, 53700, .inl r_all_25)), (h_line, .inl (cI, 80, .inl r_line_26))] := hD
        refine lv_goto (tgt := 70) hx hb dX11_orders_88 (by decide) ?_
        exact ih x1 f_size f_next_14 f_where_15 f_token_16 f_number_17 f_sign_18 f_word_19 f_wrong_20 f_open_21 f_lines_22 f_acts_23 r_act_24 r_all_25 r_line_26 _ _ ls hw (hP.sub [0, 1, 2, 3] rfl) (hD.sub [0, 1, 2, 3] (by decide) rfl) hS (lv_sub hl [0, 1] rfl)
set_option maxHeartbeats 4000000 in
set_option maxRecDepth 100000 in
theorem tX11_orders_e {p : Program} {l : Launch} {e : Env} {s : State} {m : MethodId} {args : Array Value} {below : List Frame} {meth : Method} {c : Code} {dC : Nat → ClassId} {dI : Nat → Nat → Nat} {cI cZ cO cW : ClassId} {A : Nat → Prop} {h h_all h_has h_line h_act h_pile h_comes h_leaves h_tried h_met : Nat} {Q : Int32 → Int32 → Int32 → Int32 → Int32 → Int32 → Int32 → Int32 → Int32 → Int32 → Int32 → Int32 → (Nat → Int32) → (Nat → Int32) → (Nat → Int32) → Prop} (hC : Cx p s m args meth c cX11_orders (some .int) 3 wsX11_orders RX11) (hK : va_K (dC, dI) vwCl (tysA cI cZ cO cW) s) (hA : ∀ q : Nat, s.heap.size ≤ q → A q) :
    ∀ (x1 : Int32) (f_size : Int32) (f_next : Int32) (f_where : Int32) (f_token : Int32) (f_number : Int32) (f_sign : Int32) (f_word : Int32) (f_wrong : Int32) (f_open : Int32) (f_lines : Int32) (f_acts : Int32) (r_act : Nat → Int32) (r_all : Nat → Int32) (r_line : Nat → Int32) (H : Heap) (locs : List Loc) (ls : Array Slot), wX11_orders Q x1 f_size f_next f_where f_token f_number f_sign f_word f_wrong f_open f_lines f_acts r_act r_all r_line → va_P (dC, dI) vwCl (vX11_orders cI cZ h h_all h_has h_line h_act h_pile h_comes h_leaves h_tried h_met f_size f_next f_where f_token f_number f_sign f_word f_wrong f_open f_lines f_acts r_act r_all r_line) H → va_D A (vX11_orders cI cZ h h_all h_has h_line h_act h_pile h_comes h_leaves h_tried h_met f_size f_next f_where f_token f_number f_sign f_word f_wrong f_open f_lines f_acts r_act r_all r_line) → va_S A s.heap H locs → lv_has ls 3 [(0, .ref h), (1, .int x1)] → W p l e rmX11_orders s m args below meth c H locs 0 0 (MQ below (qX11_orders dC dI cI cZ cO cW h h_all h_has h_line h_act h_pile h_comes h_leaves h_tried h_met Q A) args s 0 0 A) (F0 m 0 ls []) := by
  obtain ⟨hx, hb, hr, hml, hown, hts, hlocks⟩ := id hC
  intro x1 f_size f_next f_where f_token f_number f_sign f_word f_wrong f_open f_lines f_acts r_act r_all r_line H locs ls hw hP hD hS hl
  refine lv_aload_n hx hb dX11_orders_0 rfl (lv_at hl 0 rfl) ?_
  refine lv_iload_n hx hb dX11_orders_1 rfl (lv_at hl 1 rfl) ?_
  have hPc := hP.sub (ws' := [(h, .inr (10, [.ref h_all, .ref h_has, .int f_size, .int f_next, .int f_where, .int f_token, .int f_number, .int f_sign, .int f_word, .int f_wrong, .int f_open, .int f_lines, .int f_acts, .ref h_line, .ref h_act, .ref h_pile, .ref h_comes, .ref h_leaves, .ref h_tried, .ref h_met])), (h_all, .inl (cI, 53700, .inl r_all))]) [0, 2] rfl
  have hDc := hD.sub (ws' := [(h, .inr (10, [.ref h_all, .ref h_has, .int f_size, .int f_next, .int f_where, .int f_token, .int f_number, .int f_sign, .int f_word, .int f_wrong, .int f_open, .int f_lines, .int f_acts, .ref h_line, .ref h_act, .ref h_pile, .ref h_comes, .ref h_leaves, .ref h_tried, .ref h_met])), (h_all, .inl (cI, 53700, .inl r_all))]) [0, 2] (by decide) rfl
  have hFc := va_free (wc := [(h, .inr (10, [.ref h_all, .ref h_has, .int f_size, .int f_next, .int f_where, .int f_token, .int f_number, .int f_sign, .int f_word, .int f_wrong, .int f_open, .int f_lines, .int f_acts, .ref h_line, .ref h_act, .ref h_pile, .ref h_comes, .ref h_leaves, .ref h_tried, .ref h_met])), (h_all, .inl (cI, 53700, .inl r_all))]) hD hS hA [0, 2] rfl
  refine va_calli (va_runV (As := [.int x1]) (rest := []) ⟨hx, hb, hml, hown, hts⟩ (kX11_isShip l dC dI cI cZ cO cW h h_all h_has h_line h_act h_pile h_comes h_leaves h_tried h_met H.size f_size f_next f_where f_token f_number f_sign f_word f_wrong f_open f_lines f_acts r_all x1 _ hw) (cwV 1 hts gX11_orders_X11_isShip rfl rfl rfl (by decide +kernel) ⟨Nat.le_of_ble_eq_true rfl, Nat.le_of_ble_eq_true rfl⟩) (pv_of hPc hK hDc (va_recv hK hPc (ci := 10) (q0 := 0) rfl rfl)) rfl rfl hl.1 rfl (lv_room (Nat.le_of_ble_eq_true rfl)) dX11_orders_2 ⟨Nat.zero_le _, Nat.zero_le _⟩) hS (fun q _ h => hFc q h) hFc (fun r_27 u t H locs ht hvm hw hB hz1 hk1 hS => ?_)
  obtain ⟨hP, hD⟩ := af_join (wr := [(h_act, .inl (cI, 780, .inl r_act)), (h_line, .inl (cI, 80, .inl r_line))]) (w1 := [(h, .inr (10, [.ref h_all, .ref h_has, .int f_size, .int f_next, .int f_where, .int f_token, .int f_number, .int f_sign, .int f_word, .int f_wrong, .int f_open, .int f_lines, .int f_acts, .ref h_line, .ref h_act, .ref h_pile, .ref h_comes, .ref h_leaves, .ref h_tried, .ref h_met])), (h_all, .inl (cI, 53700, .inl r_all))]) hB ht hP hD [0, 2] [1, 3] rfl rfl (by decide) (by decide) hk1 hFc
  have hP : va_P (dC, dI) vwCl [(h_act, .inl (cI, 780, .inl r_act)), (h_line, .inl (cI, 80, .inl r_line)), (h, .inr (10, [.ref h_all, .ref h_has, .int f_size, .int f_next, .int f_where, .int f_token, .int f_number, .int f_sign, .int f_word, .int f_wrong, .int f_open, .int f_lines, .int f_acts, .ref h_line, .ref h_act, .ref h_pile, .ref h_comes, .ref h_leaves, .ref h_tried, .ref h_met])), (h_all, .inl (cI, 53700, .inl r_all))] _ := hP
  have hD : va_D A [(h_act, .inl (cI, 780, .inl r_act)), (h_line, .inl (cI, 80, .inl r_line)), (h, .inr (10, [.ref h_all, .ref h_has, .int f_size, .int f_next, .int f_where, .int f_token, .int f_number, .int f_sign, .int f_word, .int f_wrong, .int f_open, .int f_lines, .int f_acts, .ref h_line, .ref h_act, .ref h_pile, .ref h_comes, .ref h_leaves, .ref h_tried, .ref h_met])), (h_all, .inl (cI, 53700, .inl r_all))] := hD
  refine lv_if_ne (tgt := 11) hx hb dX11_orders_5 (by decide) (fun c_28 => ?_) (fun c_28 => ?_)
  · have hw := hw.1 c_28
    refine lv_aload_n hx hb dX11_orders_11 rfl (lv_at hl 0 rfl) ?_
    refine lv_aload_n hx hb dX11_orders_12 rfl (lv_at hl 0 rfl) ?_
    refine va_get (D := (dC, dI)) (ci := 10) (v := .ref h_all) (C := RX11) (T := TX11) (N := 20) hx hb hts uX11_orders_X11 hown hK hP 2 rfl rfl 0 (by decide) (hts _ mX11_orders_1) (fun _ h9 => h9) rfl dX11_orders_13 ?_
    refine lv_bipush (v := (9 : Int32)) hx hb dX11_orders_16 (by decide) ?_
    obtain ⟨h_29, hw⟩ := hw
    refine va_iald hx hb hK hP 3 0 rfl rfl h_29 dX11_orders_18 ?_
    refine va_put (D := (dC, dI)) (ci := 10) (v := .int (r_all (9 : Int32).toNatClampNeg)) (ty := .int) (C := RX11) (T := TX11) (N := 20) hx hb hts uX11_orders_X11 tyX11 tyX11_ok nmX11 hown hK hP hD hS 2 rfl rfl 2 (by decide) (hts _ mX11_orders_8) (fun _ h9 => h9) rfl (tyX11_ok 2 (by decide)) rfl rfl (Nat.le_of_ble_eq_true rfl) dX11_orders_19 (fun H locs hP hD hS => ?_)
    have hP : va_P (dC, dI) vwCl [(h_act, .inl (cI, 780, .inl r_act)), (h_line, .inl (cI, 80, .inl r_line)), (h, .inr (10, [.ref h_all, .ref h_has, .int (r_all (9 : Int32).toNatClampNeg), .int f_next, .int f_where, .int f_token, .int f_number, .int f_sign, .int f_word, .int f_wrong, .int f_open, .int f_lines, .int f_acts, .ref h_line, .ref h_act, .ref h_pile, .ref h_comes, .ref h_leaves, .ref h_tried, .ref h_met])), (h_all, .inl (cI, 53700, .inl r_all))] _ := hP
    have hD : va_D A [(h_act, .inl (cI, 780, .inl r_act)), (h_line, .inl (cI, 80, .inl r_line)), (h, .inr (10, [.ref h_all, .ref h_has, .int (r_all (9 : Int32).toNatClampNeg), .int f_next, .int f_where, .int f_token, .int f_number, .int f_sign, .int f_word, .int f_wrong, .int f_open, .int f_lines, .int f_acts, .ref h_line, .ref h_act, .ref h_pile, .ref h_comes, .ref h_leaves, .ref h_tried, .ref h_met])), (h_all, .inl (cI, 53700, .inl r_all))] := hD
    refine lv_aload_n hx hb dX11_orders_22 rfl (lv_at hl 0 rfl) ?_
    refine va_get (D := (dC, dI)) (ci := 10) (v := .ref h_all) (C := RX11) (T := TX11) (N := 20) hx hb hts uX11_orders_X11 hown hK hP 2 rfl rfl 0 (by decide) (hts _ mX11_orders_1) (fun _ h9 => h9) rfl dX11_orders_23 ?_
    refine lv_bipush (v := (9 : Int32)) hx hb dX11_orders_26 (by decide) ?_
    refine lv_iconst (v := (0 : Int32)) hx hb dX11_orders_28 (by decide) ?_
    obtain ⟨h_30, hw⟩ := hw
    refine va_iast hx hb hK hP hD hS 3 0 rfl rfl h_30 dX11_orders_29 (fun H locs hP hD hS => ?_)
    have hP : va_P (dC, dI) vwCl [(h_act, .inl (cI, 780, .inl r_act)), (h_line, .inl (cI, 80, .inl r_line)), (h, .inr (10, [.ref h_all, .ref h_has, .int (r_all (9 : Int32).toNatClampNeg), .int f_next, .int f_where, .int f_token, .int f_number, .int f_sign, .int f_word, .int f_wrong, .int f_open, .int f_lines, .int f_acts, .ref h_line, .ref h_act, .ref h_pile, .ref h_comes, .ref h_leaves, .ref h_tried, .ref h_met])), (h_all, .inl (cI, 53700, .inl (upd r_all (9 : Int32).toNatClampNeg (0 : Int32))))] _ := hP
    have hD : va_D A [(h_act, .inl (cI, 780, .inl r_act)), (h_line, .inl (cI, 80, .inl r_line)), (h, .inr (10, [.ref h_all, .ref h_has, .int (r_all (9 : Int32).toNatClampNeg), .int f_next, .int f_where, .int f_token, .int f_number, .int f_sign, .int f_word, .int f_wrong, .int f_open, .int f_lines, .int f_acts, .ref h_line, .ref h_act, .ref h_pile, .ref h_comes, .ref h_leaves, .ref h_tried, .ref h_met])), (h_all, .inl (cI, 53700, .inl (upd r_all (9 : Int32).toNatClampNeg (0 : Int32))))] := hD
    refine lv_aload_n hx hb dX11_orders_30 rfl (lv_at hl 0 rfl) ?_
    refine lv_iconst (v := (0 : Int32)) hx hb dX11_orders_31 (by decide) ?_
    refine va_put (D := (dC, dI)) (ci := 10) (v := .int (0 : Int32)) (ty := .int) (C := RX11) (T := TX11) (N := 20) hx hb hts uX11_orders_X11 tyX11 tyX11_ok nmX11 hown hK hP hD hS 2 rfl rfl 3 (by decide) (hts _ mX11_orders_7) (fun _ h9 => h9) rfl (tyX11_ok 3 (by decide)) rfl rfl (Nat.le_of_ble_eq_true rfl) dX11_orders_32 (fun H locs hP hD hS => ?_)
    have hP : va_P (dC, dI) vwCl [(h_act, .inl (cI, 780, .inl r_act)), (h_line, .inl (cI, 80, .inl r_line)), (h, .inr (10, [.ref h_all, .ref h_has, .int (r_all (9 : Int32).toNatClampNeg), .int (0 : Int32), .int f_where, .int f_token, .int f_number, .int f_sign, .int f_word, .int f_wrong, .int f_open, .int f_lines, .int f_acts, .ref h_line, .ref h_act, .ref h_pile, .ref h_comes, .ref h_leaves, .ref h_tried, .ref h_met])), (h_all, .inl (cI, 53700, .inl (upd r_all (9 : Int32).toNatClampNeg (0 : Int32))))] _ := hP
    have hD : va_D A [(h_act, .inl (cI, 780, .inl r_act)), (h_line, .inl (cI, 80, .inl r_line)), (h, .inr (10, [.ref h_all, .ref h_has, .int (r_all (9 : Int32).toNatClampNeg), .int (0 : Int32), .int f_where, .int f_token, .int f_number, .int f_sign, .int f_word, .int f_wrong, .int f_open, .int f_lines, .int f_acts, .ref h_line, .ref h_act, .ref h_pile, .ref h_comes, .ref h_leaves, .ref h_tried, .ref h_met])), (h_all, .inl (cI, 53700, .inl (upd r_all (9 : Int32).toNatClampNeg (0 : Int32))))] := hD
    refine lv_aload_n hx hb dX11_orders_35 rfl (lv_at hl 0 rfl) ?_
    refine va_get (D := (dC, dI)) (ci := 10) (v := .ref h_all) (C := RX11) (T := TX11) (N := 20) hx hb hts uX11_orders_X11 hown hK hP 2 rfl rfl 0 (by decide) (hts _ mX11_orders_1) (fun _ h9 => h9) rfl dX11_orders_36 ?_
    refine lv_bipush (v := (10 : Int32)) hx hb dX11_orders_39 (by decide) ?_
    refine lv_iconst (v := (0 : Int32)) hx hb dX11_orders_41 (by decide) ?_
    obtain ⟨h_31, hw⟩ := hw
    refine va_iast hx hb hK hP hD hS 3 0 rfl rfl h_31 dX11_orders_42 (fun H locs hP hD hS => ?_)
    have hP : va_P (dC, dI) vwCl [(h_act, .inl (cI, 780, .inl r_act)), (h_line, .inl (cI, 80, .inl r_line)), (h, .inr (10, [.ref h_all, .ref h_has, .int (r_all (9 : Int32).toNatClampNeg), .int (0 : Int32), .int f_where, .int f_token, .int f_number, .int f_sign, .int f_word, .int f_wrong, .int f_open, .int f_lines, .int f_acts, .ref h_line, .ref h_act, .ref h_pile, .ref h_comes, .ref h_leaves, .ref h_tried, .ref h_met])), (h_all, .inl (cI, 53700, .inl (upd (upd r_all (9 : Int32).toNatClampNeg (0 : Int32)) (10 : Int32).toNatClampNeg (0 : Int32))))] _ := hP
    have hD : va_D A [(h_act, .inl (cI, 780, .inl r_act)), (h_line, .inl (cI, 80, .inl r_line)), (h, .inr (10, [.ref h_all, .ref h_has, .int (r_all (9 : Int32).toNatClampNeg), .int (0 : Int32), .int f_where, .int f_token, .int f_number, .int f_sign, .int f_word, .int f_wrong, .int f_open, .int f_lines, .int f_acts, .ref h_line, .ref h_act, .ref h_pile, .ref h_comes, .ref h_leaves, .ref h_tried, .ref h_met])), (h_all, .inl (cI, 53700, .inl (upd (upd r_all (9 : Int32).toNatClampNeg (0 : Int32)) (10 : Int32).toNatClampNeg (0 : Int32))))] := hD
    refine lv_aload_n hx hb dX11_orders_43 rfl (lv_at hl 0 rfl) ?_
    refine va_get (D := (dC, dI)) (ci := 10) (v := .ref h_all) (C := RX11) (T := TX11) (N := 20) hx hb hts uX11_orders_X11 hown hK hP 2 rfl rfl 0 (by decide) (hts _ mX11_orders_1) (fun _ h9 => h9) rfl dX11_orders_44 ?_
    refine lv_bipush (v := (11 : Int32)) hx hb dX11_orders_47 (by decide) ?_
    refine lv_iconst (v := (-1 : Int32)) hx hb dX11_orders_49 (by decide) ?_
    obtain ⟨h_32, hw⟩ := hw
    refine va_iast hx hb hK hP hD hS 3 0 rfl rfl h_32 dX11_orders_50 (fun H locs hP hD hS => ?_)
    have hP : va_P (dC, dI) vwCl [(h_act, .inl (cI, 780, .inl r_act)), (h_line, .inl (cI, 80, .inl r_line)), (h, .inr (10, [.ref h_all, .ref h_has, .int (r_all (9 : Int32).toNatClampNeg), .int (0 : Int32), .int f_where, .int f_token, .int f_number, .int f_sign, .int f_word, .int f_wrong, .int f_open, .int f_lines, .int f_acts, .ref h_line, .ref h_act, .ref h_pile, .ref h_comes, .ref h_leaves, .ref h_tried, .ref h_met])), (h_all, .inl (cI, 53700, .inl (upd (upd (upd r_all (9 : Int32).toNatClampNeg (0 : Int32)) (10 : Int32).toNatClampNeg (0 : Int32)) (11 : Int32).toNatClampNeg (-1 : Int32))))] _ := hP
    have hD : va_D A [(h_act, .inl (cI, 780, .inl r_act)), (h_line, .inl (cI, 80, .inl r_line)), (h, .inr (10, [.ref h_all, .ref h_has, .int (r_all (9 : Int32).toNatClampNeg), .int (0 : Int32), .int f_where, .int f_token, .int f_number, .int f_sign, .int f_word, .int f_wrong, .int f_open, .int f_lines, .int f_acts, .ref h_line, .ref h_act, .ref h_pile, .ref h_comes, .ref h_leaves, .ref h_tried, .ref h_met])), (h_all, .inl (cI, 53700, .inl (upd (upd (upd r_all (9 : Int32).toNatClampNeg (0 : Int32)) (10 : Int32).toNatClampNeg (0 : Int32)) (11 : Int32).toNatClampNeg (-1 : Int32))))] := hD
    refine lv_aload_n hx hb dX11_orders_51 rfl (lv_at hl 0 rfl) ?_
    refine lv_iconst (v := (0 : Int32)) hx hb dX11_orders_52 (by decide) ?_
    refine va_put (D := (dC, dI)) (ci := 10) (v := .int (0 : Int32)) (ty := .boolean) (C := RX11) (T := TX11) (N := 20) hx hb hts uX11_orders_X11 tyX11 tyX11_ok nmX11 hown hK hP hD hS 2 rfl rfl 9 (by decide) (hts _ mX11_orders_4) (fun _ h9 => h9) rfl (tyX11_ok 9 (by decide)) rfl rfl (Nat.le_of_ble_eq_true rfl) dX11_orders_53 (fun H locs hP hD hS => ?_)
    have hP : va_P (dC, dI) vwCl [(h_act, .inl (cI, 780, .inl r_act)), (h_line, .inl (cI, 80, .inl r_line)), (h, .inr (10, [.ref h_all, .ref h_has, .int (r_all (9 : Int32).toNatClampNeg), .int (0 : Int32), .int f_where, .int f_token, .int f_number, .int f_sign, .int f_word, .int (0 : Int32), .int f_open, .int f_lines, .int f_acts, .ref h_line, .ref h_act, .ref h_pile, .ref h_comes, .ref h_leaves, .ref h_tried, .ref h_met])), (h_all, .inl (cI, 53700, .inl (upd (upd (upd r_all (9 : Int32).toNatClampNeg (0 : Int32)) (10 : Int32).toNatClampNeg (0 : Int32)) (11 : Int32).toNatClampNeg (-1 : Int32))))] _ := hP
    have hD : va_D A [(h_act, .inl (cI, 780, .inl r_act)), (h_line, .inl (cI, 80, .inl r_line)), (h, .inr (10, [.ref h_all, .ref h_has, .int (r_all (9 : Int32).toNatClampNeg), .int (0 : Int32), .int f_where, .int f_token, .int f_number, .int f_sign, .int f_word, .int (0 : Int32), .int f_open, .int f_lines, .int f_acts, .ref h_line, .ref h_act, .ref h_pile, .ref h_comes, .ref h_leaves, .ref h_tried, .ref h_met])), (h_all, .inl (cI, 53700, .inl (upd (upd (upd r_all (9 : Int32).toNatClampNeg (0 : Int32)) (10 : Int32).toNatClampNeg (0 : Int32)) (11 : Int32).toNatClampNeg (-1 : Int32))))] := hD
    refine lv_aload_n hx hb dX11_orders_56 rfl (lv_at hl 0 rfl) ?_
    refine lv_iconst (v := (0 : Int32)) hx hb dX11_orders_57 (by decide) ?_
    refine va_put (D := (dC, dI)) (ci := 10) (v := .int (0 : Int32)) (ty := .int) (C := RX11) (T := TX11) (N := 20) hx hb hts uX11_orders_X11 tyX11 tyX11_ok nmX11 hown hK hP hD hS 2 rfl rfl 11 (by decide) (hts _ mX11_orders_0) (fun _ h9 => h9) rfl (tyX11_ok 11 (by decide)) rfl rfl (Nat.le_of_ble_eq_true rfl) dX11_orders_58 (fun H locs hP hD hS => ?_)
    have hP : va_P (dC, dI) vwCl [(h_act, .inl (cI, 780, .inl r_act)), (h_line, .inl (cI, 80, .inl r_line)), (h, .inr (10, [.ref h_all, .ref h_has, .int (r_all (9 : Int32).toNatClampNeg), .int (0 : Int32), .int f_where, .int f_token, .int f_number, .int f_sign, .int f_word, .int (0 : Int32), .int f_open, .int (0 : Int32), .int f_acts, .ref h_line, .ref h_act, .ref h_pile, .ref h_comes, .ref h_leaves, .ref h_tried, .ref h_met])), (h_all, .inl (cI, 53700, .inl (upd (upd (upd r_all (9 : Int32).toNatClampNeg (0 : Int32)) (10 : Int32).toNatClampNeg (0 : Int32)) (11 : Int32).toNatClampNeg (-1 : Int32))))] _ := hP
    have hD : va_D A [(h_act, .inl (cI, 780, .inl r_act)), (h_line, .inl (cI, 80, .inl r_line)), (h, .inr (10, [.ref h_all, .ref h_has, .int (r_all (9 : Int32).toNatClampNeg), .int (0 : Int32), .int f_where, .int f_token, .int f_number, .int f_sign, .int f_word, .int (0 : Int32), .int f_open, .int (0 : Int32), .int f_acts, .ref h_line, .ref h_act, .ref h_pile, .ref h_comes, .ref h_leaves, .ref h_tried, .ref h_met])), (h_all, .inl (cI, 53700, .inl (upd (upd (upd r_all (9 : Int32).toNatClampNeg (0 : Int32)) (10 : Int32).toNatClampNeg (0 : Int32)) (11 : Int32).toNatClampNeg (-1 : Int32))))] := hD
    refine lv_aload_n hx hb dX11_orders_61 rfl (lv_at hl 0 rfl) ?_
    refine lv_iconst (v := (0 : Int32)) hx hb dX11_orders_62 (by decide) ?_
    refine va_put (D := (dC, dI)) (ci := 10) (v := .int (0 : Int32)) (ty := .int) (C := RX11) (T := TX11) (N := 20) hx hb hts uX11_orders_X11 tyX11 tyX11_ok nmX11 hown hK hP hD hS 2 rfl rfl 12 (by decide) (hts _ mX11_orders_6) (fun _ h9 => h9) rfl (tyX11_ok 12 (by decide)) rfl rfl (Nat.le_of_ble_eq_true rfl) dX11_orders_63 (fun H locs hP hD hS => ?_)
    have hP : va_P (dC, dI) vwCl [(h_act, .inl (cI, 780, .inl r_act)), (h_line, .inl (cI, 80, .inl r_line)), (h, .inr (10, [.ref h_all, .ref h_has, .int (r_all (9 : Int32).toNatClampNeg), .int (0 : Int32), .int f_where, .int f_token, .int f_number, .int f_sign, .int f_word, .int (0 : Int32), .int f_open, .int (0 : Int32), .int (0 : Int32), .ref h_line, .ref h_act, .ref h_pile, .ref h_comes, .ref h_leaves, .ref h_tried, .ref h_met])), (h_all, .inl (cI, 53700, .inl (upd (upd (upd r_all (9 : Int32).toNatClampNeg (0 : Int32)) (10 : Int32).toNatClampNeg (0 : Int32)) (11 : Int32).toNatClampNeg (-1 : Int32))))] _ := hP
    have hD : va_D A [(h_act, .inl (cI, 780, .inl r_act)), (h_line, .inl (cI, 80, .inl r_line)), (h, .inr (10, [.ref h_all, .ref h_has, .int (r_all (9 : Int32).toNatClampNeg), .int (0 : Int32), .int f_where, .int f_token, .int f_number, .int f_sign, .int f_word, .int (0 : Int32), .int f_open, .int (0 : Int32), .int (0 : Int32), .ref h_line, .ref h_act, .ref h_pile, .ref h_comes, .ref h_leaves, .ref h_tried, .ref h_met])), (h_all, .inl (cI, 53700, .inl (upd (upd (upd r_all (9 : Int32).toNatClampNeg (0 : Int32)) (10 : Int32).toNatClampNeg (0 : Int32)) (11 : Int32).toNatClampNeg (-1 : Int32))))] := hD
    refine lv_aload_n hx hb dX11_orders_66 rfl (lv_at hl 0 rfl) ?_
    have hPc := hP.sub (ws' := [(h, .inr (10, [.ref h_all, .ref h_has, .int (r_all (9 : Int32).toNatClampNeg), .int (0 : Int32), .int f_where, .int f_token, .int f_number, .int f_sign, .int f_word, .int (0 : Int32), .int f_open, .int (0 : Int32), .int (0 : Int32), .ref h_line, .ref h_act, .ref h_pile, .ref h_comes, .ref h_leaves, .ref h_tried, .ref h_met])), (h_all, .inl (cI, 53700, .inl (upd (upd (upd r_all (9 : Int32).toNatClampNeg (0 : Int32)) (10 : Int32).toNatClampNeg (0 : Int32)) (11 : Int32).toNatClampNeg (-1 : Int32))))]) [2, 3] rfl
    have hDc := hD.sub (ws' := [(h, .inr (10, [.ref h_all, .ref h_has, .int (r_all (9 : Int32).toNatClampNeg), .int (0 : Int32), .int f_where, .int f_token, .int f_number, .int f_sign, .int f_word, .int (0 : Int32), .int f_open, .int (0 : Int32), .int (0 : Int32), .ref h_line, .ref h_act, .ref h_pile, .ref h_comes, .ref h_leaves, .ref h_tried, .ref h_met])), (h_all, .inl (cI, 53700, .inl (upd (upd (upd r_all (9 : Int32).toNatClampNeg (0 : Int32)) (10 : Int32).toNatClampNeg (0 : Int32)) (11 : Int32).toNatClampNeg (-1 : Int32))))]) [2, 3] (by decide) rfl
    have hFc := va_free (wc := [(h, .inr (10, [.ref h_all, .ref h_has, .int (r_all (9 : Int32).toNatClampNeg), .int (0 : Int32), .int f_where, .int f_token, .int f_number, .int f_sign, .int f_word, .int (0 : Int32), .int f_open, .int (0 : Int32), .int (0 : Int32), .ref h_line, .ref h_act, .ref h_pile, .ref h_comes, .ref h_leaves, .ref h_tried, .ref h_met])), (h_all, .inl (cI, 53700, .inl (upd (upd (upd r_all (9 : Int32).toNatClampNeg (0 : Int32)) (10 : Int32).toNatClampNeg (0 : Int32)) (11 : Int32).toNatClampNeg (-1 : Int32))))]) hD hS hA [2, 3] rfl
    refine va_callv (va_runV (As := []) (rest := []) ⟨hx, hb, hml, hown, hts⟩ (kX11_advance l dC dI cI cZ cO cW h h_all h_has h_line h_act h_pile h_comes h_leaves h_tried h_met H.size (0 : Int32) f_open (0 : Int32) (0 : Int32) (r_all (9 : Int32).toNatClampNeg) (0 : Int32) f_where f_token f_number f_sign f_word (upd (upd (upd r_all (9 : Int32).toNatClampNeg (0 : Int32)) (10 : Int32).toNatClampNeg (0 : Int32)) (11 : Int32).toNatClampNeg (-1 : Int32)) _ hw) (cwV 0 hts gX11_orders_X11_advance rfl rfl rfl (by decide +kernel) ⟨Nat.le_of_ble_eq_true rfl, Nat.le_of_ble_eq_true rfl⟩) (pv_of hPc hK hDc (va_recv hK hPc (ci := 10) (q0 := 0) rfl rfl)) rfl rfl hl.1 rfl (lv_room (Nat.le_of_ble_eq_true rfl)) dX11_orders_67 ⟨Nat.zero_le _, Nat.zero_le _⟩) hS (fun q _ h => hFc q h) hFc (fun u t H locs ht hvm hw hB hz1 hk1 hS => ?_)
    obtain ⟨f_next_33, f_where_34, f_token_35, f_number_36, f_sign_37, f_word_38⟩ := u
    obtain ⟨hP, hD⟩ := af_join (wr := [(h_act, .inl (cI, 780, .inl r_act)), (h_line, .inl (cI, 80, .inl r_line))]) (w1 := [(h, .inr (10, [.ref h_all, .ref h_has, .int (r_all (9 : Int32).toNatClampNeg), .int f_next_33, .int f_where_34, .int f_token_35, .int f_number_36, .int f_sign_37, .int f_word_38, .int (0 : Int32), .int f_open, .int (0 : Int32), .int (0 : Int32), .ref h_line, .ref h_act, .ref h_pile, .ref h_comes, .ref h_leaves, .ref h_tried, .ref h_met])), (h_all, .inl (cI, 53700, .inl (upd (upd (upd r_all (9 : Int32).toNatClampNeg (0 : Int32)) (10 : Int32).toNatClampNeg (0 : Int32)) (11 : Int32).toNatClampNeg (-1 : Int32))))]) hB ht hP hD [2, 3] [0, 1] rfl rfl (by decide) (by decide) hk1 hFc
    have hP : va_P (dC, dI) vwCl [(h_act, .inl (cI, 780, .inl r_act)), (h_line, .inl (cI, 80, .inl r_line)), (h, .inr (10, [.ref h_all, .ref h_has, .int (r_all (9 : Int32).toNatClampNeg), .int f_next_33, .int f_where_34, .int f_token_35, .int f_number_36, .int f_sign_37, .int f_word_38, .int (0 : Int32), .int f_open, .int (0 : Int32), .int (0 : Int32), .ref h_line, .ref h_act, .ref h_pile, .ref h_comes, .ref h_leaves, .ref h_tried, .ref h_met])), (h_all, .inl (cI, 53700, .inl (upd (upd (upd r_all (9 : Int32).toNatClampNeg (0 : Int32)) (10 : Int32).toNatClampNeg (0 : Int32)) (11 : Int32).toNatClampNeg (-1 : Int32))))] _ := hP
    have hD : va_D A [(h_act, .inl (cI, 780, .inl r_act)), (h_line, .inl (cI, 80, .inl r_line)), (h, .inr (10, [.ref h_all, .ref h_has, .int (r_all (9 : Int32).toNatClampNeg), .int f_next_33, .int f_where_34, .int f_token_35, .int f_number_36, .int f_sign_37, .int f_word_38, .int (0 : Int32), .int f_open, .int (0 : Int32), .int (0 : Int32), .ref h_line, .ref h_act, .ref h_pile, .ref h_comes, .ref h_leaves, .ref h_tried, .ref h_met])), (h_all, .inl (cI, 53700, .inl (upd (upd (upd r_all (9 : Int32).toNatClampNeg (0 : Int32)) (10 : Int32).toNatClampNeg (0 : Int32)) (11 : Int32).toNatClampNeg (-1 : Int32))))] := hD
    obtain ⟨n_39, hw⟩ := hw
    exact tX11_orders_70 hC hK hA  n_39 x1 (r_all (9 : Int32).toNatClampNeg) f_next_33 f_where_34 f_token_35 f_number_36 f_sign_37 f_word_38 (0 : Int32) f_open (0 : Int32) (0 : Int32) r_act (upd (upd (upd r_all (9 : Int32).toNatClampNeg (0 : Int32)) (10 : Int32).toNatClampNeg (0 : Int32)) (11 : Int32).toNatClampNeg (-1 : Int32)) r_line _ _ ls hw (hP.sub [2, 0, 3, 1] rfl) (hD.sub [2, 0, 3, 1] (by decide) rfl) hS (lv_sub hl [0, 1] rfl)
  · have hw := hw.2 c_28
    refine lv_bipush (v := (-2 : Int32)) hx hb dX11_orders_8 (by decide) ?_
    have hP9 := hP.sub (ws' := (vX11_orders cI cZ h h_all h_has h_line h_act h_pile h_comes h_leaves h_tried h_met f_size f_next f_where f_token f_number f_sign f_word f_wrong f_open f_lines f_acts r_act r_all r_line)) [2, 0, 3, 1] rfl
    have hD9 := hD.sub (ws' := (vX11_orders cI cZ h h_all h_has h_line h_act h_pile h_comes h_leaves h_tried h_met f_size f_next f_where f_token f_number f_sign f_word f_wrong f_open f_lines f_acts r_act r_all r_line)) [2, 0, 3, 1] (by decide) rfl
    exact W.iret (v := (-2 : Int32)) hx hb hr (fun t ht hW => ⟨⟨(-2 : Int32), (f_size, f_next, f_where, f_token, f_number, f_sign, f_word, f_wrong, f_open, f_lines, f_acts, r_act, r_all, r_line), rfl, hw, by rw [ht]; exact hP9, va_K.moved hW.alike hK, hD9⟩, hS.F ht⟩) hS.2.2 dX11_orders_10
set_option maxHeartbeats 4000000 in
set_option maxRecDepth 100000 in
theorem kX11_orders (l : Launch) (dC : Nat → ClassId) (dI : Nat → Nat → Nat) (cI cZ cO cW : ClassId) (h h_all h_has h_line h_act h_pile h_comes h_leaves h_tried h_met : Nat)  (sz : Nat) (f_size : Int32) (f_next : Int32) (f_where : Int32) (f_token : Int32) (f_number : Int32) (f_sign : Int32) (f_word : Int32) (f_wrong : Int32) (f_open : Int32) (f_lines : Int32) (f_acts : Int32) (r_act : Nat → Int32) (r_all : Nat → Int32) (r_line : Nat → Int32) (x1 : Int32) (Q : Int32 → Int32 → Int32 → Int32 → Int32 → Int32 → Int32 → Int32 → Int32 → Int32 → Int32 → Int32 → (Nat → Int32) → (Nat → Int32) → (Nat → Int32) → Prop) (hw : wX11_orders Q x1 f_size f_next f_where f_token f_number f_sign f_word f_wrong f_open f_lines f_acts r_act r_all r_line) : Met l yX11_orders wsX11_orders rmX11_orders (va_Pc [.ref h, .int x1] (fun U => U.heap.size = sz ∧ va_P (dC, dI) vwCl (vX11_orders cI cZ h h_all h_has h_line h_act h_pile h_comes h_leaves h_tried h_met f_size f_next f_where f_token f_number f_sign f_word f_wrong f_open f_lines f_acts r_act r_all r_line) U.heap ∧ va_K (dC, dI) vwCl (tysA cI cZ cO cW) U ∧ va_D (fun _ => True) (vX11_orders cI cZ h h_all h_has h_line h_act h_pile h_comes h_leaves h_tried h_met f_size f_next f_where f_token f_number f_sign f_word f_wrong f_open f_lines f_acts r_act r_all r_line))) (qX11_orders dC dI cI cZ cO cW h h_all h_has h_line h_act h_pile h_comes h_leaves h_tried h_met Q (va_A (vX11_orders cI cZ h h_all h_has h_line h_act h_pile h_comes h_leaves h_tried h_met f_size f_next f_where f_token f_number f_sign f_word f_wrong f_open f_lines f_acts r_act r_all r_line) sz)) 0 0 (va_A (vX11_orders cI cZ h h_all h_has h_line h_act h_pile h_comes h_leaves h_tried h_met f_size f_next f_where f_token f_number f_sign f_word f_wrong f_open f_lines f_acts r_act r_all r_line) sz) := by
  refine Met.ofW (cc := cX11_orders) (maxL := 3) (ret := (some .int)) (by decide) rfl ?_
  intro p e s m args below meth c s₁ B hml hv
  obtain ⟨rfl, hsz, hP, hK, hD0⟩ := hv
  subst hsz
  have hC : Cx p s m ([.ref h, .int x1] : List Value).toArray meth c cX11_orders (some .int) 3 wsX11_orders RX11 := ⟨B.exec, B.bytes, B.returns, hml, findClass_of_methodNamed B.named, atoms_spec (ws := wsX11_orders) B.pre, B.notSynchronized⟩
  have hD := hD0.self (sz := s.heap.size)
  generalize hAe : va_A (vX11_orders cI cZ h h_all h_has h_line h_act h_pile h_comes h_leaves h_tried h_met f_size f_next f_where f_token f_number f_sign f_word f_wrong f_open f_lines f_acts r_act r_all r_line) s.heap.size = A at hD ⊢
  have hA : ∀ q : Nat, s.heap.size ≤ q → A q := fun q h => by rw [← hAe]; exact Or.inr h
  have hl := lv_entry ([.ref h, .int x1]) (n := 3) (Nat.le_of_ble_eq_true rfl)
  rw [lg_entry_eq]
  generalize (lg_sl ([.ref h, .int x1]) ++ List.replicate (3 - (lg_sl ([.ref h, .int x1])).length) Slot.unset).toArray = ls at hl ⊢
  exact tX11_orders_e hC hK hA x1 f_size f_next f_where f_token f_number f_sign f_word f_wrong f_open f_lines f_acts r_act r_all r_line _ _ ls hw hP hD va_S.rf hl

set_option maxRecDepth 20000 in
theorem gl_200 : Cond.selects RX2 yX2_holds yX2_holds ∈ lw_tbl := by decide +kernel
set_option maxRecDepth 20000 in
theorem gl_201 : Cond.methodLink RX2 122 yX2_carryOut ∈ lw_tbl := by decide +kernel
set_option maxRecDepth 20000 in
theorem gl_202 : Cond.instanceMethod yX2_carryOut ∈ lw_tbl := by decide +kernel
set_option maxRecDepth 20000 in
theorem gl_203 : Cond.selects RX2 yX2_carryOut yX2_carryOut ∈ lw_tbl := by decide +kernel
set_option maxRecDepth 20000 in
theorem gl_204 : Cond.code yX2_command cX2_command 4 none ∈ lw_tbl := List.mem_of_getElem? (i := 676) rfl
set_option maxRecDepth 20000 in
theorem gl_205 : Cond.code yX3_grow cX3_grow 4 none ∈ lw_tbl := List.mem_of_getElem? (i := 745) rfl
set_option maxRecDepth 20000 in
theorem gl_206 : Cond.code yX3_melt cX3_melt 5 none ∈ lw_tbl := List.mem_of_getElem? (i := 749) rfl
set_option maxRecDepth 20000 in
theorem gl_207 : Cond.code yJ7_fill_53178 cJ7_fill_53178 4 none ∈ lw_tbl := List.mem_of_getElem? (i := 756) rfl
set_option maxRecDepth 20000 in
theorem gl_208 : Cond.code yX3_send cX3_send 4 none ∈ lw_tbl := List.mem_of_getElem? (i := 761) rfl
set_option maxRecDepth 20000 in
theorem gl_209 : Cond.methodLink RX3 78 Lib.Math.min.name ∈ lw_tbl := by decide +kernel
set_option maxRecDepth 20000 in
theorem gl_210 : Cond.static Lib.Math.min.name ∈ lw_tbl := by decide +kernel
set_option maxRecDepth 20000 in
theorem gl_211 : Cond.code Lib.Math.min.name Lib.Math.min.code 2 (some .int) ∈ lw_tbl := List.mem_of_getElem? (i := 613) rfl
set_option maxRecDepth 20000 in
theorem gl_212 : Cond.methodLink RX3 65 yJ7_fill_53178 ∈ lw_tbl := by decide +kernel
set_option maxRecDepth 20000 in
theorem gl_213 : Cond.static yJ7_fill_53178 ∈ lw_tbl := by decide +kernel
set_option maxRecDepth 20000 in
theorem gl_214 : Cond.initialized RJ7 ∈ lw_tbl := by decide +kernel
set_option maxRecDepth 20000 in
theorem gl_215 : Cond.methodLink RX3 71 yX3_next ∈ lw_tbl := by decide +kernel
set_option maxRecDepth 20000 in
theorem gl_216 : Cond.methodLink RX3 74 yX3_send ∈ lw_tbl := by decide +kernel
set_option maxRecDepth 20000 in
theorem gl_217 : Cond.instanceMethod yX3_send ∈ lw_tbl := by decide +kernel
set_option maxRecDepth 20000 in
theorem gl_218 : Cond.selects RX3 yX3_send yX3_send ∈ lw_tbl := by decide +kernel
set_option maxRecDepth 20000 in
theorem gl_219 : Cond.code yX3_drift cX3_drift 5 none ∈ lw_tbl := List.mem_of_getElem? (i := 753) rfl
set_option maxRecDepth 20000 in
theorem gl_220 : Cond.code yX3_closeChannels cX3_closeChannels 3 none ∈ lw_tbl := List.mem_of_getElem? (i := 767) rfl
set_option maxRecDepth 20000 in
theorem gl_221 : Cond.fieldLink RX2 57 "IcePilots$Weather" "cold" "[I" ∈ lw_tbl := by decide +kernel
set_option maxRecDepth 20000 in
theorem gl_222 : Cond.fieldLink RX2 67 "IcePilots$Weather" "way" "[I" ∈ lw_tbl := by decide +kernel
set_option maxRecDepth 20000 in
theorem gl_223 : Cond.fieldLink RX2 70 "IcePilots$Weather" "force" "[I" ∈ lw_tbl := by decide +kernel
set_option maxRecDepth 20000 in
theorem gl_224 : Cond.methodLink RX2 76 Lib.Math.max.name ∈ lw_tbl := by decide +kernel
set_option maxRecDepth 20000 in
theorem gl_225 : Cond.methodLink RX2 53 yX2_command ∈ lw_tbl := by decide +kernel
set_option maxRecDepth 20000 in
theorem gl_226 : Cond.instanceMethod yX2_command ∈ lw_tbl := by decide +kernel
set_option maxRecDepth 20000 in
theorem gl_227 : Cond.selects RX2 yX2_command yX2_command ∈ lw_tbl := by decide +kernel
set_option maxRecDepth 20000 in
theorem gl_228 : Cond.methodLink RX2 61 yX3_grow ∈ lw_tbl := by decide +kernel
set_option maxRecDepth 20000 in
theorem gl_229 : Cond.instanceMethod yX3_grow ∈ lw_tbl := by decide +kernel
set_option maxRecDepth 20000 in
theorem gl_230 : Cond.selects RX3 yX3_grow yX3_grow ∈ lw_tbl := by decide +kernel
set_option maxRecDepth 20000 in
theorem gl_231 : Cond.methodLink RX2 64 yX3_melt ∈ lw_tbl := by decide +kernel
set_option maxRecDepth 20000 in
theorem gl_232 : Cond.instanceMethod yX3_melt ∈ lw_tbl := by decide +kernel
set_option maxRecDepth 20000 in
theorem gl_233 : Cond.selects RX3 yX3_melt yX3_melt ∈ lw_tbl := by decide +kernel
set_option maxRecDepth 20000 in
theorem gl_234 : Cond.methodLink RX2 73 yX3_drift ∈ lw_tbl := by decide +kernel
set_option maxRecDepth 20000 in
theorem gl_235 : Cond.instanceMethod yX3_drift ∈ lw_tbl := by decide +kernel
set_option maxRecDepth 20000 in
theorem gl_236 : Cond.selects RX3 yX3_drift yX3_drift ∈ lw_tbl := by decide +kernel
set_option maxRecDepth 20000 in
theorem gl_237 : Cond.methodLink RX2 82 yX3_closeChannels ∈ lw_tbl := by decide +kernel
set_option maxRecDepth 20000 in
theorem gl_238 : Cond.instanceMethod yX3_closeChannels ∈ lw_tbl := by decide +kernel
set_option maxRecDepth 20000 in
theorem gl_239 : Cond.selects RX3 yX3_closeChannels yX3_closeChannels ∈ lw_tbl := by decide +kernel
set_option maxRecDepth 20000 in
theorem gl_240 : Cond.code yX2_passHour cX2_passHour 2 none ∈ lw_tbl := List.mem_of_getElem? (i := 672) rfl
set_option maxRecDepth 20000 in
theorem gl_241 : Cond.code yX3_lay cX3_lay 4 none ∈ lw_tbl := List.mem_of_getElem? (i := 436) rfl
set_option maxRecDepth 20000 in
theorem gl_242 : Cond.code yX3_sumOf cX3_sumOf 4 (some .int) ∈ lw_tbl := List.mem_of_getElem? (i := 797) rfl
set_option maxRecDepth 20000 in
theorem gl_243 : Cond.code yX3_allLevel cX3_allLevel 1 (some .int) ∈ lw_tbl := List.mem_of_getElem? (i := 793) rfl
set_option maxRecDepth 20000 in
theorem gl_244 : Cond.methodLink RX3 61 yX3_sumOf ∈ lw_tbl := by decide +kernel
set_option maxRecDepth 20000 in
theorem gl_245 : Cond.instanceMethod yX3_sumOf ∈ lw_tbl := by decide +kernel
set_option maxRecDepth 20000 in
theorem gl_246 : Cond.selects RX3 yX3_sumOf yX3_sumOf ∈ lw_tbl := by decide +kernel
set_option maxRecDepth 20000 in
theorem gl_247 : Cond.code yX3_allRidged cX3_allRidged 1 (some .int) ∈ lw_tbl := List.mem_of_getElem? (i := 801) rfl
set_option maxRecDepth 20000 in
theorem gl_248 : Cond.code yX4_init cX4_init 5 none ∈ lw_tbl := List.mem_of_getElem? (i := 632) rfl
set_option maxRecDepth 20000 in
theorem gl_249 : Cond.methodLink RX4 1 objectInit ∈ lw_tbl := by decide +kernel
set_option maxRecDepth 20000 in
theorem gl_250 : Cond.fieldLink RX4 7 "IcePilots$Orders" "steps" "[I" ∈ lw_tbl := by decide +kernel
set_option maxRecDepth 20000 in
theorem gl_251 : Cond.fieldLink RX4 13 "IcePilots$Orders" "ends" "[I" ∈ lw_tbl := by decide +kernel
set_option maxRecDepth 20000 in
theorem gl_252 : Cond.fieldLink RX4 16 "IcePilots$Orders" "acts" "[I" ∈ lw_tbl := by decide +kernel
set_option maxRecDepth 20000 in
theorem gl_253 : Cond.fieldLink RX4 19 "IcePilots$Orders" "numbers" "[I" ∈ lw_tbl := by decide +kernel
set_option maxRecDepth 20000 in
theorem gl_254 : Cond.code yX4_comparison cX4_comparison 3 (some .int) ∈ lw_tbl := List.mem_of_getElem? (i := 595) rfl
set_option maxRecDepth 20000 in
theorem gl_255 : Cond.code yX5_init cX5_init 1 none ∈ lw_tbl := List.mem_of_getElem? (i := 332) rfl
set_option maxRecDepth 20000 in
theorem gl_256 : Cond.methodLink RX5 3 objectInit ∈ lw_tbl := by decide +kernel
set_option maxRecDepth 20000 in
theorem gl_257 : Cond.fieldLink RX5 9 "IcePilots$Reader" "tokens" "[I" ∈ lw_tbl := by decide +kernel
set_option maxRecDepth 20000 in
theorem gl_258 : Cond.fieldLink RX5 15 "IcePilots$Reader" "places" "[I" ∈ lw_tbl := by decide +kernel
set_option maxRecDepth 20000 in
theorem gl_259 : Cond.fieldLink RX5 18 "IcePilots$Reader" "values" "[I" ∈ lw_tbl := by decide +kernel
set_option maxRecDepth 20000 in
theorem gl_260 : Cond.fieldLink RX5 21 "IcePilots$Reader" "size" "I" ∈ lw_tbl := by decide +kernel
set_option maxRecDepth 20000 in
theorem gl_261 : Cond.fieldLink RX5 25 "IcePilots$Reader" "at" "I" ∈ lw_tbl := by decide +kernel
set_option maxRecDepth 20000 in
theorem gl_262 : Cond.fieldLink RX5 28 "IcePilots$Reader" "steps" "[I" ∈ lw_tbl := by decide +kernel
set_option maxRecDepth 20000 in
theorem gl_263 : Cond.fieldLink RX5 31 "IcePilots$Reader" "ends" "[I" ∈ lw_tbl := by decide +kernel
set_option maxRecDepth 20000 in
theorem gl_264 : Cond.fieldLink RX5 34 "IcePilots$Reader" "acts" "[I" ∈ lw_tbl := by decide +kernel
set_option maxRecDepth 20000 in
theorem gl_265 : Cond.fieldLink RX5 37 "IcePilots$Reader" "numbers" "[I" ∈ lw_tbl := by decide +kernel
set_option maxRecDepth 20000 in
theorem gl_266 : Cond.fieldLink RX5 40 "IcePilots$Reader" "stepped" "I" ∈ lw_tbl := by decide +kernel
set_option maxRecDepth 20000 in
theorem gl_267 : Cond.fieldLink RX5 43 "IcePilots$Reader" "lines" "I" ∈ lw_tbl := by decide +kernel
set_option maxRecDepth 20000 in
theorem gl_268 : Cond.fieldLink RX5 46 "IcePilots$Reader" "fault" "I" ∈ lw_tbl := by decide +kernel
set_option maxRecDepth 20000 in
theorem gl_269 : Cond.fieldLink RX5 49 "IcePilots$Reader" "place" "I" ∈ lw_tbl := by decide +kernel
set_option maxRecDepth 20000 in
theorem gl_270 : Cond.code yX6_at cX6_at 2 (some .int) ∈ lw_tbl := List.mem_of_getElem? (i := 481) rfl
set_option maxRecDepth 20000 in
theorem gl_271 : Cond.fieldLink RX6 15 "IcePilots$Tape" "length" "I" ∈ lw_tbl := by decide +kernel
set_option maxRecDepth 20000 in
theorem gl_272 : Cond.fieldLink RX6 9 "IcePilots$Tape" "bytes" "[I" ∈ lw_tbl := by decide +kernel
set_option maxRecDepth 20000 in
theorem gl_273 : Cond.code yX5_isLetter cX5_isLetter 1 (some .boolean) ∈ lw_tbl := List.mem_of_getElem? (i := 484) rfl
set_option maxRecDepth 20000 in
theorem gl_274 : Cond.code yJ0_isLatin1_aae02 cJ0_isLatin1_aae02 1 (some .boolean) ∈ lw_tbl := List.mem_of_getElem? (i := 504) rfl
set_option maxRecDepth 20000 in
theorem gl_275 : Cond.fieldLink RJ0 38 "java/lang/String" "COMPACT_STRINGS" "Z" ∈ lw_tbl := by decide +kernel
set_option maxRecDepth 20000 in
theorem gl_276 : Cond.fieldLink RJ0 15 "java/lang/String" "coder" "B" ∈ lw_tbl := by decide +kernel
set_option maxRecDepth 20000 in
theorem gl_277 : Cond.code yJ3_checkIndex_8e157 cJ3_checkIndex_8e157 3 (some .int) ∈ lw_tbl := List.mem_of_getElem? (i := 517) rfl
set_option maxRecDepth 20000 in
theorem gl_278 : Cond.code yJ0_checkIndex_df160 cJ0_checkIndex_df160 2 none ∈ lw_tbl := List.mem_of_getElem? (i := 512) rfl
set_option maxRecDepth 20000 in
theorem gl_279 : Cond.fieldLink RJ0 1053 "jdk/internal/util/Preconditions" "SIOOBE_FORMATTER" "Ljava/util/function/BiFunction;" ∈ lw_tbl := by decide +kernel
set_option maxRecDepth 20000 in
theorem gl_280 : Cond.methodLink RJ0 1059 yJ3_checkIndex_8e157 ∈ lw_tbl := by decide +kernel
set_option maxRecDepth 20000 in
theorem gl_281 : Cond.static yJ3_checkIndex_8e157 ∈ lw_tbl := by decide +kernel
set_option maxRecDepth 20000 in
theorem gl_282 : Cond.initialized RJ3 ∈ lw_tbl := by decide +kernel
set_option maxRecDepth 20000 in
theorem gl_283 : Cond.code yJ1_charAt_3b067 cJ1_charAt_3b067 2 (some .char) ∈ lw_tbl := List.mem_of_getElem? (i := 509) rfl
set_option maxRecDepth 20000 in
theorem gl_284 : Cond.methodLink RJ1 9 yJ0_checkIndex_df160 ∈ lw_tbl := by decide +kernel
set_option maxRecDepth 20000 in
theorem gl_285 : Cond.static yJ0_checkIndex_df160 ∈ lw_tbl := by decide +kernel
set_option maxRecDepth 20000 in
theorem gl_286 : Cond.initialized RJ0 ∈ lw_tbl := by decide +kernel
set_option maxRecDepth 20000 in
theorem gl_287 : Cond.code yJ2_length_9d52b cJ2_length_9d52b 1 (some .int) ∈ lw_tbl := List.mem_of_getElem? (i := 526) rfl
set_option maxRecDepth 20000 in
theorem gl_288 : Cond.code yJ2_checkIndex_2214a cJ2_checkIndex_2214a 2 none ∈ lw_tbl := List.mem_of_getElem? (i := 523) rfl
set_option maxRecDepth 20000 in
theorem gl_289 : Cond.methodLink RJ2 48 yJ2_length_9d52b ∈ lw_tbl := by decide +kernel
set_option maxRecDepth 20000 in
theorem gl_290 : Cond.static yJ2_length_9d52b ∈ lw_tbl := by decide +kernel
set_option maxRecDepth 20000 in
theorem gl_291 : Cond.initialized RJ2 ∈ lw_tbl := by decide +kernel
set_option maxRecDepth 20000 in
theorem gl_292 : Cond.methodLink RJ2 414 yJ0_checkIndex_df160 ∈ lw_tbl := by decide +kernel
set_option maxRecDepth 20000 in
theorem gl_293 : Cond.code yJ2_getChar_3b067 cJ2_getChar_3b067 2 (some .char) ∈ lw_tbl := List.mem_of_getElem? (i := 530) rfl
set_option maxRecDepth 20000 in
theorem gl_294 : Cond.fieldLink RJ2 44 "java/lang/StringUTF16" "$assertionsDisabled" "Z" ∈ lw_tbl := by decide +kernel
set_option maxRecDepth 20000 in
theorem gl_295 : Cond.fieldLink RJ2 59 "java/lang/StringUTF16" "HI_BYTE_SHIFT" "I" ∈ lw_tbl := by decide +kernel
set_option maxRecDepth 20000 in
theorem gl_296 : Cond.fieldLink RJ2 63 "java/lang/StringUTF16" "LO_BYTE_SHIFT" "I" ∈ lw_tbl := by decide +kernel
set_option maxRecDepth 20000 in
theorem gl_297 : Cond.code yJ2_charAt_3b067 cJ2_charAt_3b067 2 (some .char) ∈ lw_tbl := List.mem_of_getElem? (i := 520) rfl
set_option maxRecDepth 20000 in
theorem gl_298 : Cond.methodLink RJ2 67 yJ2_checkIndex_2214a ∈ lw_tbl := by decide +kernel
set_option maxRecDepth 20000 in
theorem gl_299 : Cond.static yJ2_checkIndex_2214a ∈ lw_tbl := by decide +kernel
set_option maxRecDepth 20000 in
theorem gl_300 : Cond.methodLink RJ2 71 yJ2_getChar_3b067 ∈ lw_tbl := by decide +kernel
set_option maxRecDepth 20000 in
theorem gl_301 : Cond.static yJ2_getChar_3b067 ∈ lw_tbl := by decide +kernel
set_option maxRecDepth 20000 in
theorem gl_302 : Cond.fieldLink RJ0 9 "java/lang/String" "value" "[B" ∈ lw_tbl := by decide +kernel
set_option maxRecDepth 20000 in
theorem gl_303 : Cond.methodLink RJ0 492 yJ0_isLatin1_aae02 ∈ lw_tbl := by decide +kernel
set_option maxRecDepth 20000 in
theorem gl_304 : Cond.instanceMethod yJ0_isLatin1_aae02 ∈ lw_tbl := by decide +kernel
set_option maxRecDepth 20000 in
theorem gl_305 : Cond.selects RJ0 yJ0_isLatin1_aae02 yJ0_isLatin1_aae02 ∈ lw_tbl := by decide +kernel
set_option maxRecDepth 20000 in
theorem gl_306 : Cond.methodLink RJ0 495 yJ1_charAt_3b067 ∈ lw_tbl := by decide +kernel
set_option maxRecDepth 20000 in
theorem gl_307 : Cond.static yJ1_charAt_3b067 ∈ lw_tbl := by decide +kernel
set_option maxRecDepth 20000 in
theorem gl_308 : Cond.initialized RJ1 ∈ lw_tbl := by decide +kernel
set_option maxRecDepth 20000 in
theorem gl_309 : Cond.methodLink RJ0 498 yJ2_charAt_3b067 ∈ lw_tbl := by decide +kernel
set_option maxRecDepth 20000 in
theorem gl_310 : Cond.static yJ2_charAt_3b067 ∈ lw_tbl := by decide +kernel
set_option maxRecDepth 20000 in
theorem gl_311 : Cond.code yJ0_charAt_5068e cJ0_charAt_5068e 2 (some .char) ∈ lw_tbl := List.mem_of_getElem? (i := 500) rfl
set_option maxRecDepth 20000 in
theorem gl_312 : Cond.methodLink RX9 15 yX6_at ∈ lw_tbl := by decide +kernel
set_option maxRecDepth 20000 in
theorem gl_313 : Cond.instanceMethod yX6_at ∈ lw_tbl := by decide +kernel
set_option maxRecDepth 20000 in
theorem gl_314 : Cond.selects RX6 yX6_at yX6_at ∈ lw_tbl := by decide +kernel
set_option maxRecDepth 20000 in
theorem gl_315 : Cond.initialized RX6 ∈ lw_tbl := by decide +kernel
set_option maxRecDepth 20000 in
theorem gl_316 : Cond.methodLink RX9 23 yJ0_charAt_5068e ∈ lw_tbl := by decide +kernel
set_option maxRecDepth 20000 in
theorem gl_317 : Cond.instanceMethod yJ0_charAt_5068e ∈ lw_tbl := by decide +kernel
set_option maxRecDepth 20000 in
theorem gl_318 : Cond.selects RJ0 yJ0_charAt_5068e yJ0_charAt_5068e ∈ lw_tbl := by decide +kernel
set_option maxRecDepth 20000 in
theorem gl_319 : Cond.code yX9_stands cX9_stands 6 (some .boolean) ∈ lw_tbl := List.mem_of_getElem? (i := 494) rfl
set_option maxRecDepth 20000 in
theorem gl_320 : Cond.methodLink RX9 11 yX9_stands ∈ lw_tbl := by decide +kernel
set_option maxRecDepth 20000 in
theorem gl_321 : Cond.static yX9_stands ∈ lw_tbl := by decide +kernel
set_option maxRecDepth 20000 in
theorem gl_322 : Cond.initialized RX9 ∈ lw_tbl := by decide +kernel
set_option maxRecDepth 20000 in
theorem gl_323 : Cond.code yX9_find cX9_find 4 (some .int) ∈ lw_tbl := List.mem_of_getElem? (i := 491) rfl
set_option maxRecDepth 20000 in
theorem gl_324 : Cond.code yX5_addToken cX5_addToken 4 none ∈ lw_tbl := List.mem_of_getElem? (i := 540) rfl
set_option maxRecDepth 20000 in
theorem gl_325 : Cond.fieldLink RX5 84 "IcePilots$Tape" "length" "I" ∈ lw_tbl := by decide +kernel
set_option maxRecDepth 20000 in
theorem gl_326 : Cond.methodLink RX5 89 yX6_at ∈ lw_tbl := by decide +kernel
set_option maxRecDepth 20000 in
theorem gl_327 : Cond.methodLink RX5 92 yX5_isLetter ∈ lw_tbl := by decide +kernel
set_option maxRecDepth 20000 in
theorem gl_328 : Cond.static yX5_isLetter ∈ lw_tbl := by decide +kernel
set_option maxRecDepth 20000 in
theorem gl_329 : Cond.initialized RX5 ∈ lw_tbl := by decide +kernel
set_option maxRecDepth 20000 in
theorem gl_330 : Cond.methodLink RX5 113 yX9_find ∈ lw_tbl := by decide +kernel
set_option maxRecDepth 20000 in
theorem gl_331 : Cond.static yX9_find ∈ lw_tbl := by decide +kernel
set_option maxRecDepth 20000 in
theorem gl_332 : Cond.methodLink RX5 109 yX5_addToken ∈ lw_tbl := by decide +kernel
set_option maxRecDepth 20000 in
theorem gl_333 : Cond.instanceMethod yX5_addToken ∈ lw_tbl := by decide +kernel
set_option maxRecDepth 20000 in
theorem gl_334 : Cond.selects RX5 yX5_addToken yX5_addToken ∈ lw_tbl := by decide +kernel
set_option maxRecDepth 20000 in
theorem gl_335 : Cond.code yX5_scanWord cX5_scanWord 5 (some .int) ∈ lw_tbl := List.mem_of_getElem? (i := 488) rfl
set_option maxRecDepth 20000 in
theorem gl_336 : Cond.code yX5_isDigit cX5_isDigit 1 (some .boolean) ∈ lw_tbl := List.mem_of_getElem? (i := 543) rfl
set_option maxRecDepth 20000 in
theorem gl_337 : Cond.code yX5_scanNumber cX5_scanNumber 5 (some .int) ∈ lw_tbl := List.mem_of_getElem? (i := 547) rfl
set_option maxRecDepth 20000 in
theorem gl_338 : Cond.methodLink RX5 100 yX5_isDigit ∈ lw_tbl := by decide +kernel
set_option maxRecDepth 20000 in
theorem gl_339 : Cond.static yX5_isDigit ∈ lw_tbl := by decide +kernel
set_option maxRecDepth 20000 in
theorem gl_340 : Cond.code yX5_isComparison cX5_isComparison 1 (some .boolean) ∈ lw_tbl := List.mem_of_getElem? (i := 553) rfl
set_option maxRecDepth 20000 in
theorem gl_341 : Cond.code yX5_isSign cX5_isSign 1 (some .boolean) ∈ lw_tbl := List.mem_of_getElem? (i := 550) rfl
set_option maxRecDepth 20000 in
theorem gl_342 : Cond.methodLink RX5 119 yX5_isComparison ∈ lw_tbl := by decide +kernel
set_option maxRecDepth 20000 in
theorem gl_343 : Cond.static yX5_isComparison ∈ lw_tbl := by decide +kernel
set_option maxRecDepth 20000 in
theorem gl_344 : Cond.methodLink RX5 96 yX5_scanWord ∈ lw_tbl := by decide +kernel
set_option maxRecDepth 20000 in
theorem gl_345 : Cond.instanceMethod yX5_scanWord ∈ lw_tbl := by decide +kernel
set_option maxRecDepth 20000 in
theorem gl_346 : Cond.selects RX5 yX5_scanWord yX5_scanWord ∈ lw_tbl := by decide +kernel
set_option maxRecDepth 20000 in
theorem gl_347 : Cond.methodLink RX5 103 yX5_scanNumber ∈ lw_tbl := by decide +kernel
set_option maxRecDepth 20000 in
theorem gl_348 : Cond.instanceMethod yX5_scanNumber ∈ lw_tbl := by decide +kernel
set_option maxRecDepth 20000 in
theorem gl_349 : Cond.selects RX5 yX5_scanNumber yX5_scanNumber ∈ lw_tbl := by decide +kernel
set_option maxRecDepth 20000 in
theorem gl_350 : Cond.methodLink RX5 106 yX5_isSign ∈ lw_tbl := by decide +kernel
set_option maxRecDepth 20000 in
theorem gl_351 : Cond.static yX5_isSign ∈ lw_tbl := by decide +kernel
set_option maxRecDepth 20000 in
theorem gl_352 : Cond.code yX5_scan cX5_scan 5 none ∈ lw_tbl := List.mem_of_getElem? (i := 477) rfl
set_option maxRecDepth 20000 in
theorem gl_353 : Cond.code yX5_token cX5_token 1 (some .int) ∈ lw_tbl := List.mem_of_getElem? (i := 557) rfl
set_option maxRecDepth 20000 in
theorem gl_354 : Cond.code yX5_placeHere cX5_placeHere 1 (some .int) ∈ lw_tbl := List.mem_of_getElem? (i := 561) rfl
set_option maxRecDepth 20000 in
theorem gl_355 : Cond.code yX5_take cX5_take 2 (some .boolean) ∈ lw_tbl := List.mem_of_getElem? (i := 569) rfl
set_option maxRecDepth 20000 in
theorem gl_356 : Cond.code yX5_addStep cX5_addStep 2 none ∈ lw_tbl := List.mem_of_getElem? (i := 599) rfl
set_option maxRecDepth 20000 in
theorem gl_357 : Cond.code yX9_isWhat cX9_isWhat 1 (some .boolean) ∈ lw_tbl := List.mem_of_getElem? (i := 588) rfl
set_option maxRecDepth 20000 in
theorem gl_358 : Cond.code yX5_takeNumber cX5_takeNumber 1 (some .int) ∈ lw_tbl := List.mem_of_getElem? (i := 592) rfl
set_option maxRecDepth 20000 in
theorem gl_359 : Cond.methodLink RX5 56 yX5_token ∈ lw_tbl := by decide +kernel
set_option maxRecDepth 20000 in
theorem gl_360 : Cond.instanceMethod yX5_token ∈ lw_tbl := by decide +kernel
set_option maxRecDepth 20000 in
theorem gl_361 : Cond.selects RX5 yX5_token yX5_token ∈ lw_tbl := by decide +kernel
set_option maxRecDepth 20000 in
theorem gl_362 : Cond.methodLink RX5 151 yX9_isWhat ∈ lw_tbl := by decide +kernel
set_option maxRecDepth 20000 in
theorem gl_363 : Cond.static yX9_isWhat ∈ lw_tbl := by decide +kernel
set_option maxRecDepth 20000 in
theorem gl_364 : Cond.methodLink RX5 131 yX5_takeNumber ∈ lw_tbl := by decide +kernel
set_option maxRecDepth 20000 in
theorem gl_365 : Cond.instanceMethod yX5_takeNumber ∈ lw_tbl := by decide +kernel
set_option maxRecDepth 20000 in
theorem gl_366 : Cond.selects RX5 yX5_takeNumber yX5_takeNumber ∈ lw_tbl := by decide +kernel
set_option maxRecDepth 20000 in
theorem gl_367 : Cond.methodLink RX5 154 yX4_comparison ∈ lw_tbl := by decide +kernel
set_option maxRecDepth 20000 in
theorem gl_368 : Cond.static yX4_comparison ∈ lw_tbl := by decide +kernel
set_option maxRecDepth 20000 in
theorem gl_369 : Cond.methodLink RX5 141 yX5_addStep ∈ lw_tbl := by decide +kernel
set_option maxRecDepth 20000 in
theorem gl_370 : Cond.instanceMethod yX5_addStep ∈ lw_tbl := by decide +kernel
set_option maxRecDepth 20000 in
theorem gl_371 : Cond.selects RX5 yX5_addStep yX5_addStep ∈ lw_tbl := by decide +kernel
set_option maxRecDepth 20000 in
theorem gl_372 : Cond.code yX5_readComparison cX5_readComparison 4 (some .boolean) ∈ lw_tbl := List.mem_of_getElem? (i := 585) rfl
set_option maxRecDepth 20000 in
theorem gl_373 : Cond.methodLink RX5 145 yX5_readOne ∈ lw_tbl := by decide +kernel
set_option maxRecDepth 20000 in
theorem gl_374 : Cond.instanceMethod yX5_readOne ∈ lw_tbl := by decide +kernel
set_option maxRecDepth 20000 in
theorem gl_375 : Cond.selects RX5 yX5_readOne yX5_readOne ∈ lw_tbl := by decide +kernel
set_option maxRecDepth 20000 in
theorem gl_376 : Cond.methodLink RX5 122 yX5_take ∈ lw_tbl := by decide +kernel
set_option maxRecDepth 20000 in
theorem gl_377 : Cond.instanceMethod yX5_take ∈ lw_tbl := by decide +kernel
set_option maxRecDepth 20000 in
theorem gl_378 : Cond.selects RX5 yX5_take yX5_take ∈ lw_tbl := by decide +kernel
set_option maxRecDepth 20000 in
theorem gl_379 : Cond.code yX5_readOne cX5_readOne 4 (some .boolean) ∈ lw_tbl := List.mem_of_getElem? (i := 581) rfl
set_option maxRecDepth 20000 in
theorem gl_380 : Cond.methodLink RX5 125 yX5_readTerm ∈ lw_tbl := by decide +kernel
set_option maxRecDepth 20000 in
theorem gl_381 : Cond.instanceMethod yX5_readTerm ∈ lw_tbl := by decide +kernel
set_option maxRecDepth 20000 in
theorem gl_382 : Cond.selects RX5 yX5_readTerm yX5_readTerm ∈ lw_tbl := by decide +kernel
set_option maxRecDepth 20000 in
theorem gl_383 : Cond.methodLink RX5 148 yX5_readComparison ∈ lw_tbl := by decide +kernel
set_option maxRecDepth 20000 in
theorem gl_384 : Cond.instanceMethod yX5_readComparison ∈ lw_tbl := by decide +kernel
set_option maxRecDepth 20000 in
theorem gl_385 : Cond.selects RX5 yX5_readComparison yX5_readComparison ∈ lw_tbl := by decide +kernel
set_option maxRecDepth 20000 in
theorem gl_386 : Cond.code yX5_readTerm cX5_readTerm 3 (some .boolean) ∈ lw_tbl := List.mem_of_getElem? (i := 573) rfl
set_option maxRecDepth 20000 in
theorem gl_387 : Cond.methodLink RX5 138 yX5_readBoth ∈ lw_tbl := by decide +kernel
set_option maxRecDepth 20000 in
theorem gl_388 : Cond.instanceMethod yX5_readBoth ∈ lw_tbl := by decide +kernel
set_option maxRecDepth 20000 in
theorem gl_389 : Cond.selects RX5 yX5_readBoth yX5_readBoth ∈ lw_tbl := by decide +kernel
set_option maxRecDepth 20000 in
theorem gl_390 : Cond.code yX5_readBoth cX5_readBoth 3 (some .boolean) ∈ lw_tbl := List.mem_of_getElem? (i := 577) rfl
set_option maxRecDepth 20000 in
theorem gl_391 : Cond.code yX9_isAct cX9_isAct 1 (some .boolean) ∈ lw_tbl := List.mem_of_getElem? (i := 602) rfl
set_option maxRecDepth 20000 in
theorem gl_392 : Cond.code yX5_keepLine cX5_keepLine 3 none ∈ lw_tbl := List.mem_of_getElem? (i := 606) rfl
set_option maxRecDepth 20000 in
theorem gl_393 : Cond.methodLink RX5 128 yX9_isAct ∈ lw_tbl := by decide +kernel
set_option maxRecDepth 20000 in
theorem gl_394 : Cond.static yX9_isAct ∈ lw_tbl := by decide +kernel
set_option maxRecDepth 20000 in
theorem gl_395 : Cond.methodLink RX5 134 yX5_keepLine ∈ lw_tbl := by decide +kernel
set_option maxRecDepth 20000 in
theorem gl_396 : Cond.instanceMethod yX5_keepLine ∈ lw_tbl := by decide +kernel
set_option maxRecDepth 20000 in
theorem gl_397 : Cond.selects RX5 yX5_keepLine yX5_keepLine ∈ lw_tbl := by decide +kernel
set_option maxRecDepth 20000 in
theorem gl_398 : Cond.code yX5_readLine cX5_readLine 3 (some .boolean) ∈ lw_tbl := List.mem_of_getElem? (i := 565) rfl
set_option maxRecDepth 20000 in
theorem gl_399 : Cond.methodLink RX5 52 yX5_scan ∈ lw_tbl := by decide +kernel

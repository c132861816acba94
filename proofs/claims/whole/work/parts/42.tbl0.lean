set_option maxRecDepth 20000 in
theorem gl_0 : Cond.code yX0_init cX0_init 1 none ∈ lw_tbl := List.mem_of_getElem? (i := 277) rfl
set_option maxRecDepth 20000 in
theorem gl_1 : Cond.methodLink RX0 3 objectInit ∈ lw_tbl := by decide +kernel
set_option maxRecDepth 20000 in
theorem gl_2 : Cond.instanceMethod objectInit ∈ lw_tbl := by decide +kernel
set_option maxRecDepth 20000 in
theorem gl_3 : Cond.code objectInit ⟨#[0xb1]⟩ 1 none ∈ lw_tbl := List.mem_of_getElem? (i := 98) rfl
set_option maxRecDepth 20000 in
theorem gl_4 : Cond.arrayClass .int ∈ lw_tbl := by decide +kernel
set_option maxRecDepth 20000 in
theorem gl_5 : Cond.fieldLink RX0 9 "IcePilots$Convoy" "from" "[I" ∈ lw_tbl := by decide +kernel
set_option maxRecDepth 20000 in
theorem gl_6 : Cond.fieldLink RX0 15 "IcePilots$Convoy" "takes" "[I" ∈ lw_tbl := by decide +kernel
set_option maxRecDepth 20000 in
theorem gl_7 : Cond.fieldLink RX0 18 "IcePilots$Convoy" "worth" "[I" ∈ lw_tbl := by decide +kernel
set_option maxRecDepth 20000 in
theorem gl_8 : Cond.fieldLink RX0 21 "IcePilots$Convoy" "settled" "[I" ∈ lw_tbl := by decide +kernel
set_option maxRecDepth 20000 in
theorem gl_9 : Cond.fieldLink RX0 24 "IcePilots$Convoy" "tried" "[I" ∈ lw_tbl := by decide +kernel
set_option maxRecDepth 20000 in
theorem gl_10 : Cond.fieldLink RX0 27 "IcePilots$Convoy" "size" "I" ∈ lw_tbl := by decide +kernel
set_option maxRecDepth 20000 in
theorem gl_11 : Cond.fieldLink RX0 31 "IcePilots$Convoy" "settledSize" "I" ∈ lw_tbl := by decide +kernel
set_option maxRecDepth 20000 in
theorem gl_12 : Cond.code yX0_copy cX0_copy 2 none ∈ lw_tbl := List.mem_of_getElem? (i := 893) rfl
set_option maxRecDepth 20000 in
theorem gl_13 : Cond.methodLink RX0 34 arraycopyName ∈ lw_tbl := by decide +kernel
set_option maxRecDepth 20000 in
theorem gl_14 : Cond.native arraycopyName ∈ lw_tbl := by decide +kernel
set_option maxRecDepth 20000 in
theorem gl_15 : Cond.static arraycopyName ∈ lw_tbl := by decide +kernel
set_option maxRecDepth 20000 in
theorem gl_16 : Cond.initialized "java/lang/System" ∈ lw_tbl := by decide +kernel
set_option maxRecDepth 20000 in
theorem gl_17 : Cond.code yX0_join cX0_join 4 (some .int) ∈ lw_tbl := List.mem_of_getElem? (i := 827) rfl
set_option maxRecDepth 20000 in
theorem gl_18 : Cond.code yX0_waiting cX0_waiting 9 (some .int) ∈ lw_tbl := List.mem_of_getElem? (i := 843) rfl
set_option maxRecDepth 20000 in
theorem gl_19 : Cond.methodLink RX0 51 Lib.Math.max.name ∈ lw_tbl := by decide +kernel
set_option maxRecDepth 20000 in
theorem gl_20 : Cond.static Lib.Math.max.name ∈ lw_tbl := by decide +kernel
set_option maxRecDepth 20000 in
theorem gl_21 : Cond.initialized "java/lang/Math" ∈ lw_tbl := by decide +kernel
set_option maxRecDepth 20000 in
theorem gl_22 : Cond.code Lib.Math.max.name Lib.Math.max.code 2 (some .int) ∈ lw_tbl := List.mem_of_getElem? (i := 395) rfl
set_option maxRecDepth 20000 in
theorem gl_23 : Cond.code yX0_keepTried cX0_keepTried 1 none ∈ lw_tbl := List.mem_of_getElem? (i := 848) rfl
set_option maxRecDepth 20000 in
theorem gl_24 : Cond.code yX0_swap cX0_swap 4 none ∈ lw_tbl := List.mem_of_getElem? (i := 857) rfl
set_option maxRecDepth 20000 in
theorem gl_25 : Cond.code yX0_tryNext cX0_tryNext 5 (some .boolean) ∈ lw_tbl := List.mem_of_getElem? (i := 853) rfl
set_option maxRecDepth 20000 in
theorem gl_26 : Cond.methodLink RX0 57 yX0_swap ∈ lw_tbl := by decide +kernel
set_option maxRecDepth 20000 in
theorem gl_27 : Cond.instanceMethod yX0_swap ∈ lw_tbl := by decide +kernel
set_option maxRecDepth 20000 in
theorem gl_28 : Cond.selects RX0 yX0_swap yX0_swap ∈ lw_tbl := by decide +kernel
set_option maxRecDepth 20000 in
theorem gl_29 : Cond.initialized RX0 ∈ lw_tbl := by decide +kernel
set_option maxRecDepth 20000 in
theorem gl_30 : Cond.methodLink RX0 40 yX0_waiting ∈ lw_tbl := by decide +kernel
set_option maxRecDepth 20000 in
theorem gl_31 : Cond.instanceMethod yX0_waiting ∈ lw_tbl := by decide +kernel
set_option maxRecDepth 20000 in
theorem gl_32 : Cond.selects RX0 yX0_waiting yX0_waiting ∈ lw_tbl := by decide +kernel
set_option maxRecDepth 20000 in
theorem gl_33 : Cond.methodLink RX0 44 yX0_keepTried ∈ lw_tbl := by decide +kernel
set_option maxRecDepth 20000 in
theorem gl_34 : Cond.instanceMethod yX0_keepTried ∈ lw_tbl := by decide +kernel
set_option maxRecDepth 20000 in
theorem gl_35 : Cond.selects RX0 yX0_keepTried yX0_keepTried ∈ lw_tbl := by decide +kernel
set_option maxRecDepth 20000 in
theorem gl_36 : Cond.methodLink RX0 47 yX0_tryNext ∈ lw_tbl := by decide +kernel
set_option maxRecDepth 20000 in
theorem gl_37 : Cond.instanceMethod yX0_tryNext ∈ lw_tbl := by decide +kernel
set_option maxRecDepth 20000 in
theorem gl_38 : Cond.selects RX0 yX0_tryNext yX0_tryNext ∈ lw_tbl := by decide +kernel
set_option maxRecDepth 20000 in
theorem gl_39 : Cond.code yX0_settle cX0_settle 5 (some .int) ∈ lw_tbl := List.mem_of_getElem? (i := 839) rfl
set_option maxRecDepth 20000 in
theorem gl_40 : Cond.code yX0_tryDigits cX0_tryDigits 5 (some .boolean) ∈ lw_tbl := List.mem_of_getElem? (i := 869) rfl
set_option maxRecDepth 20000 in
theorem gl_41 : Cond.code yX1_init cX1_init 1 none ∈ lw_tbl := List.mem_of_getElem? (i := 190) rfl
set_option maxRecDepth 20000 in
theorem gl_42 : Cond.methodLink RX1 3 objectInit ∈ lw_tbl := by decide +kernel
set_option maxRecDepth 20000 in
theorem gl_43 : Cond.fieldLink RX1 9 "IcePilots$Fleet" "strength" "[I" ∈ lw_tbl := by decide +kernel
set_option maxRecDepth 20000 in
theorem gl_44 : Cond.fieldLink RX1 15 "IcePilots$Fleet" "fuel" "[I" ∈ lw_tbl := by decide +kernel
set_option maxRecDepth 20000 in
theorem gl_45 : Cond.fieldLink RX1 18 "IcePilots$Fleet" "place" "[I" ∈ lw_tbl := by decide +kernel
set_option maxRecDepth 20000 in
theorem gl_46 : Cond.fieldLink RX1 21 "IcePilots$Fleet" "told" "[I" ∈ lw_tbl := by decide +kernel
set_option maxRecDepth 20000 in
theorem gl_47 : Cond.fieldLink RX1 24 "IcePilots$Fleet" "moved" "[I" ∈ lw_tbl := by decide +kernel
set_option maxRecDepth 20000 in
theorem gl_48 : Cond.fieldLink RX1 27 "IcePilots$Fleet" "line" "[I" ∈ lw_tbl := by decide +kernel
set_option maxRecDepth 20000 in
theorem gl_49 : Cond.arrayClass .boolean ∈ lw_tbl := by decide +kernel
set_option maxRecDepth 20000 in
theorem gl_50 : Cond.fieldLink RX1 30 "IcePilots$Fleet" "done" "[Z" ∈ lw_tbl := by decide +kernel
set_option maxRecDepth 20000 in
theorem gl_51 : Cond.classLink RX1 34 RX4 ∈ lw_tbl := by decide +kernel
set_option maxRecDepth 20000 in
theorem gl_52 : Cond.fieldLink RX1 36 "IcePilots$Fleet" "orders" "[LIcePilots$Orders;" ∈ lw_tbl := by decide +kernel
set_option maxRecDepth 20000 in
theorem gl_53 : Cond.fieldLink RX1 40 "IcePilots$Fleet" "size" "I" ∈ lw_tbl := by decide +kernel
set_option maxRecDepth 20000 in
theorem gl_54 : Cond.code yX1_copy cX1_copy 3 none ∈ lw_tbl := List.mem_of_getElem? (i := 784) rfl
set_option maxRecDepth 20000 in
theorem gl_55 : Cond.methodLink RX1 44 arraycopyName ∈ lw_tbl := by decide +kernel
set_option maxRecDepth 20000 in
theorem gl_56 : Cond.code yX1_join cX1_join 4 (some .int) ∈ lw_tbl := List.mem_of_getElem? (i := 449) rfl
set_option maxRecDepth 20000 in
theorem gl_57 : Cond.code yX1_has cX1_has 2 (some .boolean) ∈ lw_tbl := List.mem_of_getElem? (i := 469) rfl
set_option maxRecDepth 20000 in
theorem gl_58 : Cond.code yX1_isBreaker cX1_isBreaker 2 (some .boolean) ∈ lw_tbl := List.mem_of_getElem? (i := 703) rfl
set_option maxRecDepth 20000 in
theorem gl_59 : Cond.code yX1_linesOf cX1_linesOf 3 (some .int) ∈ lw_tbl := List.mem_of_getElem? (i := 815) rfl
set_option maxRecDepth 20000 in
theorem gl_60 : Cond.fieldLink RX1 50 "IcePilots$Orders" "acts" "[I" ∈ lw_tbl := by decide +kernel
set_option maxRecDepth 20000 in
theorem gl_61 : Cond.code yX1_shipIn cX1_shipIn 3 (some .int) ∈ lw_tbl := List.mem_of_getElem? (i := 427) rfl
set_option maxRecDepth 20000 in
theorem gl_62 : Cond.code yX1_beside cX1_beside 5 (some .boolean) ∈ lw_tbl := List.mem_of_getElem? (i := 707) rfl
set_option maxRecDepth 20000 in
theorem gl_63 : Cond.code yX1_breakerBeside cX1_breakerBeside 3 (some .boolean) ∈ lw_tbl := List.mem_of_getElem? (i := 699) rfl
set_option maxRecDepth 20000 in
theorem gl_64 : Cond.methodLink RX1 53 yX1_isBreaker ∈ lw_tbl := by decide +kernel
set_option maxRecDepth 20000 in
theorem gl_65 : Cond.instanceMethod yX1_isBreaker ∈ lw_tbl := by decide +kernel
set_option maxRecDepth 20000 in
theorem gl_66 : Cond.selects RX1 yX1_isBreaker yX1_isBreaker ∈ lw_tbl := by decide +kernel
set_option maxRecDepth 20000 in
theorem gl_67 : Cond.initialized RX1 ∈ lw_tbl := by decide +kernel
set_option maxRecDepth 20000 in
theorem gl_68 : Cond.methodLink RX1 57 yX1_beside ∈ lw_tbl := by decide +kernel
set_option maxRecDepth 20000 in
theorem gl_69 : Cond.instanceMethod yX1_beside ∈ lw_tbl := by decide +kernel
set_option maxRecDepth 20000 in
theorem gl_70 : Cond.selects RX1 yX1_beside yX1_beside ∈ lw_tbl := by decide +kernel
set_option maxRecDepth 20000 in
theorem gl_71 : Cond.code yX1_shipsBeside cX1_shipsBeside 4 (some .int) ∈ lw_tbl := List.mem_of_getElem? (i := 711) rfl
set_option maxRecDepth 20000 in
theorem gl_72 : Cond.code yX1_tellOthers cX1_tellOthers 4 none ∈ lw_tbl := List.mem_of_getElem? (i := 736) rfl
set_option maxRecDepth 20000 in
theorem gl_73 : Cond.code yX3_init cX3_init 1 none ∈ lw_tbl := List.mem_of_getElem? (i := 135) rfl
set_option maxRecDepth 20000 in
theorem gl_74 : Cond.methodLink RX3 3 objectInit ∈ lw_tbl := by decide +kernel
set_option maxRecDepth 20000 in
theorem gl_75 : Cond.fieldLink RX3 9 "IcePilots$Ice" "sea" "[Z" ∈ lw_tbl := by decide +kernel
set_option maxRecDepth 20000 in
theorem gl_76 : Cond.fieldLink RX3 15 "IcePilots$Ice" "fast" "[Z" ∈ lw_tbl := by decide +kernel
set_option maxRecDepth 20000 in
theorem gl_77 : Cond.fieldLink RX3 18 "IcePilots$Ice" "level" "[I" ∈ lw_tbl := by decide +kernel
set_option maxRecDepth 20000 in
theorem gl_78 : Cond.fieldLink RX3 22 "IcePilots$Ice" "ridged" "[I" ∈ lw_tbl := by decide +kernel
set_option maxRecDepth 20000 in
theorem gl_79 : Cond.fieldLink RX3 25 "IcePilots$Ice" "channel" "[I" ∈ lw_tbl := by decide +kernel
set_option maxRecDepth 20000 in
theorem gl_80 : Cond.fieldLink RX3 28 "IcePilots$Ice" "arrived" "[I" ∈ lw_tbl := by decide +kernel
set_option maxRecDepth 20000 in
theorem gl_81 : Cond.fieldLink RX3 31 "IcePilots$Ice" "rows" "I" ∈ lw_tbl := by decide +kernel
set_option maxRecDepth 20000 in
theorem gl_82 : Cond.fieldLink RX3 35 "IcePilots$Ice" "columns" "I" ∈ lw_tbl := by decide +kernel
set_option maxRecDepth 20000 in
theorem gl_83 : Cond.fieldLink RX3 38 "IcePilots$Ice" "laid" "I" ∈ lw_tbl := by decide +kernel
set_option maxRecDepth 20000 in
theorem gl_84 : Cond.fieldLink RX3 41 "IcePilots$Ice" "grown" "I" ∈ lw_tbl := by decide +kernel
set_option maxRecDepth 20000 in
theorem gl_85 : Cond.fieldLink RX3 44 "IcePilots$Ice" "melted" "I" ∈ lw_tbl := by decide +kernel
set_option maxRecDepth 20000 in
theorem gl_86 : Cond.methodLink RX2 3 objectInit ∈ lw_tbl := by decide +kernel
set_option maxRecDepth 20000 in
theorem gl_87 : Cond.classLink RX2 9 RX3 ∈ lw_tbl := by decide +kernel
set_option maxRecDepth 20000 in
theorem gl_88 : Cond.instantiable RX3 11 ∈ lw_tbl := by decide +kernel
set_option maxRecDepth 20000 in
theorem gl_89 : Cond.initialized RX3 ∈ lw_tbl := by decide +kernel
set_option maxRecDepth 20000 in
theorem gl_90 : Cond.fieldLink RX2 12 "IcePilots$Gulf" "ice" "LIcePilots$Ice;" ∈ lw_tbl := by decide +kernel
set_option maxRecDepth 20000 in
theorem gl_91 : Cond.classLink RX2 18 RX1 ∈ lw_tbl := by decide +kernel
set_option maxRecDepth 20000 in
theorem gl_92 : Cond.instantiable RX1 9 ∈ lw_tbl := by decide +kernel
set_option maxRecDepth 20000 in
theorem gl_93 : Cond.fieldLink RX2 21 "IcePilots$Gulf" "fleet" "LIcePilots$Fleet;" ∈ lw_tbl := by decide +kernel
set_option maxRecDepth 20000 in
theorem gl_94 : Cond.fieldLink RX2 25 "IcePilots$Gulf" "hour" "I" ∈ lw_tbl := by decide +kernel
set_option maxRecDepth 20000 in
theorem gl_95 : Cond.fieldLink RX2 29 "IcePilots$Gulf" "weather" "LIcePilots$Weather;" ∈ lw_tbl := by decide +kernel
set_option maxRecDepth 20000 in
theorem gl_96 : Cond.instanceMethod yX3_init ∈ lw_tbl := by decide +kernel
set_option maxRecDepth 20000 in
theorem gl_97 : Cond.instanceMethod yX1_init ∈ lw_tbl := by decide +kernel
set_option maxRecDepth 20000 in
theorem gl_98 : Cond.code yX2_init cX2_init 2 none ∈ lw_tbl := List.mem_of_getElem? (i := 129) rfl
set_option maxRecDepth 20000 in
theorem gl_99 : Cond.code yX3_empty cX3_empty 3 none ∈ lw_tbl := List.mem_of_getElem? (i := 388) rfl
set_option maxRecDepth 20000 in
theorem gl_100 : Cond.code yX3_begin cX3_begin 4 none ∈ lw_tbl := List.mem_of_getElem? (i := 384) rfl
set_option maxRecDepth 20000 in
theorem gl_101 : Cond.methodLink RX3 47 yX3_empty ∈ lw_tbl := by decide +kernel
set_option maxRecDepth 20000 in
theorem gl_102 : Cond.instanceMethod yX3_empty ∈ lw_tbl := by decide +kernel
set_option maxRecDepth 20000 in
theorem gl_103 : Cond.selects RX3 yX3_empty yX3_empty ∈ lw_tbl := by decide +kernel
set_option maxRecDepth 20000 in
theorem gl_104 : Cond.code yX7_put cX7_put 7 none ∈ lw_tbl := List.mem_of_getElem? (i := 392) rfl
set_option maxRecDepth 20000 in
theorem gl_105 : Cond.methodLink RX7 21 Lib.Math.max.name ∈ lw_tbl := by decide +kernel
set_option maxRecDepth 20000 in
theorem gl_106 : Cond.fieldLink RX7 9 "IcePilots$Weather" "cold" "[I" ∈ lw_tbl := by decide +kernel
set_option maxRecDepth 20000 in
theorem gl_107 : Cond.fieldLink RX7 15 "IcePilots$Weather" "way" "[I" ∈ lw_tbl := by decide +kernel
set_option maxRecDepth 20000 in
theorem gl_108 : Cond.fieldLink RX7 18 "IcePilots$Weather" "force" "[I" ∈ lw_tbl := by decide +kernel
set_option maxRecDepth 20000 in
theorem gl_109 : Cond.fieldLink RX2 37 "IcePilots$Fleet" "size" "I" ∈ lw_tbl := by decide +kernel
set_option maxRecDepth 20000 in
theorem gl_110 : Cond.methodLink RX2 33 yX3_begin ∈ lw_tbl := by decide +kernel
set_option maxRecDepth 20000 in
theorem gl_111 : Cond.instanceMethod yX3_begin ∈ lw_tbl := by decide +kernel
set_option maxRecDepth 20000 in
theorem gl_112 : Cond.selects RX3 yX3_begin yX3_begin ∈ lw_tbl := by decide +kernel
set_option maxRecDepth 20000 in
theorem gl_113 : Cond.methodLink RX2 40 yX7_put ∈ lw_tbl := by decide +kernel
set_option maxRecDepth 20000 in
theorem gl_114 : Cond.instanceMethod yX7_put ∈ lw_tbl := by decide +kernel
set_option maxRecDepth 20000 in
theorem gl_115 : Cond.selects RX7 yX7_put yX7_put ∈ lw_tbl := by decide +kernel
set_option maxRecDepth 20000 in
theorem gl_116 : Cond.initialized RX7 ∈ lw_tbl := by decide +kernel
set_option maxRecDepth 20000 in
theorem gl_117 : Cond.code yX2_begin cX2_begin 3 none ∈ lw_tbl := List.mem_of_getElem? (i := 380) rfl
set_option maxRecDepth 20000 in
theorem gl_118 : Cond.code yX3_copy cX3_copy 2 none ∈ lw_tbl := List.mem_of_getElem? (i := 779) rfl
set_option maxRecDepth 20000 in
theorem gl_119 : Cond.methodLink RX3 51 arraycopyName ∈ lw_tbl := by decide +kernel
set_option maxRecDepth 20000 in
theorem gl_120 : Cond.methodLink RX2 46 yX3_copy ∈ lw_tbl := by decide +kernel
set_option maxRecDepth 20000 in
theorem gl_121 : Cond.instanceMethod yX3_copy ∈ lw_tbl := by decide +kernel
set_option maxRecDepth 20000 in
theorem gl_122 : Cond.selects RX3 yX3_copy yX3_copy ∈ lw_tbl := by decide +kernel
set_option maxRecDepth 20000 in
theorem gl_123 : Cond.methodLink RX2 50 yX1_copy ∈ lw_tbl := by decide +kernel
set_option maxRecDepth 20000 in
theorem gl_124 : Cond.instanceMethod yX1_copy ∈ lw_tbl := by decide +kernel
set_option maxRecDepth 20000 in
theorem gl_125 : Cond.selects RX1 yX1_copy yX1_copy ∈ lw_tbl := by decide +kernel
set_option maxRecDepth 20000 in
theorem gl_126 : Cond.code yX2_copyAllButWeather cX2_copyAllButWeather 2 none ∈ lw_tbl := List.mem_of_getElem? (i := 775) rfl
set_option maxRecDepth 20000 in
theorem gl_127 : Cond.code yX4_whatOf cX4_whatOf 1 (some .int) ∈ lw_tbl := List.mem_of_getElem? (i := 683) rfl
set_option maxRecDepth 20000 in
theorem gl_128 : Cond.code yX3_burden cX3_burden 2 (some .int) ∈ lw_tbl := List.mem_of_getElem? (i := 695) rfl
set_option maxRecDepth 20000 in
theorem gl_129 : Cond.fieldLink RX2 85 "IcePilots$Fleet" "place" "[I" ∈ lw_tbl := by decide +kernel
set_option maxRecDepth 20000 in
theorem gl_130 : Cond.fieldLink RX2 92 "IcePilots$Fleet" "strength" "[I" ∈ lw_tbl := by decide +kernel
set_option maxRecDepth 20000 in
theorem gl_131 : Cond.methodLink RX2 88 yX3_burden ∈ lw_tbl := by decide +kernel
set_option maxRecDepth 20000 in
theorem gl_132 : Cond.instanceMethod yX3_burden ∈ lw_tbl := by decide +kernel
set_option maxRecDepth 20000 in
theorem gl_133 : Cond.selects RX3 yX3_burden yX3_burden ∈ lw_tbl := by decide +kernel
set_option maxRecDepth 20000 in
theorem gl_134 : Cond.methodLink RX2 95 yX1_breakerBeside ∈ lw_tbl := by decide +kernel
set_option maxRecDepth 20000 in
theorem gl_135 : Cond.instanceMethod yX1_breakerBeside ∈ lw_tbl := by decide +kernel
set_option maxRecDepth 20000 in
theorem gl_136 : Cond.selects RX1 yX1_breakerBeside yX1_breakerBeside ∈ lw_tbl := by decide +kernel
set_option maxRecDepth 20000 in
theorem gl_137 : Cond.code yX2_held cX2_held 2 (some .boolean) ∈ lw_tbl := List.mem_of_getElem? (i := 691) rfl
set_option maxRecDepth 20000 in
theorem gl_138 : Cond.code yX3_find cX3_find 3 (some .int) ∈ lw_tbl := List.mem_of_getElem? (i := 423) rfl
set_option maxRecDepth 20000 in
theorem gl_139 : Cond.code yX3_next cX3_next 5 (some .int) ∈ lw_tbl := List.mem_of_getElem? (i := 719) rfl
set_option maxRecDepth 20000 in
theorem gl_140 : Cond.methodLink RX3 57 yX3_find ∈ lw_tbl := by decide +kernel
set_option maxRecDepth 20000 in
theorem gl_141 : Cond.instanceMethod yX3_find ∈ lw_tbl := by decide +kernel
set_option maxRecDepth 20000 in
theorem gl_142 : Cond.selects RX3 yX3_find yX3_find ∈ lw_tbl := by decide +kernel
set_option maxRecDepth 20000 in
theorem gl_143 : Cond.fieldLink RX2 166 "IcePilots$Ice" "sea" "[Z" ∈ lw_tbl := by decide +kernel
set_option maxRecDepth 20000 in
theorem gl_144 : Cond.methodLink RX2 163 yX3_next ∈ lw_tbl := by decide +kernel
set_option maxRecDepth 20000 in
theorem gl_145 : Cond.instanceMethod yX3_next ∈ lw_tbl := by decide +kernel
set_option maxRecDepth 20000 in
theorem gl_146 : Cond.selects RX3 yX3_next yX3_next ∈ lw_tbl := by decide +kernel
set_option maxRecDepth 20000 in
theorem gl_147 : Cond.methodLink RX2 169 yX1_shipIn ∈ lw_tbl := by decide +kernel
set_option maxRecDepth 20000 in
theorem gl_148 : Cond.instanceMethod yX1_shipIn ∈ lw_tbl := by decide +kernel
set_option maxRecDepth 20000 in
theorem gl_149 : Cond.selects RX1 yX1_shipIn yX1_shipIn ∈ lw_tbl := by decide +kernel
set_option maxRecDepth 20000 in
theorem gl_150 : Cond.code yX2_burdenSeen cX2_burdenSeen 4 (some .int) ∈ lw_tbl := List.mem_of_getElem? (i := 715) rfl
set_option maxRecDepth 20000 in
theorem gl_151 : Cond.fieldLink RX2 142 "IcePilots$Ice" "level" "[I" ∈ lw_tbl := by decide +kernel
set_option maxRecDepth 20000 in
theorem gl_152 : Cond.fieldLink RX2 145 "IcePilots$Ice" "ridged" "[I" ∈ lw_tbl := by decide +kernel
set_option maxRecDepth 20000 in
theorem gl_153 : Cond.fieldLink RX2 148 "IcePilots$Fleet" "fuel" "[I" ∈ lw_tbl := by decide +kernel
set_option maxRecDepth 20000 in
theorem gl_154 : Cond.fieldLink RX2 157 "IcePilots$Fleet" "told" "[I" ∈ lw_tbl := by decide +kernel
set_option maxRecDepth 20000 in
theorem gl_155 : Cond.methodLink RX2 151 yX2_held ∈ lw_tbl := by decide +kernel
set_option maxRecDepth 20000 in
theorem gl_156 : Cond.instanceMethod yX2_held ∈ lw_tbl := by decide +kernel
set_option maxRecDepth 20000 in
theorem gl_157 : Cond.selects RX2 yX2_held yX2_held ∈ lw_tbl := by decide +kernel
set_option maxRecDepth 20000 in
theorem gl_158 : Cond.initialized RX2 ∈ lw_tbl := by decide +kernel
set_option maxRecDepth 20000 in
theorem gl_159 : Cond.methodLink RX2 154 yX1_shipsBeside ∈ lw_tbl := by decide +kernel
set_option maxRecDepth 20000 in
theorem gl_160 : Cond.instanceMethod yX1_shipsBeside ∈ lw_tbl := by decide +kernel
set_option maxRecDepth 20000 in
theorem gl_161 : Cond.selects RX1 yX1_shipsBeside yX1_shipsBeside ∈ lw_tbl := by decide +kernel
set_option maxRecDepth 20000 in
theorem gl_162 : Cond.methodLink RX2 160 yX2_burdenSeen ∈ lw_tbl := by decide +kernel
set_option maxRecDepth 20000 in
theorem gl_163 : Cond.instanceMethod yX2_burdenSeen ∈ lw_tbl := by decide +kernel
set_option maxRecDepth 20000 in
theorem gl_164 : Cond.selects RX2 yX2_burdenSeen yX2_burdenSeen ∈ lw_tbl := by decide +kernel
set_option maxRecDepth 20000 in
theorem gl_165 : Cond.code yX2_sight cX2_sight 4 (some .int) ∈ lw_tbl := List.mem_of_getElem? (i := 687) rfl
set_option maxRecDepth 20000 in
theorem gl_166 : Cond.code yX4_agrees cX4_agrees 3 (some .boolean) ∈ lw_tbl := List.mem_of_getElem? (i := 724) rfl
set_option maxRecDepth 20000 in
theorem gl_167 : Cond.fieldLink RX2 126 "IcePilots$Orders" "ends" "[I" ∈ lw_tbl := by decide +kernel
set_option maxRecDepth 20000 in
theorem gl_168 : Cond.fieldLink RX2 129 "IcePilots$Orders" "steps" "[I" ∈ lw_tbl := by decide +kernel
set_option maxRecDepth 20000 in
theorem gl_169 : Cond.methodLink RX2 132 yX4_whatOf ∈ lw_tbl := by decide +kernel
set_option maxRecDepth 20000 in
theorem gl_170 : Cond.static yX4_whatOf ∈ lw_tbl := by decide +kernel
set_option maxRecDepth 20000 in
theorem gl_171 : Cond.initialized RX4 ∈ lw_tbl := by decide +kernel
set_option maxRecDepth 20000 in
theorem gl_172 : Cond.methodLink RX2 135 yX2_sight ∈ lw_tbl := by decide +kernel
set_option maxRecDepth 20000 in
theorem gl_173 : Cond.instanceMethod yX2_sight ∈ lw_tbl := by decide +kernel
set_option maxRecDepth 20000 in
theorem gl_174 : Cond.selects RX2 yX2_sight yX2_sight ∈ lw_tbl := by decide +kernel
set_option maxRecDepth 20000 in
theorem gl_175 : Cond.methodLink RX2 138 yX4_agrees ∈ lw_tbl := by decide +kernel
set_option maxRecDepth 20000 in
theorem gl_176 : Cond.static yX4_agrees ∈ lw_tbl := by decide +kernel
set_option maxRecDepth 20000 in
theorem gl_177 : Cond.code yX2_holds cX2_holds 8 (some .boolean) ∈ lw_tbl := List.mem_of_getElem? (i := 680) rfl
set_option maxRecDepth 20000 in
theorem gl_178 : Cond.code yX2_cut cX2_cut 3 (some .boolean) ∈ lw_tbl := List.mem_of_getElem? (i := 732) rfl
set_option maxRecDepth 20000 in
theorem gl_179 : Cond.fieldLink RX2 181 "IcePilots$Ice" "channel" "[I" ∈ lw_tbl := by decide +kernel
set_option maxRecDepth 20000 in
theorem gl_180 : Cond.fieldLink RX2 187 "IcePilots$Fleet" "moved" "[I" ∈ lw_tbl := by decide +kernel
set_option maxRecDepth 20000 in
theorem gl_181 : Cond.methodLink RX2 184 yX1_isBreaker ∈ lw_tbl := by decide +kernel
set_option maxRecDepth 20000 in
theorem gl_182 : Cond.code yX2_move cX2_move 7 (some .boolean) ∈ lw_tbl := List.mem_of_getElem? (i := 740) rfl
set_option maxRecDepth 20000 in
theorem gl_183 : Cond.methodLink RX2 172 yX2_cut ∈ lw_tbl := by decide +kernel
set_option maxRecDepth 20000 in
theorem gl_184 : Cond.instanceMethod yX2_cut ∈ lw_tbl := by decide +kernel
set_option maxRecDepth 20000 in
theorem gl_185 : Cond.selects RX2 yX2_cut yX2_cut ∈ lw_tbl := by decide +kernel
set_option maxRecDepth 20000 in
theorem gl_186 : Cond.methodLink RX2 175 yX1_tellOthers ∈ lw_tbl := by decide +kernel
set_option maxRecDepth 20000 in
theorem gl_187 : Cond.instanceMethod yX1_tellOthers ∈ lw_tbl := by decide +kernel
set_option maxRecDepth 20000 in
theorem gl_188 : Cond.selects RX1 yX1_tellOthers yX1_tellOthers ∈ lw_tbl := by decide +kernel
set_option maxRecDepth 20000 in
theorem gl_189 : Cond.methodLink RX2 178 yX2_move ∈ lw_tbl := by decide +kernel
set_option maxRecDepth 20000 in
theorem gl_190 : Cond.instanceMethod yX2_move ∈ lw_tbl := by decide +kernel
set_option maxRecDepth 20000 in
theorem gl_191 : Cond.selects RX2 yX2_move yX2_move ∈ lw_tbl := by decide +kernel
set_option maxRecDepth 20000 in
theorem gl_192 : Cond.code yX2_carryOut cX2_carryOut 4 (some .boolean) ∈ lw_tbl := List.mem_of_getElem? (i := 728) rfl
set_option maxRecDepth 20000 in
theorem gl_193 : Cond.fieldLink RX2 99 "IcePilots$Fleet" "line" "[I" ∈ lw_tbl := by decide +kernel
set_option maxRecDepth 20000 in
theorem gl_194 : Cond.fieldLink RX2 102 "IcePilots$Fleet" "done" "[Z" ∈ lw_tbl := by decide +kernel
set_option maxRecDepth 20000 in
theorem gl_195 : Cond.fieldLink RX2 106 "IcePilots$Fleet" "orders" "[LIcePilots$Orders;" ∈ lw_tbl := by decide +kernel
set_option maxRecDepth 20000 in
theorem gl_196 : Cond.fieldLink RX2 110 "IcePilots$Orders" "acts" "[I" ∈ lw_tbl := by decide +kernel
set_option maxRecDepth 20000 in
theorem gl_197 : Cond.fieldLink RX2 119 "IcePilots$Orders" "numbers" "[I" ∈ lw_tbl := by decide +kernel
set_option maxRecDepth 20000 in
theorem gl_198 : Cond.methodLink RX2 115 yX2_holds ∈ lw_tbl := by decide +kernel
set_option maxRecDepth 20000 in
theorem gl_199 : Cond.instanceMethod yX2_holds ∈ lw_tbl := by decide +kernel

set_option maxRecDepth 20000 in
theorem gl_400 : Cond.instanceMethod yX5_scan ∈ lw_tbl := by decide +kernel
set_option maxRecDepth 20000 in
theorem gl_401 : Cond.selects RX5 yX5_scan yX5_scan ∈ lw_tbl := by decide +kernel
set_option maxRecDepth 20000 in
theorem gl_402 : Cond.methodLink RX5 60 yX5_placeHere ∈ lw_tbl := by decide +kernel
set_option maxRecDepth 20000 in
theorem gl_403 : Cond.instanceMethod yX5_placeHere ∈ lw_tbl := by decide +kernel
set_option maxRecDepth 20000 in
theorem gl_404 : Cond.selects RX5 yX5_placeHere yX5_placeHere ∈ lw_tbl := by decide +kernel
set_option maxRecDepth 20000 in
theorem gl_405 : Cond.methodLink RX5 63 yX5_readLine ∈ lw_tbl := by decide +kernel
set_option maxRecDepth 20000 in
theorem gl_406 : Cond.instanceMethod yX5_readLine ∈ lw_tbl := by decide +kernel
set_option maxRecDepth 20000 in
theorem gl_407 : Cond.selects RX5 yX5_readLine yX5_readLine ∈ lw_tbl := by decide +kernel
set_option maxRecDepth 20000 in
theorem gl_408 : Cond.code yX5_read cX5_read 4 none ∈ lw_tbl := List.mem_of_getElem? (i := 473) rfl
set_option maxRecDepth 20000 in
theorem gl_409 : Cond.code yJ7_copyOf_59c91 cJ7_copyOf_59c91 3 (some (.array .int)) ∈ lw_tbl := List.mem_of_getElem? (i := 618) rfl
set_option maxRecDepth 20000 in
theorem gl_410 : Cond.methodLink RJ7 316 ⟨"[I", "clone", "()Ljava/lang/Object;"⟩ ∈ lw_tbl := by decide +kernel
set_option maxRecDepth 20000 in
theorem gl_411 : Cond.sameMethod "[I" "java/lang/Object" "clone" "()Ljava/lang/Object;" ∈ lw_tbl := by decide +kernel
set_option maxRecDepth 20000 in
theorem gl_412 : Cond.native ⟨"java/lang/Object", "clone", "()Ljava/lang/Object;"⟩ ∈ lw_tbl := by decide +kernel
set_option maxRecDepth 20000 in
theorem gl_413 : Cond.instanceMethod ⟨"java/lang/Object", "clone", "()Ljava/lang/Object;"⟩ ∈ lw_tbl := by decide +kernel
set_option maxRecDepth 20000 in
theorem gl_414 : Cond.selects "[I" ⟨"[I", "clone", "()Ljava/lang/Object;"⟩ ⟨"java/lang/Object", "clone", "()Ljava/lang/Object;"⟩ ∈ lw_tbl := by decide +kernel
set_option maxRecDepth 20000 in
theorem gl_415 : Cond.classLink RJ7 317 "[I" ∈ lw_tbl := by decide +kernel
set_option maxRecDepth 20000 in
theorem gl_416 : Cond.methodLink RJ7 304 Lib.Math.min.name ∈ lw_tbl := by decide +kernel
set_option maxRecDepth 20000 in
theorem gl_417 : Cond.methodLink RJ7 150 arraycopyName ∈ lw_tbl := by decide +kernel
set_option maxRecDepth 20000 in
theorem gl_418 : Cond.methodLink RX5 67 Lib.Math.min.name ∈ lw_tbl := by decide +kernel
set_option maxRecDepth 20000 in
theorem gl_419 : Cond.classLink RX5 73 RX4 ∈ lw_tbl := by decide +kernel
set_option maxRecDepth 20000 in
theorem gl_420 : Cond.instantiable RX4 4 ∈ lw_tbl := by decide +kernel
set_option maxRecDepth 20000 in
theorem gl_421 : Cond.methodLink RX5 75 yJ7_copyOf_59c91 ∈ lw_tbl := by decide +kernel
set_option maxRecDepth 20000 in
theorem gl_422 : Cond.static yJ7_copyOf_59c91 ∈ lw_tbl := by decide +kernel
set_option maxRecDepth 20000 in
theorem gl_423 : Cond.methodLink RX5 81 yX4_init ∈ lw_tbl := by decide +kernel
set_option maxRecDepth 20000 in
theorem gl_424 : Cond.instanceMethod yX4_init ∈ lw_tbl := by decide +kernel
set_option maxRecDepth 20000 in
theorem gl_425 : Cond.code yX5_result cX5_result 2 (some (.object "IcePilots$Orders")) ∈ lw_tbl := List.mem_of_getElem? (i := 610) rfl
set_option maxRecDepth 20000 in
theorem gl_426 : Cond.code yX6_init cX6_init 1 none ∈ lw_tbl := List.mem_of_getElem? (i := 262) rfl
set_option maxRecDepth 20000 in
theorem gl_427 : Cond.methodLink RX6 3 objectInit ∈ lw_tbl := by decide +kernel
set_option maxRecDepth 20000 in
theorem gl_428 : Cond.code yX6_append cX6_append 3 none ∈ lw_tbl := List.mem_of_getElem? (i := 457) rfl
set_option maxRecDepth 20000 in
theorem gl_429 : Cond.code yX6_copy cX6_copy 2 none ∈ lw_tbl := List.mem_of_getElem? (i := 888) rfl
set_option maxRecDepth 20000 in
theorem gl_430 : Cond.methodLink RX6 19 arraycopyName ∈ lw_tbl := by decide +kernel
set_option maxRecDepth 20000 in
theorem gl_431 : Cond.code yX7_init cX7_init 1 none ∈ lw_tbl := List.mem_of_getElem? (i := 111) rfl
set_option maxRecDepth 20000 in
theorem gl_432 : Cond.methodLink RX7 3 objectInit ∈ lw_tbl := by decide +kernel
set_option maxRecDepth 20000 in
theorem gl_433 : Cond.code yX7_copy cX7_copy 2 none ∈ lw_tbl := List.mem_of_getElem? (i := 883) rfl
set_option maxRecDepth 20000 in
theorem gl_434 : Cond.methodLink RX7 27 arraycopyName ∈ lw_tbl := by decide +kernel
set_option maxRecDepth 20000 in
theorem gl_435 : Cond.methodLink RX8 3 objectInit ∈ lw_tbl := by decide +kernel
set_option maxRecDepth 20000 in
theorem gl_436 : Cond.classLink RX8 9 RX2 ∈ lw_tbl := by decide +kernel
set_option maxRecDepth 20000 in
theorem gl_437 : Cond.instantiable RX2 4 ∈ lw_tbl := by decide +kernel
set_option maxRecDepth 20000 in
theorem gl_438 : Cond.classLink RX8 11 RX7 ∈ lw_tbl := by decide +kernel
set_option maxRecDepth 20000 in
theorem gl_439 : Cond.instantiable RX7 3 ∈ lw_tbl := by decide +kernel
set_option maxRecDepth 20000 in
theorem gl_440 : Cond.fieldLink RX8 17 "IcePilots$Whole" "gulf" "LIcePilots$Gulf;" ∈ lw_tbl := by decide +kernel
set_option maxRecDepth 20000 in
theorem gl_441 : Cond.classLink RX8 23 RX6 ∈ lw_tbl := by decide +kernel
set_option maxRecDepth 20000 in
theorem gl_442 : Cond.instantiable RX6 2 ∈ lw_tbl := by decide +kernel
set_option maxRecDepth 20000 in
theorem gl_443 : Cond.fieldLink RX8 26 "IcePilots$Whole" "tape" "LIcePilots$Tape;" ∈ lw_tbl := by decide +kernel
set_option maxRecDepth 20000 in
theorem gl_444 : Cond.classLink RX8 30 RX0 ∈ lw_tbl := by decide +kernel
set_option maxRecDepth 20000 in
theorem gl_445 : Cond.instantiable RX0 7 ∈ lw_tbl := by decide +kernel
set_option maxRecDepth 20000 in
theorem gl_446 : Cond.fieldLink RX8 33 "IcePilots$Whole" "convoy" "LIcePilots$Convoy;" ∈ lw_tbl := by decide +kernel
set_option maxRecDepth 20000 in
theorem gl_447 : Cond.fieldLink RX8 37 "IcePilots$Whole" "fault" "I" ∈ lw_tbl := by decide +kernel
set_option maxRecDepth 20000 in
theorem gl_448 : Cond.fieldLink RX8 41 "IcePilots$Whole" "place" "I" ∈ lw_tbl := by decide +kernel
set_option maxRecDepth 20000 in
theorem gl_449 : Cond.instanceMethod yX7_init ∈ lw_tbl := by decide +kernel
set_option maxRecDepth 20000 in
theorem gl_450 : Cond.methodLink RX8 14 yX2_init ∈ lw_tbl := by decide +kernel
set_option maxRecDepth 20000 in
theorem gl_451 : Cond.instanceMethod yX2_init ∈ lw_tbl := by decide +kernel
set_option maxRecDepth 20000 in
theorem gl_452 : Cond.instanceMethod yX6_init ∈ lw_tbl := by decide +kernel
set_option maxRecDepth 20000 in
theorem gl_453 : Cond.instanceMethod yX0_init ∈ lw_tbl := by decide +kernel
set_option maxRecDepth 20000 in
theorem gl_454 : Cond.code yX8_init cX8_init 1 none ∈ lw_tbl := List.mem_of_getElem? (i := 103) rfl
set_option maxRecDepth 20000 in
theorem gl_455 : Cond.fieldLink RX8 48 "IcePilots$Gulf" "weather" "LIcePilots$Weather;" ∈ lw_tbl := by decide +kernel
set_option maxRecDepth 20000 in
theorem gl_456 : Cond.methodLink RX8 44 yX2_copyAllButWeather ∈ lw_tbl := by decide +kernel
set_option maxRecDepth 20000 in
theorem gl_457 : Cond.instanceMethod yX2_copyAllButWeather ∈ lw_tbl := by decide +kernel
set_option maxRecDepth 20000 in
theorem gl_458 : Cond.selects RX2 yX2_copyAllButWeather yX2_copyAllButWeather ∈ lw_tbl := by decide +kernel
set_option maxRecDepth 20000 in
theorem gl_459 : Cond.methodLink RX8 52 yX7_copy ∈ lw_tbl := by decide +kernel
set_option maxRecDepth 20000 in
theorem gl_460 : Cond.instanceMethod yX7_copy ∈ lw_tbl := by decide +kernel
set_option maxRecDepth 20000 in
theorem gl_461 : Cond.selects RX7 yX7_copy yX7_copy ∈ lw_tbl := by decide +kernel
set_option maxRecDepth 20000 in
theorem gl_462 : Cond.methodLink RX8 55 yX6_copy ∈ lw_tbl := by decide +kernel
set_option maxRecDepth 20000 in
theorem gl_463 : Cond.instanceMethod yX6_copy ∈ lw_tbl := by decide +kernel
set_option maxRecDepth 20000 in
theorem gl_464 : Cond.selects RX6 yX6_copy yX6_copy ∈ lw_tbl := by decide +kernel
set_option maxRecDepth 20000 in
theorem gl_465 : Cond.methodLink RX8 58 yX0_copy ∈ lw_tbl := by decide +kernel
set_option maxRecDepth 20000 in
theorem gl_466 : Cond.instanceMethod yX0_copy ∈ lw_tbl := by decide +kernel
set_option maxRecDepth 20000 in
theorem gl_467 : Cond.selects RX0 yX0_copy yX0_copy ∈ lw_tbl := by decide +kernel
set_option maxRecDepth 20000 in
theorem gl_468 : Cond.code yX8_copy cX8_copy 2 none ∈ lw_tbl := List.mem_of_getElem? (i := 878) rfl
set_option maxRecDepth 20000 in
theorem gl_469 : Cond.methodLink RX10 1 objectInit ∈ lw_tbl := by decide +kernel
set_option maxRecDepth 20000 in
theorem gl_470 : Cond.classLink RX10 7 RX8 ∈ lw_tbl := by decide +kernel
set_option maxRecDepth 20000 in
theorem gl_471 : Cond.instantiable RX8 5 ∈ lw_tbl := by decide +kernel
set_option maxRecDepth 20000 in
theorem gl_472 : Cond.initialized RX8 ∈ lw_tbl := by decide +kernel
set_option maxRecDepth 20000 in
theorem gl_473 : Cond.fieldLink RX10 10 "IcePilots" "now" "LIcePilots$Whole;" ∈ lw_tbl := by decide +kernel
set_option maxRecDepth 20000 in
theorem gl_474 : Cond.fieldLink RX10 16 "IcePilots" "images" "[LIcePilots$Whole;" ∈ lw_tbl := by decide +kernel
set_option maxRecDepth 20000 in
theorem gl_475 : Cond.classLink RX10 20 RX2 ∈ lw_tbl := by decide +kernel
set_option maxRecDepth 20000 in
theorem gl_476 : Cond.fieldLink RX10 22 "IcePilots$Whole" "gulf" "LIcePilots$Gulf;" ∈ lw_tbl := by decide +kernel
set_option maxRecDepth 20000 in
theorem gl_477 : Cond.fieldLink RX10 26 "IcePilots$Gulf" "weather" "LIcePilots$Weather;" ∈ lw_tbl := by decide +kernel
set_option maxRecDepth 20000 in
theorem gl_478 : Cond.fieldLink RX10 33 "IcePilots" "foretold" "LIcePilots$Gulf;" ∈ lw_tbl := by decide +kernel
set_option maxRecDepth 20000 in
theorem gl_479 : Cond.classLink RX10 36 RX5 ∈ lw_tbl := by decide +kernel
set_option maxRecDepth 20000 in
theorem gl_480 : Cond.instantiable RX5 13 ∈ lw_tbl := by decide +kernel
set_option maxRecDepth 20000 in
theorem gl_481 : Cond.fieldLink RX10 39 "IcePilots" "reader" "LIcePilots$Reader;" ∈ lw_tbl := by decide +kernel
set_option maxRecDepth 20000 in
theorem gl_482 : Cond.instanceMethod yX8_init ∈ lw_tbl := by decide +kernel
set_option maxRecDepth 20000 in
theorem gl_483 : Cond.methodLink RX10 30 yX2_init ∈ lw_tbl := by decide +kernel
set_option maxRecDepth 20000 in
theorem gl_484 : Cond.instanceMethod yX5_init ∈ lw_tbl := by decide +kernel
set_option maxRecDepth 20000 in
theorem gl_485 : Cond.methodLink RX10 43 yX2_begin ∈ lw_tbl := by decide +kernel
set_option maxRecDepth 20000 in
theorem gl_486 : Cond.instanceMethod yX2_begin ∈ lw_tbl := by decide +kernel
set_option maxRecDepth 20000 in
theorem gl_487 : Cond.selects RX2 yX2_begin yX2_begin ∈ lw_tbl := by decide +kernel
set_option maxRecDepth 20000 in
theorem gl_488 : Cond.code yX10_init cX10_init 1 none ∈ lw_tbl := List.mem_of_getElem? (i := 95) rfl
set_option maxRecDepth 20000 in
theorem gl_489 : Cond.code yX10_within cX10_within 3 (some .boolean) ∈ lw_tbl := List.mem_of_getElem? (i := 415) rfl
set_option maxRecDepth 20000 in
theorem gl_490 : Cond.methodLink RX10 47 yX10_within ∈ lw_tbl := by decide +kernel
set_option maxRecDepth 20000 in
theorem gl_491 : Cond.static yX10_within ∈ lw_tbl := by decide +kernel
set_option maxRecDepth 20000 in
theorem gl_492 : Cond.initialized RX10 ∈ lw_tbl := by decide +kernel
set_option maxRecDepth 20000 in
theorem gl_493 : Cond.code yX10_gulf cX10_gulf 3 (some .boolean) ∈ lw_tbl := List.mem_of_getElem? (i := 412) rfl
set_option maxRecDepth 20000 in
theorem gl_494 : Cond.fieldLink RX10 51 "IcePilots$Gulf" "ice" "LIcePilots$Ice;" ∈ lw_tbl := by decide +kernel
set_option maxRecDepth 20000 in
theorem gl_495 : Cond.fieldLink RX10 61 "IcePilots$Ice" "sea" "[Z" ∈ lw_tbl := by decide +kernel
set_option maxRecDepth 20000 in
theorem gl_496 : Cond.fieldLink RX10 65 "IcePilots$Gulf" "fleet" "LIcePilots$Fleet;" ∈ lw_tbl := by decide +kernel
set_option maxRecDepth 20000 in
theorem gl_497 : Cond.fieldLink RX10 75 "IcePilots$Ice" "laid" "I" ∈ lw_tbl := by decide +kernel
set_option maxRecDepth 20000 in
theorem gl_498 : Cond.fieldLink RX10 79 "IcePilots$Ice" "level" "[I" ∈ lw_tbl := by decide +kernel
set_option maxRecDepth 20000 in
theorem gl_499 : Cond.fieldLink RX10 83 "IcePilots$Ice" "ridged" "[I" ∈ lw_tbl := by decide +kernel
set_option maxRecDepth 20000 in
theorem gl_500 : Cond.methodLink RX10 55 yX3_find ∈ lw_tbl := by decide +kernel
set_option maxRecDepth 20000 in
theorem gl_501 : Cond.methodLink RX10 69 yX1_shipIn ∈ lw_tbl := by decide +kernel
set_option maxRecDepth 20000 in
theorem gl_502 : Cond.methodLink RX10 86 yX3_empty ∈ lw_tbl := by decide +kernel
set_option maxRecDepth 20000 in
theorem gl_503 : Cond.code yX10_land cX10_land 6 (some .boolean) ∈ lw_tbl := List.mem_of_getElem? (i := 419) rfl
set_option maxRecDepth 20000 in
theorem gl_504 : Cond.code yX10_ice cX10_ice 8 (some .boolean) ∈ lw_tbl := List.mem_of_getElem? (i := 432) rfl
set_option maxRecDepth 20000 in
theorem gl_505 : Cond.fieldLink RX10 94 "IcePilots$Ice" "fast" "[Z" ∈ lw_tbl := by decide +kernel
set_option maxRecDepth 20000 in
theorem gl_506 : Cond.methodLink RX10 90 yX3_lay ∈ lw_tbl := by decide +kernel
set_option maxRecDepth 20000 in
theorem gl_507 : Cond.instanceMethod yX3_lay ∈ lw_tbl := by decide +kernel
set_option maxRecDepth 20000 in
theorem gl_508 : Cond.selects RX3 yX3_lay yX3_lay ∈ lw_tbl := by decide +kernel
set_option maxRecDepth 20000 in
theorem gl_509 : Cond.code yX10_weather cX10_weather 6 (some .boolean) ∈ lw_tbl := List.mem_of_getElem? (i := 440) rfl
set_option maxRecDepth 20000 in
theorem gl_510 : Cond.fieldLink RX10 97 "IcePilots$Gulf" "hour" "I" ∈ lw_tbl := by decide +kernel
set_option maxRecDepth 20000 in
theorem gl_511 : Cond.methodLink RX10 100 yX7_put ∈ lw_tbl := by decide +kernel
set_option maxRecDepth 20000 in
theorem gl_512 : Cond.methodLink RX10 106 yX1_join ∈ lw_tbl := by decide +kernel
set_option maxRecDepth 20000 in
theorem gl_513 : Cond.instanceMethod yX1_join ∈ lw_tbl := by decide +kernel
set_option maxRecDepth 20000 in
theorem gl_514 : Cond.selects RX1 yX1_join yX1_join ∈ lw_tbl := by decide +kernel
set_option maxRecDepth 20000 in
theorem gl_515 : Cond.code yX10_ship cX10_ship 7 (some .int) ∈ lw_tbl := List.mem_of_getElem? (i := 445) rfl
set_option maxRecDepth 20000 in
theorem gl_516 : Cond.code yX10_feed cX10_feed 7 (some .int) ∈ lw_tbl := List.mem_of_getElem? (i := 453) rfl
set_option maxRecDepth 20000 in
theorem gl_517 : Cond.fieldLink RX10 110 "IcePilots$Whole" "tape" "LIcePilots$Tape;" ∈ lw_tbl := by decide +kernel
set_option maxRecDepth 20000 in
theorem gl_518 : Cond.fieldLink RX10 114 "IcePilots$Tape" "length" "I" ∈ lw_tbl := by decide +kernel
set_option maxRecDepth 20000 in
theorem gl_519 : Cond.methodLink RX10 119 yX6_append ∈ lw_tbl := by decide +kernel
set_option maxRecDepth 20000 in
theorem gl_520 : Cond.instanceMethod yX6_append ∈ lw_tbl := by decide +kernel
set_option maxRecDepth 20000 in
theorem gl_521 : Cond.selects RX6 yX6_append yX6_append ∈ lw_tbl := by decide +kernel
set_option maxRecDepth 20000 in
theorem gl_522 : Cond.code yX10_end cX10_end 2 (some .int) ∈ lw_tbl := List.mem_of_getElem? (i := 461) rfl
set_option maxRecDepth 20000 in
theorem gl_523 : Cond.fieldLink RX10 131 "IcePilots$Reader" "fault" "I" ∈ lw_tbl := by decide +kernel
set_option maxRecDepth 20000 in
theorem gl_524 : Cond.fieldLink RX10 134 "IcePilots$Whole" "fault" "I" ∈ lw_tbl := by decide +kernel
set_option maxRecDepth 20000 in
theorem gl_525 : Cond.fieldLink RX10 135 "IcePilots$Reader" "place" "I" ∈ lw_tbl := by decide +kernel
set_option maxRecDepth 20000 in
theorem gl_526 : Cond.fieldLink RX10 138 "IcePilots$Whole" "place" "I" ∈ lw_tbl := by decide +kernel
set_option maxRecDepth 20000 in
theorem gl_527 : Cond.fieldLink RX10 139 "IcePilots$Fleet" "orders" "[LIcePilots$Orders;" ∈ lw_tbl := by decide +kernel
set_option maxRecDepth 20000 in
theorem gl_528 : Cond.fieldLink RX10 147 "IcePilots$Reader" "lines" "I" ∈ lw_tbl := by decide +kernel
set_option maxRecDepth 20000 in
theorem gl_529 : Cond.methodLink RX10 123 yX1_has ∈ lw_tbl := by decide +kernel
set_option maxRecDepth 20000 in
theorem gl_530 : Cond.instanceMethod yX1_has ∈ lw_tbl := by decide +kernel
set_option maxRecDepth 20000 in
theorem gl_531 : Cond.selects RX1 yX1_has yX1_has ∈ lw_tbl := by decide +kernel
set_option maxRecDepth 20000 in
theorem gl_532 : Cond.methodLink RX10 127 yX5_read ∈ lw_tbl := by decide +kernel
set_option maxRecDepth 20000 in
theorem gl_533 : Cond.instanceMethod yX5_read ∈ lw_tbl := by decide +kernel
set_option maxRecDepth 20000 in
theorem gl_534 : Cond.selects RX5 yX5_read yX5_read ∈ lw_tbl := by decide +kernel
set_option maxRecDepth 20000 in
theorem gl_535 : Cond.methodLink RX10 143 yX5_result ∈ lw_tbl := by decide +kernel
set_option maxRecDepth 20000 in
theorem gl_536 : Cond.instanceMethod yX5_result ∈ lw_tbl := by decide +kernel
set_option maxRecDepth 20000 in
theorem gl_537 : Cond.selects RX5 yX5_result yX5_result ∈ lw_tbl := by decide +kernel
set_option maxRecDepth 20000 in
theorem gl_538 : Cond.code yX10_orders cX10_orders 2 (some .int) ∈ lw_tbl := List.mem_of_getElem? (i := 465) rfl
set_option maxRecDepth 20000 in
theorem gl_539 : Cond.code yX10_fault cX10_fault 2 (some .int) ∈ lw_tbl := List.mem_of_getElem? (i := 656) rfl
set_option maxRecDepth 20000 in
theorem gl_540 : Cond.code yX10_call cX10_call 3 (some .boolean) ∈ lw_tbl := List.mem_of_getElem? (i := 660) rfl
set_option maxRecDepth 20000 in
theorem gl_541 : Cond.fieldLink RX10 150 "IcePilots$Fleet" "told" "[I" ∈ lw_tbl := by decide +kernel
set_option maxRecDepth 20000 in
theorem gl_542 : Cond.code yX10_canPass cX10_canPass 2 (some .boolean) ∈ lw_tbl := List.mem_of_getElem? (i := 668) rfl
set_option maxRecDepth 20000 in
theorem gl_543 : Cond.methodLink RX10 153 yX10_canPass ∈ lw_tbl := by decide +kernel
set_option maxRecDepth 20000 in
theorem gl_544 : Cond.instanceMethod yX10_canPass ∈ lw_tbl := by decide +kernel
set_option maxRecDepth 20000 in
theorem gl_545 : Cond.selects RX10 yX10_canPass yX10_canPass ∈ lw_tbl := by decide +kernel
set_option maxRecDepth 20000 in
theorem gl_546 : Cond.methodLink RX10 156 yX2_passHour ∈ lw_tbl := by decide +kernel
set_option maxRecDepth 20000 in
theorem gl_547 : Cond.instanceMethod yX2_passHour ∈ lw_tbl := by decide +kernel
set_option maxRecDepth 20000 in
theorem gl_548 : Cond.selects RX2 yX2_passHour yX2_passHour ∈ lw_tbl := by decide +kernel
set_option maxRecDepth 20000 in
theorem gl_549 : Cond.code yX10_hours cX10_hours 3 (some .int) ∈ lw_tbl := List.mem_of_getElem? (i := 664) rfl
set_option maxRecDepth 20000 in
theorem gl_550 : Cond.code yX10_foretoldOfShip cX10_foretoldOfShip 4 (some .int) ∈ lw_tbl := List.mem_of_getElem? (i := 789) rfl
set_option maxRecDepth 20000 in
theorem gl_551 : Cond.fieldLink RX10 185 "IcePilots$Fleet" "place" "[I" ∈ lw_tbl := by decide +kernel
set_option maxRecDepth 20000 in
theorem gl_552 : Cond.fieldLink RX10 182 "IcePilots$Fleet" "fuel" "[I" ∈ lw_tbl := by decide +kernel
set_option maxRecDepth 20000 in
theorem gl_553 : Cond.fieldLink RX10 190 "IcePilots$Fleet" "moved" "[I" ∈ lw_tbl := by decide +kernel
set_option maxRecDepth 20000 in
theorem gl_554 : Cond.methodLink RX10 159 yX2_copyAllButWeather ∈ lw_tbl := by decide +kernel
set_option maxRecDepth 20000 in
theorem gl_555 : Cond.methodLink RX10 163 yX10_foretoldOfShip ∈ lw_tbl := by decide +kernel
set_option maxRecDepth 20000 in
theorem gl_556 : Cond.instanceMethod yX10_foretoldOfShip ∈ lw_tbl := by decide +kernel
set_option maxRecDepth 20000 in
theorem gl_557 : Cond.selects RX10 yX10_foretoldOfShip yX10_foretoldOfShip ∈ lw_tbl := by decide +kernel
set_option maxRecDepth 20000 in
theorem gl_558 : Cond.methodLink RX10 166 yX3_allLevel ∈ lw_tbl := by decide +kernel
set_option maxRecDepth 20000 in
theorem gl_559 : Cond.instanceMethod yX3_allLevel ∈ lw_tbl := by decide +kernel
set_option maxRecDepth 20000 in
theorem gl_560 : Cond.selects RX3 yX3_allLevel yX3_allLevel ∈ lw_tbl := by decide +kernel
set_option maxRecDepth 20000 in
theorem gl_561 : Cond.methodLink RX10 170 yX3_allRidged ∈ lw_tbl := by decide +kernel
set_option maxRecDepth 20000 in
theorem gl_562 : Cond.instanceMethod yX3_allRidged ∈ lw_tbl := by decide +kernel
set_option maxRecDepth 20000 in
theorem gl_563 : Cond.selects RX3 yX3_allRidged yX3_allRidged ∈ lw_tbl := by decide +kernel
set_option maxRecDepth 20000 in
theorem gl_564 : Cond.code yX10_ahead cX10_ahead 6 (some .int) ∈ lw_tbl := List.mem_of_getElem? (i := 771) rfl
set_option maxRecDepth 20000 in
theorem gl_565 : Cond.fieldLink RX10 173 "IcePilots$Ice" "channel" "[I" ∈ lw_tbl := by decide +kernel
set_option maxRecDepth 20000 in
theorem gl_566 : Cond.methodLink RX10 176 yX3_burden ∈ lw_tbl := by decide +kernel
set_option maxRecDepth 20000 in
theorem gl_567 : Cond.code yX10_cell cX10_cell 6 (some .int) ∈ lw_tbl := List.mem_of_getElem? (i := 805) rfl
set_option maxRecDepth 20000 in
theorem gl_568 : Cond.fieldLink RX10 179 "IcePilots$Fleet" "strength" "[I" ∈ lw_tbl := by decide +kernel
set_option maxRecDepth 20000 in
theorem gl_569 : Cond.fieldLink RX10 193 "IcePilots$Fleet" "line" "[I" ∈ lw_tbl := by decide +kernel
set_option maxRecDepth 20000 in
theorem gl_570 : Cond.fieldLink RX10 196 "IcePilots$Fleet" "done" "[Z" ∈ lw_tbl := by decide +kernel
set_option maxRecDepth 20000 in
theorem gl_571 : Cond.methodLink RX10 187 yX2_held ∈ lw_tbl := by decide +kernel
set_option maxRecDepth 20000 in
theorem gl_572 : Cond.methodLink RX10 199 yX1_linesOf ∈ lw_tbl := by decide +kernel
set_option maxRecDepth 20000 in
theorem gl_573 : Cond.instanceMethod yX1_linesOf ∈ lw_tbl := by decide +kernel
set_option maxRecDepth 20000 in
theorem gl_574 : Cond.selects RX1 yX1_linesOf yX1_linesOf ∈ lw_tbl := by decide +kernel
set_option maxRecDepth 20000 in
theorem gl_575 : Cond.code yX10_tell cX10_tell 4 (some .int) ∈ lw_tbl := List.mem_of_getElem? (i := 810) rfl
set_option maxRecDepth 20000 in
theorem gl_576 : Cond.fieldLink RX10 202 "IcePilots$Ice" "rows" "I" ∈ lw_tbl := by decide +kernel
set_option maxRecDepth 20000 in
theorem gl_577 : Cond.fieldLink RX10 205 "IcePilots$Ice" "columns" "I" ∈ lw_tbl := by decide +kernel
set_option maxRecDepth 20000 in
theorem gl_578 : Cond.fieldLink RX10 208 "IcePilots$Fleet" "size" "I" ∈ lw_tbl := by decide +kernel
set_option maxRecDepth 20000 in
theorem gl_579 : Cond.fieldLink RX10 211 "IcePilots$Ice" "grown" "I" ∈ lw_tbl := by decide +kernel
set_option maxRecDepth 20000 in
theorem gl_580 : Cond.fieldLink RX10 214 "IcePilots$Ice" "melted" "I" ∈ lw_tbl := by decide +kernel
set_option maxRecDepth 20000 in
theorem gl_581 : Cond.fieldLink RX10 217 "IcePilots$Whole" "convoy" "LIcePilots$Convoy;" ∈ lw_tbl := by decide +kernel
set_option maxRecDepth 20000 in
theorem gl_582 : Cond.fieldLink RX10 221 "IcePilots$Convoy" "size" "I" ∈ lw_tbl := by decide +kernel
set_option maxRecDepth 20000 in
theorem gl_583 : Cond.code yX10_count cX10_count 3 (some .int) ∈ lw_tbl := List.mem_of_getElem? (i := 819) rfl
set_option maxRecDepth 20000 in
theorem gl_584 : Cond.code yX10_passage cX10_passage 4 (some .int) ∈ lw_tbl := List.mem_of_getElem? (i := 823) rfl
set_option maxRecDepth 20000 in
theorem gl_585 : Cond.methodLink RX10 224 yX0_join ∈ lw_tbl := by decide +kernel
set_option maxRecDepth 20000 in
theorem gl_586 : Cond.instanceMethod yX0_join ∈ lw_tbl := by decide +kernel
set_option maxRecDepth 20000 in
theorem gl_587 : Cond.selects RX0 yX0_join yX0_join ∈ lw_tbl := by decide +kernel
set_option maxRecDepth 20000 in
theorem gl_588 : Cond.code yX10_clear cX10_clear 1 none ∈ lw_tbl := List.mem_of_getElem? (i := 831) rfl
set_option maxRecDepth 20000 in
theorem gl_589 : Cond.methodLink RX10 225 yX0_settle ∈ lw_tbl := by decide +kernel
set_option maxRecDepth 20000 in
theorem gl_590 : Cond.instanceMethod yX0_settle ∈ lw_tbl := by decide +kernel
set_option maxRecDepth 20000 in
theorem gl_591 : Cond.selects RX0 yX0_settle yX0_settle ∈ lw_tbl := by decide +kernel
set_option maxRecDepth 20000 in
theorem gl_592 : Cond.code yX10_turns cX10_turns 2 (some .int) ∈ lw_tbl := List.mem_of_getElem? (i := 835) rfl
set_option maxRecDepth 20000 in
theorem gl_593 : Cond.code yX10_turn cX10_turn 2 (some .int) ∈ lw_tbl := List.mem_of_getElem? (i := 861) rfl
set_option maxRecDepth 20000 in
theorem gl_594 : Cond.fieldLink RX10 228 "IcePilots$Convoy" "settledSize" "I" ∈ lw_tbl := by decide +kernel
set_option maxRecDepth 20000 in
theorem gl_595 : Cond.fieldLink RX10 231 "IcePilots$Convoy" "settled" "[I" ∈ lw_tbl := by decide +kernel
set_option maxRecDepth 20000 in
theorem gl_596 : Cond.code yX10_cost cX10_cost 3 (some .int) ∈ lw_tbl := List.mem_of_getElem? (i := 865) rfl
set_option maxRecDepth 20000 in
theorem gl_597 : Cond.methodLink RX10 234 yX0_tryDigits ∈ lw_tbl := by decide +kernel
set_option maxRecDepth 20000 in
theorem gl_598 : Cond.instanceMethod yX0_tryDigits ∈ lw_tbl := by decide +kernel
set_option maxRecDepth 20000 in
theorem gl_599 : Cond.selects RX0 yX0_tryDigits yX0_tryDigits ∈ lw_tbl := by decide +kernel

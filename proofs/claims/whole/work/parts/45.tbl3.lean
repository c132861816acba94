set_option maxRecDepth 20000 in
theorem gl_600 : Cond.methodLink RX10 237 yX0_waiting ∈ lw_tbl := by decide +kernel
set_option maxRecDepth 20000 in
theorem gl_601 : Cond.methodLink RX10 240 yX8_copy ∈ lw_tbl := by decide +kernel
set_option maxRecDepth 20000 in
theorem gl_602 : Cond.instanceMethod yX8_copy ∈ lw_tbl := by decide +kernel
set_option maxRecDepth 20000 in
theorem gl_603 : Cond.selects RX8 yX8_copy yX8_copy ∈ lw_tbl := by decide +kernel
set_option maxRecDepth 20000 in
theorem gl_604 : Cond.code yX10_image cX10_image 2 (some .boolean) ∈ lw_tbl := List.mem_of_getElem? (i := 874) rfl
set_option maxRecDepth 20000 in
theorem gl_605 : Cond.code yX10_again cX10_again 2 (some .boolean) ∈ lw_tbl := List.mem_of_getElem? (i := 897) rfl
set_option maxRecDepth 20000 in
theorem gl_606 : Cond.code yX11_begins cX11_begins 5 none ∈ lw_tbl := List.mem_of_getElem? (i := 908) rfl
set_option maxRecDepth 20000 in
theorem gl_607 : Cond.fieldLink RX11 8 "IcePilotsModel" "all" "[I" ∈ lw_tbl := by decide +kernel
set_option maxRecDepth 20000 in
theorem gl_608 : Cond.code yX11_init cX11_init 1 none ∈ lw_tbl := List.mem_of_getElem? (i := 902) rfl
set_option maxRecDepth 20000 in
theorem gl_609 : Cond.methodLink RX11 1 objectInit ∈ lw_tbl := by decide +kernel
set_option maxRecDepth 20000 in
theorem gl_610 : Cond.constant RX11 7 (53700) ∈ lw_tbl := by decide +kernel
set_option maxRecDepth 20000 in
theorem gl_611 : Cond.fieldLink RX11 14 "IcePilotsModel" "has" "[Z" ∈ lw_tbl := by decide +kernel
set_option maxRecDepth 20000 in
theorem gl_612 : Cond.fieldLink RX11 18 "IcePilotsModel" "line" "[I" ∈ lw_tbl := by decide +kernel
set_option maxRecDepth 20000 in
theorem gl_613 : Cond.fieldLink RX11 21 "IcePilotsModel" "act" "[I" ∈ lw_tbl := by decide +kernel
set_option maxRecDepth 20000 in
theorem gl_614 : Cond.fieldLink RX11 24 "IcePilotsModel" "pile" "[Z" ∈ lw_tbl := by decide +kernel
set_option maxRecDepth 20000 in
theorem gl_615 : Cond.fieldLink RX11 27 "IcePilotsModel" "comes" "[I" ∈ lw_tbl := by decide +kernel
set_option maxRecDepth 20000 in
theorem gl_616 : Cond.fieldLink RX11 30 "IcePilotsModel" "leaves" "[I" ∈ lw_tbl := by decide +kernel
set_option maxRecDepth 20000 in
theorem gl_617 : Cond.fieldLink RX11 33 "IcePilotsModel" "tried" "[I" ∈ lw_tbl := by decide +kernel
set_option maxRecDepth 20000 in
theorem gl_618 : Cond.fieldLink RX11 36 "IcePilotsModel" "met" "[Z" ∈ lw_tbl := by decide +kernel
set_option maxRecDepth 20000 in
theorem gl_619 : Cond.methodLink RX11 39 yX11_begins ∈ lw_tbl := by decide +kernel
set_option maxRecDepth 20000 in
theorem gl_620 : Cond.instanceMethod yX11_begins ∈ lw_tbl := by decide +kernel
set_option maxRecDepth 20000 in
theorem gl_621 : Cond.selects RX11 yX11_begins yX11_begins ∈ lw_tbl := by decide +kernel
set_option maxRecDepth 20000 in
theorem gl_622 : Cond.initialized RX11 ∈ lw_tbl := by decide +kernel
set_option maxRecDepth 20000 in
theorem gl_623 : Cond.code yX11_isIn cX11_isIn 3 (some .boolean) ∈ lw_tbl := List.mem_of_getElem? (i := 976) rfl
set_option maxRecDepth 20000 in
theorem gl_624 : Cond.code yX11_gulf cX11_gulf 3 (some .boolean) ∈ lw_tbl := List.mem_of_getElem? (i := 973) rfl
set_option maxRecDepth 20000 in
theorem gl_625 : Cond.methodLink RX11 43 yX11_isIn ∈ lw_tbl := by decide +kernel
set_option maxRecDepth 20000 in
theorem gl_626 : Cond.static yX11_isIn ∈ lw_tbl := by decide +kernel
set_option maxRecDepth 20000 in
theorem gl_627 : Cond.code yX11_isCell cX11_isCell 3 (some .boolean) ∈ lw_tbl := List.mem_of_getElem? (i := 984) rfl
set_option maxRecDepth 20000 in
theorem gl_628 : Cond.code yX11_of cX11_of 4 (some .int) ∈ lw_tbl := List.mem_of_getElem? (i := 988) rfl
set_option maxRecDepth 20000 in
theorem gl_629 : Cond.code yX11_sets cX11_sets 5 none ∈ lw_tbl := List.mem_of_getElem? (i := 1000) rfl
set_option maxRecDepth 20000 in
theorem gl_630 : Cond.code yX11_isSea cX11_isSea 3 (some .boolean) ∈ lw_tbl := List.mem_of_getElem? (i := 1008) rfl
set_option maxRecDepth 20000 in
theorem gl_631 : Cond.methodLink RX11 47 yX11_isCell ∈ lw_tbl := by decide +kernel
set_option maxRecDepth 20000 in
theorem gl_632 : Cond.instanceMethod yX11_isCell ∈ lw_tbl := by decide +kernel
set_option maxRecDepth 20000 in
theorem gl_633 : Cond.selects RX11 yX11_isCell yX11_isCell ∈ lw_tbl := by decide +kernel
set_option maxRecDepth 20000 in
theorem gl_634 : Cond.methodLink RX11 51 yX11_of ∈ lw_tbl := by decide +kernel
set_option maxRecDepth 20000 in
theorem gl_635 : Cond.instanceMethod yX11_of ∈ lw_tbl := by decide +kernel
set_option maxRecDepth 20000 in
theorem gl_636 : Cond.selects RX11 yX11_of yX11_of ∈ lw_tbl := by decide +kernel
set_option maxRecDepth 20000 in
theorem gl_637 : Cond.code yX11_its cX11_its 3 (some .int) ∈ lw_tbl := List.mem_of_getElem? (i := 996) rfl
set_option maxRecDepth 20000 in
theorem gl_638 : Cond.code yX11_ships cX11_ships 4 none ∈ lw_tbl := List.mem_of_getElem? (i := 1020) rfl
set_option maxRecDepth 20000 in
theorem gl_639 : Cond.code yX11_shipAt cX11_shipAt 4 (some .int) ∈ lw_tbl := List.mem_of_getElem? (i := 992) rfl
set_option maxRecDepth 20000 in
theorem gl_640 : Cond.methodLink RX11 55 yX11_its ∈ lw_tbl := by decide +kernel
set_option maxRecDepth 20000 in
theorem gl_641 : Cond.instanceMethod yX11_its ∈ lw_tbl := by decide +kernel
set_option maxRecDepth 20000 in
theorem gl_642 : Cond.selects RX11 yX11_its yX11_its ∈ lw_tbl := by decide +kernel
set_option maxRecDepth 20000 in
theorem gl_643 : Cond.methodLink RX11 59 yX11_shipAt ∈ lw_tbl := by decide +kernel
set_option maxRecDepth 20000 in
theorem gl_644 : Cond.instanceMethod yX11_shipAt ∈ lw_tbl := by decide +kernel
set_option maxRecDepth 20000 in
theorem gl_645 : Cond.selects RX11 yX11_shipAt yX11_shipAt ∈ lw_tbl := by decide +kernel
set_option maxRecDepth 20000 in
theorem gl_646 : Cond.methodLink RX11 62 yX11_sets ∈ lw_tbl := by decide +kernel
set_option maxRecDepth 20000 in
theorem gl_647 : Cond.instanceMethod yX11_sets ∈ lw_tbl := by decide +kernel
set_option maxRecDepth 20000 in
theorem gl_648 : Cond.selects RX11 yX11_sets yX11_sets ∈ lw_tbl := by decide +kernel
set_option maxRecDepth 20000 in
theorem gl_649 : Cond.code yX11_land cX11_land 5 (some .boolean) ∈ lw_tbl := List.mem_of_getElem? (i := 980) rfl
set_option maxRecDepth 20000 in
theorem gl_650 : Cond.code yX11_ice cX11_ice 6 (some .boolean) ∈ lw_tbl := List.mem_of_getElem? (i := 1004) rfl
set_option maxRecDepth 20000 in
theorem gl_651 : Cond.methodLink RX11 66 yX11_isSea ∈ lw_tbl := by decide +kernel
set_option maxRecDepth 20000 in
theorem gl_652 : Cond.instanceMethod yX11_isSea ∈ lw_tbl := by decide +kernel
set_option maxRecDepth 20000 in
theorem gl_653 : Cond.selects RX11 yX11_isSea yX11_isSea ∈ lw_tbl := by decide +kernel
set_option maxRecDepth 20000 in
theorem gl_654 : Cond.code yX11_weather cX11_weather 7 (some .boolean) ∈ lw_tbl := List.mem_of_getElem? (i := 1012) rfl
set_option maxRecDepth 20000 in
theorem gl_655 : Cond.methodLink RX11 69 yX11_ships ∈ lw_tbl := by decide +kernel
set_option maxRecDepth 20000 in
theorem gl_656 : Cond.instanceMethod yX11_ships ∈ lw_tbl := by decide +kernel
set_option maxRecDepth 20000 in
theorem gl_657 : Cond.selects RX11 yX11_ships yX11_ships ∈ lw_tbl := by decide +kernel
set_option maxRecDepth 20000 in
theorem gl_658 : Cond.code yX11_ship cX11_ship 7 (some .int) ∈ lw_tbl := List.mem_of_getElem? (i := 1016) rfl
set_option maxRecDepth 20000 in
theorem gl_659 : Cond.code yX11_isShip cX11_isShip 2 (some .boolean) ∈ lw_tbl := List.mem_of_getElem? (i := 1036) rfl
set_option maxRecDepth 20000 in
theorem gl_660 : Cond.code yX11_feed cX11_feed 8 (some .int) ∈ lw_tbl := List.mem_of_getElem? (i := 1024) rfl
set_option maxRecDepth 20000 in
theorem gl_661 : Cond.code yX11_end cX11_end 2 (some .int) ∈ lw_tbl := List.mem_of_getElem? (i := 1028) rfl
set_option maxRecDepth 20000 in
theorem gl_662 : Cond.code yX11_byteAt cX11_byteAt 2 (some .int) ∈ lw_tbl := List.mem_of_getElem? (i := 1044) rfl
set_option maxRecDepth 20000 in
theorem gl_663 : Cond.fieldLink RX11 73 "IcePilotsModel" "size" "I" ∈ lw_tbl := by decide +kernel
set_option maxRecDepth 20000 in
theorem gl_664 : Cond.code yX11_isLetter cX11_isLetter 1 (some .boolean) ∈ lw_tbl := List.mem_of_getElem? (i := 1047) rfl
set_option maxRecDepth 20000 in
theorem gl_665 : Cond.code yX11_isDigit cX11_isDigit 1 (some .boolean) ∈ lw_tbl := List.mem_of_getElem? (i := 1068) rfl
set_option maxRecDepth 20000 in
theorem gl_666 : Cond.code yX11_two cX11_two 2 (some .long) ∈ lw_tbl := List.mem_of_getElem? (i := 1058) rfl
set_option maxRecDepth 20000 in
theorem gl_667 : Cond.constantLong RX11 77 (32) ∈ lw_tbl := by decide +kernel
set_option maxRecDepth 20000 in
theorem gl_668 : Cond.constantLong RX11 79 (96) ∈ lw_tbl := by decide +kernel
set_option maxRecDepth 20000 in
theorem gl_669 : Cond.code yX11_four cX11_four 4 (some .long) ∈ lw_tbl := List.mem_of_getElem? (i := 1055) rfl
set_option maxRecDepth 20000 in
theorem gl_670 : Cond.constantLong RX11 85 (1024) ∈ lw_tbl := by decide +kernel
set_option maxRecDepth 20000 in
theorem gl_671 : Cond.methodLink RX11 81 yX11_two ∈ lw_tbl := by decide +kernel
set_option maxRecDepth 20000 in
theorem gl_672 : Cond.static yX11_two ∈ lw_tbl := by decide +kernel
set_option maxRecDepth 20000 in
theorem gl_673 : Cond.code yX11_wordOf cX11_wordOf 2 (some .int) ∈ lw_tbl := List.mem_of_getElem? (i := 1052) rfl
set_option maxRecDepth 20000 in
theorem gl_674 : Cond.constantLong RX11 91 (108) ∈ lw_tbl := by decide +kernel
set_option maxRecDepth 20000 in
theorem gl_675 : Cond.constantLong RX11 93 (101) ∈ lw_tbl := by decide +kernel
set_option maxRecDepth 20000 in
theorem gl_676 : Cond.constantLong RX11 95 (119) ∈ lw_tbl := by decide +kernel
set_option maxRecDepth 20000 in
theorem gl_677 : Cond.constantLong RX11 97 (104) ∈ lw_tbl := by decide +kernel
set_option maxRecDepth 20000 in
theorem gl_678 : Cond.constantLong RX11 99 (116) ∈ lw_tbl := by decide +kernel
set_option maxRecDepth 20000 in
theorem gl_679 : Cond.constantLong RX11 101 (100) ∈ lw_tbl := by decide +kernel
set_option maxRecDepth 20000 in
theorem gl_680 : Cond.methodLink RX11 87 yX11_four ∈ lw_tbl := by decide +kernel
set_option maxRecDepth 20000 in
theorem gl_681 : Cond.static yX11_four ∈ lw_tbl := by decide +kernel
set_option maxRecDepth 20000 in
theorem gl_682 : Cond.code yX11_isSignByte cX11_isSignByte 1 (some .boolean) ∈ lw_tbl := List.mem_of_getElem? (i := 1071) rfl
set_option maxRecDepth 20000 in
theorem gl_683 : Cond.fieldLink RX11 103 "IcePilotsModel" "next" "I" ∈ lw_tbl := by decide +kernel
set_option maxRecDepth 20000 in
theorem gl_684 : Cond.fieldLink RX11 110 "IcePilotsModel" "where" "I" ∈ lw_tbl := by decide +kernel
set_option maxRecDepth 20000 in
theorem gl_685 : Cond.fieldLink RX11 113 "IcePilotsModel" "token" "I" ∈ lw_tbl := by decide +kernel
set_option maxRecDepth 20000 in
theorem gl_686 : Cond.fieldLink RX11 124 "IcePilotsModel" "word" "I" ∈ lw_tbl := by decide +kernel
set_option maxRecDepth 20000 in
theorem gl_687 : Cond.fieldLink RX11 130 "IcePilotsModel" "number" "I" ∈ lw_tbl := by decide +kernel
set_option maxRecDepth 20000 in
theorem gl_688 : Cond.fieldLink RX11 133 "IcePilotsModel" "sign" "I" ∈ lw_tbl := by decide +kernel
set_option maxRecDepth 20000 in
theorem gl_689 : Cond.methodLink RX11 106 yX11_byteAt ∈ lw_tbl := by decide +kernel
set_option maxRecDepth 20000 in
theorem gl_690 : Cond.instanceMethod yX11_byteAt ∈ lw_tbl := by decide +kernel
set_option maxRecDepth 20000 in
theorem gl_691 : Cond.selects RX11 yX11_byteAt yX11_byteAt ∈ lw_tbl := by decide +kernel
set_option maxRecDepth 20000 in
theorem gl_692 : Cond.methodLink RX11 116 yX11_isLetter ∈ lw_tbl := by decide +kernel
set_option maxRecDepth 20000 in
theorem gl_693 : Cond.static yX11_isLetter ∈ lw_tbl := by decide +kernel
set_option maxRecDepth 20000 in
theorem gl_694 : Cond.methodLink RX11 120 yX11_wordOf ∈ lw_tbl := by decide +kernel
set_option maxRecDepth 20000 in
theorem gl_695 : Cond.static yX11_wordOf ∈ lw_tbl := by decide +kernel
set_option maxRecDepth 20000 in
theorem gl_696 : Cond.methodLink RX11 127 yX11_isDigit ∈ lw_tbl := by decide +kernel
set_option maxRecDepth 20000 in
theorem gl_697 : Cond.static yX11_isDigit ∈ lw_tbl := by decide +kernel
set_option maxRecDepth 20000 in
theorem gl_698 : Cond.methodLink RX11 136 yX11_isSignByte ∈ lw_tbl := by decide +kernel
set_option maxRecDepth 20000 in
theorem gl_699 : Cond.static yX11_isSignByte ∈ lw_tbl := by decide +kernel
set_option maxRecDepth 20000 in
theorem gl_700 : Cond.code yX11_advance cX11_advance 4 none ∈ lw_tbl := List.mem_of_getElem? (i := 1040) rfl
set_option maxRecDepth 20000 in
theorem gl_701 : Cond.code yX11_stops cX11_stops 1 none ∈ lw_tbl := List.mem_of_getElem? (i := 1091) rfl
set_option maxRecDepth 20000 in
theorem gl_702 : Cond.fieldLink RX11 139 "IcePilotsModel" "wrong" "Z" ∈ lw_tbl := by decide +kernel
set_option maxRecDepth 20000 in
theorem gl_703 : Cond.code yX11_isWord cX11_isWord 2 (some .boolean) ∈ lw_tbl := List.mem_of_getElem? (i := 1083) rfl
set_option maxRecDepth 20000 in
theorem gl_704 : Cond.code yX11_isSign cX11_isSign 2 (some .boolean) ∈ lw_tbl := List.mem_of_getElem? (i := 1107) rfl
set_option maxRecDepth 20000 in
theorem gl_705 : Cond.methodLink RX11 143 yX11_isWord ∈ lw_tbl := by decide +kernel
set_option maxRecDepth 20000 in
theorem gl_706 : Cond.instanceMethod yX11_isWord ∈ lw_tbl := by decide +kernel
set_option maxRecDepth 20000 in
theorem gl_707 : Cond.selects RX11 yX11_isWord yX11_isWord ∈ lw_tbl := by decide +kernel
set_option maxRecDepth 20000 in
theorem gl_708 : Cond.methodLink RX11 146 yX11_advance ∈ lw_tbl := by decide +kernel
set_option maxRecDepth 20000 in
theorem gl_709 : Cond.instanceMethod yX11_advance ∈ lw_tbl := by decide +kernel
set_option maxRecDepth 20000 in
theorem gl_710 : Cond.selects RX11 yX11_advance yX11_advance ∈ lw_tbl := by decide +kernel
set_option maxRecDepth 20000 in
theorem gl_711 : Cond.code yX11_takesWord cX11_takesWord 2 (some .boolean) ∈ lw_tbl := List.mem_of_getElem? (i := 1079) rfl
set_option maxRecDepth 20000 in
theorem gl_712 : Cond.methodLink RX11 149 yX11_isSign ∈ lw_tbl := by decide +kernel
set_option maxRecDepth 20000 in
theorem gl_713 : Cond.instanceMethod yX11_isSign ∈ lw_tbl := by decide +kernel
set_option maxRecDepth 20000 in
theorem gl_714 : Cond.selects RX11 yX11_isSign yX11_isSign ∈ lw_tbl := by decide +kernel
set_option maxRecDepth 20000 in
theorem gl_715 : Cond.methodLink RX11 152 yX11_stops ∈ lw_tbl := by decide +kernel
set_option maxRecDepth 20000 in
theorem gl_716 : Cond.instanceMethod yX11_stops ∈ lw_tbl := by decide +kernel
set_option maxRecDepth 20000 in
theorem gl_717 : Cond.selects RX11 yX11_stops yX11_stops ∈ lw_tbl := by decide +kernel
set_option maxRecDepth 20000 in
theorem gl_718 : Cond.code yX11_must cX11_must 2 none ∈ lw_tbl := List.mem_of_getElem? (i := 1111) rfl
set_option maxRecDepth 20000 in
theorem gl_719 : Cond.code yX11_numbered cX11_numbered 2 (some .int) ∈ lw_tbl := List.mem_of_getElem? (i := 1115) rfl
set_option maxRecDepth 20000 in
theorem gl_720 : Cond.code yX11_emit cX11_emit 4 none ∈ lw_tbl := List.mem_of_getElem? (i := 1119) rfl
set_option maxRecDepth 20000 in
theorem gl_721 : Cond.fieldLink RX11 155 "IcePilotsModel" "acts" "I" ∈ lw_tbl := by decide +kernel
set_option maxRecDepth 20000 in
theorem gl_722 : Cond.methodLink RX11 170 yX11_notOf ∈ lw_tbl := by decide +kernel
set_option maxRecDepth 20000 in
theorem gl_723 : Cond.instanceMethod yX11_notOf ∈ lw_tbl := by decide +kernel
set_option maxRecDepth 20000 in
theorem gl_724 : Cond.selects RX11 yX11_notOf yX11_notOf ∈ lw_tbl := by decide +kernel
set_option maxRecDepth 20000 in
theorem gl_725 : Cond.methodLink RX11 164 yX11_takesWord ∈ lw_tbl := by decide +kernel
set_option maxRecDepth 20000 in
theorem gl_726 : Cond.instanceMethod yX11_takesWord ∈ lw_tbl := by decide +kernel
set_option maxRecDepth 20000 in
theorem gl_727 : Cond.selects RX11 yX11_takesWord yX11_takesWord ∈ lw_tbl := by decide +kernel
set_option maxRecDepth 20000 in
theorem gl_728 : Cond.methodLink RX11 167 yX11_emit ∈ lw_tbl := by decide +kernel
set_option maxRecDepth 20000 in
theorem gl_729 : Cond.instanceMethod yX11_emit ∈ lw_tbl := by decide +kernel
set_option maxRecDepth 20000 in
theorem gl_730 : Cond.selects RX11 yX11_emit yX11_emit ∈ lw_tbl := by decide +kernel
set_option maxRecDepth 20000 in
theorem gl_731 : Cond.code yX11_anyOf cX11_anyOf 1 none ∈ lw_tbl := List.mem_of_getElem? (i := 1087) rfl
set_option maxRecDepth 20000 in
theorem gl_732 : Cond.fieldLink RX11 158 "IcePilotsModel" "open" "I" ∈ lw_tbl := by decide +kernel
set_option maxRecDepth 20000 in
theorem gl_733 : Cond.methodLink RX11 161 yX11_allOf ∈ lw_tbl := by decide +kernel
set_option maxRecDepth 20000 in
theorem gl_734 : Cond.instanceMethod yX11_allOf ∈ lw_tbl := by decide +kernel
set_option maxRecDepth 20000 in
theorem gl_735 : Cond.selects RX11 yX11_allOf yX11_allOf ∈ lw_tbl := by decide +kernel
set_option maxRecDepth 20000 in
theorem gl_736 : Cond.code yX11_atom cX11_atom 3 none ∈ lw_tbl := List.mem_of_getElem? (i := 1103) rfl
set_option maxRecDepth 20000 in
theorem gl_737 : Cond.methodLink RX11 176 yX11_anyOf ∈ lw_tbl := by decide +kernel
set_option maxRecDepth 20000 in
theorem gl_738 : Cond.instanceMethod yX11_anyOf ∈ lw_tbl := by decide +kernel
set_option maxRecDepth 20000 in
theorem gl_739 : Cond.selects RX11 yX11_anyOf yX11_anyOf ∈ lw_tbl := by decide +kernel
set_option maxRecDepth 20000 in
theorem gl_740 : Cond.methodLink RX11 179 yX11_must ∈ lw_tbl := by decide +kernel
set_option maxRecDepth 20000 in
theorem gl_741 : Cond.instanceMethod yX11_must ∈ lw_tbl := by decide +kernel
set_option maxRecDepth 20000 in
theorem gl_742 : Cond.selects RX11 yX11_must yX11_must ∈ lw_tbl := by decide +kernel
set_option maxRecDepth 20000 in
theorem gl_743 : Cond.methodLink RX11 183 yX11_numbered ∈ lw_tbl := by decide +kernel
set_option maxRecDepth 20000 in
theorem gl_744 : Cond.instanceMethod yX11_numbered ∈ lw_tbl := by decide +kernel
set_option maxRecDepth 20000 in
theorem gl_745 : Cond.selects RX11 yX11_numbered yX11_numbered ∈ lw_tbl := by decide +kernel
set_option maxRecDepth 20000 in
theorem gl_746 : Cond.code yX11_notOf cX11_notOf 2 none ∈ lw_tbl := List.mem_of_getElem? (i := 1099) rfl
set_option maxRecDepth 20000 in
theorem gl_747 : Cond.methodLink RX11 173 yX11_atom ∈ lw_tbl := by decide +kernel
set_option maxRecDepth 20000 in
theorem gl_748 : Cond.instanceMethod yX11_atom ∈ lw_tbl := by decide +kernel
set_option maxRecDepth 20000 in
theorem gl_749 : Cond.selects RX11 yX11_atom yX11_atom ∈ lw_tbl := by decide +kernel
set_option maxRecDepth 20000 in
theorem gl_750 : Cond.code yX11_allOf cX11_allOf 1 none ∈ lw_tbl := List.mem_of_getElem? (i := 1095) rfl
set_option maxRecDepth 20000 in
theorem gl_751 : Cond.fieldLink RX11 187 "IcePilotsModel" "lines" "I" ∈ lw_tbl := by decide +kernel
set_option maxRecDepth 20000 in
theorem gl_752 : Cond.code yX11_aLine cX11_aLine 6 none ∈ lw_tbl := List.mem_of_getElem? (i := 1075) rfl
set_option maxRecDepth 20000 in
theorem gl_753 : Cond.methodLink RX11 190 yX11_isShip ∈ lw_tbl := by decide +kernel
set_option maxRecDepth 20000 in
theorem gl_754 : Cond.instanceMethod yX11_isShip ∈ lw_tbl := by decide +kernel
set_option maxRecDepth 20000 in
theorem gl_755 : Cond.selects RX11 yX11_isShip yX11_isShip ∈ lw_tbl := by decide +kernel
set_option maxRecDepth 20000 in
theorem gl_756 : Cond.methodLink RX11 193 yX11_aLine ∈ lw_tbl := by decide +kernel
set_option maxRecDepth 20000 in
theorem gl_757 : Cond.instanceMethod yX11_aLine ∈ lw_tbl := by decide +kernel
set_option maxRecDepth 20000 in
theorem gl_758 : Cond.selects RX11 yX11_aLine yX11_aLine ∈ lw_tbl := by decide +kernel
set_option maxRecDepth 20000 in
theorem gl_759 : Cond.code yX11_orders cX11_orders 3 (some .int) ∈ lw_tbl := List.mem_of_getElem? (i := 1032) rfl
set_option maxRecDepth 20000 in
theorem gl_760 : Cond.code yX11_fault cX11_fault 2 (some .int) ∈ lw_tbl := List.mem_of_getElem? (i := 1123) rfl
set_option maxRecDepth 20000 in
theorem gl_761 : Cond.code yX11_call cX11_call 3 (some .boolean) ∈ lw_tbl := List.mem_of_getElem? (i := 1127) rfl
set_option maxRecDepth 20000 in
theorem gl_762 : Cond.code yX11_rowTo cX11_rowTo 1 (some .int) ∈ lw_tbl := List.mem_of_getElem? (i := 1166) rfl
set_option maxRecDepth 20000 in
theorem gl_763 : Cond.code yX11_columnTo cX11_columnTo 1 (some .int) ∈ lw_tbl := List.mem_of_getElem? (i := 1169) rfl
set_option maxRecDepth 20000 in
theorem gl_764 : Cond.code yX11_burden cX11_burden 3 (some .int) ∈ lw_tbl := List.mem_of_getElem? (i := 1159) rfl
set_option maxRecDepth 20000 in
theorem gl_765 : Cond.code yX11_beside cX11_beside 3 (some .int) ∈ lw_tbl := List.mem_of_getElem? (i := 1163) rfl
set_option maxRecDepth 20000 in
theorem gl_766 : Cond.methodLink RX11 196 yX11_rowTo ∈ lw_tbl := by decide +kernel
set_option maxRecDepth 20000 in
theorem gl_767 : Cond.static yX11_rowTo ∈ lw_tbl := by decide +kernel
set_option maxRecDepth 20000 in
theorem gl_768 : Cond.methodLink RX11 199 yX11_columnTo ∈ lw_tbl := by decide +kernel
set_option maxRecDepth 20000 in
theorem gl_769 : Cond.static yX11_columnTo ∈ lw_tbl := by decide +kernel
set_option maxRecDepth 20000 in
theorem gl_770 : Cond.methodLink RX11 202 yX11_burden ∈ lw_tbl := by decide +kernel
set_option maxRecDepth 20000 in
theorem gl_771 : Cond.instanceMethod yX11_burden ∈ lw_tbl := by decide +kernel
set_option maxRecDepth 20000 in
theorem gl_772 : Cond.selects RX11 yX11_burden yX11_burden ∈ lw_tbl := by decide +kernel
set_option maxRecDepth 20000 in
theorem gl_773 : Cond.methodLink RX11 205 yX11_beside ∈ lw_tbl := by decide +kernel
set_option maxRecDepth 20000 in
theorem gl_774 : Cond.instanceMethod yX11_beside ∈ lw_tbl := by decide +kernel
set_option maxRecDepth 20000 in
theorem gl_775 : Cond.selects RX11 yX11_beside yX11_beside ∈ lw_tbl := by decide +kernel
set_option maxRecDepth 20000 in
theorem gl_776 : Cond.code yX11_isHeld cX11_isHeld 5 (some .boolean) ∈ lw_tbl := List.mem_of_getElem? (i := 1155) rfl
set_option maxRecDepth 20000 in
theorem gl_777 : Cond.code yX11_there cX11_there 5 (some .int) ∈ lw_tbl := List.mem_of_getElem? (i := 1173) rfl
set_option maxRecDepth 20000 in
theorem gl_778 : Cond.methodLink RX11 208 yX11_isHeld ∈ lw_tbl := by decide +kernel
set_option maxRecDepth 20000 in
theorem gl_779 : Cond.instanceMethod yX11_isHeld ∈ lw_tbl := by decide +kernel
set_option maxRecDepth 20000 in
theorem gl_780 : Cond.selects RX11 yX11_isHeld yX11_isHeld ∈ lw_tbl := by decide +kernel
set_option maxRecDepth 20000 in
theorem gl_781 : Cond.methodLink RX11 211 yX11_there ∈ lw_tbl := by decide +kernel
set_option maxRecDepth 20000 in
theorem gl_782 : Cond.instanceMethod yX11_there ∈ lw_tbl := by decide +kernel
set_option maxRecDepth 20000 in
theorem gl_783 : Cond.selects RX11 yX11_there yX11_there ∈ lw_tbl := by decide +kernel
set_option maxRecDepth 20000 in
theorem gl_784 : Cond.code yX11_asked cX11_asked 5 (some .int) ∈ lw_tbl := List.mem_of_getElem? (i := 1151) rfl
set_option maxRecDepth 20000 in
theorem gl_785 : Cond.methodLink RX11 214 yX11_asked ∈ lw_tbl := by decide +kernel
set_option maxRecDepth 20000 in
theorem gl_786 : Cond.instanceMethod yX11_asked ∈ lw_tbl := by decide +kernel
set_option maxRecDepth 20000 in
theorem gl_787 : Cond.selects RX11 yX11_asked yX11_asked ∈ lw_tbl := by decide +kernel
set_option maxRecDepth 20000 in
theorem gl_788 : Cond.code yX11_holds cX11_holds 10 (some .boolean) ∈ lw_tbl := List.mem_of_getElem? (i := 1147) rfl
set_option maxRecDepth 20000 in
theorem gl_789 : Cond.code yX11_goes cX11_goes 5 (some .boolean) ∈ lw_tbl := List.mem_of_getElem? (i := 1185) rfl
set_option maxRecDepth 20000 in
theorem gl_790 : Cond.code yX11_cuts cX11_cuts 4 (some .boolean) ∈ lw_tbl := List.mem_of_getElem? (i := 1181) rfl
set_option maxRecDepth 20000 in
theorem gl_791 : Cond.methodLink RX11 217 yX11_cuts ∈ lw_tbl := by decide +kernel
set_option maxRecDepth 20000 in
theorem gl_792 : Cond.instanceMethod yX11_cuts ∈ lw_tbl := by decide +kernel
set_option maxRecDepth 20000 in
theorem gl_793 : Cond.selects RX11 yX11_cuts yX11_cuts ∈ lw_tbl := by decide +kernel
set_option maxRecDepth 20000 in
theorem gl_794 : Cond.methodLink RX11 220 yX11_goes ∈ lw_tbl := by decide +kernel
set_option maxRecDepth 20000 in
theorem gl_795 : Cond.instanceMethod yX11_goes ∈ lw_tbl := by decide +kernel
set_option maxRecDepth 20000 in
theorem gl_796 : Cond.selects RX11 yX11_goes yX11_goes ∈ lw_tbl := by decide +kernel
set_option maxRecDepth 20000 in
theorem gl_797 : Cond.code yX11_does cX11_does 5 (some .boolean) ∈ lw_tbl := List.mem_of_getElem? (i := 1177) rfl
set_option maxRecDepth 20000 in
theorem gl_798 : Cond.methodLink RX11 223 yX11_holds ∈ lw_tbl := by decide +kernel
set_option maxRecDepth 20000 in
theorem gl_799 : Cond.instanceMethod yX11_holds ∈ lw_tbl := by decide +kernel

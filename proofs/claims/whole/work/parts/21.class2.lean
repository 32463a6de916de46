theorem w_750 : Cond.constantLong RX9 68 (64) ∈ gw := gw_t4 30 rfl rfl
theorem w_735 : Cond.constantLong RX9 25 (8) ∈ gw := gw_t4 15 rfl rfl
theorem n_23 : Cond.fieldLinkNest RX9 70 "HartBoard$Controls" "status" "J" "HartBoard" ∈ nl := List.mem_append_left _ (List.mem_of_getElem? (i := 23) rfl)
theorem w_751 : Cond.constantLong RX9 73 (524288) ∈ gw := gw_t4 31 rfl rfl
theorem w_752 : Cond.constantLong RX9 75 (2) ∈ gw := gw_t4 32 rfl rfl
theorem w_746 : Cond.constantLong RX9 44 (10) ∈ gw := gw_t4 26 rfl rfl
theorem w_753 : Cond.constantLong RX9 77 (128) ∈ gw := gw_t4 33 rfl rfl
theorem w_757 : Cond.constantLong RX9 79 (16) ∈ gw := gw_t4 37 rfl rfl
theorem w_758 : Cond.constantLong RX9 81 (262144) ∈ gw := gw_t4 38 rfl rfl
theorem n_27 : Cond.fieldLinkNest RX9 15 "HartBoard$Controls" "satp" "J" "HartBoard" ∈ nl := List.mem_append_left _ (List.mem_of_getElem? (i := 27) rfl)
theorem w_730 : Cond.methodLink RX9 9 yX9_pageFault ∈ gw := gw_t4 10 rfl rfl
theorem w_731 : Cond.static yX9_pageFault ∈ gw := gw_t4 11 rfl rfl
theorem w_18 : Cond.initialized RX9 ∈ gw := gw_t1 18 rfl rfl
theorem w_732 : Cond.code yX9_pageFault cX9_pageFault 1 (some .int) ∈ gw := gw_t4 12 rfl rfl
theorem w_734 : Cond.constantLong RX9 23 (511) ∈ gw := gw_t4 14 rfl rfl
theorem w_736 : Cond.methodLink RX9 27 yX10_place ∈ gw := gw_t4 16 rfl rfl
theorem w_346 : Cond.instanceMethod yX10_place ∈ gw := gw_t2 106 rfl rfl
theorem w_347 : Cond.selects RX10 yX10_place yX10_place ∈ gw := gw_t2 107 rfl rfl
theorem w_348 : Cond.code yX10_place cX10_place 6 (some .int) ∈ gw := gw_t2 108 rfl rfl
theorem w_740 : Cond.methodLink RX9 36 yX10_read ∈ gw := gw_t4 20 rfl rfl
theorem w_525 : Cond.instanceMethod yX10_read ∈ gw := gw_t3 45 rfl rfl
theorem w_526 : Cond.selects RX10 yX10_read yX10_read ∈ gw := gw_t3 46 rfl rfl
theorem w_527 : Cond.code yX10_read cX10_read 4 (some .long) ∈ gw := gw_t3 47 rfl rfl
theorem w_741 : Cond.methodLink RX9 40 yX9_broken ∈ gw := gw_t4 21 rfl rfl
theorem w_742 : Cond.static yX9_broken ∈ gw := gw_t4 22 rfl rfl
theorem w_743 : Cond.code yX9_broken cX9_broken 2 (some .boolean) ∈ gw := gw_t4 23 rfl rfl
theorem w_766 : Cond.constantLong RX9 62 (208) ∈ gw := gw_t4 46 rfl rfl
theorem w_747 : Cond.methodLink RX9 46 yX9_opens ∈ gw := gw_t4 27 rfl rfl
theorem w_748 : Cond.static yX9_opens ∈ gw := gw_t4 28 rfl rfl
theorem w_749 : Cond.code yX9_opens cX9_opens 5 (some .boolean) ∈ gw := gw_t4 29 rfl rfl
theorem w_759 : Cond.methodLink RX9 54 yX9_aligned ∈ gw := gw_t4 39 rfl rfl
theorem w_760 : Cond.static yX9_aligned ∈ gw := gw_t4 40 rfl rfl
theorem w_761 : Cond.code yX9_aligned cX9_aligned 3 (some .boolean) ∈ gw := gw_t4 41 rfl rfl
theorem w_762 : Cond.methodLink RX9 58 yX9_joined ∈ gw := gw_t4 42 rfl rfl
theorem w_763 : Cond.static yX9_joined ∈ gw := gw_t4 43 rfl rfl
theorem w_764 : Cond.code yX9_joined cX9_joined 7 (some .long) ∈ gw := gw_t4 44 rfl rfl
theorem w_754 : Cond.methodLink RX9 50 yX9_admits ∈ gw := gw_t4 34 rfl rfl
theorem w_755 : Cond.static yX9_admits ∈ gw := gw_t4 35 rfl rfl
theorem w_756 : Cond.code yX9_admits cX9_admits 6 (some .boolean) ∈ gw := gw_t4 36 rfl rfl
theorem w_737 : Cond.methodLink RX9 33 yX9_accessFault ∈ gw := gw_t4 17 rfl rfl
theorem w_738 : Cond.static yX9_accessFault ∈ gw := gw_t4 18 rfl rfl
theorem w_739 : Cond.code yX9_accessFault cX9_accessFault 1 (some .int) ∈ gw := gw_t4 19 rfl rfl
theorem w_135 : Cond.fieldLink RX1 35 "HartBoard$Bus" "failed" "Z" ∈ gw := gw_t1 135 rfl rfl
theorem w_120 : Cond.fieldLink RX1 31 "HartBoard$Bus" "ram" "LHartBoard$Ram;" ∈ gw := gw_t1 120 rfl rfl
theorem w_869 : Cond.methodLink RX1 39 yX10_place ∈ gw := gw_t4 149 rfl rfl
theorem w_871 : Cond.constantLong RX1 49 (-8) ∈ gw := gw_t4 151 rfl rfl
theorem w_911 : Cond.constantLong RX1 74 (33603576) ∈ gw := gw_t4 191 rfl rfl
theorem w_133 : Cond.fieldLink RX1 76 "HartBoard$Bus" "time" "J" ∈ gw := gw_t1 133 rfl rfl
theorem w_907 : Cond.methodLink RX1 70 yX1_part ∈ gw := gw_t4 187 rfl rfl
theorem w_908 : Cond.static yX1_part ∈ gw := gw_t4 188 rfl rfl
theorem w_3 : Cond.initialized RX1 ∈ gw := gw_t1 3 rfl rfl
theorem w_909 : Cond.code yX1_part cX1_part 5 (some .long) ∈ gw := gw_t4 189 rfl rfl
theorem w_906 : Cond.constantLong RX1 68 (33570816) ∈ gw := gw_t4 186 rfl rfl
theorem w_130 : Cond.fieldLink RX1 27 "HartBoard$Bus" "compare" "J" ∈ gw := gw_t1 130 rfl rfl
theorem w_905 : Cond.constantLong RX1 63 (33554432) ∈ gw := gw_t4 185 rfl rfl
theorem w_128 : Cond.fieldLink RX1 65 "HartBoard$Bus" "soft" "J" ∈ gw := gw_t1 128 rfl rfl
theorem w_883 : Cond.constantLong RX1 56 (201326592) ∈ gw := gw_t4 163 rfl rfl
theorem w_884 : Cond.methodLink RX1 58 yX3_has ∈ gw := gw_t4 164 rfl rfl
theorem w_885 : Cond.static yX3_has ∈ gw := gw_t4 165 rfl rfl
theorem w_886 : Cond.code yX3_has cX3_has 2 (some .boolean) ∈ gw := gw_t4 166 rfl rfl
theorem w_123 : Cond.fieldLink RX1 12 "HartBoard$Bus" "controller" "LHartBoard$Controller;" ∈ gw := gw_t1 123 rfl rfl
theorem w_897 : Cond.methodLink RX1 62 yX3_read ∈ gw := gw_t4 177 rfl rfl
theorem w_898 : Cond.instanceMethod yX3_read ∈ gw := gw_t4 178 rfl rfl
theorem w_899 : Cond.selects RX3 yX3_read yX3_read ∈ gw := gw_t4 179 rfl rfl
theorem w_900 : Cond.code yX3_read cX3_read 2 (some .long) ∈ gw := gw_t4 180 rfl rfl
theorem w_872 : Cond.constantLong RX1 51 (268435456) ∈ gw := gw_t4 152 rfl rfl
theorem w_126 : Cond.fieldLink RX1 21 "HartBoard$Bus" "line" "LHartBoard$Line;" ∈ gw := gw_t1 126 rfl rfl
theorem w_873 : Cond.methodLink RX1 53 yX8_read ∈ gw := gw_t4 153 rfl rfl
theorem w_874 : Cond.instanceMethod yX8_read ∈ gw := gw_t4 154 rfl rfl
theorem w_875 : Cond.selects RX8 yX8_read yX8_read ∈ gw := gw_t4 155 rfl rfl
theorem w_6 : Cond.initialized RX8 ∈ gw := gw_t1 6 rfl rfl
theorem w_876 : Cond.code yX8_read cX8_read 2 (some .long) ∈ gw := gw_t4 156 rfl rfl
theorem w_870 : Cond.methodLink RX1 45 yX10_read ∈ gw := gw_t4 150 rfl rfl
theorem w_137 : Cond.fieldLink RX1 83 "HartBoard$Bus" "reservedAt" "J" ∈ gw := gw_t1 137 rfl rfl
theorem w_138 : Cond.fieldLink RX1 86 "HartBoard$Bus" "reservedSize" "I" ∈ gw := gw_t1 138 rfl rfl
theorem w_484 : Cond.methodLink RX1 103 yX8_high ∈ gw := gw_t3 4 rfl rfl
theorem w_485 : Cond.instanceMethod yX8_high ∈ gw := gw_t3 5 rfl rfl
theorem w_486 : Cond.selects RX8 yX8_high yX8_high ∈ gw := gw_t3 6 rfl rfl
theorem w_487 : Cond.code yX8_high cX8_high 1 (some .boolean) ∈ gw := gw_t3 7 rfl rfl
theorem w_489 : Cond.methodLink RX1 107 yX3_settle ∈ gw := gw_t3 9 rfl rfl
theorem w_490 : Cond.instanceMethod yX3_settle ∈ gw := gw_t3 10 rfl rfl
theorem w_491 : Cond.selects RX3 yX3_settle yX3_settle ∈ gw := gw_t3 11 rfl rfl
theorem w_492 : Cond.code yX3_settle cX3_settle 2 (none) ∈ gw := gw_t3 12 rfl rfl
theorem w_671 : Cond.fieldLink RX6 106 "HartBoard$Hart" "RANKS" "[I" ∈ gw := gw_t3 191 rfl rfl
theorem w_246 : Cond.fieldLink RX6 35 "HartBoard$Hart" "controls" "LHartBoard$Controls;" ∈ gw := gw_t2 6 rfl rfl
theorem n_26 : Cond.fieldLinkNest RX6 82 "HartBoard$Controls" "mie" "J" "HartBoard" ∈ nl := List.mem_append_left _ (List.mem_of_getElem? (i := 26) rfl)
theorem w_661 : Cond.methodLink RX6 85 yX4_pendingInterrupts ∈ gw := gw_t3 181 rfl rfl
theorem n_25 : Cond.fieldLinkNest RX6 89 "HartBoard$Controls" "mideleg" "J" "HartBoard" ∈ nl := List.mem_append_left _ (List.mem_of_getElem? (i := 25) rfl)
theorem w_662 : Cond.constantLong RX6 92 (-1) ∈ gw := gw_t3 182 rfl rfl
theorem w_251 : Cond.fieldLink RX6 21 "HartBoard$Hart" "privilege" "I" ∈ gw := gw_t2 11 rfl rfl
theorem w_668 : Cond.methodLink RX6 100 yX6_foremost ∈ gw := gw_t3 188 rfl rfl
theorem w_669 : Cond.static yX6_foremost ∈ gw := gw_t3 189 rfl rfl
theorem w_9 : Cond.initialized RX6 ∈ gw := gw_t1 9 rfl rfl
theorem w_670 : Cond.code yX6_foremost cX6_foremost 6 (some .int) ∈ gw := gw_t3 190 rfl rfl
theorem w_673 : Cond.constantLong RX6 104 (2) ∈ gw := gw_t3 193 rfl rfl
theorem w_664 : Cond.methodLink RX6 96 yX4_has ∈ gw := gw_t3 184 rfl rfl
theorem w_663 : Cond.constantLong RX6 94 (8) ∈ gw := gw_t3 183 rfl rfl
theorem n_24 : Cond.fieldLinkNest RX6 110 "HartBoard$Controls" "medeleg" "J" "HartBoard" ∈ nl := List.mem_append_left _ (List.mem_of_getElem? (i := 24) rfl)
theorem n_21 : Cond.fieldLinkNest RX6 117 "HartBoard$Controls" "machine" "LHartBoard$Level;" "HartBoard" ∈ nl := List.mem_append_left _ (List.mem_of_getElem? (i := 21) rfl)
theorem w_249 : Cond.fieldLink RX6 17 "HartBoard$Hart" "pc" "J" ∈ gw := gw_t2 9 rfl rfl
theorem n_18 : Cond.fieldLinkNest RX6 120 "HartBoard$Level" "epc" "J" "HartBoard" ∈ nl := List.mem_append_left _ (List.mem_of_getElem? (i := 18) rfl)
theorem n_19 : Cond.fieldLinkNest RX6 129 "HartBoard$Level" "cause" "J" "HartBoard" ∈ nl := List.mem_append_left _ (List.mem_of_getElem? (i := 19) rfl)
theorem n_20 : Cond.fieldLinkNest RX6 131 "HartBoard$Level" "tval" "J" "HartBoard" ∈ nl := List.mem_append_left _ (List.mem_of_getElem? (i := 20) rfl)
theorem w_690 : Cond.methodLink RX6 137 yX4_enterMachine ∈ gw := gw_t3 210 rfl rfl
theorem w_691 : Cond.instanceMethod yX4_enterMachine ∈ gw := gw_t3 211 rfl rfl
theorem w_692 : Cond.selects RX4 yX4_enterMachine yX4_enterMachine ∈ gw := gw_t3 212 rfl rfl
theorem w_693 : Cond.code yX4_enterMachine cX4_enterMachine 2 (none) ∈ gw := gw_t3 213 rfl rfl
theorem n_16 : Cond.fieldLinkNest RX6 140 "HartBoard$Level" "tvec" "J" "HartBoard" ∈ nl := List.mem_append_left _ (List.mem_of_getElem? (i := 16) rfl)
theorem w_695 : Cond.constantLong RX6 143 (-4) ∈ gw := gw_t3 215 rfl rfl
theorem w_245 : Cond.fieldLink RX6 31 "HartBoard$Hart" "bus" "LHartBoard$Bus;" ∈ gw := gw_t2 5 rfl rfl
theorem w_697 : Cond.methodLink RX6 147 yX1_endReservation ∈ gw := gw_t3 217 rfl rfl
theorem w_370 : Cond.instanceMethod yX1_endReservation ∈ gw := gw_t2 130 rfl rfl
theorem w_371 : Cond.selects RX1 yX1_endReservation yX1_endReservation ∈ gw := gw_t2 131 rfl rfl
theorem w_372 : Cond.code yX1_endReservation cX1_endReservation 1 (none) ∈ gw := gw_t2 132 rfl rfl
theorem w_696 : Cond.constantLong RX6 145 (4) ∈ gw := gw_t3 216 rfl rfl
theorem w_679 : Cond.methodLink RX6 134 yX4_enterSupervisor ∈ gw := gw_t3 199 rfl rfl
theorem w_680 : Cond.instanceMethod yX4_enterSupervisor ∈ gw := gw_t3 200 rfl rfl
theorem w_681 : Cond.selects RX4 yX4_enterSupervisor yX4_enterSupervisor ∈ gw := gw_t3 201 rfl rfl
theorem w_682 : Cond.code yX4_enterSupervisor cX4_enterSupervisor 2 (none) ∈ gw := gw_t3 202 rfl rfl
theorem w_678 : Cond.constantLong RX6 127 (-9223372036854775808) ∈ gw := gw_t3 198 rfl rfl
theorem n_22 : Cond.fieldLinkNest RX6 113 "HartBoard$Controls" "supervisor" "LHartBoard$Level;" "HartBoard" ∈ nl := List.mem_append_left _ (List.mem_of_getElem? (i := 22) rfl)
theorem w_255 : Cond.fieldLink RX6 25 "HartBoard$Hart" "cause" "I" ∈ gw := gw_t2 15 rfl rfl
theorem w_256 : Cond.fieldLink RX6 68 "HartBoard$Hart" "value" "J" ∈ gw := gw_t2 16 rfl rfl
theorem w_253 : Cond.fieldLink RX6 150 "HartBoard$Hart" "raw" "I" ∈ gw := gw_t2 13 rfl rfl
theorem w_848 : Cond.constantLong RX6 153 (4294967295) ∈ gw := gw_t4 128 rfl rfl
theorem w_710 : Cond.methodLink RX6 155 yX6_fail ∈ gw := gw_t3 230 rfl rfl
theorem w_712 : Cond.instanceMethod yX6_fail ∈ gw := gw_t3 232 rfl rfl
theorem w_p16 : Cond.selects RX6 yX6_fail yX6_fail ∈ gw := gw_p 16 rfl rfl
theorem w_713 : Cond.code yX6_fail cX6_fail 4 (none) ∈ gw := gw_t3 233 rfl rfl
theorem w_718 : Cond.constantLong RX6 191 (131072) ∈ gw := gw_t3 238 rfl rfl
theorem w_719 : Cond.methodLink RX6 193 yX4_previousPrivilege ∈ gw := gw_t3 239 rfl rfl
theorem w_714 : Cond.methodLink RX6 196 yX6_privilegeFor ∈ gw := gw_t3 234 rfl rfl
theorem w_715 : Cond.instanceMethod yX6_privilegeFor ∈ gw := gw_t3 235 rfl rfl
theorem w_716 : Cond.selects RX6 yX6_privilegeFor yX6_privilegeFor ∈ gw := gw_t3 236 rfl rfl
theorem w_717 : Cond.code yX6_privilegeFor cX6_privilegeFor 2 (some .int) ∈ gw := gw_t3 237 rfl rfl
theorem w_723 : Cond.methodLink RX6 199 yX4_pages ∈ gw := gw_t4 3 rfl rfl
theorem w_724 : Cond.instanceMethod yX4_pages ∈ gw := gw_t4 4 rfl rfl
theorem w_725 : Cond.selects RX4 yX4_pages yX4_pages ∈ gw := gw_t4 5 rfl rfl
theorem w_726 : Cond.code yX4_pages cX4_pages 2 (some .boolean) ∈ gw := gw_t4 6 rfl rfl
theorem n_6 : Cond.fieldLinkNest RX6 172 "HartBoard$Bus" "ram" "LHartBoard$Ram;" "HartBoard" ∈ nl := List.mem_append_left _ (List.mem_of_getElem? (i := 6) rfl)
theorem w_727 : Cond.methodLink RX6 203 yX9_physical ∈ gw := gw_t4 7 rfl rfl
theorem w_728 : Cond.static yX9_physical ∈ gw := gw_t4 8 rfl rfl
theorem w_729 : Cond.code yX9_physical cX9_physical 15 (some .long) ∈ gw := gw_t4 9 rfl rfl
theorem w_706 : Cond.methodLink RX6 168 yX6_reached ∈ gw := gw_t3 226 rfl rfl
theorem w_708 : Cond.instanceMethod yX6_reached ∈ gw := gw_t3 228 rfl rfl
theorem w_p15 : Cond.selects RX6 yX6_reached yX6_reached ∈ gw := gw_p 15 rfl rfl
theorem w_709 : Cond.code yX6_reached cX6_reached 8 (some .long) ∈ gw := gw_t3 229 rfl rfl
theorem w_767 : Cond.methodLink RX6 176 yX10_place ∈ gw := gw_t4 47 rfl rfl
theorem w_769 : Cond.methodLink RX6 187 yX10_read ∈ gw := gw_t4 49 rfl rfl
theorem w_768 : Cond.methodLink RX6 182 yX9_accessFault ∈ gw := gw_t4 48 rfl rfl
theorem w_702 : Cond.methodLink RX6 159 yX6_fetchedHalf ∈ gw := gw_t3 222 rfl rfl
theorem w_704 : Cond.instanceMethod yX6_fetchedHalf ∈ gw := gw_t3 224 rfl rfl
theorem w_p14 : Cond.selects RX6 yX6_fetchedHalf yX6_fetchedHalf ∈ gw := gw_p 14 rfl rfl
theorem w_705 : Cond.code yX6_fetchedHalf cX6_fetchedHalf 6 (some .int) ∈ gw := gw_t3 225 rfl rfl
theorem w_254 : Cond.fieldLink RX6 57 "HartBoard$Hart" "next" "J" ∈ gw := gw_t2 14 rfl rfl
theorem w_770 : Cond.methodLink RX6 162 yX5_widened ∈ gw := gw_t4 50 rfl rfl
theorem w_771 : Cond.static yX5_widened ∈ gw := gw_t4 51 rfl rfl
theorem w_772 : Cond.code yX5_widened cX5_widened 1 (some .int) ∈ gw := gw_t4 52 rfl rfl
theorem w_247 : Cond.fieldLink RX6 9 "HartBoard$Hart" "registers" "[J" ∈ gw := gw_t2 7 rfl rfl
theorem w_820 : Cond.methodLink RX6 207 yX6_putRd ∈ gw := gw_t4 100 rfl rfl
theorem w_822 : Cond.instanceMethod yX6_putRd ∈ gw := gw_t4 102 rfl rfl
theorem w_p18 : Cond.selects RX6 yX6_putRd yX6_putRd ∈ gw := gw_p 18 rfl rfl
theorem w_823 : Cond.code yX6_putRd cX6_putRd 5 (none) ∈ gw := gw_t4 103 rfl rfl
theorem w_836 : Cond.methodLink RX6 246 yX6_f ∈ gw := gw_t4 116 rfl rfl
theorem w_837 : Cond.static yX6_f ∈ gw := gw_t4 117 rfl rfl
theorem w_838 : Cond.code yX6_f cX6_f 1 (some .int) ∈ gw := gw_t4 118 rfl rfl
theorem w_844 : Cond.methodLink RX6 255 yX6_illegal ∈ gw := gw_t4 124 rfl rfl
theorem w_846 : Cond.instanceMethod yX6_illegal ∈ gw := gw_t4 126 rfl rfl
theorem w_p22 : Cond.selects RX6 yX6_illegal yX6_illegal ∈ gw := gw_p 22 rfl rfl
theorem w_847 : Cond.code yX6_illegal cX6_illegal 1 (none) ∈ gw := gw_t4 127 rfl rfl
theorem w_839 : Cond.methodLink RX6 259 yX6_a ∈ gw := gw_t4 119 rfl rfl
theorem w_841 : Cond.instanceMethod yX6_a ∈ gw := gw_t4 121 rfl rfl
theorem w_p21 : Cond.selects RX6 yX6_a yX6_a ∈ gw := gw_p 21 rfl rfl
theorem w_842 : Cond.code yX6_a cX6_a 2 (some .long) ∈ gw := gw_t4 122 rfl rfl
theorem w_843 : Cond.constantLong RX6 263 (-2) ∈ gw := gw_t4 123 rfl rfl
theorem w_828 : Cond.methodLink RX6 213 yX6_jump ∈ gw := gw_t4 108 rfl rfl
theorem w_830 : Cond.instanceMethod yX6_jump ∈ gw := gw_t4 110 rfl rfl
theorem w_p19 : Cond.selects RX6 yX6_jump yX6_jump ∈ gw := gw_p 19 rfl rfl
theorem w_831 : Cond.code yX6_jump cX6_jump 4 (none) ∈ gw := gw_t4 111 rfl rfl
theorem w_853 : Cond.methodLink RX6 265 yX6_b ∈ gw := gw_t4 133 rfl rfl
theorem w_855 : Cond.instanceMethod yX6_b ∈ gw := gw_t4 135 rfl rfl
theorem w_p24 : Cond.selects RX6 yX6_b yX6_b ∈ gw := gw_p 24 rfl rfl
theorem w_856 : Cond.code yX6_b cX6_b 2 (some .long) ∈ gw := gw_t4 136 rfl rfl
theorem w_857 : Cond.methodLink RX6 268 yX0_below ∈ gw := gw_t4 137 rfl rfl
theorem w_858 : Cond.methodLink RX6 274 yX6_branchOffset ∈ gw := gw_t4 138 rfl rfl
theorem w_859 : Cond.static yX6_branchOffset ∈ gw := gw_t4 139 rfl rfl
theorem w_860 : Cond.code yX6_branchOffset cX6_branchOffset 1 (some .int) ∈ gw := gw_t4 140 rfl rfl
theorem w_865 : Cond.methodLink RX6 277 yX1_read ∈ gw := gw_t4 145 rfl rfl
theorem w_866 : Cond.instanceMethod yX1_read ∈ gw := gw_t4 146 rfl rfl
theorem w_867 : Cond.selects RX1 yX1_read yX1_read ∈ gw := gw_t4 147 rfl rfl
theorem w_868 : Cond.code yX1_read cX1_read 5 (some .long) ∈ gw := gw_t4 148 rfl rfl
theorem n_14 : Cond.fieldLinkNest RX6 280 "HartBoard$Bus" "failed" "Z" "HartBoard" ∈ nl := List.mem_append_left _ (List.mem_of_getElem? (i := 14) rfl)
theorem w_912 : Cond.methodLink RX6 284 yX0_signed ∈ gw := gw_t4 192 rfl rfl
theorem w_913 : Cond.static yX0_signed ∈ gw := gw_t4 193 rfl rfl
theorem w_914 : Cond.code yX0_signed cX0_signed 4 (some .long) ∈ gw := gw_t4 194 rfl rfl
theorem w_945 : Cond.methodLink RX6 291 yX0_plain ∈ gw := gw_t4 225 rfl rfl
theorem w_946 : Cond.static yX0_plain ∈ gw := gw_t4 226 rfl rfl
theorem w_947 : Cond.code yX0_plain cX0_plain 6 (some .long) ∈ gw := gw_t4 227 rfl rfl
theorem w_954 : Cond.methodLink RX6 295 yX0_narrow ∈ gw := gw_t4 234 rfl rfl
theorem w_955 : Cond.static yX0_narrow ∈ gw := gw_t4 235 rfl rfl
theorem w_956 : Cond.code yX0_narrow cX0_narrow 4 (some .long) ∈ gw := gw_t4 236 rfl rfl
theorem w_961 : Cond.methodLink RX6 299 yX0_product ∈ gw := gw_t5 1 rfl rfl
theorem w_962 : Cond.static yX0_product ∈ gw := gw_t5 2 rfl rfl
theorem w_963 : Cond.code yX0_product cX0_product 5 (some .long) ∈ gw := gw_t5 3 rfl rfl
theorem w_976 : Cond.methodLink RX6 303 yX0_narrowProduct ∈ gw := gw_t5 16 rfl rfl
theorem w_977 : Cond.static yX0_narrowProduct ∈ gw := gw_t5 17 rfl rfl
theorem w_978 : Cond.code yX0_narrowProduct cX0_narrowProduct 7 (some .long) ∈ gw := gw_t5 18 rfl rfl
theorem w_1013 : Cond.methodLink RX6 338 yX4_leaveMachine ∈ gw := gw_t5 53 rfl rfl
theorem w_1014 : Cond.instanceMethod yX4_leaveMachine ∈ gw := gw_t5 54 rfl rfl
theorem w_1015 : Cond.selects RX4 yX4_leaveMachine yX4_leaveMachine ∈ gw := gw_t5 55 rfl rfl
theorem w_1016 : Cond.code yX4_leaveMachine cX4_leaveMachine 2 (some .int) ∈ gw := gw_t5 56 rfl rfl
theorem w_1024 : Cond.methodLink RX6 343 yX4_leaveSupervisor ∈ gw := gw_t5 64 rfl rfl
theorem w_1025 : Cond.instanceMethod yX4_leaveSupervisor ∈ gw := gw_t5 65 rfl rfl
theorem w_1026 : Cond.selects RX4 yX4_leaveSupervisor yX4_leaveSupervisor ∈ gw := gw_t5 66 rfl rfl
theorem w_1027 : Cond.code yX4_leaveSupervisor cX4_leaveSupervisor 2 (some .int) ∈ gw := gw_t5 67 rfl rfl
theorem w_1023 : Cond.constantLong RX6 341 (4194304) ∈ gw := gw_t5 63 rfl rfl
theorem w_1019 : Cond.methodLink RX6 327 yX6_returnFromSupervisor ∈ gw := gw_t5 59 rfl rfl
theorem w_1021 : Cond.instanceMethod yX6_returnFromSupervisor ∈ gw := gw_t5 61 rfl rfl
theorem w_p38 : Cond.selects RX6 yX6_returnFromSupervisor yX6_returnFromSupervisor ∈ gw := gw_p 38 rfl rfl
theorem w_1022 : Cond.code yX6_returnFromSupervisor cX6_returnFromSupervisor 1 (none) ∈ gw := gw_t5 62 rfl rfl
theorem w_1028 : Cond.constantLong RX6 330 (2097152) ∈ gw := gw_t5 68 rfl rfl
theorem w_1029 : Cond.methodLink RX6 332 yX6_nothingUnless ∈ gw := gw_t5 69 rfl rfl
theorem w_1031 : Cond.instanceMethod yX6_nothingUnless ∈ gw := gw_t5 71 rfl rfl
theorem w_p39 : Cond.selects RX6 yX6_nothingUnless yX6_nothingUnless ∈ gw := gw_p 39 rfl rfl
theorem w_1032 : Cond.code yX6_nothingUnless cX6_nothingUnless 3 (none) ∈ gw := gw_t5 72 rfl rfl
theorem w_1009 : Cond.methodLink RX6 324 yX6_returnFromMachine ∈ gw := gw_t5 49 rfl rfl
theorem w_1011 : Cond.instanceMethod yX6_returnFromMachine ∈ gw := gw_t5 51 rfl rfl
theorem w_p37 : Cond.selects RX6 yX6_returnFromMachine yX6_returnFromMachine ∈ gw := gw_p 37 rfl rfl
theorem w_1012 : Cond.code yX6_returnFromMachine cX6_returnFromMachine 1 (none) ∈ gw := gw_t5 52 rfl rfl
theorem w_1033 : Cond.constantLong RX6 336 (1048576) ∈ gw := gw_t5 73 rfl rfl
theorem w_1038 : Cond.methodLink RX6 346 yX4_allows ∈ gw := gw_t5 78 rfl rfl
theorem w_1039 : Cond.instanceMethod yX4_allows ∈ gw := gw_t5 79 rfl rfl
theorem w_1040 : Cond.selects RX4 yX4_allows yX4_allows ∈ gw := gw_t5 80 rfl rfl
theorem w_1041 : Cond.code yX4_allows cX4_allows 4 (some .boolean) ∈ gw := gw_t5 81 rfl rfl
theorem w_1048 : Cond.methodLink RX6 350 yX4_read ∈ gw := gw_t5 88 rfl rfl
theorem w_564 : Cond.instanceMethod yX4_read ∈ gw := gw_t3 84 rfl rfl
theorem w_565 : Cond.selects RX4 yX4_read yX4_read ∈ gw := gw_t3 85 rfl rfl
theorem w_566 : Cond.code yX4_read cX4_read 2 (some .long) ∈ gw := gw_t3 86 rfl rfl
theorem w_1049 : Cond.methodLink RX6 352 yX4_write ∈ gw := gw_t5 89 rfl rfl
theorem w_599 : Cond.instanceMethod yX4_write ∈ gw := gw_t3 119 rfl rfl
theorem w_600 : Cond.selects RX4 yX4_write yX4_write ∈ gw := gw_t3 120 rfl rfl
theorem w_601 : Cond.code yX4_write cX4_write 4 (none) ∈ gw := gw_t3 121 rfl rfl
theorem w_288 : Cond.fieldLink RX11 15 "HartBoard" "tape" "LHartBoard$Bytes;" ∈ gw := gw_t2 48 rfl rfl
theorem w_305 : Cond.methodLink RX11 56 yX2_size ∈ gw := gw_t2 65 rfl rfl
theorem w_309 : Cond.methodLink RX11 68 yX2_clear ∈ gw := gw_t2 69 rfl rfl
theorem w_310 : Cond.instanceMethod yX2_clear ∈ gw := gw_t2 70 rfl rfl
theorem w_311 : Cond.selects RX2 yX2_clear yX2_clear ∈ gw := gw_t2 71 rfl rfl
theorem w_312 : Cond.code yX2_clear cX2_clear 1 (none) ∈ gw := gw_t2 72 rfl rfl
theorem w_321 : Cond.methodLink RX11 205 yX2_number ∈ gw := gw_t2 81 rfl rfl
theorem w_322 : Cond.instanceMethod yX2_number ∈ gw := gw_t2 82 rfl rfl
theorem w_323 : Cond.selects RX2 yX2_number yX2_number ∈ gw := gw_t2 83 rfl rfl
theorem w_324 : Cond.code yX2_number cX2_number 6 (some .long) ∈ gw := gw_t2 84 rfl rfl
theorem w_337 : Cond.methodLink RX11 219 yX11_lies ∈ gw := gw_t2 97 rfl rfl
theorem w_338 : Cond.static yX11_lies ∈ gw := gw_t2 98 rfl rfl
theorem w_1 : Cond.initialized RX11 ∈ gw := gw_t1 1 rfl rfl
theorem w_339 : Cond.code yX11_lies cX11_lies 5 (some .boolean) ∈ gw := gw_t2 99 rfl rfl
theorem w_344 : Cond.constantLong RX11 226 (2147483648) ∈ gw := gw_t2 104 rfl rfl
theorem w_289 : Cond.fieldLink RX11 27 "HartBoard" "bus" "LHartBoard$Bus;" ∈ gw := gw_t2 49 rfl rfl
theorem n_5 : Cond.fieldLinkNest RX11 95 "HartBoard$Bus" "ram" "LHartBoard$Ram;" "HartBoard" ∈ nl := List.mem_append_left _ (List.mem_of_getElem? (i := 5) rfl)
theorem n_0 : Cond.fieldLinkNest RX11 193 "HartBoard$Ram" "size" "I" "HartBoard" ∈ nl := List.mem_append_left _ (List.mem_of_getElem? (i := 0) rfl)
theorem w_329 : Cond.constantLong RX11 208 (282584257676671) ∈ gw := gw_t2 89 rfl rfl
theorem w_330 : Cond.constantLong RX11 210 (2) ∈ gw := gw_t2 90 rfl rfl
theorem w_331 : Cond.constantLong RX11 212 (243) ∈ gw := gw_t2 91 rfl rfl
theorem w_332 : Cond.methodLink RX11 214 yX11_imageRows ∈ gw := gw_t2 92 rfl rfl
theorem w_334 : Cond.instanceMethod yX11_imageRows ∈ gw := gw_t2 94 rfl rfl
theorem w_p1 : Cond.selects RX11 yX11_imageRows yX11_imageRows ∈ gw := gw_p 1 rfl rfl
theorem w_335 : Cond.code yX11_imageRows cX11_imageRows 1 (some .int) ∈ gw := gw_t2 95 rfl rfl
theorem w_336 : Cond.constantLong RX11 217 (56) ∈ gw := gw_t2 96 rfl rfl
theorem w_345 : Cond.methodLink RX11 99 yX10_place ∈ gw := gw_t2 105 rfl rfl
theorem w_340 : Cond.methodLink RX11 223 yX11_rowError ∈ gw := gw_t2 100 rfl rfl
theorem w_342 : Cond.instanceMethod yX11_rowError ∈ gw := gw_t2 102 rfl rfl
theorem w_p2 : Cond.selects RX11 yX11_rowError yX11_rowError ∈ gw := gw_p 2 rfl rfl
theorem w_343 : Cond.code yX11_rowError cX11_rowError 6 (some .int) ∈ gw := gw_t2 103 rfl rfl
theorem w_364 : Cond.methodLink RX11 234 yX10_zero ∈ gw := gw_t2 124 rfl rfl
theorem w_365 : Cond.instanceMethod yX10_zero ∈ gw := gw_t2 125 rfl rfl
theorem w_366 : Cond.selects RX10 yX10_zero yX10_zero ∈ gw := gw_t2 126 rfl rfl
theorem w_367 : Cond.code yX10_zero cX10_zero 5 (none) ∈ gw := gw_t2 127 rfl rfl
theorem w_358 : Cond.methodLink RX11 88 yX2_byteAt ∈ gw := gw_t2 118 rfl rfl
theorem w_359 : Cond.methodLink RX11 108 yX10_write ∈ gw := gw_t2 119 rfl rfl
theorem w_291 : Cond.fieldLink RX11 45 "HartBoard" "hart" "LHartBoard$Hart;" ∈ gw := gw_t2 51 rfl rfl
theorem n_31 : Cond.fieldLinkNest RX11 120 "HartBoard$Hart" "pc" "J" "HartBoard" ∈ nl := List.mem_append_left _ (List.mem_of_getElem? (i := 31) rfl)
theorem n_32 : Cond.fieldLinkNest RX11 130 "HartBoard$Hart" "privilege" "I" "HartBoard" ∈ nl := List.mem_append_left _ (List.mem_of_getElem? (i := 32) rfl)
theorem w_369 : Cond.methodLink RX11 231 yX1_endReservation ∈ gw := gw_t2 129 rfl rfl
theorem w_354 : Cond.methodLink RX11 228 yX11_bringRow ∈ gw := gw_t2 114 rfl rfl
theorem w_356 : Cond.instanceMethod yX11_bringRow ∈ gw := gw_t2 116 rfl rfl
theorem w_p4 : Cond.selects RX11 yX11_bringRow yX11_bringRow ∈ gw := gw_p 4 rfl rfl
theorem w_357 : Cond.code yX11_bringRow cX11_bringRow 7 (none) ∈ gw := gw_t2 117 rfl rfl
theorem w_317 : Cond.methodLink RX11 71 yX11_imageError ∈ gw := gw_t2 77 rfl rfl
theorem w_319 : Cond.instanceMethod yX11_imageError ∈ gw := gw_t2 79 rfl rfl
theorem w_p0 : Cond.selects RX11 yX11_imageError yX11_imageError ∈ gw := gw_p 0 rfl rfl
theorem w_320 : Cond.code yX11_imageError cX11_imageError 6 (some .int) ∈ gw := gw_t2 80 rfl rfl
theorem w_350 : Cond.methodLink RX11 74 yX11_bringImage ∈ gw := gw_t2 110 rfl rfl
theorem w_352 : Cond.instanceMethod yX11_bringImage ∈ gw := gw_t2 112 rfl rfl
theorem w_p3 : Cond.selects RX11 yX11_bringImage yX11_bringImage ∈ gw := gw_p 3 rfl rfl
theorem w_353 : Cond.code yX11_bringImage cX11_bringImage 4 (none) ∈ gw := gw_t2 113 rfl rfl
def dl_X9_opens : List (Nat × Instr × Nat) := [(0, .lload_n 0, 1), (1, .ldc2_w 68, 3), (4, .land, 1), (5, .lconst 0, 1), (6, .lcmp, 1), (7, .ifCond .ne 5, 3), (10, .iconst 0, 1), (11, .ireturn, 1), (12, .iload_n 2, 1), (13, .lookupswitch 90 #[(0, 27), (1, 43)], 27), (40, .lload_n 0, 1), (41, .ldc2_w 25, 3), (44, .land, 1), (45, .lconst 0, 1), (46, .lcmp, 1), (47, .ifCond .eq 7, 3), (50, .iconst 1, 1), (51, .goto 4, 3), (54, .iconst 0, 1), (55, .ireturn, 1), (56, .aload_n 3, 1), (57, .getfield 70, 3), (60, .ldc2_w 73, 3), (63, .land, 1), (64, .lconst 0, 1), (65, .lcmp, 1), (66, .ifCond .eq 7, 3), (69, .iconst 1, 1), (70, .goto 4, 3), (73, .iconst 0, 1), (74, .istore 4, 2), (76, .lload_n 0, 1), (77, .iload 4, 2), (79, .ifCond .eq 9, 3), (82, .ldc2_w 44, 3), (85, .goto 6, 3), (88, .ldc2_w 75, 3), (91, .land, 1), (92, .lconst 0, 1), (93, .lcmp, 1), (94, .ifCond .eq 7, 3), (97, .iconst 1, 1), (98, .goto 4, 3), (101, .iconst 0, 1), (102, .ireturn, 1), (103, .lload_n 0, 1), (104, .ldc2_w 66, 3), (107, .land, 1), (108, .lconst 0, 1), (109, .lcmp, 1), (110, .ifCond .eq 17, 3), (113, .lload_n 0, 1), (114, .ldc2_w 77, 3), (117, .land, 1), (118, .lconst 0, 1), (119, .lcmp, 1), (120, .ifCond .eq 7, 3), (123, .iconst 1, 1), (124, .goto 4, 3), (127, .iconst 0, 1), (128, .ireturn, 1)]
theorem da_X9_opens : dkL cX9_opens dl_X9_opens = true := by decide +kernel
def f_X9_opens_b91 (s0 : Int64) (s1 : Int64) (u : St) : Int32 := if (s1 &&& s0) = (0 : Int64) then (0 : Int32) else (1 : Int32)
set_option maxRecDepth 100000 in
set_option maxHeartbeats 4000000 in
theorem b_X9_opens_b91 {p : Program} {l : Launch} {e : Env} {s : State} {m : MethodId} {args : Array Value} {below : List Frame} {meth : Method} {c : Code} {D : va_G} {cy : ClassId × ClassId × ClassId} {ad : Nat → Nat} {A : Nat → Prop} (E : CallFix p m c cX9_opens 5 s args gw RX9) (hr : meth.sig.returnType = some .boolean) (hlk : meth.locks = false) {s0 : Int64} {s1 : Int64} {u : St} {r : Int32} (h : f_X9_opens_b91 s0 s1 u = r) {ls : Array Slot} {H : Heap} {locs : List Loc} {rr : Nat → Nat} (hl : lv_has ls 5 []) (w : WX (wC cy ad) D cy rr u A s H locs) : Wx (wC cy ad) D p l e 0 0 0 s m args below meth c A u (some (.int r)) H locs 0 91 ls [.long s0, .long s1] := by
  have hx := E.1
  have hb := E.2.1
  have hown := E.2.2.2.1
  have hts := E.2.2.2.2
  refine lv_land hx hb (dq da_X9_opens 37 rfl) ?_
  refine lv_lconst (v := 0) hx hb (dq da_X9_opens 38 rfl) rfl ?_
  refine lc_eq (tgt := 101) hx hb (dq da_X9_opens 39 rfl) (dq da_X9_opens 40 rfl) (by decide) (fun c7 => ?_) (fun c7 => ?_)
  · have h := it c7 h
    refine lv_iconst (v := 0) hx hb (dq da_X9_opens 43 rfl) rfl ?_
    exact xret_z E hr hlk rfl w (by decide) h rfl (dq da_X9_opens 44 rfl)
  · have h := ie c7 h
    refine lv_iconst (v := 1) hx hb (dq da_X9_opens 41 rfl) rfl ?_
    refine lv_goto (tgt := 102) hx hb (dq da_X9_opens 42 rfl) (by decide) ?_
    exact xret_z E hr hlk rfl w (by decide) h rfl (dq da_X9_opens 44 rfl)
def f_X9_opens_b74 (x0 : Int64) (s0 : Int32) (u : St) : Int32 := if s0 = (0 : Int32) then (f_X9_opens_b91 (2 : Int64) x0 u) else (f_X9_opens_b91 (10 : Int64) x0 u)
set_option maxRecDepth 100000 in
set_option maxHeartbeats 4000000 in
theorem b_X9_opens_b74 {p : Program} {l : Launch} {e : Env} {s : State} {m : MethodId} {args : Array Value} {below : List Frame} {meth : Method} {c : Code} {D : va_G} {cy : ClassId × ClassId × ClassId} {ad : Nat → Nat} {A : Nat → Prop} (E : CallFix p m c cX9_opens 5 s args gw RX9) (hr : meth.sig.returnType = some .boolean) (hlk : meth.locks = false) {x0 : Int64} {s0 : Int32} {u : St} {r : Int32} (h : f_X9_opens_b74 x0 s0 u = r) {ls : Array Slot} {H : Heap} {locs : List Loc} {rr : Nat → Nat} (hl : lv_has ls 5 [(0, .long x0)]) (w : WX (wC cy ad) D cy rr u A s H locs) : Wx (wC cy ad) D p l e 0 0 0 s m args below meth c A u (some (.int r)) H locs 0 74 ls [.int s0] := by
  have hx := E.1
  have hb := E.2.1
  have hown := E.2.2.2.1
  have hts := E.2.2.2.2
  refine lv_istore (lv' := [(4, .int s0), (0, .long x0)]) hx hb (dq da_X9_opens 30 rfl) hl (by decide) rfl (fun ls hl => ?_)
  refine lv_lload_n hx hb (dq da_X9_opens 31 rfl) rfl (lv_at hl 1 rfl) ?_
  refine lv_iload hx hb (dq da_X9_opens 32 rfl) (lv_at hl 0 rfl) ?_
  refine lv_if_eq (tgt := 88) hx hb (dq da_X9_opens 33 rfl) (by decide) (fun c6 => ?_) (fun c6 => ?_)
  · have h := it c6 h
    refine lv_ldc2 hx hb hown (hts _ w_752) (dq da_X9_opens 36 rfl) ?_
    exact b_X9_opens_b91 E hr hlk h (lv_sub hl [] rfl) w
  · have h := ie c6 h
    refine lv_ldc2 hx hb hown (hts _ w_746) (dq da_X9_opens 34 rfl) ?_
    refine lv_goto (tgt := 91) hx hb (dq da_X9_opens 35 rfl) (by decide) ?_
    exact b_X9_opens_b91 E hr hlk h (lv_sub hl [] rfl) w
def f_X9_opens_b127 (u : St) : Int32 := (0 : Int32)
set_option maxRecDepth 100000 in
set_option maxHeartbeats 4000000 in
theorem b_X9_opens_b127 {p : Program} {l : Launch} {e : Env} {s : State} {m : MethodId} {args : Array Value} {below : List Frame} {meth : Method} {c : Code} {D : va_G} {cy : ClassId × ClassId × ClassId} {ad : Nat → Nat} {A : Nat → Prop} (E : CallFix p m c cX9_opens 5 s args gw RX9) (hr : meth.sig.returnType = some .boolean) (hlk : meth.locks = false) {u : St} {r : Int32} (h : f_X9_opens_b127 u = r) {ls : Array Slot} {H : Heap} {locs : List Loc} {rr : Nat → Nat} (hl : lv_has ls 5 []) (w : WX (wC cy ad) D cy rr u A s H locs) : Wx (wC cy ad) D p l e 0 0 0 s m args below meth c A u (some (.int r)) H locs 0 127 ls [] := by
  have hx := E.1
  have hb := E.2.1
  have hown := E.2.2.2.1
  have hts := E.2.2.2.2
  refine lv_iconst (v := 0) hx hb (dq da_X9_opens 59 rfl) rfl ?_
  exact xret_z E hr hlk rfl w (by decide) h rfl (dq da_X9_opens 60 rfl)
def f_X9_opens (x0 : Int64) (x2 : Int32) (u : St) : Int32 := if (x0 &&& (64 : Int64)) = (0 : Int64) then (0 : Int32) else (if x2 = (0 : Int32) then (if (x0 &&& (8 : Int64)) = (0 : Int64) then (0 : Int32) else (1 : Int32)) else if x2 = (1 : Int32) then (if ((gL u 4) &&& (524288 : Int64)) = (0 : Int64) then (f_X9_opens_b74 x0 (0 : Int32) u) else (f_X9_opens_b74 x0 (1 : Int32) u)) else (if (x0 &&& (4 : Int64)) = (0 : Int64) then (f_X9_opens_b127 u) else (if (x0 &&& (128 : Int64)) = (0 : Int64) then (f_X9_opens_b127 u) else (1 : Int32))))
set_option maxRecDepth 100000 in
set_option maxHeartbeats 4000000 in
theorem c_X9_opens (l : Launch) (D : va_G) (cy : ClassId × ClassId × ClassId) (ad : Nat → Nat) (x0 : Int64) (x2 : Int32) (u : St) : MX (wC cy ad) D cy l yX9_opens cX9_opens 5 (some .boolean) 0 0 0 [.long x0, .int x2, .ref (ad 15)] u u (some (.int (f_X9_opens x0 x2 u))) := by
  refine entX (by decide +kernel) (Nat.le_of_ble_eq_true rfl) ?_
  intro p e s m args below meth c ls rr A E hr hlk hl w
  have hl : lv_has ls 5 [(0, .long x0), (2, .int x2), (3, .ref (ad 15))] := hl
  generalize h : f_X9_opens x0 x2 u = r
  have hx := E.1
  have hb := E.2.1
  have hown := E.2.2.2.1
  have hts := E.2.2.2.2
  refine lv_lload_n hx hb (dq da_X9_opens 0 rfl) rfl (lv_at hl 0 rfl) ?_
  refine lv_ldc2 hx hb hown (hts _ w_750) (dq da_X9_opens 1 rfl) ?_
  refine lv_land hx hb (dq da_X9_opens 2 rfl) ?_
  refine lv_lconst (v := 0) hx hb (dq da_X9_opens 3 rfl) rfl ?_
  refine lc_ne (tgt := 12) hx hb (dq da_X9_opens 4 rfl) (dq da_X9_opens 5 rfl) (by decide) (fun c1 => ?_) (fun c1 => ?_)
  · have h := ie c1 h
    refine lv_iload_n hx hb (dq da_X9_opens 8 rfl) rfl (lv_at hl 1 rfl) ?_
    by_cases c2 : x2 = (0 : Int32)
    · have h := it c2 h
      refine lv_lookup (off := 27) (tgt := 40) hx hb (dq da_X9_opens 9 rfl) (by decide +kernel) (by rw [c2]; decide +kernel) (by decide) ?_
      refine lv_lload_n hx hb (dq da_X9_opens 10 rfl) rfl (lv_at hl 0 rfl) ?_
      refine lv_ldc2 hx hb hown (hts _ w_735) (dq da_X9_opens 11 rfl) ?_
      refine lv_land hx hb (dq da_X9_opens 12 rfl) ?_
      refine lv_lconst (v := 0) hx hb (dq da_X9_opens 13 rfl) rfl ?_
      refine lc_eq (tgt := 54) hx hb (dq da_X9_opens 14 rfl) (dq da_X9_opens 15 rfl) (by decide) (fun c3 => ?_) (fun c3 => ?_)
      · have h := it c3 h
        refine lv_iconst (v := 0) hx hb (dq da_X9_opens 18 rfl) rfl ?_
        exact xret_z E hr hlk rfl w (by decide) h rfl (dq da_X9_opens 19 rfl)
      · have h := ie c3 h
        refine lv_iconst (v := 1) hx hb (dq da_X9_opens 16 rfl) rfl ?_
        refine lv_goto (tgt := 55) hx hb (dq da_X9_opens 17 rfl) (by decide) ?_
        exact xret_z E hr hlk rfl w (by decide) h rfl (dq da_X9_opens 19 rfl)
    · have h := ie c2 h
      by_cases c4 : x2 = (1 : Int32)
      · have h := it c4 h
        refine lv_lookup (off := 43) (tgt := 56) hx hb (dq da_X9_opens 9 rfl) (by decide +kernel) (by rw [c4]; decide +kernel) (by decide) ?_
        refine lv_aload_n hx hb (dq da_X9_opens 20 rfl) rfl (lv_at hl 2 rfl) ?_
        refine gtN_wC_15_status E w n_23 (dq da_X9_opens 21 rfl) ?_
        refine lv_ldc2 hx hb hown (hts _ w_751) (dq da_X9_opens 22 rfl) ?_
        refine lv_land hx hb (dq da_X9_opens 23 rfl) ?_
        refine lv_lconst (v := 0) hx hb (dq da_X9_opens 24 rfl) rfl ?_
        refine lc_eq (tgt := 73) hx hb (dq da_X9_opens 25 rfl) (dq da_X9_opens 26 rfl) (by decide) (fun c5 => ?_) (fun c5 => ?_)
        · have h := it c5 h
          refine lv_iconst (v := 0) hx hb (dq da_X9_opens 29 rfl) rfl ?_
          exact b_X9_opens_b74 E hr hlk h (lv_sub hl [0] rfl) w
        · have h := ie c5 h
          refine lv_iconst (v := 1) hx hb (dq da_X9_opens 27 rfl) rfl ?_
          refine lv_goto (tgt := 74) hx hb (dq da_X9_opens 28 rfl) (by decide) ?_
          exact b_X9_opens_b74 E hr hlk h (lv_sub hl [0] rfl) w
      · have h := ie c4 h
        refine lv_lookup (off := 90) (tgt := 103) hx hb (dq da_X9_opens 9 rfl) (by decide +kernel) (by show Op.lookupswitch.offset [(0, 27), (1, 43)] (90) _ = _; rw [lv_osw (k := (0 : Int32)) (a := 0) c2 rfl, lv_osw (k := (1 : Int32)) (a := 1) c4 rfl]; rfl) (by decide) ?_
        refine lv_lload_n hx hb (dq da_X9_opens 45 rfl) rfl (lv_at hl 0 rfl) ?_
        refine lv_ldc2 hx hb hown (hts _ w_745) (dq da_X9_opens 46 rfl) ?_
        refine lv_land hx hb (dq da_X9_opens 47 rfl) ?_
        refine lv_lconst (v := 0) hx hb (dq da_X9_opens 48 rfl) rfl ?_
        refine lc_eq (tgt := 127) hx hb (dq da_X9_opens 49 rfl) (dq da_X9_opens 50 rfl) (by decide) (fun c8 => ?_) (fun c8 => ?_)
        · have h := it c8 h
          exact b_X9_opens_b127 E hr hlk h (lv_sub hl [] rfl) w
        · have h := ie c8 h
          refine lv_lload_n hx hb (dq da_X9_opens 51 rfl) rfl (lv_at hl 0 rfl) ?_
          refine lv_ldc2 hx hb hown (hts _ w_753) (dq da_X9_opens 52 rfl) ?_
          refine lv_land hx hb (dq da_X9_opens 53 rfl) ?_
          refine lv_lconst (v := 0) hx hb (dq da_X9_opens 54 rfl) rfl ?_
          refine lc_eq (tgt := 127) hx hb (dq da_X9_opens 55 rfl) (dq da_X9_opens 56 rfl) (by decide) (fun c9 => ?_) (fun c9 => ?_)
          · have h := it c9 h
            exact b_X9_opens_b127 E hr hlk h (lv_sub hl [] rfl) w
          · have h := ie c9 h
            refine lv_iconst (v := 1) hx hb (dq da_X9_opens 57 rfl) rfl ?_
            refine lv_goto (tgt := 128) hx hb (dq da_X9_opens 58 rfl) (by decide) ?_
            exact xret_z E hr hlk rfl w (by decide) h rfl (dq da_X9_opens 60 rfl)
  · have h := it c1 h
    refine lv_iconst (v := 0) hx hb (dq da_X9_opens 6 rfl) rfl ?_
    exact xret_z E hr hlk rfl w (by decide) h rfl (dq da_X9_opens 7 rfl)
def dl_X9_admits : List (Nat × Instr × Nat) := [(0, .lload_n 0, 1), (1, .ldc2_w 79, 3), (4, .land, 1), (5, .lconst 0, 1), (6, .lcmp, 1), (7, .ifCond .eq 7, 3), (10, .iconst 1, 1), (11, .goto 4, 3), (14, .iconst 0, 1), (15, .istore 5, 2), (17, .iload_n 3, 1), (18, .ifCond .ne 6, 3), (21, .iload 5, 2), (23, .ireturn, 1), (24, .iload 5, 2), (26, .ifCond .eq 21, 3), (29, .iload_n 2, 1), (30, .ifCond .eq 21, 3), (33, .aload 4, 2), (35, .getfield 70, 3), (38, .ldc2_w 81, 3), (41, .land, 1), (42, .lconst 0, 1), (43, .lcmp, 1), (44, .ifCond .eq 7, 3), (47, .iconst 1, 1), (48, .goto 4, 3), (51, .iconst 0, 1), (52, .ireturn, 1)]
theorem da_X9_admits : dkL cX9_admits dl_X9_admits = true := by decide +kernel
def f_X9_admits_b47 (u : St) : Option (Int32) := some (1 : Int32)
set_option maxRecDepth 100000 in
set_option maxHeartbeats 4000000 in
theorem b_X9_admits_b47 {p : Program} {l : Launch} {e : Env} {s : State} {m : MethodId} {args : Array Value} {below : List Frame} {meth : Method} {c : Code} {D : va_G} {cy : ClassId × ClassId × ClassId} {ad : Nat → Nat} {A : Nat → Prop} (E : CallFix p m c cX9_admits 6 s args gw RX9) (hr : meth.sig.returnType = some .boolean) (hlk : meth.locks = false) {u : St} {r : Int32} (h : f_X9_admits_b47 u = some r) {ls : Array Slot} {H : Heap} {locs : List Loc} {rr : Nat → Nat} (hl : lv_has ls 6 []) (w : WX (wC cy ad) D cy rr u A s H locs) : Wx (wC cy ad) D p l e 0 0 0 s m args below meth c A u (some (.int r)) H locs 0 47 ls [] := by
  have hx := E.1
  have hb := E.2.1
  have hown := E.2.2.2.1
  have hts := E.2.2.2.2
  refine lv_iconst (v := 1) hx hb (dq da_X9_admits 25 rfl) rfl ?_
  refine lv_goto (tgt := 52) hx hb (dq da_X9_admits 26 rfl) (by decide) ?_
  exact xret_z E hr hlk rfl w (by decide) (os h) rfl (dq da_X9_admits 28 rfl)
def f_X9_admits_b51 (u : St) : Option (Int32) := some (0 : Int32)
set_option maxRecDepth 100000 in
set_option maxHeartbeats 4000000 in
theorem b_X9_admits_b51 {p : Program} {l : Launch} {e : Env} {s : State} {m : MethodId} {args : Array Value} {below : List Frame} {meth : Method} {c : Code} {D : va_G} {cy : ClassId × ClassId × ClassId} {ad : Nat → Nat} {A : Nat → Prop} (E : CallFix p m c cX9_admits 6 s args gw RX9) (hr : meth.sig.returnType = some .boolean) (hlk : meth.locks = false) {u : St} {r : Int32} (h : f_X9_admits_b51 u = some r) {ls : Array Slot} {H : Heap} {locs : List Loc} {rr : Nat → Nat} (hl : lv_has ls 6 []) (w : WX (wC cy ad) D cy rr u A s H locs) : Wx (wC cy ad) D p l e 0 0 0 s m args below meth c A u (some (.int r)) H locs 0 51 ls [] := by
  have hx := E.1
  have hb := E.2.1
  have hown := E.2.2.2.1
  have hts := E.2.2.2.2
  refine lv_iconst (v := 0) hx hb (dq da_X9_admits 27 rfl) rfl ?_
  exact xret_z E hr hlk rfl w (by decide) (os h) rfl (dq da_X9_admits 28 rfl)
def f_X9_admits_b15 (x2 : Int32) (x3 : Int32) (s0 : Int32) (u : St) : Option (Int32) := if x3 = (0 : Int32) then (if s0 &&& 1 = s0 then some s0 else none) else (if s0 = (0 : Int32) then (f_X9_admits_b47 u) else (if x2 = (0 : Int32) then (f_X9_admits_b51 u) else (if ((gL u 4) &&& (262144 : Int64)) = (0 : Int64) then (f_X9_admits_b51 u) else (f_X9_admits_b47 u))))
set_option maxRecDepth 100000 in
set_option maxHeartbeats 4000000 in
theorem b_X9_admits_b15 {p : Program} {l : Launch} {e : Env} {s : State} {m : MethodId} {args : Array Value} {below : List Frame} {meth : Method} {c : Code} {D : va_G} {cy : ClassId × ClassId × ClassId} {ad : Nat → Nat} {A : Nat → Prop} (E : CallFix p m c cX9_admits 6 s args gw RX9) (hr : meth.sig.returnType = some .boolean) (hlk : meth.locks = false) {x2 : Int32} {x3 : Int32} {s0 : Int32} {u : St} {r : Int32} (h : f_X9_admits_b15 x2 x3 s0 u = some r) {ls : Array Slot} {H : Heap} {locs : List Loc} {rr : Nat → Nat} (hl : lv_has ls 6 [(2, .int x2), (3, .int x3), (4, .ref (ad 15))]) (w : WX (wC cy ad) D cy rr u A s H locs) : Wx (wC cy ad) D p l e 0 0 0 s m args below meth c A u (some (.int r)) H locs 0 15 ls [.int s0] := by
  have hx := E.1
  have hb := E.2.1
  have hown := E.2.2.2.1
  have hts := E.2.2.2.2
  refine lv_istore (lv' := [(5, .int s0), (2, .int x2), (3, .int x3), (4, .ref (ad 15))]) hx hb (dq da_X9_admits 9 rfl) hl (by decide) rfl (fun ls hl => ?_)
  refine lv_iload_n hx hb (dq da_X9_admits 10 rfl) rfl (lv_at hl 2 rfl) ?_
  refine lv_if_ne (tgt := 24) hx hb (dq da_X9_admits 11 rfl) (by decide) (fun c2 => ?_) (fun c2 => ?_)
  · have h := ie c2 h
    refine lv_iload hx hb (dq da_X9_admits 14 rfl) (lv_at hl 0 rfl) ?_
    refine lv_if_eq (tgt := 47) hx hb (dq da_X9_admits 15 rfl) (by decide) (fun c3 => ?_) (fun c3 => ?_)
    · have h := it c3 h
      exact b_X9_admits_b47 E hr hlk h (lv_sub hl [] rfl) w
    · have h := ie c3 h
      refine lv_iload_n hx hb (dq da_X9_admits 16 rfl) rfl (lv_at hl 1 rfl) ?_
      refine lv_if_eq (tgt := 51) hx hb (dq da_X9_admits 17 rfl) (by decide) (fun c4 => ?_) (fun c4 => ?_)
      · have h := it c4 h
        exact b_X9_admits_b51 E hr hlk h (lv_sub hl [] rfl) w
      · have h := ie c4 h
        refine lv_aload hx hb (dq da_X9_admits 18 rfl) (lv_at hl 3 rfl) ?_
        refine gtN_wC_15_status E w n_23 (dq da_X9_admits 19 rfl) ?_
        refine lv_ldc2 hx hb hown (hts _ w_758) (dq da_X9_admits 20 rfl) ?_
        refine lv_land hx hb (dq da_X9_admits 21 rfl) ?_
        refine lv_lconst (v := 0) hx hb (dq da_X9_admits 22 rfl) rfl ?_
        refine lc_eq (tgt := 51) hx hb (dq da_X9_admits 23 rfl) (dq da_X9_admits 24 rfl) (by decide) (fun c5 => ?_) (fun c5 => ?_)
        · have h := it c5 h
          exact b_X9_admits_b51 E hr hlk h (lv_sub hl [] rfl) w
        · have h := ie c5 h
          exact b_X9_admits_b47 E hr hlk h (lv_sub hl [] rfl) w
  · have h := it c2 h
    refine lv_iload hx hb (dq da_X9_admits 12 rfl) (lv_at hl 0 rfl) ?_
    obtain ⟨hz6, h⟩ := oi h
    exact xret_z E hr hlk (by show Value.int _ = _; rw [hz6]) w (by decide) (os h) rfl (dq da_X9_admits 13 rfl)
def f_X9_admits (x0 : Int64) (x2 : Int32) (x3 : Int32) (u : St) : Option (Int32) := if (x0 &&& (16 : Int64)) = (0 : Int64) then (f_X9_admits_b15 x2 x3 (0 : Int32) u) else (f_X9_admits_b15 x2 x3 (1 : Int32) u)
set_option maxRecDepth 100000 in
set_option maxHeartbeats 4000000 in
theorem c_X9_admits (l : Launch) (D : va_G) (cy : ClassId × ClassId × ClassId) (ad : Nat → Nat) (x0 : Int64) (x2 : Int32) (x3 : Int32) (u : St) {r : Int32} (h : f_X9_admits x0 x2 x3 u = some r) : MX (wC cy ad) D cy l yX9_admits cX9_admits 6 (some .boolean) 0 0 0 [.long x0, .int x2, .int x3, .ref (ad 15)] u u (some (.int (r))) := by
  refine entX (by decide +kernel) (Nat.le_of_ble_eq_true rfl) ?_
  intro p e s m args below meth c ls rr A E hr hlk hl w
  have hl : lv_has ls 6 [(0, .long x0), (2, .int x2), (3, .int x3), (4, .ref (ad 15))] := hl
  have hx := E.1
  have hb := E.2.1
  have hown := E.2.2.2.1
  have hts := E.2.2.2.2
  refine lv_lload_n hx hb (dq da_X9_admits 0 rfl) rfl (lv_at hl 0 rfl) ?_
  refine lv_ldc2 hx hb hown (hts _ w_757) (dq da_X9_admits 1 rfl) ?_
  refine lv_land hx hb (dq da_X9_admits 2 rfl) ?_
  refine lv_lconst (v := 0) hx hb (dq da_X9_admits 3 rfl) rfl ?_
  refine lc_eq (tgt := 14) hx hb (dq da_X9_admits 4 rfl) (dq da_X9_admits 5 rfl) (by decide) (fun c1 => ?_) (fun c1 => ?_)
  · have h := it c1 h
    refine lv_iconst (v := 0) hx hb (dq da_X9_admits 8 rfl) rfl ?_
    exact b_X9_admits_b15 E hr hlk h (lv_sub hl [1, 2, 3] rfl) w
  · have h := ie c1 h
    refine lv_iconst (v := 1) hx hb (dq da_X9_admits 6 rfl) rfl ?_
    refine lv_goto (tgt := 15) hx hb (dq da_X9_admits 7 rfl) (by decide) ?_
    exact b_X9_admits_b15 E hr hlk h (lv_sub hl [1, 2, 3] rfl) w
def dl_X9_physical : List (Nat × Instr × Nat) := [(0, .lload_n 2, 1), (1, .bipush 25, 2), (3, .lshl, 1), (4, .bipush 25, 2), (6, .lshr, 1), (7, .lload_n 2, 1), (8, .lcmp, 1), (9, .ifCond .eq 12, 3), (12, .iconst (-1), 1), (13, .iload 4, 2), (15, .invokestatic 9, 3), (18, .isub, 1), (19, .i2l, 1), (20, .lreturn, 1), (21, .aload_n 0, 1), (22, .getfield 15, 3), (25, .ldc2_w 21, 3), (28, .land, 1), (29, .bipush 12, 2), (31, .lshl, 1), (32, .lstore 6, 2), (34, .iconst 2, 1), (35, .istore 8, 2), (37, .iload 8, 2), (39, .ifCond .lt 195, 3), (42, .lload_n 2, 1), (43, .bipush 12, 2), (45, .bipush 9, 2), (47, .iload 8, 2), (49, .imul, 1), (50, .iadd, 1), (51, .lushr, 1), (52, .ldc2_w 23, 3), (55, .land, 1), (56, .lstore 9, 2), (58, .aload_n 1, 1), (59, .lload 6, 2), (61, .ldc2_w 25, 3), (64, .lload 9, 2), (66, .lmul, 1), (67, .ladd, 1), (68, .bipush 8, 2), (70, .invokevirtual 27, 3), (73, .istore 11, 2), (75, .iload 11, 2), (77, .iconst (-1), 1), (78, .if_icmp .ne 12, 3), (81, .iconst (-1), 1), (82, .iload 4, 2), (84, .invokestatic 33, 3), (87, .isub, 1), (88, .i2l, 1), (89, .lreturn, 1), (90, .aload_n 1, 1), (91, .iload 11, 2), (93, .bipush 8, 2), (95, .invokevirtual 36, 3), (98, .lstore 12, 2), (100, .lload 12, 2), (102, .invokestatic 40, 3), (105, .ifCond .eq 12, 3), (108, .iconst (-1), 1), (109, .iload 4, 2), (111, .invokestatic 9, 3), (114, .isub, 1), (115, .i2l, 1), (116, .lreturn, 1), (117, .lload 12, 2), (119, .ldc2_w 44, 3), (122, .land, 1), (123, .lconst 0, 1), (124, .lcmp, 1), (125, .ifCond .eq 69, 3), (128, .lload 12, 2), (130, .iload 4, 2), (132, .aload_n 0, 1), (133, .invokestatic 46, 3), (136, .ifCond .eq 20, 3), (139, .lload 12, 2), (141, .iload 4, 2), (143, .iload 5, 2), (145, .aload_n 0, 1), (146, .invokestatic 50, 3), (149, .ifCond .eq 7, 3), (152, .iconst 1, 1), (153, .goto 4, 3), (156, .iconst 0, 1), (157, .istore 14, 2), (159, .iload 14, 2), (161, .ifCond .eq 24, 3), (164, .lload 12, 2), (166, .iload 8, 2), (168, .invokestatic 54, 3), (171, .ifCond .eq 14, 3), (174, .lload 12, 2), (176, .lload_n 2, 1), (177, .iload 8, 2), (179, .invokestatic 58, 3), (182, .goto 11, 3), (185, .iconst (-1), 1), (186, .iload 4, 2), (188, .invokestatic 9, 3), (191, .isub, 1), (192, .i2l, 1), (193, .lreturn, 1), (194, .lload 12, 2), (196, .ldc2_w 62, 3), (199, .land, 1), (200, .lconst 0, 1), (201, .lcmp, 1), (202, .ifCond .eq 12, 3), (205, .iconst (-1), 1), (206, .iload 4, 2), (208, .invokestatic 9, 3), (211, .isub, 1), (212, .i2l, 1), (213, .lreturn, 1), (214, .lload 12, 2), (216, .bipush 10, 2), (218, .lushr, 1), (219, .ldc2_w 21, 3), (222, .land, 1), (223, .bipush 12, 2), (225, .lshl, 1), (226, .lstore 6, 2), (228, .iinc 8 (-1), 3), (231, .goto (-194), 3), (234, .iconst (-1), 1), (235, .iload 4, 2), (237, .invokestatic 9, 3), (240, .isub, 1), (241, .i2l, 1), (242, .lreturn, 1)]
theorem da_X9_physical : dkL cX9_physical dl_X9_physical = true := by decide +kernel
def f_X9_physical_b185 (x4 : Int32) (u : St) : Option (Int64) := some (((-1 : Int32) - (f_X9_pageFault x4)).toInt64)
set_option maxRecDepth 100000 in
set_option maxHeartbeats 4000000 in
theorem b_X9_physical_b185 {p : Program} {l : Launch} {e : Env} {s : State} {m : MethodId} {args : Array Value} {below : List Frame} {meth : Method} {c : Code} {D : va_G} {cy : ClassId × ClassId × ClassId} {ad : Nat → Nat} {A : Nat → Prop} (E : CallFix p m c cX9_physical 15 s args gw RX9) (hr : meth.sig.returnType = some .long) (hlk : meth.locks = false) {x4 : Int32} {u : St} {r : Int64} (h : f_X9_physical_b185 x4 u = some r) {ls : Array Slot} {H : Heap} {locs : List Loc} {rr : Nat → Nat} (hl : lv_has ls 15 [(4, .int x4)]) (w : WX (wC cy ad) D cy rr u A s H locs) : Wx (wC cy ad) D p l e 1 26 0 s m args below meth c A u (some (.long r)) H locs 0 185 ls [] := by
  have hx := E.1
  have hb := E.2.1
  have hown := E.2.2.2.1
  have hts := E.2.2.2.2
  refine lv_iconst (v := (-1)) hx hb (dq da_X9_physical 99 rfl) rfl ?_
  refine lv_iload hx hb (dq da_X9_physical 100 rfl) (lv_at hl 0 rfl) ?_
  refine callP E (c_X9_pageFault l _ ) w_730 w_731 w_18 w_732 hd_X9_pageFault rfl hl.1 rfl (Nat.le_of_ble_eq_true rfl) ⟨Nat.le_of_ble_eq_true rfl, Nat.le_of_ble_eq_true rfl⟩ (by decide) (dq da_X9_physical 101 rfl) ?_
  refine lv_isub hx hb (dq da_X9_physical 102 rfl) ?_
  refine lv_i2l (v := ((-1 : Int32) - (f_X9_pageFault x4)).toInt64) hx hb (dq da_X9_physical 103 rfl) rfl ?_
  exact xret_l E hr hlk w (by decide) (os h) rfl (dq da_X9_physical 104 rfl)
def f_X9_physical_b157 (x2 : Int64) (x4 : Int32) (x8 : Int32) (x12 : Int64) (s0 : Int32) (u : St) : Option (Int64) := if s0 = (0 : Int32) then (f_X9_physical_b185 x4 u) else (if (f_X9_aligned x12 x8) = (0 : Int32) then (f_X9_physical_b185 x4 u) else (some (f_X9_joined x12 x2 x8)))
set_option maxRecDepth 100000 in
set_option maxHeartbeats 4000000 in
theorem b_X9_physical_b157 {p : Program} {l : Launch} {e : Env} {s : State} {m : MethodId} {args : Array Value} {below : List Frame} {meth : Method} {c : Code} {D : va_G} {cy : ClassId × ClassId × ClassId} {ad : Nat → Nat} {A : Nat → Prop} (E : CallFix p m c cX9_physical 15 s args gw RX9) (hr : meth.sig.returnType = some .long) (hlk : meth.locks = false) {x2 : Int64} {x4 : Int32} {x8 : Int32} {x12 : Int64} {s0 : Int32} {u : St} {r : Int64} (h : f_X9_physical_b157 x2 x4 x8 x12 s0 u = some r) {ls : Array Slot} {H : Heap} {locs : List Loc} {rr : Nat → Nat} (hl : lv_has ls 15 [(2, .long x2), (4, .int x4), (8, .int x8), (12, .long x12)]) (w : WX (wC cy ad) D cy rr u A s H locs) : Wx (wC cy ad) D p l e 1 26 0 s m args below meth c A u (some (.long r)) H locs 0 157 ls [.int s0] := by
  have hx := E.1
  have hb := E.2.1
  have hown := E.2.2.2.1
  have hts := E.2.2.2.2
  refine lv_istore (lv' := [(14, .int s0), (2, .long x2), (4, .int x4), (8, .int x8), (12, .long x12)]) hx hb (dq da_X9_physical 87 rfl) hl (by decide) rfl (fun ls hl => ?_)
  refine lv_iload hx hb (dq da_X9_physical 88 rfl) (lv_at hl 0 rfl) ?_
  refine lv_if_eq (tgt := 185) hx hb (dq da_X9_physical 89 rfl) (by decide) (fun c10 => ?_) (fun c10 => ?_)
  · have h := it c10 h
    exact b_X9_physical_b185 E hr hlk h (lv_sub hl [2] rfl) w
  · have h := ie c10 h
    refine lv_lload hx hb (dq da_X9_physical 90 rfl) (lv_at hl 4 rfl) ?_
    refine lv_iload hx hb (dq da_X9_physical 91 rfl) (lv_at hl 3 rfl) ?_
    refine callP E (c_X9_aligned l _ _ ) w_759 w_760 w_18 w_761 hd_X9_aligned rfl hl.1 rfl (Nat.le_of_ble_eq_true rfl) ⟨Nat.le_of_ble_eq_true rfl, Nat.le_of_ble_eq_true rfl⟩ (by decide) (dq da_X9_physical 92 rfl) ?_
    refine lv_if_eq (tgt := 185) hx hb (dq da_X9_physical 93 rfl) (by decide) (fun c11 => ?_) (fun c11 => ?_)
    · have h := it c11 h
      exact b_X9_physical_b185 E hr hlk h (lv_sub hl [2] rfl) w
    · have h := ie c11 h
      refine lv_lload hx hb (dq da_X9_physical 94 rfl) (lv_at hl 4 rfl) ?_
      refine lv_lload_n hx hb (dq da_X9_physical 95 rfl) rfl (lv_at hl 1 rfl) ?_
      refine lv_iload hx hb (dq da_X9_physical 96 rfl) (lv_at hl 3 rfl) ?_
      refine callP E (c_X9_joined l _ _ _ ) w_762 w_763 w_18 w_764 hd_X9_joined rfl hl.1 rfl (Nat.le_of_ble_eq_true rfl) ⟨Nat.le_of_ble_eq_true rfl, Nat.le_of_ble_eq_true rfl⟩ (by decide) (dq da_X9_physical 97 rfl) ?_
      refine lv_goto (tgt := 193) hx hb (dq da_X9_physical 98 rfl) (by decide) ?_
      exact xret_l E hr hlk w (by decide) (os h) rfl (dq da_X9_physical 104 rfl)
def f_X9_physical_b156 (x2 : Int64) (x4 : Int32) (x8 : Int32) (x12 : Int64) (u : St) : Option (Int64) := f_X9_physical_b157 x2 x4 x8 x12 (0 : Int32) u
set_option maxRecDepth 100000 in
set_option maxHeartbeats 4000000 in
theorem b_X9_physical_b156 {p : Program} {l : Launch} {e : Env} {s : State} {m : MethodId} {args : Array Value} {below : List Frame} {meth : Method} {c : Code} {D : va_G} {cy : ClassId × ClassId × ClassId} {ad : Nat → Nat} {A : Nat → Prop} (E : CallFix p m c cX9_physical 15 s args gw RX9) (hr : meth.sig.returnType = some .long) (hlk : meth.locks = false) {x2 : Int64} {x4 : Int32} {x8 : Int32} {x12 : Int64} {u : St} {r : Int64} (h : f_X9_physical_b156 x2 x4 x8 x12 u = some r) {ls : Array Slot} {H : Heap} {locs : List Loc} {rr : Nat → Nat} (hl : lv_has ls 15 [(2, .long x2), (4, .int x4), (8, .int x8), (12, .long x12)]) (w : WX (wC cy ad) D cy rr u A s H locs) : Wx (wC cy ad) D p l e 1 26 0 s m args below meth c A u (some (.long r)) H locs 0 156 ls [] := by
  have hx := E.1
  have hb := E.2.1
  have hown := E.2.2.2.1
  have hts := E.2.2.2.2
  refine lv_iconst (v := 0) hx hb (dq da_X9_physical 86 rfl) rfl ?_
  exact b_X9_physical_b157 E hr hlk h (lv_sub hl [0, 1, 2, 3] rfl) w
def f_X9_physical_b37_s (k37 : Int64 → Int32 → Int32 → Int64 → Int32 → St → Option (Int64)) (x2 : Int64) (x4 : Int32) (x5 : Int32) (x6 : Int64) (x8 : Int32) (u : St) : Option (Int64) := if x8 < (0 : Int32) then (some (((-1 : Int32) - (f_X9_pageFault x4)).toInt64)) else (if (f_X10_place (x6 + ((8 : Int64) * ((j_lushr x2 ((12 : Int32) + ((9 : Int32) * x8))) &&& (511 : Int64)))) (8 : Int32) u) = (-1 : Int32) then (some (((-1 : Int32) - (f_X9_accessFault x4)).toInt64)) else ((f_X10_read (f_X10_place (x6 + ((8 : Int64) * ((j_lushr x2 ((12 : Int32) + ((9 : Int32) * x8))) &&& (511 : Int64)))) (8 : Int32) u) (8 : Int32) u).bind (fun y4 => if (f_X9_broken y4) = (0 : Int32) then (if (y4 &&& (10 : Int64)) = (0 : Int64) then (if (y4 &&& (208 : Int64)) = (0 : Int64) then (k37 x2 x4 x5 (j_lshl ((j_lushr y4 (10 : Int32)) &&& (17592186044415 : Int64)) (12 : Int32)) (x8 + (-1 : Int32)) u) else (some (((-1 : Int32) - (f_X9_pageFault x4)).toInt64))) else (if (f_X9_opens y4 x4 u) = (0 : Int32) then (f_X9_physical_b156 x2 x4 x8 y4 u) else ((f_X9_admits y4 x4 x5 u).bind (fun y12 => if y12 = (0 : Int32) then (f_X9_physical_b156 x2 x4 x8 y4 u) else (f_X9_physical_b157 x2 x4 x8 y4 (1 : Int32) u))))) else (some (((-1 : Int32) - (f_X9_pageFault x4)).toInt64)))))
set_option maxRecDepth 100000 in
set_option maxHeartbeats 4000000 in
theorem b_X9_physical_b37_s {p : Program} {l : Launch} {e : Env} {s : State} {m : MethodId} {args : Array Value} {below : List Frame} {meth : Method} {c : Code} {D : va_G} {cy : ClassId × ClassId × ClassId} {ad : Nat → Nat} {A : Nat → Prop} (E : CallFix p m c cX9_physical 15 s args gw RX9) (hr : meth.sig.returnType = some .long) (hlk : meth.locks = false) {k37 : Int64 → Int32 → Int32 → Int64 → Int32 → St → Option (Int64)} (hk37 : ∀ (x2 : Int64) (x4 : Int32) (x5 : Int32) (x6 : Int64) (x8 : Int32) (u : St) (r : Int64), k37 x2 x4 x5 x6 x8 u = some r → ∀ (ls : Array Slot) (H : Heap) (locs : List Loc) (rr : Nat → Nat), lv_has ls 15 [(0, .ref (ad 15)), (1, .ref (ad 4)), (2, .long x2), (4, .int x4), (5, .int x5), (6, .long x6), (8, .int x8)] → WX (wC cy ad) D cy rr u A s H locs → Wx (wC cy ad) D p l e 1 26 0 s m args below meth c A u (some (.long r)) H locs 0 37 ls []) {x2 : Int64} {x4 : Int32} {x5 : Int32} {x6 : Int64} {x8 : Int32} {u : St} {r : Int64} (h : f_X9_physical_b37_s k37 x2 x4 x5 x6 x8 u = some r) {ls : Array Slot} {H : Heap} {locs : List Loc} {rr : Nat → Nat} (hl : lv_has ls 15 [(0, .ref (ad 15)), (1, .ref (ad 4)), (2, .long x2), (4, .int x4), (5, .int x5), (6, .long x6), (8, .int x8)]) (w : WX (wC cy ad) D cy rr u A s H locs) : Wx (wC cy ad) D p l e 1 26 0 s m args below meth c A u (some (.long r)) H locs 0 37 ls [] := by
  have hx := E.1
  have hb := E.2.1
  have hown := E.2.2.2.1
  have hts := E.2.2.2.2
  refine lv_iload hx hb (dq da_X9_physical 23 rfl) (lv_at hl 6 rfl) ?_
  refine lv_if_lt (tgt := 234) hx hb (dq da_X9_physical 24 rfl) (by decide) (fun c2 => ?_) (fun c2 => ?_)
  · have h := it c2 h
    refine lv_iconst (v := (-1)) hx hb (dq da_X9_physical 127 rfl) rfl ?_
    refine lv_iload hx hb (dq da_X9_physical 128 rfl) (lv_at hl 3 rfl) ?_
    refine callP E (c_X9_pageFault l _ ) w_730 w_731 w_18 w_732 hd_X9_pageFault rfl hl.1 rfl (Nat.le_of_ble_eq_true rfl) ⟨Nat.le_of_ble_eq_true rfl, Nat.le_of_ble_eq_true rfl⟩ (by decide) (dq da_X9_physical 129 rfl) ?_
    refine lv_isub hx hb (dq da_X9_physical 130 rfl) ?_
    refine lv_i2l (v := ((-1 : Int32) - (f_X9_pageFault x4)).toInt64) hx hb (dq da_X9_physical 131 rfl) rfl ?_
    exact xret_l E hr hlk w (by decide) (os h) rfl (dq da_X9_physical 132 rfl)
  · have h := ie c2 h
    refine lv_lload_n hx hb (dq da_X9_physical 25 rfl) rfl (lv_at hl 2 rfl) ?_
    refine lv_bipush (v := 12) hx hb (dq da_X9_physical 26 rfl) rfl ?_
    refine lv_bipush (v := 9) hx hb (dq da_X9_physical 27 rfl) rfl ?_
    refine lv_iload hx hb (dq da_X9_physical 28 rfl) (lv_at hl 6 rfl) ?_
    refine lv_imul hx hb (dq da_X9_physical 29 rfl) ?_
    refine lv_iadd hx hb (dq da_X9_physical 30 rfl) ?_
    refine lv_lushr (v := (j_lushr x2 ((12 : Int32) + ((9 : Int32) * x8)))) hx hb (dq da_X9_physical 31 rfl) rfl ?_
    refine lv_ldc2 hx hb hown (hts _ w_734) (dq da_X9_physical 32 rfl) ?_
    refine lv_land hx hb (dq da_X9_physical 33 rfl) ?_
    refine lv_lstore (lv' := [(9, .long ((j_lushr x2 ((12 : Int32) + ((9 : Int32) * x8))) &&& (511 : Int64))), (0, .ref (ad 15)), (1, .ref (ad 4)), (2, .long x2), (4, .int x4), (5, .int x5), (6, .long x6), (8, .int x8)]) hx hb (dq da_X9_physical 34 rfl) hl (by decide) rfl (fun ls hl => ?_)
    refine lv_aload_n hx hb (dq da_X9_physical 35 rfl) rfl (lv_at hl 2 rfl) ?_
    refine lv_lload hx hb (dq da_X9_physical 36 rfl) (lv_at hl 6 rfl) ?_
    refine lv_ldc2 hx hb hown (hts _ w_735) (dq da_X9_physical 37 rfl) ?_
    refine lv_lload hx hb (dq da_X9_physical 38 rfl) (lv_at hl 0 rfl) ?_
    refine lv_lmul hx hb (dq da_X9_physical 39 rfl) ?_
    refine lv_ladd hx hb (dq da_X9_physical 40 rfl) ?_
    refine lv_bipush (v := 8) hx hb (dq da_X9_physical 41 rfl) rfl ?_
    refine cV1 E (c_X10_place l D cy ad _ _ _ ) w_736 w_346 w_347 w_4 w_348 rfl hd_X10_place rfl hl.1 rfl (Nat.le_of_ble_eq_true rfl) ⟨Nat.le_of_ble_eq_true rfl, Nat.le_of_ble_eq_true rfl⟩ (by decide) w (rc_wC_4 w) (dq da_X9_physical 42 rfl) (fun H locs rr w => ?_)
    refine lv_istore (lv' := [(11, .int (f_X10_place (x6 + ((8 : Int64) * ((j_lushr x2 ((12 : Int32) + ((9 : Int32) * x8))) &&& (511 : Int64)))) (8 : Int32) u)), (9, .long ((j_lushr x2 ((12 : Int32) + ((9 : Int32) * x8))) &&& (511 : Int64))), (0, .ref (ad 15)), (1, .ref (ad 4)), (2, .long x2), (4, .int x4), (5, .int x5), (6, .long x6), (8, .int x8)]) hx hb (dq da_X9_physical 43 rfl) hl (by decide) rfl (fun ls hl => ?_)
    refine lv_iload hx hb (dq da_X9_physical 44 rfl) (lv_at hl 0 rfl) ?_
    refine lv_iconst (v := (-1)) hx hb (dq da_X9_physical 45 rfl) rfl ?_
    refine lv_icmp_ne (tgt := 90) hx hb (dq da_X9_physical 46 rfl) (by decide) (fun c3 => ?_) (fun c3 => ?_)
    · have h := ie c3 h
      refine lv_aload_n hx hb (dq da_X9_physical 53 rfl) rfl (lv_at hl 3 rfl) ?_
      refine lv_iload hx hb (dq da_X9_physical 54 rfl) (lv_at hl 0 rfl) ?_
      refine lv_bipush (v := 8) hx hb (dq da_X9_physical 55 rfl) rfl ?_
      obtain ⟨y4, hy5, h⟩ := ob h
      refine cV1 E (c_X10_read l D cy ad _ _ _ hy5) w_740 w_525 w_526 w_4 w_527 rfl hd_X10_read rfl hl.1 rfl (Nat.le_of_ble_eq_true rfl) ⟨Nat.le_of_ble_eq_true rfl, Nat.le_of_ble_eq_true rfl⟩ (by decide) w (rc_wC_4 w) (dq da_X9_physical 56 rfl) (fun H locs rr w => ?_)
      refine lv_lstore (lv' := [(12, .long y4), (11, .int (f_X10_place (x6 + ((8 : Int64) * ((j_lushr x2 ((12 : Int32) + ((9 : Int32) * x8))) &&& (511 : Int64)))) (8 : Int32) u)), (9, .long ((j_lushr x2 ((12 : Int32) + ((9 : Int32) * x8))) &&& (511 : Int64))), (0, .ref (ad 15)), (1, .ref (ad 4)), (2, .long x2), (4, .int x4), (5, .int x5), (6, .long x6), (8, .int x8)]) hx hb (dq da_X9_physical 57 rfl) hl (by decide) rfl (fun ls hl => ?_)
      refine lv_lload hx hb (dq da_X9_physical 58 rfl) (lv_at hl 0 rfl) ?_
      refine callP E (c_X9_broken l _ ) w_741 w_742 w_18 w_743 hd_X9_broken rfl hl.1 rfl (Nat.le_of_ble_eq_true rfl) ⟨Nat.le_of_ble_eq_true rfl, Nat.le_of_ble_eq_true rfl⟩ (by decide) (dq da_X9_physical 59 rfl) ?_
      refine lv_if_eq (tgt := 117) hx hb (dq da_X9_physical 60 rfl) (by decide) (fun c6 => ?_) (fun c6 => ?_)
      · have h := it c6 h
        refine lv_lload hx hb (dq da_X9_physical 67 rfl) (lv_at hl 0 rfl) ?_
        refine lv_ldc2 hx hb hown (hts _ w_746) (dq da_X9_physical 68 rfl) ?_
        refine lv_land hx hb (dq da_X9_physical 69 rfl) ?_
        refine lv_lconst (v := 0) hx hb (dq da_X9_physical 70 rfl) rfl ?_
        refine lc_eq (tgt := 194) hx hb (dq da_X9_physical 71 rfl) (dq da_X9_physical 72 rfl) (by decide) (fun c7 => ?_) (fun c7 => ?_)
        · have h := it c7 h
          refine lv_lload hx hb (dq da_X9_physical 105 rfl) (lv_at hl 0 rfl) ?_
          refine lv_ldc2 hx hb hown (hts _ w_766) (dq da_X9_physical 106 rfl) ?_
          refine lv_land hx hb (dq da_X9_physical 107 rfl) ?_
          refine lv_lconst (v := 0) hx hb (dq da_X9_physical 108 rfl) rfl ?_
          refine lc_eq (tgt := 214) hx hb (dq da_X9_physical 109 rfl) (dq da_X9_physical 110 rfl) (by decide) (fun c8 => ?_) (fun c8 => ?_)
          · have h := it c8 h
            refine lv_lload hx hb (dq da_X9_physical 117 rfl) (lv_at hl 0 rfl) ?_
            refine lv_bipush (v := 10) hx hb (dq da_X9_physical 118 rfl) rfl ?_
            refine lv_lushr (v := (j_lushr y4 (10 : Int32))) hx hb (dq da_X9_physical 119 rfl) rfl ?_
            refine lv_ldc2 hx hb hown (hts _ w_733) (dq da_X9_physical 120 rfl) ?_
            refine lv_land hx hb (dq da_X9_physical 121 rfl) ?_
            refine lv_bipush (v := 12) hx hb (dq da_X9_physical 122 rfl) rfl ?_
            refine lv_lshl (v := (j_lshl ((j_lushr y4 (10 : Int32)) &&& (17592186044415 : Int64)) (12 : Int32))) hx hb (dq da_X9_physical 123 rfl) rfl ?_
            refine lv_lstore (lv' := [(6, .long (j_lshl ((j_lushr y4 (10 : Int32)) &&& (17592186044415 : Int64)) (12 : Int32))), (12, .long y4), (11, .int (f_X10_place (x6 + ((8 : Int64) * ((j_lushr x2 ((12 : Int32) + ((9 : Int32) * x8))) &&& (511 : Int64)))) (8 : Int32) u)), (9, .long ((j_lushr x2 ((12 : Int32) + ((9 : Int32) * x8))) &&& (511 : Int64))), (0, .ref (ad 15)), (1, .ref (ad 4)), (2, .long x2), (4, .int x4), (5, .int x5), (8, .int x8)]) hx hb (dq da_X9_physical 124 rfl) hl (by decide) rfl (fun ls hl => ?_)
            refine lv_iinc (v := (x8 + (-1 : Int32))) (lv' := [(8, .int (x8 + (-1 : Int32))), (6, .long (j_lshl ((j_lushr y4 (10 : Int32)) &&& (17592186044415 : Int64)) (12 : Int32))), (12, .long y4), (11, .int (f_X10_place (x6 + ((8 : Int64) * ((j_lushr x2 ((12 : Int32) + ((9 : Int32) * x8))) &&& (511 : Int64)))) (8 : Int32) u)), (9, .long ((j_lushr x2 ((12 : Int32) + ((9 : Int32) * x8))) &&& (511 : Int64))), (0, .ref (ad 15)), (1, .ref (ad 4)), (2, .long x2), (4, .int x4), (5, .int x5)]) hx hb (dq da_X9_physical 125 rfl) hl (k := 9) rfl rfl (by decide) rfl (fun ls hl => ?_)
            refine lv_goto (tgt := 37) hx hb (dq da_X9_physical 126 rfl) (by decide) ?_
            exact hk37 _ _ _ _ _ _ _ h ls _ _ _ (lv_sub hl [5, 6, 7, 8, 9, 1, 0] rfl) w
          · have h := ie c8 h
            refine lv_iconst (v := (-1)) hx hb (dq da_X9_physical 111 rfl) rfl ?_
            refine lv_iload hx hb (dq da_X9_physical 112 rfl) (lv_at hl 6 rfl) ?_
            refine callP E (c_X9_pageFault l _ ) w_730 w_731 w_18 w_732 hd_X9_pageFault rfl hl.1 rfl (Nat.le_of_ble_eq_true rfl) ⟨Nat.le_of_ble_eq_true rfl, Nat.le_of_ble_eq_true rfl⟩ (by decide) (dq da_X9_physical 113 rfl) ?_
            refine lv_isub hx hb (dq da_X9_physical 114 rfl) ?_
            refine lv_i2l (v := ((-1 : Int32) - (f_X9_pageFault x4)).toInt64) hx hb (dq da_X9_physical 115 rfl) rfl ?_
            exact xret_l E hr hlk w (by decide) (os h) rfl (dq da_X9_physical 116 rfl)
        · have h := ie c7 h
          refine lv_lload hx hb (dq da_X9_physical 73 rfl) (lv_at hl 0 rfl) ?_
          refine lv_iload hx hb (dq da_X9_physical 74 rfl) (lv_at hl 6 rfl) ?_
          refine lv_aload_n hx hb (dq da_X9_physical 75 rfl) rfl (lv_at hl 3 rfl) ?_
          refine cS1 E (c_X9_opens l D cy ad _ _ _ ) w_747 w_748 w_18 w_749 hd_X9_opens rfl hl.1 rfl (Nat.le_of_ble_eq_true rfl) ⟨Nat.le_of_ble_eq_true rfl, Nat.le_of_ble_eq_true rfl⟩ (by decide) w (dq da_X9_physical 76 rfl) (fun H locs rr w => ?_)
          refine lv_if_eq (tgt := 156) hx hb (dq da_X9_physical 77 rfl) (by decide) (fun c9 => ?_) (fun c9 => ?_)
          · have h := it c9 h
            exact b_X9_physical_b156 E hr hlk h (lv_sub hl [5, 6, 9, 0] rfl) w
          · have h := ie c9 h
            refine lv_lload hx hb (dq da_X9_physical 78 rfl) (lv_at hl 0 rfl) ?_
            refine lv_iload hx hb (dq da_X9_physical 79 rfl) (lv_at hl 6 rfl) ?_
            refine lv_iload hx hb (dq da_X9_physical 80 rfl) (lv_at hl 7 rfl) ?_
            refine lv_aload_n hx hb (dq da_X9_physical 81 rfl) rfl (lv_at hl 3 rfl) ?_
            obtain ⟨y12, hy13, h⟩ := ob h
            refine cS1 E (c_X9_admits l D cy ad _ _ _ _ hy13) w_754 w_755 w_18 w_756 hd_X9_admits rfl hl.1 rfl (Nat.le_of_ble_eq_true rfl) ⟨Nat.le_of_ble_eq_true rfl, Nat.le_of_ble_eq_true rfl⟩ (by decide) w (dq da_X9_physical 82 rfl) (fun H locs rr w => ?_)
            refine lv_if_eq (tgt := 156) hx hb (dq da_X9_physical 83 rfl) (by decide) (fun c14 => ?_) (fun c14 => ?_)
            · have h := it c14 h
              exact b_X9_physical_b156 E hr hlk h (lv_sub hl [5, 6, 9, 0] rfl) w
            · have h := ie c14 h
              refine lv_iconst (v := 1) hx hb (dq da_X9_physical 84 rfl) rfl ?_
              refine lv_goto (tgt := 157) hx hb (dq da_X9_physical 85 rfl) (by decide) ?_
              exact b_X9_physical_b157 E hr hlk h (lv_sub hl [5, 6, 9, 0] rfl) w
      · have h := ie c6 h
        refine lv_iconst (v := (-1)) hx hb (dq da_X9_physical 61 rfl) rfl ?_
        refine lv_iload hx hb (dq da_X9_physical 62 rfl) (lv_at hl 6 rfl) ?_
        refine callP E (c_X9_pageFault l _ ) w_730 w_731 w_18 w_732 hd_X9_pageFault rfl hl.1 rfl (Nat.le_of_ble_eq_true rfl) ⟨Nat.le_of_ble_eq_true rfl, Nat.le_of_ble_eq_true rfl⟩ (by decide) (dq da_X9_physical 63 rfl) ?_
        refine lv_isub hx hb (dq da_X9_physical 64 rfl) ?_
        refine lv_i2l (v := ((-1 : Int32) - (f_X9_pageFault x4)).toInt64) hx hb (dq da_X9_physical 65 rfl) rfl ?_
        exact xret_l E hr hlk w (by decide) (os h) rfl (dq da_X9_physical 66 rfl)
    · have h := it c3 h
      refine lv_iconst (v := (-1)) hx hb (dq da_X9_physical 47 rfl) rfl ?_
      refine lv_iload hx hb (dq da_X9_physical 48 rfl) (lv_at hl 5 rfl) ?_
      refine callP E (c_X9_accessFault l _ ) w_737 w_738 w_18 w_739 hd_X9_accessFault rfl hl.1 rfl (Nat.le_of_ble_eq_true rfl) ⟨Nat.le_of_ble_eq_true rfl, Nat.le_of_ble_eq_true rfl⟩ (by decide) (dq da_X9_physical 49 rfl) ?_
      refine lv_isub hx hb (dq da_X9_physical 50 rfl) ?_
      refine lv_i2l (v := ((-1 : Int32) - (f_X9_accessFault x4)).toInt64) hx hb (dq da_X9_physical 51 rfl) rfl ?_
      exact xret_l E hr hlk w (by decide) (os h) rfl (dq da_X9_physical 52 rfl)
def f_X9_physical_b37 : Nat → Int64 → Int32 → Int32 → Int64 → Int32 → St → Option (Int64)
  | 0 => fun _ _ _ _ _ _ => none
  | n + 1 => f_X9_physical_b37_s (f_X9_physical_b37 n)
theorem b_X9_physical_b37 {p : Program} {l : Launch} {e : Env} {s : State} {m : MethodId} {args : Array Value} {below : List Frame} {meth : Method} {c : Code} {D : va_G} {cy : ClassId × ClassId × ClassId} {ad : Nat → Nat} {A : Nat → Prop} (E : CallFix p m c cX9_physical 15 s args gw RX9) (hr : meth.sig.returnType = some .long) (hlk : meth.locks = false) : ∀ n : Nat, ∀ (x2 : Int64) (x4 : Int32) (x5 : Int32) (x6 : Int64) (x8 : Int32) (u : St) (r : Int64), f_X9_physical_b37 n x2 x4 x5 x6 x8 u = some r → ∀ (ls : Array Slot) (H : Heap) (locs : List Loc) (rr : Nat → Nat), lv_has ls 15 [(0, .ref (ad 15)), (1, .ref (ad 4)), (2, .long x2), (4, .int x4), (5, .int x5), (6, .long x6), (8, .int x8)] → WX (wC cy ad) D cy rr u A s H locs → Wx (wC cy ad) D p l e 1 26 0 s m args below meth c A u (some (.long r)) H locs 0 37 ls [] := by
  intro n
  induction n with
  | zero => intro x2 x4 x5 x6 x8 u r h; cases h
  | succ n ih => intro x2 x4 x5 x6 x8 u r h ls H locs rr hl w; exact b_X9_physical_b37_s E hr hlk ih h hl w
def f_X9_physical (x2 : Int64) (x4 : Int32) (x5 : Int32) (u : St) : Option (Int64) := if (j_lshr (j_lshl x2 (25 : Int32)) (25 : Int32)) = x2 then (f_X9_physical_b37 FU x2 x4 x5 (j_lshl ((gL u 9) &&& (17592186044415 : Int64)) (12 : Int32)) (2 : Int32) u) else (some (((-1 : Int32) - (f_X9_pageFault x4)).toInt64))
set_option maxRecDepth 100000 in
set_option maxHeartbeats 4000000 in
theorem c_X9_physical (l : Launch) (D : va_G) (cy : ClassId × ClassId × ClassId) (ad : Nat → Nat) (x2 : Int64) (x4 : Int32) (x5 : Int32) (u : St) {r : Int64} (h : f_X9_physical x2 x4 x5 u = some r) : MX (wC cy ad) D cy l yX9_physical cX9_physical 15 (some .long) 1 26 0 [.ref (ad 15), .ref (ad 4), .long x2, .int x4, .int x5] u u (some (.long (r))) := by
  refine entX (by decide +kernel) (Nat.le_of_ble_eq_true rfl) ?_
  intro p e s m args below meth c ls rr A E hr hlk hl w
  have hl : lv_has ls 15 [(0, .ref (ad 15)), (1, .ref (ad 4)), (2, .long x2), (4, .int x4), (5, .int x5)] := hl
  have hx := E.1
  have hb := E.2.1
  have hown := E.2.2.2.1
  have hts := E.2.2.2.2
  refine lv_lload_n hx hb (dq da_X9_physical 0 rfl) rfl (lv_at hl 2 rfl) ?_
  refine lv_bipush (v := 25) hx hb (dq da_X9_physical 1 rfl) rfl ?_
  refine lv_lshl (v := (j_lshl x2 (25 : Int32))) hx hb (dq da_X9_physical 2 rfl) rfl ?_
  refine lv_bipush (v := 25) hx hb (dq da_X9_physical 3 rfl) rfl ?_
  refine lv_lshr (v := (j_lshr (j_lshl x2 (25 : Int32)) (25 : Int32))) hx hb (dq da_X9_physical 4 rfl) rfl ?_
  refine lv_lload_n hx hb (dq da_X9_physical 5 rfl) rfl (lv_at hl 2 rfl) ?_
  refine lc_eq (tgt := 21) hx hb (dq da_X9_physical 6 rfl) (dq da_X9_physical 7 rfl) (by decide) (fun c1 => ?_) (fun c1 => ?_)
  · have h := it c1 h
    refine lv_aload_n hx hb (dq da_X9_physical 14 rfl) rfl (lv_at hl 0 rfl) ?_
    refine gtN_wC_15_satp E w n_27 (dq da_X9_physical 15 rfl) ?_
    refine lv_ldc2 hx hb hown (hts _ w_733) (dq da_X9_physical 16 rfl) ?_
    refine lv_land hx hb (dq da_X9_physical 17 rfl) ?_
    refine lv_bipush (v := 12) hx hb (dq da_X9_physical 18 rfl) rfl ?_
    refine lv_lshl (v := (j_lshl ((gL u 9) &&& (17592186044415 : Int64)) (12 : Int32))) hx hb (dq da_X9_physical 19 rfl) rfl ?_
    refine lv_lstore (lv' := [(6, .long (j_lshl ((gL u 9) &&& (17592186044415 : Int64)) (12 : Int32))), (0, .ref (ad 15)), (1, .ref (ad 4)), (2, .long x2), (4, .int x4), (5, .int x5)]) hx hb (dq da_X9_physical 20 rfl) hl (by decide) rfl (fun ls hl => ?_)
    refine lv_iconst (v := 2) hx hb (dq da_X9_physical 21 rfl) rfl ?_
    refine lv_istore (lv' := [(8, .int (2 : Int32)), (6, .long (j_lshl ((gL u 9) &&& (17592186044415 : Int64)) (12 : Int32))), (0, .ref (ad 15)), (1, .ref (ad 4)), (2, .long x2), (4, .int x4), (5, .int x5)]) hx hb (dq da_X9_physical 22 rfl) hl (by decide) rfl (fun ls hl => ?_)
    exact b_X9_physical_b37 E hr hlk FU _ _ _ _ _ _ _ h ls _ _ _ (lv_sub hl [2, 3, 4, 5, 6, 1, 0] rfl) w
  · have h := ie c1 h
    refine lv_iconst (v := (-1)) hx hb (dq da_X9_physical 8 rfl) rfl ?_
    refine lv_iload hx hb (dq da_X9_physical 9 rfl) (lv_at hl 3 rfl) ?_
    refine callP E (c_X9_pageFault l _ ) w_730 w_731 w_18 w_732 hd_X9_pageFault rfl hl.1 rfl (Nat.le_of_ble_eq_true rfl) ⟨Nat.le_of_ble_eq_true rfl, Nat.le_of_ble_eq_true rfl⟩ (by decide) (dq da_X9_physical 10 rfl) ?_
    refine lv_isub hx hb (dq da_X9_physical 11 rfl) ?_
    refine lv_i2l (v := ((-1 : Int32) - (f_X9_pageFault x4)).toInt64) hx hb (dq da_X9_physical 12 rfl) rfl ?_
    exact xret_l E hr hlk w (by decide) (os h) rfl (dq da_X9_physical 13 rfl)
def dl_X1_read : List (Nat × Instr × Nat) := [(0, .aload_n 0, 1), (1, .iconst 0, 1), (2, .putfield 35, 3), (5, .aload_n 0, 1), (6, .getfield 31, 3), (9, .lload_n 1, 1), (10, .iload_n 3, 1), (11, .invokevirtual 39, 3), (14, .istore 4, 2), (16, .iload 4, 2), (18, .iconst (-1), 1), (19, .if_icmp .eq 14, 3), (22, .aload_n 0, 1), (23, .getfield 31, 3), (26, .iload 4, 2), (28, .iload_n 3, 1), (29, .invokevirtual 45, 3), (32, .lreturn, 1), (33, .iload_n 3, 1), (34, .iconst 1, 1), (35, .if_icmp .ne 28, 3), (38, .lload_n 1, 1), (39, .ldc2_w 49, 3), (42, .land, 1), (43, .ldc2_w 51, 3), (46, .lcmp, 1), (47, .ifCond .ne 16, 3), (50, .aload_n 0, 1), (51, .getfield 21, 3), (54, .lload_n 1, 1), (55, .l2i, 1), (56, .bipush 7, 2), (58, .iand, 1), (59, .invokevirtual 53, 3), (62, .lreturn, 1), (63, .iload_n 3, 1), (64, .iconst 4, 1), (65, .if_icmp .ne 28, 3), (68, .lload_n 1, 1), (69, .ldc2_w 56, 3), (72, .lsub, 1), (73, .invokestatic 58, 3), (76, .ifCond .eq 17, 3), (79, .aload_n 0, 1), (80, .getfield 12, 3), (83, .lload_n 1, 1), (84, .ldc2_w 56, 3), (87, .lsub, 1), (88, .l2i, 1), (89, .invokevirtual 62, 3), (92, .lreturn, 1), (93, .iload_n 3, 1), (94, .iconst 4, 1), (95, .if_icmp .ne 16, 3), (98, .lload_n 1, 1), (99, .ldc2_w 63, 3), (102, .lcmp, 1), (103, .ifCond .ne 8, 3), (106, .aload_n 0, 1), (107, .getfield 65, 3), (110, .lreturn, 1), (111, .iload_n 3, 1), (112, .iconst 4, 1), (113, .if_icmp .lt 25, 3), (116, .lload_n 1, 1), (117, .ldc2_w 49, 3), (120, .land, 1), (121, .ldc2_w 68, 3), (124, .lcmp, 1), (125, .ifCond .ne 13, 3), (128, .aload_n 0, 1), (129, .getfield 27, 3), (132, .lload_n 1, 1), (133, .iload_n 3, 1), (134, .invokestatic 70, 3), (137, .lreturn, 1), (138, .iload_n 3, 1), (139, .iconst 4, 1), (140, .if_icmp .lt 25, 3), (143, .lload_n 1, 1), (144, .ldc2_w 49, 3), (147, .land, 1), (148, .ldc2_w 74, 3), (151, .lcmp, 1), (152, .ifCond .ne 13, 3), (155, .aload_n 0, 1), (156, .getfield 76, 3), (159, .lload_n 1, 1), (160, .iload_n 3, 1), (161, .invokestatic 70, 3), (164, .lreturn, 1), (165, .aload_n 0, 1), (166, .iconst 1, 1), (167, .putfield 35, 3), (170, .lconst 0, 1), (171, .lreturn, 1)]
theorem da_X1_read : dkL cX1_read dl_X1_read = true := by decide +kernel
def f_X1_read_b165 (u : St) : Option (Int64 × St) := some ((0 : Int64), (sI u 3 (1 : Int32)))
set_option maxRecDepth 100000 in
set_option maxHeartbeats 4000000 in
theorem b_X1_read_b165 {p : Program} {l : Launch} {e : Env} {s : State} {m : MethodId} {args : Array Value} {below : List Frame} {meth : Method} {c : Code} {D : va_G} {cy : ClassId × ClassId × ClassId} {ad : Nat → Nat} {A : Nat → Prop} (E : CallFix p m c cX1_read 5 s args gw RX1) (hr : meth.sig.returnType = some .long) (hlk : meth.locks = false) {u : St} {r : Int64} {u' : St} (h : f_X1_read_b165 u = some (r, u')) {ls : Array Slot} {H : Heap} {locs : List Loc} {rr : Nat → Nat} (hl : lv_has ls 5 [(0, .ref (ad 3))]) (w : WX (wC cy ad) D cy rr u A s H locs) : Wx (wC cy ad) D p l e 2 45 0 s m args below meth c A u' (some (.long r)) H locs 0 165 ls [] := by
  have hx := E.1
  have hb := E.2.1
  have hown := E.2.2.2.1
  have hts := E.2.2.2.2
  refine lv_aload_n hx hb (dq da_X1_read 91 rfl) rfl (lv_at hl 0 rfl) ?_
  refine lv_iconst (v := 1) hx hb (dq da_X1_read 92 rfl) rfl ?_
  refine pt_wC_3_failed E w w_135 rfl (by decide +kernel) (dq da_X1_read 93 rfl) (fun H locs w => ?_)
  refine lv_lconst (v := 0) hx hb (dq da_X1_read 94 rfl) rfl ?_
  exact xret_l E hr hlk w (by decide) (congrArg Prod.fst (os h)) (congrArg Prod.snd (os h)) (dq da_X1_read 95 rfl)
def f_X1_read_b138 (x1 : Int64) (x3 : Int32) (u : St) : Option (Int64 × St) := if x3 < (4 : Int32) then (f_X1_read_b165 u) else (if (x1 &&& (-8 : Int64)) = (33603576 : Int64) then (some ((f_X1_part (gL u 2) x1 x3), u)) else (f_X1_read_b165 u))
set_option maxRecDepth 100000 in
set_option maxHeartbeats 4000000 in
theorem b_X1_read_b138 {p : Program} {l : Launch} {e : Env} {s : State} {m : MethodId} {args : Array Value} {below : List Frame} {meth : Method} {c : Code} {D : va_G} {cy : ClassId × ClassId × ClassId} {ad : Nat → Nat} {A : Nat → Prop} (E : CallFix p m c cX1_read 5 s args gw RX1) (hr : meth.sig.returnType = some .long) (hlk : meth.locks = false) {x1 : Int64} {x3 : Int32} {u : St} {r : Int64} {u' : St} (h : f_X1_read_b138 x1 x3 u = some (r, u')) {ls : Array Slot} {H : Heap} {locs : List Loc} {rr : Nat → Nat} (hl : lv_has ls 5 [(0, .ref (ad 3)), (1, .long x1), (3, .int x3)]) (w : WX (wC cy ad) D cy rr u A s H locs) : Wx (wC cy ad) D p l e 2 45 0 s m args below meth c A u' (some (.long r)) H locs 0 138 ls [] := by
  have hx := E.1
  have hb := E.2.1
  have hown := E.2.2.2.1
  have hts := E.2.2.2.2
  refine lv_iload_n hx hb (dq da_X1_read 76 rfl) rfl (lv_at hl 2 rfl) ?_
  refine lv_iconst (v := 4) hx hb (dq da_X1_read 77 rfl) rfl ?_
  refine lv_icmp_lt (tgt := 165) hx hb (dq da_X1_read 78 rfl) (by decide) (fun c6 => ?_) (fun c6 => ?_)
  · have h := it c6 h
    exact b_X1_read_b165 E hr hlk h (lv_sub hl [0] rfl) w
  · have h := ie c6 h
    refine lv_lload_n hx hb (dq da_X1_read 79 rfl) rfl (lv_at hl 1 rfl) ?_
    refine lv_ldc2 hx hb hown (hts _ w_871) (dq da_X1_read 80 rfl) ?_
    refine lv_land hx hb (dq da_X1_read 81 rfl) ?_
    refine lv_ldc2 hx hb hown (hts _ w_911) (dq da_X1_read 82 rfl) ?_
    refine lc_ne (tgt := 165) hx hb (dq da_X1_read 83 rfl) (dq da_X1_read 84 rfl) (by decide) (fun c7 => ?_) (fun c7 => ?_)
    · have h := ie c7 h
      exact b_X1_read_b165 E hr hlk h (lv_sub hl [0] rfl) w
    · have h := it c7 h
      refine lv_aload_n hx hb (dq da_X1_read 85 rfl) rfl (lv_at hl 0 rfl) ?_
      refine gt_wC_3_time E w w_133 (dq da_X1_read 86 rfl) ?_
      refine lv_lload_n hx hb (dq da_X1_read 87 rfl) rfl (lv_at hl 1 rfl) ?_
      refine lv_iload_n hx hb (dq da_X1_read 88 rfl) rfl (lv_at hl 2 rfl) ?_
      refine callP E (c_X1_part l _ _ _ ) w_907 w_908 w_3 w_909 hd_X1_part rfl hl.1 rfl (Nat.le_of_ble_eq_true rfl) ⟨Nat.le_of_ble_eq_true rfl, Nat.le_of_ble_eq_true rfl⟩ (by decide) (dq da_X1_read 89 rfl) ?_
      exact xret_l E hr hlk w (by decide) (congrArg Prod.fst (os h)) (congrArg Prod.snd (os h)) (dq da_X1_read 90 rfl)
def f_X1_read_b111 (x1 : Int64) (x3 : Int32) (u : St) : Option (Int64 × St) := if x3 < (4 : Int32) then (f_X1_read_b138 x1 x3 u) else (if (x1 &&& (-8 : Int64)) = (33570816 : Int64) then (some ((f_X1_part (gL u 1) x1 x3), u)) else (f_X1_read_b138 x1 x3 u))
set_option maxRecDepth 100000 in
set_option maxHeartbeats 4000000 in
theorem b_X1_read_b111 {p : Program} {l : Launch} {e : Env} {s : State} {m : MethodId} {args : Array Value} {below : List Frame} {meth : Method} {c : Code} {D : va_G} {cy : ClassId × ClassId × ClassId} {ad : Nat → Nat} {A : Nat → Prop} (E : CallFix p m c cX1_read 5 s args gw RX1) (hr : meth.sig.returnType = some .long) (hlk : meth.locks = false) {x1 : Int64} {x3 : Int32} {u : St} {r : Int64} {u' : St} (h : f_X1_read_b111 x1 x3 u = some (r, u')) {ls : Array Slot} {H : Heap} {locs : List Loc} {rr : Nat → Nat} (hl : lv_has ls 5 [(0, .ref (ad 3)), (1, .long x1), (3, .int x3)]) (w : WX (wC cy ad) D cy rr u A s H locs) : Wx (wC cy ad) D p l e 2 45 0 s m args below meth c A u' (some (.long r)) H locs 0 111 ls [] := by
  have hx := E.1
  have hb := E.2.1
  have hown := E.2.2.2.1
  have hts := E.2.2.2.2
  refine lv_iload_n hx hb (dq da_X1_read 61 rfl) rfl (lv_at hl 2 rfl) ?_
  refine lv_iconst (v := 4) hx hb (dq da_X1_read 62 rfl) rfl ?_
  refine lv_icmp_lt (tgt := 138) hx hb (dq da_X1_read 63 rfl) (by decide) (fun c5 => ?_) (fun c5 => ?_)
  · have h := it c5 h
    exact b_X1_read_b138 E hr hlk h (lv_sub hl [0, 1, 2] rfl) w
  · have h := ie c5 h
    refine lv_lload_n hx hb (dq da_X1_read 64 rfl) rfl (lv_at hl 1 rfl) ?_
    refine lv_ldc2 hx hb hown (hts _ w_871) (dq da_X1_read 65 rfl) ?_
    refine lv_land hx hb (dq da_X1_read 66 rfl) ?_
    refine lv_ldc2 hx hb hown (hts _ w_906) (dq da_X1_read 67 rfl) ?_
    refine lc_ne (tgt := 138) hx hb (dq da_X1_read 68 rfl) (dq da_X1_read 69 rfl) (by decide) (fun c8 => ?_) (fun c8 => ?_)
    · have h := ie c8 h
      exact b_X1_read_b138 E hr hlk h (lv_sub hl [0, 1, 2] rfl) w
    · have h := it c8 h
      refine lv_aload_n hx hb (dq da_X1_read 70 rfl) rfl (lv_at hl 0 rfl) ?_
      refine gt_wC_3_compare E w w_130 (dq da_X1_read 71 rfl) ?_
      refine lv_lload_n hx hb (dq da_X1_read 72 rfl) rfl (lv_at hl 1 rfl) ?_
      refine lv_iload_n hx hb (dq da_X1_read 73 rfl) rfl (lv_at hl 2 rfl) ?_
      refine callP E (c_X1_part l _ _ _ ) w_907 w_908 w_3 w_909 hd_X1_part rfl hl.1 rfl (Nat.le_of_ble_eq_true rfl) ⟨Nat.le_of_ble_eq_true rfl, Nat.le_of_ble_eq_true rfl⟩ (by decide) (dq da_X1_read 74 rfl) ?_
      exact xret_l E hr hlk w (by decide) (congrArg Prod.fst (os h)) (congrArg Prod.snd (os h)) (dq da_X1_read 75 rfl)
def f_X1_read_b93 (x1 : Int64) (x3 : Int32) (u : St) : Option (Int64 × St) := if x3 = (4 : Int32) then (if x1 = (33554432 : Int64) then (some ((gL u 0), u)) else (f_X1_read_b111 x1 x3 u)) else (f_X1_read_b111 x1 x3 u)
set_option maxRecDepth 100000 in
set_option maxHeartbeats 4000000 in
theorem b_X1_read_b93 {p : Program} {l : Launch} {e : Env} {s : State} {m : MethodId} {args : Array Value} {below : List Frame} {meth : Method} {c : Code} {D : va_G} {cy : ClassId × ClassId × ClassId} {ad : Nat → Nat} {A : Nat → Prop} (E : CallFix p m c cX1_read 5 s args gw RX1) (hr : meth.sig.returnType = some .long) (hlk : meth.locks = false) {x1 : Int64} {x3 : Int32} {u : St} {r : Int64} {u' : St} (h : f_X1_read_b93 x1 x3 u = some (r, u')) {ls : Array Slot} {H : Heap} {locs : List Loc} {rr : Nat → Nat} (hl : lv_has ls 5 [(0, .ref (ad 3)), (1, .long x1), (3, .int x3)]) (w : WX (wC cy ad) D cy rr u A s H locs) : Wx (wC cy ad) D p l e 2 45 0 s m args below meth c A u' (some (.long r)) H locs 0 93 ls [] := by
  have hx := E.1
  have hb := E.2.1
  have hown := E.2.2.2.1
  have hts := E.2.2.2.2
  refine lv_iload_n hx hb (dq da_X1_read 51 rfl) rfl (lv_at hl 2 rfl) ?_
  refine lv_iconst (v := 4) hx hb (dq da_X1_read 52 rfl) rfl ?_
  refine lv_icmp_ne (tgt := 111) hx hb (dq da_X1_read 53 rfl) (by decide) (fun c4 => ?_) (fun c4 => ?_)
  · have h := ie c4 h
    exact b_X1_read_b111 E hr hlk h (lv_sub hl [0, 1, 2] rfl) w
  · have h := it c4 h
    refine lv_lload_n hx hb (dq da_X1_read 54 rfl) rfl (lv_at hl 1 rfl) ?_
    refine lv_ldc2 hx hb hown (hts _ w_905) (dq da_X1_read 55 rfl) ?_
    refine lc_ne (tgt := 111) hx hb (dq da_X1_read 56 rfl) (dq da_X1_read 57 rfl) (by decide) (fun c9 => ?_) (fun c9 => ?_)
    · have h := ie c9 h
      exact b_X1_read_b111 E hr hlk h (lv_sub hl [0, 1, 2] rfl) w
    · have h := it c9 h
      refine lv_aload_n hx hb (dq da_X1_read 58 rfl) rfl (lv_at hl 0 rfl) ?_
      refine gt_wC_3_soft E w w_128 (dq da_X1_read 59 rfl) ?_
      exact xret_l E hr hlk w (by decide) (congrArg Prod.fst (os h)) (congrArg Prod.snd (os h)) (dq da_X1_read 60 rfl)
def f_X1_read_b63 (x1 : Int64) (x3 : Int32) (u : St) : Option (Int64 × St) := if x3 = (4 : Int32) then (if (f_X3_has (x1 - (201326592 : Int64))) = (0 : Int32) then (f_X1_read_b93 x1 x3 u) else ((f_X3_read ((x1 - (201326592 : Int64)).toInt32) u).bind (fun y11 => some (y11.1, y11.2)))) else (f_X1_read_b93 x1 x3 u)
set_option maxRecDepth 100000 in
set_option maxHeartbeats 4000000 in
theorem b_X1_read_b63 {p : Program} {l : Launch} {e : Env} {s : State} {m : MethodId} {args : Array Value} {below : List Frame} {meth : Method} {c : Code} {D : va_G} {cy : ClassId × ClassId × ClassId} {ad : Nat → Nat} {A : Nat → Prop} (E : CallFix p m c cX1_read 5 s args gw RX1) (hr : meth.sig.returnType = some .long) (hlk : meth.locks = false) {x1 : Int64} {x3 : Int32} {u : St} {r : Int64} {u' : St} (h : f_X1_read_b63 x1 x3 u = some (r, u')) {ls : Array Slot} {H : Heap} {locs : List Loc} {rr : Nat → Nat} (hl : lv_has ls 5 [(0, .ref (ad 3)), (1, .long x1), (3, .int x3)]) (w : WX (wC cy ad) D cy rr u A s H locs) : Wx (wC cy ad) D p l e 2 45 0 s m args below meth c A u' (some (.long r)) H locs 0 63 ls [] := by
  have hx := E.1
  have hb := E.2.1
  have hown := E.2.2.2.1
  have hts := E.2.2.2.2
  refine lv_iload_n hx hb (dq da_X1_read 35 rfl) rfl (lv_at hl 2 rfl) ?_
  refine lv_iconst (v := 4) hx hb (dq da_X1_read 36 rfl) rfl ?_
  refine lv_icmp_ne (tgt := 93) hx hb (dq da_X1_read 37 rfl) (by decide) (fun c3 => ?_) (fun c3 => ?_)
  · have h := ie c3 h
    exact b_X1_read_b93 E hr hlk h (lv_sub hl [0, 1, 2] rfl) w
  · have h := it c3 h
    refine lv_lload_n hx hb (dq da_X1_read 38 rfl) rfl (lv_at hl 1 rfl) ?_
    refine lv_ldc2 hx hb hown (hts _ w_883) (dq da_X1_read 39 rfl) ?_
    refine lv_lsub hx hb (dq da_X1_read 40 rfl) ?_
    refine callP E (c_X3_has l _ ) w_884 w_885 w_5 w_886 hd_X3_has rfl hl.1 rfl (Nat.le_of_ble_eq_true rfl) ⟨Nat.le_of_ble_eq_true rfl, Nat.le_of_ble_eq_true rfl⟩ (by decide) (dq da_X1_read 41 rfl) ?_
    refine lv_if_eq (tgt := 93) hx hb (dq da_X1_read 42 rfl) (by decide) (fun c10 => ?_) (fun c10 => ?_)
    · have h := it c10 h
      exact b_X1_read_b93 E hr hlk h (lv_sub hl [0, 1, 2] rfl) w
    · have h := ie c10 h
      refine lv_aload_n hx hb (dq da_X1_read 43 rfl) rfl (lv_at hl 0 rfl) ?_
      refine gt_wC_3_controller E w w_123 (dq da_X1_read 44 rfl) ?_
      refine lv_lload_n hx hb (dq da_X1_read 45 rfl) rfl (lv_at hl 1 rfl) ?_
      refine lv_ldc2 hx hb hown (hts _ w_883) (dq da_X1_read 46 rfl) ?_
      refine lv_lsub hx hb (dq da_X1_read 47 rfl) ?_
      refine lv_l2i (v := (x1 - (201326592 : Int64)).toInt32) hx hb (dq da_X1_read 48 rfl) rfl ?_
      obtain ⟨y11, hy12, h⟩ := ob h
      refine cV1 E (c_X3_read l D cy ad _ _ hy12) w_897 w_898 w_899 w_5 w_900 rfl hd_X3_read rfl hl.1 rfl (Nat.le_of_ble_eq_true rfl) ⟨Nat.le_of_ble_eq_true rfl, Nat.le_of_ble_eq_true rfl⟩ (by decide) w (rc_wC_6 w) (dq da_X1_read 49 rfl) (fun H locs rr w => ?_)
      exact xret_l E hr hlk w (by decide) (congrArg Prod.fst (os h)) (congrArg Prod.snd (os h)) (dq da_X1_read 50 rfl)
def f_X1_read (x1 : Int64) (x3 : Int32) (u : St) : Option (Int64 × St) := if (f_X10_place x1 x3 (sI u 3 (0 : Int32))) = (-1 : Int32) then (if x3 = (1 : Int32) then (if (x1 &&& (-8 : Int64)) = (268435456 : Int64) then ((f_X8_read (x1.toInt32 &&& (7 : Int32)) (sI u 3 (0 : Int32))).bind (fun y14 => some (y14.1, y14.2))) else (f_X1_read_b63 x1 x3 (sI u 3 (0 : Int32)))) else (f_X1_read_b63 x1 x3 (sI u 3 (0 : Int32)))) else ((f_X10_read (f_X10_place x1 x3 (sI u 3 (0 : Int32))) x3 (sI u 3 (0 : Int32))).bind (fun y16 => some (y16, (sI u 3 (0 : Int32)))))
set_option maxRecDepth 100000 in
set_option maxHeartbeats 4000000 in
theorem c_X1_read (l : Launch) (D : va_G) (cy : ClassId × ClassId × ClassId) (ad : Nat → Nat) (x1 : Int64) (x3 : Int32) (u : St) {r : Int64} {u' : St} (h : f_X1_read x1 x3 u = some (r, u')) : MX (wC cy ad) D cy l yX1_read cX1_read 5 (some .long) 2 45 0 [.ref (ad 3), .long x1, .int x3] u u' (some (.long (r))) := by
  refine entX (by decide +kernel) (Nat.le_of_ble_eq_true rfl) ?_
  intro p e s m args below meth c ls rr A E hr hlk hl w
  have hl : lv_has ls 5 [(0, .ref (ad 3)), (1, .long x1), (3, .int x3)] := hl
  have hx := E.1
  have hb := E.2.1
  have hown := E.2.2.2.1
  have hts := E.2.2.2.2
  refine lv_aload_n hx hb (dq da_X1_read 0 rfl) rfl (lv_at hl 0 rfl) ?_
  refine lv_iconst (v := 0) hx hb (dq da_X1_read 1 rfl) rfl ?_
  refine pt_wC_3_failed E w w_135 rfl (by decide +kernel) (dq da_X1_read 2 rfl) (fun H locs w => ?_)
  refine lv_aload_n hx hb (dq da_X1_read 3 rfl) rfl (lv_at hl 0 rfl) ?_
  refine gt_wC_3_ram E w w_120 (dq da_X1_read 4 rfl) ?_
  refine lv_lload_n hx hb (dq da_X1_read 5 rfl) rfl (lv_at hl 1 rfl) ?_
  refine lv_iload_n hx hb (dq da_X1_read 6 rfl) rfl (lv_at hl 2 rfl) ?_
  refine cV1 E (c_X10_place l D cy ad _ _ _ ) w_869 w_346 w_347 w_4 w_348 rfl hd_X10_place rfl hl.1 rfl (Nat.le_of_ble_eq_true rfl) ⟨Nat.le_of_ble_eq_true rfl, Nat.le_of_ble_eq_true rfl⟩ (by decide) w (rc_wC_4 w) (dq da_X1_read 7 rfl) (fun H locs rr w => ?_)
  refine lv_istore (lv' := [(4, .int (f_X10_place x1 x3 (sI u 3 (0 : Int32)))), (0, .ref (ad 3)), (1, .long x1), (3, .int x3)]) hx hb (dq da_X1_read 8 rfl) hl (by decide) rfl (fun ls hl => ?_)
  refine lv_iload hx hb (dq da_X1_read 9 rfl) (lv_at hl 0 rfl) ?_
  refine lv_iconst (v := (-1)) hx hb (dq da_X1_read 10 rfl) rfl ?_
  refine lv_icmp_eq (tgt := 33) hx hb (dq da_X1_read 11 rfl) (by decide) (fun c1 => ?_) (fun c1 => ?_)
  · have h := it c1 h
    refine lv_iload_n hx hb (dq da_X1_read 18 rfl) rfl (lv_at hl 3 rfl) ?_
    refine lv_iconst (v := 1) hx hb (dq da_X1_read 19 rfl) rfl ?_
    refine lv_icmp_ne (tgt := 63) hx hb (dq da_X1_read 20 rfl) (by decide) (fun c2 => ?_) (fun c2 => ?_)
    · have h := ie c2 h
      exact b_X1_read_b63 E hr hlk h (lv_sub hl [1, 2, 3] rfl) w
    · have h := it c2 h
      refine lv_lload_n hx hb (dq da_X1_read 21 rfl) rfl (lv_at hl 2 rfl) ?_
      refine lv_ldc2 hx hb hown (hts _ w_871) (dq da_X1_read 22 rfl) ?_
      refine lv_land hx hb (dq da_X1_read 23 rfl) ?_
      refine lv_ldc2 hx hb hown (hts _ w_872) (dq da_X1_read 24 rfl) ?_
      refine lc_ne (tgt := 63) hx hb (dq da_X1_read 25 rfl) (dq da_X1_read 26 rfl) (by decide) (fun c13 => ?_) (fun c13 => ?_)
      · have h := ie c13 h
        exact b_X1_read_b63 E hr hlk h (lv_sub hl [1, 2, 3] rfl) w
      · have h := it c13 h
        refine lv_aload_n hx hb (dq da_X1_read 27 rfl) rfl (lv_at hl 1 rfl) ?_
        refine gt_wC_3_line E w w_126 (dq da_X1_read 28 rfl) ?_
        refine lv_lload_n hx hb (dq da_X1_read 29 rfl) rfl (lv_at hl 2 rfl) ?_
        refine lv_l2i (v := x1.toInt32) hx hb (dq da_X1_read 30 rfl) rfl ?_
        refine lv_bipush (v := 7) hx hb (dq da_X1_read 31 rfl) rfl ?_
        refine lv_iand hx hb (dq da_X1_read 32 rfl) ?_
        obtain ⟨y14, hy15, h⟩ := ob h
        refine cV1 E (c_X8_read l D cy ad _ _ hy15) w_873 w_874 w_875 w_6 w_876 rfl hd_X8_read rfl hl.1 rfl (Nat.le_of_ble_eq_true rfl) ⟨Nat.le_of_ble_eq_true rfl, Nat.le_of_ble_eq_true rfl⟩ (by decide) w (rc_wC_10 w) (dq da_X1_read 33 rfl) (fun H locs rr w => ?_)
        exact xret_l E hr hlk w (by decide) (congrArg Prod.fst (os h)) (congrArg Prod.snd (os h)) (dq da_X1_read 34 rfl)
  · have h := ie c1 h
    refine lv_aload_n hx hb (dq da_X1_read 12 rfl) rfl (lv_at hl 1 rfl) ?_
    refine gt_wC_3_ram E w w_120 (dq da_X1_read 13 rfl) ?_
    refine lv_iload hx hb (dq da_X1_read 14 rfl) (lv_at hl 0 rfl) ?_
    refine lv_iload_n hx hb (dq da_X1_read 15 rfl) rfl (lv_at hl 3 rfl) ?_
    obtain ⟨y16, hy17, h⟩ := ob h
    refine cV1 E (c_X10_read l D cy ad _ _ _ hy17) w_870 w_525 w_526 w_4 w_527 rfl hd_X10_read rfl hl.1 rfl (Nat.le_of_ble_eq_true rfl) ⟨Nat.le_of_ble_eq_true rfl, Nat.le_of_ble_eq_true rfl⟩ (by decide) w (rc_wC_4 w) (dq da_X1_read 16 rfl) (fun H locs rr w => ?_)
    exact xret_l E hr hlk w (by decide) (congrArg Prod.fst (os h)) (congrArg Prod.snd (os h)) (dq da_X1_read 17 rfl)
def dl_X1_reserve : List (Nat × Instr × Nat) := [(0, .aload_n 0, 1), (1, .lload_n 1, 1), (2, .putfield 83, 3), (5, .aload_n 0, 1), (6, .iload_n 3, 1), (7, .putfield 86, 3), (10, .return_, 1)]
theorem da_X1_reserve : dkL cX1_reserve dl_X1_reserve = true := by decide +kernel
def f_X1_reserve (x1 : Int64) (x3 : Int32) (u : St) : St := (sI (sL u 3 x1) 4 x3)
set_option maxRecDepth 100000 in
set_option maxHeartbeats 4000000 in
theorem c_X1_reserve (l : Launch) (D : va_G) (cy : ClassId × ClassId × ClassId) (ad : Nat → Nat) (x1 : Int64) (x3 : Int32) (u : St) : MX (wC cy ad) D cy l yX1_reserve cX1_reserve 4 (none) 0 0 0 [.ref (ad 3), .long x1, .int x3] u (f_X1_reserve x1 x3 u) none := by
  refine entX (by decide +kernel) (Nat.le_of_ble_eq_true rfl) ?_
  intro p e s m args below meth c ls rr A E hr hlk hl w
  have hl : lv_has ls 4 [(0, .ref (ad 3)), (1, .long x1), (3, .int x3)] := hl
  generalize h : f_X1_reserve x1 x3 u = u'
  have hx := E.1
  have hb := E.2.1
  have hown := E.2.2.2.1
  have hts := E.2.2.2.2
  refine lv_aload_n hx hb (dq da_X1_reserve 0 rfl) rfl (lv_at hl 0 rfl) ?_
  refine lv_lload_n hx hb (dq da_X1_reserve 1 rfl) rfl (lv_at hl 1 rfl) ?_
  refine pt_wC_3_reservedAt E w w_137 (dq da_X1_reserve 2 rfl) (fun H locs w => ?_)
  refine lv_aload_n hx hb (dq da_X1_reserve 3 rfl) rfl (lv_at hl 0 rfl) ?_
  refine lv_iload_n hx hb (dq da_X1_reserve 4 rfl) rfl (lv_at hl 2 rfl) ?_
  refine pt_wC_3_reservedSize E w w_138 (dq da_X1_reserve 5 rfl) (fun H locs w => ?_)
  exact xret_v E hr hlk w (by decide) h (dq da_X1_reserve 6 rfl)
def dl_X1_reserves : List (Nat × Instr × Nat) := [(0, .aload_n 0, 1), (1, .getfield 86, 3), (4, .iload_n 3, 1), (5, .if_icmp .ne 16, 3), (8, .aload_n 0, 1), (9, .getfield 83, 3), (12, .lload_n 1, 1), (13, .lcmp, 1), (14, .ifCond .ne 7, 3), (17, .iconst 1, 1), (18, .goto 4, 3), (21, .iconst 0, 1), (22, .ireturn, 1)]
theorem da_X1_reserves : dkL cX1_reserves dl_X1_reserves = true := by decide +kernel
def f_X1_reserves_b21 (u : St) : Int32 := (0 : Int32)
set_option maxRecDepth 100000 in
set_option maxHeartbeats 4000000 in
theorem b_X1_reserves_b21 {p : Program} {l : Launch} {e : Env} {s : State} {m : MethodId} {args : Array Value} {below : List Frame} {meth : Method} {c : Code} {D : va_G} {cy : ClassId × ClassId × ClassId} {ad : Nat → Nat} {A : Nat → Prop} (E : CallFix p m c cX1_reserves 4 s args gw RX1) (hr : meth.sig.returnType = some .boolean) (hlk : meth.locks = false) {u : St} {r : Int32} (h : f_X1_reserves_b21 u = r) {ls : Array Slot} {H : Heap} {locs : List Loc} {rr : Nat → Nat} (hl : lv_has ls 4 []) (w : WX (wC cy ad) D cy rr u A s H locs) : Wx (wC cy ad) D p l e 0 0 0 s m args below meth c A u (some (.int r)) H locs 0 21 ls [] := by
  have hx := E.1
  have hb := E.2.1
  have hown := E.2.2.2.1
  have hts := E.2.2.2.2
  refine lv_iconst (v := 0) hx hb (dq da_X1_reserves 11 rfl) rfl ?_
  exact xret_z E hr hlk rfl w (by decide) h rfl (dq da_X1_reserves 12 rfl)
def f_X1_reserves (x1 : Int64) (x3 : Int32) (u : St) : Int32 := if (gI u 4) = x3 then (if (gL u 3) = x1 then (1 : Int32) else (f_X1_reserves_b21 u)) else (f_X1_reserves_b21 u)
set_option maxRecDepth 100000 in
set_option maxHeartbeats 4000000 in
theorem c_X1_reserves (l : Launch) (D : va_G) (cy : ClassId × ClassId × ClassId) (ad : Nat → Nat) (x1 : Int64) (x3 : Int32) (u : St) : MX (wC cy ad) D cy l yX1_reserves cX1_reserves 4 (some .boolean) 0 0 0 [.ref (ad 3), .long x1, .int x3] u u (some (.int (f_X1_reserves x1 x3 u))) := by
  refine entX (by decide +kernel) (Nat.le_of_ble_eq_true rfl) ?_
  intro p e s m args below meth c ls rr A E hr hlk hl w
  have hl : lv_has ls 4 [(0, .ref (ad 3)), (1, .long x1), (3, .int x3)] := hl
  generalize h : f_X1_reserves x1 x3 u = r
  have hx := E.1
  have hb := E.2.1
  have hown := E.2.2.2.1
  have hts := E.2.2.2.2
  refine lv_aload_n hx hb (dq da_X1_reserves 0 rfl) rfl (lv_at hl 0 rfl) ?_
  refine gt_wC_3_reservedSize E w w_138 (dq da_X1_reserves 1 rfl) ?_
  refine lv_iload_n hx hb (dq da_X1_reserves 2 rfl) rfl (lv_at hl 2 rfl) ?_
  refine lv_icmp_ne (tgt := 21) hx hb (dq da_X1_reserves 3 rfl) (by decide) (fun c1 => ?_) (fun c1 => ?_)
  · have h := ie c1 h
    exact b_X1_reserves_b21 E hr hlk h (lv_sub hl [] rfl) w
  · have h := it c1 h
    refine lv_aload_n hx hb (dq da_X1_reserves 4 rfl) rfl (lv_at hl 0 rfl) ?_
    refine gt_wC_3_reservedAt E w w_137 (dq da_X1_reserves 5 rfl) ?_
    refine lv_lload_n hx hb (dq da_X1_reserves 6 rfl) rfl (lv_at hl 1 rfl) ?_
    refine lc_ne (tgt := 21) hx hb (dq da_X1_reserves 7 rfl) (dq da_X1_reserves 8 rfl) (by decide) (fun c2 => ?_) (fun c2 => ?_)
    · have h := ie c2 h
      exact b_X1_reserves_b21 E hr hlk h (lv_sub hl [] rfl) w
    · have h := it c2 h
      refine lv_iconst (v := 1) hx hb (dq da_X1_reserves 9 rfl) rfl ?_
      refine lv_goto (tgt := 22) hx hb (dq da_X1_reserves 10 rfl) (by decide) ?_
      exact xret_z E hr hlk rfl w (by decide) h rfl (dq da_X1_reserves 12 rfl)
def dl_X1_endReservation : List (Nat × Instr × Nat) := [(0, .aload_n 0, 1), (1, .lconst 0, 1), (2, .putfield 83, 3), (5, .aload_n 0, 1), (6, .iconst 0, 1), (7, .putfield 86, 3), (10, .return_, 1)]
theorem da_X1_endReservation : dkL cX1_endReservation dl_X1_endReservation = true := by decide +kernel
def f_X1_endReservation (u : St) : St := (sI (sL u 3 (0 : Int64)) 4 (0 : Int32))
set_option maxRecDepth 100000 in
set_option maxHeartbeats 4000000 in
theorem c_X1_endReservation (l : Launch) (D : va_G) (cy : ClassId × ClassId × ClassId) (ad : Nat → Nat) (u : St) : MX (wC cy ad) D cy l yX1_endReservation cX1_endReservation 1 (none) 0 0 0 [.ref (ad 3)] u (f_X1_endReservation u) none := by
  refine entX (by decide +kernel) (Nat.le_of_ble_eq_true rfl) ?_
  intro p e s m args below meth c ls rr A E hr hlk hl w
  have hl : lv_has ls 1 [(0, .ref (ad 3))] := hl
  generalize h : f_X1_endReservation u = u'
  have hx := E.1
  have hb := E.2.1
  have hown := E.2.2.2.1
  have hts := E.2.2.2.2
  refine lv_aload_n hx hb (dq da_X1_endReservation 0 rfl) rfl (lv_at hl 0 rfl) ?_
  refine lv_lconst (v := 0) hx hb (dq da_X1_endReservation 1 rfl) rfl ?_
  refine pt_wC_3_reservedAt E w w_137 (dq da_X1_endReservation 2 rfl) (fun H locs w => ?_)
  refine lv_aload_n hx hb (dq da_X1_endReservation 3 rfl) rfl (lv_at hl 0 rfl) ?_
  refine lv_iconst (v := 0) hx hb (dq da_X1_endReservation 4 rfl) rfl ?_
  refine pt_wC_3_reservedSize E w w_138 (dq da_X1_endReservation 5 rfl) (fun H locs w => ?_)
  exact xret_v E hr hlk w (by decide) h (dq da_X1_endReservation 6 rfl)
def dl_X1_settle : List (Nat × Instr × Nat) := [(0, .aload_n 0, 1), (1, .getfield 12, 3), (4, .aload_n 0, 1), (5, .getfield 21, 3), (8, .invokevirtual 103, 3), (11, .invokevirtual 107, 3), (14, .return_, 1)]
theorem da_X1_settle : dkL cX1_settle dl_X1_settle = true := by decide +kernel
def f_X1_settle (u : St) : St := (f_X3_settle (f_X8_high u) u)
set_option maxRecDepth 100000 in
set_option maxHeartbeats 4000000 in
theorem c_X1_settle (l : Launch) (D : va_G) (cy : ClassId × ClassId × ClassId) (ad : Nat → Nat) (u : St) : MX (wC cy ad) D cy l yX1_settle cX1_settle 1 (none) 2 40 0 [.ref (ad 3)] u (f_X1_settle u) none := by
  refine entX (by decide +kernel) (Nat.le_of_ble_eq_true rfl) ?_
  intro p e s m args below meth c ls rr A E hr hlk hl w
  have hl : lv_has ls 1 [(0, .ref (ad 3))] := hl
  generalize h : f_X1_settle u = u'
  have hx := E.1
  have hb := E.2.1
  have hown := E.2.2.2.1
  have hts := E.2.2.2.2
  refine lv_aload_n hx hb (dq da_X1_settle 0 rfl) rfl (lv_at hl 0 rfl) ?_
  refine gt_wC_3_controller E w w_123 (dq da_X1_settle 1 rfl) ?_
  refine lv_aload_n hx hb (dq da_X1_settle 2 rfl) rfl (lv_at hl 0 rfl) ?_
  refine gt_wC_3_line E w w_126 (dq da_X1_settle 3 rfl) ?_
  refine cV1 E (c_X8_high l D cy ad _ ) w_484 w_485 w_486 w_6 w_487 rfl hd_X8_high rfl hl.1 rfl (Nat.le_of_ble_eq_true rfl) ⟨Nat.le_of_ble_eq_true rfl, Nat.le_of_ble_eq_true rfl⟩ (by decide) w (rc_wC_10 w) (dq da_X1_settle 4 rfl) (fun H locs rr w => ?_)
  refine cV0 E (c_X3_settle l D cy ad _ _ ) w_489 w_490 w_491 w_5 w_492 rfl hd_X3_settle rfl hl.1 rfl (Nat.le_of_ble_eq_true rfl) ⟨Nat.le_of_ble_eq_true rfl, Nat.le_of_ble_eq_true rfl⟩ (by decide) w (rc_wC_6 w) (dq da_X1_settle 5 rfl) (fun H locs rr w => ?_)
  exact xret_v E hr hlk w (by decide) h (dq da_X1_settle 6 rfl)
def dl_X6_foremost : List (Nat × Instr × Nat) := [(0, .getstatic 106, 3), (3, .astore_n 2, 1), (4, .aload_n 2, 1), (5, .arraylength, 1), (6, .istore_n 3, 1), (7, .iconst 0, 1), (8, .istore 4, 2), (10, .iload 4, 2), (12, .iload_n 3, 1), (13, .if_icmp .ge 29, 3), (16, .aload_n 2, 1), (17, .iload 4, 2), (19, .iaload, 1), (20, .istore 5, 2), (22, .lload_n 0, 1), (23, .iload 5, 2), (25, .lshr, 1), (26, .lconst 1, 1), (27, .land, 1), (28, .lconst 0, 1), (29, .lcmp, 1), (30, .ifCond .eq 6, 3), (33, .iload 5, 2), (35, .ireturn, 1), (36, .iinc 4 1, 3), (39, .goto (-29), 3), (42, .iconst (-1), 1), (43, .ireturn, 1)]
theorem da_X6_foremost : dkL cX6_foremost dl_X6_foremost = true := by decide +kernel
def f_X6_foremost_b10_s (k10 : Int64 → Int32 → Int32 → St → Option (Int32)) (x0 : Int64) (x3 : Int32) (x4 : Int32) (u : St) : Option (Int32) := if x3 ≤ x4 then (some (-1 : Int32)) else (if inB x4 6 then (if ((j_lshr x0 (rkn x4.toNatClampNeg)) &&& (1 : Int64)) = (0 : Int64) then (k10 x0 x3 (x4 + (1 : Int32)) u) else (some (rkn x4.toNatClampNeg))) else none)
set_option maxRecDepth 100000 in
set_option maxHeartbeats 4000000 in
theorem b_X6_foremost_b10_s {p : Program} {l : Launch} {e : Env} {s : State} {m : MethodId} {args : Array Value} {below : List Frame} {meth : Method} {c : Code} {D : va_G} {cy : ClassId × ClassId × ClassId} {ad : Nat → Nat} {A : Nat → Prop} (E : CallFix p m c cX6_foremost 6 s args gw RX6) (hr : meth.sig.returnType = some .int) (hlk : meth.locks = false) {tk : Nat} (hT : va_T .int tk 6 (fun j => .int (rkn j)) A s s.heap) {k10 : Int64 → Int32 → Int32 → St → Option (Int32)} (hk10 : ∀ (x0 : Int64) (x3 : Int32) (x4 : Int32) (u : St) (r : Int32), k10 x0 x3 x4 u = some r → ∀ (ls : Array Slot) (H : Heap) (locs : List Loc) (rr : Nat → Nat), lv_has ls 6 [(0, .long x0), (2, .ref tk), (3, .int x3), (4, .int x4)] → WX (wC cy ad) D cy rr u A s H locs → Wx (wC cy ad) D p l e 0 0 0 s m args below meth c A u (some (.int r)) H locs 0 10 ls []) {x0 : Int64} {x3 : Int32} {x4 : Int32} {u : St} {r : Int32} (h : f_X6_foremost_b10_s k10 x0 x3 x4 u = some r) {ls : Array Slot} {H : Heap} {locs : List Loc} {rr : Nat → Nat} (hl : lv_has ls 6 [(0, .long x0), (2, .ref tk), (3, .int x3), (4, .int x4)]) (w : WX (wC cy ad) D cy rr u A s H locs) : Wx (wC cy ad) D p l e 0 0 0 s m args below meth c A u (some (.int r)) H locs 0 10 ls [] := by
  have hx := E.1
  have hb := E.2.1
  have hown := E.2.2.2.1
  have hts := E.2.2.2.2
  refine lv_iload hx hb (dq da_X6_foremost 7 rfl) (lv_at hl 3 rfl) ?_
  refine lv_iload_n hx hb (dq da_X6_foremost 8 rfl) rfl (lv_at hl 2 rfl) ?_
  refine lv_icmp_ge (tgt := 42) hx hb (dq da_X6_foremost 9 rfl) (by decide) (fun c1 => ?_) (fun c1 => ?_)
  · have h := it c1 h
    refine lv_iconst (v := (-1)) hx hb (dq da_X6_foremost 26 rfl) rfl ?_
    exact xret_i E hr hlk w (by decide) (os h) rfl (dq da_X6_foremost 27 rfl)
  · have h := ie c1 h
    refine lv_aload_n hx hb (dq da_X6_foremost 10 rfl) rfl (lv_at hl 1 rfl) ?_
    refine lv_iload hx hb (dq da_X6_foremost 11 rfl) (lv_at hl 3 rfl) ?_
    obtain ⟨hi2, h⟩ := oi h
    refine va_ti hx hb hT w.2.2.1 hi2 rfl (dq da_X6_foremost 12 rfl) ?_
    refine lv_istore (lv' := [(5, .int (rkn x4.toNatClampNeg)), (0, .long x0), (2, .ref tk), (3, .int x3), (4, .int x4)]) hx hb (dq da_X6_foremost 13 rfl) hl (by decide) rfl (fun ls hl => ?_)
    refine lv_lload_n hx hb (dq da_X6_foremost 14 rfl) rfl (lv_at hl 1 rfl) ?_
    refine lv_iload hx hb (dq da_X6_foremost 15 rfl) (lv_at hl 0 rfl) ?_
    refine lv_lshr (v := (j_lshr x0 (rkn x4.toNatClampNeg))) hx hb (dq da_X6_foremost 16 rfl) rfl ?_
    refine lv_lconst (v := 1) hx hb (dq da_X6_foremost 17 rfl) rfl ?_
    refine lv_land hx hb (dq da_X6_foremost 18 rfl) ?_
    refine lv_lconst (v := 0) hx hb (dq da_X6_foremost 19 rfl) rfl ?_
    refine lc_eq (tgt := 36) hx hb (dq da_X6_foremost 20 rfl) (dq da_X6_foremost 21 rfl) (by decide) (fun c3 => ?_) (fun c3 => ?_)
    · have h := it c3 h
      refine lv_iinc (v := (x4 + (1 : Int32))) (lv' := [(4, .int (x4 + (1 : Int32))), (5, .int (rkn x4.toNatClampNeg)), (0, .long x0), (2, .ref tk), (3, .int x3)]) hx hb (dq da_X6_foremost 24 rfl) hl (k := 4) rfl rfl (by decide) rfl (fun ls hl => ?_)
      refine lv_goto (tgt := 10) hx hb (dq da_X6_foremost 25 rfl) (by decide) ?_
      exact hk10 _ _ _ _ _ h ls _ _ _ (lv_sub hl [2, 3, 4, 0] rfl) w
    · have h := ie c3 h
      refine lv_iload hx hb (dq da_X6_foremost 22 rfl) (lv_at hl 0 rfl) ?_
      exact xret_i E hr hlk w (by decide) (os h) rfl (dq da_X6_foremost 23 rfl)
def f_X6_foremost_b10 : Nat → Int64 → Int32 → Int32 → St → Option (Int32)
  | 0 => fun _ _ _ _ => none
  | n + 1 => f_X6_foremost_b10_s (f_X6_foremost_b10 n)
theorem b_X6_foremost_b10 {p : Program} {l : Launch} {e : Env} {s : State} {m : MethodId} {args : Array Value} {below : List Frame} {meth : Method} {c : Code} {D : va_G} {cy : ClassId × ClassId × ClassId} {ad : Nat → Nat} {A : Nat → Prop} (E : CallFix p m c cX6_foremost 6 s args gw RX6) (hr : meth.sig.returnType = some .int) (hlk : meth.locks = false) {tk : Nat} (hT : va_T .int tk 6 (fun j => .int (rkn j)) A s s.heap) : ∀ n : Nat, ∀ (x0 : Int64) (x3 : Int32) (x4 : Int32) (u : St) (r : Int32), f_X6_foremost_b10 n x0 x3 x4 u = some r → ∀ (ls : Array Slot) (H : Heap) (locs : List Loc) (rr : Nat → Nat), lv_has ls 6 [(0, .long x0), (2, .ref tk), (3, .int x3), (4, .int x4)] → WX (wC cy ad) D cy rr u A s H locs → Wx (wC cy ad) D p l e 0 0 0 s m args below meth c A u (some (.int r)) H locs 0 10 ls [] := by
  intro n
  induction n with
  | zero => intro x0 x3 x4 u r h; cases h
  | succ n ih => intro x0 x3 x4 u r h ls H locs rr hl w; exact b_X6_foremost_b10_s E hr hlk hT ih h hl w
def f_X6_foremost (x0 : Int64) (u : St) : Option (Int32) := f_X6_foremost_b10 FU x0 (6 : Int32) (0 : Int32) u
set_option maxRecDepth 100000 in
set_option maxHeartbeats 4000000 in
theorem c_X6_foremost (l : Launch) (D : va_G) (cy : ClassId × ClassId × ClassId) (ad : Nat → Nat) (x0 : Int64) (u : St) {r : Int32} (h : f_X6_foremost x0 u = some r) : MX (wC cy ad) D cy l yX6_foremost cX6_foremost 6 (some .int) 0 0 0 [.long x0] u u (some (.int (r))) := by
  refine entX (by decide +kernel) (Nat.le_of_ble_eq_true rfl) ?_
  intro p e s m args below meth c ls rr A E hr hlk hl w
  have hl : lv_has ls 6 [(0, .long x0)] := hl
  have hx := E.1
  have hb := E.2.1
  have hown := E.2.2.2.1
  have hts := E.2.2.2.2
  obtain ⟨tk, hZ, hT⟩ := w.2.2.2.2.2
  refine va_gets hx hb hZ w.2.2.1 hown (hts _ w_671) (fun _ h9 => h9) (dq da_X6_foremost 0 rfl) ?_
  refine lv_astore_n (lv' := [(2, .ref tk), (0, .long x0)]) hx hb (dq da_X6_foremost 1 rfl) rfl hl (by decide) rfl (fun ls hl => ?_)
  refine lv_aload_n hx hb (dq da_X6_foremost 2 rfl) rfl (lv_at hl 0 rfl) ?_
  refine va_tlen (v := 6) hx hb hT w.2.2.1 rfl (dq da_X6_foremost 3 rfl) ?_
  refine lv_istore_n (lv' := [(3, .int (6 : Int32)), (2, .ref tk), (0, .long x0)]) hx hb (dq da_X6_foremost 4 rfl) rfl hl (by decide) rfl (fun ls hl => ?_)
  refine lv_iconst (v := 0) hx hb (dq da_X6_foremost 5 rfl) rfl ?_
  refine lv_istore (lv' := [(4, .int (0 : Int32)), (3, .int (6 : Int32)), (2, .ref tk), (0, .long x0)]) hx hb (dq da_X6_foremost 6 rfl) hl (by decide) rfl (fun ls hl => ?_)
  exact b_X6_foremost_b10 E hr hlk hT FU _ _ _ _ _ h ls _ _ _ (lv_sub hl [3, 2, 1, 0] rfl) w
def dl_X6_dueInterrupt : List (Nat × Instr × Nat) := [(0, .aload_n 0, 1), (1, .getfield 35, 3), (4, .getfield 82, 3), (7, .lconst 0, 1), (8, .lcmp, 1), (9, .ifCond .ne 7, 3), (12, .lconst 0, 1), (13, .goto 18, 3), (16, .aload_n 0, 1), (17, .getfield 35, 3), (20, .getfield 82, 3), (23, .aload_n 0, 1), (24, .getfield 35, 3), (27, .invokevirtual 85, 3), (30, .land, 1), (31, .lstore_n 1, 1), (32, .lload_n 1, 1), (33, .lconst 0, 1), (34, .lcmp, 1), (35, .ifCond .ne 5, 3), (38, .iconst (-1), 1), (39, .ireturn, 1), (40, .lload_n 1, 1), (41, .aload_n 0, 1), (42, .getfield 35, 3), (45, .getfield 89, 3), (48, .ldc2_w 92, 3), (51, .lxor, 1), (52, .land, 1), (53, .lstore_n 3, 1), (54, .lload_n 3, 1), (55, .lconst 0, 1), (56, .lcmp, 1), (57, .ifCond .eq 29, 3), (60, .aload_n 0, 1), (61, .getfield 21, 3), (64, .iconst 3, 1), (65, .if_icmp .lt 16, 3), (68, .aload_n 0, 1), (69, .getfield 35, 3), (72, .ldc2_w 94, 3), (75, .invokevirtual 96, 3), (78, .ifCond .eq 8, 3), (81, .lload_n 3, 1), (82, .invokestatic 100, 3), (85, .ireturn, 1), (86, .aload_n 0, 1), (87, .getfield 21, 3), (90, .ifCond .eq 24, 3), (93, .aload_n 0, 1), (94, .getfield 21, 3), (97, .iconst 1, 1), (98, .if_icmp .ne 20, 3), (101, .aload_n 0, 1), (102, .getfield 35, 3), (105, .ldc2_w 104, 3), (108, .invokevirtual 96, 3), (111, .ifCond .eq 7, 3), (114, .iconst 1, 1), (115, .goto 4, 3), (118, .iconst 0, 1), (119, .istore 5, 2), (121, .iload 5, 2), (123, .ifCond .eq 18, 3), (126, .lload_n 1, 1), (127, .aload_n 0, 1), (128, .getfield 35, 3), (131, .getfield 89, 3), (134, .land, 1), (135, .invokestatic 100, 3), (138, .goto 4, 3), (141, .iconst (-1), 1), (142, .ireturn, 1)]
theorem da_X6_dueInterrupt : dkL cX6_dueInterrupt dl_X6_dueInterrupt = true := by decide +kernel
def f_X6_dueInterrupt_b119 (x1 : Int64) (s0 : Int32) (u : St) : Option (Int32) := if s0 = (0 : Int32) then (some (-1 : Int32)) else ((f_X6_foremost (x1 &&& (gL u 6)) u).bind (fun y8 => some y8))
set_option maxRecDepth 100000 in
set_option maxHeartbeats 4000000 in
theorem b_X6_dueInterrupt_b119 {p : Program} {l : Launch} {e : Env} {s : State} {m : MethodId} {args : Array Value} {below : List Frame} {meth : Method} {c : Code} {D : va_G} {cy : ClassId × ClassId × ClassId} {ad : Nat → Nat} {A : Nat → Prop} (E : CallFix p m c cX6_dueInterrupt 6 s args gw RX6) (hr : meth.sig.returnType = some .int) (hlk : meth.locks = false) {x1 : Int64} {s0 : Int32} {u : St} {r : Int32} (h : f_X6_dueInterrupt_b119 x1 s0 u = some r) {ls : Array Slot} {H : Heap} {locs : List Loc} {rr : Nat → Nat} (hl : lv_has ls 6 [(0, .ref (ad 18)), (1, .long x1)]) (w : WX (wC cy ad) D cy rr u A s H locs) : Wx (wC cy ad) D p l e 2 44 0 s m args below meth c A u (some (.int r)) H locs 0 119 ls [.int s0] := by
  have hx := E.1
  have hb := E.2.1
  have hown := E.2.2.2.1
  have hts := E.2.2.2.2
  refine lv_istore (lv' := [(5, .int s0), (0, .ref (ad 18)), (1, .long x1)]) hx hb (dq da_X6_dueInterrupt 61 rfl) hl (by decide) rfl (fun ls hl => ?_)
  refine lv_iload hx hb (dq da_X6_dueInterrupt 62 rfl) (lv_at hl 0 rfl) ?_
  refine lv_if_eq (tgt := 141) hx hb (dq da_X6_dueInterrupt 63 rfl) (by decide) (fun c7 => ?_) (fun c7 => ?_)
  · have h := it c7 h
    refine lv_iconst (v := (-1)) hx hb (dq da_X6_dueInterrupt 71 rfl) rfl ?_
    exact xret_i E hr hlk w (by decide) (os h) rfl (dq da_X6_dueInterrupt 72 rfl)
  · have h := ie c7 h
    refine lv_lload_n hx hb (dq da_X6_dueInterrupt 64 rfl) rfl (lv_at hl 2 rfl) ?_
    refine lv_aload_n hx hb (dq da_X6_dueInterrupt 65 rfl) rfl (lv_at hl 1 rfl) ?_
    refine gt_wC_18_controls E w w_246 (dq da_X6_dueInterrupt 66 rfl) ?_
    refine gtN_wC_15_mideleg E w n_25 (dq da_X6_dueInterrupt 67 rfl) ?_
    refine lv_land hx hb (dq da_X6_dueInterrupt 68 rfl) ?_
    obtain ⟨y8, hy9, h⟩ := ob h
    refine cS1 E (c_X6_foremost l D cy ad _ _ hy9) w_668 w_669 w_9 w_670 hd_X6_foremost rfl hl.1 rfl (Nat.le_of_ble_eq_true rfl) ⟨Nat.le_of_ble_eq_true rfl, Nat.le_of_ble_eq_true rfl⟩ (by decide) w (dq da_X6_dueInterrupt 69 rfl) (fun H locs rr w => ?_)
    refine lv_goto (tgt := 142) hx hb (dq da_X6_dueInterrupt 70 rfl) (by decide) ?_
    exact xret_i E hr hlk w (by decide) (os h) rfl (dq da_X6_dueInterrupt 72 rfl)
def f_X6_dueInterrupt_b114 (x1 : Int64) (u : St) : Option (Int32) := f_X6_dueInterrupt_b119 x1 (1 : Int32) u
set_option maxRecDepth 100000 in
set_option maxHeartbeats 4000000 in
theorem b_X6_dueInterrupt_b114 {p : Program} {l : Launch} {e : Env} {s : State} {m : MethodId} {args : Array Value} {below : List Frame} {meth : Method} {c : Code} {D : va_G} {cy : ClassId × ClassId × ClassId} {ad : Nat → Nat} {A : Nat → Prop} (E : CallFix p m c cX6_dueInterrupt 6 s args gw RX6) (hr : meth.sig.returnType = some .int) (hlk : meth.locks = false) {x1 : Int64} {u : St} {r : Int32} (h : f_X6_dueInterrupt_b114 x1 u = some r) {ls : Array Slot} {H : Heap} {locs : List Loc} {rr : Nat → Nat} (hl : lv_has ls 6 [(0, .ref (ad 18)), (1, .long x1)]) (w : WX (wC cy ad) D cy rr u A s H locs) : Wx (wC cy ad) D p l e 2 44 0 s m args below meth c A u (some (.int r)) H locs 0 114 ls [] := by
  have hx := E.1
  have hb := E.2.1
  have hown := E.2.2.2.1
  have hts := E.2.2.2.2
  refine lv_iconst (v := 1) hx hb (dq da_X6_dueInterrupt 58 rfl) rfl ?_
  refine lv_goto (tgt := 119) hx hb (dq da_X6_dueInterrupt 59 rfl) (by decide) ?_
  exact b_X6_dueInterrupt_b119 E hr hlk h (lv_sub hl [0, 1] rfl) w
def f_X6_dueInterrupt_b118 (x1 : Int64) (u : St) : Option (Int32) := f_X6_dueInterrupt_b119 x1 (0 : Int32) u
set_option maxRecDepth 100000 in
set_option maxHeartbeats 4000000 in
theorem b_X6_dueInterrupt_b118 {p : Program} {l : Launch} {e : Env} {s : State} {m : MethodId} {args : Array Value} {below : List Frame} {meth : Method} {c : Code} {D : va_G} {cy : ClassId × ClassId × ClassId} {ad : Nat → Nat} {A : Nat → Prop} (E : CallFix p m c cX6_dueInterrupt 6 s args gw RX6) (hr : meth.sig.returnType = some .int) (hlk : meth.locks = false) {x1 : Int64} {u : St} {r : Int32} (h : f_X6_dueInterrupt_b118 x1 u = some r) {ls : Array Slot} {H : Heap} {locs : List Loc} {rr : Nat → Nat} (hl : lv_has ls 6 [(0, .ref (ad 18)), (1, .long x1)]) (w : WX (wC cy ad) D cy rr u A s H locs) : Wx (wC cy ad) D p l e 2 44 0 s m args below meth c A u (some (.int r)) H locs 0 118 ls [] := by
  have hx := E.1
  have hb := E.2.1
  have hown := E.2.2.2.1
  have hts := E.2.2.2.2
  refine lv_iconst (v := 0) hx hb (dq da_X6_dueInterrupt 60 rfl) rfl ?_
  exact b_X6_dueInterrupt_b119 E hr hlk h (lv_sub hl [0, 1] rfl) w
def f_X6_dueInterrupt_b86 (x1 : Int64) (u : St) : Option (Int32) := if (gI u 16) = (0 : Int32) then (f_X6_dueInterrupt_b114 x1 u) else (if (gI u 16) = (1 : Int32) then (if (f_X4_has (2 : Int64) u) = (0 : Int32) then (f_X6_dueInterrupt_b118 x1 u) else (f_X6_dueInterrupt_b114 x1 u)) else (f_X6_dueInterrupt_b118 x1 u))
set_option maxRecDepth 100000 in
set_option maxHeartbeats 4000000 in
theorem b_X6_dueInterrupt_b86 {p : Program} {l : Launch} {e : Env} {s : State} {m : MethodId} {args : Array Value} {below : List Frame} {meth : Method} {c : Code} {D : va_G} {cy : ClassId × ClassId × ClassId} {ad : Nat → Nat} {A : Nat → Prop} (E : CallFix p m c cX6_dueInterrupt 6 s args gw RX6) (hr : meth.sig.returnType = some .int) (hlk : meth.locks = false) {x1 : Int64} {u : St} {r : Int32} (h : f_X6_dueInterrupt_b86 x1 u = some r) {ls : Array Slot} {H : Heap} {locs : List Loc} {rr : Nat → Nat} (hl : lv_has ls 6 [(0, .ref (ad 18)), (1, .long x1)]) (w : WX (wC cy ad) D cy rr u A s H locs) : Wx (wC cy ad) D p l e 2 44 0 s m args below meth c A u (some (.int r)) H locs 0 86 ls [] := by
  have hx := E.1
  have hb := E.2.1
  have hown := E.2.2.2.1
  have hts := E.2.2.2.2
  refine lv_aload_n hx hb (dq da_X6_dueInterrupt 46 rfl) rfl (lv_at hl 0 rfl) ?_
  refine gt_wC_18_privilege E w w_251 (dq da_X6_dueInterrupt 47 rfl) ?_
  refine lv_if_eq (tgt := 114) hx hb (dq da_X6_dueInterrupt 48 rfl) (by decide) (fun c6 => ?_) (fun c6 => ?_)
  · have h := it c6 h
    exact b_X6_dueInterrupt_b114 E hr hlk h (lv_sub hl [0, 1] rfl) w
  · have h := ie c6 h
    refine lv_aload_n hx hb (dq da_X6_dueInterrupt 49 rfl) rfl (lv_at hl 0 rfl) ?_
    refine gt_wC_18_privilege E w w_251 (dq da_X6_dueInterrupt 50 rfl) ?_
    refine lv_iconst (v := 1) hx hb (dq da_X6_dueInterrupt 51 rfl) rfl ?_
    refine lv_icmp_ne (tgt := 118) hx hb (dq da_X6_dueInterrupt 52 rfl) (by decide) (fun c10 => ?_) (fun c10 => ?_)
    · have h := ie c10 h
      exact b_X6_dueInterrupt_b118 E hr hlk h (lv_sub hl [0, 1] rfl) w
    · have h := it c10 h
      refine lv_aload_n hx hb (dq da_X6_dueInterrupt 53 rfl) rfl (lv_at hl 0 rfl) ?_
      refine gt_wC_18_controls E w w_246 (dq da_X6_dueInterrupt 54 rfl) ?_
      refine lv_ldc2 hx hb hown (hts _ w_673) (dq da_X6_dueInterrupt 55 rfl) ?_
      refine cV1 E (c_X4_has l D cy ad _ _ ) w_664 w_665 w_666 w_7 w_667 rfl hd_X4_has rfl hl.1 rfl (Nat.le_of_ble_eq_true rfl) ⟨Nat.le_of_ble_eq_true rfl, Nat.le_of_ble_eq_true rfl⟩ (by decide) w (rc_wC_15 w) (dq da_X6_dueInterrupt 56 rfl) (fun H locs rr w => ?_)
      refine lv_if_eq (tgt := 118) hx hb (dq da_X6_dueInterrupt 57 rfl) (by decide) (fun c11 => ?_) (fun c11 => ?_)
      · have h := it c11 h
        exact b_X6_dueInterrupt_b118 E hr hlk h (lv_sub hl [0, 1] rfl) w
      · have h := ie c11 h
        exact b_X6_dueInterrupt_b114 E hr hlk h (lv_sub hl [0, 1] rfl) w
def f_X6_dueInterrupt_b81 (x3 : Int64) (u : St) : Option (Int32) := (f_X6_foremost x3 u).bind (fun y13 => some y13)
set_option maxRecDepth 100000 in
set_option maxHeartbeats 4000000 in
theorem b_X6_dueInterrupt_b81 {p : Program} {l : Launch} {e : Env} {s : State} {m : MethodId} {args : Array Value} {below : List Frame} {meth : Method} {c : Code} {D : va_G} {cy : ClassId × ClassId × ClassId} {ad : Nat → Nat} {A : Nat → Prop} (E : CallFix p m c cX6_dueInterrupt 6 s args gw RX6) (hr : meth.sig.returnType = some .int) (hlk : meth.locks = false) {x3 : Int64} {u : St} {r : Int32} (h : f_X6_dueInterrupt_b81 x3 u = some r) {ls : Array Slot} {H : Heap} {locs : List Loc} {rr : Nat → Nat} (hl : lv_has ls 6 [(3, .long x3)]) (w : WX (wC cy ad) D cy rr u A s H locs) : Wx (wC cy ad) D p l e 2 44 0 s m args below meth c A u (some (.int r)) H locs 0 81 ls [] := by
  have hx := E.1
  have hb := E.2.1
  have hown := E.2.2.2.1
  have hts := E.2.2.2.2
  refine lv_lload_n hx hb (dq da_X6_dueInterrupt 43 rfl) rfl (lv_at hl 0 rfl) ?_
  obtain ⟨y13, hy14, h⟩ := ob h
  refine cS1 E (c_X6_foremost l D cy ad _ _ hy14) w_668 w_669 w_9 w_670 hd_X6_foremost rfl hl.1 rfl (Nat.le_of_ble_eq_true rfl) ⟨Nat.le_of_ble_eq_true rfl, Nat.le_of_ble_eq_true rfl⟩ (by decide) w (dq da_X6_dueInterrupt 44 rfl) (fun H locs rr w => ?_)
  exact xret_i E hr hlk w (by decide) (os h) rfl (dq da_X6_dueInterrupt 45 rfl)
def f_X6_dueInterrupt_b31 (s0 : Int64) (u : St) : Option (Int32) := if s0 = (0 : Int64) then (some (-1 : Int32)) else (if (s0 &&& ((gL u 6) ^^^ (-1 : Int64))) = (0 : Int64) then (f_X6_dueInterrupt_b86 s0 u) else (if (gI u 16) < (3 : Int32) then (f_X6_dueInterrupt_b81 (s0 &&& ((gL u 6) ^^^ (-1 : Int64))) u) else (if (f_X4_has (8 : Int64) u) = (0 : Int32) then (f_X6_dueInterrupt_b86 s0 u) else (f_X6_dueInterrupt_b81 (s0 &&& ((gL u 6) ^^^ (-1 : Int64))) u))))
set_option maxRecDepth 100000 in
set_option maxHeartbeats 4000000 in
theorem b_X6_dueInterrupt_b31 {p : Program} {l : Launch} {e : Env} {s : State} {m : MethodId} {args : Array Value} {below : List Frame} {meth : Method} {c : Code} {D : va_G} {cy : ClassId × ClassId × ClassId} {ad : Nat → Nat} {A : Nat → Prop} (E : CallFix p m c cX6_dueInterrupt 6 s args gw RX6) (hr : meth.sig.returnType = some .int) (hlk : meth.locks = false) {s0 : Int64} {u : St} {r : Int32} (h : f_X6_dueInterrupt_b31 s0 u = some r) {ls : Array Slot} {H : Heap} {locs : List Loc} {rr : Nat → Nat} (hl : lv_has ls 6 [(0, .ref (ad 18))]) (w : WX (wC cy ad) D cy rr u A s H locs) : Wx (wC cy ad) D p l e 2 44 0 s m args below meth c A u (some (.int r)) H locs 0 31 ls [.long s0] := by
  have hx := E.1
  have hb := E.2.1
  have hown := E.2.2.2.1
  have hts := E.2.2.2.2
  refine lv_lstore_n (lv' := [(1, .long s0), (0, .ref (ad 18))]) hx hb (dq da_X6_dueInterrupt 15 rfl) rfl hl (by decide) rfl (fun ls hl => ?_)
  refine lv_lload_n hx hb (dq da_X6_dueInterrupt 16 rfl) rfl (lv_at hl 0 rfl) ?_
  refine lv_lconst (v := 0) hx hb (dq da_X6_dueInterrupt 17 rfl) rfl ?_
  refine lc_ne (tgt := 40) hx hb (dq da_X6_dueInterrupt 18 rfl) (dq da_X6_dueInterrupt 19 rfl) (by decide) (fun c4 => ?_) (fun c4 => ?_)
  · have h := ie c4 h
    refine lv_lload_n hx hb (dq da_X6_dueInterrupt 22 rfl) rfl (lv_at hl 0 rfl) ?_
    refine lv_aload_n hx hb (dq da_X6_dueInterrupt 23 rfl) rfl (lv_at hl 1 rfl) ?_
    refine gt_wC_18_controls E w w_246 (dq da_X6_dueInterrupt 24 rfl) ?_
    refine gtN_wC_15_mideleg E w n_25 (dq da_X6_dueInterrupt 25 rfl) ?_
    refine lv_ldc2 hx hb hown (hts _ w_662) (dq da_X6_dueInterrupt 26 rfl) ?_
    refine lv_lxor hx hb (dq da_X6_dueInterrupt 27 rfl) ?_
    refine lv_land hx hb (dq da_X6_dueInterrupt 28 rfl) ?_
    refine lv_lstore_n (lv' := [(3, .long (s0 &&& ((gL u 6) ^^^ (-1 : Int64)))), (1, .long s0), (0, .ref (ad 18))]) hx hb (dq da_X6_dueInterrupt 29 rfl) rfl hl (by decide) rfl (fun ls hl => ?_)
    refine lv_lload_n hx hb (dq da_X6_dueInterrupt 30 rfl) rfl (lv_at hl 0 rfl) ?_
    refine lv_lconst (v := 0) hx hb (dq da_X6_dueInterrupt 31 rfl) rfl ?_
    refine lc_eq (tgt := 86) hx hb (dq da_X6_dueInterrupt 32 rfl) (dq da_X6_dueInterrupt 33 rfl) (by decide) (fun c5 => ?_) (fun c5 => ?_)
    · have h := it c5 h
      exact b_X6_dueInterrupt_b86 E hr hlk h (lv_sub hl [2, 1] rfl) w
    · have h := ie c5 h
      refine lv_aload_n hx hb (dq da_X6_dueInterrupt 34 rfl) rfl (lv_at hl 2 rfl) ?_
      refine gt_wC_18_privilege E w w_251 (dq da_X6_dueInterrupt 35 rfl) ?_
      refine lv_iconst (v := 3) hx hb (dq da_X6_dueInterrupt 36 rfl) rfl ?_
      refine lv_icmp_lt (tgt := 81) hx hb (dq da_X6_dueInterrupt 37 rfl) (by decide) (fun c12 => ?_) (fun c12 => ?_)
      · have h := it c12 h
        exact b_X6_dueInterrupt_b81 E hr hlk h (lv_sub hl [0] rfl) w
      · have h := ie c12 h
        refine lv_aload_n hx hb (dq da_X6_dueInterrupt 38 rfl) rfl (lv_at hl 2 rfl) ?_
        refine gt_wC_18_controls E w w_246 (dq da_X6_dueInterrupt 39 rfl) ?_
        refine lv_ldc2 hx hb hown (hts _ w_663) (dq da_X6_dueInterrupt 40 rfl) ?_
        refine cV1 E (c_X4_has l D cy ad _ _ ) w_664 w_665 w_666 w_7 w_667 rfl hd_X4_has rfl hl.1 rfl (Nat.le_of_ble_eq_true rfl) ⟨Nat.le_of_ble_eq_true rfl, Nat.le_of_ble_eq_true rfl⟩ (by decide) w (rc_wC_15 w) (dq da_X6_dueInterrupt 41 rfl) (fun H locs rr w => ?_)
        refine lv_if_eq (tgt := 86) hx hb (dq da_X6_dueInterrupt 42 rfl) (by decide) (fun c15 => ?_) (fun c15 => ?_)
        · have h := it c15 h
          exact b_X6_dueInterrupt_b86 E hr hlk h (lv_sub hl [2, 1] rfl) w
        · have h := ie c15 h
          exact b_X6_dueInterrupt_b81 E hr hlk h (lv_sub hl [0] rfl) w
  · have h := it c4 h
    refine lv_iconst (v := (-1)) hx hb (dq da_X6_dueInterrupt 20 rfl) rfl ?_
    exact xret_i E hr hlk w (by decide) (os h) rfl (dq da_X6_dueInterrupt 21 rfl)
def f_X6_dueInterrupt (u : St) : Option (Int32) := if (gL u 7) = (0 : Int64) then (f_X6_dueInterrupt_b31 (0 : Int64) u) else ((f_X4_pendingInterrupts u).bind (fun y2 => f_X6_dueInterrupt_b31 ((gL u 7) &&& y2) u))
set_option maxRecDepth 100000 in
set_option maxHeartbeats 4000000 in
theorem c_X6_dueInterrupt (l : Launch) (D : va_G) (cy : ClassId × ClassId × ClassId) (ad : Nat → Nat) (u : St) {r : Int32} (h : f_X6_dueInterrupt u = some r) : MX (wC cy ad) D cy l yX6_dueInterrupt cX6_dueInterrupt 6 (some .int) 2 44 0 [.ref (ad 18)] u u (some (.int (r))) := by
  refine entX (by decide +kernel) (Nat.le_of_ble_eq_true rfl) ?_
  intro p e s m args below meth c ls rr A E hr hlk hl w
  have hl : lv_has ls 6 [(0, .ref (ad 18))] := hl
  have hx := E.1
  have hb := E.2.1
  have hown := E.2.2.2.1
  have hts := E.2.2.2.2
  refine lv_aload_n hx hb (dq da_X6_dueInterrupt 0 rfl) rfl (lv_at hl 0 rfl) ?_
  refine gt_wC_18_controls E w w_246 (dq da_X6_dueInterrupt 1 rfl) ?_
  refine gtN_wC_15_mie E w n_26 (dq da_X6_dueInterrupt 2 rfl) ?_
  refine lv_lconst (v := 0) hx hb (dq da_X6_dueInterrupt 3 rfl) rfl ?_
  refine lc_ne (tgt := 16) hx hb (dq da_X6_dueInterrupt 4 rfl) (dq da_X6_dueInterrupt 5 rfl) (by decide) (fun c1 => ?_) (fun c1 => ?_)
  · have h := ie c1 h
    refine lv_aload_n hx hb (dq da_X6_dueInterrupt 8 rfl) rfl (lv_at hl 0 rfl) ?_
    refine gt_wC_18_controls E w w_246 (dq da_X6_dueInterrupt 9 rfl) ?_
    refine gtN_wC_15_mie E w n_26 (dq da_X6_dueInterrupt 10 rfl) ?_
    refine lv_aload_n hx hb (dq da_X6_dueInterrupt 11 rfl) rfl (lv_at hl 0 rfl) ?_
    refine gt_wC_18_controls E w w_246 (dq da_X6_dueInterrupt 12 rfl) ?_
    obtain ⟨y2, hy3, h⟩ := ob h
    refine cV1 E (c_X4_pendingInterrupts l D cy ad _ hy3) w_661 w_570 w_571 w_7 w_572 rfl hd_X4_pendingInterrupts rfl hl.1 rfl (Nat.le_of_ble_eq_true rfl) ⟨Nat.le_of_ble_eq_true rfl, Nat.le_of_ble_eq_true rfl⟩ (by decide) w (rc_wC_15 w) (dq da_X6_dueInterrupt 13 rfl) (fun H locs rr w => ?_)
    refine lv_land hx hb (dq da_X6_dueInterrupt 14 rfl) ?_
    exact b_X6_dueInterrupt_b31 E hr hlk h (lv_sub hl [0] rfl) w
  · have h := it c1 h
    refine lv_lconst (v := 0) hx hb (dq da_X6_dueInterrupt 6 rfl) rfl ?_
    refine lv_goto (tgt := 31) hx hb (dq da_X6_dueInterrupt 7 rfl) (by decide) ?_
    exact b_X6_dueInterrupt_b31 E hr hlk h (lv_sub hl [0] rfl) w
def dl_X6_enter : List (Nat × Instr × Nat) := [(0, .iload_n 2, 1), (1, .ifCond .eq 13, 3), (4, .aload_n 0, 1), (5, .getfield 35, 3), (8, .getfield 89, 3), (11, .goto 10, 3), (14, .aload_n 0, 1), (15, .getfield 35, 3), (18, .getfield 110, 3), (21, .lstore 5, 2), (23, .aload_n 0, 1), (24, .getfield 21, 3), (27, .iconst 3, 1), (28, .if_icmp .ge 18, 3), (31, .lload 5, 2), (33, .iload_n 1, 1), (34, .lshr, 1), (35, .lconst 1, 1), (36, .land, 1), (37, .lconst 0, 1), (38, .lcmp, 1), (39, .ifCond .eq 7, 3), (42, .iconst 1, 1), (43, .goto 4, 3), (46, .iconst 0, 1), (47, .istore 7, 2), (49, .iload 7, 2), (51, .ifCond .eq 13, 3), (54, .aload_n 0, 1), (55, .getfield 35, 3), (58, .getfield 113, 3), (61, .goto 10, 3), (64, .aload_n 0, 1), (65, .getfield 35, 3), (68, .getfield 117, 3), (71, .astore 8, 2), (73, .aload 8, 2), (75, .aload_n 0, 1), (76, .getfield 17, 3), (79, .putfield 120, 3), (82, .aload 8, 2), (84, .iload_n 2, 1), (85, .ifCond .eq 12, 3), (88, .ldc2_w 127, 3), (91, .iload_n 1, 1), (92, .i2l, 1), (93, .ladd, 1), (94, .goto 5, 3), (97, .iload_n 1, 1), (98, .i2l, 1), (99, .putfield 129, 3), (102, .aload 8, 2), (104, .lload_n 3, 1), (105, .putfield 131, 3), (108, .iload 7, 2), (110, .ifCond .eq 17, 3), (113, .aload_n 0, 1), (114, .getfield 35, 3), (117, .aload_n 0, 1), (118, .getfield 21, 3), (121, .invokevirtual 134, 3), (124, .goto 14, 3), (127, .aload_n 0, 1), (128, .getfield 35, 3), (131, .aload_n 0, 1), (132, .getfield 21, 3), (135, .invokevirtual 137, 3), (138, .iload_n 2, 1), (139, .ifCond .eq 19, 3), (142, .aload 8, 2), (144, .getfield 140, 3), (147, .lconst 1, 1), (148, .land, 1), (149, .lconst 0, 1), (150, .lcmp, 1), (151, .ifCond .eq 7, 3), (154, .iconst 1, 1), (155, .goto 4, 3), (158, .iconst 0, 1), (159, .istore 9, 2), (161, .aload_n 0, 1), (162, .aload 8, 2), (164, .getfield 140, 3), (167, .ldc2_w 143, 3), (170, .land, 1), (171, .iload 9, 2), (173, .ifCond .eq 12, 3), (176, .ldc2_w 145, 3), (179, .iload_n 1, 1), (180, .i2l, 1), (181, .lmul, 1), (182, .goto 4, 3), (185, .lconst 0, 1), (186, .ladd, 1), (187, .putfield 17, 3), (190, .aload_n 0, 1), (191, .iload 7, 2), (193, .ifCond .eq 7, 3), (196, .iconst 1, 1), (197, .goto 4, 3), (200, .iconst 3, 1), (201, .putfield 21, 3), (204, .aload_n 0, 1), (205, .getfield 31, 3), (208, .invokevirtual 147, 3), (211, .return_, 1)]
theorem da_X6_enter : dkL cX6_enter dl_X6_enter = true := by decide +kernel
def f_X6_enter_b201 (s0 : Int32) (u : St) : St := (f_X1_endReservation (sI u 16 s0))
set_option maxRecDepth 100000 in
set_option maxHeartbeats 4000000 in
theorem b_X6_enter_b201 {p : Program} {l : Launch} {e : Env} {s : State} {m : MethodId} {args : Array Value} {below : List Frame} {meth : Method} {c : Code} {D : va_G} {cy : ClassId × ClassId × ClassId} {ad : Nat → Nat} {A : Nat → Prop} (E : CallFix p m c cX6_enter 10 s args gw RX6) (hr : meth.sig.returnType = none) (hlk : meth.locks = false) {s0 : Int32} {u : St} {u' : St} (h : f_X6_enter_b201 s0 u = u') {ls : Array Slot} {H : Heap} {locs : List Loc} {rr : Nat → Nat} (hl : lv_has ls 10 [(0, .ref (ad 18))]) (w : WX (wC cy ad) D cy rr u A s H locs) : Wx (wC cy ad) D p l e 2 46 0 s m args below meth c A u' none H locs 0 201 ls [.int s0, .ref (ad 18)] := by
  have hx := E.1
  have hb := E.2.1
  have hown := E.2.2.2.1
  have hts := E.2.2.2.2
  refine pt_wC_18_privilege E w w_251 (dq da_X6_enter 101 rfl) (fun H locs w => ?_)
  refine lv_aload_n hx hb (dq da_X6_enter 102 rfl) rfl (lv_at hl 0 rfl) ?_
  refine gt_wC_18_bus E w w_245 (dq da_X6_enter 103 rfl) ?_
  refine cV0 E (c_X1_endReservation l D cy ad _ ) w_697 w_370 w_371 w_3 w_372 rfl hd_X1_endReservation rfl hl.1 rfl (Nat.le_of_ble_eq_true rfl) ⟨Nat.le_of_ble_eq_true rfl, Nat.le_of_ble_eq_true rfl⟩ (by decide) w (rc_wC_3 w) (dq da_X6_enter 104 rfl) (fun H locs rr w => ?_)
  exact xret_v E hr hlk w (by decide) h (dq da_X6_enter 105 rfl)
def f_X6_enter_b186 (x7 : Int32) (s0 : Int64) (s1 : Int64) (u : St) : St := if x7 = (0 : Int32) then (f_X6_enter_b201 (3 : Int32) (sL u 24 (s1 + s0))) else (f_X6_enter_b201 (1 : Int32) (sL u 24 (s1 + s0)))
set_option maxRecDepth 100000 in
set_option maxHeartbeats 4000000 in
theorem b_X6_enter_b186 {p : Program} {l : Launch} {e : Env} {s : State} {m : MethodId} {args : Array Value} {below : List Frame} {meth : Method} {c : Code} {D : va_G} {cy : ClassId × ClassId × ClassId} {ad : Nat → Nat} {A : Nat → Prop} (E : CallFix p m c cX6_enter 10 s args gw RX6) (hr : meth.sig.returnType = none) (hlk : meth.locks = false) {x7 : Int32} {s0 : Int64} {s1 : Int64} {u : St} {u' : St} (h : f_X6_enter_b186 x7 s0 s1 u = u') {ls : Array Slot} {H : Heap} {locs : List Loc} {rr : Nat → Nat} (hl : lv_has ls 10 [(0, .ref (ad 18)), (7, .int x7)]) (w : WX (wC cy ad) D cy rr u A s H locs) : Wx (wC cy ad) D p l e 2 46 0 s m args below meth c A u' none H locs 0 186 ls [.long s0, .long s1, .ref (ad 18)] := by
  have hx := E.1
  have hb := E.2.1
  have hown := E.2.2.2.1
  have hts := E.2.2.2.2
  refine lv_ladd hx hb (dq da_X6_enter 93 rfl) ?_
  refine pt_wC_18_pc E w w_249 (dq da_X6_enter 94 rfl) (fun H locs w => ?_)
  refine lv_aload_n hx hb (dq da_X6_enter 95 rfl) rfl (lv_at hl 0 rfl) ?_
  refine lv_iload hx hb (dq da_X6_enter 96 rfl) (lv_at hl 1 rfl) ?_
  refine lv_if_eq (tgt := 200) hx hb (dq da_X6_enter 97 rfl) (by decide) (fun c8 => ?_) (fun c8 => ?_)
  · have h := it c8 h
    refine lv_iconst (v := 3) hx hb (dq da_X6_enter 100 rfl) rfl ?_
    exact b_X6_enter_b201 E hr hlk h (lv_sub hl [0] rfl) w
  · have h := ie c8 h
    refine lv_iconst (v := 1) hx hb (dq da_X6_enter 98 rfl) rfl ?_
    refine lv_goto (tgt := 201) hx hb (dq da_X6_enter 99 rfl) (by decide) ?_
    exact b_X6_enter_b201 E hr hlk h (lv_sub hl [0] rfl) w
def f_X6_enter_b159 (x1 : Int32) (x7 : Int32) (s0 : Int32) (u : St) : St := if s0 = (0 : Int32) then (f_X6_enter_b186 x7 (0 : Int64) ((gL u 12) &&& (-4 : Int64)) u) else (f_X6_enter_b186 x7 ((4 : Int64) * x1.toInt64) ((gL u 12) &&& (-4 : Int64)) u)
set_option maxRecDepth 100000 in
set_option maxHeartbeats 4000000 in
theorem b_X6_enter_b159 {p : Program} {l : Launch} {e : Env} {s : State} {m : MethodId} {args : Array Value} {below : List Frame} {meth : Method} {c : Code} {D : va_G} {cy : ClassId × ClassId × ClassId} {ad : Nat → Nat} {A : Nat → Prop} (E : CallFix p m c cX6_enter 10 s args gw RX6) (hr : meth.sig.returnType = none) (hlk : meth.locks = false) {x1 : Int32} {x7 : Int32} {s0 : Int32} {u : St} {u' : St} (h : f_X6_enter_b159 x1 x7 s0 u = u') {ls : Array Slot} {H : Heap} {locs : List Loc} {rr : Nat → Nat} (hl : lv_has ls 10 [(0, .ref (ad 18)), (1, .int x1), (7, .int x7), (8, .ref (ad 16))]) (w : WX (wC cy ad) D cy rr u A s H locs) : Wx (wC cy ad) D p l e 2 46 0 s m args below meth c A u' none H locs 0 159 ls [.int s0] := by
  have hx := E.1
  have hb := E.2.1
  have hown := E.2.2.2.1
  have hts := E.2.2.2.2
  refine lv_istore (lv' := [(9, .int s0), (0, .ref (ad 18)), (1, .int x1), (7, .int x7), (8, .ref (ad 16))]) hx hb (dq da_X6_enter 79 rfl) hl (by decide) rfl (fun ls hl => ?_)
  refine lv_aload_n hx hb (dq da_X6_enter 80 rfl) rfl (lv_at hl 1 rfl) ?_
  refine lv_aload hx hb (dq da_X6_enter 81 rfl) (lv_at hl 4 rfl) ?_
  refine gtN_wC_16_tvec E w n_16 (dq da_X6_enter 82 rfl) ?_
  refine lv_ldc2 hx hb hown (hts _ w_695) (dq da_X6_enter 83 rfl) ?_
  refine lv_land hx hb (dq da_X6_enter 84 rfl) ?_
  refine lv_iload hx hb (dq da_X6_enter 85 rfl) (lv_at hl 0 rfl) ?_
  refine lv_if_eq (tgt := 185) hx hb (dq da_X6_enter 86 rfl) (by decide) (fun c7 => ?_) (fun c7 => ?_)
  · have h := it c7 h
    refine lv_lconst (v := 0) hx hb (dq da_X6_enter 92 rfl) rfl ?_
    exact b_X6_enter_b186 E hr hlk h (lv_sub hl [1, 3] rfl) w
  · have h := ie c7 h
    refine lv_ldc2 hx hb hown (hts _ w_696) (dq da_X6_enter 87 rfl) ?_
    refine lv_iload_n hx hb (dq da_X6_enter 88 rfl) rfl (lv_at hl 2 rfl) ?_
    refine lv_i2l (v := x1.toInt64) hx hb (dq da_X6_enter 89 rfl) rfl ?_
    refine lv_lmul hx hb (dq da_X6_enter 90 rfl) ?_
    refine lv_goto (tgt := 186) hx hb (dq da_X6_enter 91 rfl) (by decide) ?_
    exact b_X6_enter_b186 E hr hlk h (lv_sub hl [1, 3] rfl) w
def f_X6_enter_b158 (x1 : Int32) (x7 : Int32) (u : St) : St := f_X6_enter_b159 x1 x7 (0 : Int32) u
set_option maxRecDepth 100000 in
set_option maxHeartbeats 4000000 in
theorem b_X6_enter_b158 {p : Program} {l : Launch} {e : Env} {s : State} {m : MethodId} {args : Array Value} {below : List Frame} {meth : Method} {c : Code} {D : va_G} {cy : ClassId × ClassId × ClassId} {ad : Nat → Nat} {A : Nat → Prop} (E : CallFix p m c cX6_enter 10 s args gw RX6) (hr : meth.sig.returnType = none) (hlk : meth.locks = false) {x1 : Int32} {x7 : Int32} {u : St} {u' : St} (h : f_X6_enter_b158 x1 x7 u = u') {ls : Array Slot} {H : Heap} {locs : List Loc} {rr : Nat → Nat} (hl : lv_has ls 10 [(0, .ref (ad 18)), (1, .int x1), (7, .int x7), (8, .ref (ad 16))]) (w : WX (wC cy ad) D cy rr u A s H locs) : Wx (wC cy ad) D p l e 2 46 0 s m args below meth c A u' none H locs 0 158 ls [] := by
  have hx := E.1
  have hb := E.2.1
  have hown := E.2.2.2.1
  have hts := E.2.2.2.2
  refine lv_iconst (v := 0) hx hb (dq da_X6_enter 78 rfl) rfl ?_
  exact b_X6_enter_b159 E hr hlk h (lv_sub hl [0, 1, 2, 3] rfl) w
def f_X6_enter_b138 (x1 : Int32) (x2 : Int32) (x7 : Int32) (u : St) : St := if x2 = (0 : Int32) then (f_X6_enter_b158 x1 x7 u) else (if ((gL u 12) &&& (1 : Int64)) = (0 : Int64) then (f_X6_enter_b158 x1 x7 u) else (f_X6_enter_b159 x1 x7 (1 : Int32) u))
set_option maxRecDepth 100000 in
set_option maxHeartbeats 4000000 in
theorem b_X6_enter_b138 {p : Program} {l : Launch} {e : Env} {s : State} {m : MethodId} {args : Array Value} {below : List Frame} {meth : Method} {c : Code} {D : va_G} {cy : ClassId × ClassId × ClassId} {ad : Nat → Nat} {A : Nat → Prop} (E : CallFix p m c cX6_enter 10 s args gw RX6) (hr : meth.sig.returnType = none) (hlk : meth.locks = false) {x1 : Int32} {x2 : Int32} {x7 : Int32} {u : St} {u' : St} (h : f_X6_enter_b138 x1 x2 x7 u = u') {ls : Array Slot} {H : Heap} {locs : List Loc} {rr : Nat → Nat} (hl : lv_has ls 10 [(0, .ref (ad 18)), (1, .int x1), (2, .int x2), (7, .int x7), (8, .ref (ad 16))]) (w : WX (wC cy ad) D cy rr u A s H locs) : Wx (wC cy ad) D p l e 2 46 0 s m args below meth c A u' none H locs 0 138 ls [] := by
  have hx := E.1
  have hb := E.2.1
  have hown := E.2.2.2.1
  have hts := E.2.2.2.2
  refine lv_iload_n hx hb (dq da_X6_enter 67 rfl) rfl (lv_at hl 2 rfl) ?_
  refine lv_if_eq (tgt := 158) hx hb (dq da_X6_enter 68 rfl) (by decide) (fun c6 => ?_) (fun c6 => ?_)
  · have h := it c6 h
    exact b_X6_enter_b158 E hr hlk h (lv_sub hl [0, 1, 3, 4] rfl) w
  · have h := ie c6 h
    refine lv_aload hx hb (dq da_X6_enter 69 rfl) (lv_at hl 4 rfl) ?_
    refine gtN_wC_16_tvec E w n_16 (dq da_X6_enter 70 rfl) ?_
    refine lv_lconst (v := 1) hx hb (dq da_X6_enter 71 rfl) rfl ?_
    refine lv_land hx hb (dq da_X6_enter 72 rfl) ?_
    refine lv_lconst (v := 0) hx hb (dq da_X6_enter 73 rfl) rfl ?_
    refine lc_eq (tgt := 158) hx hb (dq da_X6_enter 74 rfl) (dq da_X6_enter 75 rfl) (by decide) (fun c9 => ?_) (fun c9 => ?_)
    · have h := it c9 h
      exact b_X6_enter_b158 E hr hlk h (lv_sub hl [0, 1, 3, 4] rfl) w
    · have h := ie c9 h
      refine lv_iconst (v := 1) hx hb (dq da_X6_enter 76 rfl) rfl ?_
      refine lv_goto (tgt := 159) hx hb (dq da_X6_enter 77 rfl) (by decide) ?_
      exact b_X6_enter_b159 E hr hlk h (lv_sub hl [0, 1, 3, 4] rfl) w
def f_X6_enter_b99 (x1 : Int32) (x2 : Int32) (x3 : Int64) (x7 : Int32) (s0 : Int64) (u : St) : St := if x7 = (0 : Int32) then (f_X6_enter_b138 x1 x2 x7 (f_X4_enterMachine (gI (sL (sL u 16 s0) 17 x3) 16) (sL (sL u 16 s0) 17 x3))) else (f_X6_enter_b138 x1 x2 x7 (f_X4_enterSupervisor (gI (sL (sL u 16 s0) 17 x3) 16) (sL (sL u 16 s0) 17 x3)))
set_option maxRecDepth 100000 in
set_option maxHeartbeats 4000000 in
theorem b_X6_enter_b99 {p : Program} {l : Launch} {e : Env} {s : State} {m : MethodId} {args : Array Value} {below : List Frame} {meth : Method} {c : Code} {D : va_G} {cy : ClassId × ClassId × ClassId} {ad : Nat → Nat} {A : Nat → Prop} (E : CallFix p m c cX6_enter 10 s args gw RX6) (hr : meth.sig.returnType = none) (hlk : meth.locks = false) {x1 : Int32} {x2 : Int32} {x3 : Int64} {x7 : Int32} {s0 : Int64} {u : St} {u' : St} (h : f_X6_enter_b99 x1 x2 x3 x7 s0 u = u') {ls : Array Slot} {H : Heap} {locs : List Loc} {rr : Nat → Nat} (hl : lv_has ls 10 [(0, .ref (ad 18)), (1, .int x1), (2, .int x2), (3, .long x3), (7, .int x7), (8, .ref (ad 16))]) (w : WX (wC cy ad) D cy rr u A s H locs) : Wx (wC cy ad) D p l e 2 46 0 s m args below meth c A u' none H locs 0 99 ls [.long s0, .ref (ad 16)] := by
  have hx := E.1
  have hb := E.2.1
  have hown := E.2.2.2.1
  have hts := E.2.2.2.2
  refine ptN_wC_16_cause E w n_19 (dq da_X6_enter 50 rfl) (fun H locs w => ?_)
  refine lv_aload hx hb (dq da_X6_enter 51 rfl) (lv_at hl 5 rfl) ?_
  refine lv_lload_n hx hb (dq da_X6_enter 52 rfl) rfl (lv_at hl 3 rfl) ?_
  refine ptN_wC_16_tval E w n_20 (dq da_X6_enter 53 rfl) (fun H locs w => ?_)
  refine lv_iload hx hb (dq da_X6_enter 54 rfl) (lv_at hl 4 rfl) ?_
  refine lv_if_eq (tgt := 127) hx hb (dq da_X6_enter 55 rfl) (by decide) (fun c5 => ?_) (fun c5 => ?_)
  · have h := it c5 h
    refine lv_aload_n hx hb (dq da_X6_enter 62 rfl) rfl (lv_at hl 0 rfl) ?_
    refine gt_wC_18_controls E w w_246 (dq da_X6_enter 63 rfl) ?_
    refine lv_aload_n hx hb (dq da_X6_enter 64 rfl) rfl (lv_at hl 0 rfl) ?_
    refine gt_wC_18_privilege E w w_251 (dq da_X6_enter 65 rfl) ?_
    refine cV0 E (c_X4_enterMachine l D cy ad _ _ ) w_690 w_691 w_692 w_7 w_693 rfl hd_X4_enterMachine rfl hl.1 rfl (Nat.le_of_ble_eq_true rfl) ⟨Nat.le_of_ble_eq_true rfl, Nat.le_of_ble_eq_true rfl⟩ (by decide) w (rc_wC_15 w) (dq da_X6_enter 66 rfl) (fun H locs rr w => ?_)
    exact b_X6_enter_b138 E hr hlk h (lv_sub hl [0, 1, 2, 4, 5] rfl) w
  · have h := ie c5 h
    refine lv_aload_n hx hb (dq da_X6_enter 56 rfl) rfl (lv_at hl 0 rfl) ?_
    refine gt_wC_18_controls E w w_246 (dq da_X6_enter 57 rfl) ?_
    refine lv_aload_n hx hb (dq da_X6_enter 58 rfl) rfl (lv_at hl 0 rfl) ?_
    refine gt_wC_18_privilege E w w_251 (dq da_X6_enter 59 rfl) ?_
    refine cV0 E (c_X4_enterSupervisor l D cy ad _ _ ) w_679 w_680 w_681 w_7 w_682 rfl hd_X4_enterSupervisor rfl hl.1 rfl (Nat.le_of_ble_eq_true rfl) ⟨Nat.le_of_ble_eq_true rfl, Nat.le_of_ble_eq_true rfl⟩ (by decide) w (rc_wC_15 w) (dq da_X6_enter 60 rfl) (fun H locs rr w => ?_)
    refine lv_goto (tgt := 138) hx hb (dq da_X6_enter 61 rfl) (by decide) ?_
    exact b_X6_enter_b138 E hr hlk h (lv_sub hl [0, 1, 2, 4, 5] rfl) w
def f_X6_enter_b71 (x1 : Int32) (x2 : Int32) (x3 : Int64) (x7 : Int32) (u : St) : St := if x2 = (0 : Int32) then (f_X6_enter_b99 x1 x2 x3 x7 x1.toInt64 (sL u 15 (gL u 24))) else (f_X6_enter_b99 x1 x2 x3 x7 ((-9223372036854775808 : Int64) + x1.toInt64) (sL u 15 (gL u 24)))
set_option maxRecDepth 100000 in
set_option maxHeartbeats 4000000 in
theorem b_X6_enter_b71 {p : Program} {l : Launch} {e : Env} {s : State} {m : MethodId} {args : Array Value} {below : List Frame} {meth : Method} {c : Code} {D : va_G} {cy : ClassId × ClassId × ClassId} {ad : Nat → Nat} {A : Nat → Prop} (E : CallFix p m c cX6_enter 10 s args gw RX6) (hr : meth.sig.returnType = none) (hlk : meth.locks = false) {x1 : Int32} {x2 : Int32} {x3 : Int64} {x7 : Int32} {u : St} {u' : St} (h : f_X6_enter_b71 x1 x2 x3 x7 u = u') {ls : Array Slot} {H : Heap} {locs : List Loc} {rr : Nat → Nat} (hl : lv_has ls 10 [(0, .ref (ad 18)), (1, .int x1), (2, .int x2), (3, .long x3), (7, .int x7)]) (w : WX (wC cy ad) D cy rr u A s H locs) : Wx (wC cy ad) D p l e 2 46 0 s m args below meth c A u' none H locs 0 71 ls [.ref (ad 16)] := by
  have hx := E.1
  have hb := E.2.1
  have hown := E.2.2.2.1
  have hts := E.2.2.2.2
  refine lv_astore (lv' := [(8, .ref (ad 16)), (0, .ref (ad 18)), (1, .int x1), (2, .int x2), (3, .long x3), (7, .int x7)]) hx hb (dq da_X6_enter 35 rfl) hl (by decide) rfl (fun ls hl => ?_)
  refine lv_aload hx hb (dq da_X6_enter 36 rfl) (lv_at hl 0 rfl) ?_
  refine lv_aload_n hx hb (dq da_X6_enter 37 rfl) rfl (lv_at hl 1 rfl) ?_
  refine gt_wC_18_pc E w w_249 (dq da_X6_enter 38 rfl) ?_
  refine ptN_wC_16_epc E w n_18 (dq da_X6_enter 39 rfl) (fun H locs w => ?_)
  refine lv_aload hx hb (dq da_X6_enter 40 rfl) (lv_at hl 0 rfl) ?_
  refine lv_iload_n hx hb (dq da_X6_enter 41 rfl) rfl (lv_at hl 3 rfl) ?_
  refine lv_if_eq (tgt := 97) hx hb (dq da_X6_enter 42 rfl) (by decide) (fun c4 => ?_) (fun c4 => ?_)
  · have h := it c4 h
    refine lv_iload_n hx hb (dq da_X6_enter 48 rfl) rfl (lv_at hl 2 rfl) ?_
    refine lv_i2l (v := x1.toInt64) hx hb (dq da_X6_enter 49 rfl) rfl ?_
    exact b_X6_enter_b99 E hr hlk h (lv_sub hl [1, 2, 3, 4, 5, 0] rfl) w
  · have h := ie c4 h
    refine lv_ldc2 hx hb hown (hts _ w_678) (dq da_X6_enter 43 rfl) ?_
    refine lv_iload_n hx hb (dq da_X6_enter 44 rfl) rfl (lv_at hl 2 rfl) ?_
    refine lv_i2l (v := x1.toInt64) hx hb (dq da_X6_enter 45 rfl) rfl ?_
    refine lv_ladd hx hb (dq da_X6_enter 46 rfl) ?_
    refine lv_goto (tgt := 99) hx hb (dq da_X6_enter 47 rfl) (by decide) ?_
    exact b_X6_enter_b99 E hr hlk h (lv_sub hl [1, 2, 3, 4, 5, 0] rfl) w
def f_X6_enter_b159_14 (x1 : Int32) (x7 : Int32) (s0 : Int32) (u : St) : St := if s0 = (0 : Int32) then (f_X6_enter_b186 x7 (0 : Int64) ((gL u 18) &&& (-4 : Int64)) u) else (f_X6_enter_b186 x7 ((4 : Int64) * x1.toInt64) ((gL u 18) &&& (-4 : Int64)) u)
set_option maxRecDepth 100000 in
set_option maxHeartbeats 4000000 in
theorem b_X6_enter_b159_14 {p : Program} {l : Launch} {e : Env} {s : State} {m : MethodId} {args : Array Value} {below : List Frame} {meth : Method} {c : Code} {D : va_G} {cy : ClassId × ClassId × ClassId} {ad : Nat → Nat} {A : Nat → Prop} (E : CallFix p m c cX6_enter 10 s args gw RX6) (hr : meth.sig.returnType = none) (hlk : meth.locks = false) {x1 : Int32} {x7 : Int32} {s0 : Int32} {u : St} {u' : St} (h : f_X6_enter_b159_14 x1 x7 s0 u = u') {ls : Array Slot} {H : Heap} {locs : List Loc} {rr : Nat → Nat} (hl : lv_has ls 10 [(0, .ref (ad 18)), (1, .int x1), (7, .int x7), (8, .ref (ad 17))]) (w : WX (wC cy ad) D cy rr u A s H locs) : Wx (wC cy ad) D p l e 2 46 0 s m args below meth c A u' none H locs 0 159 ls [.int s0] := by
  have hx := E.1
  have hb := E.2.1
  have hown := E.2.2.2.1
  have hts := E.2.2.2.2
  refine lv_istore (lv' := [(9, .int s0), (0, .ref (ad 18)), (1, .int x1), (7, .int x7), (8, .ref (ad 17))]) hx hb (dq da_X6_enter 79 rfl) hl (by decide) rfl (fun ls hl => ?_)
  refine lv_aload_n hx hb (dq da_X6_enter 80 rfl) rfl (lv_at hl 1 rfl) ?_
  refine lv_aload hx hb (dq da_X6_enter 81 rfl) (lv_at hl 4 rfl) ?_
  refine gtN_wC_17_tvec E w n_16 (dq da_X6_enter 82 rfl) ?_
  refine lv_ldc2 hx hb hown (hts _ w_695) (dq da_X6_enter 83 rfl) ?_
  refine lv_land hx hb (dq da_X6_enter 84 rfl) ?_
  refine lv_iload hx hb (dq da_X6_enter 85 rfl) (lv_at hl 0 rfl) ?_
  refine lv_if_eq (tgt := 185) hx hb (dq da_X6_enter 86 rfl) (by decide) (fun c13 => ?_) (fun c13 => ?_)
  · have h := it c13 h
    refine lv_lconst (v := 0) hx hb (dq da_X6_enter 92 rfl) rfl ?_
    exact b_X6_enter_b186 E hr hlk h (lv_sub hl [1, 3] rfl) w
  · have h := ie c13 h
    refine lv_ldc2 hx hb hown (hts _ w_696) (dq da_X6_enter 87 rfl) ?_
    refine lv_iload_n hx hb (dq da_X6_enter 88 rfl) rfl (lv_at hl 2 rfl) ?_
    refine lv_i2l (v := x1.toInt64) hx hb (dq da_X6_enter 89 rfl) rfl ?_
    refine lv_lmul hx hb (dq da_X6_enter 90 rfl) ?_
    refine lv_goto (tgt := 186) hx hb (dq da_X6_enter 91 rfl) (by decide) ?_
    exact b_X6_enter_b186 E hr hlk h (lv_sub hl [1, 3] rfl) w
def f_X6_enter_b158_13 (x1 : Int32) (x7 : Int32) (u : St) : St := f_X6_enter_b159_14 x1 x7 (0 : Int32) u
set_option maxRecDepth 100000 in
set_option maxHeartbeats 4000000 in
theorem b_X6_enter_b158_13 {p : Program} {l : Launch} {e : Env} {s : State} {m : MethodId} {args : Array Value} {below : List Frame} {meth : Method} {c : Code} {D : va_G} {cy : ClassId × ClassId × ClassId} {ad : Nat → Nat} {A : Nat → Prop} (E : CallFix p m c cX6_enter 10 s args gw RX6) (hr : meth.sig.returnType = none) (hlk : meth.locks = false) {x1 : Int32} {x7 : Int32} {u : St} {u' : St} (h : f_X6_enter_b158_13 x1 x7 u = u') {ls : Array Slot} {H : Heap} {locs : List Loc} {rr : Nat → Nat} (hl : lv_has ls 10 [(0, .ref (ad 18)), (1, .int x1), (7, .int x7), (8, .ref (ad 17))]) (w : WX (wC cy ad) D cy rr u A s H locs) : Wx (wC cy ad) D p l e 2 46 0 s m args below meth c A u' none H locs 0 158 ls [] := by
  have hx := E.1
  have hb := E.2.1
  have hown := E.2.2.2.1
  have hts := E.2.2.2.2
  refine lv_iconst (v := 0) hx hb (dq da_X6_enter 78 rfl) rfl ?_
  exact b_X6_enter_b159_14 E hr hlk h (lv_sub hl [0, 1, 2, 3] rfl) w
def f_X6_enter_b138_12 (x1 : Int32) (x2 : Int32) (x7 : Int32) (u : St) : St := if x2 = (0 : Int32) then (f_X6_enter_b158_13 x1 x7 u) else (if ((gL u 18) &&& (1 : Int64)) = (0 : Int64) then (f_X6_enter_b158_13 x1 x7 u) else (f_X6_enter_b159_14 x1 x7 (1 : Int32) u))
set_option maxRecDepth 100000 in
set_option maxHeartbeats 4000000 in
theorem b_X6_enter_b138_12 {p : Program} {l : Launch} {e : Env} {s : State} {m : MethodId} {args : Array Value} {below : List Frame} {meth : Method} {c : Code} {D : va_G} {cy : ClassId × ClassId × ClassId} {ad : Nat → Nat} {A : Nat → Prop} (E : CallFix p m c cX6_enter 10 s args gw RX6) (hr : meth.sig.returnType = none) (hlk : meth.locks = false) {x1 : Int32} {x2 : Int32} {x7 : Int32} {u : St} {u' : St} (h : f_X6_enter_b138_12 x1 x2 x7 u = u') {ls : Array Slot} {H : Heap} {locs : List Loc} {rr : Nat → Nat} (hl : lv_has ls 10 [(0, .ref (ad 18)), (1, .int x1), (2, .int x2), (7, .int x7), (8, .ref (ad 17))]) (w : WX (wC cy ad) D cy rr u A s H locs) : Wx (wC cy ad) D p l e 2 46 0 s m args below meth c A u' none H locs 0 138 ls [] := by
  have hx := E.1
  have hb := E.2.1
  have hown := E.2.2.2.1
  have hts := E.2.2.2.2
  refine lv_iload_n hx hb (dq da_X6_enter 67 rfl) rfl (lv_at hl 2 rfl) ?_
  refine lv_if_eq (tgt := 158) hx hb (dq da_X6_enter 68 rfl) (by decide) (fun c12 => ?_) (fun c12 => ?_)
  · have h := it c12 h
    exact b_X6_enter_b158_13 E hr hlk h (lv_sub hl [0, 1, 3, 4] rfl) w
  · have h := ie c12 h
    refine lv_aload hx hb (dq da_X6_enter 69 rfl) (lv_at hl 4 rfl) ?_
    refine gtN_wC_17_tvec E w n_16 (dq da_X6_enter 70 rfl) ?_
    refine lv_lconst (v := 1) hx hb (dq da_X6_enter 71 rfl) rfl ?_
    refine lv_land hx hb (dq da_X6_enter 72 rfl) ?_
    refine lv_lconst (v := 0) hx hb (dq da_X6_enter 73 rfl) rfl ?_
    refine lc_eq (tgt := 158) hx hb (dq da_X6_enter 74 rfl) (dq da_X6_enter 75 rfl) (by decide) (fun c14 => ?_) (fun c14 => ?_)
    · have h := it c14 h
      exact b_X6_enter_b158_13 E hr hlk h (lv_sub hl [0, 1, 3, 4] rfl) w
    · have h := ie c14 h
      refine lv_iconst (v := 1) hx hb (dq da_X6_enter 76 rfl) rfl ?_
      refine lv_goto (tgt := 159) hx hb (dq da_X6_enter 77 rfl) (by decide) ?_
      exact b_X6_enter_b159_14 E hr hlk h (lv_sub hl [0, 1, 3, 4] rfl) w
def f_X6_enter_b99_11 (x1 : Int32) (x2 : Int32) (x3 : Int64) (x7 : Int32) (s0 : Int64) (u : St) : St := if x7 = (0 : Int32) then (f_X6_enter_b138_12 x1 x2 x7 (f_X4_enterMachine (gI (sL (sL u 22 s0) 23 x3) 16) (sL (sL u 22 s0) 23 x3))) else (f_X6_enter_b138_12 x1 x2 x7 (f_X4_enterSupervisor (gI (sL (sL u 22 s0) 23 x3) 16) (sL (sL u 22 s0) 23 x3)))
set_option maxRecDepth 100000 in
set_option maxHeartbeats 4000000 in
theorem b_X6_enter_b99_11 {p : Program} {l : Launch} {e : Env} {s : State} {m : MethodId} {args : Array Value} {below : List Frame} {meth : Method} {c : Code} {D : va_G} {cy : ClassId × ClassId × ClassId} {ad : Nat → Nat} {A : Nat → Prop} (E : CallFix p m c cX6_enter 10 s args gw RX6) (hr : meth.sig.returnType = none) (hlk : meth.locks = false) {x1 : Int32} {x2 : Int32} {x3 : Int64} {x7 : Int32} {s0 : Int64} {u : St} {u' : St} (h : f_X6_enter_b99_11 x1 x2 x3 x7 s0 u = u') {ls : Array Slot} {H : Heap} {locs : List Loc} {rr : Nat → Nat} (hl : lv_has ls 10 [(0, .ref (ad 18)), (1, .int x1), (2, .int x2), (3, .long x3), (7, .int x7), (8, .ref (ad 17))]) (w : WX (wC cy ad) D cy rr u A s H locs) : Wx (wC cy ad) D p l e 2 46 0 s m args below meth c A u' none H locs 0 99 ls [.long s0, .ref (ad 17)] := by
  have hx := E.1
  have hb := E.2.1
  have hown := E.2.2.2.1
  have hts := E.2.2.2.2
  refine ptN_wC_17_cause E w n_19 (dq da_X6_enter 50 rfl) (fun H locs w => ?_)
  refine lv_aload hx hb (dq da_X6_enter 51 rfl) (lv_at hl 5 rfl) ?_
  refine lv_lload_n hx hb (dq da_X6_enter 52 rfl) rfl (lv_at hl 3 rfl) ?_
  refine ptN_wC_17_tval E w n_20 (dq da_X6_enter 53 rfl) (fun H locs w => ?_)
  refine lv_iload hx hb (dq da_X6_enter 54 rfl) (lv_at hl 4 rfl) ?_
  refine lv_if_eq (tgt := 127) hx hb (dq da_X6_enter 55 rfl) (by decide) (fun c11 => ?_) (fun c11 => ?_)
  · have h := it c11 h
    refine lv_aload_n hx hb (dq da_X6_enter 62 rfl) rfl (lv_at hl 0 rfl) ?_
    refine gt_wC_18_controls E w w_246 (dq da_X6_enter 63 rfl) ?_
    refine lv_aload_n hx hb (dq da_X6_enter 64 rfl) rfl (lv_at hl 0 rfl) ?_
    refine gt_wC_18_privilege E w w_251 (dq da_X6_enter 65 rfl) ?_
    refine cV0 E (c_X4_enterMachine l D cy ad _ _ ) w_690 w_691 w_692 w_7 w_693 rfl hd_X4_enterMachine rfl hl.1 rfl (Nat.le_of_ble_eq_true rfl) ⟨Nat.le_of_ble_eq_true rfl, Nat.le_of_ble_eq_true rfl⟩ (by decide) w (rc_wC_15 w) (dq da_X6_enter 66 rfl) (fun H locs rr w => ?_)
    exact b_X6_enter_b138_12 E hr hlk h (lv_sub hl [0, 1, 2, 4, 5] rfl) w
  · have h := ie c11 h
    refine lv_aload_n hx hb (dq da_X6_enter 56 rfl) rfl (lv_at hl 0 rfl) ?_
    refine gt_wC_18_controls E w w_246 (dq da_X6_enter 57 rfl) ?_
    refine lv_aload_n hx hb (dq da_X6_enter 58 rfl) rfl (lv_at hl 0 rfl) ?_
    refine gt_wC_18_privilege E w w_251 (dq da_X6_enter 59 rfl) ?_
    refine cV0 E (c_X4_enterSupervisor l D cy ad _ _ ) w_679 w_680 w_681 w_7 w_682 rfl hd_X4_enterSupervisor rfl hl.1 rfl (Nat.le_of_ble_eq_true rfl) ⟨Nat.le_of_ble_eq_true rfl, Nat.le_of_ble_eq_true rfl⟩ (by decide) w (rc_wC_15 w) (dq da_X6_enter 60 rfl) (fun H locs rr w => ?_)
    refine lv_goto (tgt := 138) hx hb (dq da_X6_enter 61 rfl) (by decide) ?_
    exact b_X6_enter_b138_12 E hr hlk h (lv_sub hl [0, 1, 2, 4, 5] rfl) w
def f_X6_enter_b71_10 (x1 : Int32) (x2 : Int32) (x3 : Int64) (x7 : Int32) (u : St) : St := if x2 = (0 : Int32) then (f_X6_enter_b99_11 x1 x2 x3 x7 x1.toInt64 (sL u 21 (gL u 24))) else (f_X6_enter_b99_11 x1 x2 x3 x7 ((-9223372036854775808 : Int64) + x1.toInt64) (sL u 21 (gL u 24)))
set_option maxRecDepth 100000 in
set_option maxHeartbeats 4000000 in
theorem b_X6_enter_b71_10 {p : Program} {l : Launch} {e : Env} {s : State} {m : MethodId} {args : Array Value} {below : List Frame} {meth : Method} {c : Code} {D : va_G} {cy : ClassId × ClassId × ClassId} {ad : Nat → Nat} {A : Nat → Prop} (E : CallFix p m c cX6_enter 10 s args gw RX6) (hr : meth.sig.returnType = none) (hlk : meth.locks = false) {x1 : Int32} {x2 : Int32} {x3 : Int64} {x7 : Int32} {u : St} {u' : St} (h : f_X6_enter_b71_10 x1 x2 x3 x7 u = u') {ls : Array Slot} {H : Heap} {locs : List Loc} {rr : Nat → Nat} (hl : lv_has ls 10 [(0, .ref (ad 18)), (1, .int x1), (2, .int x2), (3, .long x3), (7, .int x7)]) (w : WX (wC cy ad) D cy rr u A s H locs) : Wx (wC cy ad) D p l e 2 46 0 s m args below meth c A u' none H locs 0 71 ls [.ref (ad 17)] := by
  have hx := E.1
  have hb := E.2.1
  have hown := E.2.2.2.1
  have hts := E.2.2.2.2
  refine lv_astore (lv' := [(8, .ref (ad 17)), (0, .ref (ad 18)), (1, .int x1), (2, .int x2), (3, .long x3), (7, .int x7)]) hx hb (dq da_X6_enter 35 rfl) hl (by decide) rfl (fun ls hl => ?_)
  refine lv_aload hx hb (dq da_X6_enter 36 rfl) (lv_at hl 0 rfl) ?_
  refine lv_aload_n hx hb (dq da_X6_enter 37 rfl) rfl (lv_at hl 1 rfl) ?_
  refine gt_wC_18_pc E w w_249 (dq da_X6_enter 38 rfl) ?_
  refine ptN_wC_17_epc E w n_18 (dq da_X6_enter 39 rfl) (fun H locs w => ?_)
  refine lv_aload hx hb (dq da_X6_enter 40 rfl) (lv_at hl 0 rfl) ?_
  refine lv_iload_n hx hb (dq da_X6_enter 41 rfl) rfl (lv_at hl 3 rfl) ?_
  refine lv_if_eq (tgt := 97) hx hb (dq da_X6_enter 42 rfl) (by decide) (fun c10 => ?_) (fun c10 => ?_)
  · have h := it c10 h
    refine lv_iload_n hx hb (dq da_X6_enter 48 rfl) rfl (lv_at hl 2 rfl) ?_
    refine lv_i2l (v := x1.toInt64) hx hb (dq da_X6_enter 49 rfl) rfl ?_
    exact b_X6_enter_b99_11 E hr hlk h (lv_sub hl [1, 2, 3, 4, 5, 0] rfl) w
  · have h := ie c10 h
    refine lv_ldc2 hx hb hown (hts _ w_678) (dq da_X6_enter 43 rfl) ?_
    refine lv_iload_n hx hb (dq da_X6_enter 44 rfl) rfl (lv_at hl 2 rfl) ?_
    refine lv_i2l (v := x1.toInt64) hx hb (dq da_X6_enter 45 rfl) rfl ?_
    refine lv_ladd hx hb (dq da_X6_enter 46 rfl) ?_
    refine lv_goto (tgt := 99) hx hb (dq da_X6_enter 47 rfl) (by decide) ?_
    exact b_X6_enter_b99_11 E hr hlk h (lv_sub hl [1, 2, 3, 4, 5, 0] rfl) w
def f_X6_enter_b47 (x1 : Int32) (x2 : Int32) (x3 : Int64) (s0 : Int32) (u : St) : St := if s0 = (0 : Int32) then (f_X6_enter_b71 x1 x2 x3 s0 u) else (f_X6_enter_b71_10 x1 x2 x3 s0 u)
set_option maxRecDepth 100000 in
set_option maxHeartbeats 4000000 in
theorem b_X6_enter_b47 {p : Program} {l : Launch} {e : Env} {s : State} {m : MethodId} {args : Array Value} {below : List Frame} {meth : Method} {c : Code} {D : va_G} {cy : ClassId × ClassId × ClassId} {ad : Nat → Nat} {A : Nat → Prop} (E : CallFix p m c cX6_enter 10 s args gw RX6) (hr : meth.sig.returnType = none) (hlk : meth.locks = false) {x1 : Int32} {x2 : Int32} {x3 : Int64} {s0 : Int32} {u : St} {u' : St} (h : f_X6_enter_b47 x1 x2 x3 s0 u = u') {ls : Array Slot} {H : Heap} {locs : List Loc} {rr : Nat → Nat} (hl : lv_has ls 10 [(0, .ref (ad 18)), (1, .int x1), (2, .int x2), (3, .long x3)]) (w : WX (wC cy ad) D cy rr u A s H locs) : Wx (wC cy ad) D p l e 2 46 0 s m args below meth c A u' none H locs 0 47 ls [.int s0] := by
  have hx := E.1
  have hb := E.2.1
  have hown := E.2.2.2.1
  have hts := E.2.2.2.2
  refine lv_istore (lv' := [(7, .int s0), (0, .ref (ad 18)), (1, .int x1), (2, .int x2), (3, .long x3)]) hx hb (dq da_X6_enter 25 rfl) hl (by decide) rfl (fun ls hl => ?_)
  refine lv_iload hx hb (dq da_X6_enter 26 rfl) (lv_at hl 0 rfl) ?_
  refine lv_if_eq (tgt := 64) hx hb (dq da_X6_enter 27 rfl) (by decide) (fun c3 => ?_) (fun c3 => ?_)
  · have h := it c3 h
    refine lv_aload_n hx hb (dq da_X6_enter 32 rfl) rfl (lv_at hl 1 rfl) ?_
    refine gt_wC_18_controls E w w_246 (dq da_X6_enter 33 rfl) ?_
    refine gtN_wC_15_machine E w n_21 (dq da_X6_enter 34 rfl) ?_
    exact b_X6_enter_b71 E hr hlk h (lv_sub hl [1, 2, 3, 4, 0] rfl) w
  · have h := ie c3 h
    refine lv_aload_n hx hb (dq da_X6_enter 28 rfl) rfl (lv_at hl 1 rfl) ?_
    refine gt_wC_18_controls E w w_246 (dq da_X6_enter 29 rfl) ?_
    refine gtN_wC_15_supervisor E w n_22 (dq da_X6_enter 30 rfl) ?_
    refine lv_goto (tgt := 71) hx hb (dq da_X6_enter 31 rfl) (by decide) ?_
    exact b_X6_enter_b71_10 E hr hlk h (lv_sub hl [1, 2, 3, 4, 0] rfl) w
def f_X6_enter_b46 (x1 : Int32) (x2 : Int32) (x3 : Int64) (u : St) : St := f_X6_enter_b47 x1 x2 x3 (0 : Int32) u
set_option maxRecDepth 100000 in
set_option maxHeartbeats 4000000 in
theorem b_X6_enter_b46 {p : Program} {l : Launch} {e : Env} {s : State} {m : MethodId} {args : Array Value} {below : List Frame} {meth : Method} {c : Code} {D : va_G} {cy : ClassId × ClassId × ClassId} {ad : Nat → Nat} {A : Nat → Prop} (E : CallFix p m c cX6_enter 10 s args gw RX6) (hr : meth.sig.returnType = none) (hlk : meth.locks = false) {x1 : Int32} {x2 : Int32} {x3 : Int64} {u : St} {u' : St} (h : f_X6_enter_b46 x1 x2 x3 u = u') {ls : Array Slot} {H : Heap} {locs : List Loc} {rr : Nat → Nat} (hl : lv_has ls 10 [(0, .ref (ad 18)), (1, .int x1), (2, .int x2), (3, .long x3)]) (w : WX (wC cy ad) D cy rr u A s H locs) : Wx (wC cy ad) D p l e 2 46 0 s m args below meth c A u' none H locs 0 46 ls [] := by
  have hx := E.1
  have hb := E.2.1
  have hown := E.2.2.2.1
  have hts := E.2.2.2.2
  refine lv_iconst (v := 0) hx hb (dq da_X6_enter 24 rfl) rfl ?_
  exact b_X6_enter_b47 E hr hlk h (lv_sub hl [0, 1, 2, 3] rfl) w
def f_X6_enter_b21 (x1 : Int32) (x2 : Int32) (x3 : Int64) (s0 : Int64) (u : St) : St := if (3 : Int32) ≤ (gI u 16) then (f_X6_enter_b46 x1 x2 x3 u) else (if ((j_lshr s0 x1) &&& (1 : Int64)) = (0 : Int64) then (f_X6_enter_b46 x1 x2 x3 u) else (f_X6_enter_b47 x1 x2 x3 (1 : Int32) u))
set_option maxRecDepth 100000 in
set_option maxHeartbeats 4000000 in
theorem b_X6_enter_b21 {p : Program} {l : Launch} {e : Env} {s : State} {m : MethodId} {args : Array Value} {below : List Frame} {meth : Method} {c : Code} {D : va_G} {cy : ClassId × ClassId × ClassId} {ad : Nat → Nat} {A : Nat → Prop} (E : CallFix p m c cX6_enter 10 s args gw RX6) (hr : meth.sig.returnType = none) (hlk : meth.locks = false) {x1 : Int32} {x2 : Int32} {x3 : Int64} {s0 : Int64} {u : St} {u' : St} (h : f_X6_enter_b21 x1 x2 x3 s0 u = u') {ls : Array Slot} {H : Heap} {locs : List Loc} {rr : Nat → Nat} (hl : lv_has ls 10 [(0, .ref (ad 18)), (1, .int x1), (2, .int x2), (3, .long x3)]) (w : WX (wC cy ad) D cy rr u A s H locs) : Wx (wC cy ad) D p l e 2 46 0 s m args below meth c A u' none H locs 0 21 ls [.long s0] := by
  have hx := E.1
  have hb := E.2.1
  have hown := E.2.2.2.1
  have hts := E.2.2.2.2
  refine lv_lstore (lv' := [(5, .long s0), (0, .ref (ad 18)), (1, .int x1), (2, .int x2), (3, .long x3)]) hx hb (dq da_X6_enter 9 rfl) hl (by decide) rfl (fun ls hl => ?_)
  refine lv_aload_n hx hb (dq da_X6_enter 10 rfl) rfl (lv_at hl 1 rfl) ?_
  refine gt_wC_18_privilege E w w_251 (dq da_X6_enter 11 rfl) ?_
  refine lv_iconst (v := 3) hx hb (dq da_X6_enter 12 rfl) rfl ?_
  refine lv_icmp_ge (tgt := 46) hx hb (dq da_X6_enter 13 rfl) (by decide) (fun c2 => ?_) (fun c2 => ?_)
  · have h := it c2 h
    exact b_X6_enter_b46 E hr hlk h (lv_sub hl [1, 2, 3, 4] rfl) w
  · have h := ie c2 h
    refine lv_lload hx hb (dq da_X6_enter 14 rfl) (lv_at hl 0 rfl) ?_
    refine lv_iload_n hx hb (dq da_X6_enter 15 rfl) rfl (lv_at hl 2 rfl) ?_
    refine lv_lshr (v := (j_lshr s0 x1)) hx hb (dq da_X6_enter 16 rfl) rfl ?_
    refine lv_lconst (v := 1) hx hb (dq da_X6_enter 17 rfl) rfl ?_
    refine lv_land hx hb (dq da_X6_enter 18 rfl) ?_
    refine lv_lconst (v := 0) hx hb (dq da_X6_enter 19 rfl) rfl ?_
    refine lc_eq (tgt := 46) hx hb (dq da_X6_enter 20 rfl) (dq da_X6_enter 21 rfl) (by decide) (fun c15 => ?_) (fun c15 => ?_)
    · have h := it c15 h
      exact b_X6_enter_b46 E hr hlk h (lv_sub hl [1, 2, 3, 4] rfl) w
    · have h := ie c15 h
      refine lv_iconst (v := 1) hx hb (dq da_X6_enter 22 rfl) rfl ?_
      refine lv_goto (tgt := 47) hx hb (dq da_X6_enter 23 rfl) (by decide) ?_
      exact b_X6_enter_b47 E hr hlk h (lv_sub hl [1, 2, 3, 4] rfl) w
def f_X6_enter (x1 : Int32) (x2 : Int32) (x3 : Int64) (u : St) : St := if x2 = (0 : Int32) then (f_X6_enter_b21 x1 x2 x3 (gL u 5) u) else (f_X6_enter_b21 x1 x2 x3 (gL u 6) u)
set_option maxRecDepth 100000 in
set_option maxHeartbeats 4000000 in
theorem c_X6_enter (l : Launch) (D : va_G) (cy : ClassId × ClassId × ClassId) (ad : Nat → Nat) (x1 : Int32) (x2 : Int32) (x3 : Int64) (u : St) : MX (wC cy ad) D cy l yX6_enter cX6_enter 10 (none) 2 46 0 [.ref (ad 18), .int x1, .int x2, .long x3] u (f_X6_enter x1 x2 x3 u) none := by
  refine entX (by decide +kernel) (Nat.le_of_ble_eq_true rfl) ?_
  intro p e s m args below meth c ls rr A E hr hlk hl w
  have hl : lv_has ls 10 [(0, .ref (ad 18)), (1, .int x1), (2, .int x2), (3, .long x3)] := hl
  generalize h : f_X6_enter x1 x2 x3 u = u'
  have hx := E.1
  have hb := E.2.1
  have hown := E.2.2.2.1
  have hts := E.2.2.2.2
  refine lv_iload_n hx hb (dq da_X6_enter 0 rfl) rfl (lv_at hl 2 rfl) ?_
  refine lv_if_eq (tgt := 14) hx hb (dq da_X6_enter 1 rfl) (by decide) (fun c1 => ?_) (fun c1 => ?_)
  · have h := it c1 h
    refine lv_aload_n hx hb (dq da_X6_enter 6 rfl) rfl (lv_at hl 0 rfl) ?_
    refine gt_wC_18_controls E w w_246 (dq da_X6_enter 7 rfl) ?_
    refine gtN_wC_15_medeleg E w n_24 (dq da_X6_enter 8 rfl) ?_
    exact b_X6_enter_b21 E hr hlk h (lv_sub hl [0, 1, 2, 3] rfl) w
  · have h := ie c1 h
    refine lv_aload_n hx hb (dq da_X6_enter 2 rfl) rfl (lv_at hl 0 rfl) ?_
    refine gt_wC_18_controls E w w_246 (dq da_X6_enter 3 rfl) ?_
    refine gtN_wC_15_mideleg E w n_25 (dq da_X6_enter 4 rfl) ?_
    refine lv_goto (tgt := 21) hx hb (dq da_X6_enter 5 rfl) (by decide) ?_
    exact b_X6_enter_b21 E hr hlk h (lv_sub hl [0, 1, 2, 3] rfl) w
def dl_X6_fail : List (Nat × Instr × Nat) := [(0, .aload_n 0, 1), (1, .iload_n 1, 1), (2, .putfield 25, 3), (5, .aload_n 0, 1), (6, .lload_n 2, 1), (7, .putfield 68, 3), (10, .return_, 1)]
theorem da_X6_fail : dkL cX6_fail dl_X6_fail = true := by decide +kernel
def f_X6_fail (x1 : Int32) (x2 : Int64) (u : St) : St := (sL (sI u 18 x1) 26 x2)
set_option maxRecDepth 100000 in
set_option maxHeartbeats 4000000 in
theorem c_X6_fail (l : Launch) (D : va_G) (cy : ClassId × ClassId × ClassId) (ad : Nat → Nat) (x1 : Int32) (x2 : Int64) (u : St) : MX (wC cy ad) D cy l yX6_fail cX6_fail 4 (none) 0 0 0 [.ref (ad 18), .int x1, .long x2] u (f_X6_fail x1 x2 u) none := by
  refine entX (by decide +kernel) (Nat.le_of_ble_eq_true rfl) ?_
  intro p e s m args below meth c ls rr A E hr hlk hl w
  have hl : lv_has ls 4 [(0, .ref (ad 18)), (1, .int x1), (2, .long x2)] := hl
  generalize h : f_X6_fail x1 x2 u = u'
  have hx := E.1
  have hb := E.2.1
  have hown := E.2.2.2.1
  have hts := E.2.2.2.2
  refine lv_aload_n hx hb (dq da_X6_fail 0 rfl) rfl (lv_at hl 0 rfl) ?_
  refine lv_iload_n hx hb (dq da_X6_fail 1 rfl) rfl (lv_at hl 1 rfl) ?_
  refine pt_wC_18_cause E w w_255 (dq da_X6_fail 2 rfl) (fun H locs w => ?_)
  refine lv_aload_n hx hb (dq da_X6_fail 3 rfl) rfl (lv_at hl 0 rfl) ?_
  refine lv_lload_n hx hb (dq da_X6_fail 4 rfl) rfl (lv_at hl 2 rfl) ?_
  refine pt_wC_18_value E w w_256 (dq da_X6_fail 5 rfl) (fun H locs w => ?_)
  exact xret_v E hr hlk w (by decide) h (dq da_X6_fail 6 rfl)
def dl_X6_illegal : List (Nat × Instr × Nat) := [(0, .aload_n 0, 1), (1, .iconst 2, 1), (2, .aload_n 0, 1), (3, .getfield 150, 3), (6, .i2l, 1), (7, .ldc2_w 153, 3), (10, .land, 1), (11, .invokevirtual 155, 3), (14, .return_, 1)]
theorem da_X6_illegal : dkL cX6_illegal dl_X6_illegal = true := by decide +kernel
def f_X6_illegal (u : St) : St := (f_X6_fail (2 : Int32) ((gI u 17).toInt64 &&& (4294967295 : Int64)) u)
set_option maxRecDepth 100000 in
set_option maxHeartbeats 4000000 in
theorem c_X6_illegal (l : Launch) (D : va_G) (cy : ClassId × ClassId × ClassId) (ad : Nat → Nat) (u : St) : MX (wC cy ad) D cy l yX6_illegal cX6_illegal 1 (none) 1 23 0 [.ref (ad 18)] u (f_X6_illegal u) none := by
  refine entX (by decide +kernel) (Nat.le_of_ble_eq_true rfl) ?_
  intro p e s m args below meth c ls rr A E hr hlk hl w
  have hl : lv_has ls 1 [(0, .ref (ad 18))] := hl
  generalize h : f_X6_illegal u = u'
  have hx := E.1
  have hb := E.2.1
  have hown := E.2.2.2.1
  have hts := E.2.2.2.2
  refine lv_aload_n hx hb (dq da_X6_illegal 0 rfl) rfl (lv_at hl 0 rfl) ?_
  refine lv_iconst (v := 2) hx hb (dq da_X6_illegal 1 rfl) rfl ?_
  refine lv_aload_n hx hb (dq da_X6_illegal 2 rfl) rfl (lv_at hl 0 rfl) ?_
  refine gt_wC_18_raw E w w_253 (dq da_X6_illegal 3 rfl) ?_
  refine lv_i2l (v := (gI u 17).toInt64) hx hb (dq da_X6_illegal 4 rfl) rfl ?_
  refine lv_ldc2 hx hb hown (hts _ w_848) (dq da_X6_illegal 5 rfl) ?_
  refine lv_land hx hb (dq da_X6_illegal 6 rfl) ?_
  refine cV0 E (c_X6_fail l D cy ad _ _ _ ) w_710 w_712 w_p16 w_9 w_713 rfl hd_X6_fail rfl hl.1 rfl (Nat.le_of_ble_eq_true rfl) ⟨Nat.le_of_ble_eq_true rfl, Nat.le_of_ble_eq_true rfl⟩ (by decide) w (rc_wC_18 w) (dq da_X6_illegal 7 rfl) (fun H locs rr w => ?_)
  exact xret_v E hr hlk w (by decide) h (dq da_X6_illegal 8 rfl)
def dl_X6_privilegeFor : List (Nat × Instr × Nat) := [(0, .iload_n 1, 1), (1, .ifCond .eq 26, 3), (4, .aload_n 0, 1), (5, .getfield 35, 3), (8, .ldc2_w 191, 3), (11, .invokevirtual 96, 3), (14, .ifCond .eq 13, 3), (17, .aload_n 0, 1), (18, .getfield 35, 3), (21, .invokevirtual 193, 3), (24, .goto 7, 3), (27, .aload_n 0, 1), (28, .getfield 21, 3), (31, .ireturn, 1)]
theorem da_X6_privilegeFor : dkL cX6_privilegeFor dl_X6_privilegeFor = true := by decide +kernel
def f_X6_privilegeFor_b27 (u : St) : Int32 := (gI u 16)
set_option maxRecDepth 100000 in
set_option maxHeartbeats 4000000 in
theorem b_X6_privilegeFor_b27 {p : Program} {l : Launch} {e : Env} {s : State} {m : MethodId} {args : Array Value} {below : List Frame} {meth : Method} {c : Code} {D : va_G} {cy : ClassId × ClassId × ClassId} {ad : Nat → Nat} {A : Nat → Prop} (E : CallFix p m c cX6_privilegeFor 2 s args gw RX6) (hr : meth.sig.returnType = some .int) (hlk : meth.locks = false) {u : St} {r : Int32} (h : f_X6_privilegeFor_b27 u = r) {ls : Array Slot} {H : Heap} {locs : List Loc} {rr : Nat → Nat} (hl : lv_has ls 2 [(0, .ref (ad 18))]) (w : WX (wC cy ad) D cy rr u A s H locs) : Wx (wC cy ad) D p l e 1 22 0 s m args below meth c A u (some (.int r)) H locs 0 27 ls [] := by
  have hx := E.1
  have hb := E.2.1
  have hown := E.2.2.2.1
  have hts := E.2.2.2.2
  refine lv_aload_n hx hb (dq da_X6_privilegeFor 11 rfl) rfl (lv_at hl 0 rfl) ?_
  refine gt_wC_18_privilege E w w_251 (dq da_X6_privilegeFor 12 rfl) ?_
  exact xret_i E hr hlk w (by decide) h rfl (dq da_X6_privilegeFor 13 rfl)
def f_X6_privilegeFor (x1 : Int32) (u : St) : Int32 := if x1 = (0 : Int32) then (f_X6_privilegeFor_b27 u) else (if (f_X4_has (131072 : Int64) u) = (0 : Int32) then (f_X6_privilegeFor_b27 u) else (f_X4_previousPrivilege u))
set_option maxRecDepth 100000 in
set_option maxHeartbeats 4000000 in
theorem c_X6_privilegeFor (l : Launch) (D : va_G) (cy : ClassId × ClassId × ClassId) (ad : Nat → Nat) (x1 : Int32) (u : St) : MX (wC cy ad) D cy l yX6_privilegeFor cX6_privilegeFor 2 (some .int) 1 22 0 [.ref (ad 18), .int x1] u u (some (.int (f_X6_privilegeFor x1 u))) := by
  refine entX (by decide +kernel) (Nat.le_of_ble_eq_true rfl) ?_
  intro p e s m args below meth c ls rr A E hr hlk hl w
  have hl : lv_has ls 2 [(0, .ref (ad 18)), (1, .int x1)] := hl
  generalize h : f_X6_privilegeFor x1 u = r
  have hx := E.1
  have hb := E.2.1
  have hown := E.2.2.2.1
  have hts := E.2.2.2.2
  refine lv_iload_n hx hb (dq da_X6_privilegeFor 0 rfl) rfl (lv_at hl 1 rfl) ?_
  refine lv_if_eq (tgt := 27) hx hb (dq da_X6_privilegeFor 1 rfl) (by decide) (fun c1 => ?_) (fun c1 => ?_)
  · have h := it c1 h
    exact b_X6_privilegeFor_b27 E hr hlk h (lv_sub hl [0] rfl) w
  · have h := ie c1 h
    refine lv_aload_n hx hb (dq da_X6_privilegeFor 2 rfl) rfl (lv_at hl 0 rfl) ?_
    refine gt_wC_18_controls E w w_246 (dq da_X6_privilegeFor 3 rfl) ?_
    refine lv_ldc2 hx hb hown (hts _ w_718) (dq da_X6_privilegeFor 4 rfl) ?_
    refine cV1 E (c_X4_has l D cy ad _ _ ) w_664 w_665 w_666 w_7 w_667 rfl hd_X4_has rfl hl.1 rfl (Nat.le_of_ble_eq_true rfl) ⟨Nat.le_of_ble_eq_true rfl, Nat.le_of_ble_eq_true rfl⟩ (by decide) w (rc_wC_15 w) (dq da_X6_privilegeFor 5 rfl) (fun H locs rr w => ?_)
    refine lv_if_eq (tgt := 27) hx hb (dq da_X6_privilegeFor 6 rfl) (by decide) (fun c2 => ?_) (fun c2 => ?_)
    · have h := it c2 h
      exact b_X6_privilegeFor_b27 E hr hlk h (lv_sub hl [0] rfl) w
    · have h := ie c2 h
      refine lv_aload_n hx hb (dq da_X6_privilegeFor 7 rfl) rfl (lv_at hl 0 rfl) ?_
      refine gt_wC_18_controls E w w_246 (dq da_X6_privilegeFor 8 rfl) ?_
      refine cV1 E (c_X4_previousPrivilege l D cy ad _ ) w_719 w_720 w_721 w_7 w_722 rfl hd_X4_previousPrivilege rfl hl.1 rfl (Nat.le_of_ble_eq_true rfl) ⟨Nat.le_of_ble_eq_true rfl, Nat.le_of_ble_eq_true rfl⟩ (by decide) w (rc_wC_15 w) (dq da_X6_privilegeFor 9 rfl) (fun H locs rr w => ?_)
      refine lv_goto (tgt := 31) hx hb (dq da_X6_privilegeFor 10 rfl) (by decide) ?_
      exact xret_i E hr hlk w (by decide) h rfl (dq da_X6_privilegeFor 13 rfl)
def dl_X6_reached : List (Nat × Instr × Nat) := [(0, .lload_n 1, 1), (1, .iload_n 3, 1), (2, .iconst 1, 1), (3, .isub, 1), (4, .i2l, 1), (5, .land, 1), (6, .lconst 0, 1), (7, .lcmp, 1), (8, .ifCond .eq 22, 3), (11, .aload_n 0, 1), (12, .iload 4, 2), (14, .iconst 2, 1), (15, .if_icmp .ne 8, 3), (18, .bipush 6, 2), (20, .goto 4, 3), (23, .iconst 4, 1), (24, .lload_n 1, 1), (25, .invokevirtual 155, 3), (28, .lconst 0, 1), (29, .lreturn, 1), (30, .aload_n 0, 1), (31, .iload 4, 2), (33, .invokevirtual 196, 3), (36, .istore 5, 2), (38, .aload_n 0, 1), (39, .getfield 35, 3), (42, .iload 5, 2), (44, .invokevirtual 199, 3), (47, .ifCond .ne 5, 3), (50, .lload_n 1, 1), (51, .lreturn, 1), (52, .aload_n 0, 1), (53, .getfield 35, 3), (56, .aload_n 0, 1), (57, .getfield 31, 3), (60, .getfield 172, 3), (63, .lload_n 1, 1), (64, .iload 4, 2), (66, .iload 5, 2), (68, .invokestatic 203, 3), (71, .lstore 6, 2), (73, .lload 6, 2), (75, .lconst 0, 1), (76, .lcmp, 1), (77, .ifCond .ge 15, 3), (80, .aload_n 0, 1), (81, .ldc2_w 92, 3), (84, .lload 6, 2), (86, .lsub, 1), (87, .l2i, 1), (88, .lload_n 1, 1), (89, .invokevirtual 155, 3), (92, .lload 6, 2), (94, .lreturn, 1)]
theorem da_X6_reached : dkL cX6_reached dl_X6_reached = true := by decide +kernel
def f_X6_reached_b92 (x6 : Int64) (u : St) : Option (Int64 × St) := some (x6, u)
set_option maxRecDepth 100000 in
set_option maxHeartbeats 4000000 in
theorem b_X6_reached_b92 {p : Program} {l : Launch} {e : Env} {s : State} {m : MethodId} {args : Array Value} {below : List Frame} {meth : Method} {c : Code} {D : va_G} {cy : ClassId × ClassId × ClassId} {ad : Nat → Nat} {A : Nat → Prop} (E : CallFix p m c cX6_reached 8 s args gw RX6) (hr : meth.sig.returnType = some .long) (hlk : meth.locks = false) {x6 : Int64} {u : St} {r : Int64} {u' : St} (h : f_X6_reached_b92 x6 u = some (r, u')) {ls : Array Slot} {H : Heap} {locs : List Loc} {rr : Nat → Nat} (hl : lv_has ls 8 [(6, .long x6)]) (w : WX (wC cy ad) D cy rr u A s H locs) : Wx (wC cy ad) D p l e 2 60 0 s m args below meth c A u' (some (.long r)) H locs 0 92 ls [] := by
  have hx := E.1
  have hb := E.2.1
  have hown := E.2.2.2.1
  have hts := E.2.2.2.2
  refine lv_lload hx hb (dq da_X6_reached 52 rfl) (lv_at hl 0 rfl) ?_
  exact xret_l E hr hlk w (by decide) (congrArg Prod.fst (os h)) (congrArg Prod.snd (os h)) (dq da_X6_reached 53 rfl)
def f_X6_reached_b24 (x1 : Int64) (s0 : Int32) (u : St) : Option (Int64 × St) := some ((0 : Int64), (f_X6_fail s0 x1 u))
set_option maxRecDepth 100000 in
set_option maxHeartbeats 4000000 in
theorem b_X6_reached_b24 {p : Program} {l : Launch} {e : Env} {s : State} {m : MethodId} {args : Array Value} {below : List Frame} {meth : Method} {c : Code} {D : va_G} {cy : ClassId × ClassId × ClassId} {ad : Nat → Nat} {A : Nat → Prop} (E : CallFix p m c cX6_reached 8 s args gw RX6) (hr : meth.sig.returnType = some .long) (hlk : meth.locks = false) {x1 : Int64} {s0 : Int32} {u : St} {r : Int64} {u' : St} (h : f_X6_reached_b24 x1 s0 u = some (r, u')) {ls : Array Slot} {H : Heap} {locs : List Loc} {rr : Nat → Nat} (hl : lv_has ls 8 [(1, .long x1)]) (w : WX (wC cy ad) D cy rr u A s H locs) : Wx (wC cy ad) D p l e 2 60 0 s m args below meth c A u' (some (.long r)) H locs 0 24 ls [.int s0, .ref (ad 18)] := by
  have hx := E.1
  have hb := E.2.1
  have hown := E.2.2.2.1
  have hts := E.2.2.2.2
  refine lv_lload_n hx hb (dq da_X6_reached 16 rfl) rfl (lv_at hl 0 rfl) ?_
  refine cV0 E (c_X6_fail l D cy ad _ _ _ ) w_710 w_712 w_p16 w_9 w_713 rfl hd_X6_fail rfl hl.1 rfl (Nat.le_of_ble_eq_true rfl) ⟨Nat.le_of_ble_eq_true rfl, Nat.le_of_ble_eq_true rfl⟩ (by decide) w (rc_wC_18 w) (dq da_X6_reached 17 rfl) (fun H locs rr w => ?_)
  refine lv_lconst (v := 0) hx hb (dq da_X6_reached 18 rfl) rfl ?_
  exact xret_l E hr hlk w (by decide) (congrArg Prod.fst (os h)) (congrArg Prod.snd (os h)) (dq da_X6_reached 19 rfl)
def f_X6_reached (x1 : Int64) (x3 : Int32) (x4 : Int32) (u : St) : Option (Int64 × St) := if (x1 &&& (x3 - (1 : Int32)).toInt64) = (0 : Int64) then (if (f_X4_pages (f_X6_privilegeFor x4 u) u) = (0 : Int32) then (some (x1, u)) else ((f_X9_physical x1 x4 (f_X6_privilegeFor x4 u) u).bind (fun y3 => if (0 : Int64) ≤ y3 then (f_X6_reached_b92 y3 u) else (f_X6_reached_b92 y3 (f_X6_fail (((-1 : Int64) - y3).toInt32) x1 u))))) else (if x4 = (2 : Int32) then (f_X6_reached_b24 x1 (6 : Int32) u) else (f_X6_reached_b24 x1 (4 : Int32) u))
set_option maxRecDepth 100000 in
set_option maxHeartbeats 4000000 in
theorem c_X6_reached (l : Launch) (D : va_G) (cy : ClassId × ClassId × ClassId) (ad : Nat → Nat) (x1 : Int64) (x3 : Int32) (x4 : Int32) (u : St) {r : Int64} {u' : St} (h : f_X6_reached x1 x3 x4 u = some (r, u')) : MX (wC cy ad) D cy l yX6_reached cX6_reached 8 (some .long) 2 60 0 [.ref (ad 18), .long x1, .int x3, .int x4] u u' (some (.long (r))) := by
  refine entX (by decide +kernel) (Nat.le_of_ble_eq_true rfl) ?_
  intro p e s m args below meth c ls rr A E hr hlk hl w
  have hl : lv_has ls 8 [(0, .ref (ad 18)), (1, .long x1), (3, .int x3), (4, .int x4)] := hl
  have hx := E.1
  have hb := E.2.1
  have hown := E.2.2.2.1
  have hts := E.2.2.2.2
  refine lv_lload_n hx hb (dq da_X6_reached 0 rfl) rfl (lv_at hl 1 rfl) ?_
  refine lv_iload_n hx hb (dq da_X6_reached 1 rfl) rfl (lv_at hl 2 rfl) ?_
  refine lv_iconst (v := 1) hx hb (dq da_X6_reached 2 rfl) rfl ?_
  refine lv_isub hx hb (dq da_X6_reached 3 rfl) ?_
  refine lv_i2l (v := (x3 - (1 : Int32)).toInt64) hx hb (dq da_X6_reached 4 rfl) rfl ?_
  refine lv_land hx hb (dq da_X6_reached 5 rfl) ?_
  refine lv_lconst (v := 0) hx hb (dq da_X6_reached 6 rfl) rfl ?_
  refine lc_eq (tgt := 30) hx hb (dq da_X6_reached 7 rfl) (dq da_X6_reached 8 rfl) (by decide) (fun c1 => ?_) (fun c1 => ?_)
  · have h := it c1 h
    refine lv_aload_n hx hb (dq da_X6_reached 20 rfl) rfl (lv_at hl 0 rfl) ?_
    refine lv_iload hx hb (dq da_X6_reached 21 rfl) (lv_at hl 3 rfl) ?_
    refine cV1 E (c_X6_privilegeFor l D cy ad _ _ ) w_714 w_715 w_716 w_9 w_717 rfl hd_X6_privilegeFor rfl hl.1 rfl (Nat.le_of_ble_eq_true rfl) ⟨Nat.le_of_ble_eq_true rfl, Nat.le_of_ble_eq_true rfl⟩ (by decide) w (rc_wC_18 w) (dq da_X6_reached 22 rfl) (fun H locs rr w => ?_)
    refine lv_istore (lv' := [(5, .int (f_X6_privilegeFor x4 u)), (0, .ref (ad 18)), (1, .long x1), (3, .int x3), (4, .int x4)]) hx hb (dq da_X6_reached 23 rfl) hl (by decide) rfl (fun ls hl => ?_)
    refine lv_aload_n hx hb (dq da_X6_reached 24 rfl) rfl (lv_at hl 1 rfl) ?_
    refine gt_wC_18_controls E w w_246 (dq da_X6_reached 25 rfl) ?_
    refine lv_iload hx hb (dq da_X6_reached 26 rfl) (lv_at hl 0 rfl) ?_
    refine cV1 E (c_X4_pages l D cy ad _ _ ) w_723 w_724 w_725 w_7 w_726 rfl hd_X4_pages rfl hl.1 rfl (Nat.le_of_ble_eq_true rfl) ⟨Nat.le_of_ble_eq_true rfl, Nat.le_of_ble_eq_true rfl⟩ (by decide) w (rc_wC_15 w) (dq da_X6_reached 27 rfl) (fun H locs rr w => ?_)
    refine lv_if_ne (tgt := 52) hx hb (dq da_X6_reached 28 rfl) (by decide) (fun c2 => ?_) (fun c2 => ?_)
    · have h := ie c2 h
      refine lv_aload_n hx hb (dq da_X6_reached 31 rfl) rfl (lv_at hl 1 rfl) ?_
      refine gt_wC_18_controls E w w_246 (dq da_X6_reached 32 rfl) ?_
      refine lv_aload_n hx hb (dq da_X6_reached 33 rfl) rfl (lv_at hl 1 rfl) ?_
      refine gt_wC_18_bus E w w_245 (dq da_X6_reached 34 rfl) ?_
      refine gtN_wC_3_ram E w n_6 (dq da_X6_reached 35 rfl) ?_
      refine lv_lload_n hx hb (dq da_X6_reached 36 rfl) rfl (lv_at hl 2 rfl) ?_
      refine lv_iload hx hb (dq da_X6_reached 37 rfl) (lv_at hl 4 rfl) ?_
      refine lv_iload hx hb (dq da_X6_reached 38 rfl) (lv_at hl 0 rfl) ?_
      obtain ⟨y3, hy4, h⟩ := ob h
      refine cS1 E (c_X9_physical l D cy ad _ _ _ _ hy4) w_727 w_728 w_18 w_729 hd_X9_physical rfl hl.1 rfl (Nat.le_of_ble_eq_true rfl) ⟨Nat.le_of_ble_eq_true rfl, Nat.le_of_ble_eq_true rfl⟩ (by decide) w (dq da_X6_reached 39 rfl) (fun H locs rr w => ?_)
      refine lv_lstore (lv' := [(6, .long y3), (5, .int (f_X6_privilegeFor x4 u)), (0, .ref (ad 18)), (1, .long x1), (3, .int x3), (4, .int x4)]) hx hb (dq da_X6_reached 40 rfl) hl (by decide) rfl (fun ls hl => ?_)
      refine lv_lload hx hb (dq da_X6_reached 41 rfl) (lv_at hl 0 rfl) ?_
      refine lv_lconst (v := 0) hx hb (dq da_X6_reached 42 rfl) rfl ?_
      refine lc_ge (tgt := 92) hx hb (dq da_X6_reached 43 rfl) (dq da_X6_reached 44 rfl) (by decide) (fun c5 => ?_) (fun c5 => ?_)
      · have h := it c5 h
        exact b_X6_reached_b92 E hr hlk h (lv_sub hl [0] rfl) w
      · have h := ie c5 h
        refine lv_aload_n hx hb (dq da_X6_reached 45 rfl) rfl (lv_at hl 2 rfl) ?_
        refine lv_ldc2 hx hb hown (hts _ w_662) (dq da_X6_reached 46 rfl) ?_
        refine lv_lload hx hb (dq da_X6_reached 47 rfl) (lv_at hl 0 rfl) ?_
        refine lv_lsub hx hb (dq da_X6_reached 48 rfl) ?_
        refine lv_l2i (v := ((-1 : Int64) - y3).toInt32) hx hb (dq da_X6_reached 49 rfl) rfl ?_
        refine lv_lload_n hx hb (dq da_X6_reached 50 rfl) rfl (lv_at hl 3 rfl) ?_
        refine cV0 E (c_X6_fail l D cy ad _ _ _ ) w_710 w_712 w_p16 w_9 w_713 rfl hd_X6_fail rfl hl.1 rfl (Nat.le_of_ble_eq_true rfl) ⟨Nat.le_of_ble_eq_true rfl, Nat.le_of_ble_eq_true rfl⟩ (by decide) w (rc_wC_18 w) (dq da_X6_reached 51 rfl) (fun H locs rr w => ?_)
        exact b_X6_reached_b92 E hr hlk h (lv_sub hl [0] rfl) w
    · have h := it c2 h
      refine lv_lload_n hx hb (dq da_X6_reached 29 rfl) rfl (lv_at hl 2 rfl) ?_
      exact xret_l E hr hlk w (by decide) (congrArg Prod.fst (os h)) (congrArg Prod.snd (os h)) (dq da_X6_reached 30 rfl)
  · have h := ie c1 h
    refine lv_aload_n hx hb (dq da_X6_reached 9 rfl) rfl (lv_at hl 0 rfl) ?_
    refine lv_iload hx hb (dq da_X6_reached 10 rfl) (lv_at hl 3 rfl) ?_
    refine lv_iconst (v := 2) hx hb (dq da_X6_reached 11 rfl) rfl ?_
    refine lv_icmp_ne (tgt := 23) hx hb (dq da_X6_reached 12 rfl) (by decide) (fun c6 => ?_) (fun c6 => ?_)
    · have h := ie c6 h
      refine lv_iconst (v := 4) hx hb (dq da_X6_reached 15 rfl) rfl ?_
      exact b_X6_reached_b24 E hr hlk h (lv_sub hl [1] rfl) w
    · have h := it c6 h
      refine lv_bipush (v := 6) hx hb (dq da_X6_reached 13 rfl) rfl ?_
      refine lv_goto (tgt := 24) hx hb (dq da_X6_reached 14 rfl) (by decide) ?_
      exact b_X6_reached_b24 E hr hlk h (lv_sub hl [1] rfl) w
def dl_X6_fetchedHalf : List (Nat × Instr × Nat) := [(0, .aload_n 0, 1), (1, .lload_n 1, 1), (2, .iconst 2, 1), (3, .iconst 0, 1), (4, .invokevirtual 168, 3), (7, .lstore_n 3, 1), (8, .aload_n 0, 1), (9, .getfield 25, 3), (12, .iconst (-1), 1), (13, .if_icmp .eq 5, 3), (16, .iconst 0, 1), (17, .ireturn, 1), (18, .aload_n 0, 1), (19, .getfield 31, 3), (22, .getfield 172, 3), (25, .lload_n 3, 1), (26, .iconst 2, 1), (27, .invokevirtual 176, 3), (30, .istore 5, 2), (32, .iload 5, 2), (34, .iconst (-1), 1), (35, .if_icmp .ne 12, 3), (38, .aload_n 0, 1), (39, .iconst 0, 1), (40, .invokestatic 182, 3), (43, .lload_n 1, 1), (44, .invokevirtual 155, 3), (47, .aload_n 0, 1), (48, .getfield 31, 3), (51, .getfield 172, 3), (54, .iload 5, 2), (56, .iconst 2, 1), (57, .invokevirtual 187, 3), (60, .l2i, 1), (61, .ireturn, 1)]
theorem da_X6_fetchedHalf : dkL cX6_fetchedHalf dl_X6_fetchedHalf = true := by decide +kernel
def f_X6_fetchedHalf_b47 (x5 : Int32) (u : St) : Option (Int32 × St) := (f_X10_read x5 (2 : Int32) u).bind (fun y5 => some (y5.toInt32, u))
set_option maxRecDepth 100000 in
set_option maxHeartbeats 4000000 in
theorem b_X6_fetchedHalf_b47 {p : Program} {l : Launch} {e : Env} {s : State} {m : MethodId} {args : Array Value} {below : List Frame} {meth : Method} {c : Code} {D : va_G} {cy : ClassId × ClassId × ClassId} {ad : Nat → Nat} {A : Nat → Prop} (E : CallFix p m c cX6_fetchedHalf 6 s args gw RX6) (hr : meth.sig.returnType = some .int) (hlk : meth.locks = false) {x5 : Int32} {u : St} {r : Int32} {u' : St} (h : f_X6_fetchedHalf_b47 x5 u = some (r, u')) {ls : Array Slot} {H : Heap} {locs : List Loc} {rr : Nat → Nat} (hl : lv_has ls 6 [(0, .ref (ad 18)), (5, .int x5)]) (w : WX (wC cy ad) D cy rr u A s H locs) : Wx (wC cy ad) D p l e 3 87 0 s m args below meth c A u' (some (.int r)) H locs 0 47 ls [] := by
  have hx := E.1
  have hb := E.2.1
  have hown := E.2.2.2.1
  have hts := E.2.2.2.2
  refine lv_aload_n hx hb (dq da_X6_fetchedHalf 27 rfl) rfl (lv_at hl 0 rfl) ?_
  refine gt_wC_18_bus E w w_245 (dq da_X6_fetchedHalf 28 rfl) ?_
  refine gtN_wC_3_ram E w n_6 (dq da_X6_fetchedHalf 29 rfl) ?_
  refine lv_iload hx hb (dq da_X6_fetchedHalf 30 rfl) (lv_at hl 1 rfl) ?_
  refine lv_iconst (v := 2) hx hb (dq da_X6_fetchedHalf 31 rfl) rfl ?_
  obtain ⟨y5, hy6, h⟩ := ob h
  refine cV1 E (c_X10_read l D cy ad _ _ _ hy6) w_769 w_525 w_526 w_4 w_527 rfl hd_X10_read rfl hl.1 rfl (Nat.le_of_ble_eq_true rfl) ⟨Nat.le_of_ble_eq_true rfl, Nat.le_of_ble_eq_true rfl⟩ (by decide) w (rc_wC_4 w) (dq da_X6_fetchedHalf 32 rfl) (fun H locs rr w => ?_)
  refine lv_l2i (v := y5.toInt32) hx hb (dq da_X6_fetchedHalf 33 rfl) rfl ?_
  exact xret_i E hr hlk w (by decide) (congrArg Prod.fst (os h)) (congrArg Prod.snd (os h)) (dq da_X6_fetchedHalf 34 rfl)
def f_X6_fetchedHalf (x1 : Int64) (u : St) : Option (Int32 × St) := (f_X6_reached x1 (2 : Int32) (0 : Int32) u).bind (fun y1 => if (gI y1.2 18) = (-1 : Int32) then (if (f_X10_place y1.1 (2 : Int32) y1.2) = (-1 : Int32) then (f_X6_fetchedHalf_b47 (f_X10_place y1.1 (2 : Int32) y1.2) (f_X6_fail (f_X9_accessFault (0 : Int32)) x1 y1.2)) else (f_X6_fetchedHalf_b47 (f_X10_place y1.1 (2 : Int32) y1.2) y1.2)) else (some ((0 : Int32), y1.2)))
set_option maxRecDepth 100000 in
set_option maxHeartbeats 4000000 in
theorem c_X6_fetchedHalf (l : Launch) (D : va_G) (cy : ClassId × ClassId × ClassId) (ad : Nat → Nat) (x1 : Int64) (u : St) {r : Int32} {u' : St} (h : f_X6_fetchedHalf x1 u = some (r, u')) : MX (wC cy ad) D cy l yX6_fetchedHalf cX6_fetchedHalf 6 (some .int) 3 87 0 [.ref (ad 18), .long x1] u u' (some (.int (r))) := by
  refine entX (by decide +kernel) (Nat.le_of_ble_eq_true rfl) ?_
  intro p e s m args below meth c ls rr A E hr hlk hl w
  have hl : lv_has ls 6 [(0, .ref (ad 18)), (1, .long x1)] := hl
  have hx := E.1
  have hb := E.2.1
  have hown := E.2.2.2.1
  have hts := E.2.2.2.2
  refine lv_aload_n hx hb (dq da_X6_fetchedHalf 0 rfl) rfl (lv_at hl 0 rfl) ?_
  refine lv_lload_n hx hb (dq da_X6_fetchedHalf 1 rfl) rfl (lv_at hl 1 rfl) ?_
  refine lv_iconst (v := 2) hx hb (dq da_X6_fetchedHalf 2 rfl) rfl ?_
  refine lv_iconst (v := 0) hx hb (dq da_X6_fetchedHalf 3 rfl) rfl ?_
  obtain ⟨y1, hy2, h⟩ := ob h
  refine cV1 E (c_X6_reached l D cy ad _ _ _ _ hy2) w_706 w_708 w_p15 w_9 w_709 rfl hd_X6_reached rfl hl.1 rfl (Nat.le_of_ble_eq_true rfl) ⟨Nat.le_of_ble_eq_true rfl, Nat.le_of_ble_eq_true rfl⟩ (by decide) w (rc_wC_18 w) (dq da_X6_fetchedHalf 4 rfl) (fun H locs rr w => ?_)
  refine lv_lstore_n (lv' := [(3, .long y1.1), (0, .ref (ad 18)), (1, .long x1)]) hx hb (dq da_X6_fetchedHalf 5 rfl) rfl hl (by decide) rfl (fun ls hl => ?_)
  refine lv_aload_n hx hb (dq da_X6_fetchedHalf 6 rfl) rfl (lv_at hl 1 rfl) ?_
  refine gt_wC_18_cause E w w_255 (dq da_X6_fetchedHalf 7 rfl) ?_
  refine lv_iconst (v := (-1)) hx hb (dq da_X6_fetchedHalf 8 rfl) rfl ?_
  refine lv_icmp_eq (tgt := 18) hx hb (dq da_X6_fetchedHalf 9 rfl) (by decide) (fun c3 => ?_) (fun c3 => ?_)
  · have h := it c3 h
    refine lv_aload_n hx hb (dq da_X6_fetchedHalf 12 rfl) rfl (lv_at hl 1 rfl) ?_
    refine gt_wC_18_bus E w w_245 (dq da_X6_fetchedHalf 13 rfl) ?_
    refine gtN_wC_3_ram E w n_6 (dq da_X6_fetchedHalf 14 rfl) ?_
    refine lv_lload_n hx hb (dq da_X6_fetchedHalf 15 rfl) rfl (lv_at hl 0 rfl) ?_
    refine lv_iconst (v := 2) hx hb (dq da_X6_fetchedHalf 16 rfl) rfl ?_
    refine cV1 E (c_X10_place l D cy ad _ _ _ ) w_767 w_346 w_347 w_4 w_348 rfl hd_X10_place rfl hl.1 rfl (Nat.le_of_ble_eq_true rfl) ⟨Nat.le_of_ble_eq_true rfl, Nat.le_of_ble_eq_true rfl⟩ (by decide) w (rc_wC_4 w) (dq da_X6_fetchedHalf 17 rfl) (fun H locs rr w => ?_)
    refine lv_istore (lv' := [(5, .int (f_X10_place y1.1 (2 : Int32) y1.2)), (3, .long y1.1), (0, .ref (ad 18)), (1, .long x1)]) hx hb (dq da_X6_fetchedHalf 18 rfl) hl (by decide) rfl (fun ls hl => ?_)
    refine lv_iload hx hb (dq da_X6_fetchedHalf 19 rfl) (lv_at hl 0 rfl) ?_
    refine lv_iconst (v := (-1)) hx hb (dq da_X6_fetchedHalf 20 rfl) rfl ?_
    refine lv_icmp_ne (tgt := 47) hx hb (dq da_X6_fetchedHalf 21 rfl) (by decide) (fun c4 => ?_) (fun c4 => ?_)
    · have h := ie c4 h
      exact b_X6_fetchedHalf_b47 E hr hlk h (lv_sub hl [2, 0] rfl) w
    · have h := it c4 h
      refine lv_aload_n hx hb (dq da_X6_fetchedHalf 22 rfl) rfl (lv_at hl 2 rfl) ?_
      refine lv_iconst (v := 0) hx hb (dq da_X6_fetchedHalf 23 rfl) rfl ?_
      refine callP E (c_X9_accessFault l _ ) w_768 w_738 w_18 w_739 hd_X9_accessFault rfl hl.1 rfl (Nat.le_of_ble_eq_true rfl) ⟨Nat.le_of_ble_eq_true rfl, Nat.le_of_ble_eq_true rfl⟩ (by decide) (dq da_X6_fetchedHalf 24 rfl) ?_
      refine lv_lload_n hx hb (dq da_X6_fetchedHalf 25 rfl) rfl (lv_at hl 3 rfl) ?_
      refine cV0 E (c_X6_fail l D cy ad _ _ _ ) w_710 w_712 w_p16 w_9 w_713 rfl hd_X6_fail rfl hl.1 rfl (Nat.le_of_ble_eq_true rfl) ⟨Nat.le_of_ble_eq_true rfl, Nat.le_of_ble_eq_true rfl⟩ (by decide) w (rc_wC_18 w) (dq da_X6_fetchedHalf 26 rfl) (fun H locs rr w => ?_)
      exact b_X6_fetchedHalf_b47 E hr hlk h (lv_sub hl [2, 0] rfl) w
  · have h := ie c3 h
    refine lv_iconst (v := 0) hx hb (dq da_X6_fetchedHalf 10 rfl) rfl ?_
    exact xret_i E hr hlk w (by decide) (congrArg Prod.fst (os h)) (congrArg Prod.snd (os h)) (dq da_X6_fetchedHalf 11 rfl)
def dl_X6_fetched : List (Nat × Instr × Nat) := [(0, .aload_n 0, 1), (1, .aload_n 0, 1), (2, .getfield 17, 3), (5, .invokevirtual 159, 3), (8, .istore_n 1, 1), (9, .aload_n 0, 1), (10, .getfield 25, 3), (13, .iconst (-1), 1), (14, .if_icmp .eq 5, 3), (17, .iconst 0, 1), (18, .ireturn, 1), (19, .iload_n 1, 1), (20, .iconst 3, 1), (21, .iand, 1), (22, .iconst 3, 1), (23, .if_icmp .eq 25, 3), (26, .aload_n 0, 1), (27, .iload_n 1, 1), (28, .putfield 150, 3), (31, .aload_n 0, 1), (32, .aload_n 0, 1), (33, .getfield 17, 3), (36, .ldc2_w 104, 3), (39, .ladd, 1), (40, .putfield 57, 3), (43, .iload_n 1, 1), (44, .invokestatic 162, 3), (47, .ireturn, 1), (48, .aload_n 0, 1), (49, .aload_n 0, 1), (50, .aload_n 0, 1), (51, .getfield 17, 3), (54, .ldc2_w 104, 3), (57, .ladd, 1), (58, .invokevirtual 159, 3), (61, .bipush 16, 2), (63, .ishl, 1), (64, .iload_n 1, 1), (65, .ior, 1), (66, .putfield 150, 3), (69, .aload_n 0, 1), (70, .aload_n 0, 1), (71, .getfield 17, 3), (74, .ldc2_w 145, 3), (77, .ladd, 1), (78, .putfield 57, 3), (81, .aload_n 0, 1), (82, .getfield 150, 3), (85, .ireturn, 1)]
theorem da_X6_fetched : dkL cX6_fetched dl_X6_fetched = true := by decide +kernel
def f_X6_fetched (u : St) : Option (Int32 × St) := (f_X6_fetchedHalf (gL u 24) u).bind (fun y1 => if (gI y1.2 18) = (-1 : Int32) then (if (y1.1 &&& (3 : Int32)) = (3 : Int32) then ((f_X6_fetchedHalf ((gL y1.2 24) + (2 : Int64)) y1.2).bind (fun y5 => some ((gI (sL (sI y5.2 17 ((y5.1 <<< ((16 : Int32) &&& 31)) ||| y1.1)) 25 ((gL (sI y5.2 17 ((y5.1 <<< ((16 : Int32) &&& 31)) ||| y1.1)) 24) + (4 : Int64))) 17), (sL (sI y5.2 17 ((y5.1 <<< ((16 : Int32) &&& 31)) ||| y1.1)) 25 ((gL (sI y5.2 17 ((y5.1 <<< ((16 : Int32) &&& 31)) ||| y1.1)) 24) + (4 : Int64)))))) else (some ((f_X5_widened y1.1), (sL (sI y1.2 17 y1.1) 25 ((gL (sI y1.2 17 y1.1) 24) + (2 : Int64)))))) else (some ((0 : Int32), y1.2)))
set_option maxRecDepth 100000 in
set_option maxHeartbeats 4000000 in
theorem c_X6_fetched (l : Launch) (D : va_G) (cy : ClassId × ClassId × ClassId) (ad : Nat → Nat) (u : St) {r : Int32} {u' : St} (h : f_X6_fetched u = some (r, u')) : MX (wC cy ad) D cy l yX6_fetched cX6_fetched 2 (some .int) 4 112 0 [.ref (ad 18)] u u' (some (.int (r))) := by
  refine entX (by decide +kernel) (Nat.le_of_ble_eq_true rfl) ?_
  intro p e s m args below meth c ls rr A E hr hlk hl w
  have hl : lv_has ls 2 [(0, .ref (ad 18))] := hl
  have hx := E.1
  have hb := E.2.1
  have hown := E.2.2.2.1
  have hts := E.2.2.2.2
  refine lv_aload_n hx hb (dq da_X6_fetched 0 rfl) rfl (lv_at hl 0 rfl) ?_
  refine lv_aload_n hx hb (dq da_X6_fetched 1 rfl) rfl (lv_at hl 0 rfl) ?_
  refine gt_wC_18_pc E w w_249 (dq da_X6_fetched 2 rfl) ?_
  obtain ⟨y1, hy2, h⟩ := ob h
  refine cV1 E (c_X6_fetchedHalf l D cy ad _ _ hy2) w_702 w_704 w_p14 w_9 w_705 rfl hd_X6_fetchedHalf rfl hl.1 rfl (Nat.le_of_ble_eq_true rfl) ⟨Nat.le_of_ble_eq_true rfl, Nat.le_of_ble_eq_true rfl⟩ (by decide) w (rc_wC_18 w) (dq da_X6_fetched 3 rfl) (fun H locs rr w => ?_)
  refine lv_istore_n (lv' := [(1, .int y1.1), (0, .ref (ad 18))]) hx hb (dq da_X6_fetched 4 rfl) rfl hl (by decide) rfl (fun ls hl => ?_)
  refine lv_aload_n hx hb (dq da_X6_fetched 5 rfl) rfl (lv_at hl 1 rfl) ?_
  refine gt_wC_18_cause E w w_255 (dq da_X6_fetched 6 rfl) ?_
  refine lv_iconst (v := (-1)) hx hb (dq da_X6_fetched 7 rfl) rfl ?_
  refine lv_icmp_eq (tgt := 19) hx hb (dq da_X6_fetched 8 rfl) (by decide) (fun c3 => ?_) (fun c3 => ?_)
  · have h := it c3 h
    refine lv_iload_n hx hb (dq da_X6_fetched 11 rfl) rfl (lv_at hl 0 rfl) ?_
    refine lv_iconst (v := 3) hx hb (dq da_X6_fetched 12 rfl) rfl ?_
    refine lv_iand hx hb (dq da_X6_fetched 13 rfl) ?_
    refine lv_iconst (v := 3) hx hb (dq da_X6_fetched 14 rfl) rfl ?_
    refine lv_icmp_eq (tgt := 48) hx hb (dq da_X6_fetched 15 rfl) (by decide) (fun c4 => ?_) (fun c4 => ?_)
    · have h := it c4 h
      refine lv_aload_n hx hb (dq da_X6_fetched 28 rfl) rfl (lv_at hl 1 rfl) ?_
      refine lv_aload_n hx hb (dq da_X6_fetched 29 rfl) rfl (lv_at hl 1 rfl) ?_
      refine lv_aload_n hx hb (dq da_X6_fetched 30 rfl) rfl (lv_at hl 1 rfl) ?_
      refine gt_wC_18_pc E w w_249 (dq da_X6_fetched 31 rfl) ?_
      refine lv_ldc2 hx hb hown (hts _ w_673) (dq da_X6_fetched 32 rfl) ?_
      refine lv_ladd hx hb (dq da_X6_fetched 33 rfl) ?_
      obtain ⟨y5, hy6, h⟩ := ob h
      refine cV1 E (c_X6_fetchedHalf l D cy ad _ _ hy6) w_702 w_704 w_p14 w_9 w_705 rfl hd_X6_fetchedHalf rfl hl.1 rfl (Nat.le_of_ble_eq_true rfl) ⟨Nat.le_of_ble_eq_true rfl, Nat.le_of_ble_eq_true rfl⟩ (by decide) w (rc_wC_18 w) (dq da_X6_fetched 34 rfl) (fun H locs rr w => ?_)
      refine lv_bipush (v := 16) hx hb (dq da_X6_fetched 35 rfl) rfl ?_
      refine lv_ishl hx hb (dq da_X6_fetched 36 rfl) ?_
      refine lv_iload_n hx hb (dq da_X6_fetched 37 rfl) rfl (lv_at hl 0 rfl) ?_
      refine lv_ior hx hb (dq da_X6_fetched 38 rfl) ?_
      refine pt_wC_18_raw E w w_253 (dq da_X6_fetched 39 rfl) (fun H locs w => ?_)
      refine lv_aload_n hx hb (dq da_X6_fetched 40 rfl) rfl (lv_at hl 1 rfl) ?_
      refine lv_aload_n hx hb (dq da_X6_fetched 41 rfl) rfl (lv_at hl 1 rfl) ?_
      refine gt_wC_18_pc E w w_249 (dq da_X6_fetched 42 rfl) ?_
      refine lv_ldc2 hx hb hown (hts _ w_696) (dq da_X6_fetched 43 rfl) ?_
      refine lv_ladd hx hb (dq da_X6_fetched 44 rfl) ?_
      refine pt_wC_18_next E w w_254 (dq da_X6_fetched 45 rfl) (fun H locs w => ?_)
      refine lv_aload_n hx hb (dq da_X6_fetched 46 rfl) rfl (lv_at hl 1 rfl) ?_
      refine gt_wC_18_raw E w w_253 (dq da_X6_fetched 47 rfl) ?_
      exact xret_i E hr hlk w (by decide) (congrArg Prod.fst (os h)) (congrArg Prod.snd (os h)) (dq da_X6_fetched 48 rfl)
    · have h := ie c4 h
      refine lv_aload_n hx hb (dq da_X6_fetched 16 rfl) rfl (lv_at hl 1 rfl) ?_
      refine lv_iload_n hx hb (dq da_X6_fetched 17 rfl) rfl (lv_at hl 0 rfl) ?_
      refine pt_wC_18_raw E w w_253 (dq da_X6_fetched 18 rfl) (fun H locs w => ?_)
      refine lv_aload_n hx hb (dq da_X6_fetched 19 rfl) rfl (lv_at hl 1 rfl) ?_
      refine lv_aload_n hx hb (dq da_X6_fetched 20 rfl) rfl (lv_at hl 1 rfl) ?_
      refine gt_wC_18_pc E w w_249 (dq da_X6_fetched 21 rfl) ?_
      refine lv_ldc2 hx hb hown (hts _ w_673) (dq da_X6_fetched 22 rfl) ?_
      refine lv_ladd hx hb (dq da_X6_fetched 23 rfl) ?_
      refine pt_wC_18_next E w w_254 (dq da_X6_fetched 24 rfl) (fun H locs w => ?_)
      refine lv_iload_n hx hb (dq da_X6_fetched 25 rfl) rfl (lv_at hl 0 rfl) ?_
      refine callP E (c_X5_widened l _ ) w_770 w_771 w_19 w_772 hd_X5_widened rfl hl.1 rfl (Nat.le_of_ble_eq_true rfl) ⟨Nat.le_of_ble_eq_true rfl, Nat.le_of_ble_eq_true rfl⟩ (by decide) (dq da_X6_fetched 26 rfl) ?_
      exact xret_i E hr hlk w (by decide) (congrArg Prod.fst (os h)) (congrArg Prod.snd (os h)) (dq da_X6_fetched 27 rfl)
  · have h := ie c3 h
    refine lv_iconst (v := 0) hx hb (dq da_X6_fetched 9 rfl) rfl ?_
    exact xret_i E hr hlk w (by decide) (congrArg Prod.fst (os h)) (congrArg Prod.snd (os h)) (dq da_X6_fetched 10 rfl)
def dl_X6_a : List (Nat × Instr × Nat) := [(0, .aload_n 0, 1), (1, .getfield 9, 3), (4, .iload_n 1, 1), (5, .bipush 15, 2), (7, .ishr, 1), (8, .bipush 31, 2), (10, .iand, 1), (11, .laload, 1), (12, .lreturn, 1)]
theorem da_X6_a : dkL cX6_a dl_X6_a = true := by decide +kernel
def f_X6_a (x1 : Int32) (u : St) : Option (Int64) := if inB ((x1 >>> ((15 : Int32) &&& 31)) &&& (31 : Int32)) (gN u 7) then (some (gB u 1 ((x1 >>> ((15 : Int32) &&& 31)) &&& (31 : Int32)).toNatClampNeg)) else none
set_option maxRecDepth 100000 in
set_option maxHeartbeats 4000000 in
theorem c_X6_a (l : Launch) (D : va_G) (cy : ClassId × ClassId × ClassId) (ad : Nat → Nat) (x1 : Int32) (u : St) {r : Int64} (h : f_X6_a x1 u = some r) : MX (wC cy ad) D cy l yX6_a cX6_a 2 (some .long) 0 0 0 [.ref (ad 18), .int x1] u u (some (.long (r))) := by
  refine entX (by decide +kernel) (Nat.le_of_ble_eq_true rfl) ?_
  intro p e s m args below meth c ls rr A E hr hlk hl w
  have hl : lv_has ls 2 [(0, .ref (ad 18)), (1, .int x1)] := hl
  have hx := E.1
  have hb := E.2.1
  have hown := E.2.2.2.1
  have hts := E.2.2.2.2
  refine lv_aload_n hx hb (dq da_X6_a 0 rfl) rfl (lv_at hl 0 rfl) ?_
  refine gt_wC_18_registers E w w_247 (dq da_X6_a 1 rfl) ?_
  refine lv_iload_n hx hb (dq da_X6_a 2 rfl) rfl (lv_at hl 1 rfl) ?_
  refine lv_bipush (v := 15) hx hb (dq da_X6_a 3 rfl) rfl ?_
  refine lv_ishr hx hb (dq da_X6_a 4 rfl) ?_
  refine lv_bipush (v := 31) hx hb (dq da_X6_a 5 rfl) rfl ?_
  refine lv_iand hx hb (dq da_X6_a 6 rfl) ?_
  obtain ⟨hi1, h⟩ := oi h
  refine ald_wC_19 E w hi1 (dq da_X6_a 7 rfl) ?_
  exact xret_l E hr hlk w (by decide) (os h) rfl (dq da_X6_a 8 rfl)
def dl_X6_b : List (Nat × Instr × Nat) := [(0, .aload_n 0, 1), (1, .getfield 9, 3), (4, .iload_n 1, 1), (5, .bipush 20, 2), (7, .ishr, 1), (8, .bipush 31, 2), (10, .iand, 1), (11, .laload, 1), (12, .lreturn, 1)]
theorem da_X6_b : dkL cX6_b dl_X6_b = true := by decide +kernel
def f_X6_b (x1 : Int32) (u : St) : Option (Int64) := if inB ((x1 >>> ((20 : Int32) &&& 31)) &&& (31 : Int32)) (gN u 7) then (some (gB u 1 ((x1 >>> ((20 : Int32) &&& 31)) &&& (31 : Int32)).toNatClampNeg)) else none
set_option maxRecDepth 100000 in
set_option maxHeartbeats 4000000 in
theorem c_X6_b (l : Launch) (D : va_G) (cy : ClassId × ClassId × ClassId) (ad : Nat → Nat) (x1 : Int32) (u : St) {r : Int64} (h : f_X6_b x1 u = some r) : MX (wC cy ad) D cy l yX6_b cX6_b 2 (some .long) 0 0 0 [.ref (ad 18), .int x1] u u (some (.long (r))) := by
  refine entX (by decide +kernel) (Nat.le_of_ble_eq_true rfl) ?_
  intro p e s m args below meth c ls rr A E hr hlk hl w
  have hl : lv_has ls 2 [(0, .ref (ad 18)), (1, .int x1)] := hl
  have hx := E.1
  have hb := E.2.1
  have hown := E.2.2.2.1
  have hts := E.2.2.2.2
  refine lv_aload_n hx hb (dq da_X6_b 0 rfl) rfl (lv_at hl 0 rfl) ?_
  refine gt_wC_18_registers E w w_247 (dq da_X6_b 1 rfl) ?_
  refine lv_iload_n hx hb (dq da_X6_b 2 rfl) rfl (lv_at hl 1 rfl) ?_
  refine lv_bipush (v := 20) hx hb (dq da_X6_b 3 rfl) rfl ?_
  refine lv_ishr hx hb (dq da_X6_b 4 rfl) ?_
  refine lv_bipush (v := 31) hx hb (dq da_X6_b 5 rfl) rfl ?_
  refine lv_iand hx hb (dq da_X6_b 6 rfl) ?_
  obtain ⟨hi1, h⟩ := oi h
  refine ald_wC_19 E w hi1 (dq da_X6_b 7 rfl) ?_
  exact xret_l E hr hlk w (by decide) (os h) rfl (dq da_X6_b 8 rfl)
def dl_X6_putRd : List (Nat × Instr × Nat) := [(0, .iload_n 1, 1), (1, .bipush 7, 2), (3, .ishr, 1), (4, .bipush 31, 2), (6, .iand, 1), (7, .istore 4, 2), (9, .iload 4, 2), (11, .ifCond .eq 11, 3), (14, .aload_n 0, 1), (15, .getfield 9, 3), (18, .iload 4, 2), (20, .lload_n 2, 1), (21, .lastore, 1), (22, .return_, 1)]
theorem da_X6_putRd : dkL cX6_putRd dl_X6_putRd = true := by decide +kernel
def f_X6_putRd (x1 : Int32) (x2 : Int64) (u : St) : Option (St) := if ((x1 >>> ((7 : Int32) &&& 31)) &&& (31 : Int32)) = (0 : Int32) then (some u) else (if inB ((x1 >>> ((7 : Int32) &&& 31)) &&& (31 : Int32)) (gN u 7) then (some (sB u 1 ((x1 >>> ((7 : Int32) &&& 31)) &&& (31 : Int32)).toNatClampNeg x2)) else none)
set_option maxRecDepth 100000 in
set_option maxHeartbeats 4000000 in
theorem c_X6_putRd (l : Launch) (D : va_G) (cy : ClassId × ClassId × ClassId) (ad : Nat → Nat) (x1 : Int32) (x2 : Int64) (u : St) {u' : St} (h : f_X6_putRd x1 x2 u = some u') : MX (wC cy ad) D cy l yX6_putRd cX6_putRd 5 (none) 0 0 0 [.ref (ad 18), .int x1, .long x2] u u' none := by
  refine entX (by decide +kernel) (Nat.le_of_ble_eq_true rfl) ?_
  intro p e s m args below meth c ls rr A E hr hlk hl w
  have hl : lv_has ls 5 [(0, .ref (ad 18)), (1, .int x1), (2, .long x2)] := hl
  have hx := E.1
  have hb := E.2.1
  have hown := E.2.2.2.1
  have hts := E.2.2.2.2
  refine lv_iload_n hx hb (dq da_X6_putRd 0 rfl) rfl (lv_at hl 1 rfl) ?_
  refine lv_bipush (v := 7) hx hb (dq da_X6_putRd 1 rfl) rfl ?_
  refine lv_ishr hx hb (dq da_X6_putRd 2 rfl) ?_
  refine lv_bipush (v := 31) hx hb (dq da_X6_putRd 3 rfl) rfl ?_
  refine lv_iand hx hb (dq da_X6_putRd 4 rfl) ?_
  refine lv_istore (lv' := [(4, .int ((x1 >>> ((7 : Int32) &&& 31)) &&& (31 : Int32))), (0, .ref (ad 18)), (1, .int x1), (2, .long x2)]) hx hb (dq da_X6_putRd 5 rfl) hl (by decide) rfl (fun ls hl => ?_)
  refine lv_iload hx hb (dq da_X6_putRd 6 rfl) (lv_at hl 0 rfl) ?_
  refine lv_if_eq (tgt := 22) hx hb (dq da_X6_putRd 7 rfl) (by decide) (fun c1 => ?_) (fun c1 => ?_)
  · have h := it c1 h
    exact xret_v E hr hlk w (by decide) (os h) (dq da_X6_putRd 13 rfl)
  · have h := ie c1 h
    refine lv_aload_n hx hb (dq da_X6_putRd 8 rfl) rfl (lv_at hl 1 rfl) ?_
    refine gt_wC_18_registers E w w_247 (dq da_X6_putRd 9 rfl) ?_
    refine lv_iload hx hb (dq da_X6_putRd 10 rfl) (lv_at hl 0 rfl) ?_
    refine lv_lload_n hx hb (dq da_X6_putRd 11 rfl) rfl (lv_at hl 3 rfl) ?_
    obtain ⟨hi2, h⟩ := oi h
    refine ast_wC_19 E w hi2 (dq da_X6_putRd 12 rfl) (fun H locs w => ?_)
    exact xret_v E hr hlk w (by decide) (os h) (dq da_X6_putRd 13 rfl)
def dl_X6_jump : List (Nat × Instr × Nat) := [(0, .aload_n 0, 1), (1, .iload_n 1, 1), (2, .aload_n 0, 1), (3, .getfield 57, 3), (6, .invokevirtual 207, 3), (9, .aload_n 0, 1), (10, .lload_n 2, 1), (11, .putfield 57, 3), (14, .return_, 1)]
theorem da_X6_jump : dkL cX6_jump dl_X6_jump = true := by decide +kernel
def f_X6_jump (x1 : Int32) (x2 : Int64) (u : St) : Option (St) := (f_X6_putRd x1 (gL u 25) u).bind (fun y1 => some (sL y1 25 x2))
set_option maxRecDepth 100000 in
set_option maxHeartbeats 4000000 in
theorem c_X6_jump (l : Launch) (D : va_G) (cy : ClassId × ClassId × ClassId) (ad : Nat → Nat) (x1 : Int32) (x2 : Int64) (u : St) {u' : St} (h : f_X6_jump x1 x2 u = some u') : MX (wC cy ad) D cy l yX6_jump cX6_jump 4 (none) 1 24 0 [.ref (ad 18), .int x1, .long x2] u u' none := by
  refine entX (by decide +kernel) (Nat.le_of_ble_eq_true rfl) ?_
  intro p e s m args below meth c ls rr A E hr hlk hl w
  have hl : lv_has ls 4 [(0, .ref (ad 18)), (1, .int x1), (2, .long x2)] := hl
  have hx := E.1
  have hb := E.2.1
  have hown := E.2.2.2.1
  have hts := E.2.2.2.2
  refine lv_aload_n hx hb (dq da_X6_jump 0 rfl) rfl (lv_at hl 0 rfl) ?_
  refine lv_iload_n hx hb (dq da_X6_jump 1 rfl) rfl (lv_at hl 1 rfl) ?_
  refine lv_aload_n hx hb (dq da_X6_jump 2 rfl) rfl (lv_at hl 0 rfl) ?_
  refine gt_wC_18_next E w w_254 (dq da_X6_jump 3 rfl) ?_
  obtain ⟨y1, hy2, h⟩ := ob h
  refine cV0 E (c_X6_putRd l D cy ad _ _ _ hy2) w_820 w_822 w_p18 w_9 w_823 rfl hd_X6_putRd rfl hl.1 rfl (Nat.le_of_ble_eq_true rfl) ⟨Nat.le_of_ble_eq_true rfl, Nat.le_of_ble_eq_true rfl⟩ (by decide) w (rc_wC_18 w) (dq da_X6_jump 4 rfl) (fun H locs rr w => ?_)
  refine lv_aload_n hx hb (dq da_X6_jump 5 rfl) rfl (lv_at hl 0 rfl) ?_
  refine lv_lload_n hx hb (dq da_X6_jump 6 rfl) rfl (lv_at hl 2 rfl) ?_
  refine pt_wC_18_next E w w_254 (dq da_X6_jump 7 rfl) (fun H locs w => ?_)
  exact xret_v E hr hlk w (by decide) (os h) (dq da_X6_jump 8 rfl)
def dl_X6_jumpByRegister : List (Nat × Instr × Nat) := [(0, .iload_n 1, 1), (1, .invokestatic 246, 3), (4, .ifCond .ne 26, 3), (7, .aload_n 0, 1), (8, .iload_n 1, 1), (9, .aload_n 0, 1), (10, .iload_n 1, 1), (11, .invokevirtual 259, 3), (14, .iload_n 1, 1), (15, .bipush 20, 2), (17, .ishr, 1), (18, .i2l, 1), (19, .ladd, 1), (20, .ldc2_w 263, 3), (23, .land, 1), (24, .invokevirtual 213, 3), (27, .goto 7, 3), (30, .aload_n 0, 1), (31, .invokevirtual 255, 3), (34, .return_, 1)]
theorem da_X6_jumpByRegister : dkL cX6_jumpByRegister dl_X6_jumpByRegister = true := by decide +kernel
def f_X6_jumpByRegister (x1 : Int32) (u : St) : Option (St) := if (f_X6_f x1) = (0 : Int32) then ((f_X6_a x1 u).bind (fun y2 => (f_X6_jump x1 ((y2 + (x1 >>> ((20 : Int32) &&& 31)).toInt64) &&& (-2 : Int64)) u).bind (fun y4 => some y4))) else (some (f_X6_illegal u))
set_option maxRecDepth 100000 in
set_option maxHeartbeats 4000000 in
theorem c_X6_jumpByRegister (l : Launch) (D : va_G) (cy : ClassId × ClassId × ClassId) (ad : Nat → Nat) (x1 : Int32) (u : St) {u' : St} (h : f_X6_jumpByRegister x1 u = some u') : MX (wC cy ad) D cy l yX6_jumpByRegister cX6_jumpByRegister 2 (none) 2 47 0 [.ref (ad 18), .int x1] u u' none := by
  refine entX (by decide +kernel) (Nat.le_of_ble_eq_true rfl) ?_
  intro p e s m args below meth c ls rr A E hr hlk hl w
  have hl : lv_has ls 2 [(0, .ref (ad 18)), (1, .int x1)] := hl
  have hx := E.1
  have hb := E.2.1
  have hown := E.2.2.2.1
  have hts := E.2.2.2.2
  refine lv_iload_n hx hb (dq da_X6_jumpByRegister 0 rfl) rfl (lv_at hl 1 rfl) ?_
  refine callP E (c_X6_f l _ ) w_836 w_837 w_9 w_838 hd_X6_f rfl hl.1 rfl (Nat.le_of_ble_eq_true rfl) ⟨Nat.le_of_ble_eq_true rfl, Nat.le_of_ble_eq_true rfl⟩ (by decide) (dq da_X6_jumpByRegister 1 rfl) ?_
  refine lv_if_ne (tgt := 30) hx hb (dq da_X6_jumpByRegister 2 rfl) (by decide) (fun c1 => ?_) (fun c1 => ?_)
  · have h := ie c1 h
    refine lv_aload_n hx hb (dq da_X6_jumpByRegister 17 rfl) rfl (lv_at hl 0 rfl) ?_
    refine cV0 E (c_X6_illegal l D cy ad _ ) w_844 w_846 w_p22 w_9 w_847 rfl hd_X6_illegal rfl hl.1 rfl (Nat.le_of_ble_eq_true rfl) ⟨Nat.le_of_ble_eq_true rfl, Nat.le_of_ble_eq_true rfl⟩ (by decide) w (rc_wC_18 w) (dq da_X6_jumpByRegister 18 rfl) (fun H locs rr w => ?_)
    exact xret_v E hr hlk w (by decide) (os h) (dq da_X6_jumpByRegister 19 rfl)
  · have h := it c1 h
    refine lv_aload_n hx hb (dq da_X6_jumpByRegister 3 rfl) rfl (lv_at hl 0 rfl) ?_
    refine lv_iload_n hx hb (dq da_X6_jumpByRegister 4 rfl) rfl (lv_at hl 1 rfl) ?_
    refine lv_aload_n hx hb (dq da_X6_jumpByRegister 5 rfl) rfl (lv_at hl 0 rfl) ?_
    refine lv_iload_n hx hb (dq da_X6_jumpByRegister 6 rfl) rfl (lv_at hl 1 rfl) ?_
    obtain ⟨y2, hy3, h⟩ := ob h
    refine cV1 E (c_X6_a l D cy ad _ _ hy3) w_839 w_841 w_p21 w_9 w_842 rfl hd_X6_a rfl hl.1 rfl (Nat.le_of_ble_eq_true rfl) ⟨Nat.le_of_ble_eq_true rfl, Nat.le_of_ble_eq_true rfl⟩ (by decide) w (rc_wC_18 w) (dq da_X6_jumpByRegister 7 rfl) (fun H locs rr w => ?_)
    refine lv_iload_n hx hb (dq da_X6_jumpByRegister 8 rfl) rfl (lv_at hl 1 rfl) ?_
    refine lv_bipush (v := 20) hx hb (dq da_X6_jumpByRegister 9 rfl) rfl ?_
    refine lv_ishr hx hb (dq da_X6_jumpByRegister 10 rfl) ?_
    refine lv_i2l (v := (x1 >>> ((20 : Int32) &&& 31)).toInt64) hx hb (dq da_X6_jumpByRegister 11 rfl) rfl ?_
    refine lv_ladd hx hb (dq da_X6_jumpByRegister 12 rfl) ?_
    refine lv_ldc2 hx hb hown (hts _ w_843) (dq da_X6_jumpByRegister 13 rfl) ?_
    refine lv_land hx hb (dq da_X6_jumpByRegister 14 rfl) ?_
    obtain ⟨y4, hy5, h⟩ := ob h
    refine cV0 E (c_X6_jump l D cy ad _ _ _ hy5) w_828 w_830 w_p19 w_9 w_831 rfl hd_X6_jump rfl hl.1 rfl (Nat.le_of_ble_eq_true rfl) ⟨Nat.le_of_ble_eq_true rfl, Nat.le_of_ble_eq_true rfl⟩ (by decide) w (rc_wC_18 w) (dq da_X6_jumpByRegister 15 rfl) (fun H locs rr w => ?_)
    refine lv_goto (tgt := 34) hx hb (dq da_X6_jumpByRegister 16 rfl) (by decide) ?_
    exact xret_v E hr hlk w (by decide) (os h) (dq da_X6_jumpByRegister 19 rfl)
def dl_X6_branch : List (Nat × Instr × Nat) := [(0, .iload_n 1, 1), (1, .invokestatic 246, 3), (4, .istore_n 2, 1), (5, .iload_n 2, 1), (6, .iconst 2, 1), (7, .if_icmp .eq 8, 3), (10, .iload_n 2, 1), (11, .iconst 3, 1), (12, .if_icmp .ne 8, 3), (15, .aload_n 0, 1), (16, .invokevirtual 255, 3), (19, .return_, 1), (20, .aload_n 0, 1), (21, .iload_n 1, 1), (22, .invokevirtual 259, 3), (25, .lstore_n 3, 1), (26, .aload_n 0, 1), (27, .iload_n 1, 1), (28, .invokevirtual 265, 3), (31, .lstore 5, 2), (33, .iload_n 2, 1), (34, .iconst 2, 1), (35, .if_icmp .ge 18, 3), (38, .lload_n 3, 1), (39, .lload 5, 2), (41, .lcmp, 1), (42, .ifCond .ne 7, 3), (45, .iconst 1, 1), (46, .goto 34, 3), (49, .iconst 0, 1), (50, .goto 30, 3), (53, .iload_n 2, 1), (54, .bipush 6, 2), (56, .if_icmp .ge 18, 3), (59, .lload_n 3, 1), (60, .lload 5, 2), (62, .lcmp, 1), (63, .ifCond .ge 7, 3), (66, .iconst 1, 1), (67, .goto 13, 3), (70, .iconst 0, 1), (71, .goto 9, 3), (74, .lload_n 3, 1), (75, .lload 5, 2), (77, .invokestatic 268, 3), (80, .istore 7, 2), (82, .iload 7, 2), (84, .iload_n 2, 1), (85, .iconst 1, 1), (86, .iand, 1), (87, .ifCond .ne 7, 3), (90, .iconst 1, 1), (91, .goto 4, 3), (94, .iconst 0, 1), (95, .if_icmp .ne 17, 3), (98, .aload_n 0, 1), (99, .aload_n 0, 1), (100, .getfield 17, 3), (103, .iload_n 1, 1), (104, .invokestatic 274, 3), (107, .i2l, 1), (108, .ladd, 1), (109, .putfield 57, 3), (112, .return_, 1)]
theorem da_X6_branch : dkL cX6_branch dl_X6_branch = true := by decide +kernel
def f_X6_branch_b15 (u : St) : Option (St) := some (f_X6_illegal u)
set_option maxRecDepth 100000 in
set_option maxHeartbeats 4000000 in
theorem b_X6_branch_b15 {p : Program} {l : Launch} {e : Env} {s : State} {m : MethodId} {args : Array Value} {below : List Frame} {meth : Method} {c : Code} {D : va_G} {cy : ClassId × ClassId × ClassId} {ad : Nat → Nat} {A : Nat → Prop} (E : CallFix p m c cX6_branch 8 s args gw RX6) (hr : meth.sig.returnType = none) (hlk : meth.locks = false) {u : St} {u' : St} (h : f_X6_branch_b15 u = some u') {ls : Array Slot} {H : Heap} {locs : List Loc} {rr : Nat → Nat} (hl : lv_has ls 8 [(0, .ref (ad 18))]) (w : WX (wC cy ad) D cy rr u A s H locs) : Wx (wC cy ad) D p l e 2 43 0 s m args below meth c A u' none H locs 0 15 ls [] := by
  have hx := E.1
  have hb := E.2.1
  have hown := E.2.2.2.1
  have hts := E.2.2.2.2
  refine lv_aload_n hx hb (dq da_X6_branch 9 rfl) rfl (lv_at hl 0 rfl) ?_
  refine cV0 E (c_X6_illegal l D cy ad _ ) w_844 w_846 w_p22 w_9 w_847 rfl hd_X6_illegal rfl hl.1 rfl (Nat.le_of_ble_eq_true rfl) ⟨Nat.le_of_ble_eq_true rfl, Nat.le_of_ble_eq_true rfl⟩ (by decide) w (rc_wC_18 w) (dq da_X6_branch 10 rfl) (fun H locs rr w => ?_)
  exact xret_v E hr hlk w (by decide) (os h) (dq da_X6_branch 11 rfl)
def f_X6_branch_b95 (x1 : Int32) (s0 : Int32) (s1 : Int32) (u : St) : Option (St) := if s1 = s0 then (some (sL u 25 ((gL u 24) + (f_X6_branchOffset x1).toInt64))) else (some u)
set_option maxRecDepth 100000 in
set_option maxHeartbeats 4000000 in
theorem b_X6_branch_b95 {p : Program} {l : Launch} {e : Env} {s : State} {m : MethodId} {args : Array Value} {below : List Frame} {meth : Method} {c : Code} {D : va_G} {cy : ClassId × ClassId × ClassId} {ad : Nat → Nat} {A : Nat → Prop} (E : CallFix p m c cX6_branch 8 s args gw RX6) (hr : meth.sig.returnType = none) (hlk : meth.locks = false) {x1 : Int32} {s0 : Int32} {s1 : Int32} {u : St} {u' : St} (h : f_X6_branch_b95 x1 s0 s1 u = some u') {ls : Array Slot} {H : Heap} {locs : List Loc} {rr : Nat → Nat} (hl : lv_has ls 8 [(0, .ref (ad 18)), (1, .int x1)]) (w : WX (wC cy ad) D cy rr u A s H locs) : Wx (wC cy ad) D p l e 2 43 0 s m args below meth c A u' none H locs 0 95 ls [.int s0, .int s1] := by
  have hx := E.1
  have hb := E.2.1
  have hown := E.2.2.2.1
  have hts := E.2.2.2.2
  refine lv_icmp_ne (tgt := 112) hx hb (dq da_X6_branch 54 rfl) (by decide) (fun c10 => ?_) (fun c10 => ?_)
  · have h := ie c10 h
    exact xret_v E hr hlk w (by decide) (os h) (dq da_X6_branch 63 rfl)
  · have h := it c10 h
    refine lv_aload_n hx hb (dq da_X6_branch 55 rfl) rfl (lv_at hl 0 rfl) ?_
    refine lv_aload_n hx hb (dq da_X6_branch 56 rfl) rfl (lv_at hl 0 rfl) ?_
    refine gt_wC_18_pc E w w_249 (dq da_X6_branch 57 rfl) ?_
    refine lv_iload_n hx hb (dq da_X6_branch 58 rfl) rfl (lv_at hl 1 rfl) ?_
    refine callP E (c_X6_branchOffset l _ ) w_858 w_859 w_9 w_860 hd_X6_branchOffset rfl hl.1 rfl (Nat.le_of_ble_eq_true rfl) ⟨Nat.le_of_ble_eq_true rfl, Nat.le_of_ble_eq_true rfl⟩ (by decide) (dq da_X6_branch 59 rfl) ?_
    refine lv_i2l (v := (f_X6_branchOffset x1).toInt64) hx hb (dq da_X6_branch 60 rfl) rfl ?_
    refine lv_ladd hx hb (dq da_X6_branch 61 rfl) ?_
    refine pt_wC_18_next E w w_254 (dq da_X6_branch 62 rfl) (fun H locs w => ?_)
    exact xret_v E hr hlk w (by decide) (os h) (dq da_X6_branch 63 rfl)
def f_X6_branch_b80 (x1 : Int32) (x2 : Int32) (s0 : Int32) (u : St) : Option (St) := if (x2 &&& (1 : Int32)) = (0 : Int32) then (f_X6_branch_b95 x1 (1 : Int32) s0 u) else (f_X6_branch_b95 x1 (0 : Int32) s0 u)
set_option maxRecDepth 100000 in
set_option maxHeartbeats 4000000 in
theorem b_X6_branch_b80 {p : Program} {l : Launch} {e : Env} {s : State} {m : MethodId} {args : Array Value} {below : List Frame} {meth : Method} {c : Code} {D : va_G} {cy : ClassId × ClassId × ClassId} {ad : Nat → Nat} {A : Nat → Prop} (E : CallFix p m c cX6_branch 8 s args gw RX6) (hr : meth.sig.returnType = none) (hlk : meth.locks = false) {x1 : Int32} {x2 : Int32} {s0 : Int32} {u : St} {u' : St} (h : f_X6_branch_b80 x1 x2 s0 u = some u') {ls : Array Slot} {H : Heap} {locs : List Loc} {rr : Nat → Nat} (hl : lv_has ls 8 [(0, .ref (ad 18)), (1, .int x1), (2, .int x2)]) (w : WX (wC cy ad) D cy rr u A s H locs) : Wx (wC cy ad) D p l e 2 43 0 s m args below meth c A u' none H locs 0 80 ls [.int s0] := by
  have hx := E.1
  have hb := E.2.1
  have hown := E.2.2.2.1
  have hts := E.2.2.2.2
  refine lv_istore (lv' := [(7, .int s0), (0, .ref (ad 18)), (1, .int x1), (2, .int x2)]) hx hb (dq da_X6_branch 45 rfl) hl (by decide) rfl (fun ls hl => ?_)
  refine lv_iload hx hb (dq da_X6_branch 46 rfl) (lv_at hl 0 rfl) ?_
  refine lv_iload_n hx hb (dq da_X6_branch 47 rfl) rfl (lv_at hl 3 rfl) ?_
  refine lv_iconst (v := 1) hx hb (dq da_X6_branch 48 rfl) rfl ?_
  refine lv_iand hx hb (dq da_X6_branch 49 rfl) ?_
  refine lv_if_ne (tgt := 94) hx hb (dq da_X6_branch 50 rfl) (by decide) (fun c9 => ?_) (fun c9 => ?_)
  · have h := ie c9 h
    refine lv_iconst (v := 0) hx hb (dq da_X6_branch 53 rfl) rfl ?_
    exact b_X6_branch_b95 E hr hlk h (lv_sub hl [1, 2] rfl) w
  · have h := it c9 h
    refine lv_iconst (v := 1) hx hb (dq da_X6_branch 51 rfl) rfl ?_
    refine lv_goto (tgt := 95) hx hb (dq da_X6_branch 52 rfl) (by decide) ?_
    exact b_X6_branch_b95 E hr hlk h (lv_sub hl [1, 2] rfl) w
def f_X6_branch (x1 : Int32) (u : St) : Option (St) := if (f_X6_f x1) = (2 : Int32) then (f_X6_branch_b15 u) else (if (f_X6_f x1) = (3 : Int32) then (f_X6_branch_b15 u) else ((f_X6_a x1 u).bind (fun y3 => (f_X6_b x1 u).bind (fun y5 => if (2 : Int32) ≤ (f_X6_f x1) then (if (6 : Int32) ≤ (f_X6_f x1) then (f_X6_branch_b80 x1 (f_X6_f x1) (f_X0_below y3 y5) u) else (if y5 ≤ y3 then (f_X6_branch_b80 x1 (f_X6_f x1) (0 : Int32) u) else (f_X6_branch_b80 x1 (f_X6_f x1) (1 : Int32) u))) else (if y3 = y5 then (f_X6_branch_b80 x1 (f_X6_f x1) (1 : Int32) u) else (f_X6_branch_b80 x1 (f_X6_f x1) (0 : Int32) u))))))
set_option maxRecDepth 100000 in
set_option maxHeartbeats 4000000 in
theorem c_X6_branch (l : Launch) (D : va_G) (cy : ClassId × ClassId × ClassId) (ad : Nat → Nat) (x1 : Int32) (u : St) {u' : St} (h : f_X6_branch x1 u = some u') : MX (wC cy ad) D cy l yX6_branch cX6_branch 8 (none) 2 43 0 [.ref (ad 18), .int x1] u u' none := by
  refine entX (by decide +kernel) (Nat.le_of_ble_eq_true rfl) ?_
  intro p e s m args below meth c ls rr A E hr hlk hl w
  have hl : lv_has ls 8 [(0, .ref (ad 18)), (1, .int x1)] := hl
  have hx := E.1
  have hb := E.2.1
  have hown := E.2.2.2.1
  have hts := E.2.2.2.2
  refine lv_iload_n hx hb (dq da_X6_branch 0 rfl) rfl (lv_at hl 1 rfl) ?_
  refine callP E (c_X6_f l _ ) w_836 w_837 w_9 w_838 hd_X6_f rfl hl.1 rfl (Nat.le_of_ble_eq_true rfl) ⟨Nat.le_of_ble_eq_true rfl, Nat.le_of_ble_eq_true rfl⟩ (by decide) (dq da_X6_branch 1 rfl) ?_
  refine lv_istore_n (lv' := [(2, .int (f_X6_f x1)), (0, .ref (ad 18)), (1, .int x1)]) hx hb (dq da_X6_branch 2 rfl) rfl hl (by decide) rfl (fun ls hl => ?_)
  refine lv_iload_n hx hb (dq da_X6_branch 3 rfl) rfl (lv_at hl 0 rfl) ?_
  refine lv_iconst (v := 2) hx hb (dq da_X6_branch 4 rfl) rfl ?_
  refine lv_icmp_eq (tgt := 15) hx hb (dq da_X6_branch 5 rfl) (by decide) (fun c1 => ?_) (fun c1 => ?_)
  · have h := it c1 h
    exact b_X6_branch_b15 E hr hlk h (lv_sub hl [1] rfl) w
  · have h := ie c1 h
    refine lv_iload_n hx hb (dq da_X6_branch 6 rfl) rfl (lv_at hl 0 rfl) ?_
    refine lv_iconst (v := 3) hx hb (dq da_X6_branch 7 rfl) rfl ?_
    refine lv_icmp_ne (tgt := 20) hx hb (dq da_X6_branch 8 rfl) (by decide) (fun c2 => ?_) (fun c2 => ?_)
    · have h := ie c2 h
      refine lv_aload_n hx hb (dq da_X6_branch 12 rfl) rfl (lv_at hl 1 rfl) ?_
      refine lv_iload_n hx hb (dq da_X6_branch 13 rfl) rfl (lv_at hl 2 rfl) ?_
      obtain ⟨y3, hy4, h⟩ := ob h
      refine cV1 E (c_X6_a l D cy ad _ _ hy4) w_839 w_841 w_p21 w_9 w_842 rfl hd_X6_a rfl hl.1 rfl (Nat.le_of_ble_eq_true rfl) ⟨Nat.le_of_ble_eq_true rfl, Nat.le_of_ble_eq_true rfl⟩ (by decide) w (rc_wC_18 w) (dq da_X6_branch 14 rfl) (fun H locs rr w => ?_)
      refine lv_lstore_n (lv' := [(3, .long y3), (2, .int (f_X6_f x1)), (0, .ref (ad 18)), (1, .int x1)]) hx hb (dq da_X6_branch 15 rfl) rfl hl (by decide) rfl (fun ls hl => ?_)
      refine lv_aload_n hx hb (dq da_X6_branch 16 rfl) rfl (lv_at hl 2 rfl) ?_
      refine lv_iload_n hx hb (dq da_X6_branch 17 rfl) rfl (lv_at hl 3 rfl) ?_
      obtain ⟨y5, hy6, h⟩ := ob h
      refine cV1 E (c_X6_b l D cy ad _ _ hy6) w_853 w_855 w_p24 w_9 w_856 rfl hd_X6_b rfl hl.1 rfl (Nat.le_of_ble_eq_true rfl) ⟨Nat.le_of_ble_eq_true rfl, Nat.le_of_ble_eq_true rfl⟩ (by decide) w (rc_wC_18 w) (dq da_X6_branch 18 rfl) (fun H locs rr w => ?_)
      refine lv_lstore (lv' := [(5, .long y5), (3, .long y3), (2, .int (f_X6_f x1)), (0, .ref (ad 18)), (1, .int x1)]) hx hb (dq da_X6_branch 19 rfl) hl (by decide) rfl (fun ls hl => ?_)
      refine lv_iload_n hx hb (dq da_X6_branch 20 rfl) rfl (lv_at hl 2 rfl) ?_
      refine lv_iconst (v := 2) hx hb (dq da_X6_branch 21 rfl) rfl ?_
      refine lv_icmp_ge (tgt := 53) hx hb (dq da_X6_branch 22 rfl) (by decide) (fun c7 => ?_) (fun c7 => ?_)
      · have h := it c7 h
        refine lv_iload_n hx hb (dq da_X6_branch 31 rfl) rfl (lv_at hl 2 rfl) ?_
        refine lv_bipush (v := 6) hx hb (dq da_X6_branch 32 rfl) rfl ?_
        refine lv_icmp_ge (tgt := 74) hx hb (dq da_X6_branch 33 rfl) (by decide) (fun c8 => ?_) (fun c8 => ?_)
        · have h := it c8 h
          refine lv_lload_n hx hb (dq da_X6_branch 42 rfl) rfl (lv_at hl 1 rfl) ?_
          refine lv_lload hx hb (dq da_X6_branch 43 rfl) (lv_at hl 0 rfl) ?_
          refine callP E (c_X0_below l _ _ ) w_857 w_574 w_17 w_575 hd_X0_below rfl hl.1 rfl (Nat.le_of_ble_eq_true rfl) ⟨Nat.le_of_ble_eq_true rfl, Nat.le_of_ble_eq_true rfl⟩ (by decide) (dq da_X6_branch 44 rfl) ?_
          exact b_X6_branch_b80 E hr hlk h (lv_sub hl [3, 4, 2] rfl) w
        · have h := ie c8 h
          refine lv_lload_n hx hb (dq da_X6_branch 34 rfl) rfl (lv_at hl 1 rfl) ?_
          refine lv_lload hx hb (dq da_X6_branch 35 rfl) (lv_at hl 0 rfl) ?_
          refine lc_ge (tgt := 70) hx hb (dq da_X6_branch 36 rfl) (dq da_X6_branch 37 rfl) (by decide) (fun c11 => ?_) (fun c11 => ?_)
          · have h := it c11 h
            refine lv_iconst (v := 0) hx hb (dq da_X6_branch 40 rfl) rfl ?_
            refine lv_goto (tgt := 80) hx hb (dq da_X6_branch 41 rfl) (by decide) ?_
            exact b_X6_branch_b80 E hr hlk h (lv_sub hl [3, 4, 2] rfl) w
          · have h := ie c11 h
            refine lv_iconst (v := 1) hx hb (dq da_X6_branch 38 rfl) rfl ?_
            refine lv_goto (tgt := 80) hx hb (dq da_X6_branch 39 rfl) (by decide) ?_
            exact b_X6_branch_b80 E hr hlk h (lv_sub hl [3, 4, 2] rfl) w
      · have h := ie c7 h
        refine lv_lload_n hx hb (dq da_X6_branch 23 rfl) rfl (lv_at hl 1 rfl) ?_
        refine lv_lload hx hb (dq da_X6_branch 24 rfl) (lv_at hl 0 rfl) ?_
        refine lc_ne (tgt := 49) hx hb (dq da_X6_branch 25 rfl) (dq da_X6_branch 26 rfl) (by decide) (fun c12 => ?_) (fun c12 => ?_)
        · have h := ie c12 h
          refine lv_iconst (v := 0) hx hb (dq da_X6_branch 29 rfl) rfl ?_
          refine lv_goto (tgt := 80) hx hb (dq da_X6_branch 30 rfl) (by decide) ?_
          exact b_X6_branch_b80 E hr hlk h (lv_sub hl [3, 4, 2] rfl) w
        · have h := it c12 h
          refine lv_iconst (v := 1) hx hb (dq da_X6_branch 27 rfl) rfl ?_
          refine lv_goto (tgt := 80) hx hb (dq da_X6_branch 28 rfl) (by decide) ?_
          exact b_X6_branch_b80 E hr hlk h (lv_sub hl [3, 4, 2] rfl) w
    · have h := it c2 h
      exact b_X6_branch_b15 E hr hlk h (lv_sub hl [1] rfl) w
def dl_X6_loadRegister : List (Nat × Instr × Nat) := [(0, .iload_n 1, 1), (1, .invokestatic 246, 3), (4, .istore_n 2, 1), (5, .iload_n 2, 1), (6, .bipush 7, 2), (8, .if_icmp .ne 8, 3), (11, .aload_n 0, 1), (12, .invokevirtual 255, 3), (15, .return_, 1), (16, .iconst 1, 1), (17, .iload_n 2, 1), (18, .iconst 3, 1), (19, .iand, 1), (20, .ishl, 1), (21, .istore_n 3, 1), (22, .aload_n 0, 1), (23, .iload_n 1, 1), (24, .invokevirtual 259, 3), (27, .iload_n 1, 1), (28, .bipush 20, 2), (30, .ishr, 1), (31, .i2l, 1), (32, .ladd, 1), (33, .lstore 4, 2), (35, .aload_n 0, 1), (36, .lload 4, 2), (38, .iload_n 3, 1), (39, .iconst 1, 1), (40, .invokevirtual 168, 3), (43, .lstore 6, 2), (45, .aload_n 0, 1), (46, .getfield 25, 3), (49, .iconst (-1), 1), (50, .if_icmp .eq 4, 3), (53, .return_, 1), (54, .aload_n 0, 1), (55, .getfield 31, 3), (58, .lload 6, 2), (60, .iload_n 3, 1), (61, .invokevirtual 277, 3), (64, .lstore 8, 2), (66, .aload_n 0, 1), (67, .getfield 31, 3), (70, .getfield 280, 3), (73, .ifCond .eq 14, 3), (76, .aload_n 0, 1), (77, .iconst 1, 1), (78, .invokestatic 182, 3), (81, .lload 4, 2), (83, .invokevirtual 155, 3), (86, .return_, 1), (87, .aload_n 0, 1), (88, .iload_n 1, 1), (89, .iload_n 2, 1), (90, .iconst 4, 1), (91, .if_icmp .ge 12, 3), (94, .lload 8, 2), (96, .iload_n 3, 1), (97, .invokestatic 284, 3), (100, .goto 5, 3), (103, .lload 8, 2), (105, .invokevirtual 207, 3), (108, .return_, 1)]
theorem da_X6_loadRegister : dkL cX6_loadRegister dl_X6_loadRegister = true := by decide +kernel
def f_X6_loadRegister_b105 (s0 : Int64) (s1 : Int32) (u : St) : Option (St) := (f_X6_putRd s1 s0 u).bind (fun y11 => some y11)
set_option maxRecDepth 100000 in
set_option maxHeartbeats 4000000 in
theorem b_X6_loadRegister_b105 {p : Program} {l : Launch} {e : Env} {s : State} {m : MethodId} {args : Array Value} {below : List Frame} {meth : Method} {c : Code} {D : va_G} {cy : ClassId × ClassId × ClassId} {ad : Nat → Nat} {A : Nat → Prop} (E : CallFix p m c cX6_loadRegister 10 s args gw RX6) (hr : meth.sig.returnType = none) (hlk : meth.locks = false) {s0 : Int64} {s1 : Int32} {u : St} {u' : St} (h : f_X6_loadRegister_b105 s0 s1 u = some u') {ls : Array Slot} {H : Heap} {locs : List Loc} {rr : Nat → Nat} (hl : lv_has ls 10 []) (w : WX (wC cy ad) D cy rr u A s H locs) : Wx (wC cy ad) D p l e 3 87 0 s m args below meth c A u' none H locs 0 105 ls [.long s0, .int s1, .ref (ad 18)] := by
  have hx := E.1
  have hb := E.2.1
  have hown := E.2.2.2.1
  have hts := E.2.2.2.2
  obtain ⟨y11, hy12, h⟩ := ob h
  refine cV0 E (c_X6_putRd l D cy ad _ _ _ hy12) w_820 w_822 w_p18 w_9 w_823 rfl hd_X6_putRd rfl hl.1 rfl (Nat.le_of_ble_eq_true rfl) ⟨Nat.le_of_ble_eq_true rfl, Nat.le_of_ble_eq_true rfl⟩ (by decide) w (rc_wC_18 w) (dq da_X6_loadRegister 61 rfl) (fun H locs rr w => ?_)
  exact xret_v E hr hlk w (by decide) (os h) (dq da_X6_loadRegister 62 rfl)
def f_X6_loadRegister (x1 : Int32) (u : St) : Option (St) := if (f_X6_f x1) = (7 : Int32) then (some (f_X6_illegal u)) else ((f_X6_a x1 u).bind (fun y2 => (f_X6_reached (y2 + (x1 >>> ((20 : Int32) &&& 31)).toInt64) ((1 : Int32) <<< (((f_X6_f x1) &&& (3 : Int32)) &&& 31)) (1 : Int32) u).bind (fun y4 => if (gI y4.2 18) = (-1 : Int32) then ((f_X1_read y4.1 ((1 : Int32) <<< (((f_X6_f x1) &&& (3 : Int32)) &&& 31)) y4.2).bind (fun y7 => if (gI y7.2 3) = (0 : Int32) then (if (4 : Int32) ≤ (f_X6_f x1) then (f_X6_loadRegister_b105 y7.1 x1 y7.2) else (f_X6_loadRegister_b105 (f_X0_signed y7.1 ((1 : Int32) <<< (((f_X6_f x1) &&& (3 : Int32)) &&& 31))) x1 y7.2)) else (some (f_X6_fail (f_X9_accessFault (1 : Int32)) (y2 + (x1 >>> ((20 : Int32) &&& 31)).toInt64) y7.2)))) else (some y4.2))))
set_option maxRecDepth 100000 in
set_option maxHeartbeats 4000000 in
theorem c_X6_loadRegister (l : Launch) (D : va_G) (cy : ClassId × ClassId × ClassId) (ad : Nat → Nat) (x1 : Int32) (u : St) {u' : St} (h : f_X6_loadRegister x1 u = some u') : MX (wC cy ad) D cy l yX6_loadRegister cX6_loadRegister 10 (none) 3 87 0 [.ref (ad 18), .int x1] u u' none := by
  refine entX (by decide +kernel) (Nat.le_of_ble_eq_true rfl) ?_
  intro p e s m args below meth c ls rr A E hr hlk hl w
  have hl : lv_has ls 10 [(0, .ref (ad 18)), (1, .int x1)] := hl
  have hx := E.1
  have hb := E.2.1
  have hown := E.2.2.2.1
  have hts := E.2.2.2.2
  refine lv_iload_n hx hb (dq da_X6_loadRegister 0 rfl) rfl (lv_at hl 1 rfl) ?_
  refine callP E (c_X6_f l _ ) w_836 w_837 w_9 w_838 hd_X6_f rfl hl.1 rfl (Nat.le_of_ble_eq_true rfl) ⟨Nat.le_of_ble_eq_true rfl, Nat.le_of_ble_eq_true rfl⟩ (by decide) (dq da_X6_loadRegister 1 rfl) ?_
  refine lv_istore_n (lv' := [(2, .int (f_X6_f x1)), (0, .ref (ad 18)), (1, .int x1)]) hx hb (dq da_X6_loadRegister 2 rfl) rfl hl (by decide) rfl (fun ls hl => ?_)
  refine lv_iload_n hx hb (dq da_X6_loadRegister 3 rfl) rfl (lv_at hl 0 rfl) ?_
  refine lv_bipush (v := 7) hx hb (dq da_X6_loadRegister 4 rfl) rfl ?_
  refine lv_icmp_ne (tgt := 16) hx hb (dq da_X6_loadRegister 5 rfl) (by decide) (fun c1 => ?_) (fun c1 => ?_)
  · have h := ie c1 h
    refine lv_iconst (v := 1) hx hb (dq da_X6_loadRegister 9 rfl) rfl ?_
    refine lv_iload_n hx hb (dq da_X6_loadRegister 10 rfl) rfl (lv_at hl 0 rfl) ?_
    refine lv_iconst (v := 3) hx hb (dq da_X6_loadRegister 11 rfl) rfl ?_
    refine lv_iand hx hb (dq da_X6_loadRegister 12 rfl) ?_
    refine lv_ishl hx hb (dq da_X6_loadRegister 13 rfl) ?_
    refine lv_istore_n (lv' := [(3, .int ((1 : Int32) <<< (((f_X6_f x1) &&& (3 : Int32)) &&& 31))), (2, .int (f_X6_f x1)), (0, .ref (ad 18)), (1, .int x1)]) hx hb (dq da_X6_loadRegister 14 rfl) rfl hl (by decide) rfl (fun ls hl => ?_)
    refine lv_aload_n hx hb (dq da_X6_loadRegister 15 rfl) rfl (lv_at hl 2 rfl) ?_
    refine lv_iload_n hx hb (dq da_X6_loadRegister 16 rfl) rfl (lv_at hl 3 rfl) ?_
    obtain ⟨y2, hy3, h⟩ := ob h
    refine cV1 E (c_X6_a l D cy ad _ _ hy3) w_839 w_841 w_p21 w_9 w_842 rfl hd_X6_a rfl hl.1 rfl (Nat.le_of_ble_eq_true rfl) ⟨Nat.le_of_ble_eq_true rfl, Nat.le_of_ble_eq_true rfl⟩ (by decide) w (rc_wC_18 w) (dq da_X6_loadRegister 17 rfl) (fun H locs rr w => ?_)
    refine lv_iload_n hx hb (dq da_X6_loadRegister 18 rfl) rfl (lv_at hl 3 rfl) ?_
    refine lv_bipush (v := 20) hx hb (dq da_X6_loadRegister 19 rfl) rfl ?_
    refine lv_ishr hx hb (dq da_X6_loadRegister 20 rfl) ?_
    refine lv_i2l (v := (x1 >>> ((20 : Int32) &&& 31)).toInt64) hx hb (dq da_X6_loadRegister 21 rfl) rfl ?_
    refine lv_ladd hx hb (dq da_X6_loadRegister 22 rfl) ?_
    refine lv_lstore (lv' := [(4, .long (y2 + (x1 >>> ((20 : Int32) &&& 31)).toInt64)), (3, .int ((1 : Int32) <<< (((f_X6_f x1) &&& (3 : Int32)) &&& 31))), (2, .int (f_X6_f x1)), (0, .ref (ad 18)), (1, .int x1)]) hx hb (dq da_X6_loadRegister 23 rfl) hl (by decide) rfl (fun ls hl => ?_)
    refine lv_aload_n hx hb (dq da_X6_loadRegister 24 rfl) rfl (lv_at hl 3 rfl) ?_
    refine lv_lload hx hb (dq da_X6_loadRegister 25 rfl) (lv_at hl 0 rfl) ?_
    refine lv_iload_n hx hb (dq da_X6_loadRegister 26 rfl) rfl (lv_at hl 1 rfl) ?_
    refine lv_iconst (v := 1) hx hb (dq da_X6_loadRegister 27 rfl) rfl ?_
    obtain ⟨y4, hy5, h⟩ := ob h
    refine cV1 E (c_X6_reached l D cy ad _ _ _ _ hy5) w_706 w_708 w_p15 w_9 w_709 rfl hd_X6_reached rfl hl.1 rfl (Nat.le_of_ble_eq_true rfl) ⟨Nat.le_of_ble_eq_true rfl, Nat.le_of_ble_eq_true rfl⟩ (by decide) w (rc_wC_18 w) (dq da_X6_loadRegister 28 rfl) (fun H locs rr w => ?_)
    refine lv_lstore (lv' := [(6, .long y4.1), (4, .long (y2 + (x1 >>> ((20 : Int32) &&& 31)).toInt64)), (3, .int ((1 : Int32) <<< (((f_X6_f x1) &&& (3 : Int32)) &&& 31))), (2, .int (f_X6_f x1)), (0, .ref (ad 18)), (1, .int x1)]) hx hb (dq da_X6_loadRegister 29 rfl) hl (by decide) rfl (fun ls hl => ?_)
    refine lv_aload_n hx hb (dq da_X6_loadRegister 30 rfl) rfl (lv_at hl 4 rfl) ?_
    refine gt_wC_18_cause E w w_255 (dq da_X6_loadRegister 31 rfl) ?_
    refine lv_iconst (v := (-1)) hx hb (dq da_X6_loadRegister 32 rfl) rfl ?_
    refine lv_icmp_eq (tgt := 54) hx hb (dq da_X6_loadRegister 33 rfl) (by decide) (fun c6 => ?_) (fun c6 => ?_)
    · have h := it c6 h
      refine lv_aload_n hx hb (dq da_X6_loadRegister 35 rfl) rfl (lv_at hl 4 rfl) ?_
      refine gt_wC_18_bus E w w_245 (dq da_X6_loadRegister 36 rfl) ?_
      refine lv_lload hx hb (dq da_X6_loadRegister 37 rfl) (lv_at hl 0 rfl) ?_
      refine lv_iload_n hx hb (dq da_X6_loadRegister 38 rfl) rfl (lv_at hl 2 rfl) ?_
      obtain ⟨y7, hy8, h⟩ := ob h
      refine cV1 E (c_X1_read l D cy ad _ _ _ hy8) w_865 w_866 w_867 w_3 w_868 rfl hd_X1_read rfl hl.1 rfl (Nat.le_of_ble_eq_true rfl) ⟨Nat.le_of_ble_eq_true rfl, Nat.le_of_ble_eq_true rfl⟩ (by decide) w (rc_wC_3 w) (dq da_X6_loadRegister 39 rfl) (fun H locs rr w => ?_)
      refine lv_lstore (lv' := [(8, .long y7.1), (6, .long y4.1), (4, .long (y2 + (x1 >>> ((20 : Int32) &&& 31)).toInt64)), (3, .int ((1 : Int32) <<< (((f_X6_f x1) &&& (3 : Int32)) &&& 31))), (2, .int (f_X6_f x1)), (0, .ref (ad 18)), (1, .int x1)]) hx hb (dq da_X6_loadRegister 40 rfl) hl (by decide) rfl (fun ls hl => ?_)
      refine lv_aload_n hx hb (dq da_X6_loadRegister 41 rfl) rfl (lv_at hl 5 rfl) ?_
      refine gt_wC_18_bus E w w_245 (dq da_X6_loadRegister 42 rfl) ?_
      refine gtN_wC_3_failed E w n_14 (dq da_X6_loadRegister 43 rfl) ?_
      refine lv_if_eq (tgt := 87) hx hb (dq da_X6_loadRegister 44 rfl) (by decide) (fun c9 => ?_) (fun c9 => ?_)
      · have h := it c9 h
        refine lv_aload_n hx hb (dq da_X6_loadRegister 51 rfl) rfl (lv_at hl 5 rfl) ?_
        refine lv_iload_n hx hb (dq da_X6_loadRegister 52 rfl) rfl (lv_at hl 6 rfl) ?_
        refine lv_iload_n hx hb (dq da_X6_loadRegister 53 rfl) rfl (lv_at hl 4 rfl) ?_
        refine lv_iconst (v := 4) hx hb (dq da_X6_loadRegister 54 rfl) rfl ?_
        refine lv_icmp_ge (tgt := 103) hx hb (dq da_X6_loadRegister 55 rfl) (by decide) (fun c10 => ?_) (fun c10 => ?_)
        · have h := it c10 h
          refine lv_lload hx hb (dq da_X6_loadRegister 60 rfl) (lv_at hl 0 rfl) ?_
          exact b_X6_loadRegister_b105 E hr hlk h (lv_sub hl [] rfl) w
        · have h := ie c10 h
          refine lv_lload hx hb (dq da_X6_loadRegister 56 rfl) (lv_at hl 0 rfl) ?_
          refine lv_iload_n hx hb (dq da_X6_loadRegister 57 rfl) rfl (lv_at hl 3 rfl) ?_
          refine callP E (c_X0_signed l _ _ ) w_912 w_913 w_17 w_914 hd_X0_signed rfl hl.1 rfl (Nat.le_of_ble_eq_true rfl) ⟨Nat.le_of_ble_eq_true rfl, Nat.le_of_ble_eq_true rfl⟩ (by decide) (dq da_X6_loadRegister 58 rfl) ?_
          refine lv_goto (tgt := 105) hx hb (dq da_X6_loadRegister 59 rfl) (by decide) ?_
          exact b_X6_loadRegister_b105 E hr hlk h (lv_sub hl [] rfl) w
      · have h := ie c9 h
        refine lv_aload_n hx hb (dq da_X6_loadRegister 45 rfl) rfl (lv_at hl 5 rfl) ?_
        refine lv_iconst (v := 1) hx hb (dq da_X6_loadRegister 46 rfl) rfl ?_
        refine callP E (c_X9_accessFault l _ ) w_768 w_738 w_18 w_739 hd_X9_accessFault rfl hl.1 rfl (Nat.le_of_ble_eq_true rfl) ⟨Nat.le_of_ble_eq_true rfl, Nat.le_of_ble_eq_true rfl⟩ (by decide) (dq da_X6_loadRegister 47 rfl) ?_
        refine lv_lload hx hb (dq da_X6_loadRegister 48 rfl) (lv_at hl 2 rfl) ?_
        refine cV0 E (c_X6_fail l D cy ad _ _ _ ) w_710 w_712 w_p16 w_9 w_713 rfl hd_X6_fail rfl hl.1 rfl (Nat.le_of_ble_eq_true rfl) ⟨Nat.le_of_ble_eq_true rfl, Nat.le_of_ble_eq_true rfl⟩ (by decide) w (rc_wC_18 w) (dq da_X6_loadRegister 49 rfl) (fun H locs rr w => ?_)
        exact xret_v E hr hlk w (by decide) (os h) (dq da_X6_loadRegister 50 rfl)
    · have h := ie c6 h
      exact xret_v E hr hlk w (by decide) (os h) (dq da_X6_loadRegister 34 rfl)
  · have h := it c1 h
    refine lv_aload_n hx hb (dq da_X6_loadRegister 6 rfl) rfl (lv_at hl 1 rfl) ?_
    refine cV0 E (c_X6_illegal l D cy ad _ ) w_844 w_846 w_p22 w_9 w_847 rfl hd_X6_illegal rfl hl.1 rfl (Nat.le_of_ble_eq_true rfl) ⟨Nat.le_of_ble_eq_true rfl, Nat.le_of_ble_eq_true rfl⟩ (by decide) w (rc_wC_18 w) (dq da_X6_loadRegister 7 rfl) (fun H locs rr w => ?_)
    exact xret_v E hr hlk w (by decide) (os h) (dq da_X6_loadRegister 8 rfl)
def dl_X6_computeWithConstant : List (Nat × Instr × Nat) := [(0, .iload_n 1, 1), (1, .invokestatic 246, 3), (4, .istore_n 2, 1), (5, .iload_n 1, 1), (6, .bipush 26, 2), (8, .iushr, 1), (9, .istore_n 3, 1), (10, .iload_n 2, 1), (11, .iconst 1, 1), (12, .if_icmp .eq 8, 3), (15, .iload_n 2, 1), (16, .iconst 5, 1), (17, .if_icmp .ne 7, 3), (20, .iconst 1, 1), (21, .goto 4, 3), (24, .iconst 0, 1), (25, .istore 4, 2), (27, .iload 4, 2), (29, .ifCond .eq 23, 3), (32, .iload_n 3, 1), (33, .ifCond .eq 19, 3), (36, .iload_n 2, 1), (37, .iconst 5, 1), (38, .if_icmp .ne 9, 3), (41, .iload_n 3, 1), (42, .bipush 16, 2), (44, .if_icmp .eq 8, 3), (47, .aload_n 0, 1), (48, .invokevirtual 255, 3), (51, .return_, 1), (52, .aload_n 0, 1), (53, .iload_n 1, 1), (54, .iload_n 2, 1), (55, .aload_n 0, 1), (56, .iload_n 1, 1), (57, .invokevirtual 259, 3), (60, .iload_n 1, 1), (61, .bipush 20, 2), (63, .ishr, 1), (64, .i2l, 1), (65, .iload 4, 2), (67, .ifCond .eq 13, 3), (70, .iload_n 3, 1), (71, .bipush 16, 2), (73, .if_icmp .ne 7, 3), (76, .iconst 1, 1), (77, .goto 4, 3), (80, .iconst 0, 1), (81, .invokestatic 291, 3), (84, .invokevirtual 207, 3), (87, .return_, 1)]
theorem da_X6_computeWithConstant : dkL cX6_computeWithConstant dl_X6_computeWithConstant = true := by decide +kernel
def f_X6_computeWithConstant_b81 (s0 : Int32) (s1 : Int64) (s2 : Int64) (s3 : Int32) (s4 : Int32) (u : St) : Option (St) := (f_X6_putRd s4 (f_X0_plain s3 s2 s1 s0) u).bind (fun y6 => some y6)
set_option maxRecDepth 100000 in
set_option maxHeartbeats 4000000 in
theorem b_X6_computeWithConstant_b81 {p : Program} {l : Launch} {e : Env} {s : State} {m : MethodId} {args : Array Value} {below : List Frame} {meth : Method} {c : Code} {D : va_G} {cy : ClassId × ClassId × ClassId} {ad : Nat → Nat} {A : Nat → Prop} (E : CallFix p m c cX6_computeWithConstant 5 s args gw RX6) (hr : meth.sig.returnType = none) (hlk : meth.locks = false) {s0 : Int32} {s1 : Int64} {s2 : Int64} {s3 : Int32} {s4 : Int32} {u : St} {u' : St} (h : f_X6_computeWithConstant_b81 s0 s1 s2 s3 s4 u = some u') {ls : Array Slot} {H : Heap} {locs : List Loc} {rr : Nat → Nat} (hl : lv_has ls 5 []) (w : WX (wC cy ad) D cy rr u A s H locs) : Wx (wC cy ad) D p l e 2 48 0 s m args below meth c A u' none H locs 0 81 ls [.int s0, .long s1, .long s2, .int s3, .int s4, .ref (ad 18)] := by
  have hx := E.1
  have hb := E.2.1
  have hown := E.2.2.2.1
  have hts := E.2.2.2.2
  refine callP E (c_X0_plain l _ _ _ _ ) w_945 w_946 w_17 w_947 hd_X0_plain rfl hl.1 rfl (Nat.le_of_ble_eq_true rfl) ⟨Nat.le_of_ble_eq_true rfl, Nat.le_of_ble_eq_true rfl⟩ (by decide) (dq da_X6_computeWithConstant 48 rfl) ?_
  obtain ⟨y6, hy7, h⟩ := ob h
  refine cV0 E (c_X6_putRd l D cy ad _ _ _ hy7) w_820 w_822 w_p18 w_9 w_823 rfl hd_X6_putRd rfl hl.1 rfl (Nat.le_of_ble_eq_true rfl) ⟨Nat.le_of_ble_eq_true rfl, Nat.le_of_ble_eq_true rfl⟩ (by decide) w (rc_wC_18 w) (dq da_X6_computeWithConstant 49 rfl) (fun H locs rr w => ?_)
  exact xret_v E hr hlk w (by decide) (os h) (dq da_X6_computeWithConstant 50 rfl)
def f_X6_computeWithConstant_b80 (s0 : Int64) (s1 : Int64) (s2 : Int32) (s3 : Int32) (u : St) : Option (St) := f_X6_computeWithConstant_b81 (0 : Int32) s0 s1 s2 s3 u
set_option maxRecDepth 100000 in
set_option maxHeartbeats 4000000 in
theorem b_X6_computeWithConstant_b80 {p : Program} {l : Launch} {e : Env} {s : State} {m : MethodId} {args : Array Value} {below : List Frame} {meth : Method} {c : Code} {D : va_G} {cy : ClassId × ClassId × ClassId} {ad : Nat → Nat} {A : Nat → Prop} (E : CallFix p m c cX6_computeWithConstant 5 s args gw RX6) (hr : meth.sig.returnType = none) (hlk : meth.locks = false) {s0 : Int64} {s1 : Int64} {s2 : Int32} {s3 : Int32} {u : St} {u' : St} (h : f_X6_computeWithConstant_b80 s0 s1 s2 s3 u = some u') {ls : Array Slot} {H : Heap} {locs : List Loc} {rr : Nat → Nat} (hl : lv_has ls 5 []) (w : WX (wC cy ad) D cy rr u A s H locs) : Wx (wC cy ad) D p l e 2 48 0 s m args below meth c A u' none H locs 0 80 ls [.long s0, .long s1, .int s2, .int s3, .ref (ad 18)] := by
  have hx := E.1
  have hb := E.2.1
  have hown := E.2.2.2.1
  have hts := E.2.2.2.2
  refine lv_iconst (v := 0) hx hb (dq da_X6_computeWithConstant 47 rfl) rfl ?_
  exact b_X6_computeWithConstant_b81 E hr hlk h (lv_sub hl [] rfl) w
def f_X6_computeWithConstant_b52 (x1 : Int32) (x2 : Int32) (x3 : Int32) (x4 : Int32) (u : St) : Option (St) := (f_X6_a x1 u).bind (fun y3 => if x4 = (0 : Int32) then (f_X6_computeWithConstant_b80 ((x1 >>> ((20 : Int32) &&& 31)).toInt64) y3 x2 x1 u) else (if x3 = (16 : Int32) then (f_X6_computeWithConstant_b81 (1 : Int32) ((x1 >>> ((20 : Int32) &&& 31)).toInt64) y3 x2 x1 u) else (f_X6_computeWithConstant_b80 ((x1 >>> ((20 : Int32) &&& 31)).toInt64) y3 x2 x1 u)))
set_option maxRecDepth 100000 in
set_option maxHeartbeats 4000000 in
theorem b_X6_computeWithConstant_b52 {p : Program} {l : Launch} {e : Env} {s : State} {m : MethodId} {args : Array Value} {below : List Frame} {meth : Method} {c : Code} {D : va_G} {cy : ClassId × ClassId × ClassId} {ad : Nat → Nat} {A : Nat → Prop} (E : CallFix p m c cX6_computeWithConstant 5 s args gw RX6) (hr : meth.sig.returnType = none) (hlk : meth.locks = false) {x1 : Int32} {x2 : Int32} {x3 : Int32} {x4 : Int32} {u : St} {u' : St} (h : f_X6_computeWithConstant_b52 x1 x2 x3 x4 u = some u') {ls : Array Slot} {H : Heap} {locs : List Loc} {rr : Nat → Nat} (hl : lv_has ls 5 [(0, .ref (ad 18)), (1, .int x1), (2, .int x2), (3, .int x3), (4, .int x4)]) (w : WX (wC cy ad) D cy rr u A s H locs) : Wx (wC cy ad) D p l e 2 48 0 s m args below meth c A u' none H locs 0 52 ls [] := by
  have hx := E.1
  have hb := E.2.1
  have hown := E.2.2.2.1
  have hts := E.2.2.2.2
  refine lv_aload_n hx hb (dq da_X6_computeWithConstant 30 rfl) rfl (lv_at hl 0 rfl) ?_
  refine lv_iload_n hx hb (dq da_X6_computeWithConstant 31 rfl) rfl (lv_at hl 1 rfl) ?_
  refine lv_iload_n hx hb (dq da_X6_computeWithConstant 32 rfl) rfl (lv_at hl 2 rfl) ?_
  refine lv_aload_n hx hb (dq da_X6_computeWithConstant 33 rfl) rfl (lv_at hl 0 rfl) ?_
  refine lv_iload_n hx hb (dq da_X6_computeWithConstant 34 rfl) rfl (lv_at hl 1 rfl) ?_
  obtain ⟨y3, hy4, h⟩ := ob h
  refine cV1 E (c_X6_a l D cy ad _ _ hy4) w_839 w_841 w_p21 w_9 w_842 rfl hd_X6_a rfl hl.1 rfl (Nat.le_of_ble_eq_true rfl) ⟨Nat.le_of_ble_eq_true rfl, Nat.le_of_ble_eq_true rfl⟩ (by decide) w (rc_wC_18 w) (dq da_X6_computeWithConstant 35 rfl) (fun H locs rr w => ?_)
  refine lv_iload_n hx hb (dq da_X6_computeWithConstant 36 rfl) rfl (lv_at hl 1 rfl) ?_
  refine lv_bipush (v := 20) hx hb (dq da_X6_computeWithConstant 37 rfl) rfl ?_
  refine lv_ishr hx hb (dq da_X6_computeWithConstant 38 rfl) ?_
  refine lv_i2l (v := (x1 >>> ((20 : Int32) &&& 31)).toInt64) hx hb (dq da_X6_computeWithConstant 39 rfl) rfl ?_
  refine lv_iload hx hb (dq da_X6_computeWithConstant 40 rfl) (lv_at hl 4 rfl) ?_
  refine lv_if_eq (tgt := 80) hx hb (dq da_X6_computeWithConstant 41 rfl) (by decide) (fun c5 => ?_) (fun c5 => ?_)
  · have h := it c5 h
    exact b_X6_computeWithConstant_b80 E hr hlk h (lv_sub hl [] rfl) w
  · have h := ie c5 h
    refine lv_iload_n hx hb (dq da_X6_computeWithConstant 42 rfl) rfl (lv_at hl 3 rfl) ?_
    refine lv_bipush (v := 16) hx hb (dq da_X6_computeWithConstant 43 rfl) rfl ?_
    refine lv_icmp_ne (tgt := 80) hx hb (dq da_X6_computeWithConstant 44 rfl) (by decide) (fun c8 => ?_) (fun c8 => ?_)
    · have h := ie c8 h
      exact b_X6_computeWithConstant_b80 E hr hlk h (lv_sub hl [] rfl) w
    · have h := it c8 h
      refine lv_iconst (v := 1) hx hb (dq da_X6_computeWithConstant 45 rfl) rfl ?_
      refine lv_goto (tgt := 81) hx hb (dq da_X6_computeWithConstant 46 rfl) (by decide) ?_
      exact b_X6_computeWithConstant_b81 E hr hlk h (lv_sub hl [] rfl) w
def f_X6_computeWithConstant_b47 (u : St) : Option (St) := some (f_X6_illegal u)
set_option maxRecDepth 100000 in
set_option maxHeartbeats 4000000 in
theorem b_X6_computeWithConstant_b47 {p : Program} {l : Launch} {e : Env} {s : State} {m : MethodId} {args : Array Value} {below : List Frame} {meth : Method} {c : Code} {D : va_G} {cy : ClassId × ClassId × ClassId} {ad : Nat → Nat} {A : Nat → Prop} (E : CallFix p m c cX6_computeWithConstant 5 s args gw RX6) (hr : meth.sig.returnType = none) (hlk : meth.locks = false) {u : St} {u' : St} (h : f_X6_computeWithConstant_b47 u = some u') {ls : Array Slot} {H : Heap} {locs : List Loc} {rr : Nat → Nat} (hl : lv_has ls 5 [(0, .ref (ad 18))]) (w : WX (wC cy ad) D cy rr u A s H locs) : Wx (wC cy ad) D p l e 2 48 0 s m args below meth c A u' none H locs 0 47 ls [] := by
  have hx := E.1
  have hb := E.2.1
  have hown := E.2.2.2.1
  have hts := E.2.2.2.2
  refine lv_aload_n hx hb (dq da_X6_computeWithConstant 27 rfl) rfl (lv_at hl 0 rfl) ?_
  refine cV0 E (c_X6_illegal l D cy ad _ ) w_844 w_846 w_p22 w_9 w_847 rfl hd_X6_illegal rfl hl.1 rfl (Nat.le_of_ble_eq_true rfl) ⟨Nat.le_of_ble_eq_true rfl, Nat.le_of_ble_eq_true rfl⟩ (by decide) w (rc_wC_18 w) (dq da_X6_computeWithConstant 28 rfl) (fun H locs rr w => ?_)
  exact xret_v E hr hlk w (by decide) (os h) (dq da_X6_computeWithConstant 29 rfl)
def f_X6_computeWithConstant_b25 (x1 : Int32) (x2 : Int32) (x3 : Int32) (s0 : Int32) (u : St) : Option (St) := if s0 = (0 : Int32) then (f_X6_computeWithConstant_b52 x1 x2 x3 s0 u) else (if x3 = (0 : Int32) then (f_X6_computeWithConstant_b52 x1 x2 x3 s0 u) else (if x2 = (5 : Int32) then (if x3 = (16 : Int32) then (f_X6_computeWithConstant_b52 x1 x2 x3 s0 u) else (f_X6_computeWithConstant_b47 u)) else (f_X6_computeWithConstant_b47 u)))
set_option maxRecDepth 100000 in
set_option maxHeartbeats 4000000 in
theorem b_X6_computeWithConstant_b25 {p : Program} {l : Launch} {e : Env} {s : State} {m : MethodId} {args : Array Value} {below : List Frame} {meth : Method} {c : Code} {D : va_G} {cy : ClassId × ClassId × ClassId} {ad : Nat → Nat} {A : Nat → Prop} (E : CallFix p m c cX6_computeWithConstant 5 s args gw RX6) (hr : meth.sig.returnType = none) (hlk : meth.locks = false) {x1 : Int32} {x2 : Int32} {x3 : Int32} {s0 : Int32} {u : St} {u' : St} (h : f_X6_computeWithConstant_b25 x1 x2 x3 s0 u = some u') {ls : Array Slot} {H : Heap} {locs : List Loc} {rr : Nat → Nat} (hl : lv_has ls 5 [(0, .ref (ad 18)), (1, .int x1), (2, .int x2), (3, .int x3)]) (w : WX (wC cy ad) D cy rr u A s H locs) : Wx (wC cy ad) D p l e 2 48 0 s m args below meth c A u' none H locs 0 25 ls [.int s0] := by
  have hx := E.1
  have hb := E.2.1
  have hown := E.2.2.2.1
  have hts := E.2.2.2.2
  refine lv_istore (lv' := [(4, .int s0), (0, .ref (ad 18)), (1, .int x1), (2, .int x2), (3, .int x3)]) hx hb (dq da_X6_computeWithConstant 16 rfl) hl (by decide) rfl (fun ls hl => ?_)
  refine lv_iload hx hb (dq da_X6_computeWithConstant 17 rfl) (lv_at hl 0 rfl) ?_
  refine lv_if_eq (tgt := 52) hx hb (dq da_X6_computeWithConstant 18 rfl) (by decide) (fun c2 => ?_) (fun c2 => ?_)
  · have h := it c2 h
    exact b_X6_computeWithConstant_b52 E hr hlk h (lv_sub hl [1, 2, 3, 4, 0] rfl) w
  · have h := ie c2 h
    refine lv_iload_n hx hb (dq da_X6_computeWithConstant 19 rfl) rfl (lv_at hl 4 rfl) ?_
    refine lv_if_eq (tgt := 52) hx hb (dq da_X6_computeWithConstant 20 rfl) (by decide) (fun c9 => ?_) (fun c9 => ?_)
    · have h := it c9 h
      exact b_X6_computeWithConstant_b52 E hr hlk h (lv_sub hl [1, 2, 3, 4, 0] rfl) w
    · have h := ie c9 h
      refine lv_iload_n hx hb (dq da_X6_computeWithConstant 21 rfl) rfl (lv_at hl 3 rfl) ?_
      refine lv_iconst (v := 5) hx hb (dq da_X6_computeWithConstant 22 rfl) rfl ?_
      refine lv_icmp_ne (tgt := 47) hx hb (dq da_X6_computeWithConstant 23 rfl) (by decide) (fun c10 => ?_) (fun c10 => ?_)
      · have h := ie c10 h
        exact b_X6_computeWithConstant_b47 E hr hlk h (lv_sub hl [1] rfl) w
      · have h := it c10 h
        refine lv_iload_n hx hb (dq da_X6_computeWithConstant 24 rfl) rfl (lv_at hl 4 rfl) ?_
        refine lv_bipush (v := 16) hx hb (dq da_X6_computeWithConstant 25 rfl) rfl ?_
        refine lv_icmp_eq (tgt := 52) hx hb (dq da_X6_computeWithConstant 26 rfl) (by decide) (fun c11 => ?_) (fun c11 => ?_)
        · have h := it c11 h
          exact b_X6_computeWithConstant_b52 E hr hlk h (lv_sub hl [1, 2, 3, 4, 0] rfl) w
        · have h := ie c11 h
          exact b_X6_computeWithConstant_b47 E hr hlk h (lv_sub hl [1] rfl) w
def f_X6_computeWithConstant_b20 (x1 : Int32) (x2 : Int32) (x3 : Int32) (u : St) : Option (St) := f_X6_computeWithConstant_b25 x1 x2 x3 (1 : Int32) u
set_option maxRecDepth 100000 in
set_option maxHeartbeats 4000000 in
theorem b_X6_computeWithConstant_b20 {p : Program} {l : Launch} {e : Env} {s : State} {m : MethodId} {args : Array Value} {below : List Frame} {meth : Method} {c : Code} {D : va_G} {cy : ClassId × ClassId × ClassId} {ad : Nat → Nat} {A : Nat → Prop} (E : CallFix p m c cX6_computeWithConstant 5 s args gw RX6) (hr : meth.sig.returnType = none) (hlk : meth.locks = false) {x1 : Int32} {x2 : Int32} {x3 : Int32} {u : St} {u' : St} (h : f_X6_computeWithConstant_b20 x1 x2 x3 u = some u') {ls : Array Slot} {H : Heap} {locs : List Loc} {rr : Nat → Nat} (hl : lv_has ls 5 [(0, .ref (ad 18)), (1, .int x1), (2, .int x2), (3, .int x3)]) (w : WX (wC cy ad) D cy rr u A s H locs) : Wx (wC cy ad) D p l e 2 48 0 s m args below meth c A u' none H locs 0 20 ls [] := by
  have hx := E.1
  have hb := E.2.1
  have hown := E.2.2.2.1
  have hts := E.2.2.2.2
  refine lv_iconst (v := 1) hx hb (dq da_X6_computeWithConstant 13 rfl) rfl ?_
  refine lv_goto (tgt := 25) hx hb (dq da_X6_computeWithConstant 14 rfl) (by decide) ?_
  exact b_X6_computeWithConstant_b25 E hr hlk h (lv_sub hl [0, 1, 2, 3] rfl) w
def f_X6_computeWithConstant (x1 : Int32) (u : St) : Option (St) := if (f_X6_f x1) = (1 : Int32) then (f_X6_computeWithConstant_b20 x1 (f_X6_f x1) (j_iushr x1 (26 : Int32)) u) else (if (f_X6_f x1) = (5 : Int32) then (f_X6_computeWithConstant_b20 x1 (f_X6_f x1) (j_iushr x1 (26 : Int32)) u) else (f_X6_computeWithConstant_b25 x1 (f_X6_f x1) (j_iushr x1 (26 : Int32)) (0 : Int32) u))
set_option maxRecDepth 100000 in
set_option maxHeartbeats 4000000 in
theorem c_X6_computeWithConstant (l : Launch) (D : va_G) (cy : ClassId × ClassId × ClassId) (ad : Nat → Nat) (x1 : Int32) (u : St) {u' : St} (h : f_X6_computeWithConstant x1 u = some u') : MX (wC cy ad) D cy l yX6_computeWithConstant cX6_computeWithConstant 5 (none) 2 48 0 [.ref (ad 18), .int x1] u u' none := by
  refine entX (by decide +kernel) (Nat.le_of_ble_eq_true rfl) ?_
  intro p e s m args below meth c ls rr A E hr hlk hl w
  have hl : lv_has ls 5 [(0, .ref (ad 18)), (1, .int x1)] := hl
  have hx := E.1
  have hb := E.2.1
  have hown := E.2.2.2.1
  have hts := E.2.2.2.2
  refine lv_iload_n hx hb (dq da_X6_computeWithConstant 0 rfl) rfl (lv_at hl 1 rfl) ?_
  refine callP E (c_X6_f l _ ) w_836 w_837 w_9 w_838 hd_X6_f rfl hl.1 rfl (Nat.le_of_ble_eq_true rfl) ⟨Nat.le_of_ble_eq_true rfl, Nat.le_of_ble_eq_true rfl⟩ (by decide) (dq da_X6_computeWithConstant 1 rfl) ?_
  refine lv_istore_n (lv' := [(2, .int (f_X6_f x1)), (0, .ref (ad 18)), (1, .int x1)]) hx hb (dq da_X6_computeWithConstant 2 rfl) rfl hl (by decide) rfl (fun ls hl => ?_)
  refine lv_iload_n hx hb (dq da_X6_computeWithConstant 3 rfl) rfl (lv_at hl 2 rfl) ?_
  refine lv_bipush (v := 26) hx hb (dq da_X6_computeWithConstant 4 rfl) rfl ?_
  refine lv_iushr (v := (j_iushr x1 (26 : Int32))) hx hb (dq da_X6_computeWithConstant 5 rfl) rfl ?_
  refine lv_istore_n (lv' := [(3, .int (j_iushr x1 (26 : Int32))), (2, .int (f_X6_f x1)), (0, .ref (ad 18)), (1, .int x1)]) hx hb (dq da_X6_computeWithConstant 6 rfl) rfl hl (by decide) rfl (fun ls hl => ?_)
  refine lv_iload_n hx hb (dq da_X6_computeWithConstant 7 rfl) rfl (lv_at hl 1 rfl) ?_
  refine lv_iconst (v := 1) hx hb (dq da_X6_computeWithConstant 8 rfl) rfl ?_
  refine lv_icmp_eq (tgt := 20) hx hb (dq da_X6_computeWithConstant 9 rfl) (by decide) (fun c1 => ?_) (fun c1 => ?_)
  · have h := it c1 h
    exact b_X6_computeWithConstant_b20 E hr hlk h (lv_sub hl [2, 3, 1, 0] rfl) w
  · have h := ie c1 h
    refine lv_iload_n hx hb (dq da_X6_computeWithConstant 10 rfl) rfl (lv_at hl 1 rfl) ?_
    refine lv_iconst (v := 5) hx hb (dq da_X6_computeWithConstant 11 rfl) rfl ?_
    refine lv_icmp_ne (tgt := 24) hx hb (dq da_X6_computeWithConstant 12 rfl) (by decide) (fun c12 => ?_) (fun c12 => ?_)
    · have h := ie c12 h
      refine lv_iconst (v := 0) hx hb (dq da_X6_computeWithConstant 15 rfl) rfl ?_
      exact b_X6_computeWithConstant_b25 E hr hlk h (lv_sub hl [2, 3, 1, 0] rfl) w
    · have h := it c12 h
      exact b_X6_computeWithConstant_b20 E hr hlk h (lv_sub hl [2, 3, 1, 0] rfl) w
def dl_X6_computeNarrowWithConstant : List (Nat × Instr × Nat) := [(0, .iload_n 1, 1), (1, .invokestatic 246, 3), (4, .istore_n 2, 1), (5, .iload_n 1, 1), (6, .bipush 25, 2), (8, .iushr, 1), (9, .istore_n 3, 1), (10, .iload_n 2, 1), (11, .ifCond .eq 27, 3), (14, .iload_n 2, 1), (15, .iconst 1, 1), (16, .if_icmp .ne 7, 3), (19, .iload_n 3, 1), (20, .ifCond .eq 18, 3), (23, .iload_n 2, 1), (24, .iconst 5, 1), (25, .if_icmp .ne 17, 3), (28, .iload_n 3, 1), (29, .ifCond .eq 9, 3), (32, .iload_n 3, 1), (33, .bipush 32, 2), (35, .if_icmp .ne 7, 3), (38, .iconst 1, 1), (39, .goto 4, 3), (42, .iconst 0, 1), (43, .istore 4, 2), (45, .iload 4, 2), (47, .ifCond .ne 8, 3), (50, .aload_n 0, 1), (51, .invokevirtual 255, 3), (54, .return_, 1), (55, .aload_n 0, 1), (56, .iload_n 1, 1), (57, .iload_n 2, 1), (58, .aload_n 0, 1), (59, .iload_n 1, 1), (60, .invokevirtual 259, 3), (63, .l2i, 1), (64, .iload_n 1, 1), (65, .bipush 20, 2), (67, .ishr, 1), (68, .iload_n 2, 1), (69, .iconst 5, 1), (70, .if_icmp .ne 13, 3), (73, .iload_n 3, 1), (74, .bipush 32, 2), (76, .if_icmp .ne 7, 3), (79, .iconst 1, 1), (80, .goto 4, 3), (83, .iconst 0, 1), (84, .invokestatic 295, 3), (87, .invokevirtual 207, 3), (90, .return_, 1)]
theorem da_X6_computeNarrowWithConstant : dkL cX6_computeNarrowWithConstant dl_X6_computeNarrowWithConstant = true := by decide +kernel
def f_X6_computeNarrowWithConstant_b84 (s0 : Int32) (s1 : Int32) (s2 : Int32) (s3 : Int32) (s4 : Int32) (u : St) : Option (St) := (f_X6_putRd s4 (f_X0_narrow s3 s2 s1 s0) u).bind (fun y6 => some y6)
set_option maxRecDepth 100000 in
set_option maxHeartbeats 4000000 in
theorem b_X6_computeNarrowWithConstant_b84 {p : Program} {l : Launch} {e : Env} {s : State} {m : MethodId} {args : Array Value} {below : List Frame} {meth : Method} {c : Code} {D : va_G} {cy : ClassId × ClassId × ClassId} {ad : Nat → Nat} {A : Nat → Prop} (E : CallFix p m c cX6_computeNarrowWithConstant 5 s args gw RX6) (hr : meth.sig.returnType = none) (hlk : meth.locks = false) {s0 : Int32} {s1 : Int32} {s2 : Int32} {s3 : Int32} {s4 : Int32} {u : St} {u' : St} (h : f_X6_computeNarrowWithConstant_b84 s0 s1 s2 s3 s4 u = some u') {ls : Array Slot} {H : Heap} {locs : List Loc} {rr : Nat → Nat} (hl : lv_has ls 5 []) (w : WX (wC cy ad) D cy rr u A s H locs) : Wx (wC cy ad) D p l e 2 43 0 s m args below meth c A u' none H locs 0 84 ls [.int s0, .int s1, .int s2, .int s3, .int s4, .ref (ad 18)] := by
  have hx := E.1
  have hb := E.2.1
  have hown := E.2.2.2.1
  have hts := E.2.2.2.2
  refine callP E (c_X0_narrow l _ _ _ _ ) w_954 w_955 w_17 w_956 hd_X0_narrow rfl hl.1 rfl (Nat.le_of_ble_eq_true rfl) ⟨Nat.le_of_ble_eq_true rfl, Nat.le_of_ble_eq_true rfl⟩ (by decide) (dq da_X6_computeNarrowWithConstant 50 rfl) ?_
  obtain ⟨y6, hy7, h⟩ := ob h
  refine cV0 E (c_X6_putRd l D cy ad _ _ _ hy7) w_820 w_822 w_p18 w_9 w_823 rfl hd_X6_putRd rfl hl.1 rfl (Nat.le_of_ble_eq_true rfl) ⟨Nat.le_of_ble_eq_true rfl, Nat.le_of_ble_eq_true rfl⟩ (by decide) w (rc_wC_18 w) (dq da_X6_computeNarrowWithConstant 51 rfl) (fun H locs rr w => ?_)
  exact xret_v E hr hlk w (by decide) (os h) (dq da_X6_computeNarrowWithConstant 52 rfl)
def f_X6_computeNarrowWithConstant_b83 (s0 : Int32) (s1 : Int32) (s2 : Int32) (s3 : Int32) (u : St) : Option (St) := f_X6_computeNarrowWithConstant_b84 (0 : Int32) s0 s1 s2 s3 u
set_option maxRecDepth 100000 in
set_option maxHeartbeats 4000000 in
theorem b_X6_computeNarrowWithConstant_b83 {p : Program} {l : Launch} {e : Env} {s : State} {m : MethodId} {args : Array Value} {below : List Frame} {meth : Method} {c : Code} {D : va_G} {cy : ClassId × ClassId × ClassId} {ad : Nat → Nat} {A : Nat → Prop} (E : CallFix p m c cX6_computeNarrowWithConstant 5 s args gw RX6) (hr : meth.sig.returnType = none) (hlk : meth.locks = false) {s0 : Int32} {s1 : Int32} {s2 : Int32} {s3 : Int32} {u : St} {u' : St} (h : f_X6_computeNarrowWithConstant_b83 s0 s1 s2 s3 u = some u') {ls : Array Slot} {H : Heap} {locs : List Loc} {rr : Nat → Nat} (hl : lv_has ls 5 []) (w : WX (wC cy ad) D cy rr u A s H locs) : Wx (wC cy ad) D p l e 2 43 0 s m args below meth c A u' none H locs 0 83 ls [.int s0, .int s1, .int s2, .int s3, .ref (ad 18)] := by
  have hx := E.1
  have hb := E.2.1
  have hown := E.2.2.2.1
  have hts := E.2.2.2.2
  refine lv_iconst (v := 0) hx hb (dq da_X6_computeNarrowWithConstant 49 rfl) rfl ?_
  exact b_X6_computeNarrowWithConstant_b84 E hr hlk h (lv_sub hl [] rfl) w
def f_X6_computeNarrowWithConstant_b43 (x1 : Int32) (x2 : Int32) (x3 : Int32) (s0 : Int32) (u : St) : Option (St) := if s0 = (0 : Int32) then (some (f_X6_illegal u)) else ((f_X6_a x1 u).bind (fun y3 => if x2 = (5 : Int32) then (if x3 = (32 : Int32) then (f_X6_computeNarrowWithConstant_b84 (1 : Int32) (x1 >>> ((20 : Int32) &&& 31)) y3.toInt32 x2 x1 u) else (f_X6_computeNarrowWithConstant_b83 (x1 >>> ((20 : Int32) &&& 31)) y3.toInt32 x2 x1 u)) else (f_X6_computeNarrowWithConstant_b83 (x1 >>> ((20 : Int32) &&& 31)) y3.toInt32 x2 x1 u)))
set_option maxRecDepth 100000 in
set_option maxHeartbeats 4000000 in
theorem b_X6_computeNarrowWithConstant_b43 {p : Program} {l : Launch} {e : Env} {s : State} {m : MethodId} {args : Array Value} {below : List Frame} {meth : Method} {c : Code} {D : va_G} {cy : ClassId × ClassId × ClassId} {ad : Nat → Nat} {A : Nat → Prop} (E : CallFix p m c cX6_computeNarrowWithConstant 5 s args gw RX6) (hr : meth.sig.returnType = none) (hlk : meth.locks = false) {x1 : Int32} {x2 : Int32} {x3 : Int32} {s0 : Int32} {u : St} {u' : St} (h : f_X6_computeNarrowWithConstant_b43 x1 x2 x3 s0 u = some u') {ls : Array Slot} {H : Heap} {locs : List Loc} {rr : Nat → Nat} (hl : lv_has ls 5 [(0, .ref (ad 18)), (1, .int x1), (2, .int x2), (3, .int x3)]) (w : WX (wC cy ad) D cy rr u A s H locs) : Wx (wC cy ad) D p l e 2 43 0 s m args below meth c A u' none H locs 0 43 ls [.int s0] := by
  have hx := E.1
  have hb := E.2.1
  have hown := E.2.2.2.1
  have hts := E.2.2.2.2
  refine lv_istore (lv' := [(4, .int s0), (0, .ref (ad 18)), (1, .int x1), (2, .int x2), (3, .int x3)]) hx hb (dq da_X6_computeNarrowWithConstant 25 rfl) hl (by decide) rfl (fun ls hl => ?_)
  refine lv_iload hx hb (dq da_X6_computeNarrowWithConstant 26 rfl) (lv_at hl 0 rfl) ?_
  refine lv_if_ne (tgt := 55) hx hb (dq da_X6_computeNarrowWithConstant 27 rfl) (by decide) (fun c2 => ?_) (fun c2 => ?_)
  · have h := ie c2 h
    refine lv_aload_n hx hb (dq da_X6_computeNarrowWithConstant 31 rfl) rfl (lv_at hl 1 rfl) ?_
    refine lv_iload_n hx hb (dq da_X6_computeNarrowWithConstant 32 rfl) rfl (lv_at hl 2 rfl) ?_
    refine lv_iload_n hx hb (dq da_X6_computeNarrowWithConstant 33 rfl) rfl (lv_at hl 3 rfl) ?_
    refine lv_aload_n hx hb (dq da_X6_computeNarrowWithConstant 34 rfl) rfl (lv_at hl 1 rfl) ?_
    refine lv_iload_n hx hb (dq da_X6_computeNarrowWithConstant 35 rfl) rfl (lv_at hl 2 rfl) ?_
    obtain ⟨y3, hy4, h⟩ := ob h
    refine cV1 E (c_X6_a l D cy ad _ _ hy4) w_839 w_841 w_p21 w_9 w_842 rfl hd_X6_a rfl hl.1 rfl (Nat.le_of_ble_eq_true rfl) ⟨Nat.le_of_ble_eq_true rfl, Nat.le_of_ble_eq_true rfl⟩ (by decide) w (rc_wC_18 w) (dq da_X6_computeNarrowWithConstant 36 rfl) (fun H locs rr w => ?_)
    refine lv_l2i (v := y3.toInt32) hx hb (dq da_X6_computeNarrowWithConstant 37 rfl) rfl ?_
    refine lv_iload_n hx hb (dq da_X6_computeNarrowWithConstant 38 rfl) rfl (lv_at hl 2 rfl) ?_
    refine lv_bipush (v := 20) hx hb (dq da_X6_computeNarrowWithConstant 39 rfl) rfl ?_
    refine lv_ishr hx hb (dq da_X6_computeNarrowWithConstant 40 rfl) ?_
    refine lv_iload_n hx hb (dq da_X6_computeNarrowWithConstant 41 rfl) rfl (lv_at hl 3 rfl) ?_
    refine lv_iconst (v := 5) hx hb (dq da_X6_computeNarrowWithConstant 42 rfl) rfl ?_
    refine lv_icmp_ne (tgt := 83) hx hb (dq da_X6_computeNarrowWithConstant 43 rfl) (by decide) (fun c5 => ?_) (fun c5 => ?_)
    · have h := ie c5 h
      exact b_X6_computeNarrowWithConstant_b83 E hr hlk h (lv_sub hl [] rfl) w
    · have h := it c5 h
      refine lv_iload_n hx hb (dq da_X6_computeNarrowWithConstant 44 rfl) rfl (lv_at hl 4 rfl) ?_
      refine lv_bipush (v := 32) hx hb (dq da_X6_computeNarrowWithConstant 45 rfl) rfl ?_
      refine lv_icmp_ne (tgt := 83) hx hb (dq da_X6_computeNarrowWithConstant 46 rfl) (by decide) (fun c8 => ?_) (fun c8 => ?_)
      · have h := ie c8 h
        exact b_X6_computeNarrowWithConstant_b83 E hr hlk h (lv_sub hl [] rfl) w
      · have h := it c8 h
        refine lv_iconst (v := 1) hx hb (dq da_X6_computeNarrowWithConstant 47 rfl) rfl ?_
        refine lv_goto (tgt := 84) hx hb (dq da_X6_computeNarrowWithConstant 48 rfl) (by decide) ?_
        exact b_X6_computeNarrowWithConstant_b84 E hr hlk h (lv_sub hl [] rfl) w
  · have h := it c2 h
    refine lv_aload_n hx hb (dq da_X6_computeNarrowWithConstant 28 rfl) rfl (lv_at hl 1 rfl) ?_
    refine cV0 E (c_X6_illegal l D cy ad _ ) w_844 w_846 w_p22 w_9 w_847 rfl hd_X6_illegal rfl hl.1 rfl (Nat.le_of_ble_eq_true rfl) ⟨Nat.le_of_ble_eq_true rfl, Nat.le_of_ble_eq_true rfl⟩ (by decide) w (rc_wC_18 w) (dq da_X6_computeNarrowWithConstant 29 rfl) (fun H locs rr w => ?_)
    exact xret_v E hr hlk w (by decide) (os h) (dq da_X6_computeNarrowWithConstant 30 rfl)
def f_X6_computeNarrowWithConstant_b38 (x1 : Int32) (x2 : Int32) (x3 : Int32) (u : St) : Option (St) := f_X6_computeNarrowWithConstant_b43 x1 x2 x3 (1 : Int32) u
set_option maxRecDepth 100000 in
set_option maxHeartbeats 4000000 in
theorem b_X6_computeNarrowWithConstant_b38 {p : Program} {l : Launch} {e : Env} {s : State} {m : MethodId} {args : Array Value} {below : List Frame} {meth : Method} {c : Code} {D : va_G} {cy : ClassId × ClassId × ClassId} {ad : Nat → Nat} {A : Nat → Prop} (E : CallFix p m c cX6_computeNarrowWithConstant 5 s args gw RX6) (hr : meth.sig.returnType = none) (hlk : meth.locks = false) {x1 : Int32} {x2 : Int32} {x3 : Int32} {u : St} {u' : St} (h : f_X6_computeNarrowWithConstant_b38 x1 x2 x3 u = some u') {ls : Array Slot} {H : Heap} {locs : List Loc} {rr : Nat → Nat} (hl : lv_has ls 5 [(0, .ref (ad 18)), (1, .int x1), (2, .int x2), (3, .int x3)]) (w : WX (wC cy ad) D cy rr u A s H locs) : Wx (wC cy ad) D p l e 2 43 0 s m args below meth c A u' none H locs 0 38 ls [] := by
  have hx := E.1
  have hb := E.2.1
  have hown := E.2.2.2.1
  have hts := E.2.2.2.2
  refine lv_iconst (v := 1) hx hb (dq da_X6_computeNarrowWithConstant 22 rfl) rfl ?_
  refine lv_goto (tgt := 43) hx hb (dq da_X6_computeNarrowWithConstant 23 rfl) (by decide) ?_
  exact b_X6_computeNarrowWithConstant_b43 E hr hlk h (lv_sub hl [0, 1, 2, 3] rfl) w
def f_X6_computeNarrowWithConstant_b42 (x1 : Int32) (x2 : Int32) (x3 : Int32) (u : St) : Option (St) := f_X6_computeNarrowWithConstant_b43 x1 x2 x3 (0 : Int32) u
set_option maxRecDepth 100000 in
set_option maxHeartbeats 4000000 in
theorem b_X6_computeNarrowWithConstant_b42 {p : Program} {l : Launch} {e : Env} {s : State} {m : MethodId} {args : Array Value} {below : List Frame} {meth : Method} {c : Code} {D : va_G} {cy : ClassId × ClassId × ClassId} {ad : Nat → Nat} {A : Nat → Prop} (E : CallFix p m c cX6_computeNarrowWithConstant 5 s args gw RX6) (hr : meth.sig.returnType = none) (hlk : meth.locks = false) {x1 : Int32} {x2 : Int32} {x3 : Int32} {u : St} {u' : St} (h : f_X6_computeNarrowWithConstant_b42 x1 x2 x3 u = some u') {ls : Array Slot} {H : Heap} {locs : List Loc} {rr : Nat → Nat} (hl : lv_has ls 5 [(0, .ref (ad 18)), (1, .int x1), (2, .int x2), (3, .int x3)]) (w : WX (wC cy ad) D cy rr u A s H locs) : Wx (wC cy ad) D p l e 2 43 0 s m args below meth c A u' none H locs 0 42 ls [] := by
  have hx := E.1
  have hb := E.2.1
  have hown := E.2.2.2.1
  have hts := E.2.2.2.2
  refine lv_iconst (v := 0) hx hb (dq da_X6_computeNarrowWithConstant 24 rfl) rfl ?_
  exact b_X6_computeNarrowWithConstant_b43 E hr hlk h (lv_sub hl [0, 1, 2, 3] rfl) w
def f_X6_computeNarrowWithConstant_b23 (x1 : Int32) (x2 : Int32) (x3 : Int32) (u : St) : Option (St) := if x2 = (5 : Int32) then (if x3 = (0 : Int32) then (f_X6_computeNarrowWithConstant_b38 x1 x2 x3 u) else (if x3 = (32 : Int32) then (f_X6_computeNarrowWithConstant_b38 x1 x2 x3 u) else (f_X6_computeNarrowWithConstant_b42 x1 x2 x3 u))) else (f_X6_computeNarrowWithConstant_b42 x1 x2 x3 u)
set_option maxRecDepth 100000 in
set_option maxHeartbeats 4000000 in
theorem b_X6_computeNarrowWithConstant_b23 {p : Program} {l : Launch} {e : Env} {s : State} {m : MethodId} {args : Array Value} {below : List Frame} {meth : Method} {c : Code} {D : va_G} {cy : ClassId × ClassId × ClassId} {ad : Nat → Nat} {A : Nat → Prop} (E : CallFix p m c cX6_computeNarrowWithConstant 5 s args gw RX6) (hr : meth.sig.returnType = none) (hlk : meth.locks = false) {x1 : Int32} {x2 : Int32} {x3 : Int32} {u : St} {u' : St} (h : f_X6_computeNarrowWithConstant_b23 x1 x2 x3 u = some u') {ls : Array Slot} {H : Heap} {locs : List Loc} {rr : Nat → Nat} (hl : lv_has ls 5 [(0, .ref (ad 18)), (1, .int x1), (2, .int x2), (3, .int x3)]) (w : WX (wC cy ad) D cy rr u A s H locs) : Wx (wC cy ad) D p l e 2 43 0 s m args below meth c A u' none H locs 0 23 ls [] := by
  have hx := E.1
  have hb := E.2.1
  have hown := E.2.2.2.1
  have hts := E.2.2.2.2
  refine lv_iload_n hx hb (dq da_X6_computeNarrowWithConstant 14 rfl) rfl (lv_at hl 2 rfl) ?_
  refine lv_iconst (v := 5) hx hb (dq da_X6_computeNarrowWithConstant 15 rfl) rfl ?_
  refine lv_icmp_ne (tgt := 42) hx hb (dq da_X6_computeNarrowWithConstant 16 rfl) (by decide) (fun c10 => ?_) (fun c10 => ?_)
  · have h := ie c10 h
    exact b_X6_computeNarrowWithConstant_b42 E hr hlk h (lv_sub hl [0, 1, 2, 3] rfl) w
  · have h := it c10 h
    refine lv_iload_n hx hb (dq da_X6_computeNarrowWithConstant 17 rfl) rfl (lv_at hl 3 rfl) ?_
    refine lv_if_eq (tgt := 38) hx hb (dq da_X6_computeNarrowWithConstant 18 rfl) (by decide) (fun c11 => ?_) (fun c11 => ?_)
    · have h := it c11 h
      exact b_X6_computeNarrowWithConstant_b38 E hr hlk h (lv_sub hl [0, 1, 2, 3] rfl) w
    · have h := ie c11 h
      refine lv_iload_n hx hb (dq da_X6_computeNarrowWithConstant 19 rfl) rfl (lv_at hl 3 rfl) ?_
      refine lv_bipush (v := 32) hx hb (dq da_X6_computeNarrowWithConstant 20 rfl) rfl ?_
      refine lv_icmp_ne (tgt := 42) hx hb (dq da_X6_computeNarrowWithConstant 21 rfl) (by decide) (fun c12 => ?_) (fun c12 => ?_)
      · have h := ie c12 h
        exact b_X6_computeNarrowWithConstant_b42 E hr hlk h (lv_sub hl [0, 1, 2, 3] rfl) w
      · have h := it c12 h
        exact b_X6_computeNarrowWithConstant_b38 E hr hlk h (lv_sub hl [0, 1, 2, 3] rfl) w
def f_X6_computeNarrowWithConstant (x1 : Int32) (u : St) : Option (St) := if (f_X6_f x1) = (0 : Int32) then (f_X6_computeNarrowWithConstant_b38 x1 (f_X6_f x1) (j_iushr x1 (25 : Int32)) u) else (if (f_X6_f x1) = (1 : Int32) then (if (j_iushr x1 (25 : Int32)) = (0 : Int32) then (f_X6_computeNarrowWithConstant_b38 x1 (f_X6_f x1) (j_iushr x1 (25 : Int32)) u) else (f_X6_computeNarrowWithConstant_b23 x1 (f_X6_f x1) (j_iushr x1 (25 : Int32)) u)) else (f_X6_computeNarrowWithConstant_b23 x1 (f_X6_f x1) (j_iushr x1 (25 : Int32)) u))
set_option maxRecDepth 100000 in
set_option maxHeartbeats 4000000 in
theorem c_X6_computeNarrowWithConstant (l : Launch) (D : va_G) (cy : ClassId × ClassId × ClassId) (ad : Nat → Nat) (x1 : Int32) (u : St) {u' : St} (h : f_X6_computeNarrowWithConstant x1 u = some u') : MX (wC cy ad) D cy l yX6_computeNarrowWithConstant cX6_computeNarrowWithConstant 5 (none) 2 43 0 [.ref (ad 18), .int x1] u u' none := by
  refine entX (by decide +kernel) (Nat.le_of_ble_eq_true rfl) ?_
  intro p e s m args below meth c ls rr A E hr hlk hl w
  have hl : lv_has ls 5 [(0, .ref (ad 18)), (1, .int x1)] := hl
  have hx := E.1
  have hb := E.2.1
  have hown := E.2.2.2.1
  have hts := E.2.2.2.2
  refine lv_iload_n hx hb (dq da_X6_computeNarrowWithConstant 0 rfl) rfl (lv_at hl 1 rfl) ?_
  refine callP E (c_X6_f l _ ) w_836 w_837 w_9 w_838 hd_X6_f rfl hl.1 rfl (Nat.le_of_ble_eq_true rfl) ⟨Nat.le_of_ble_eq_true rfl, Nat.le_of_ble_eq_true rfl⟩ (by decide) (dq da_X6_computeNarrowWithConstant 1 rfl) ?_
  refine lv_istore_n (lv' := [(2, .int (f_X6_f x1)), (0, .ref (ad 18)), (1, .int x1)]) hx hb (dq da_X6_computeNarrowWithConstant 2 rfl) rfl hl (by decide) rfl (fun ls hl => ?_)
  refine lv_iload_n hx hb (dq da_X6_computeNarrowWithConstant 3 rfl) rfl (lv_at hl 2 rfl) ?_
  refine lv_bipush (v := 25) hx hb (dq da_X6_computeNarrowWithConstant 4 rfl) rfl ?_
  refine lv_iushr (v := (j_iushr x1 (25 : Int32))) hx hb (dq da_X6_computeNarrowWithConstant 5 rfl) rfl ?_
  refine lv_istore_n (lv' := [(3, .int (j_iushr x1 (25 : Int32))), (2, .int (f_X6_f x1)), (0, .ref (ad 18)), (1, .int x1)]) hx hb (dq da_X6_computeNarrowWithConstant 6 rfl) rfl hl (by decide) rfl (fun ls hl => ?_)
  refine lv_iload_n hx hb (dq da_X6_computeNarrowWithConstant 7 rfl) rfl (lv_at hl 1 rfl) ?_
  refine lv_if_eq (tgt := 38) hx hb (dq da_X6_computeNarrowWithConstant 8 rfl) (by decide) (fun c1 => ?_) (fun c1 => ?_)
  · have h := it c1 h
    exact b_X6_computeNarrowWithConstant_b38 E hr hlk h (lv_sub hl [2, 3, 1, 0] rfl) w
  · have h := ie c1 h
    refine lv_iload_n hx hb (dq da_X6_computeNarrowWithConstant 9 rfl) rfl (lv_at hl 1 rfl) ?_
    refine lv_iconst (v := 1) hx hb (dq da_X6_computeNarrowWithConstant 10 rfl) rfl ?_
    refine lv_icmp_ne (tgt := 23) hx hb (dq da_X6_computeNarrowWithConstant 11 rfl) (by decide) (fun c9 => ?_) (fun c9 => ?_)
    · have h := ie c9 h
      exact b_X6_computeNarrowWithConstant_b23 E hr hlk h (lv_sub hl [2, 3, 1, 0] rfl) w
    · have h := it c9 h
      refine lv_iload_n hx hb (dq da_X6_computeNarrowWithConstant 12 rfl) rfl (lv_at hl 0 rfl) ?_
      refine lv_if_eq (tgt := 38) hx hb (dq da_X6_computeNarrowWithConstant 13 rfl) (by decide) (fun c13 => ?_) (fun c13 => ?_)
      · have h := it c13 h
        exact b_X6_computeNarrowWithConstant_b38 E hr hlk h (lv_sub hl [2, 3, 1, 0] rfl) w
      · have h := ie c13 h
        exact b_X6_computeNarrowWithConstant_b23 E hr hlk h (lv_sub hl [2, 3, 1, 0] rfl) w
def dl_X6_compute : List (Nat × Instr × Nat) := [(0, .iload_n 1, 1), (1, .invokestatic 246, 3), (4, .istore_n 2, 1), (5, .iload_n 1, 1), (6, .bipush 25, 2), (8, .iushr, 1), (9, .istore_n 3, 1), (10, .iload_n 3, 1), (11, .iconst 1, 1), (12, .if_icmp .ne 25, 3), (15, .aload_n 0, 1), (16, .iload_n 1, 1), (17, .iload_n 2, 1), (18, .aload_n 0, 1), (19, .iload_n 1, 1), (20, .invokevirtual 259, 3), (23, .aload_n 0, 1), (24, .iload_n 1, 1), (25, .invokevirtual 265, 3), (28, .invokestatic 299, 3), (31, .invokevirtual 207, 3), (34, .goto 59, 3), (37, .iload_n 3, 1), (38, .ifCond .eq 18, 3), (41, .iload_n 3, 1), (42, .bipush 32, 2), (44, .if_icmp .ne 45, 3), (47, .iload_n 2, 1), (48, .ifCond .eq 8, 3), (51, .iload_n 2, 1), (52, .iconst 5, 1), (53, .if_icmp .ne 36, 3), (56, .aload_n 0, 1), (57, .iload_n 1, 1), (58, .iload_n 2, 1), (59, .aload_n 0, 1), (60, .iload_n 1, 1), (61, .invokevirtual 259, 3), (64, .aload_n 0, 1), (65, .iload_n 1, 1), (66, .invokevirtual 265, 3), (69, .iload_n 3, 1), (70, .bipush 32, 2), (72, .if_icmp .ne 7, 3), (75, .iconst 1, 1), (76, .goto 4, 3), (79, .iconst 0, 1), (80, .invokestatic 291, 3), (83, .invokevirtual 207, 3), (86, .goto 7, 3), (89, .aload_n 0, 1), (90, .invokevirtual 255, 3), (93, .return_, 1)]
theorem da_X6_compute : dkL cX6_compute dl_X6_compute = true := by decide +kernel
def f_X6_compute_b80 (s0 : Int32) (s1 : Int64) (s2 : Int64) (s3 : Int32) (s4 : Int32) (u : St) : Option (St) := (f_X6_putRd s4 (f_X0_plain s3 s2 s1 s0) u).bind (fun y8 => some y8)
set_option maxRecDepth 100000 in
set_option maxHeartbeats 4000000 in
theorem b_X6_compute_b80 {p : Program} {l : Launch} {e : Env} {s : State} {m : MethodId} {args : Array Value} {below : List Frame} {meth : Method} {c : Code} {D : va_G} {cy : ClassId × ClassId × ClassId} {ad : Nat → Nat} {A : Nat → Prop} (E : CallFix p m c cX6_compute 4 s args gw RX6) (hr : meth.sig.returnType = none) (hlk : meth.locks = false) {s0 : Int32} {s1 : Int64} {s2 : Int64} {s3 : Int32} {s4 : Int32} {u : St} {u' : St} (h : f_X6_compute_b80 s0 s1 s2 s3 s4 u = some u') {ls : Array Slot} {H : Heap} {locs : List Loc} {rr : Nat → Nat} (hl : lv_has ls 4 []) (w : WX (wC cy ad) D cy rr u A s H locs) : Wx (wC cy ad) D p l e 3 72 0 s m args below meth c A u' none H locs 0 80 ls [.int s0, .long s1, .long s2, .int s3, .int s4, .ref (ad 18)] := by
  have hx := E.1
  have hb := E.2.1
  have hown := E.2.2.2.1
  have hts := E.2.2.2.2
  refine callP E (c_X0_plain l _ _ _ _ ) w_945 w_946 w_17 w_947 hd_X0_plain rfl hl.1 rfl (Nat.le_of_ble_eq_true rfl) ⟨Nat.le_of_ble_eq_true rfl, Nat.le_of_ble_eq_true rfl⟩ (by decide) (dq da_X6_compute 47 rfl) ?_
  obtain ⟨y8, hy9, h⟩ := ob h
  refine cV0 E (c_X6_putRd l D cy ad _ _ _ hy9) w_820 w_822 w_p18 w_9 w_823 rfl hd_X6_putRd rfl hl.1 rfl (Nat.le_of_ble_eq_true rfl) ⟨Nat.le_of_ble_eq_true rfl, Nat.le_of_ble_eq_true rfl⟩ (by decide) w (rc_wC_18 w) (dq da_X6_compute 48 rfl) (fun H locs rr w => ?_)
  refine lv_goto (tgt := 93) hx hb (dq da_X6_compute 49 rfl) (by decide) ?_
  exact xret_v E hr hlk w (by decide) (os h) (dq da_X6_compute 52 rfl)
def f_X6_compute_b56 (x1 : Int32) (x2 : Int32) (x3 : Int32) (u : St) : Option (St) := (f_X6_a x1 u).bind (fun y3 => (f_X6_b x1 u).bind (fun y5 => if x3 = (32 : Int32) then (f_X6_compute_b80 (1 : Int32) y5 y3 x2 x1 u) else (f_X6_compute_b80 (0 : Int32) y5 y3 x2 x1 u)))
set_option maxRecDepth 100000 in
set_option maxHeartbeats 4000000 in
theorem b_X6_compute_b56 {p : Program} {l : Launch} {e : Env} {s : State} {m : MethodId} {args : Array Value} {below : List Frame} {meth : Method} {c : Code} {D : va_G} {cy : ClassId × ClassId × ClassId} {ad : Nat → Nat} {A : Nat → Prop} (E : CallFix p m c cX6_compute 4 s args gw RX6) (hr : meth.sig.returnType = none) (hlk : meth.locks = false) {x1 : Int32} {x2 : Int32} {x3 : Int32} {u : St} {u' : St} (h : f_X6_compute_b56 x1 x2 x3 u = some u') {ls : Array Slot} {H : Heap} {locs : List Loc} {rr : Nat → Nat} (hl : lv_has ls 4 [(0, .ref (ad 18)), (1, .int x1), (2, .int x2), (3, .int x3)]) (w : WX (wC cy ad) D cy rr u A s H locs) : Wx (wC cy ad) D p l e 3 72 0 s m args below meth c A u' none H locs 0 56 ls [] := by
  have hx := E.1
  have hb := E.2.1
  have hown := E.2.2.2.1
  have hts := E.2.2.2.2
  refine lv_aload_n hx hb (dq da_X6_compute 32 rfl) rfl (lv_at hl 0 rfl) ?_
  refine lv_iload_n hx hb (dq da_X6_compute 33 rfl) rfl (lv_at hl 1 rfl) ?_
  refine lv_iload_n hx hb (dq da_X6_compute 34 rfl) rfl (lv_at hl 2 rfl) ?_
  refine lv_aload_n hx hb (dq da_X6_compute 35 rfl) rfl (lv_at hl 0 rfl) ?_
  refine lv_iload_n hx hb (dq da_X6_compute 36 rfl) rfl (lv_at hl 1 rfl) ?_
  obtain ⟨y3, hy4, h⟩ := ob h
  refine cV1 E (c_X6_a l D cy ad _ _ hy4) w_839 w_841 w_p21 w_9 w_842 rfl hd_X6_a rfl hl.1 rfl (Nat.le_of_ble_eq_true rfl) ⟨Nat.le_of_ble_eq_true rfl, Nat.le_of_ble_eq_true rfl⟩ (by decide) w (rc_wC_18 w) (dq da_X6_compute 37 rfl) (fun H locs rr w => ?_)
  refine lv_aload_n hx hb (dq da_X6_compute 38 rfl) rfl (lv_at hl 0 rfl) ?_
  refine lv_iload_n hx hb (dq da_X6_compute 39 rfl) rfl (lv_at hl 1 rfl) ?_
  obtain ⟨y5, hy6, h⟩ := ob h
  refine cV1 E (c_X6_b l D cy ad _ _ hy6) w_853 w_855 w_p24 w_9 w_856 rfl hd_X6_b rfl hl.1 rfl (Nat.le_of_ble_eq_true rfl) ⟨Nat.le_of_ble_eq_true rfl, Nat.le_of_ble_eq_true rfl⟩ (by decide) w (rc_wC_18 w) (dq da_X6_compute 40 rfl) (fun H locs rr w => ?_)
  refine lv_iload_n hx hb (dq da_X6_compute 41 rfl) rfl (lv_at hl 3 rfl) ?_
  refine lv_bipush (v := 32) hx hb (dq da_X6_compute 42 rfl) rfl ?_
  refine lv_icmp_ne (tgt := 79) hx hb (dq da_X6_compute 43 rfl) (by decide) (fun c7 => ?_) (fun c7 => ?_)
  · have h := ie c7 h
    refine lv_iconst (v := 0) hx hb (dq da_X6_compute 46 rfl) rfl ?_
    exact b_X6_compute_b80 E hr hlk h (lv_sub hl [] rfl) w
  · have h := it c7 h
    refine lv_iconst (v := 1) hx hb (dq da_X6_compute 44 rfl) rfl ?_
    refine lv_goto (tgt := 80) hx hb (dq da_X6_compute 45 rfl) (by decide) ?_
    exact b_X6_compute_b80 E hr hlk h (lv_sub hl [] rfl) w
def f_X6_compute_b89 (u : St) : Option (St) := some (f_X6_illegal u)
set_option maxRecDepth 100000 in
set_option maxHeartbeats 4000000 in
theorem b_X6_compute_b89 {p : Program} {l : Launch} {e : Env} {s : State} {m : MethodId} {args : Array Value} {below : List Frame} {meth : Method} {c : Code} {D : va_G} {cy : ClassId × ClassId × ClassId} {ad : Nat → Nat} {A : Nat → Prop} (E : CallFix p m c cX6_compute 4 s args gw RX6) (hr : meth.sig.returnType = none) (hlk : meth.locks = false) {u : St} {u' : St} (h : f_X6_compute_b89 u = some u') {ls : Array Slot} {H : Heap} {locs : List Loc} {rr : Nat → Nat} (hl : lv_has ls 4 [(0, .ref (ad 18))]) (w : WX (wC cy ad) D cy rr u A s H locs) : Wx (wC cy ad) D p l e 3 72 0 s m args below meth c A u' none H locs 0 89 ls [] := by
  have hx := E.1
  have hb := E.2.1
  have hown := E.2.2.2.1
  have hts := E.2.2.2.2
  refine lv_aload_n hx hb (dq da_X6_compute 50 rfl) rfl (lv_at hl 0 rfl) ?_
  refine cV0 E (c_X6_illegal l D cy ad _ ) w_844 w_846 w_p22 w_9 w_847 rfl hd_X6_illegal rfl hl.1 rfl (Nat.le_of_ble_eq_true rfl) ⟨Nat.le_of_ble_eq_true rfl, Nat.le_of_ble_eq_true rfl⟩ (by decide) w (rc_wC_18 w) (dq da_X6_compute 51 rfl) (fun H locs rr w => ?_)
  exact xret_v E hr hlk w (by decide) (os h) (dq da_X6_compute 52 rfl)
def f_X6_compute (x1 : Int32) (u : St) : Option (St) := if (j_iushr x1 (25 : Int32)) = (1 : Int32) then ((f_X6_a x1 u).bind (fun y13 => (f_X6_b x1 u).bind (fun y15 => (f_X0_product (f_X6_f x1) y13 y15).bind (fun y17 => (f_X6_putRd x1 y17 u).bind (fun y19 => some y19))))) else (if (j_iushr x1 (25 : Int32)) = (0 : Int32) then (f_X6_compute_b56 x1 (f_X6_f x1) (j_iushr x1 (25 : Int32)) u) else (if (j_iushr x1 (25 : Int32)) = (32 : Int32) then (if (f_X6_f x1) = (0 : Int32) then (f_X6_compute_b56 x1 (f_X6_f x1) (j_iushr x1 (25 : Int32)) u) else (if (f_X6_f x1) = (5 : Int32) then (f_X6_compute_b56 x1 (f_X6_f x1) (j_iushr x1 (25 : Int32)) u) else (f_X6_compute_b89 u))) else (f_X6_compute_b89 u)))
set_option maxRecDepth 100000 in
set_option maxHeartbeats 4000000 in
theorem c_X6_compute (l : Launch) (D : va_G) (cy : ClassId × ClassId × ClassId) (ad : Nat → Nat) (x1 : Int32) (u : St) {u' : St} (h : f_X6_compute x1 u = some u') : MX (wC cy ad) D cy l yX6_compute cX6_compute 4 (none) 3 72 0 [.ref (ad 18), .int x1] u u' none := by
  refine entX (by decide +kernel) (Nat.le_of_ble_eq_true rfl) ?_
  intro p e s m args below meth c ls rr A E hr hlk hl w
  have hl : lv_has ls 4 [(0, .ref (ad 18)), (1, .int x1)] := hl
  have hx := E.1
  have hb := E.2.1
  have hown := E.2.2.2.1
  have hts := E.2.2.2.2
  refine lv_iload_n hx hb (dq da_X6_compute 0 rfl) rfl (lv_at hl 1 rfl) ?_
  refine callP E (c_X6_f l _ ) w_836 w_837 w_9 w_838 hd_X6_f rfl hl.1 rfl (Nat.le_of_ble_eq_true rfl) ⟨Nat.le_of_ble_eq_true rfl, Nat.le_of_ble_eq_true rfl⟩ (by decide) (dq da_X6_compute 1 rfl) ?_
  refine lv_istore_n (lv' := [(2, .int (f_X6_f x1)), (0, .ref (ad 18)), (1, .int x1)]) hx hb (dq da_X6_compute 2 rfl) rfl hl (by decide) rfl (fun ls hl => ?_)
  refine lv_iload_n hx hb (dq da_X6_compute 3 rfl) rfl (lv_at hl 2 rfl) ?_
  refine lv_bipush (v := 25) hx hb (dq da_X6_compute 4 rfl) rfl ?_
  refine lv_iushr (v := (j_iushr x1 (25 : Int32))) hx hb (dq da_X6_compute 5 rfl) rfl ?_
  refine lv_istore_n (lv' := [(3, .int (j_iushr x1 (25 : Int32))), (2, .int (f_X6_f x1)), (0, .ref (ad 18)), (1, .int x1)]) hx hb (dq da_X6_compute 6 rfl) rfl hl (by decide) rfl (fun ls hl => ?_)
  refine lv_iload_n hx hb (dq da_X6_compute 7 rfl) rfl (lv_at hl 0 rfl) ?_
  refine lv_iconst (v := 1) hx hb (dq da_X6_compute 8 rfl) rfl ?_
  refine lv_icmp_ne (tgt := 37) hx hb (dq da_X6_compute 9 rfl) (by decide) (fun c1 => ?_) (fun c1 => ?_)
  · have h := ie c1 h
    refine lv_iload_n hx hb (dq da_X6_compute 22 rfl) rfl (lv_at hl 0 rfl) ?_
    refine lv_if_eq (tgt := 56) hx hb (dq da_X6_compute 23 rfl) (by decide) (fun c2 => ?_) (fun c2 => ?_)
    · have h := it c2 h
      exact b_X6_compute_b56 E hr hlk h (lv_sub hl [2, 3, 1, 0] rfl) w
    · have h := ie c2 h
      refine lv_iload_n hx hb (dq da_X6_compute 24 rfl) rfl (lv_at hl 0 rfl) ?_
      refine lv_bipush (v := 32) hx hb (dq da_X6_compute 25 rfl) rfl ?_
      refine lv_icmp_ne (tgt := 89) hx hb (dq da_X6_compute 26 rfl) (by decide) (fun c10 => ?_) (fun c10 => ?_)
      · have h := ie c10 h
        exact b_X6_compute_b89 E hr hlk h (lv_sub hl [2] rfl) w
      · have h := it c10 h
        refine lv_iload_n hx hb (dq da_X6_compute 27 rfl) rfl (lv_at hl 1 rfl) ?_
        refine lv_if_eq (tgt := 56) hx hb (dq da_X6_compute 28 rfl) (by decide) (fun c11 => ?_) (fun c11 => ?_)
        · have h := it c11 h
          exact b_X6_compute_b56 E hr hlk h (lv_sub hl [2, 3, 1, 0] rfl) w
        · have h := ie c11 h
          refine lv_iload_n hx hb (dq da_X6_compute 29 rfl) rfl (lv_at hl 1 rfl) ?_
          refine lv_iconst (v := 5) hx hb (dq da_X6_compute 30 rfl) rfl ?_
          refine lv_icmp_ne (tgt := 89) hx hb (dq da_X6_compute 31 rfl) (by decide) (fun c12 => ?_) (fun c12 => ?_)
          · have h := ie c12 h
            exact b_X6_compute_b89 E hr hlk h (lv_sub hl [2] rfl) w
          · have h := it c12 h
            exact b_X6_compute_b56 E hr hlk h (lv_sub hl [2, 3, 1, 0] rfl) w
  · have h := it c1 h
    refine lv_aload_n hx hb (dq da_X6_compute 10 rfl) rfl (lv_at hl 2 rfl) ?_
    refine lv_iload_n hx hb (dq da_X6_compute 11 rfl) rfl (lv_at hl 3 rfl) ?_
    refine lv_iload_n hx hb (dq da_X6_compute 12 rfl) rfl (lv_at hl 1 rfl) ?_
    refine lv_aload_n hx hb (dq da_X6_compute 13 rfl) rfl (lv_at hl 2 rfl) ?_
    refine lv_iload_n hx hb (dq da_X6_compute 14 rfl) rfl (lv_at hl 3 rfl) ?_
    obtain ⟨y13, hy14, h⟩ := ob h
    refine cV1 E (c_X6_a l D cy ad _ _ hy14) w_839 w_841 w_p21 w_9 w_842 rfl hd_X6_a rfl hl.1 rfl (Nat.le_of_ble_eq_true rfl) ⟨Nat.le_of_ble_eq_true rfl, Nat.le_of_ble_eq_true rfl⟩ (by decide) w (rc_wC_18 w) (dq da_X6_compute 15 rfl) (fun H locs rr w => ?_)
    refine lv_aload_n hx hb (dq da_X6_compute 16 rfl) rfl (lv_at hl 2 rfl) ?_
    refine lv_iload_n hx hb (dq da_X6_compute 17 rfl) rfl (lv_at hl 3 rfl) ?_
    obtain ⟨y15, hy16, h⟩ := ob h
    refine cV1 E (c_X6_b l D cy ad _ _ hy16) w_853 w_855 w_p24 w_9 w_856 rfl hd_X6_b rfl hl.1 rfl (Nat.le_of_ble_eq_true rfl) ⟨Nat.le_of_ble_eq_true rfl, Nat.le_of_ble_eq_true rfl⟩ (by decide) w (rc_wC_18 w) (dq da_X6_compute 18 rfl) (fun H locs rr w => ?_)
    obtain ⟨y17, hy18, h⟩ := ob h
    refine callP E (c_X0_product l _ _ _ hy18) w_961 w_962 w_17 w_963 hd_X0_product rfl hl.1 rfl (Nat.le_of_ble_eq_true rfl) ⟨Nat.le_of_ble_eq_true rfl, Nat.le_of_ble_eq_true rfl⟩ (by decide) (dq da_X6_compute 19 rfl) ?_
    obtain ⟨y19, hy20, h⟩ := ob h
    refine cV0 E (c_X6_putRd l D cy ad _ _ _ hy20) w_820 w_822 w_p18 w_9 w_823 rfl hd_X6_putRd rfl hl.1 rfl (Nat.le_of_ble_eq_true rfl) ⟨Nat.le_of_ble_eq_true rfl, Nat.le_of_ble_eq_true rfl⟩ (by decide) w (rc_wC_18 w) (dq da_X6_compute 20 rfl) (fun H locs rr w => ?_)
    refine lv_goto (tgt := 93) hx hb (dq da_X6_compute 21 rfl) (by decide) ?_
    exact xret_v E hr hlk w (by decide) (os h) (dq da_X6_compute 52 rfl)
def dl_X6_computeNarrow : List (Nat × Instr × Nat) := [(0, .iload_n 1, 1), (1, .invokestatic 246, 3), (4, .istore_n 2, 1), (5, .iload_n 1, 1), (6, .bipush 25, 2), (8, .iushr, 1), (9, .istore_n 3, 1), (10, .iload_n 3, 1), (11, .iconst 1, 1), (12, .if_icmp .ne 36, 3), (15, .iload_n 2, 1), (16, .ifCond .eq 8, 3), (19, .iload_n 2, 1), (20, .iconst 3, 1), (21, .if_icmp .le 27, 3), (24, .aload_n 0, 1), (25, .iload_n 1, 1), (26, .iload_n 2, 1), (27, .aload_n 0, 1), (28, .iload_n 1, 1), (29, .invokevirtual 259, 3), (32, .l2i, 1), (33, .aload_n 0, 1), (34, .iload_n 1, 1), (35, .invokevirtual 265, 3), (38, .l2i, 1), (39, .invokestatic 303, 3), (42, .invokevirtual 207, 3), (45, .goto 75, 3), (48, .iload_n 3, 1), (49, .ifCond .ne 17, 3), (52, .iload_n 2, 1), (53, .ifCond .eq 28, 3), (56, .iload_n 2, 1), (57, .iconst 1, 1), (58, .if_icmp .eq 23, 3), (61, .iload_n 2, 1), (62, .iconst 5, 1), (63, .if_icmp .eq 18, 3), (66, .iload_n 3, 1), (67, .bipush 32, 2), (69, .if_icmp .ne 47, 3), (72, .iload_n 2, 1), (73, .ifCond .eq 8, 3), (76, .iload_n 2, 1), (77, .iconst 5, 1), (78, .if_icmp .ne 38, 3), (81, .aload_n 0, 1), (82, .iload_n 1, 1), (83, .iload_n 2, 1), (84, .aload_n 0, 1), (85, .iload_n 1, 1), (86, .invokevirtual 259, 3), (89, .l2i, 1), (90, .aload_n 0, 1), (91, .iload_n 1, 1), (92, .invokevirtual 265, 3), (95, .l2i, 1), (96, .iload_n 3, 1), (97, .bipush 32, 2), (99, .if_icmp .ne 7, 3), (102, .iconst 1, 1), (103, .goto 4, 3), (106, .iconst 0, 1), (107, .invokestatic 295, 3), (110, .invokevirtual 207, 3), (113, .goto 7, 3), (116, .aload_n 0, 1), (117, .invokevirtual 255, 3), (120, .return_, 1)]
theorem da_X6_computeNarrow : dkL cX6_computeNarrow dl_X6_computeNarrow = true := by decide +kernel
def f_X6_computeNarrow_b116 (u : St) : Option (St) := some (f_X6_illegal u)
set_option maxRecDepth 100000 in
set_option maxHeartbeats 4000000 in
theorem b_X6_computeNarrow_b116 {p : Program} {l : Launch} {e : Env} {s : State} {m : MethodId} {args : Array Value} {below : List Frame} {meth : Method} {c : Code} {D : va_G} {cy : ClassId × ClassId × ClassId} {ad : Nat → Nat} {A : Nat → Prop} (E : CallFix p m c cX6_computeNarrow 4 s args gw RX6) (hr : meth.sig.returnType = none) (hlk : meth.locks = false) {u : St} {u' : St} (h : f_X6_computeNarrow_b116 u = some u') {ls : Array Slot} {H : Heap} {locs : List Loc} {rr : Nat → Nat} (hl : lv_has ls 4 [(0, .ref (ad 18))]) (w : WX (wC cy ad) D cy rr u A s H locs) : Wx (wC cy ad) D p l e 2 43 0 s m args below meth c A u' none H locs 0 116 ls [] := by
  have hx := E.1
  have hb := E.2.1
  have hown := E.2.2.2.1
  have hts := E.2.2.2.2
  refine lv_aload_n hx hb (dq da_X6_computeNarrow 67 rfl) rfl (lv_at hl 0 rfl) ?_
  refine cV0 E (c_X6_illegal l D cy ad _ ) w_844 w_846 w_p22 w_9 w_847 rfl hd_X6_illegal rfl hl.1 rfl (Nat.le_of_ble_eq_true rfl) ⟨Nat.le_of_ble_eq_true rfl, Nat.le_of_ble_eq_true rfl⟩ (by decide) w (rc_wC_18 w) (dq da_X6_computeNarrow 68 rfl) (fun H locs rr w => ?_)
  exact xret_v E hr hlk w (by decide) (os h) (dq da_X6_computeNarrow 69 rfl)
def f_X6_computeNarrow_b107 (s0 : Int32) (s1 : Int32) (s2 : Int32) (s3 : Int32) (s4 : Int32) (u : St) : Option (St) := (f_X6_putRd s4 (f_X0_narrow s3 s2 s1 s0) u).bind (fun y10 => some y10)
set_option maxRecDepth 100000 in
set_option maxHeartbeats 4000000 in
theorem b_X6_computeNarrow_b107 {p : Program} {l : Launch} {e : Env} {s : State} {m : MethodId} {args : Array Value} {below : List Frame} {meth : Method} {c : Code} {D : va_G} {cy : ClassId × ClassId × ClassId} {ad : Nat → Nat} {A : Nat → Prop} (E : CallFix p m c cX6_computeNarrow 4 s args gw RX6) (hr : meth.sig.returnType = none) (hlk : meth.locks = false) {s0 : Int32} {s1 : Int32} {s2 : Int32} {s3 : Int32} {s4 : Int32} {u : St} {u' : St} (h : f_X6_computeNarrow_b107 s0 s1 s2 s3 s4 u = some u') {ls : Array Slot} {H : Heap} {locs : List Loc} {rr : Nat → Nat} (hl : lv_has ls 4 []) (w : WX (wC cy ad) D cy rr u A s H locs) : Wx (wC cy ad) D p l e 2 43 0 s m args below meth c A u' none H locs 0 107 ls [.int s0, .int s1, .int s2, .int s3, .int s4, .ref (ad 18)] := by
  have hx := E.1
  have hb := E.2.1
  have hown := E.2.2.2.1
  have hts := E.2.2.2.2
  refine callP E (c_X0_narrow l _ _ _ _ ) w_954 w_955 w_17 w_956 hd_X0_narrow rfl hl.1 rfl (Nat.le_of_ble_eq_true rfl) ⟨Nat.le_of_ble_eq_true rfl, Nat.le_of_ble_eq_true rfl⟩ (by decide) (dq da_X6_computeNarrow 64 rfl) ?_
  obtain ⟨y10, hy11, h⟩ := ob h
  refine cV0 E (c_X6_putRd l D cy ad _ _ _ hy11) w_820 w_822 w_p18 w_9 w_823 rfl hd_X6_putRd rfl hl.1 rfl (Nat.le_of_ble_eq_true rfl) ⟨Nat.le_of_ble_eq_true rfl, Nat.le_of_ble_eq_true rfl⟩ (by decide) w (rc_wC_18 w) (dq da_X6_computeNarrow 65 rfl) (fun H locs rr w => ?_)
  refine lv_goto (tgt := 120) hx hb (dq da_X6_computeNarrow 66 rfl) (by decide) ?_
  exact xret_v E hr hlk w (by decide) (os h) (dq da_X6_computeNarrow 69 rfl)
def f_X6_computeNarrow_b81 (x1 : Int32) (x2 : Int32) (x3 : Int32) (u : St) : Option (St) := (f_X6_a x1 u).bind (fun y5 => (f_X6_b x1 u).bind (fun y7 => if x3 = (32 : Int32) then (f_X6_computeNarrow_b107 (1 : Int32) y7.toInt32 y5.toInt32 x2 x1 u) else (f_X6_computeNarrow_b107 (0 : Int32) y7.toInt32 y5.toInt32 x2 x1 u)))
set_option maxRecDepth 100000 in
set_option maxHeartbeats 4000000 in
theorem b_X6_computeNarrow_b81 {p : Program} {l : Launch} {e : Env} {s : State} {m : MethodId} {args : Array Value} {below : List Frame} {meth : Method} {c : Code} {D : va_G} {cy : ClassId × ClassId × ClassId} {ad : Nat → Nat} {A : Nat → Prop} (E : CallFix p m c cX6_computeNarrow 4 s args gw RX6) (hr : meth.sig.returnType = none) (hlk : meth.locks = false) {x1 : Int32} {x2 : Int32} {x3 : Int32} {u : St} {u' : St} (h : f_X6_computeNarrow_b81 x1 x2 x3 u = some u') {ls : Array Slot} {H : Heap} {locs : List Loc} {rr : Nat → Nat} (hl : lv_has ls 4 [(0, .ref (ad 18)), (1, .int x1), (2, .int x2), (3, .int x3)]) (w : WX (wC cy ad) D cy rr u A s H locs) : Wx (wC cy ad) D p l e 2 43 0 s m args below meth c A u' none H locs 0 81 ls [] := by
  have hx := E.1
  have hb := E.2.1
  have hown := E.2.2.2.1
  have hts := E.2.2.2.2
  refine lv_aload_n hx hb (dq da_X6_computeNarrow 47 rfl) rfl (lv_at hl 0 rfl) ?_
  refine lv_iload_n hx hb (dq da_X6_computeNarrow 48 rfl) rfl (lv_at hl 1 rfl) ?_
  refine lv_iload_n hx hb (dq da_X6_computeNarrow 49 rfl) rfl (lv_at hl 2 rfl) ?_
  refine lv_aload_n hx hb (dq da_X6_computeNarrow 50 rfl) rfl (lv_at hl 0 rfl) ?_
  refine lv_iload_n hx hb (dq da_X6_computeNarrow 51 rfl) rfl (lv_at hl 1 rfl) ?_
  obtain ⟨y5, hy6, h⟩ := ob h
  refine cV1 E (c_X6_a l D cy ad _ _ hy6) w_839 w_841 w_p21 w_9 w_842 rfl hd_X6_a rfl hl.1 rfl (Nat.le_of_ble_eq_true rfl) ⟨Nat.le_of_ble_eq_true rfl, Nat.le_of_ble_eq_true rfl⟩ (by decide) w (rc_wC_18 w) (dq da_X6_computeNarrow 52 rfl) (fun H locs rr w => ?_)
  refine lv_l2i (v := y5.toInt32) hx hb (dq da_X6_computeNarrow 53 rfl) rfl ?_
  refine lv_aload_n hx hb (dq da_X6_computeNarrow 54 rfl) rfl (lv_at hl 0 rfl) ?_
  refine lv_iload_n hx hb (dq da_X6_computeNarrow 55 rfl) rfl (lv_at hl 1 rfl) ?_
  obtain ⟨y7, hy8, h⟩ := ob h
  refine cV1 E (c_X6_b l D cy ad _ _ hy8) w_853 w_855 w_p24 w_9 w_856 rfl hd_X6_b rfl hl.1 rfl (Nat.le_of_ble_eq_true rfl) ⟨Nat.le_of_ble_eq_true rfl, Nat.le_of_ble_eq_true rfl⟩ (by decide) w (rc_wC_18 w) (dq da_X6_computeNarrow 56 rfl) (fun H locs rr w => ?_)
  refine lv_l2i (v := y7.toInt32) hx hb (dq da_X6_computeNarrow 57 rfl) rfl ?_
  refine lv_iload_n hx hb (dq da_X6_computeNarrow 58 rfl) rfl (lv_at hl 3 rfl) ?_
  refine lv_bipush (v := 32) hx hb (dq da_X6_computeNarrow 59 rfl) rfl ?_
  refine lv_icmp_ne (tgt := 106) hx hb (dq da_X6_computeNarrow 60 rfl) (by decide) (fun c9 => ?_) (fun c9 => ?_)
  · have h := ie c9 h
    refine lv_iconst (v := 0) hx hb (dq da_X6_computeNarrow 63 rfl) rfl ?_
    exact b_X6_computeNarrow_b107 E hr hlk h (lv_sub hl [] rfl) w
  · have h := it c9 h
    refine lv_iconst (v := 1) hx hb (dq da_X6_computeNarrow 61 rfl) rfl ?_
    refine lv_goto (tgt := 107) hx hb (dq da_X6_computeNarrow 62 rfl) (by decide) ?_
    exact b_X6_computeNarrow_b107 E hr hlk h (lv_sub hl [] rfl) w
def f_X6_computeNarrow_b66 (x1 : Int32) (x2 : Int32) (x3 : Int32) (u : St) : Option (St) := if x3 = (32 : Int32) then (if x2 = (0 : Int32) then (f_X6_computeNarrow_b81 x1 x2 x3 u) else (if x2 = (5 : Int32) then (f_X6_computeNarrow_b81 x1 x2 x3 u) else (f_X6_computeNarrow_b116 u))) else (f_X6_computeNarrow_b116 u)
set_option maxRecDepth 100000 in
set_option maxHeartbeats 4000000 in
theorem b_X6_computeNarrow_b66 {p : Program} {l : Launch} {e : Env} {s : State} {m : MethodId} {args : Array Value} {below : List Frame} {meth : Method} {c : Code} {D : va_G} {cy : ClassId × ClassId × ClassId} {ad : Nat → Nat} {A : Nat → Prop} (E : CallFix p m c cX6_computeNarrow 4 s args gw RX6) (hr : meth.sig.returnType = none) (hlk : meth.locks = false) {x1 : Int32} {x2 : Int32} {x3 : Int32} {u : St} {u' : St} (h : f_X6_computeNarrow_b66 x1 x2 x3 u = some u') {ls : Array Slot} {H : Heap} {locs : List Loc} {rr : Nat → Nat} (hl : lv_has ls 4 [(0, .ref (ad 18)), (1, .int x1), (2, .int x2), (3, .int x3)]) (w : WX (wC cy ad) D cy rr u A s H locs) : Wx (wC cy ad) D p l e 2 43 0 s m args below meth c A u' none H locs 0 66 ls [] := by
  have hx := E.1
  have hb := E.2.1
  have hown := E.2.2.2.1
  have hts := E.2.2.2.2
  refine lv_iload_n hx hb (dq da_X6_computeNarrow 39 rfl) rfl (lv_at hl 3 rfl) ?_
  refine lv_bipush (v := 32) hx hb (dq da_X6_computeNarrow 40 rfl) rfl ?_
  refine lv_icmp_ne (tgt := 116) hx hb (dq da_X6_computeNarrow 41 rfl) (by decide) (fun c3 => ?_) (fun c3 => ?_)
  · have h := ie c3 h
    exact b_X6_computeNarrow_b116 E hr hlk h (lv_sub hl [0] rfl) w
  · have h := it c3 h
    refine lv_iload_n hx hb (dq da_X6_computeNarrow 42 rfl) rfl (lv_at hl 2 rfl) ?_
    refine lv_if_eq (tgt := 81) hx hb (dq da_X6_computeNarrow 43 rfl) (by decide) (fun c4 => ?_) (fun c4 => ?_)
    · have h := it c4 h
      exact b_X6_computeNarrow_b81 E hr hlk h (lv_sub hl [0, 1, 2, 3] rfl) w
    · have h := ie c4 h
      refine lv_iload_n hx hb (dq da_X6_computeNarrow 44 rfl) rfl (lv_at hl 2 rfl) ?_
      refine lv_iconst (v := 5) hx hb (dq da_X6_computeNarrow 45 rfl) rfl ?_
      refine lv_icmp_ne (tgt := 116) hx hb (dq da_X6_computeNarrow 46 rfl) (by decide) (fun c12 => ?_) (fun c12 => ?_)
      · have h := ie c12 h
        exact b_X6_computeNarrow_b116 E hr hlk h (lv_sub hl [0] rfl) w
      · have h := it c12 h
        exact b_X6_computeNarrow_b81 E hr hlk h (lv_sub hl [0, 1, 2, 3] rfl) w
def f_X6_computeNarrow_b48 (x1 : Int32) (x2 : Int32) (x3 : Int32) (u : St) : Option (St) := if x3 = (0 : Int32) then (if x2 = (0 : Int32) then (f_X6_computeNarrow_b81 x1 x2 x3 u) else (if x2 = (1 : Int32) then (f_X6_computeNarrow_b81 x1 x2 x3 u) else (if x2 = (5 : Int32) then (f_X6_computeNarrow_b81 x1 x2 x3 u) else (f_X6_computeNarrow_b66 x1 x2 x3 u)))) else (f_X6_computeNarrow_b66 x1 x2 x3 u)
set_option maxRecDepth 100000 in
set_option maxHeartbeats 4000000 in
theorem b_X6_computeNarrow_b48 {p : Program} {l : Launch} {e : Env} {s : State} {m : MethodId} {args : Array Value} {below : List Frame} {meth : Method} {c : Code} {D : va_G} {cy : ClassId × ClassId × ClassId} {ad : Nat → Nat} {A : Nat → Prop} (E : CallFix p m c cX6_computeNarrow 4 s args gw RX6) (hr : meth.sig.returnType = none) (hlk : meth.locks = false) {x1 : Int32} {x2 : Int32} {x3 : Int32} {u : St} {u' : St} (h : f_X6_computeNarrow_b48 x1 x2 x3 u = some u') {ls : Array Slot} {H : Heap} {locs : List Loc} {rr : Nat → Nat} (hl : lv_has ls 4 [(0, .ref (ad 18)), (1, .int x1), (2, .int x2), (3, .int x3)]) (w : WX (wC cy ad) D cy rr u A s H locs) : Wx (wC cy ad) D p l e 2 43 0 s m args below meth c A u' none H locs 0 48 ls [] := by
  have hx := E.1
  have hb := E.2.1
  have hown := E.2.2.2.1
  have hts := E.2.2.2.2
  refine lv_iload_n hx hb (dq da_X6_computeNarrow 29 rfl) rfl (lv_at hl 3 rfl) ?_
  refine lv_if_ne (tgt := 66) hx hb (dq da_X6_computeNarrow 30 rfl) (by decide) (fun c2 => ?_) (fun c2 => ?_)
  · have h := ie c2 h
    exact b_X6_computeNarrow_b66 E hr hlk h (lv_sub hl [0, 1, 2, 3] rfl) w
  · have h := it c2 h
    refine lv_iload_n hx hb (dq da_X6_computeNarrow 31 rfl) rfl (lv_at hl 2 rfl) ?_
    refine lv_if_eq (tgt := 81) hx hb (dq da_X6_computeNarrow 32 rfl) (by decide) (fun c13 => ?_) (fun c13 => ?_)
    · have h := it c13 h
      exact b_X6_computeNarrow_b81 E hr hlk h (lv_sub hl [0, 1, 2, 3] rfl) w
    · have h := ie c13 h
      refine lv_iload_n hx hb (dq da_X6_computeNarrow 33 rfl) rfl (lv_at hl 2 rfl) ?_
      refine lv_iconst (v := 1) hx hb (dq da_X6_computeNarrow 34 rfl) rfl ?_
      refine lv_icmp_eq (tgt := 81) hx hb (dq da_X6_computeNarrow 35 rfl) (by decide) (fun c14 => ?_) (fun c14 => ?_)
      · have h := it c14 h
        exact b_X6_computeNarrow_b81 E hr hlk h (lv_sub hl [0, 1, 2, 3] rfl) w
      · have h := ie c14 h
        refine lv_iload_n hx hb (dq da_X6_computeNarrow 36 rfl) rfl (lv_at hl 2 rfl) ?_
        refine lv_iconst (v := 5) hx hb (dq da_X6_computeNarrow 37 rfl) rfl ?_
        refine lv_icmp_eq (tgt := 81) hx hb (dq da_X6_computeNarrow 38 rfl) (by decide) (fun c15 => ?_) (fun c15 => ?_)
        · have h := it c15 h
          exact b_X6_computeNarrow_b81 E hr hlk h (lv_sub hl [0, 1, 2, 3] rfl) w
        · have h := ie c15 h
          exact b_X6_computeNarrow_b66 E hr hlk h (lv_sub hl [0, 1, 2, 3] rfl) w
def f_X6_computeNarrow_b24 (x1 : Int32) (x2 : Int32) (u : St) : Option (St) := (f_X6_a x1 u).bind (fun y17 => (f_X6_b x1 u).bind (fun y19 => (f_X6_putRd x1 (f_X0_narrowProduct x2 y17.toInt32 y19.toInt32) u).bind (fun y21 => some y21)))
set_option maxRecDepth 100000 in
set_option maxHeartbeats 4000000 in
theorem b_X6_computeNarrow_b24 {p : Program} {l : Launch} {e : Env} {s : State} {m : MethodId} {args : Array Value} {below : List Frame} {meth : Method} {c : Code} {D : va_G} {cy : ClassId × ClassId × ClassId} {ad : Nat → Nat} {A : Nat → Prop} (E : CallFix p m c cX6_computeNarrow 4 s args gw RX6) (hr : meth.sig.returnType = none) (hlk : meth.locks = false) {x1 : Int32} {x2 : Int32} {u : St} {u' : St} (h : f_X6_computeNarrow_b24 x1 x2 u = some u') {ls : Array Slot} {H : Heap} {locs : List Loc} {rr : Nat → Nat} (hl : lv_has ls 4 [(0, .ref (ad 18)), (1, .int x1), (2, .int x2)]) (w : WX (wC cy ad) D cy rr u A s H locs) : Wx (wC cy ad) D p l e 2 43 0 s m args below meth c A u' none H locs 0 24 ls [] := by
  have hx := E.1
  have hb := E.2.1
  have hown := E.2.2.2.1
  have hts := E.2.2.2.2
  refine lv_aload_n hx hb (dq da_X6_computeNarrow 15 rfl) rfl (lv_at hl 0 rfl) ?_
  refine lv_iload_n hx hb (dq da_X6_computeNarrow 16 rfl) rfl (lv_at hl 1 rfl) ?_
  refine lv_iload_n hx hb (dq da_X6_computeNarrow 17 rfl) rfl (lv_at hl 2 rfl) ?_
  refine lv_aload_n hx hb (dq da_X6_computeNarrow 18 rfl) rfl (lv_at hl 0 rfl) ?_
  refine lv_iload_n hx hb (dq da_X6_computeNarrow 19 rfl) rfl (lv_at hl 1 rfl) ?_
  obtain ⟨y17, hy18, h⟩ := ob h
  refine cV1 E (c_X6_a l D cy ad _ _ hy18) w_839 w_841 w_p21 w_9 w_842 rfl hd_X6_a rfl hl.1 rfl (Nat.le_of_ble_eq_true rfl) ⟨Nat.le_of_ble_eq_true rfl, Nat.le_of_ble_eq_true rfl⟩ (by decide) w (rc_wC_18 w) (dq da_X6_computeNarrow 20 rfl) (fun H locs rr w => ?_)
  refine lv_l2i (v := y17.toInt32) hx hb (dq da_X6_computeNarrow 21 rfl) rfl ?_
  refine lv_aload_n hx hb (dq da_X6_computeNarrow 22 rfl) rfl (lv_at hl 0 rfl) ?_
  refine lv_iload_n hx hb (dq da_X6_computeNarrow 23 rfl) rfl (lv_at hl 1 rfl) ?_
  obtain ⟨y19, hy20, h⟩ := ob h
  refine cV1 E (c_X6_b l D cy ad _ _ hy20) w_853 w_855 w_p24 w_9 w_856 rfl hd_X6_b rfl hl.1 rfl (Nat.le_of_ble_eq_true rfl) ⟨Nat.le_of_ble_eq_true rfl, Nat.le_of_ble_eq_true rfl⟩ (by decide) w (rc_wC_18 w) (dq da_X6_computeNarrow 24 rfl) (fun H locs rr w => ?_)
  refine lv_l2i (v := y19.toInt32) hx hb (dq da_X6_computeNarrow 25 rfl) rfl ?_
  refine callP E (c_X0_narrowProduct l _ _ _ ) w_976 w_977 w_17 w_978 hd_X0_narrowProduct rfl hl.1 rfl (Nat.le_of_ble_eq_true rfl) ⟨Nat.le_of_ble_eq_true rfl, Nat.le_of_ble_eq_true rfl⟩ (by decide) (dq da_X6_computeNarrow 26 rfl) ?_
  obtain ⟨y21, hy22, h⟩ := ob h
  refine cV0 E (c_X6_putRd l D cy ad _ _ _ hy22) w_820 w_822 w_p18 w_9 w_823 rfl hd_X6_putRd rfl hl.1 rfl (Nat.le_of_ble_eq_true rfl) ⟨Nat.le_of_ble_eq_true rfl, Nat.le_of_ble_eq_true rfl⟩ (by decide) w (rc_wC_18 w) (dq da_X6_computeNarrow 27 rfl) (fun H locs rr w => ?_)
  refine lv_goto (tgt := 120) hx hb (dq da_X6_computeNarrow 28 rfl) (by decide) ?_
  exact xret_v E hr hlk w (by decide) (os h) (dq da_X6_computeNarrow 69 rfl)
def f_X6_computeNarrow (x1 : Int32) (u : St) : Option (St) := if (j_iushr x1 (25 : Int32)) = (1 : Int32) then (if (f_X6_f x1) = (0 : Int32) then (f_X6_computeNarrow_b24 x1 (f_X6_f x1) u) else (if (f_X6_f x1) ≤ (3 : Int32) then (f_X6_computeNarrow_b48 x1 (f_X6_f x1) (j_iushr x1 (25 : Int32)) u) else (f_X6_computeNarrow_b24 x1 (f_X6_f x1) u))) else (f_X6_computeNarrow_b48 x1 (f_X6_f x1) (j_iushr x1 (25 : Int32)) u)
set_option maxRecDepth 100000 in
set_option maxHeartbeats 4000000 in
theorem c_X6_computeNarrow (l : Launch) (D : va_G) (cy : ClassId × ClassId × ClassId) (ad : Nat → Nat) (x1 : Int32) (u : St) {u' : St} (h : f_X6_computeNarrow x1 u = some u') : MX (wC cy ad) D cy l yX6_computeNarrow cX6_computeNarrow 4 (none) 2 43 0 [.ref (ad 18), .int x1] u u' none := by
  refine entX (by decide +kernel) (Nat.le_of_ble_eq_true rfl) ?_
  intro p e s m args below meth c ls rr A E hr hlk hl w
  have hl : lv_has ls 4 [(0, .ref (ad 18)), (1, .int x1)] := hl
  have hx := E.1
  have hb := E.2.1
  have hown := E.2.2.2.1
  have hts := E.2.2.2.2
  refine lv_iload_n hx hb (dq da_X6_computeNarrow 0 rfl) rfl (lv_at hl 1 rfl) ?_
  refine callP E (c_X6_f l _ ) w_836 w_837 w_9 w_838 hd_X6_f rfl hl.1 rfl (Nat.le_of_ble_eq_true rfl) ⟨Nat.le_of_ble_eq_true rfl, Nat.le_of_ble_eq_true rfl⟩ (by decide) (dq da_X6_computeNarrow 1 rfl) ?_
  refine lv_istore_n (lv' := [(2, .int (f_X6_f x1)), (0, .ref (ad 18)), (1, .int x1)]) hx hb (dq da_X6_computeNarrow 2 rfl) rfl hl (by decide) rfl (fun ls hl => ?_)
  refine lv_iload_n hx hb (dq da_X6_computeNarrow 3 rfl) rfl (lv_at hl 2 rfl) ?_
  refine lv_bipush (v := 25) hx hb (dq da_X6_computeNarrow 4 rfl) rfl ?_
  refine lv_iushr (v := (j_iushr x1 (25 : Int32))) hx hb (dq da_X6_computeNarrow 5 rfl) rfl ?_
  refine lv_istore_n (lv' := [(3, .int (j_iushr x1 (25 : Int32))), (2, .int (f_X6_f x1)), (0, .ref (ad 18)), (1, .int x1)]) hx hb (dq da_X6_computeNarrow 6 rfl) rfl hl (by decide) rfl (fun ls hl => ?_)
  refine lv_iload_n hx hb (dq da_X6_computeNarrow 7 rfl) rfl (lv_at hl 0 rfl) ?_
  refine lv_iconst (v := 1) hx hb (dq da_X6_computeNarrow 8 rfl) rfl ?_
  refine lv_icmp_ne (tgt := 48) hx hb (dq da_X6_computeNarrow 9 rfl) (by decide) (fun c1 => ?_) (fun c1 => ?_)
  · have h := ie c1 h
    exact b_X6_computeNarrow_b48 E hr hlk h (lv_sub hl [2, 3, 1, 0] rfl) w
  · have h := it c1 h
    refine lv_iload_n hx hb (dq da_X6_computeNarrow 10 rfl) rfl (lv_at hl 1 rfl) ?_
    refine lv_if_eq (tgt := 24) hx hb (dq da_X6_computeNarrow 11 rfl) (by decide) (fun c16 => ?_) (fun c16 => ?_)
    · have h := it c16 h
      exact b_X6_computeNarrow_b24 E hr hlk h (lv_sub hl [2, 3, 1] rfl) w
    · have h := ie c16 h
      refine lv_iload_n hx hb (dq da_X6_computeNarrow 12 rfl) rfl (lv_at hl 1 rfl) ?_
      refine lv_iconst (v := 3) hx hb (dq da_X6_computeNarrow 13 rfl) rfl ?_
      refine lv_icmp_le (tgt := 48) hx hb (dq da_X6_computeNarrow 14 rfl) (by decide) (fun c23 => ?_) (fun c23 => ?_)
      · have h := it c23 h
        exact b_X6_computeNarrow_b48 E hr hlk h (lv_sub hl [2, 3, 1, 0] rfl) w
      · have h := ie c23 h
        exact b_X6_computeNarrow_b24 E hr hlk h (lv_sub hl [2, 3, 1] rfl) w
def dl_X6_fence : List (Nat × Instr × Nat) := [(0, .iload_n 1, 1), (1, .invokestatic 246, 3), (4, .iconst 1, 1), (5, .if_icmp .le 7, 3), (8, .aload_n 0, 1), (9, .invokevirtual 255, 3), (12, .return_, 1)]
theorem da_X6_fence : dkL cX6_fence dl_X6_fence = true := by decide +kernel
def f_X6_fence (x1 : Int32) (u : St) : St := if (f_X6_f x1) ≤ (1 : Int32) then u else (f_X6_illegal u)
set_option maxRecDepth 100000 in
set_option maxHeartbeats 4000000 in
theorem c_X6_fence (l : Launch) (D : va_G) (cy : ClassId × ClassId × ClassId) (ad : Nat → Nat) (x1 : Int32) (u : St) : MX (wC cy ad) D cy l yX6_fence cX6_fence 2 (none) 2 43 0 [.ref (ad 18), .int x1] u (f_X6_fence x1 u) none := by
  refine entX (by decide +kernel) (Nat.le_of_ble_eq_true rfl) ?_
  intro p e s m args below meth c ls rr A E hr hlk hl w
  have hl : lv_has ls 2 [(0, .ref (ad 18)), (1, .int x1)] := hl
  generalize h : f_X6_fence x1 u = u'
  have hx := E.1
  have hb := E.2.1
  have hown := E.2.2.2.1
  have hts := E.2.2.2.2
  refine lv_iload_n hx hb (dq da_X6_fence 0 rfl) rfl (lv_at hl 1 rfl) ?_
  refine callP E (c_X6_f l _ ) w_836 w_837 w_9 w_838 hd_X6_f rfl hl.1 rfl (Nat.le_of_ble_eq_true rfl) ⟨Nat.le_of_ble_eq_true rfl, Nat.le_of_ble_eq_true rfl⟩ (by decide) (dq da_X6_fence 1 rfl) ?_
  refine lv_iconst (v := 1) hx hb (dq da_X6_fence 2 rfl) rfl ?_
  refine lv_icmp_le (tgt := 12) hx hb (dq da_X6_fence 3 rfl) (by decide) (fun c1 => ?_) (fun c1 => ?_)
  · have h := it c1 h
    exact xret_v E hr hlk w (by decide) h (dq da_X6_fence 6 rfl)
  · have h := ie c1 h
    refine lv_aload_n hx hb (dq da_X6_fence 4 rfl) rfl (lv_at hl 0 rfl) ?_
    refine cV0 E (c_X6_illegal l D cy ad _ ) w_844 w_846 w_p22 w_9 w_847 rfl hd_X6_illegal rfl hl.1 rfl (Nat.le_of_ble_eq_true rfl) ⟨Nat.le_of_ble_eq_true rfl, Nat.le_of_ble_eq_true rfl⟩ (by decide) w (rc_wC_18 w) (dq da_X6_fence 5 rfl) (fun H locs rr w => ?_)
    exact xret_v E hr hlk w (by decide) h (dq da_X6_fence 6 rfl)
def dl_X6_nothingUnless : List (Nat × Instr × Nat) := [(0, .aload_n 0, 1), (1, .getfield 21, 3), (4, .ifCond .eq 22, 3), (7, .aload_n 0, 1), (8, .getfield 21, 3), (11, .iconst 1, 1), (12, .if_icmp .ne 18, 3), (15, .aload_n 0, 1), (16, .getfield 35, 3), (19, .lload_n 1, 1), (20, .invokevirtual 96, 3), (23, .ifCond .eq 7, 3), (26, .aload_n 0, 1), (27, .invokevirtual 255, 3), (30, .return_, 1)]
theorem da_X6_nothingUnless : dkL cX6_nothingUnless dl_X6_nothingUnless = true := by decide +kernel
def f_X6_nothingUnless_b26 (u : St) : St := (f_X6_illegal u)
set_option maxRecDepth 100000 in
set_option maxHeartbeats 4000000 in
theorem b_X6_nothingUnless_b26 {p : Program} {l : Launch} {e : Env} {s : State} {m : MethodId} {args : Array Value} {below : List Frame} {meth : Method} {c : Code} {D : va_G} {cy : ClassId × ClassId × ClassId} {ad : Nat → Nat} {A : Nat → Prop} (E : CallFix p m c cX6_nothingUnless 3 s args gw RX6) (hr : meth.sig.returnType = none) (hlk : meth.locks = false) {u : St} {u' : St} (h : f_X6_nothingUnless_b26 u = u') {ls : Array Slot} {H : Heap} {locs : List Loc} {rr : Nat → Nat} (hl : lv_has ls 3 [(0, .ref (ad 18))]) (w : WX (wC cy ad) D cy rr u A s H locs) : Wx (wC cy ad) D p l e 2 43 0 s m args below meth c A u' none H locs 0 26 ls [] := by
  have hx := E.1
  have hb := E.2.1
  have hown := E.2.2.2.1
  have hts := E.2.2.2.2
  refine lv_aload_n hx hb (dq da_X6_nothingUnless 12 rfl) rfl (lv_at hl 0 rfl) ?_
  refine cV0 E (c_X6_illegal l D cy ad _ ) w_844 w_846 w_p22 w_9 w_847 rfl hd_X6_illegal rfl hl.1 rfl (Nat.le_of_ble_eq_true rfl) ⟨Nat.le_of_ble_eq_true rfl, Nat.le_of_ble_eq_true rfl⟩ (by decide) w (rc_wC_18 w) (dq da_X6_nothingUnless 13 rfl) (fun H locs rr w => ?_)
  exact xret_v E hr hlk w (by decide) h (dq da_X6_nothingUnless 14 rfl)
def f_X6_nothingUnless (x1 : Int64) (u : St) : St := if (gI u 16) = (0 : Int32) then (f_X6_nothingUnless_b26 u) else (if (gI u 16) = (1 : Int32) then (if (f_X4_has x1 u) = (0 : Int32) then u else (f_X6_nothingUnless_b26 u)) else u)
set_option maxRecDepth 100000 in
set_option maxHeartbeats 4000000 in
theorem c_X6_nothingUnless (l : Launch) (D : va_G) (cy : ClassId × ClassId × ClassId) (ad : Nat → Nat) (x1 : Int64) (u : St) : MX (wC cy ad) D cy l yX6_nothingUnless cX6_nothingUnless 3 (none) 2 43 0 [.ref (ad 18), .long x1] u (f_X6_nothingUnless x1 u) none := by
  refine entX (by decide +kernel) (Nat.le_of_ble_eq_true rfl) ?_
  intro p e s m args below meth c ls rr A E hr hlk hl w
  have hl : lv_has ls 3 [(0, .ref (ad 18)), (1, .long x1)] := hl
  generalize h : f_X6_nothingUnless x1 u = u'
  have hx := E.1
  have hb := E.2.1
  have hown := E.2.2.2.1
  have hts := E.2.2.2.2
  refine lv_aload_n hx hb (dq da_X6_nothingUnless 0 rfl) rfl (lv_at hl 0 rfl) ?_
  refine gt_wC_18_privilege E w w_251 (dq da_X6_nothingUnless 1 rfl) ?_
  refine lv_if_eq (tgt := 26) hx hb (dq da_X6_nothingUnless 2 rfl) (by decide) (fun c1 => ?_) (fun c1 => ?_)
  · have h := it c1 h
    exact b_X6_nothingUnless_b26 E hr hlk h (lv_sub hl [0] rfl) w
  · have h := ie c1 h
    refine lv_aload_n hx hb (dq da_X6_nothingUnless 3 rfl) rfl (lv_at hl 0 rfl) ?_
    refine gt_wC_18_privilege E w w_251 (dq da_X6_nothingUnless 4 rfl) ?_
    refine lv_iconst (v := 1) hx hb (dq da_X6_nothingUnless 5 rfl) rfl ?_
    refine lv_icmp_ne (tgt := 30) hx hb (dq da_X6_nothingUnless 6 rfl) (by decide) (fun c2 => ?_) (fun c2 => ?_)
    · have h := ie c2 h
      exact xret_v E hr hlk w (by decide) h (dq da_X6_nothingUnless 14 rfl)
    · have h := it c2 h
      refine lv_aload_n hx hb (dq da_X6_nothingUnless 7 rfl) rfl (lv_at hl 0 rfl) ?_
      refine gt_wC_18_controls E w w_246 (dq da_X6_nothingUnless 8 rfl) ?_
      refine lv_lload_n hx hb (dq da_X6_nothingUnless 9 rfl) rfl (lv_at hl 1 rfl) ?_
      refine cV1 E (c_X4_has l D cy ad _ _ ) w_664 w_665 w_666 w_7 w_667 rfl hd_X4_has rfl hl.1 rfl (Nat.le_of_ble_eq_true rfl) ⟨Nat.le_of_ble_eq_true rfl, Nat.le_of_ble_eq_true rfl⟩ (by decide) w (rc_wC_15 w) (dq da_X6_nothingUnless 10 rfl) (fun H locs rr w => ?_)
      refine lv_if_eq (tgt := 30) hx hb (dq da_X6_nothingUnless 11 rfl) (by decide) (fun c3 => ?_) (fun c3 => ?_)
      · have h := it c3 h
        exact xret_v E hr hlk w (by decide) h (dq da_X6_nothingUnless 14 rfl)
      · have h := ie c3 h
        exact b_X6_nothingUnless_b26 E hr hlk h (lv_sub hl [0] rfl) w
def dl_X6_returnFromMachine : List (Nat × Instr × Nat) := [(0, .aload_n 0, 1), (1, .getfield 21, 3), (4, .iconst 3, 1), (5, .if_icmp .eq 8, 3), (8, .aload_n 0, 1), (9, .invokevirtual 255, 3), (12, .return_, 1), (13, .aload_n 0, 1), (14, .aload_n 0, 1), (15, .getfield 35, 3), (18, .getfield 117, 3), (21, .getfield 120, 3), (24, .putfield 57, 3), (27, .aload_n 0, 1), (28, .aload_n 0, 1), (29, .getfield 35, 3), (32, .invokevirtual 338, 3), (35, .putfield 21, 3), (38, .aload_n 0, 1), (39, .getfield 31, 3), (42, .invokevirtual 147, 3), (45, .return_, 1)]
theorem da_X6_returnFromMachine : dkL cX6_returnFromMachine dl_X6_returnFromMachine = true := by decide +kernel
def f_X6_returnFromMachine (u : St) : St := if (gI u 16) = (3 : Int32) then (f_X1_endReservation (sI ((f_X4_leaveMachine (sL u 25 (gL u 15))).2) 16 ((f_X4_leaveMachine (sL u 25 (gL u 15))).1))) else (f_X6_illegal u)
set_option maxRecDepth 100000 in
set_option maxHeartbeats 4000000 in
theorem c_X6_returnFromMachine (l : Launch) (D : va_G) (cy : ClassId × ClassId × ClassId) (ad : Nat → Nat) (u : St) : MX (wC cy ad) D cy l yX6_returnFromMachine cX6_returnFromMachine 1 (none) 2 44 0 [.ref (ad 18)] u (f_X6_returnFromMachine u) none := by
  refine entX (by decide +kernel) (Nat.le_of_ble_eq_true rfl) ?_
  intro p e s m args below meth c ls rr A E hr hlk hl w
  have hl : lv_has ls 1 [(0, .ref (ad 18))] := hl
  generalize h : f_X6_returnFromMachine u = u'
  have hx := E.1
  have hb := E.2.1
  have hown := E.2.2.2.1
  have hts := E.2.2.2.2
  refine lv_aload_n hx hb (dq da_X6_returnFromMachine 0 rfl) rfl (lv_at hl 0 rfl) ?_
  refine gt_wC_18_privilege E w w_251 (dq da_X6_returnFromMachine 1 rfl) ?_
  refine lv_iconst (v := 3) hx hb (dq da_X6_returnFromMachine 2 rfl) rfl ?_
  refine lv_icmp_eq (tgt := 13) hx hb (dq da_X6_returnFromMachine 3 rfl) (by decide) (fun c1 => ?_) (fun c1 => ?_)
  · have h := it c1 h
    refine lv_aload_n hx hb (dq da_X6_returnFromMachine 7 rfl) rfl (lv_at hl 0 rfl) ?_
    refine lv_aload_n hx hb (dq da_X6_returnFromMachine 8 rfl) rfl (lv_at hl 0 rfl) ?_
    refine gt_wC_18_controls E w w_246 (dq da_X6_returnFromMachine 9 rfl) ?_
    refine gtN_wC_15_machine E w n_21 (dq da_X6_returnFromMachine 10 rfl) ?_
    refine gtN_wC_16_epc E w n_18 (dq da_X6_returnFromMachine 11 rfl) ?_
    refine pt_wC_18_next E w w_254 (dq da_X6_returnFromMachine 12 rfl) (fun H locs w => ?_)
    refine lv_aload_n hx hb (dq da_X6_returnFromMachine 13 rfl) rfl (lv_at hl 0 rfl) ?_
    refine lv_aload_n hx hb (dq da_X6_returnFromMachine 14 rfl) rfl (lv_at hl 0 rfl) ?_
    refine gt_wC_18_controls E w w_246 (dq da_X6_returnFromMachine 15 rfl) ?_
    refine cV1 E (c_X4_leaveMachine l D cy ad _ ) w_1013 w_1014 w_1015 w_7 w_1016 rfl hd_X4_leaveMachine rfl hl.1 rfl (Nat.le_of_ble_eq_true rfl) ⟨Nat.le_of_ble_eq_true rfl, Nat.le_of_ble_eq_true rfl⟩ (by decide) w (rc_wC_15 w) (dq da_X6_returnFromMachine 16 rfl) (fun H locs rr w => ?_)
    refine pt_wC_18_privilege E w w_251 (dq da_X6_returnFromMachine 17 rfl) (fun H locs w => ?_)
    refine lv_aload_n hx hb (dq da_X6_returnFromMachine 18 rfl) rfl (lv_at hl 0 rfl) ?_
    refine gt_wC_18_bus E w w_245 (dq da_X6_returnFromMachine 19 rfl) ?_
    refine cV0 E (c_X1_endReservation l D cy ad _ ) w_697 w_370 w_371 w_3 w_372 rfl hd_X1_endReservation rfl hl.1 rfl (Nat.le_of_ble_eq_true rfl) ⟨Nat.le_of_ble_eq_true rfl, Nat.le_of_ble_eq_true rfl⟩ (by decide) w (rc_wC_3 w) (dq da_X6_returnFromMachine 20 rfl) (fun H locs rr w => ?_)
    exact xret_v E hr hlk w (by decide) h (dq da_X6_returnFromMachine 21 rfl)
  · have h := ie c1 h
    refine lv_aload_n hx hb (dq da_X6_returnFromMachine 4 rfl) rfl (lv_at hl 0 rfl) ?_
    refine cV0 E (c_X6_illegal l D cy ad _ ) w_844 w_846 w_p22 w_9 w_847 rfl hd_X6_illegal rfl hl.1 rfl (Nat.le_of_ble_eq_true rfl) ⟨Nat.le_of_ble_eq_true rfl, Nat.le_of_ble_eq_true rfl⟩ (by decide) w (rc_wC_18 w) (dq da_X6_returnFromMachine 5 rfl) (fun H locs rr w => ?_)
    exact xret_v E hr hlk w (by decide) h (dq da_X6_returnFromMachine 6 rfl)
def dl_X6_returnFromSupervisor : List (Nat × Instr × Nat) := [(0, .aload_n 0, 1), (1, .getfield 21, 3), (4, .ifCond .eq 24, 3), (7, .aload_n 0, 1), (8, .getfield 21, 3), (11, .iconst 1, 1), (12, .if_icmp .ne 21, 3), (15, .aload_n 0, 1), (16, .getfield 35, 3), (19, .ldc2_w 341, 3), (22, .invokevirtual 96, 3), (25, .ifCond .eq 8, 3), (28, .aload_n 0, 1), (29, .invokevirtual 255, 3), (32, .return_, 1), (33, .aload_n 0, 1), (34, .aload_n 0, 1), (35, .getfield 35, 3), (38, .getfield 113, 3), (41, .getfield 120, 3), (44, .putfield 57, 3), (47, .aload_n 0, 1), (48, .aload_n 0, 1), (49, .getfield 35, 3), (52, .invokevirtual 343, 3), (55, .putfield 21, 3), (58, .aload_n 0, 1), (59, .getfield 31, 3), (62, .invokevirtual 147, 3), (65, .return_, 1)]
theorem da_X6_returnFromSupervisor : dkL cX6_returnFromSupervisor dl_X6_returnFromSupervisor = true := by decide +kernel
def f_X6_returnFromSupervisor_b28 (u : St) : St := (f_X6_illegal u)
set_option maxRecDepth 100000 in
set_option maxHeartbeats 4000000 in
theorem b_X6_returnFromSupervisor_b28 {p : Program} {l : Launch} {e : Env} {s : State} {m : MethodId} {args : Array Value} {below : List Frame} {meth : Method} {c : Code} {D : va_G} {cy : ClassId × ClassId × ClassId} {ad : Nat → Nat} {A : Nat → Prop} (E : CallFix p m c cX6_returnFromSupervisor 1 s args gw RX6) (hr : meth.sig.returnType = none) (hlk : meth.locks = false) {u : St} {u' : St} (h : f_X6_returnFromSupervisor_b28 u = u') {ls : Array Slot} {H : Heap} {locs : List Loc} {rr : Nat → Nat} (hl : lv_has ls 1 [(0, .ref (ad 18))]) (w : WX (wC cy ad) D cy rr u A s H locs) : Wx (wC cy ad) D p l e 2 44 0 s m args below meth c A u' none H locs 0 28 ls [] := by
  have hx := E.1
  have hb := E.2.1
  have hown := E.2.2.2.1
  have hts := E.2.2.2.2
  refine lv_aload_n hx hb (dq da_X6_returnFromSupervisor 12 rfl) rfl (lv_at hl 0 rfl) ?_
  refine cV0 E (c_X6_illegal l D cy ad _ ) w_844 w_846 w_p22 w_9 w_847 rfl hd_X6_illegal rfl hl.1 rfl (Nat.le_of_ble_eq_true rfl) ⟨Nat.le_of_ble_eq_true rfl, Nat.le_of_ble_eq_true rfl⟩ (by decide) w (rc_wC_18 w) (dq da_X6_returnFromSupervisor 13 rfl) (fun H locs rr w => ?_)
  exact xret_v E hr hlk w (by decide) h (dq da_X6_returnFromSupervisor 14 rfl)
def f_X6_returnFromSupervisor_b33 (u : St) : St := (f_X1_endReservation (sI ((f_X4_leaveSupervisor (sL u 25 (gL u 21))).2) 16 ((f_X4_leaveSupervisor (sL u 25 (gL u 21))).1)))
set_option maxRecDepth 100000 in
set_option maxHeartbeats 4000000 in
theorem b_X6_returnFromSupervisor_b33 {p : Program} {l : Launch} {e : Env} {s : State} {m : MethodId} {args : Array Value} {below : List Frame} {meth : Method} {c : Code} {D : va_G} {cy : ClassId × ClassId × ClassId} {ad : Nat → Nat} {A : Nat → Prop} (E : CallFix p m c cX6_returnFromSupervisor 1 s args gw RX6) (hr : meth.sig.returnType = none) (hlk : meth.locks = false) {u : St} {u' : St} (h : f_X6_returnFromSupervisor_b33 u = u') {ls : Array Slot} {H : Heap} {locs : List Loc} {rr : Nat → Nat} (hl : lv_has ls 1 [(0, .ref (ad 18))]) (w : WX (wC cy ad) D cy rr u A s H locs) : Wx (wC cy ad) D p l e 2 44 0 s m args below meth c A u' none H locs 0 33 ls [] := by
  have hx := E.1
  have hb := E.2.1
  have hown := E.2.2.2.1
  have hts := E.2.2.2.2
  refine lv_aload_n hx hb (dq da_X6_returnFromSupervisor 15 rfl) rfl (lv_at hl 0 rfl) ?_
  refine lv_aload_n hx hb (dq da_X6_returnFromSupervisor 16 rfl) rfl (lv_at hl 0 rfl) ?_
  refine gt_wC_18_controls E w w_246 (dq da_X6_returnFromSupervisor 17 rfl) ?_
  refine gtN_wC_15_supervisor E w n_22 (dq da_X6_returnFromSupervisor 18 rfl) ?_
  refine gtN_wC_17_epc E w n_18 (dq da_X6_returnFromSupervisor 19 rfl) ?_
  refine pt_wC_18_next E w w_254 (dq da_X6_returnFromSupervisor 20 rfl) (fun H locs w => ?_)
  refine lv_aload_n hx hb (dq da_X6_returnFromSupervisor 21 rfl) rfl (lv_at hl 0 rfl) ?_
  refine lv_aload_n hx hb (dq da_X6_returnFromSupervisor 22 rfl) rfl (lv_at hl 0 rfl) ?_
  refine gt_wC_18_controls E w w_246 (dq da_X6_returnFromSupervisor 23 rfl) ?_
  refine cV1 E (c_X4_leaveSupervisor l D cy ad _ ) w_1024 w_1025 w_1026 w_7 w_1027 rfl hd_X4_leaveSupervisor rfl hl.1 rfl (Nat.le_of_ble_eq_true rfl) ⟨Nat.le_of_ble_eq_true rfl, Nat.le_of_ble_eq_true rfl⟩ (by decide) w (rc_wC_15 w) (dq da_X6_returnFromSupervisor 24 rfl) (fun H locs rr w => ?_)
  refine pt_wC_18_privilege E w w_251 (dq da_X6_returnFromSupervisor 25 rfl) (fun H locs w => ?_)
  refine lv_aload_n hx hb (dq da_X6_returnFromSupervisor 26 rfl) rfl (lv_at hl 0 rfl) ?_
  refine gt_wC_18_bus E w w_245 (dq da_X6_returnFromSupervisor 27 rfl) ?_
  refine cV0 E (c_X1_endReservation l D cy ad _ ) w_697 w_370 w_371 w_3 w_372 rfl hd_X1_endReservation rfl hl.1 rfl (Nat.le_of_ble_eq_true rfl) ⟨Nat.le_of_ble_eq_true rfl, Nat.le_of_ble_eq_true rfl⟩ (by decide) w (rc_wC_3 w) (dq da_X6_returnFromSupervisor 28 rfl) (fun H locs rr w => ?_)
  exact xret_v E hr hlk w (by decide) h (dq da_X6_returnFromSupervisor 29 rfl)
def f_X6_returnFromSupervisor (u : St) : St := if (gI u 16) = (0 : Int32) then (f_X6_returnFromSupervisor_b28 u) else (if (gI u 16) = (1 : Int32) then (if (f_X4_has (4194304 : Int64) u) = (0 : Int32) then (f_X6_returnFromSupervisor_b33 u) else (f_X6_returnFromSupervisor_b28 u)) else (f_X6_returnFromSupervisor_b33 u))
set_option maxRecDepth 100000 in
set_option maxHeartbeats 4000000 in
theorem c_X6_returnFromSupervisor (l : Launch) (D : va_G) (cy : ClassId × ClassId × ClassId) (ad : Nat → Nat) (u : St) : MX (wC cy ad) D cy l yX6_returnFromSupervisor cX6_returnFromSupervisor 1 (none) 2 44 0 [.ref (ad 18)] u (f_X6_returnFromSupervisor u) none := by
  refine entX (by decide +kernel) (Nat.le_of_ble_eq_true rfl) ?_
  intro p e s m args below meth c ls rr A E hr hlk hl w
  have hl : lv_has ls 1 [(0, .ref (ad 18))] := hl
  generalize h : f_X6_returnFromSupervisor u = u'
  have hx := E.1
  have hb := E.2.1
  have hown := E.2.2.2.1
  have hts := E.2.2.2.2
  refine lv_aload_n hx hb (dq da_X6_returnFromSupervisor 0 rfl) rfl (lv_at hl 0 rfl) ?_
  refine gt_wC_18_privilege E w w_251 (dq da_X6_returnFromSupervisor 1 rfl) ?_
  refine lv_if_eq (tgt := 28) hx hb (dq da_X6_returnFromSupervisor 2 rfl) (by decide) (fun c1 => ?_) (fun c1 => ?_)
  · have h := it c1 h
    exact b_X6_returnFromSupervisor_b28 E hr hlk h (lv_sub hl [0] rfl) w
  · have h := ie c1 h
    refine lv_aload_n hx hb (dq da_X6_returnFromSupervisor 3 rfl) rfl (lv_at hl 0 rfl) ?_
    refine gt_wC_18_privilege E w w_251 (dq da_X6_returnFromSupervisor 4 rfl) ?_
    refine lv_iconst (v := 1) hx hb (dq da_X6_returnFromSupervisor 5 rfl) rfl ?_
    refine lv_icmp_ne (tgt := 33) hx hb (dq da_X6_returnFromSupervisor 6 rfl) (by decide) (fun c2 => ?_) (fun c2 => ?_)
    · have h := ie c2 h
      exact b_X6_returnFromSupervisor_b33 E hr hlk h (lv_sub hl [0] rfl) w
    · have h := it c2 h
      refine lv_aload_n hx hb (dq da_X6_returnFromSupervisor 7 rfl) rfl (lv_at hl 0 rfl) ?_
      refine gt_wC_18_controls E w w_246 (dq da_X6_returnFromSupervisor 8 rfl) ?_
      refine lv_ldc2 hx hb hown (hts _ w_1023) (dq da_X6_returnFromSupervisor 9 rfl) ?_
      refine cV1 E (c_X4_has l D cy ad _ _ ) w_664 w_665 w_666 w_7 w_667 rfl hd_X4_has rfl hl.1 rfl (Nat.le_of_ble_eq_true rfl) ⟨Nat.le_of_ble_eq_true rfl, Nat.le_of_ble_eq_true rfl⟩ (by decide) w (rc_wC_15 w) (dq da_X6_returnFromSupervisor 10 rfl) (fun H locs rr w => ?_)
      refine lv_if_eq (tgt := 33) hx hb (dq da_X6_returnFromSupervisor 11 rfl) (by decide) (fun c3 => ?_) (fun c3 => ?_)
      · have h := it c3 h
        exact b_X6_returnFromSupervisor_b33 E hr hlk h (lv_sub hl [0] rfl) w
      · have h := ie c3 h
        exact b_X6_returnFromSupervisor_b28 E hr hlk h (lv_sub hl [0] rfl) w
def dl_X6_system : List (Nat × Instr × Nat) := [(0, .iload_n 1, 1), (1, .lookupswitch 102 #[(115, 51), (1048691, 66), (270532723, 85), (273678451, 92), (807403635, 78)], 51), (52, .aload_n 0, 1), (53, .bipush 8, 2), (55, .aload_n 0, 1), (56, .getfield 21, 3), (59, .iadd, 1), (60, .lconst 0, 1), (61, .invokevirtual 155, 3), (64, .goto 72, 3), (67, .aload_n 0, 1), (68, .iconst 3, 1), (69, .aload_n 0, 1), (70, .getfield 17, 3), (73, .invokevirtual 155, 3), (76, .goto 60, 3), (79, .aload_n 0, 1), (80, .invokevirtual 324, 3), (83, .goto 53, 3), (86, .aload_n 0, 1), (87, .invokevirtual 327, 3), (90, .goto 46, 3), (93, .aload_n 0, 1), (94, .ldc2_w 330, 3), (97, .invokevirtual 332, 3), (100, .goto 36, 3), (103, .iload_n 1, 1), (104, .bipush 25, 2), (106, .iushr, 1), (107, .bipush 9, 2), (109, .if_icmp .ne 23, 3), (112, .iload_n 1, 1), (113, .bipush 7, 2), (115, .ishr, 1), (116, .bipush 31, 2), (118, .iand, 1), (119, .ifCond .ne 13, 3), (122, .aload_n 0, 1), (123, .ldc2_w 336, 3), (126, .invokevirtual 332, 3), (129, .goto 7, 3), (132, .aload_n 0, 1), (133, .invokevirtual 255, 3), (136, .return_, 1)]
theorem da_X6_system : dkL cX6_system dl_X6_system = true := by decide +kernel
def f_X6_system_b132 (u : St) : St := (f_X6_illegal u)
set_option maxRecDepth 100000 in
set_option maxHeartbeats 4000000 in
theorem b_X6_system_b132 {p : Program} {l : Launch} {e : Env} {s : State} {m : MethodId} {args : Array Value} {below : List Frame} {meth : Method} {c : Code} {D : va_G} {cy : ClassId × ClassId × ClassId} {ad : Nat → Nat} {A : Nat → Prop} (E : CallFix p m c cX6_system 2 s args gw RX6) (hr : meth.sig.returnType = none) (hlk : meth.locks = false) {u : St} {u' : St} (h : f_X6_system_b132 u = u') {ls : Array Slot} {H : Heap} {locs : List Loc} {rr : Nat → Nat} (hl : lv_has ls 2 [(0, .ref (ad 18))]) (w : WX (wC cy ad) D cy rr u A s H locs) : Wx (wC cy ad) D p l e 3 65 0 s m args below meth c A u' none H locs 0 132 ls [] := by
  have hx := E.1
  have hb := E.2.1
  have hown := E.2.2.2.1
  have hts := E.2.2.2.2
  refine lv_aload_n hx hb (dq da_X6_system 41 rfl) rfl (lv_at hl 0 rfl) ?_
  refine cV0 E (c_X6_illegal l D cy ad _ ) w_844 w_846 w_p22 w_9 w_847 rfl hd_X6_illegal rfl hl.1 rfl (Nat.le_of_ble_eq_true rfl) ⟨Nat.le_of_ble_eq_true rfl, Nat.le_of_ble_eq_true rfl⟩ (by decide) w (rc_wC_18 w) (dq da_X6_system 42 rfl) (fun H locs rr w => ?_)
  exact xret_v E hr hlk w (by decide) h (dq da_X6_system 43 rfl)
def f_X6_system (x1 : Int32) (u : St) : St := if x1 = (115 : Int32) then (f_X6_fail ((8 : Int32) + (gI u 16)) (0 : Int64) u) else if x1 = (1048691 : Int32) then (f_X6_fail (3 : Int32) (gL u 24) u) else if x1 = (270532723 : Int32) then (f_X6_returnFromSupervisor u) else if x1 = (273678451 : Int32) then (f_X6_nothingUnless (2097152 : Int64) u) else if x1 = (807403635 : Int32) then (f_X6_returnFromMachine u) else (if (j_iushr x1 (25 : Int32)) = (9 : Int32) then (if ((x1 >>> ((7 : Int32) &&& 31)) &&& (31 : Int32)) = (0 : Int32) then (f_X6_nothingUnless (1048576 : Int64) u) else (f_X6_system_b132 u)) else (f_X6_system_b132 u))
set_option maxRecDepth 100000 in
set_option maxHeartbeats 4000000 in
theorem c_X6_system (l : Launch) (D : va_G) (cy : ClassId × ClassId × ClassId) (ad : Nat → Nat) (x1 : Int32) (u : St) : MX (wC cy ad) D cy l yX6_system cX6_system 2 (none) 3 65 0 [.ref (ad 18), .int x1] u (f_X6_system x1 u) none := by
  refine entX (by decide +kernel) (Nat.le_of_ble_eq_true rfl) ?_
  intro p e s m args below meth c ls rr A E hr hlk hl w
  have hl : lv_has ls 2 [(0, .ref (ad 18)), (1, .int x1)] := hl
  generalize h : f_X6_system x1 u = u'
  have hx := E.1
  have hb := E.2.1
  have hown := E.2.2.2.1
  have hts := E.2.2.2.2
  refine lv_iload_n hx hb (dq da_X6_system 0 rfl) rfl (lv_at hl 1 rfl) ?_
  by_cases c1 : x1 = (115 : Int32)
  · have h := it c1 h
    refine lv_lookup (off := 51) (tgt := 52) hx hb (dq da_X6_system 1 rfl) (by decide +kernel) (by rw [c1]; decide +kernel) (by decide) ?_
    refine lv_aload_n hx hb (dq da_X6_system 2 rfl) rfl (lv_at hl 0 rfl) ?_
    refine lv_bipush (v := 8) hx hb (dq da_X6_system 3 rfl) rfl ?_
    refine lv_aload_n hx hb (dq da_X6_system 4 rfl) rfl (lv_at hl 0 rfl) ?_
    refine gt_wC_18_privilege E w w_251 (dq da_X6_system 5 rfl) ?_
    refine lv_iadd hx hb (dq da_X6_system 6 rfl) ?_
    refine lv_lconst (v := 0) hx hb (dq da_X6_system 7 rfl) rfl ?_
    refine cV0 E (c_X6_fail l D cy ad _ _ _ ) w_710 w_712 w_p16 w_9 w_713 rfl hd_X6_fail rfl hl.1 rfl (Nat.le_of_ble_eq_true rfl) ⟨Nat.le_of_ble_eq_true rfl, Nat.le_of_ble_eq_true rfl⟩ (by decide) w (rc_wC_18 w) (dq da_X6_system 8 rfl) (fun H locs rr w => ?_)
    refine lv_goto (tgt := 136) hx hb (dq da_X6_system 9 rfl) (by decide) ?_
    exact xret_v E hr hlk w (by decide) h (dq da_X6_system 43 rfl)
  · have h := ie c1 h
    by_cases c2 : x1 = (1048691 : Int32)
    · have h := it c2 h
      refine lv_lookup (off := 66) (tgt := 67) hx hb (dq da_X6_system 1 rfl) (by decide +kernel) (by rw [c2]; decide +kernel) (by decide) ?_
      refine lv_aload_n hx hb (dq da_X6_system 10 rfl) rfl (lv_at hl 0 rfl) ?_
      refine lv_iconst (v := 3) hx hb (dq da_X6_system 11 rfl) rfl ?_
      refine lv_aload_n hx hb (dq da_X6_system 12 rfl) rfl (lv_at hl 0 rfl) ?_
      refine gt_wC_18_pc E w w_249 (dq da_X6_system 13 rfl) ?_
      refine cV0 E (c_X6_fail l D cy ad _ _ _ ) w_710 w_712 w_p16 w_9 w_713 rfl hd_X6_fail rfl hl.1 rfl (Nat.le_of_ble_eq_true rfl) ⟨Nat.le_of_ble_eq_true rfl, Nat.le_of_ble_eq_true rfl⟩ (by decide) w (rc_wC_18 w) (dq da_X6_system 14 rfl) (fun H locs rr w => ?_)
      refine lv_goto (tgt := 136) hx hb (dq da_X6_system 15 rfl) (by decide) ?_
      exact xret_v E hr hlk w (by decide) h (dq da_X6_system 43 rfl)
    · have h := ie c2 h
      by_cases c3 : x1 = (270532723 : Int32)
      · have h := it c3 h
        refine lv_lookup (off := 85) (tgt := 86) hx hb (dq da_X6_system 1 rfl) (by decide +kernel) (by rw [c3]; decide +kernel) (by decide) ?_
        refine lv_aload_n hx hb (dq da_X6_system 19 rfl) rfl (lv_at hl 0 rfl) ?_
        refine cV0 E (c_X6_returnFromSupervisor l D cy ad _ ) w_1019 w_1021 w_p38 w_9 w_1022 rfl hd_X6_returnFromSupervisor rfl hl.1 rfl (Nat.le_of_ble_eq_true rfl) ⟨Nat.le_of_ble_eq_true rfl, Nat.le_of_ble_eq_true rfl⟩ (by decide) w (rc_wC_18 w) (dq da_X6_system 20 rfl) (fun H locs rr w => ?_)
        refine lv_goto (tgt := 136) hx hb (dq da_X6_system 21 rfl) (by decide) ?_
        exact xret_v E hr hlk w (by decide) h (dq da_X6_system 43 rfl)
      · have h := ie c3 h
        by_cases c4 : x1 = (273678451 : Int32)
        · have h := it c4 h
          refine lv_lookup (off := 92) (tgt := 93) hx hb (dq da_X6_system 1 rfl) (by decide +kernel) (by rw [c4]; decide +kernel) (by decide) ?_
          refine lv_aload_n hx hb (dq da_X6_system 22 rfl) rfl (lv_at hl 0 rfl) ?_
          refine lv_ldc2 hx hb hown (hts _ w_1028) (dq da_X6_system 23 rfl) ?_
          refine cV0 E (c_X6_nothingUnless l D cy ad _ _ ) w_1029 w_1031 w_p39 w_9 w_1032 rfl hd_X6_nothingUnless rfl hl.1 rfl (Nat.le_of_ble_eq_true rfl) ⟨Nat.le_of_ble_eq_true rfl, Nat.le_of_ble_eq_true rfl⟩ (by decide) w (rc_wC_18 w) (dq da_X6_system 24 rfl) (fun H locs rr w => ?_)
          refine lv_goto (tgt := 136) hx hb (dq da_X6_system 25 rfl) (by decide) ?_
          exact xret_v E hr hlk w (by decide) h (dq da_X6_system 43 rfl)
        · have h := ie c4 h
          by_cases c5 : x1 = (807403635 : Int32)
          · have h := it c5 h
            refine lv_lookup (off := 78) (tgt := 79) hx hb (dq da_X6_system 1 rfl) (by decide +kernel) (by rw [c5]; decide +kernel) (by decide) ?_
            refine lv_aload_n hx hb (dq da_X6_system 16 rfl) rfl (lv_at hl 0 rfl) ?_
            refine cV0 E (c_X6_returnFromMachine l D cy ad _ ) w_1009 w_1011 w_p37 w_9 w_1012 rfl hd_X6_returnFromMachine rfl hl.1 rfl (Nat.le_of_ble_eq_true rfl) ⟨Nat.le_of_ble_eq_true rfl, Nat.le_of_ble_eq_true rfl⟩ (by decide) w (rc_wC_18 w) (dq da_X6_system 17 rfl) (fun H locs rr w => ?_)
            refine lv_goto (tgt := 136) hx hb (dq da_X6_system 18 rfl) (by decide) ?_
            exact xret_v E hr hlk w (by decide) h (dq da_X6_system 43 rfl)
          · have h := ie c5 h
            refine lv_lookup (off := 102) (tgt := 103) hx hb (dq da_X6_system 1 rfl) (by decide +kernel) (by show Op.lookupswitch.offset [(115, 51), (1048691, 66), (270532723, 85), (273678451, 92), (807403635, 78)] (102) _ = _; rw [lv_osw (k := (115 : Int32)) (a := 115) c1 rfl, lv_osw (k := (1048691 : Int32)) (a := 1048691) c2 rfl, lv_osw (k := (270532723 : Int32)) (a := 270532723) c3 rfl, lv_osw (k := (273678451 : Int32)) (a := 273678451) c4 rfl, lv_osw (k := (807403635 : Int32)) (a := 807403635) c5 rfl]; rfl) (by decide) ?_
            refine lv_iload_n hx hb (dq da_X6_system 26 rfl) rfl (lv_at hl 1 rfl) ?_
            refine lv_bipush (v := 25) hx hb (dq da_X6_system 27 rfl) rfl ?_
            refine lv_iushr (v := (j_iushr x1 (25 : Int32))) hx hb (dq da_X6_system 28 rfl) rfl ?_
            refine lv_bipush (v := 9) hx hb (dq da_X6_system 29 rfl) rfl ?_
            refine lv_icmp_ne (tgt := 132) hx hb (dq da_X6_system 30 rfl) (by decide) (fun c6 => ?_) (fun c6 => ?_)
            · have h := ie c6 h
              exact b_X6_system_b132 E hr hlk h (lv_sub hl [0] rfl) w
            · have h := it c6 h
              refine lv_iload_n hx hb (dq da_X6_system 31 rfl) rfl (lv_at hl 1 rfl) ?_
              refine lv_bipush (v := 7) hx hb (dq da_X6_system 32 rfl) rfl ?_
              refine lv_ishr hx hb (dq da_X6_system 33 rfl) ?_
              refine lv_bipush (v := 31) hx hb (dq da_X6_system 34 rfl) rfl ?_
              refine lv_iand hx hb (dq da_X6_system 35 rfl) ?_
              refine lv_if_ne (tgt := 132) hx hb (dq da_X6_system 36 rfl) (by decide) (fun c7 => ?_) (fun c7 => ?_)
              · have h := ie c7 h
                exact b_X6_system_b132 E hr hlk h (lv_sub hl [0] rfl) w
              · have h := it c7 h
                refine lv_aload_n hx hb (dq da_X6_system 37 rfl) rfl (lv_at hl 0 rfl) ?_
                refine lv_ldc2 hx hb hown (hts _ w_1033) (dq da_X6_system 38 rfl) ?_
                refine cV0 E (c_X6_nothingUnless l D cy ad _ _ ) w_1029 w_1031 w_p39 w_9 w_1032 rfl hd_X6_nothingUnless rfl hl.1 rfl (Nat.le_of_ble_eq_true rfl) ⟨Nat.le_of_ble_eq_true rfl, Nat.le_of_ble_eq_true rfl⟩ (by decide) w (rc_wC_18 w) (dq da_X6_system 39 rfl) (fun H locs rr w => ?_)
                refine lv_goto (tgt := 136) hx hb (dq da_X6_system 40 rfl) (by decide) ?_
                exact xret_v E hr hlk w (by decide) h (dq da_X6_system 43 rfl)
def dl_X6_controlInstruction : List (Nat × Instr × Nat) := [(0, .iload_n 1, 1), (1, .invokestatic 246, 3), (4, .iconst 3, 1), (5, .iand, 1), (6, .istore_n 2, 1), (7, .iload_n 1, 1), (8, .bipush 20, 2), (10, .iushr, 1), (11, .istore_n 3, 1), (12, .iload_n 1, 1), (13, .bipush 15, 2), (15, .ishr, 1), (16, .bipush 31, 2), (18, .iand, 1), (19, .istore 4, 2), (21, .iload_n 2, 1), (22, .iconst 1, 1), (23, .if_icmp .eq 8, 3), (26, .iload 4, 2), (28, .ifCond .eq 7, 3), (31, .iconst 1, 1), (32, .goto 4, 3), (35, .iconst 0, 1), (36, .istore 5, 2), (38, .iload_n 2, 1), (39, .ifCond .eq 20, 3), (42, .aload_n 0, 1), (43, .getfield 35, 3), (46, .iload_n 3, 1), (47, .aload_n 0, 1), (48, .getfield 21, 3), (51, .iload 5, 2), (53, .invokevirtual 346, 3), (56, .ifCond .ne 8, 3), (59, .aload_n 0, 1), (60, .invokevirtual 255, 3), (63, .return_, 1), (64, .iload_n 1, 1), (65, .invokestatic 246, 3), (68, .iconst 3, 1), (69, .if_icmp .le 9, 3), (72, .iload 4, 2), (74, .i2l, 1), (75, .goto 8, 3), (78, .aload_n 0, 1), (79, .iload_n 1, 1), (80, .invokevirtual 259, 3), (83, .lstore 6, 2), (85, .aload_n 0, 1), (86, .getfield 35, 3), (89, .iload_n 3, 1), (90, .invokevirtual 350, 3), (93, .lstore 8, 2), (95, .iload 5, 2), (97, .ifCond .eq 43, 3), (100, .aload_n 0, 1), (101, .getfield 35, 3), (104, .iload_n 3, 1), (105, .iload_n 2, 1), (106, .iconst 1, 1), (107, .if_icmp .ne 8, 3), (110, .lload 6, 2), (112, .goto 25, 3), (115, .iload_n 2, 1), (116, .iconst 2, 1), (117, .if_icmp .ne 11, 3), (120, .lload 8, 2), (122, .lload 6, 2), (124, .lor, 1), (125, .goto 12, 3), (128, .lload 8, 2), (130, .lload 6, 2), (132, .ldc2_w 92, 3), (135, .lxor, 1), (136, .land, 1), (137, .invokevirtual 352, 3), (140, .aload_n 0, 1), (141, .iload_n 1, 1), (142, .lload 8, 2), (144, .invokevirtual 207, 3), (147, .return_, 1)]
theorem da_X6_controlInstruction : dkL cX6_controlInstruction dl_X6_controlInstruction = true := by decide +kernel
def f_X6_controlInstruction_b59 (u : St) : Option (St) := some (f_X6_illegal u)
set_option maxRecDepth 100000 in
set_option maxHeartbeats 4000000 in
theorem b_X6_controlInstruction_b59 {p : Program} {l : Launch} {e : Env} {s : State} {m : MethodId} {args : Array Value} {below : List Frame} {meth : Method} {c : Code} {D : va_G} {cy : ClassId × ClassId × ClassId} {ad : Nat → Nat} {A : Nat → Prop} (E : CallFix p m c cX6_controlInstruction 10 s args gw RX6) (hr : meth.sig.returnType = none) (hlk : meth.locks = false) {u : St} {u' : St} (h : f_X6_controlInstruction_b59 u = some u') {ls : Array Slot} {H : Heap} {locs : List Loc} {rr : Nat → Nat} (hl : lv_has ls 10 [(0, .ref (ad 18))]) (w : WX (wC cy ad) D cy rr u A s H locs) : Wx (wC cy ad) D p l e 3 71 0 s m args below meth c A u' none H locs 0 59 ls [] := by
  have hx := E.1
  have hb := E.2.1
  have hown := E.2.2.2.1
  have hts := E.2.2.2.2
  refine lv_aload_n hx hb (dq da_X6_controlInstruction 34 rfl) rfl (lv_at hl 0 rfl) ?_
  refine cV0 E (c_X6_illegal l D cy ad _ ) w_844 w_846 w_p22 w_9 w_847 rfl hd_X6_illegal rfl hl.1 rfl (Nat.le_of_ble_eq_true rfl) ⟨Nat.le_of_ble_eq_true rfl, Nat.le_of_ble_eq_true rfl⟩ (by decide) w (rc_wC_18 w) (dq da_X6_controlInstruction 35 rfl) (fun H locs rr w => ?_)
  exact xret_v E hr hlk w (by decide) (os h) (dq da_X6_controlInstruction 36 rfl)
def f_X6_controlInstruction_b140 (x1 : Int32) (x8 : Int64) (u : St) : Option (St) := (f_X6_putRd x1 x8 u).bind (fun y12 => some y12)
set_option maxRecDepth 100000 in
set_option maxHeartbeats 4000000 in
theorem b_X6_controlInstruction_b140 {p : Program} {l : Launch} {e : Env} {s : State} {m : MethodId} {args : Array Value} {below : List Frame} {meth : Method} {c : Code} {D : va_G} {cy : ClassId × ClassId × ClassId} {ad : Nat → Nat} {A : Nat → Prop} (E : CallFix p m c cX6_controlInstruction 10 s args gw RX6) (hr : meth.sig.returnType = none) (hlk : meth.locks = false) {x1 : Int32} {x8 : Int64} {u : St} {u' : St} (h : f_X6_controlInstruction_b140 x1 x8 u = some u') {ls : Array Slot} {H : Heap} {locs : List Loc} {rr : Nat → Nat} (hl : lv_has ls 10 [(0, .ref (ad 18)), (1, .int x1), (8, .long x8)]) (w : WX (wC cy ad) D cy rr u A s H locs) : Wx (wC cy ad) D p l e 3 71 0 s m args below meth c A u' none H locs 0 140 ls [] := by
  have hx := E.1
  have hb := E.2.1
  have hown := E.2.2.2.1
  have hts := E.2.2.2.2
  refine lv_aload_n hx hb (dq da_X6_controlInstruction 76 rfl) rfl (lv_at hl 0 rfl) ?_
  refine lv_iload_n hx hb (dq da_X6_controlInstruction 77 rfl) rfl (lv_at hl 1 rfl) ?_
  refine lv_lload hx hb (dq da_X6_controlInstruction 78 rfl) (lv_at hl 2 rfl) ?_
  obtain ⟨y12, hy13, h⟩ := ob h
  refine cV0 E (c_X6_putRd l D cy ad _ _ _ hy13) w_820 w_822 w_p18 w_9 w_823 rfl hd_X6_putRd rfl hl.1 rfl (Nat.le_of_ble_eq_true rfl) ⟨Nat.le_of_ble_eq_true rfl, Nat.le_of_ble_eq_true rfl⟩ (by decide) w (rc_wC_18 w) (dq da_X6_controlInstruction 79 rfl) (fun H locs rr w => ?_)
  exact xret_v E hr hlk w (by decide) (os h) (dq da_X6_controlInstruction 80 rfl)
def f_X6_controlInstruction_b137 (x1 : Int32) (x8 : Int64) (s0 : Int64) (s1 : Int32) (u : St) : Option (St) := f_X6_controlInstruction_b140 x1 x8 (f_X4_write s1 s0 u)
set_option maxRecDepth 100000 in
set_option maxHeartbeats 4000000 in
theorem b_X6_controlInstruction_b137 {p : Program} {l : Launch} {e : Env} {s : State} {m : MethodId} {args : Array Value} {below : List Frame} {meth : Method} {c : Code} {D : va_G} {cy : ClassId × ClassId × ClassId} {ad : Nat → Nat} {A : Nat → Prop} (E : CallFix p m c cX6_controlInstruction 10 s args gw RX6) (hr : meth.sig.returnType = none) (hlk : meth.locks = false) {x1 : Int32} {x8 : Int64} {s0 : Int64} {s1 : Int32} {u : St} {u' : St} (h : f_X6_controlInstruction_b137 x1 x8 s0 s1 u = some u') {ls : Array Slot} {H : Heap} {locs : List Loc} {rr : Nat → Nat} (hl : lv_has ls 10 [(0, .ref (ad 18)), (1, .int x1), (8, .long x8)]) (w : WX (wC cy ad) D cy rr u A s H locs) : Wx (wC cy ad) D p l e 3 71 0 s m args below meth c A u' none H locs 0 137 ls [.long s0, .int s1, .ref (ad 15)] := by
  have hx := E.1
  have hb := E.2.1
  have hown := E.2.2.2.1
  have hts := E.2.2.2.2
  refine cV0 E (c_X4_write l D cy ad _ _ _ ) w_1049 w_599 w_600 w_7 w_601 rfl hd_X4_write rfl hl.1 rfl (Nat.le_of_ble_eq_true rfl) ⟨Nat.le_of_ble_eq_true rfl, Nat.le_of_ble_eq_true rfl⟩ (by decide) w (rc_wC_15 w) (dq da_X6_controlInstruction 75 rfl) (fun H locs rr w => ?_)
  exact b_X6_controlInstruction_b140 E hr hlk h (lv_sub hl [0, 1, 2] rfl) w
def f_X6_controlInstruction_b83 (x1 : Int32) (x2 : Int32) (x3 : Int32) (x5 : Int32) (s0 : Int64) (u : St) : Option (St) := (f_X4_read x3 u).bind (fun y9 => if x5 = (0 : Int32) then (f_X6_controlInstruction_b140 x1 y9 u) else (if x2 = (1 : Int32) then (f_X6_controlInstruction_b137 x1 y9 s0 x3 u) else (if x2 = (2 : Int32) then (f_X6_controlInstruction_b137 x1 y9 (y9 ||| s0) x3 u) else (f_X6_controlInstruction_b137 x1 y9 (y9 &&& (s0 ^^^ (-1 : Int64))) x3 u))))
set_option maxRecDepth 100000 in
set_option maxHeartbeats 4000000 in
theorem b_X6_controlInstruction_b83 {p : Program} {l : Launch} {e : Env} {s : State} {m : MethodId} {args : Array Value} {below : List Frame} {meth : Method} {c : Code} {D : va_G} {cy : ClassId × ClassId × ClassId} {ad : Nat → Nat} {A : Nat → Prop} (E : CallFix p m c cX6_controlInstruction 10 s args gw RX6) (hr : meth.sig.returnType = none) (hlk : meth.locks = false) {x1 : Int32} {x2 : Int32} {x3 : Int32} {x5 : Int32} {s0 : Int64} {u : St} {u' : St} (h : f_X6_controlInstruction_b83 x1 x2 x3 x5 s0 u = some u') {ls : Array Slot} {H : Heap} {locs : List Loc} {rr : Nat → Nat} (hl : lv_has ls 10 [(0, .ref (ad 18)), (1, .int x1), (2, .int x2), (3, .int x3), (5, .int x5)]) (w : WX (wC cy ad) D cy rr u A s H locs) : Wx (wC cy ad) D p l e 3 71 0 s m args below meth c A u' none H locs 0 83 ls [.long s0] := by
  have hx := E.1
  have hb := E.2.1
  have hown := E.2.2.2.1
  have hts := E.2.2.2.2
  refine lv_lstore (lv' := [(6, .long s0), (0, .ref (ad 18)), (1, .int x1), (2, .int x2), (3, .int x3), (5, .int x5)]) hx hb (dq da_X6_controlInstruction 47 rfl) hl (by decide) rfl (fun ls hl => ?_)
  refine lv_aload_n hx hb (dq da_X6_controlInstruction 48 rfl) rfl (lv_at hl 1 rfl) ?_
  refine gt_wC_18_controls E w w_246 (dq da_X6_controlInstruction 49 rfl) ?_
  refine lv_iload_n hx hb (dq da_X6_controlInstruction 50 rfl) rfl (lv_at hl 4 rfl) ?_
  obtain ⟨y9, hy10, h⟩ := ob h
  refine cV1 E (c_X4_read l D cy ad _ _ hy10) w_1048 w_564 w_565 w_7 w_566 rfl hd_X4_read rfl hl.1 rfl (Nat.le_of_ble_eq_true rfl) ⟨Nat.le_of_ble_eq_true rfl, Nat.le_of_ble_eq_true rfl⟩ (by decide) w (rc_wC_15 w) (dq da_X6_controlInstruction 51 rfl) (fun H locs rr w => ?_)
  refine lv_lstore (lv' := [(8, .long y9), (6, .long s0), (0, .ref (ad 18)), (1, .int x1), (2, .int x2), (3, .int x3), (5, .int x5)]) hx hb (dq da_X6_controlInstruction 52 rfl) hl (by decide) rfl (fun ls hl => ?_)
  refine lv_iload hx hb (dq da_X6_controlInstruction 53 rfl) (lv_at hl 6 rfl) ?_
  refine lv_if_eq (tgt := 140) hx hb (dq da_X6_controlInstruction 54 rfl) (by decide) (fun c11 => ?_) (fun c11 => ?_)
  · have h := it c11 h
    exact b_X6_controlInstruction_b140 E hr hlk h (lv_sub hl [2, 3, 0] rfl) w
  · have h := ie c11 h
    refine lv_aload_n hx hb (dq da_X6_controlInstruction 55 rfl) rfl (lv_at hl 2 rfl) ?_
    refine gt_wC_18_controls E w w_246 (dq da_X6_controlInstruction 56 rfl) ?_
    refine lv_iload_n hx hb (dq da_X6_controlInstruction 57 rfl) rfl (lv_at hl 5 rfl) ?_
    refine lv_iload_n hx hb (dq da_X6_controlInstruction 58 rfl) rfl (lv_at hl 4 rfl) ?_
    refine lv_iconst (v := 1) hx hb (dq da_X6_controlInstruction 59 rfl) rfl ?_
    refine lv_icmp_ne (tgt := 115) hx hb (dq da_X6_controlInstruction 60 rfl) (by decide) (fun c14 => ?_) (fun c14 => ?_)
    · have h := ie c14 h
      refine lv_iload_n hx hb (dq da_X6_controlInstruction 63 rfl) rfl (lv_at hl 4 rfl) ?_
      refine lv_iconst (v := 2) hx hb (dq da_X6_controlInstruction 64 rfl) rfl ?_
      refine lv_icmp_ne (tgt := 128) hx hb (dq da_X6_controlInstruction 65 rfl) (by decide) (fun c15 => ?_) (fun c15 => ?_)
      · have h := ie c15 h
        refine lv_lload hx hb (dq da_X6_controlInstruction 70 rfl) (lv_at hl 0 rfl) ?_
        refine lv_lload hx hb (dq da_X6_controlInstruction 71 rfl) (lv_at hl 1 rfl) ?_
        refine lv_ldc2 hx hb hown (hts _ w_662) (dq da_X6_controlInstruction 72 rfl) ?_
        refine lv_lxor hx hb (dq da_X6_controlInstruction 73 rfl) ?_
        refine lv_land hx hb (dq da_X6_controlInstruction 74 rfl) ?_
        exact b_X6_controlInstruction_b137 E hr hlk h (lv_sub hl [2, 3, 0] rfl) w
      · have h := it c15 h
        refine lv_lload hx hb (dq da_X6_controlInstruction 66 rfl) (lv_at hl 0 rfl) ?_
        refine lv_lload hx hb (dq da_X6_controlInstruction 67 rfl) (lv_at hl 1 rfl) ?_
        refine lv_lor hx hb (dq da_X6_controlInstruction 68 rfl) ?_
        refine lv_goto (tgt := 137) hx hb (dq da_X6_controlInstruction 69 rfl) (by decide) ?_
        exact b_X6_controlInstruction_b137 E hr hlk h (lv_sub hl [2, 3, 0] rfl) w
    · have h := it c14 h
      refine lv_lload hx hb (dq da_X6_controlInstruction 61 rfl) (lv_at hl 1 rfl) ?_
      refine lv_goto (tgt := 137) hx hb (dq da_X6_controlInstruction 62 rfl) (by decide) ?_
      exact b_X6_controlInstruction_b137 E hr hlk h (lv_sub hl [2, 3, 0] rfl) w
def f_X6_controlInstruction_b36 (x1 : Int32) (x2 : Int32) (x3 : Int32) (x4 : Int32) (s0 : Int32) (u : St) : Option (St) := if x2 = (0 : Int32) then (f_X6_controlInstruction_b59 u) else ((f_X4_allows x3 (gI u 16) s0 u).bind (fun y3 => if y3 = (0 : Int32) then (f_X6_controlInstruction_b59 u) else (if (f_X6_f x1) ≤ (3 : Int32) then ((f_X6_a x1 u).bind (fun y7 => f_X6_controlInstruction_b83 x1 x2 x3 s0 y7 u)) else (f_X6_controlInstruction_b83 x1 x2 x3 s0 x4.toInt64 u))))
set_option maxRecDepth 100000 in
set_option maxHeartbeats 4000000 in
theorem b_X6_controlInstruction_b36 {p : Program} {l : Launch} {e : Env} {s : State} {m : MethodId} {args : Array Value} {below : List Frame} {meth : Method} {c : Code} {D : va_G} {cy : ClassId × ClassId × ClassId} {ad : Nat → Nat} {A : Nat → Prop} (E : CallFix p m c cX6_controlInstruction 10 s args gw RX6) (hr : meth.sig.returnType = none) (hlk : meth.locks = false) {x1 : Int32} {x2 : Int32} {x3 : Int32} {x4 : Int32} {s0 : Int32} {u : St} {u' : St} (h : f_X6_controlInstruction_b36 x1 x2 x3 x4 s0 u = some u') {ls : Array Slot} {H : Heap} {locs : List Loc} {rr : Nat → Nat} (hl : lv_has ls 10 [(0, .ref (ad 18)), (1, .int x1), (2, .int x2), (3, .int x3), (4, .int x4)]) (w : WX (wC cy ad) D cy rr u A s H locs) : Wx (wC cy ad) D p l e 3 71 0 s m args below meth c A u' none H locs 0 36 ls [.int s0] := by
  have hx := E.1
  have hb := E.2.1
  have hown := E.2.2.2.1
  have hts := E.2.2.2.2
  refine lv_istore (lv' := [(5, .int s0), (0, .ref (ad 18)), (1, .int x1), (2, .int x2), (3, .int x3), (4, .int x4)]) hx hb (dq da_X6_controlInstruction 23 rfl) hl (by decide) rfl (fun ls hl => ?_)
  refine lv_iload_n hx hb (dq da_X6_controlInstruction 24 rfl) rfl (lv_at hl 3 rfl) ?_
  refine lv_if_eq (tgt := 59) hx hb (dq da_X6_controlInstruction 25 rfl) (by decide) (fun c2 => ?_) (fun c2 => ?_)
  · have h := it c2 h
    exact b_X6_controlInstruction_b59 E hr hlk h (lv_sub hl [1] rfl) w
  · have h := ie c2 h
    refine lv_aload_n hx hb (dq da_X6_controlInstruction 26 rfl) rfl (lv_at hl 1 rfl) ?_
    refine gt_wC_18_controls E w w_246 (dq da_X6_controlInstruction 27 rfl) ?_
    refine lv_iload_n hx hb (dq da_X6_controlInstruction 28 rfl) rfl (lv_at hl 4 rfl) ?_
    refine lv_aload_n hx hb (dq da_X6_controlInstruction 29 rfl) rfl (lv_at hl 1 rfl) ?_
    refine gt_wC_18_privilege E w w_251 (dq da_X6_controlInstruction 30 rfl) ?_
    refine lv_iload hx hb (dq da_X6_controlInstruction 31 rfl) (lv_at hl 0 rfl) ?_
    obtain ⟨y3, hy4, h⟩ := ob h
    refine cV1 E (c_X4_allows l D cy ad _ _ _ _ hy4) w_1038 w_1039 w_1040 w_7 w_1041 rfl hd_X4_allows rfl hl.1 rfl (Nat.le_of_ble_eq_true rfl) ⟨Nat.le_of_ble_eq_true rfl, Nat.le_of_ble_eq_true rfl⟩ (by decide) w (rc_wC_15 w) (dq da_X6_controlInstruction 32 rfl) (fun H locs rr w => ?_)
    refine lv_if_ne (tgt := 64) hx hb (dq da_X6_controlInstruction 33 rfl) (by decide) (fun c5 => ?_) (fun c5 => ?_)
    · have h := ie c5 h
      refine lv_iload_n hx hb (dq da_X6_controlInstruction 37 rfl) rfl (lv_at hl 2 rfl) ?_
      refine callP E (c_X6_f l _ ) w_836 w_837 w_9 w_838 hd_X6_f rfl hl.1 rfl (Nat.le_of_ble_eq_true rfl) ⟨Nat.le_of_ble_eq_true rfl, Nat.le_of_ble_eq_true rfl⟩ (by decide) (dq da_X6_controlInstruction 38 rfl) ?_
      refine lv_iconst (v := 3) hx hb (dq da_X6_controlInstruction 39 rfl) rfl ?_
      refine lv_icmp_le (tgt := 78) hx hb (dq da_X6_controlInstruction 40 rfl) (by decide) (fun c6 => ?_) (fun c6 => ?_)
      · have h := it c6 h
        refine lv_aload_n hx hb (dq da_X6_controlInstruction 44 rfl) rfl (lv_at hl 1 rfl) ?_
        refine lv_iload_n hx hb (dq da_X6_controlInstruction 45 rfl) rfl (lv_at hl 2 rfl) ?_
        obtain ⟨y7, hy8, h⟩ := ob h
        refine cV1 E (c_X6_a l D cy ad _ _ hy8) w_839 w_841 w_p21 w_9 w_842 rfl hd_X6_a rfl hl.1 rfl (Nat.le_of_ble_eq_true rfl) ⟨Nat.le_of_ble_eq_true rfl, Nat.le_of_ble_eq_true rfl⟩ (by decide) w (rc_wC_18 w) (dq da_X6_controlInstruction 46 rfl) (fun H locs rr w => ?_)
        exact b_X6_controlInstruction_b83 E hr hlk h (lv_sub hl [1, 2, 3, 4, 0] rfl) w
      · have h := ie c6 h
        refine lv_iload hx hb (dq da_X6_controlInstruction 41 rfl) (lv_at hl 5 rfl) ?_
        refine lv_i2l (v := x4.toInt64) hx hb (dq da_X6_controlInstruction 42 rfl) rfl ?_
        refine lv_goto (tgt := 83) hx hb (dq da_X6_controlInstruction 43 rfl) (by decide) ?_
        exact b_X6_controlInstruction_b83 E hr hlk h (lv_sub hl [1, 2, 3, 4, 0] rfl) w
    · have h := it c5 h
      exact b_X6_controlInstruction_b59 E hr hlk h (lv_sub hl [1] rfl) w
def f_X6_controlInstruction_b31 (x1 : Int32) (x2 : Int32) (x3 : Int32) (x4 : Int32) (u : St) : Option (St) := f_X6_controlInstruction_b36 x1 x2 x3 x4 (1 : Int32) u
set_option maxRecDepth 100000 in
set_option maxHeartbeats 4000000 in
theorem b_X6_controlInstruction_b31 {p : Program} {l : Launch} {e : Env} {s : State} {m : MethodId} {args : Array Value} {below : List Frame} {meth : Method} {c : Code} {D : va_G} {cy : ClassId × ClassId × ClassId} {ad : Nat → Nat} {A : Nat → Prop} (E : CallFix p m c cX6_controlInstruction 10 s args gw RX6) (hr : meth.sig.returnType = none) (hlk : meth.locks = false) {x1 : Int32} {x2 : Int32} {x3 : Int32} {x4 : Int32} {u : St} {u' : St} (h : f_X6_controlInstruction_b31 x1 x2 x3 x4 u = some u') {ls : Array Slot} {H : Heap} {locs : List Loc} {rr : Nat → Nat} (hl : lv_has ls 10 [(0, .ref (ad 18)), (1, .int x1), (2, .int x2), (3, .int x3), (4, .int x4)]) (w : WX (wC cy ad) D cy rr u A s H locs) : Wx (wC cy ad) D p l e 3 71 0 s m args below meth c A u' none H locs 0 31 ls [] := by
  have hx := E.1
  have hb := E.2.1
  have hown := E.2.2.2.1
  have hts := E.2.2.2.2
  refine lv_iconst (v := 1) hx hb (dq da_X6_controlInstruction 20 rfl) rfl ?_
  refine lv_goto (tgt := 36) hx hb (dq da_X6_controlInstruction 21 rfl) (by decide) ?_
  exact b_X6_controlInstruction_b36 E hr hlk h (lv_sub hl [0, 1, 2, 3, 4] rfl) w
def f_X6_controlInstruction (x1 : Int32) (u : St) : Option (St) := if ((f_X6_f x1) &&& (3 : Int32)) = (1 : Int32) then (f_X6_controlInstruction_b31 x1 ((f_X6_f x1) &&& (3 : Int32)) (j_iushr x1 (20 : Int32)) ((x1 >>> ((15 : Int32) &&& 31)) &&& (31 : Int32)) u) else (if ((x1 >>> ((15 : Int32) &&& 31)) &&& (31 : Int32)) = (0 : Int32) then (f_X6_controlInstruction_b36 x1 ((f_X6_f x1) &&& (3 : Int32)) (j_iushr x1 (20 : Int32)) ((x1 >>> ((15 : Int32) &&& 31)) &&& (31 : Int32)) (0 : Int32) u) else (f_X6_controlInstruction_b31 x1 ((f_X6_f x1) &&& (3 : Int32)) (j_iushr x1 (20 : Int32)) ((x1 >>> ((15 : Int32) &&& 31)) &&& (31 : Int32)) u))
set_option maxRecDepth 100000 in
set_option maxHeartbeats 4000000 in
theorem c_X6_controlInstruction (l : Launch) (D : va_G) (cy : ClassId × ClassId × ClassId) (ad : Nat → Nat) (x1 : Int32) (u : St) {u' : St} (h : f_X6_controlInstruction x1 u = some u') : MX (wC cy ad) D cy l yX6_controlInstruction cX6_controlInstruction 10 (none) 3 71 0 [.ref (ad 18), .int x1] u u' none := by
  refine entX (by decide +kernel) (Nat.le_of_ble_eq_true rfl) ?_
  intro p e s m args below meth c ls rr A E hr hlk hl w
  have hl : lv_has ls 10 [(0, .ref (ad 18)), (1, .int x1)] := hl
  have hx := E.1
  have hb := E.2.1
  have hown := E.2.2.2.1
  have hts := E.2.2.2.2
  refine lv_iload_n hx hb (dq da_X6_controlInstruction 0 rfl) rfl (lv_at hl 1 rfl) ?_
  refine callP E (c_X6_f l _ ) w_836 w_837 w_9 w_838 hd_X6_f rfl hl.1 rfl (Nat.le_of_ble_eq_true rfl) ⟨Nat.le_of_ble_eq_true rfl, Nat.le_of_ble_eq_true rfl⟩ (by decide) (dq da_X6_controlInstruction 1 rfl) ?_
  refine lv_iconst (v := 3) hx hb (dq da_X6_controlInstruction 2 rfl) rfl ?_
  refine lv_iand hx hb (dq da_X6_controlInstruction 3 rfl) ?_
  refine lv_istore_n (lv' := [(2, .int ((f_X6_f x1) &&& (3 : Int32))), (0, .ref (ad 18)), (1, .int x1)]) hx hb (dq da_X6_controlInstruction 4 rfl) rfl hl (by decide) rfl (fun ls hl => ?_)
  refine lv_iload_n hx hb (dq da_X6_controlInstruction 5 rfl) rfl (lv_at hl 2 rfl) ?_
  refine lv_bipush (v := 20) hx hb (dq da_X6_controlInstruction 6 rfl) rfl ?_
  refine lv_iushr (v := (j_iushr x1 (20 : Int32))) hx hb (dq da_X6_controlInstruction 7 rfl) rfl ?_
  refine lv_istore_n (lv' := [(3, .int (j_iushr x1 (20 : Int32))), (2, .int ((f_X6_f x1) &&& (3 : Int32))), (0, .ref (ad 18)), (1, .int x1)]) hx hb (dq da_X6_controlInstruction 8 rfl) rfl hl (by decide) rfl (fun ls hl => ?_)
  refine lv_iload_n hx hb (dq da_X6_controlInstruction 9 rfl) rfl (lv_at hl 3 rfl) ?_
  refine lv_bipush (v := 15) hx hb (dq da_X6_controlInstruction 10 rfl) rfl ?_
  refine lv_ishr hx hb (dq da_X6_controlInstruction 11 rfl) ?_
  refine lv_bipush (v := 31) hx hb (dq da_X6_controlInstruction 12 rfl) rfl ?_
  refine lv_iand hx hb (dq da_X6_controlInstruction 13 rfl) ?_
  refine lv_istore (lv' := [(4, .int ((x1 >>> ((15 : Int32) &&& 31)) &&& (31 : Int32))), (3, .int (j_iushr x1 (20 : Int32))), (2, .int ((f_X6_f x1) &&& (3 : Int32))), (0, .ref (ad 18)), (1, .int x1)]) hx hb (dq da_X6_controlInstruction 14 rfl) hl (by decide) rfl (fun ls hl => ?_)
  refine lv_iload_n hx hb (dq da_X6_controlInstruction 15 rfl) rfl (lv_at hl 2 rfl) ?_
  refine lv_iconst (v := 1) hx hb (dq da_X6_controlInstruction 16 rfl) rfl ?_
  refine lv_icmp_eq (tgt := 31) hx hb (dq da_X6_controlInstruction 17 rfl) (by decide) (fun c1 => ?_) (fun c1 => ?_)
  · have h := it c1 h
    exact b_X6_controlInstruction_b31 E hr hlk h (lv_sub hl [3, 4, 2, 1, 0] rfl) w
  · have h := ie c1 h
    refine lv_iload hx hb (dq da_X6_controlInstruction 18 rfl) (lv_at hl 0 rfl) ?_
    refine lv_if_eq (tgt := 35) hx hb (dq da_X6_controlInstruction 19 rfl) (by decide) (fun c16 => ?_) (fun c16 => ?_)
    · have h := it c16 h
      refine lv_iconst (v := 0) hx hb (dq da_X6_controlInstruction 22 rfl) rfl ?_
      exact b_X6_controlInstruction_b36 E hr hlk h (lv_sub hl [3, 4, 2, 1, 0] rfl) w
    · have h := ie c16 h
      exact b_X6_controlInstruction_b31 E hr hlk h (lv_sub hl [3, 4, 2, 1, 0] rfl) w
def dl_X11_wipe : List (Nat × Instr × Nat) := [(0, .aload_n 0, 1), (1, .getfield 15, 3), (4, .invokevirtual 56, 3), (7, .istore_n 1, 1), (8, .aload_n 0, 1), (9, .getfield 15, 3), (12, .invokevirtual 68, 3), (15, .iload_n 1, 1), (16, .ireturn, 1)]
theorem da_X11_wipe : dkL cX11_wipe dl_X11_wipe = true := by decide +kernel
def f_X11_wipe (u : St) : Int32 × St := ((f_X2_size_o1 u), (f_X2_clear_o1 u))
set_option maxRecDepth 100000 in
set_option maxHeartbeats 4000000 in
theorem c_X11_wipe (l : Launch) (D : va_G) (cy : ClassId × ClassId × ClassId) (ad : Nat → Nat) (u : St) : MX (wC cy ad) D cy l yX11_wipe cX11_wipe 2 (some .int) 1 20 0 [.ref (ad 0)] u ((f_X11_wipe u).2) (some (.int ((f_X11_wipe u).1))) := by
  refine entX (by decide +kernel) (Nat.le_of_ble_eq_true rfl) ?_
  intro p e s m args below meth c ls rr A E hr hlk hl w
  have hl : lv_has ls 2 [(0, .ref (ad 0))] := hl
  generalize h0 : f_X11_wipe u = q
  obtain ⟨r, u'⟩ := q
  have h := h0
  have hx := E.1
  have hb := E.2.1
  have hown := E.2.2.2.1
  have hts := E.2.2.2.2
  refine lv_aload_n hx hb (dq da_X11_wipe 0 rfl) rfl (lv_at hl 0 rfl) ?_
  refine gt_wC_0_tape E w w_288 (dq da_X11_wipe 1 rfl) ?_
  refine cV1 E (c_X2_size_o1 l D cy ad _ ) w_305 w_306 w_307 w_2 w_308 rfl hd_X2_size rfl hl.1 rfl (Nat.le_of_ble_eq_true rfl) ⟨Nat.le_of_ble_eq_true rfl, Nat.le_of_ble_eq_true rfl⟩ (by decide) w (rc_wC_1 w) (dq da_X11_wipe 2 rfl) (fun H locs rr w => ?_)
  refine lv_istore_n (lv' := [(1, .int (f_X2_size_o1 u)), (0, .ref (ad 0))]) hx hb (dq da_X11_wipe 3 rfl) rfl hl (by decide) rfl (fun ls hl => ?_)
  refine lv_aload_n hx hb (dq da_X11_wipe 4 rfl) rfl (lv_at hl 1 rfl) ?_
  refine gt_wC_0_tape E w w_288 (dq da_X11_wipe 5 rfl) ?_
  refine cV0 E (c_X2_clear_o1 l D cy ad _ ) w_309 w_310 w_311 w_2 w_312 rfl hd_X2_clear rfl hl.1 rfl (Nat.le_of_ble_eq_true rfl) ⟨Nat.le_of_ble_eq_true rfl, Nat.le_of_ble_eq_true rfl⟩ (by decide) w (rc_wC_1 w) (dq da_X11_wipe 6 rfl) (fun H locs rr w => ?_)
  refine lv_iload_n hx hb (dq da_X11_wipe 7 rfl) rfl (lv_at hl 0 rfl) ?_
  exact xret_i E hr hlk w (by decide) (congrArg Prod.fst h) (congrArg Prod.snd h) (dq da_X11_wipe 8 rfl)
def dl_X11_imageRows : List (Nat × Instr × Nat) := [(0, .aload_n 0, 1), (1, .getfield 15, 3), (4, .bipush 56, 2), (6, .iconst 2, 1), (7, .invokevirtual 205, 3), (10, .l2i, 1), (11, .ireturn, 1)]
theorem da_X11_imageRows : dkL cX11_imageRows dl_X11_imageRows = true := by decide +kernel
def f_X11_imageRows (u : St) : Option (Int32) := (f_X2_number_o1 (56 : Int32) (2 : Int32) u).bind (fun y1 => some y1.toInt32)
set_option maxRecDepth 100000 in
set_option maxHeartbeats 4000000 in
theorem c_X11_imageRows (l : Launch) (D : va_G) (cy : ClassId × ClassId × ClassId) (ad : Nat → Nat) (u : St) {r : Int32} (h : f_X11_imageRows u = some r) : MX (wC cy ad) D cy l yX11_imageRows cX11_imageRows 1 (some .int) 2 46 0 [.ref (ad 0)] u u (some (.int (r))) := by
  refine entX (by decide +kernel) (Nat.le_of_ble_eq_true rfl) ?_
  intro p e s m args below meth c ls rr A E hr hlk hl w
  have hl : lv_has ls 1 [(0, .ref (ad 0))] := hl
  have hx := E.1
  have hb := E.2.1
  have hown := E.2.2.2.1
  have hts := E.2.2.2.2
  refine lv_aload_n hx hb (dq da_X11_imageRows 0 rfl) rfl (lv_at hl 0 rfl) ?_
  refine gt_wC_0_tape E w w_288 (dq da_X11_imageRows 1 rfl) ?_
  refine lv_bipush (v := 56) hx hb (dq da_X11_imageRows 2 rfl) rfl ?_
  refine lv_iconst (v := 2) hx hb (dq da_X11_imageRows 3 rfl) rfl ?_
  obtain ⟨y1, hy2, h⟩ := ob h
  refine cV1 E (c_X2_number_o1 l D cy ad _ _ _ hy2) w_321 w_322 w_323 w_2 w_324 rfl hd_X2_number rfl hl.1 rfl (Nat.le_of_ble_eq_true rfl) ⟨Nat.le_of_ble_eq_true rfl, Nat.le_of_ble_eq_true rfl⟩ (by decide) w (rc_wC_1 w) (dq da_X11_imageRows 4 rfl) (fun H locs rr w => ?_)
  refine lv_l2i (v := y1.toInt32) hx hb (dq da_X11_imageRows 5 rfl) rfl ?_
  exact xret_i E hr hlk w (by decide) (os h) rfl (dq da_X11_imageRows 6 rfl)
def dl_X11_rowError : List (Nat × Instr × Nat) := [(0, .aload_n 0, 1), (1, .getfield 15, 3), (4, .iload_n 1, 1), (5, .iconst 4, 1), (6, .invokevirtual 205, 3), (9, .lconst 1, 1), (10, .lcmp, 1), (11, .ifCond .eq 5, 3), (14, .iconst 0, 1), (15, .ireturn, 1), (16, .aload_n 0, 1), (17, .getfield 15, 3), (20, .iload_n 1, 1), (21, .bipush 32, 2), (23, .iadd, 1), (24, .bipush 8, 2), (26, .invokevirtual 205, 3), (29, .lstore_n 2, 1), (30, .aload_n 0, 1), (31, .getfield 15, 3), (34, .iload_n 1, 1), (35, .bipush 40, 2), (37, .iadd, 1), (38, .bipush 8, 2), (40, .invokevirtual 205, 3), (43, .lstore 4, 2), (45, .aload_n 0, 1), (46, .getfield 15, 3), (49, .iload_n 1, 1), (50, .bipush 8, 2), (52, .iadd, 1), (53, .bipush 8, 2), (55, .invokevirtual 205, 3), (58, .lload_n 2, 1), (59, .aload_n 0, 1), (60, .getfield 15, 3), (63, .invokevirtual 56, 3), (66, .invokestatic 219, 3), (69, .ifCond .ne 6, 3), (72, .bipush 6, 2), (74, .ireturn, 1), (75, .aload_n 0, 1), (76, .getfield 15, 3), (79, .iload_n 1, 1), (80, .bipush 24, 2), (82, .iadd, 1), (83, .bipush 8, 2), (85, .invokevirtual 205, 3), (88, .ldc2_w 226, 3), (91, .lsub, 1), (92, .lload 4, 2), (94, .aload_n 0, 1), (95, .getfield 27, 3), (98, .getfield 95, 3), (101, .getfield 193, 3), (104, .invokestatic 219, 3), (107, .ifCond .ne 6, 3), (110, .bipush 7, 2), (112, .ireturn, 1), (113, .lload_n 2, 1), (114, .lload 4, 2), (116, .lcmp, 1), (117, .ifCond .le 8, 3), (120, .bipush 8, 2), (122, .goto 4, 3), (125, .iconst 0, 1), (126, .ireturn, 1)]
theorem da_X11_rowError : dkL cX11_rowError dl_X11_rowError = true := by decide +kernel
def f_X11_rowError (x1 : Int32) (u : St) : Option (Int32) := (f_X2_number_o1 x1 (4 : Int32) u).bind (fun y1 => if y1 = (1 : Int64) then ((f_X2_number_o1 (x1 + (32 : Int32)) (8 : Int32) u).bind (fun y4 => (f_X2_number_o1 (x1 + (40 : Int32)) (8 : Int32) u).bind (fun y6 => (f_X2_number_o1 (x1 + (8 : Int32)) (8 : Int32) u).bind (fun y8 => if (f_X11_lies y8 y4 (f_X2_size_o1 u)) = (0 : Int32) then (some (6 : Int32)) else ((f_X2_number_o1 (x1 + (24 : Int32)) (8 : Int32) u).bind (fun y11 => if (f_X11_lies (y11 - (2147483648 : Int64)) y6 (gI u 5)) = (0 : Int32) then (some (7 : Int32)) else (if y4 ≤ y6 then (some (0 : Int32)) else (some (8 : Int32))))))))) else (some (0 : Int32)))
set_option maxRecDepth 100000 in
set_option maxHeartbeats 4000000 in
theorem c_X11_rowError (l : Launch) (D : va_G) (cy : ClassId × ClassId × ClassId) (ad : Nat → Nat) (x1 : Int32) (u : St) {r : Int32} (h : f_X11_rowError x1 u = some r) : MX (wC cy ad) D cy l yX11_rowError cX11_rowError 6 (some .int) 2 46 0 [.ref (ad 0), .int x1] u u (some (.int (r))) := by
  refine entX (by decide +kernel) (Nat.le_of_ble_eq_true rfl) ?_
  intro p e s m args below meth c ls rr A E hr hlk hl w
  have hl : lv_has ls 6 [(0, .ref (ad 0)), (1, .int x1)] := hl
  have hx := E.1
  have hb := E.2.1
  have hown := E.2.2.2.1
  have hts := E.2.2.2.2
  refine lv_aload_n hx hb (dq da_X11_rowError 0 rfl) rfl (lv_at hl 0 rfl) ?_
  refine gt_wC_0_tape E w w_288 (dq da_X11_rowError 1 rfl) ?_
  refine lv_iload_n hx hb (dq da_X11_rowError 2 rfl) rfl (lv_at hl 1 rfl) ?_
  refine lv_iconst (v := 4) hx hb (dq da_X11_rowError 3 rfl) rfl ?_
  obtain ⟨y1, hy2, h⟩ := ob h
  refine cV1 E (c_X2_number_o1 l D cy ad _ _ _ hy2) w_321 w_322 w_323 w_2 w_324 rfl hd_X2_number rfl hl.1 rfl (Nat.le_of_ble_eq_true rfl) ⟨Nat.le_of_ble_eq_true rfl, Nat.le_of_ble_eq_true rfl⟩ (by decide) w (rc_wC_1 w) (dq da_X11_rowError 4 rfl) (fun H locs rr w => ?_)
  refine lv_lconst (v := 1) hx hb (dq da_X11_rowError 5 rfl) rfl ?_
  refine lc_eq (tgt := 16) hx hb (dq da_X11_rowError 6 rfl) (dq da_X11_rowError 7 rfl) (by decide) (fun c3 => ?_) (fun c3 => ?_)
  · have h := it c3 h
    refine lv_aload_n hx hb (dq da_X11_rowError 10 rfl) rfl (lv_at hl 0 rfl) ?_
    refine gt_wC_0_tape E w w_288 (dq da_X11_rowError 11 rfl) ?_
    refine lv_iload_n hx hb (dq da_X11_rowError 12 rfl) rfl (lv_at hl 1 rfl) ?_
    refine lv_bipush (v := 32) hx hb (dq da_X11_rowError 13 rfl) rfl ?_
    refine lv_iadd hx hb (dq da_X11_rowError 14 rfl) ?_
    refine lv_bipush (v := 8) hx hb (dq da_X11_rowError 15 rfl) rfl ?_
    obtain ⟨y4, hy5, h⟩ := ob h
    refine cV1 E (c_X2_number_o1 l D cy ad _ _ _ hy5) w_321 w_322 w_323 w_2 w_324 rfl hd_X2_number rfl hl.1 rfl (Nat.le_of_ble_eq_true rfl) ⟨Nat.le_of_ble_eq_true rfl, Nat.le_of_ble_eq_true rfl⟩ (by decide) w (rc_wC_1 w) (dq da_X11_rowError 16 rfl) (fun H locs rr w => ?_)
    refine lv_lstore_n (lv' := [(2, .long y4), (0, .ref (ad 0)), (1, .int x1)]) hx hb (dq da_X11_rowError 17 rfl) rfl hl (by decide) rfl (fun ls hl => ?_)
    refine lv_aload_n hx hb (dq da_X11_rowError 18 rfl) rfl (lv_at hl 1 rfl) ?_
    refine gt_wC_0_tape E w w_288 (dq da_X11_rowError 19 rfl) ?_
    refine lv_iload_n hx hb (dq da_X11_rowError 20 rfl) rfl (lv_at hl 2 rfl) ?_
    refine lv_bipush (v := 40) hx hb (dq da_X11_rowError 21 rfl) rfl ?_
    refine lv_iadd hx hb (dq da_X11_rowError 22 rfl) ?_
    refine lv_bipush (v := 8) hx hb (dq da_X11_rowError 23 rfl) rfl ?_
    obtain ⟨y6, hy7, h⟩ := ob h
    refine cV1 E (c_X2_number_o1 l D cy ad _ _ _ hy7) w_321 w_322 w_323 w_2 w_324 rfl hd_X2_number rfl hl.1 rfl (Nat.le_of_ble_eq_true rfl) ⟨Nat.le_of_ble_eq_true rfl, Nat.le_of_ble_eq_true rfl⟩ (by decide) w (rc_wC_1 w) (dq da_X11_rowError 24 rfl) (fun H locs rr w => ?_)
    refine lv_lstore (lv' := [(4, .long y6), (2, .long y4), (0, .ref (ad 0)), (1, .int x1)]) hx hb (dq da_X11_rowError 25 rfl) hl (by decide) rfl (fun ls hl => ?_)
    refine lv_aload_n hx hb (dq da_X11_rowError 26 rfl) rfl (lv_at hl 2 rfl) ?_
    refine gt_wC_0_tape E w w_288 (dq da_X11_rowError 27 rfl) ?_
    refine lv_iload_n hx hb (dq da_X11_rowError 28 rfl) rfl (lv_at hl 3 rfl) ?_
    refine lv_bipush (v := 8) hx hb (dq da_X11_rowError 29 rfl) rfl ?_
    refine lv_iadd hx hb (dq da_X11_rowError 30 rfl) ?_
    refine lv_bipush (v := 8) hx hb (dq da_X11_rowError 31 rfl) rfl ?_
    obtain ⟨y8, hy9, h⟩ := ob h
    refine cV1 E (c_X2_number_o1 l D cy ad _ _ _ hy9) w_321 w_322 w_323 w_2 w_324 rfl hd_X2_number rfl hl.1 rfl (Nat.le_of_ble_eq_true rfl) ⟨Nat.le_of_ble_eq_true rfl, Nat.le_of_ble_eq_true rfl⟩ (by decide) w (rc_wC_1 w) (dq da_X11_rowError 32 rfl) (fun H locs rr w => ?_)
    refine lv_lload_n hx hb (dq da_X11_rowError 33 rfl) rfl (lv_at hl 1 rfl) ?_
    refine lv_aload_n hx hb (dq da_X11_rowError 34 rfl) rfl (lv_at hl 2 rfl) ?_
    refine gt_wC_0_tape E w w_288 (dq da_X11_rowError 35 rfl) ?_
    refine cV1 E (c_X2_size_o1 l D cy ad _ ) w_305 w_306 w_307 w_2 w_308 rfl hd_X2_size rfl hl.1 rfl (Nat.le_of_ble_eq_true rfl) ⟨Nat.le_of_ble_eq_true rfl, Nat.le_of_ble_eq_true rfl⟩ (by decide) w (rc_wC_1 w) (dq da_X11_rowError 36 rfl) (fun H locs rr w => ?_)
    refine callP E (c_X11_lies l _ _ _ ) w_337 w_338 w_1 w_339 hd_X11_lies rfl hl.1 rfl (Nat.le_of_ble_eq_true rfl) ⟨Nat.le_of_ble_eq_true rfl, Nat.le_of_ble_eq_true rfl⟩ (by decide) (dq da_X11_rowError 37 rfl) ?_
    refine lv_if_ne (tgt := 75) hx hb (dq da_X11_rowError 38 rfl) (by decide) (fun c10 => ?_) (fun c10 => ?_)
    · have h := ie c10 h
      refine lv_aload_n hx hb (dq da_X11_rowError 41 rfl) rfl (lv_at hl 2 rfl) ?_
      refine gt_wC_0_tape E w w_288 (dq da_X11_rowError 42 rfl) ?_
      refine lv_iload_n hx hb (dq da_X11_rowError 43 rfl) rfl (lv_at hl 3 rfl) ?_
      refine lv_bipush (v := 24) hx hb (dq da_X11_rowError 44 rfl) rfl ?_
      refine lv_iadd hx hb (dq da_X11_rowError 45 rfl) ?_
      refine lv_bipush (v := 8) hx hb (dq da_X11_rowError 46 rfl) rfl ?_
      obtain ⟨y11, hy12, h⟩ := ob h
      refine cV1 E (c_X2_number_o1 l D cy ad _ _ _ hy12) w_321 w_322 w_323 w_2 w_324 rfl hd_X2_number rfl hl.1 rfl (Nat.le_of_ble_eq_true rfl) ⟨Nat.le_of_ble_eq_true rfl, Nat.le_of_ble_eq_true rfl⟩ (by decide) w (rc_wC_1 w) (dq da_X11_rowError 47 rfl) (fun H locs rr w => ?_)
      refine lv_ldc2 hx hb hown (hts _ w_344) (dq da_X11_rowError 48 rfl) ?_
      refine lv_lsub hx hb (dq da_X11_rowError 49 rfl) ?_
      refine lv_lload hx hb (dq da_X11_rowError 50 rfl) (lv_at hl 0 rfl) ?_
      refine lv_aload_n hx hb (dq da_X11_rowError 51 rfl) rfl (lv_at hl 2 rfl) ?_
      refine gt_wC_0_bus E w w_289 (dq da_X11_rowError 52 rfl) ?_
      refine gtN_wC_3_ram E w n_5 (dq da_X11_rowError 53 rfl) ?_
      refine gtN_wC_4_size E w n_0 (dq da_X11_rowError 54 rfl) ?_
      refine callP E (c_X11_lies l _ _ _ ) w_337 w_338 w_1 w_339 hd_X11_lies rfl hl.1 rfl (Nat.le_of_ble_eq_true rfl) ⟨Nat.le_of_ble_eq_true rfl, Nat.le_of_ble_eq_true rfl⟩ (by decide) (dq da_X11_rowError 55 rfl) ?_
      refine lv_if_ne (tgt := 113) hx hb (dq da_X11_rowError 56 rfl) (by decide) (fun c13 => ?_) (fun c13 => ?_)
      · have h := ie c13 h
        refine lv_lload_n hx hb (dq da_X11_rowError 59 rfl) rfl (lv_at hl 1 rfl) ?_
        refine lv_lload hx hb (dq da_X11_rowError 60 rfl) (lv_at hl 0 rfl) ?_
        refine lc_le (tgt := 125) hx hb (dq da_X11_rowError 61 rfl) (dq da_X11_rowError 62 rfl) (by decide) (fun c14 => ?_) (fun c14 => ?_)
        · have h := it c14 h
          refine lv_iconst (v := 0) hx hb (dq da_X11_rowError 65 rfl) rfl ?_
          exact xret_i E hr hlk w (by decide) (os h) rfl (dq da_X11_rowError 66 rfl)
        · have h := ie c14 h
          refine lv_bipush (v := 8) hx hb (dq da_X11_rowError 63 rfl) rfl ?_
          refine lv_goto (tgt := 126) hx hb (dq da_X11_rowError 64 rfl) (by decide) ?_
          exact xret_i E hr hlk w (by decide) (os h) rfl (dq da_X11_rowError 66 rfl)
      · have h := it c13 h
        refine lv_bipush (v := 7) hx hb (dq da_X11_rowError 57 rfl) rfl ?_
        exact xret_i E hr hlk w (by decide) (os h) rfl (dq da_X11_rowError 58 rfl)
    · have h := it c10 h
      refine lv_bipush (v := 6) hx hb (dq da_X11_rowError 39 rfl) rfl ?_
      exact xret_i E hr hlk w (by decide) (os h) rfl (dq da_X11_rowError 40 rfl)
  · have h := ie c3 h
    refine lv_iconst (v := 0) hx hb (dq da_X11_rowError 8 rfl) rfl ?_
    exact xret_i E hr hlk w (by decide) (os h) rfl (dq da_X11_rowError 9 rfl)
def dl_X11_imageError : List (Nat × Instr × Nat) := [(0, .aload_n 0, 1), (1, .getfield 15, 3), (4, .invokevirtual 56, 3), (7, .bipush 64, 2), (9, .if_icmp .ge 5, 3), (12, .iconst 1, 1), (13, .ireturn, 1), (14, .aload_n 0, 1), (15, .getfield 15, 3), (18, .iconst 0, 1), (19, .bipush 7, 2), (21, .invokevirtual 205, 3), (24, .ldc2_w 208, 3), (27, .lcmp, 1), (28, .ifCond .eq 5, 3), (31, .iconst 2, 1), (32, .ireturn, 1), (33, .aload_n 0, 1), (34, .getfield 15, 3), (37, .bipush 16, 2), (39, .iconst 2, 1), (40, .invokevirtual 205, 3), (43, .ldc2_w 210, 3), (46, .lcmp, 1), (47, .ifCond .ne 35, 3), (50, .aload_n 0, 1), (51, .getfield 15, 3), (54, .bipush 18, 2), (56, .iconst 2, 1), (57, .invokevirtual 205, 3), (60, .ldc2_w 212, 3), (63, .lcmp, 1), (64, .ifCond .ne 18, 3), (67, .aload_n 0, 1), (68, .getfield 15, 3), (71, .bipush 20, 2), (73, .iconst 4, 1), (74, .invokevirtual 205, 3), (77, .lconst 1, 1), (78, .lcmp, 1), (79, .ifCond .eq 5, 3), (82, .iconst 3, 1), (83, .ireturn, 1), (84, .aload_n 0, 1), (85, .invokevirtual 214, 3), (88, .istore_n 1, 1), (89, .aload_n 0, 1), (90, .getfield 15, 3), (93, .bipush 54, 2), (95, .iconst 2, 1), (96, .invokevirtual 205, 3), (99, .ldc2_w 217, 3), (102, .lcmp, 1), (103, .ifCond .ne 14, 3), (106, .iload_n 1, 1), (107, .iconst 1, 1), (108, .if_icmp .lt 9, 3), (111, .iload_n 1, 1), (112, .bipush 16, 2), (114, .if_icmp .le 5, 3), (117, .iconst 4, 1), (118, .ireturn, 1), (119, .aload_n 0, 1), (120, .getfield 15, 3), (123, .bipush 32, 2), (125, .bipush 8, 2), (127, .invokevirtual 205, 3), (130, .lstore_n 2, 1), (131, .lload_n 2, 1), (132, .ldc2_w 217, 3), (135, .iload_n 1, 1), (136, .i2l, 1), (137, .lmul, 1), (138, .aload_n 0, 1), (139, .getfield 15, 3), (142, .invokevirtual 56, 3), (145, .invokestatic 219, 3), (148, .ifCond .ne 5, 3), (151, .iconst 5, 1), (152, .ireturn, 1), (153, .iconst 0, 1), (154, .istore 4, 2), (156, .iload 4, 2), (158, .iload_n 1, 1), (159, .if_icmp .ge 38, 3), (162, .iload 4, 2), (164, .bipush 16, 2), (166, .if_icmp .ge 31, 3), (169, .aload_n 0, 1), (170, .lload_n 2, 1), (171, .l2i, 1), (172, .bipush 56, 2), (174, .iload 4, 2), (176, .imul, 1), (177, .iadd, 1), (178, .invokevirtual 223, 3), (181, .istore 5, 2), (183, .iload 5, 2), (185, .ifCond .eq 6, 3), (188, .iload 5, 2), (190, .ireturn, 1), (191, .iinc 4 1, 3), (194, .goto (-38), 3), (197, .aload_n 0, 1), (198, .getfield 15, 3), (201, .bipush 24, 2), (203, .bipush 8, 2), (205, .invokevirtual 205, 3), (208, .lstore 4, 2), (210, .lload 4, 2), (212, .lconst 1, 1), (213, .land, 1), (214, .lconst 0, 1), (215, .lcmp, 1), (216, .ifCond .ne 20, 3), (219, .aload_n 0, 1), (220, .getfield 27, 3), (223, .getfield 95, 3), (226, .lload 4, 2), (228, .iconst 1, 1), (229, .invokevirtual 99, 3), (232, .iconst (-1), 1), (233, .if_icmp .ne 8, 3), (236, .bipush 9, 2), (238, .goto 4, 3), (241, .iconst 0, 1), (242, .ireturn, 1)]
theorem da_X11_imageError : dkL cX11_imageError dl_X11_imageError = true := by decide +kernel
def f_X11_imageError_b82 (u : St) : Option (Int32) := some (3 : Int32)
set_option maxRecDepth 100000 in
set_option maxHeartbeats 4000000 in
theorem b_X11_imageError_b82 {p : Program} {l : Launch} {e : Env} {s : State} {m : MethodId} {args : Array Value} {below : List Frame} {meth : Method} {c : Code} {D : va_G} {cy : ClassId × ClassId × ClassId} {ad : Nat → Nat} {A : Nat → Prop} (E : CallFix p m c cX11_imageError 6 s args gw RX11) (hr : meth.sig.returnType = some .int) (hlk : meth.locks = false) {u : St} {r : Int32} (h : f_X11_imageError_b82 u = some r) {ls : Array Slot} {H : Heap} {locs : List Loc} {rr : Nat → Nat} (hl : lv_has ls 6 []) (w : WX (wC cy ad) D cy rr u A s H locs) : Wx (wC cy ad) D p l e 3 71 0 s m args below meth c A u (some (.int r)) H locs 0 82 ls [] := by
  have hx := E.1
  have hb := E.2.1
  have hown := E.2.2.2.1
  have hts := E.2.2.2.2
  refine lv_iconst (v := 3) hx hb (dq da_X11_imageError 41 rfl) rfl ?_
  exact xret_i E hr hlk w (by decide) (os h) rfl (dq da_X11_imageError 42 rfl)
def f_X11_imageError_b117 (u : St) : Option (Int32) := some (4 : Int32)
set_option maxRecDepth 100000 in
set_option maxHeartbeats 4000000 in
theorem b_X11_imageError_b117 {p : Program} {l : Launch} {e : Env} {s : State} {m : MethodId} {args : Array Value} {below : List Frame} {meth : Method} {c : Code} {D : va_G} {cy : ClassId × ClassId × ClassId} {ad : Nat → Nat} {A : Nat → Prop} (E : CallFix p m c cX11_imageError 6 s args gw RX11) (hr : meth.sig.returnType = some .int) (hlk : meth.locks = false) {u : St} {r : Int32} (h : f_X11_imageError_b117 u = some r) {ls : Array Slot} {H : Heap} {locs : List Loc} {rr : Nat → Nat} (hl : lv_has ls 6 []) (w : WX (wC cy ad) D cy rr u A s H locs) : Wx (wC cy ad) D p l e 3 71 0 s m args below meth c A u (some (.int r)) H locs 0 117 ls [] := by
  have hx := E.1
  have hb := E.2.1
  have hown := E.2.2.2.1
  have hts := E.2.2.2.2
  refine lv_iconst (v := 4) hx hb (dq da_X11_imageError 60 rfl) rfl ?_
  exact xret_i E hr hlk w (by decide) (os h) rfl (dq da_X11_imageError 61 rfl)
def f_X11_imageError_b236 (u : St) : Option (Int32) := some (9 : Int32)
set_option maxRecDepth 100000 in
set_option maxHeartbeats 4000000 in
theorem b_X11_imageError_b236 {p : Program} {l : Launch} {e : Env} {s : State} {m : MethodId} {args : Array Value} {below : List Frame} {meth : Method} {c : Code} {D : va_G} {cy : ClassId × ClassId × ClassId} {ad : Nat → Nat} {A : Nat → Prop} (E : CallFix p m c cX11_imageError 6 s args gw RX11) (hr : meth.sig.returnType = some .int) (hlk : meth.locks = false) {u : St} {r : Int32} (h : f_X11_imageError_b236 u = some r) {ls : Array Slot} {H : Heap} {locs : List Loc} {rr : Nat → Nat} (hl : lv_has ls 6 []) (w : WX (wC cy ad) D cy rr u A s H locs) : Wx (wC cy ad) D p l e 3 71 0 s m args below meth c A u (some (.int r)) H locs 0 236 ls [] := by
  have hx := E.1
  have hb := E.2.1
  have hown := E.2.2.2.1
  have hts := E.2.2.2.2
  refine lv_bipush (v := 9) hx hb (dq da_X11_imageError 123 rfl) rfl ?_
  refine lv_goto (tgt := 242) hx hb (dq da_X11_imageError 124 rfl) (by decide) ?_
  exact xret_i E hr hlk w (by decide) (os h) rfl (dq da_X11_imageError 126 rfl)
def f_X11_imageError_b197 (u : St) : Option (Int32) := (f_X2_number_o1 (24 : Int32) (8 : Int32) u).bind (fun y25 => if (y25 &&& (1 : Int64)) = (0 : Int64) then (if (f_X10_place y25 (1 : Int32) u) = (-1 : Int32) then (f_X11_imageError_b236 u) else (some (0 : Int32))) else (f_X11_imageError_b236 u))
set_option maxRecDepth 100000 in
set_option maxHeartbeats 4000000 in
theorem b_X11_imageError_b197 {p : Program} {l : Launch} {e : Env} {s : State} {m : MethodId} {args : Array Value} {below : List Frame} {meth : Method} {c : Code} {D : va_G} {cy : ClassId × ClassId × ClassId} {ad : Nat → Nat} {A : Nat → Prop} (E : CallFix p m c cX11_imageError 6 s args gw RX11) (hr : meth.sig.returnType = some .int) (hlk : meth.locks = false) {u : St} {r : Int32} (h : f_X11_imageError_b197 u = some r) {ls : Array Slot} {H : Heap} {locs : List Loc} {rr : Nat → Nat} (hl : lv_has ls 6 [(0, .ref (ad 0))]) (w : WX (wC cy ad) D cy rr u A s H locs) : Wx (wC cy ad) D p l e 3 71 0 s m args below meth c A u (some (.int r)) H locs 0 197 ls [] := by
  have hx := E.1
  have hb := E.2.1
  have hown := E.2.2.2.1
  have hts := E.2.2.2.2
  refine lv_aload_n hx hb (dq da_X11_imageError 103 rfl) rfl (lv_at hl 0 rfl) ?_
  refine gt_wC_0_tape E w w_288 (dq da_X11_imageError 104 rfl) ?_
  refine lv_bipush (v := 24) hx hb (dq da_X11_imageError 105 rfl) rfl ?_
  refine lv_bipush (v := 8) hx hb (dq da_X11_imageError 106 rfl) rfl ?_
  obtain ⟨y25, hy26, h⟩ := ob h
  refine cV1 E (c_X2_number_o1 l D cy ad _ _ _ hy26) w_321 w_322 w_323 w_2 w_324 rfl hd_X2_number rfl hl.1 rfl (Nat.le_of_ble_eq_true rfl) ⟨Nat.le_of_ble_eq_true rfl, Nat.le_of_ble_eq_true rfl⟩ (by decide) w (rc_wC_1 w) (dq da_X11_imageError 107 rfl) (fun H locs rr w => ?_)
  refine lv_lstore (lv' := [(4, .long y25), (0, .ref (ad 0))]) hx hb (dq da_X11_imageError 108 rfl) hl (by decide) rfl (fun ls hl => ?_)
  refine lv_lload hx hb (dq da_X11_imageError 109 rfl) (lv_at hl 0 rfl) ?_
  refine lv_lconst (v := 1) hx hb (dq da_X11_imageError 110 rfl) rfl ?_
  refine lv_land hx hb (dq da_X11_imageError 111 rfl) ?_
  refine lv_lconst (v := 0) hx hb (dq da_X11_imageError 112 rfl) rfl ?_
  refine lc_ne (tgt := 236) hx hb (dq da_X11_imageError 113 rfl) (dq da_X11_imageError 114 rfl) (by decide) (fun c27 => ?_) (fun c27 => ?_)
  · have h := ie c27 h
    exact b_X11_imageError_b236 E hr hlk h (lv_sub hl [] rfl) w
  · have h := it c27 h
    refine lv_aload_n hx hb (dq da_X11_imageError 115 rfl) rfl (lv_at hl 1 rfl) ?_
    refine gt_wC_0_bus E w w_289 (dq da_X11_imageError 116 rfl) ?_
    refine gtN_wC_3_ram E w n_5 (dq da_X11_imageError 117 rfl) ?_
    refine lv_lload hx hb (dq da_X11_imageError 118 rfl) (lv_at hl 0 rfl) ?_
    refine lv_iconst (v := 1) hx hb (dq da_X11_imageError 119 rfl) rfl ?_
    refine cV1 E (c_X10_place l D cy ad _ _ _ ) w_345 w_346 w_347 w_4 w_348 rfl hd_X10_place rfl hl.1 rfl (Nat.le_of_ble_eq_true rfl) ⟨Nat.le_of_ble_eq_true rfl, Nat.le_of_ble_eq_true rfl⟩ (by decide) w (rc_wC_4 w) (dq da_X11_imageError 120 rfl) (fun H locs rr w => ?_)
    refine lv_iconst (v := (-1)) hx hb (dq da_X11_imageError 121 rfl) rfl ?_
    refine lv_icmp_ne (tgt := 241) hx hb (dq da_X11_imageError 122 rfl) (by decide) (fun c28 => ?_) (fun c28 => ?_)
    · have h := ie c28 h
      refine lv_iconst (v := 0) hx hb (dq da_X11_imageError 125 rfl) rfl ?_
      exact xret_i E hr hlk w (by decide) (os h) rfl (dq da_X11_imageError 126 rfl)
    · have h := it c28 h
      exact b_X11_imageError_b236 E hr hlk h (lv_sub hl [] rfl) w
def f_X11_imageError_b156_s (k156 : Int32 → Int64 → Int32 → St → Option (Int32)) (x1 : Int32) (x2 : Int64) (x4 : Int32) (u : St) : Option (Int32) := if x1 ≤ x4 then (f_X11_imageError_b197 u) else (if (16 : Int32) ≤ x4 then (f_X11_imageError_b197 u) else ((f_X11_rowError (x2.toInt32 + ((56 : Int32) * x4)) u).bind (fun y30 => if y30 = (0 : Int32) then (k156 x1 x2 (x4 + (1 : Int32)) u) else (some y30))))
set_option maxRecDepth 100000 in
set_option maxHeartbeats 4000000 in
theorem b_X11_imageError_b156_s {p : Program} {l : Launch} {e : Env} {s : State} {m : MethodId} {args : Array Value} {below : List Frame} {meth : Method} {c : Code} {D : va_G} {cy : ClassId × ClassId × ClassId} {ad : Nat → Nat} {A : Nat → Prop} (E : CallFix p m c cX11_imageError 6 s args gw RX11) (hr : meth.sig.returnType = some .int) (hlk : meth.locks = false) {k156 : Int32 → Int64 → Int32 → St → Option (Int32)} (hk156 : ∀ (x1 : Int32) (x2 : Int64) (x4 : Int32) (u : St) (r : Int32), k156 x1 x2 x4 u = some r → ∀ (ls : Array Slot) (H : Heap) (locs : List Loc) (rr : Nat → Nat), lv_has ls 6 [(0, .ref (ad 0)), (1, .int x1), (2, .long x2), (4, .int x4)] → WX (wC cy ad) D cy rr u A s H locs → Wx (wC cy ad) D p l e 3 71 0 s m args below meth c A u (some (.int r)) H locs 0 156 ls []) {x1 : Int32} {x2 : Int64} {x4 : Int32} {u : St} {r : Int32} (h : f_X11_imageError_b156_s k156 x1 x2 x4 u = some r) {ls : Array Slot} {H : Heap} {locs : List Loc} {rr : Nat → Nat} (hl : lv_has ls 6 [(0, .ref (ad 0)), (1, .int x1), (2, .long x2), (4, .int x4)]) (w : WX (wC cy ad) D cy rr u A s H locs) : Wx (wC cy ad) D p l e 3 71 0 s m args below meth c A u (some (.int r)) H locs 0 156 ls [] := by
  have hx := E.1
  have hb := E.2.1
  have hown := E.2.2.2.1
  have hts := E.2.2.2.2
  refine lv_iload hx hb (dq da_X11_imageError 82 rfl) (lv_at hl 3 rfl) ?_
  refine lv_iload_n hx hb (dq da_X11_imageError 83 rfl) rfl (lv_at hl 1 rfl) ?_
  refine lv_icmp_ge (tgt := 197) hx hb (dq da_X11_imageError 84 rfl) (by decide) (fun c24 => ?_) (fun c24 => ?_)
  · have h := it c24 h
    exact b_X11_imageError_b197 E hr hlk h (lv_sub hl [0] rfl) w
  · have h := ie c24 h
    refine lv_iload hx hb (dq da_X11_imageError 85 rfl) (lv_at hl 3 rfl) ?_
    refine lv_bipush (v := 16) hx hb (dq da_X11_imageError 86 rfl) rfl ?_
    refine lv_icmp_ge (tgt := 197) hx hb (dq da_X11_imageError 87 rfl) (by decide) (fun c29 => ?_) (fun c29 => ?_)
    · have h := it c29 h
      exact b_X11_imageError_b197 E hr hlk h (lv_sub hl [0] rfl) w
    · have h := ie c29 h
      refine lv_aload_n hx hb (dq da_X11_imageError 88 rfl) rfl (lv_at hl 0 rfl) ?_
      refine lv_lload_n hx hb (dq da_X11_imageError 89 rfl) rfl (lv_at hl 2 rfl) ?_
      refine lv_l2i (v := x2.toInt32) hx hb (dq da_X11_imageError 90 rfl) rfl ?_
      refine lv_bipush (v := 56) hx hb (dq da_X11_imageError 91 rfl) rfl ?_
      refine lv_iload hx hb (dq da_X11_imageError 92 rfl) (lv_at hl 3 rfl) ?_
      refine lv_imul hx hb (dq da_X11_imageError 93 rfl) ?_
      refine lv_iadd hx hb (dq da_X11_imageError 94 rfl) ?_
      obtain ⟨y30, hy31, h⟩ := ob h
      refine cV1 E (c_X11_rowError l D cy ad _ _ hy31) w_340 w_342 w_p2 w_1 w_343 rfl hd_X11_rowError rfl hl.1 rfl (Nat.le_of_ble_eq_true rfl) ⟨Nat.le_of_ble_eq_true rfl, Nat.le_of_ble_eq_true rfl⟩ (by decide) w (rc_wC_0 w) (dq da_X11_imageError 95 rfl) (fun H locs rr w => ?_)
      refine lv_istore (lv' := [(5, .int y30), (0, .ref (ad 0)), (1, .int x1), (2, .long x2), (4, .int x4)]) hx hb (dq da_X11_imageError 96 rfl) hl (by decide) rfl (fun ls hl => ?_)
      refine lv_iload hx hb (dq da_X11_imageError 97 rfl) (lv_at hl 0 rfl) ?_
      refine lv_if_eq (tgt := 191) hx hb (dq da_X11_imageError 98 rfl) (by decide) (fun c32 => ?_) (fun c32 => ?_)
      · have h := it c32 h
        refine lv_iinc (v := (x4 + (1 : Int32))) (lv' := [(4, .int (x4 + (1 : Int32))), (5, .int y30), (0, .ref (ad 0)), (1, .int x1), (2, .long x2)]) hx hb (dq da_X11_imageError 101 rfl) hl (k := 4) rfl rfl (by decide) rfl (fun ls hl => ?_)
        refine lv_goto (tgt := 156) hx hb (dq da_X11_imageError 102 rfl) (by decide) ?_
        exact hk156 _ _ _ _ _ h ls _ _ _ (lv_sub hl [2, 3, 4, 0] rfl) w
      · have h := ie c32 h
        refine lv_iload hx hb (dq da_X11_imageError 99 rfl) (lv_at hl 0 rfl) ?_
        exact xret_i E hr hlk w (by decide) (os h) rfl (dq da_X11_imageError 100 rfl)
def f_X11_imageError_b156 : Nat → Int32 → Int64 → Int32 → St → Option (Int32)
  | 0 => fun _ _ _ _ => none
  | n + 1 => f_X11_imageError_b156_s (f_X11_imageError_b156 n)
theorem b_X11_imageError_b156 {p : Program} {l : Launch} {e : Env} {s : State} {m : MethodId} {args : Array Value} {below : List Frame} {meth : Method} {c : Code} {D : va_G} {cy : ClassId × ClassId × ClassId} {ad : Nat → Nat} {A : Nat → Prop} (E : CallFix p m c cX11_imageError 6 s args gw RX11) (hr : meth.sig.returnType = some .int) (hlk : meth.locks = false) : ∀ n : Nat, ∀ (x1 : Int32) (x2 : Int64) (x4 : Int32) (u : St) (r : Int32), f_X11_imageError_b156 n x1 x2 x4 u = some r → ∀ (ls : Array Slot) (H : Heap) (locs : List Loc) (rr : Nat → Nat), lv_has ls 6 [(0, .ref (ad 0)), (1, .int x1), (2, .long x2), (4, .int x4)] → WX (wC cy ad) D cy rr u A s H locs → Wx (wC cy ad) D p l e 3 71 0 s m args below meth c A u (some (.int r)) H locs 0 156 ls [] := by
  intro n
  induction n with
  | zero => intro x1 x2 x4 u r h; cases h
  | succ n ih => intro x1 x2 x4 u r h ls H locs rr hl w; exact b_X11_imageError_b156_s E hr hlk ih h hl w
def f_X11_imageError (u : St) : Option (Int32) := if (64 : Int32) ≤ (f_X2_size_o1 u) then ((f_X2_number_o1 (0 : Int32) (7 : Int32) u).bind (fun y2 => if y2 = (282584257676671 : Int64) then ((f_X2_number_o1 (16 : Int32) (2 : Int32) u).bind (fun y5 => if y5 = (2 : Int64) then ((f_X2_number_o1 (18 : Int32) (2 : Int32) u).bind (fun y8 => if y8 = (243 : Int64) then ((f_X2_number_o1 (20 : Int32) (4 : Int32) u).bind (fun y11 => if y11 = (1 : Int64) then ((f_X11_imageRows u).bind (fun y14 => (f_X2_number_o1 (54 : Int32) (2 : Int32) u).bind (fun y16 => if y16 = (56 : Int64) then (if y14 < (1 : Int32) then (f_X11_imageError_b117 u) else (if y14 ≤ (16 : Int32) then ((f_X2_number_o1 (32 : Int32) (8 : Int32) u).bind (fun y21 => if (f_X11_lies y21 ((56 : Int64) * y14.toInt64) (f_X2_size_o1 u)) = (0 : Int32) then (some (5 : Int32)) else (f_X11_imageError_b156 FU y14 y21 (0 : Int32) u))) else (f_X11_imageError_b117 u))) else (f_X11_imageError_b117 u)))) else (f_X11_imageError_b82 u))) else (f_X11_imageError_b82 u))) else (f_X11_imageError_b82 u))) else (some (2 : Int32)))) else (some (1 : Int32))
set_option maxRecDepth 100000 in
set_option maxHeartbeats 4000000 in
theorem c_X11_imageError (l : Launch) (D : va_G) (cy : ClassId × ClassId × ClassId) (ad : Nat → Nat) (u : St) {r : Int32} (h : f_X11_imageError u = some r) : MX (wC cy ad) D cy l yX11_imageError cX11_imageError 6 (some .int) 3 71 0 [.ref (ad 0)] u u (some (.int (r))) := by
  refine entX (by decide +kernel) (Nat.le_of_ble_eq_true rfl) ?_
  intro p e s m args below meth c ls rr A E hr hlk hl w
  have hl : lv_has ls 6 [(0, .ref (ad 0))] := hl
  have hx := E.1
  have hb := E.2.1
  have hown := E.2.2.2.1
  have hts := E.2.2.2.2
  refine lv_aload_n hx hb (dq da_X11_imageError 0 rfl) rfl (lv_at hl 0 rfl) ?_
  refine gt_wC_0_tape E w w_288 (dq da_X11_imageError 1 rfl) ?_
  refine cV1 E (c_X2_size_o1 l D cy ad _ ) w_305 w_306 w_307 w_2 w_308 rfl hd_X2_size rfl hl.1 rfl (Nat.le_of_ble_eq_true rfl) ⟨Nat.le_of_ble_eq_true rfl, Nat.le_of_ble_eq_true rfl⟩ (by decide) w (rc_wC_1 w) (dq da_X11_imageError 2 rfl) (fun H locs rr w => ?_)
  refine lv_bipush (v := 64) hx hb (dq da_X11_imageError 3 rfl) rfl ?_
  refine lv_icmp_ge (tgt := 14) hx hb (dq da_X11_imageError 4 rfl) (by decide) (fun c1 => ?_) (fun c1 => ?_)
  · have h := it c1 h
    refine lv_aload_n hx hb (dq da_X11_imageError 7 rfl) rfl (lv_at hl 0 rfl) ?_
    refine gt_wC_0_tape E w w_288 (dq da_X11_imageError 8 rfl) ?_
    refine lv_iconst (v := 0) hx hb (dq da_X11_imageError 9 rfl) rfl ?_
    refine lv_bipush (v := 7) hx hb (dq da_X11_imageError 10 rfl) rfl ?_
    obtain ⟨y2, hy3, h⟩ := ob h
    refine cV1 E (c_X2_number_o1 l D cy ad _ _ _ hy3) w_321 w_322 w_323 w_2 w_324 rfl hd_X2_number rfl hl.1 rfl (Nat.le_of_ble_eq_true rfl) ⟨Nat.le_of_ble_eq_true rfl, Nat.le_of_ble_eq_true rfl⟩ (by decide) w (rc_wC_1 w) (dq da_X11_imageError 11 rfl) (fun H locs rr w => ?_)
    refine lv_ldc2 hx hb hown (hts _ w_329) (dq da_X11_imageError 12 rfl) ?_
    refine lc_eq (tgt := 33) hx hb (dq da_X11_imageError 13 rfl) (dq da_X11_imageError 14 rfl) (by decide) (fun c4 => ?_) (fun c4 => ?_)
    · have h := it c4 h
      refine lv_aload_n hx hb (dq da_X11_imageError 17 rfl) rfl (lv_at hl 0 rfl) ?_
      refine gt_wC_0_tape E w w_288 (dq da_X11_imageError 18 rfl) ?_
      refine lv_bipush (v := 16) hx hb (dq da_X11_imageError 19 rfl) rfl ?_
      refine lv_iconst (v := 2) hx hb (dq da_X11_imageError 20 rfl) rfl ?_
      obtain ⟨y5, hy6, h⟩ := ob h
      refine cV1 E (c_X2_number_o1 l D cy ad _ _ _ hy6) w_321 w_322 w_323 w_2 w_324 rfl hd_X2_number rfl hl.1 rfl (Nat.le_of_ble_eq_true rfl) ⟨Nat.le_of_ble_eq_true rfl, Nat.le_of_ble_eq_true rfl⟩ (by decide) w (rc_wC_1 w) (dq da_X11_imageError 21 rfl) (fun H locs rr w => ?_)
      refine lv_ldc2 hx hb hown (hts _ w_330) (dq da_X11_imageError 22 rfl) ?_
      refine lc_ne (tgt := 82) hx hb (dq da_X11_imageError 23 rfl) (dq da_X11_imageError 24 rfl) (by decide) (fun c7 => ?_) (fun c7 => ?_)
      · have h := ie c7 h
        exact b_X11_imageError_b82 E hr hlk h (lv_sub hl [] rfl) w
      · have h := it c7 h
        refine lv_aload_n hx hb (dq da_X11_imageError 25 rfl) rfl (lv_at hl 0 rfl) ?_
        refine gt_wC_0_tape E w w_288 (dq da_X11_imageError 26 rfl) ?_
        refine lv_bipush (v := 18) hx hb (dq da_X11_imageError 27 rfl) rfl ?_
        refine lv_iconst (v := 2) hx hb (dq da_X11_imageError 28 rfl) rfl ?_
        obtain ⟨y8, hy9, h⟩ := ob h
        refine cV1 E (c_X2_number_o1 l D cy ad _ _ _ hy9) w_321 w_322 w_323 w_2 w_324 rfl hd_X2_number rfl hl.1 rfl (Nat.le_of_ble_eq_true rfl) ⟨Nat.le_of_ble_eq_true rfl, Nat.le_of_ble_eq_true rfl⟩ (by decide) w (rc_wC_1 w) (dq da_X11_imageError 29 rfl) (fun H locs rr w => ?_)
        refine lv_ldc2 hx hb hown (hts _ w_331) (dq da_X11_imageError 30 rfl) ?_
        refine lc_ne (tgt := 82) hx hb (dq da_X11_imageError 31 rfl) (dq da_X11_imageError 32 rfl) (by decide) (fun c10 => ?_) (fun c10 => ?_)
        · have h := ie c10 h
          exact b_X11_imageError_b82 E hr hlk h (lv_sub hl [] rfl) w
        · have h := it c10 h
          refine lv_aload_n hx hb (dq da_X11_imageError 33 rfl) rfl (lv_at hl 0 rfl) ?_
          refine gt_wC_0_tape E w w_288 (dq da_X11_imageError 34 rfl) ?_
          refine lv_bipush (v := 20) hx hb (dq da_X11_imageError 35 rfl) rfl ?_
          refine lv_iconst (v := 4) hx hb (dq da_X11_imageError 36 rfl) rfl ?_
          obtain ⟨y11, hy12, h⟩ := ob h
          refine cV1 E (c_X2_number_o1 l D cy ad _ _ _ hy12) w_321 w_322 w_323 w_2 w_324 rfl hd_X2_number rfl hl.1 rfl (Nat.le_of_ble_eq_true rfl) ⟨Nat.le_of_ble_eq_true rfl, Nat.le_of_ble_eq_true rfl⟩ (by decide) w (rc_wC_1 w) (dq da_X11_imageError 37 rfl) (fun H locs rr w => ?_)
          refine lv_lconst (v := 1) hx hb (dq da_X11_imageError 38 rfl) rfl ?_
          refine lc_eq (tgt := 84) hx hb (dq da_X11_imageError 39 rfl) (dq da_X11_imageError 40 rfl) (by decide) (fun c13 => ?_) (fun c13 => ?_)
          · have h := it c13 h
            refine lv_aload_n hx hb (dq da_X11_imageError 43 rfl) rfl (lv_at hl 0 rfl) ?_
            obtain ⟨y14, hy15, h⟩ := ob h
            refine cV1 E (c_X11_imageRows l D cy ad _ hy15) w_332 w_334 w_p1 w_1 w_335 rfl hd_X11_imageRows rfl hl.1 rfl (Nat.le_of_ble_eq_true rfl) ⟨Nat.le_of_ble_eq_true rfl, Nat.le_of_ble_eq_true rfl⟩ (by decide) w (rc_wC_0 w) (dq da_X11_imageError 44 rfl) (fun H locs rr w => ?_)
            refine lv_istore_n (lv' := [(1, .int y14), (0, .ref (ad 0))]) hx hb (dq da_X11_imageError 45 rfl) rfl hl (by decide) rfl (fun ls hl => ?_)
            refine lv_aload_n hx hb (dq da_X11_imageError 46 rfl) rfl (lv_at hl 1 rfl) ?_
            refine gt_wC_0_tape E w w_288 (dq da_X11_imageError 47 rfl) ?_
            refine lv_bipush (v := 54) hx hb (dq da_X11_imageError 48 rfl) rfl ?_
            refine lv_iconst (v := 2) hx hb (dq da_X11_imageError 49 rfl) rfl ?_
            obtain ⟨y16, hy17, h⟩ := ob h
            refine cV1 E (c_X2_number_o1 l D cy ad _ _ _ hy17) w_321 w_322 w_323 w_2 w_324 rfl hd_X2_number rfl hl.1 rfl (Nat.le_of_ble_eq_true rfl) ⟨Nat.le_of_ble_eq_true rfl, Nat.le_of_ble_eq_true rfl⟩ (by decide) w (rc_wC_1 w) (dq da_X11_imageError 50 rfl) (fun H locs rr w => ?_)
            refine lv_ldc2 hx hb hown (hts _ w_336) (dq da_X11_imageError 51 rfl) ?_
            refine lc_ne (tgt := 117) hx hb (dq da_X11_imageError 52 rfl) (dq da_X11_imageError 53 rfl) (by decide) (fun c18 => ?_) (fun c18 => ?_)
            · have h := ie c18 h
              exact b_X11_imageError_b117 E hr hlk h (lv_sub hl [] rfl) w
            · have h := it c18 h
              refine lv_iload_n hx hb (dq da_X11_imageError 54 rfl) rfl (lv_at hl 0 rfl) ?_
              refine lv_iconst (v := 1) hx hb (dq da_X11_imageError 55 rfl) rfl ?_
              refine lv_icmp_lt (tgt := 117) hx hb (dq da_X11_imageError 56 rfl) (by decide) (fun c19 => ?_) (fun c19 => ?_)
              · have h := it c19 h
                exact b_X11_imageError_b117 E hr hlk h (lv_sub hl [] rfl) w
              · have h := ie c19 h
                refine lv_iload_n hx hb (dq da_X11_imageError 57 rfl) rfl (lv_at hl 0 rfl) ?_
                refine lv_bipush (v := 16) hx hb (dq da_X11_imageError 58 rfl) rfl ?_
                refine lv_icmp_le (tgt := 119) hx hb (dq da_X11_imageError 59 rfl) (by decide) (fun c20 => ?_) (fun c20 => ?_)
                · have h := it c20 h
                  refine lv_aload_n hx hb (dq da_X11_imageError 62 rfl) rfl (lv_at hl 1 rfl) ?_
                  refine gt_wC_0_tape E w w_288 (dq da_X11_imageError 63 rfl) ?_
                  refine lv_bipush (v := 32) hx hb (dq da_X11_imageError 64 rfl) rfl ?_
                  refine lv_bipush (v := 8) hx hb (dq da_X11_imageError 65 rfl) rfl ?_
                  obtain ⟨y21, hy22, h⟩ := ob h
                  refine cV1 E (c_X2_number_o1 l D cy ad _ _ _ hy22) w_321 w_322 w_323 w_2 w_324 rfl hd_X2_number rfl hl.1 rfl (Nat.le_of_ble_eq_true rfl) ⟨Nat.le_of_ble_eq_true rfl, Nat.le_of_ble_eq_true rfl⟩ (by decide) w (rc_wC_1 w) (dq da_X11_imageError 66 rfl) (fun H locs rr w => ?_)
                  refine lv_lstore_n (lv' := [(2, .long y21), (1, .int y14), (0, .ref (ad 0))]) hx hb (dq da_X11_imageError 67 rfl) rfl hl (by decide) rfl (fun ls hl => ?_)
                  refine lv_lload_n hx hb (dq da_X11_imageError 68 rfl) rfl (lv_at hl 0 rfl) ?_
                  refine lv_ldc2 hx hb hown (hts _ w_336) (dq da_X11_imageError 69 rfl) ?_
                  refine lv_iload_n hx hb (dq da_X11_imageError 70 rfl) rfl (lv_at hl 1 rfl) ?_
                  refine lv_i2l (v := y14.toInt64) hx hb (dq da_X11_imageError 71 rfl) rfl ?_
                  refine lv_lmul hx hb (dq da_X11_imageError 72 rfl) ?_
                  refine lv_aload_n hx hb (dq da_X11_imageError 73 rfl) rfl (lv_at hl 2 rfl) ?_
                  refine gt_wC_0_tape E w w_288 (dq da_X11_imageError 74 rfl) ?_
                  refine cV1 E (c_X2_size_o1 l D cy ad _ ) w_305 w_306 w_307 w_2 w_308 rfl hd_X2_size rfl hl.1 rfl (Nat.le_of_ble_eq_true rfl) ⟨Nat.le_of_ble_eq_true rfl, Nat.le_of_ble_eq_true rfl⟩ (by decide) w (rc_wC_1 w) (dq da_X11_imageError 75 rfl) (fun H locs rr w => ?_)
                  refine callP E (c_X11_lies l _ _ _ ) w_337 w_338 w_1 w_339 hd_X11_lies rfl hl.1 rfl (Nat.le_of_ble_eq_true rfl) ⟨Nat.le_of_ble_eq_true rfl, Nat.le_of_ble_eq_true rfl⟩ (by decide) (dq da_X11_imageError 76 rfl) ?_
                  refine lv_if_ne (tgt := 153) hx hb (dq da_X11_imageError 77 rfl) (by decide) (fun c23 => ?_) (fun c23 => ?_)
                  · have h := ie c23 h
                    refine lv_iconst (v := 0) hx hb (dq da_X11_imageError 80 rfl) rfl ?_
                    refine lv_istore (lv' := [(4, .int (0 : Int32)), (2, .long y21), (1, .int y14), (0, .ref (ad 0))]) hx hb (dq da_X11_imageError 81 rfl) hl (by decide) rfl (fun ls hl => ?_)
                    exact b_X11_imageError_b156 E hr hlk FU _ _ _ _ _ h ls _ _ _ (lv_sub hl [3, 2, 1, 0] rfl) w
                  · have h := it c23 h
                    refine lv_iconst (v := 5) hx hb (dq da_X11_imageError 78 rfl) rfl ?_
                    exact xret_i E hr hlk w (by decide) (os h) rfl (dq da_X11_imageError 79 rfl)
                · have h := ie c20 h
                  exact b_X11_imageError_b117 E hr hlk h (lv_sub hl [] rfl) w
          · have h := ie c13 h
            exact b_X11_imageError_b82 E hr hlk h (lv_sub hl [] rfl) w
    · have h := ie c4 h
      refine lv_iconst (v := 2) hx hb (dq da_X11_imageError 15 rfl) rfl ?_
      exact xret_i E hr hlk w (by decide) (os h) rfl (dq da_X11_imageError 16 rfl)
  · have h := ie c1 h
    refine lv_iconst (v := 1) hx hb (dq da_X11_imageError 5 rfl) rfl ?_
    exact xret_i E hr hlk w (by decide) (os h) rfl (dq da_X11_imageError 6 rfl)
def dl_X11_bringRow : List (Nat × Instr × Nat) := [(0, .aload_n 0, 1), (1, .getfield 15, 3), (4, .iload_n 1, 1), (5, .bipush 8, 2), (7, .iadd, 1), (8, .bipush 8, 2), (10, .invokevirtual 205, 3), (13, .l2i, 1), (14, .istore_n 2, 1), (15, .aload_n 0, 1), (16, .getfield 15, 3), (19, .iload_n 1, 1), (20, .bipush 24, 2), (22, .iadd, 1), (23, .bipush 8, 2), (25, .invokevirtual 205, 3), (28, .ldc2_w 226, 3), (31, .lsub, 1), (32, .l2i, 1), (33, .istore_n 3, 1), (34, .aload_n 0, 1), (35, .getfield 15, 3), (38, .iload_n 1, 1), (39, .bipush 32, 2), (41, .iadd, 1), (42, .bipush 8, 2), (44, .invokevirtual 205, 3), (47, .l2i, 1), (48, .istore 4, 2), (50, .aload_n 0, 1), (51, .getfield 15, 3), (54, .iload_n 1, 1), (55, .bipush 40, 2), (57, .iadd, 1), (58, .bipush 8, 2), (60, .invokevirtual 205, 3), (63, .l2i, 1), (64, .istore 5, 2), (66, .iconst 0, 1), (67, .istore 6, 2), (69, .iload 6, 2), (71, .iload 4, 2), (73, .if_icmp .ge 36, 3), (76, .aload_n 0, 1), (77, .getfield 27, 3), (80, .getfield 95, 3), (83, .iload_n 3, 1), (84, .iload 6, 2), (86, .iadd, 1), (87, .iconst 1, 1), (88, .aload_n 0, 1), (89, .getfield 15, 3), (92, .iload_n 2, 1), (93, .iload 6, 2), (95, .iadd, 1), (96, .invokevirtual 88, 3), (99, .i2l, 1), (100, .invokevirtual 108, 3), (103, .iinc 6 1, 3), (106, .goto (-37), 3), (109, .aload_n 0, 1), (110, .getfield 27, 3), (113, .getfield 95, 3), (116, .iload_n 3, 1), (117, .iload 4, 2), (119, .iadd, 1), (120, .iload_n 3, 1), (121, .iload 5, 2), (123, .iadd, 1), (124, .invokevirtual 234, 3), (127, .return_, 1)]
theorem da_X11_bringRow : dkL cX11_bringRow dl_X11_bringRow = true := by decide +kernel
def f_X11_bringRow_b69_s (k69 : Int32 → Int32 → Int32 → Int32 → Int32 → St → Option (St)) (x2 : Int32) (x3 : Int32) (x4 : Int32) (x5 : Int32) (x6 : Int32) (u : St) : Option (St) := if x4 ≤ x6 then ((f_X10_zero (x3 + x4) (x3 + x5) u).bind (fun y10 => some y10)) else ((f_X2_byteAt_o1 (x2 + x6) u).bind (fun y12 => (f_X10_write (x3 + x6) (1 : Int32) y12.toInt64 u).bind (fun y14 => k69 x2 x3 x4 x5 (x6 + (1 : Int32)) y14)))
set_option maxRecDepth 100000 in
set_option maxHeartbeats 4000000 in
theorem b_X11_bringRow_b69_s {p : Program} {l : Launch} {e : Env} {s : State} {m : MethodId} {args : Array Value} {below : List Frame} {meth : Method} {c : Code} {D : va_G} {cy : ClassId × ClassId × ClassId} {ad : Nat → Nat} {A : Nat → Prop} (E : CallFix p m c cX11_bringRow 7 s args gw RX11) (hr : meth.sig.returnType = none) (hlk : meth.locks = false) {k69 : Int32 → Int32 → Int32 → Int32 → Int32 → St → Option (St)} (hk69 : ∀ (x2 : Int32) (x3 : Int32) (x4 : Int32) (x5 : Int32) (x6 : Int32) (u : St) (u' : St), k69 x2 x3 x4 x5 x6 u = some u' → ∀ (ls : Array Slot) (H : Heap) (locs : List Loc) (rr : Nat → Nat), lv_has ls 7 [(0, .ref (ad 0)), (2, .int x2), (3, .int x3), (4, .int x4), (5, .int x5), (6, .int x6)] → WX (wC cy ad) D cy rr u A s H locs → Wx (wC cy ad) D p l e 2 51 0 s m args below meth c A u' none H locs 0 69 ls []) {x2 : Int32} {x3 : Int32} {x4 : Int32} {x5 : Int32} {x6 : Int32} {u : St} {u' : St} (h : f_X11_bringRow_b69_s k69 x2 x3 x4 x5 x6 u = some u') {ls : Array Slot} {H : Heap} {locs : List Loc} {rr : Nat → Nat} (hl : lv_has ls 7 [(0, .ref (ad 0)), (2, .int x2), (3, .int x3), (4, .int x4), (5, .int x5), (6, .int x6)]) (w : WX (wC cy ad) D cy rr u A s H locs) : Wx (wC cy ad) D p l e 2 51 0 s m args below meth c A u' none H locs 0 69 ls [] := by
  have hx := E.1
  have hb := E.2.1
  have hown := E.2.2.2.1
  have hts := E.2.2.2.2
  refine lv_iload hx hb (dq da_X11_bringRow 40 rfl) (lv_at hl 5 rfl) ?_
  refine lv_iload hx hb (dq da_X11_bringRow 41 rfl) (lv_at hl 3 rfl) ?_
  refine lv_icmp_ge (tgt := 109) hx hb (dq da_X11_bringRow 42 rfl) (by decide) (fun c9 => ?_) (fun c9 => ?_)
  · have h := it c9 h
    refine lv_aload_n hx hb (dq da_X11_bringRow 60 rfl) rfl (lv_at hl 0 rfl) ?_
    refine gt_wC_0_bus E w w_289 (dq da_X11_bringRow 61 rfl) ?_
    refine gtN_wC_3_ram E w n_5 (dq da_X11_bringRow 62 rfl) ?_
    refine lv_iload_n hx hb (dq da_X11_bringRow 63 rfl) rfl (lv_at hl 2 rfl) ?_
    refine lv_iload hx hb (dq da_X11_bringRow 64 rfl) (lv_at hl 3 rfl) ?_
    refine lv_iadd hx hb (dq da_X11_bringRow 65 rfl) ?_
    refine lv_iload_n hx hb (dq da_X11_bringRow 66 rfl) rfl (lv_at hl 2 rfl) ?_
    refine lv_iload hx hb (dq da_X11_bringRow 67 rfl) (lv_at hl 4 rfl) ?_
    refine lv_iadd hx hb (dq da_X11_bringRow 68 rfl) ?_
    obtain ⟨y10, hy11, h⟩ := ob h
    refine cV0 E (c_X10_zero l D cy ad _ _ _ hy11) w_364 w_365 w_366 w_4 w_367 rfl hd_X10_zero rfl hl.1 rfl (Nat.le_of_ble_eq_true rfl) ⟨Nat.le_of_ble_eq_true rfl, Nat.le_of_ble_eq_true rfl⟩ (by decide) w (rc_wC_4 w) (dq da_X11_bringRow 69 rfl) (fun H locs rr w => ?_)
    exact xret_v E hr hlk w (by decide) (os h) (dq da_X11_bringRow 70 rfl)
  · have h := ie c9 h
    refine lv_aload_n hx hb (dq da_X11_bringRow 43 rfl) rfl (lv_at hl 0 rfl) ?_
    refine gt_wC_0_bus E w w_289 (dq da_X11_bringRow 44 rfl) ?_
    refine gtN_wC_3_ram E w n_5 (dq da_X11_bringRow 45 rfl) ?_
    refine lv_iload_n hx hb (dq da_X11_bringRow 46 rfl) rfl (lv_at hl 2 rfl) ?_
    refine lv_iload hx hb (dq da_X11_bringRow 47 rfl) (lv_at hl 5 rfl) ?_
    refine lv_iadd hx hb (dq da_X11_bringRow 48 rfl) ?_
    refine lv_iconst (v := 1) hx hb (dq da_X11_bringRow 49 rfl) rfl ?_
    refine lv_aload_n hx hb (dq da_X11_bringRow 50 rfl) rfl (lv_at hl 0 rfl) ?_
    refine gt_wC_0_tape E w w_288 (dq da_X11_bringRow 51 rfl) ?_
    refine lv_iload_n hx hb (dq da_X11_bringRow 52 rfl) rfl (lv_at hl 1 rfl) ?_
    refine lv_iload hx hb (dq da_X11_bringRow 53 rfl) (lv_at hl 5 rfl) ?_
    refine lv_iadd hx hb (dq da_X11_bringRow 54 rfl) ?_
    obtain ⟨y12, hy13, h⟩ := ob h
    refine cV1 E (c_X2_byteAt_o1 l D cy ad _ _ hy13) w_358 w_326 w_327 w_2 w_328 rfl hd_X2_byteAt rfl hl.1 rfl (Nat.le_of_ble_eq_true rfl) ⟨Nat.le_of_ble_eq_true rfl, Nat.le_of_ble_eq_true rfl⟩ (by decide) w (rc_wC_1 w) (dq da_X11_bringRow 55 rfl) (fun H locs rr w => ?_)
    refine lv_i2l (v := y12.toInt64) hx hb (dq da_X11_bringRow 56 rfl) rfl ?_
    obtain ⟨y14, hy15, h⟩ := ob h
    refine cV0 E (c_X10_write l D cy ad _ _ _ _ hy15) w_359 w_360 w_361 w_4 w_362 rfl hd_X10_write rfl hl.1 rfl (Nat.le_of_ble_eq_true rfl) ⟨Nat.le_of_ble_eq_true rfl, Nat.le_of_ble_eq_true rfl⟩ (by decide) w (rc_wC_4 w) (dq da_X11_bringRow 57 rfl) (fun H locs rr w => ?_)
    refine lv_iinc (v := (x6 + (1 : Int32))) (lv' := [(6, .int (x6 + (1 : Int32))), (0, .ref (ad 0)), (2, .int x2), (3, .int x3), (4, .int x4), (5, .int x5)]) hx hb (dq da_X11_bringRow 58 rfl) hl (k := 5) rfl rfl (by decide) rfl (fun ls hl => ?_)
    refine lv_goto (tgt := 69) hx hb (dq da_X11_bringRow 59 rfl) (by decide) ?_
    exact hk69 _ _ _ _ _ _ _ h ls _ _ _ (lv_sub hl [1, 2, 3, 4, 5, 0] rfl) w
def f_X11_bringRow_b69 : Nat → Int32 → Int32 → Int32 → Int32 → Int32 → St → Option (St)
  | 0 => fun _ _ _ _ _ _ => none
  | n + 1 => f_X11_bringRow_b69_s (f_X11_bringRow_b69 n)
theorem b_X11_bringRow_b69 {p : Program} {l : Launch} {e : Env} {s : State} {m : MethodId} {args : Array Value} {below : List Frame} {meth : Method} {c : Code} {D : va_G} {cy : ClassId × ClassId × ClassId} {ad : Nat → Nat} {A : Nat → Prop} (E : CallFix p m c cX11_bringRow 7 s args gw RX11) (hr : meth.sig.returnType = none) (hlk : meth.locks = false) : ∀ n : Nat, ∀ (x2 : Int32) (x3 : Int32) (x4 : Int32) (x5 : Int32) (x6 : Int32) (u : St) (u' : St), f_X11_bringRow_b69 n x2 x3 x4 x5 x6 u = some u' → ∀ (ls : Array Slot) (H : Heap) (locs : List Loc) (rr : Nat → Nat), lv_has ls 7 [(0, .ref (ad 0)), (2, .int x2), (3, .int x3), (4, .int x4), (5, .int x5), (6, .int x6)] → WX (wC cy ad) D cy rr u A s H locs → Wx (wC cy ad) D p l e 2 51 0 s m args below meth c A u' none H locs 0 69 ls [] := by
  intro n
  induction n with
  | zero => intro x2 x3 x4 x5 x6 u u' h; cases h
  | succ n ih => intro x2 x3 x4 x5 x6 u u' h ls H locs rr hl w; exact b_X11_bringRow_b69_s E hr hlk ih h hl w
def f_X11_bringRow (x1 : Int32) (u : St) : Option (St) := (f_X2_number_o1 (x1 + (8 : Int32)) (8 : Int32) u).bind (fun y1 => (f_X2_number_o1 (x1 + (24 : Int32)) (8 : Int32) u).bind (fun y3 => (f_X2_number_o1 (x1 + (32 : Int32)) (8 : Int32) u).bind (fun y5 => (f_X2_number_o1 (x1 + (40 : Int32)) (8 : Int32) u).bind (fun y7 => f_X11_bringRow_b69 FU y1.toInt32 ((y3 - (2147483648 : Int64)).toInt32) y5.toInt32 y7.toInt32 (0 : Int32) u))))
set_option maxRecDepth 100000 in
set_option maxHeartbeats 4000000 in
theorem c_X11_bringRow (l : Launch) (D : va_G) (cy : ClassId × ClassId × ClassId) (ad : Nat → Nat) (x1 : Int32) (u : St) {u' : St} (h : f_X11_bringRow x1 u = some u') : MX (wC cy ad) D cy l yX11_bringRow cX11_bringRow 7 (none) 2 51 0 [.ref (ad 0), .int x1] u u' none := by
  refine entX (by decide +kernel) (Nat.le_of_ble_eq_true rfl) ?_
  intro p e s m args below meth c ls rr A E hr hlk hl w
  have hl : lv_has ls 7 [(0, .ref (ad 0)), (1, .int x1)] := hl
  have hx := E.1
  have hb := E.2.1
  have hown := E.2.2.2.1
  have hts := E.2.2.2.2
  refine lv_aload_n hx hb (dq da_X11_bringRow 0 rfl) rfl (lv_at hl 0 rfl) ?_
  refine gt_wC_0_tape E w w_288 (dq da_X11_bringRow 1 rfl) ?_
  refine lv_iload_n hx hb (dq da_X11_bringRow 2 rfl) rfl (lv_at hl 1 rfl) ?_
  refine lv_bipush (v := 8) hx hb (dq da_X11_bringRow 3 rfl) rfl ?_
  refine lv_iadd hx hb (dq da_X11_bringRow 4 rfl) ?_
  refine lv_bipush (v := 8) hx hb (dq da_X11_bringRow 5 rfl) rfl ?_
  obtain ⟨y1, hy2, h⟩ := ob h
  refine cV1 E (c_X2_number_o1 l D cy ad _ _ _ hy2) w_321 w_322 w_323 w_2 w_324 rfl hd_X2_number rfl hl.1 rfl (Nat.le_of_ble_eq_true rfl) ⟨Nat.le_of_ble_eq_true rfl, Nat.le_of_ble_eq_true rfl⟩ (by decide) w (rc_wC_1 w) (dq da_X11_bringRow 6 rfl) (fun H locs rr w => ?_)
  refine lv_l2i (v := y1.toInt32) hx hb (dq da_X11_bringRow 7 rfl) rfl ?_
  refine lv_istore_n (lv' := [(2, .int y1.toInt32), (0, .ref (ad 0)), (1, .int x1)]) hx hb (dq da_X11_bringRow 8 rfl) rfl hl (by decide) rfl (fun ls hl => ?_)
  refine lv_aload_n hx hb (dq da_X11_bringRow 9 rfl) rfl (lv_at hl 1 rfl) ?_
  refine gt_wC_0_tape E w w_288 (dq da_X11_bringRow 10 rfl) ?_
  refine lv_iload_n hx hb (dq da_X11_bringRow 11 rfl) rfl (lv_at hl 2 rfl) ?_
  refine lv_bipush (v := 24) hx hb (dq da_X11_bringRow 12 rfl) rfl ?_
  refine lv_iadd hx hb (dq da_X11_bringRow 13 rfl) ?_
  refine lv_bipush (v := 8) hx hb (dq da_X11_bringRow 14 rfl) rfl ?_
  obtain ⟨y3, hy4, h⟩ := ob h
  refine cV1 E (c_X2_number_o1 l D cy ad _ _ _ hy4) w_321 w_322 w_323 w_2 w_324 rfl hd_X2_number rfl hl.1 rfl (Nat.le_of_ble_eq_true rfl) ⟨Nat.le_of_ble_eq_true rfl, Nat.le_of_ble_eq_true rfl⟩ (by decide) w (rc_wC_1 w) (dq da_X11_bringRow 15 rfl) (fun H locs rr w => ?_)
  refine lv_ldc2 hx hb hown (hts _ w_344) (dq da_X11_bringRow 16 rfl) ?_
  refine lv_lsub hx hb (dq da_X11_bringRow 17 rfl) ?_
  refine lv_l2i (v := (y3 - (2147483648 : Int64)).toInt32) hx hb (dq da_X11_bringRow 18 rfl) rfl ?_
  refine lv_istore_n (lv' := [(3, .int ((y3 - (2147483648 : Int64)).toInt32)), (2, .int y1.toInt32), (0, .ref (ad 0)), (1, .int x1)]) hx hb (dq da_X11_bringRow 19 rfl) rfl hl (by decide) rfl (fun ls hl => ?_)
  refine lv_aload_n hx hb (dq da_X11_bringRow 20 rfl) rfl (lv_at hl 2 rfl) ?_
  refine gt_wC_0_tape E w w_288 (dq da_X11_bringRow 21 rfl) ?_
  refine lv_iload_n hx hb (dq da_X11_bringRow 22 rfl) rfl (lv_at hl 3 rfl) ?_
  refine lv_bipush (v := 32) hx hb (dq da_X11_bringRow 23 rfl) rfl ?_
  refine lv_iadd hx hb (dq da_X11_bringRow 24 rfl) ?_
  refine lv_bipush (v := 8) hx hb (dq da_X11_bringRow 25 rfl) rfl ?_
  obtain ⟨y5, hy6, h⟩ := ob h
  refine cV1 E (c_X2_number_o1 l D cy ad _ _ _ hy6) w_321 w_322 w_323 w_2 w_324 rfl hd_X2_number rfl hl.1 rfl (Nat.le_of_ble_eq_true rfl) ⟨Nat.le_of_ble_eq_true rfl, Nat.le_of_ble_eq_true rfl⟩ (by decide) w (rc_wC_1 w) (dq da_X11_bringRow 26 rfl) (fun H locs rr w => ?_)
  refine lv_l2i (v := y5.toInt32) hx hb (dq da_X11_bringRow 27 rfl) rfl ?_
  refine lv_istore (lv' := [(4, .int y5.toInt32), (3, .int ((y3 - (2147483648 : Int64)).toInt32)), (2, .int y1.toInt32), (0, .ref (ad 0)), (1, .int x1)]) hx hb (dq da_X11_bringRow 28 rfl) hl (by decide) rfl (fun ls hl => ?_)
  refine lv_aload_n hx hb (dq da_X11_bringRow 29 rfl) rfl (lv_at hl 3 rfl) ?_
  refine gt_wC_0_tape E w w_288 (dq da_X11_bringRow 30 rfl) ?_
  refine lv_iload_n hx hb (dq da_X11_bringRow 31 rfl) rfl (lv_at hl 4 rfl) ?_
  refine lv_bipush (v := 40) hx hb (dq da_X11_bringRow 32 rfl) rfl ?_
  refine lv_iadd hx hb (dq da_X11_bringRow 33 rfl) ?_
  refine lv_bipush (v := 8) hx hb (dq da_X11_bringRow 34 rfl) rfl ?_
  obtain ⟨y7, hy8, h⟩ := ob h
  refine cV1 E (c_X2_number_o1 l D cy ad _ _ _ hy8) w_321 w_322 w_323 w_2 w_324 rfl hd_X2_number rfl hl.1 rfl (Nat.le_of_ble_eq_true rfl) ⟨Nat.le_of_ble_eq_true rfl, Nat.le_of_ble_eq_true rfl⟩ (by decide) w (rc_wC_1 w) (dq da_X11_bringRow 35 rfl) (fun H locs rr w => ?_)
  refine lv_l2i (v := y7.toInt32) hx hb (dq da_X11_bringRow 36 rfl) rfl ?_
  refine lv_istore (lv' := [(5, .int y7.toInt32), (4, .int y5.toInt32), (3, .int ((y3 - (2147483648 : Int64)).toInt32)), (2, .int y1.toInt32), (0, .ref (ad 0)), (1, .int x1)]) hx hb (dq da_X11_bringRow 37 rfl) hl (by decide) rfl (fun ls hl => ?_)
  refine lv_iconst (v := 0) hx hb (dq da_X11_bringRow 38 rfl) rfl ?_
  refine lv_istore (lv' := [(6, .int (0 : Int32)), (5, .int y7.toInt32), (4, .int y5.toInt32), (3, .int ((y3 - (2147483648 : Int64)).toInt32)), (2, .int y1.toInt32), (0, .ref (ad 0)), (1, .int x1)]) hx hb (dq da_X11_bringRow 39 rfl) hl (by decide) rfl (fun ls hl => ?_)
  exact b_X11_bringRow_b69 E hr hlk FU _ _ _ _ _ _ _ h ls _ _ _ (lv_sub hl [5, 4, 3, 2, 1, 0] rfl) w
def dl_X11_bringImage : List (Nat × Instr × Nat) := [(0, .aload_n 0, 1), (1, .getfield 15, 3), (4, .bipush 32, 2), (6, .bipush 8, 2), (8, .invokevirtual 205, 3), (11, .l2i, 1), (12, .istore_n 1, 1), (13, .aload_n 0, 1), (14, .invokevirtual 214, 3), (17, .istore_n 2, 1), (18, .iconst 0, 1), (19, .istore_n 3, 1), (20, .iload_n 3, 1), (21, .iload_n 2, 1), (22, .if_icmp .ge 44, 3), (25, .iload_n 3, 1), (26, .bipush 16, 2), (28, .if_icmp .ge 38, 3), (31, .aload_n 0, 1), (32, .getfield 15, 3), (35, .iload_n 1, 1), (36, .bipush 56, 2), (38, .iload_n 3, 1), (39, .imul, 1), (40, .iadd, 1), (41, .iconst 4, 1), (42, .invokevirtual 205, 3), (45, .lconst 1, 1), (46, .lcmp, 1), (47, .ifCond .ne 13, 3), (50, .aload_n 0, 1), (51, .iload_n 1, 1), (52, .bipush 56, 2), (54, .iload_n 3, 1), (55, .imul, 1), (56, .iadd, 1), (57, .invokevirtual 228, 3), (60, .iinc 3 1, 3), (63, .goto (-43), 3), (66, .aload_n 0, 1), (67, .getfield 45, 3), (70, .aload_n 0, 1), (71, .getfield 15, 3), (74, .bipush 24, 2), (76, .bipush 8, 2), (78, .invokevirtual 205, 3), (81, .putfield 120, 3), (84, .aload_n 0, 1), (85, .getfield 45, 3), (88, .iconst 3, 1), (89, .putfield 130, 3), (92, .aload_n 0, 1), (93, .getfield 27, 3), (96, .invokevirtual 231, 3), (99, .return_, 1)]
theorem da_X11_bringImage : dkL cX11_bringImage dl_X11_bringImage = true := by decide +kernel
def f_X11_bringImage_b66 (u : St) : Option (St) := (f_X2_number_o1 (24 : Int32) (8 : Int32) u).bind (fun y6 => some (f_X1_endReservation (sI (sL u 24 y6) 16 (3 : Int32))))
set_option maxRecDepth 100000 in
set_option maxHeartbeats 4000000 in
theorem b_X11_bringImage_b66 {p : Program} {l : Launch} {e : Env} {s : State} {m : MethodId} {args : Array Value} {below : List Frame} {meth : Method} {c : Code} {D : va_G} {cy : ClassId × ClassId × ClassId} {ad : Nat → Nat} {A : Nat → Prop} (E : CallFix p m c cX11_bringImage 4 s args gw RX11) (hr : meth.sig.returnType = none) (hlk : meth.locks = false) {u : St} {u' : St} (h : f_X11_bringImage_b66 u = some u') {ls : Array Slot} {H : Heap} {locs : List Loc} {rr : Nat → Nat} (hl : lv_has ls 4 [(0, .ref (ad 0))]) (w : WX (wC cy ad) D cy rr u A s H locs) : Wx (wC cy ad) D p l e 3 77 0 s m args below meth c A u' none H locs 0 66 ls [] := by
  have hx := E.1
  have hb := E.2.1
  have hown := E.2.2.2.1
  have hts := E.2.2.2.2
  refine lv_aload_n hx hb (dq da_X11_bringImage 39 rfl) rfl (lv_at hl 0 rfl) ?_
  refine gt_wC_0_hart E w w_291 (dq da_X11_bringImage 40 rfl) ?_
  refine lv_aload_n hx hb (dq da_X11_bringImage 41 rfl) rfl (lv_at hl 0 rfl) ?_
  refine gt_wC_0_tape E w w_288 (dq da_X11_bringImage 42 rfl) ?_
  refine lv_bipush (v := 24) hx hb (dq da_X11_bringImage 43 rfl) rfl ?_
  refine lv_bipush (v := 8) hx hb (dq da_X11_bringImage 44 rfl) rfl ?_
  obtain ⟨y6, hy7, h⟩ := ob h
  refine cV1 E (c_X2_number_o1 l D cy ad _ _ _ hy7) w_321 w_322 w_323 w_2 w_324 rfl hd_X2_number rfl hl.1 rfl (Nat.le_of_ble_eq_true rfl) ⟨Nat.le_of_ble_eq_true rfl, Nat.le_of_ble_eq_true rfl⟩ (by decide) w (rc_wC_1 w) (dq da_X11_bringImage 45 rfl) (fun H locs rr w => ?_)
  refine ptN_wC_18_pc E w n_31 (dq da_X11_bringImage 46 rfl) (fun H locs w => ?_)
  refine lv_aload_n hx hb (dq da_X11_bringImage 47 rfl) rfl (lv_at hl 0 rfl) ?_
  refine gt_wC_0_hart E w w_291 (dq da_X11_bringImage 48 rfl) ?_
  refine lv_iconst (v := 3) hx hb (dq da_X11_bringImage 49 rfl) rfl ?_
  refine ptN_wC_18_privilege E w n_32 (dq da_X11_bringImage 50 rfl) (fun H locs w => ?_)
  refine lv_aload_n hx hb (dq da_X11_bringImage 51 rfl) rfl (lv_at hl 0 rfl) ?_
  refine gt_wC_0_bus E w w_289 (dq da_X11_bringImage 52 rfl) ?_
  refine cV0 E (c_X1_endReservation l D cy ad _ ) w_369 w_370 w_371 w_3 w_372 rfl hd_X1_endReservation rfl hl.1 rfl (Nat.le_of_ble_eq_true rfl) ⟨Nat.le_of_ble_eq_true rfl, Nat.le_of_ble_eq_true rfl⟩ (by decide) w (rc_wC_3 w) (dq da_X11_bringImage 53 rfl) (fun H locs rr w => ?_)
  exact xret_v E hr hlk w (by decide) (os h) (dq da_X11_bringImage 54 rfl)
def f_X11_bringImage_b60 (k20 : Int32 → Int32 → Int32 → St → Option (St)) (x1 : Int32) (x2 : Int32) (x3 : Int32) (u : St) : Option (St) := k20 x1 x2 (x3 + (1 : Int32)) u
set_option maxRecDepth 100000 in
set_option maxHeartbeats 4000000 in
theorem b_X11_bringImage_b60 {p : Program} {l : Launch} {e : Env} {s : State} {m : MethodId} {args : Array Value} {below : List Frame} {meth : Method} {c : Code} {D : va_G} {cy : ClassId × ClassId × ClassId} {ad : Nat → Nat} {A : Nat → Prop} (E : CallFix p m c cX11_bringImage 4 s args gw RX11) (hr : meth.sig.returnType = none) (hlk : meth.locks = false) {k20 : Int32 → Int32 → Int32 → St → Option (St)} (hk20 : ∀ (x1 : Int32) (x2 : Int32) (x3 : Int32) (u : St) (u' : St), k20 x1 x2 x3 u = some u' → ∀ (ls : Array Slot) (H : Heap) (locs : List Loc) (rr : Nat → Nat), lv_has ls 4 [(0, .ref (ad 0)), (1, .int x1), (2, .int x2), (3, .int x3)] → WX (wC cy ad) D cy rr u A s H locs → Wx (wC cy ad) D p l e 3 77 0 s m args below meth c A u' none H locs 0 20 ls []) {x1 : Int32} {x2 : Int32} {x3 : Int32} {u : St} {u' : St} (h : f_X11_bringImage_b60 k20 x1 x2 x3 u = some u') {ls : Array Slot} {H : Heap} {locs : List Loc} {rr : Nat → Nat} (hl : lv_has ls 4 [(0, .ref (ad 0)), (1, .int x1), (2, .int x2), (3, .int x3)]) (w : WX (wC cy ad) D cy rr u A s H locs) : Wx (wC cy ad) D p l e 3 77 0 s m args below meth c A u' none H locs 0 60 ls [] := by
  have hx := E.1
  have hb := E.2.1
  have hown := E.2.2.2.1
  have hts := E.2.2.2.2
  refine lv_iinc (v := (x3 + (1 : Int32))) (lv' := [(3, .int (x3 + (1 : Int32))), (0, .ref (ad 0)), (1, .int x1), (2, .int x2)]) hx hb (dq da_X11_bringImage 37 rfl) hl (k := 3) rfl rfl (by decide) rfl (fun ls hl => ?_)
  refine lv_goto (tgt := 20) hx hb (dq da_X11_bringImage 38 rfl) (by decide) ?_
  exact hk20 _ _ _ _ _ h ls _ _ _ (lv_sub hl [1, 2, 3, 0] rfl) w
def f_X11_bringImage_b20_s (k20 : Int32 → Int32 → Int32 → St → Option (St)) (x1 : Int32) (x2 : Int32) (x3 : Int32) (u : St) : Option (St) := if x2 ≤ x3 then (f_X11_bringImage_b66 u) else (if (16 : Int32) ≤ x3 then (f_X11_bringImage_b66 u) else ((f_X2_number_o1 (x1 + ((56 : Int32) * x3)) (4 : Int32) u).bind (fun y9 => if y9 = (1 : Int64) then ((f_X11_bringRow (x1 + ((56 : Int32) * x3)) u).bind (fun y12 => f_X11_bringImage_b60 k20 x1 x2 x3 y12)) else (f_X11_bringImage_b60 k20 x1 x2 x3 u))))
set_option maxRecDepth 100000 in
set_option maxHeartbeats 4000000 in
theorem b_X11_bringImage_b20_s {p : Program} {l : Launch} {e : Env} {s : State} {m : MethodId} {args : Array Value} {below : List Frame} {meth : Method} {c : Code} {D : va_G} {cy : ClassId × ClassId × ClassId} {ad : Nat → Nat} {A : Nat → Prop} (E : CallFix p m c cX11_bringImage 4 s args gw RX11) (hr : meth.sig.returnType = none) (hlk : meth.locks = false) {k20 : Int32 → Int32 → Int32 → St → Option (St)} (hk20 : ∀ (x1 : Int32) (x2 : Int32) (x3 : Int32) (u : St) (u' : St), k20 x1 x2 x3 u = some u' → ∀ (ls : Array Slot) (H : Heap) (locs : List Loc) (rr : Nat → Nat), lv_has ls 4 [(0, .ref (ad 0)), (1, .int x1), (2, .int x2), (3, .int x3)] → WX (wC cy ad) D cy rr u A s H locs → Wx (wC cy ad) D p l e 3 77 0 s m args below meth c A u' none H locs 0 20 ls []) {x1 : Int32} {x2 : Int32} {x3 : Int32} {u : St} {u' : St} (h : f_X11_bringImage_b20_s k20 x1 x2 x3 u = some u') {ls : Array Slot} {H : Heap} {locs : List Loc} {rr : Nat → Nat} (hl : lv_has ls 4 [(0, .ref (ad 0)), (1, .int x1), (2, .int x2), (3, .int x3)]) (w : WX (wC cy ad) D cy rr u A s H locs) : Wx (wC cy ad) D p l e 3 77 0 s m args below meth c A u' none H locs 0 20 ls [] := by
  have hx := E.1
  have hb := E.2.1
  have hown := E.2.2.2.1
  have hts := E.2.2.2.2
  refine lv_iload_n hx hb (dq da_X11_bringImage 12 rfl) rfl (lv_at hl 3 rfl) ?_
  refine lv_iload_n hx hb (dq da_X11_bringImage 13 rfl) rfl (lv_at hl 2 rfl) ?_
  refine lv_icmp_ge (tgt := 66) hx hb (dq da_X11_bringImage 14 rfl) (by decide) (fun c5 => ?_) (fun c5 => ?_)
  · have h := it c5 h
    exact b_X11_bringImage_b66 E hr hlk h (lv_sub hl [0] rfl) w
  · have h := ie c5 h
    refine lv_iload_n hx hb (dq da_X11_bringImage 15 rfl) rfl (lv_at hl 3 rfl) ?_
    refine lv_bipush (v := 16) hx hb (dq da_X11_bringImage 16 rfl) rfl ?_
    refine lv_icmp_ge (tgt := 66) hx hb (dq da_X11_bringImage 17 rfl) (by decide) (fun c8 => ?_) (fun c8 => ?_)
    · have h := it c8 h
      exact b_X11_bringImage_b66 E hr hlk h (lv_sub hl [0] rfl) w
    · have h := ie c8 h
      refine lv_aload_n hx hb (dq da_X11_bringImage 18 rfl) rfl (lv_at hl 0 rfl) ?_
      refine gt_wC_0_tape E w w_288 (dq da_X11_bringImage 19 rfl) ?_
      refine lv_iload_n hx hb (dq da_X11_bringImage 20 rfl) rfl (lv_at hl 1 rfl) ?_
      refine lv_bipush (v := 56) hx hb (dq da_X11_bringImage 21 rfl) rfl ?_
      refine lv_iload_n hx hb (dq da_X11_bringImage 22 rfl) rfl (lv_at hl 3 rfl) ?_
      refine lv_imul hx hb (dq da_X11_bringImage 23 rfl) ?_
      refine lv_iadd hx hb (dq da_X11_bringImage 24 rfl) ?_
      refine lv_iconst (v := 4) hx hb (dq da_X11_bringImage 25 rfl) rfl ?_
      obtain ⟨y9, hy10, h⟩ := ob h
      refine cV1 E (c_X2_number_o1 l D cy ad _ _ _ hy10) w_321 w_322 w_323 w_2 w_324 rfl hd_X2_number rfl hl.1 rfl (Nat.le_of_ble_eq_true rfl) ⟨Nat.le_of_ble_eq_true rfl, Nat.le_of_ble_eq_true rfl⟩ (by decide) w (rc_wC_1 w) (dq da_X11_bringImage 26 rfl) (fun H locs rr w => ?_)
      refine lv_lconst (v := 1) hx hb (dq da_X11_bringImage 27 rfl) rfl ?_
      refine lc_ne (tgt := 60) hx hb (dq da_X11_bringImage 28 rfl) (dq da_X11_bringImage 29 rfl) (by decide) (fun c11 => ?_) (fun c11 => ?_)
      · have h := ie c11 h
        exact b_X11_bringImage_b60 E hr hlk hk20 h (lv_sub hl [0, 1, 2, 3] rfl) w
      · have h := it c11 h
        refine lv_aload_n hx hb (dq da_X11_bringImage 30 rfl) rfl (lv_at hl 0 rfl) ?_
        refine lv_iload_n hx hb (dq da_X11_bringImage 31 rfl) rfl (lv_at hl 1 rfl) ?_
        refine lv_bipush (v := 56) hx hb (dq da_X11_bringImage 32 rfl) rfl ?_
        refine lv_iload_n hx hb (dq da_X11_bringImage 33 rfl) rfl (lv_at hl 3 rfl) ?_
        refine lv_imul hx hb (dq da_X11_bringImage 34 rfl) ?_
        refine lv_iadd hx hb (dq da_X11_bringImage 35 rfl) ?_
        obtain ⟨y12, hy13, h⟩ := ob h
        refine cV0 E (c_X11_bringRow l D cy ad _ _ hy13) w_354 w_356 w_p4 w_1 w_357 rfl hd_X11_bringRow rfl hl.1 rfl (Nat.le_of_ble_eq_true rfl) ⟨Nat.le_of_ble_eq_true rfl, Nat.le_of_ble_eq_true rfl⟩ (by decide) w (rc_wC_0 w) (dq da_X11_bringImage 36 rfl) (fun H locs rr w => ?_)
        exact b_X11_bringImage_b60 E hr hlk hk20 h (lv_sub hl [0, 1, 2, 3] rfl) w
def f_X11_bringImage_b20 : Nat → Int32 → Int32 → Int32 → St → Option (St)
  | 0 => fun _ _ _ _ => none
  | n + 1 => f_X11_bringImage_b20_s (f_X11_bringImage_b20 n)
theorem b_X11_bringImage_b20 {p : Program} {l : Launch} {e : Env} {s : State} {m : MethodId} {args : Array Value} {below : List Frame} {meth : Method} {c : Code} {D : va_G} {cy : ClassId × ClassId × ClassId} {ad : Nat → Nat} {A : Nat → Prop} (E : CallFix p m c cX11_bringImage 4 s args gw RX11) (hr : meth.sig.returnType = none) (hlk : meth.locks = false) : ∀ n : Nat, ∀ (x1 : Int32) (x2 : Int32) (x3 : Int32) (u : St) (u' : St), f_X11_bringImage_b20 n x1 x2 x3 u = some u' → ∀ (ls : Array Slot) (H : Heap) (locs : List Loc) (rr : Nat → Nat), lv_has ls 4 [(0, .ref (ad 0)), (1, .int x1), (2, .int x2), (3, .int x3)] → WX (wC cy ad) D cy rr u A s H locs → Wx (wC cy ad) D p l e 3 77 0 s m args below meth c A u' none H locs 0 20 ls [] := by
  intro n
  induction n with
  | zero => intro x1 x2 x3 u u' h; cases h
  | succ n ih => intro x1 x2 x3 u u' h ls H locs rr hl w; exact b_X11_bringImage_b20_s E hr hlk ih h hl w
def f_X11_bringImage (u : St) : Option (St) := (f_X2_number_o1 (32 : Int32) (8 : Int32) u).bind (fun y1 => (f_X11_imageRows u).bind (fun y3 => f_X11_bringImage_b20 FU y1.toInt32 y3 (0 : Int32) u))
set_option maxRecDepth 100000 in
set_option maxHeartbeats 4000000 in
theorem c_X11_bringImage (l : Launch) (D : va_G) (cy : ClassId × ClassId × ClassId) (ad : Nat → Nat) (u : St) {u' : St} (h : f_X11_bringImage u = some u') : MX (wC cy ad) D cy l yX11_bringImage cX11_bringImage 4 (none) 3 77 0 [.ref (ad 0)] u u' none := by
  refine entX (by decide +kernel) (Nat.le_of_ble_eq_true rfl) ?_
  intro p e s m args below meth c ls rr A E hr hlk hl w
  have hl : lv_has ls 4 [(0, .ref (ad 0))] := hl
  have hx := E.1
  have hb := E.2.1
  have hown := E.2.2.2.1
  have hts := E.2.2.2.2
  refine lv_aload_n hx hb (dq da_X11_bringImage 0 rfl) rfl (lv_at hl 0 rfl) ?_
  refine gt_wC_0_tape E w w_288 (dq da_X11_bringImage 1 rfl) ?_
  refine lv_bipush (v := 32) hx hb (dq da_X11_bringImage 2 rfl) rfl ?_
  refine lv_bipush (v := 8) hx hb (dq da_X11_bringImage 3 rfl) rfl ?_
  obtain ⟨y1, hy2, h⟩ := ob h
  refine cV1 E (c_X2_number_o1 l D cy ad _ _ _ hy2) w_321 w_322 w_323 w_2 w_324 rfl hd_X2_number rfl hl.1 rfl (Nat.le_of_ble_eq_true rfl) ⟨Nat.le_of_ble_eq_true rfl, Nat.le_of_ble_eq_true rfl⟩ (by decide) w (rc_wC_1 w) (dq da_X11_bringImage 4 rfl) (fun H locs rr w => ?_)
  refine lv_l2i (v := y1.toInt32) hx hb (dq da_X11_bringImage 5 rfl) rfl ?_
  refine lv_istore_n (lv' := [(1, .int y1.toInt32), (0, .ref (ad 0))]) hx hb (dq da_X11_bringImage 6 rfl) rfl hl (by decide) rfl (fun ls hl => ?_)
  refine lv_aload_n hx hb (dq da_X11_bringImage 7 rfl) rfl (lv_at hl 1 rfl) ?_
  obtain ⟨y3, hy4, h⟩ := ob h
  refine cV1 E (c_X11_imageRows l D cy ad _ hy4) w_332 w_334 w_p1 w_1 w_335 rfl hd_X11_imageRows rfl hl.1 rfl (Nat.le_of_ble_eq_true rfl) ⟨Nat.le_of_ble_eq_true rfl, Nat.le_of_ble_eq_true rfl⟩ (by decide) w (rc_wC_0 w) (dq da_X11_bringImage 8 rfl) (fun H locs rr w => ?_)
  refine lv_istore_n (lv' := [(2, .int y3), (1, .int y1.toInt32), (0, .ref (ad 0))]) hx hb (dq da_X11_bringImage 9 rfl) rfl hl (by decide) rfl (fun ls hl => ?_)
  refine lv_iconst (v := 0) hx hb (dq da_X11_bringImage 10 rfl) rfl ?_
  refine lv_istore_n (lv' := [(3, .int (0 : Int32)), (2, .int y3), (1, .int y1.toInt32), (0, .ref (ad 0))]) hx hb (dq da_X11_bringImage 11 rfl) rfl hl (by decide) rfl (fun ls hl => ?_)
  exact b_X11_bringImage_b20 E hr hlk FU _ _ _ _ _ h ls _ _ _ (lv_sub hl [3, 2, 1, 0] rfl) w
def dl_X11_load : List (Nat × Instr × Nat) := [(0, .aload_n 0, 1), (1, .invokevirtual 71, 3), (4, .istore_n 1, 1), (5, .iload_n 1, 1), (6, .ifCond .ne 7, 3), (9, .aload_n 0, 1), (10, .invokevirtual 74, 3), (13, .iload_n 1, 1), (14, .ireturn, 1)]
theorem da_X11_load : dkL cX11_load dl_X11_load = true := by decide +kernel
def f_X11_load_b13 (x1 : Int32) (u : St) : Option (Int32 × St) := some (x1, u)
set_option maxRecDepth 100000 in
set_option maxHeartbeats 4000000 in
theorem b_X11_load_b13 {p : Program} {l : Launch} {e : Env} {s : State} {m : MethodId} {args : Array Value} {below : List Frame} {meth : Method} {c : Code} {D : va_G} {cy : ClassId × ClassId × ClassId} {ad : Nat → Nat} {A : Nat → Prop} (E : CallFix p m c cX11_load 2 s args gw RX11) (hr : meth.sig.returnType = some .int) (hlk : meth.locks = false) {x1 : Int32} {u : St} {r : Int32} {u' : St} (h : f_X11_load_b13 x1 u = some (r, u')) {ls : Array Slot} {H : Heap} {locs : List Loc} {rr : Nat → Nat} (hl : lv_has ls 2 [(1, .int x1)]) (w : WX (wC cy ad) D cy rr u A s H locs) : Wx (wC cy ad) D p l e 4 100 0 s m args below meth c A u' (some (.int r)) H locs 0 13 ls [] := by
  have hx := E.1
  have hb := E.2.1
  have hown := E.2.2.2.1
  have hts := E.2.2.2.2
  refine lv_iload_n hx hb (dq da_X11_load 7 rfl) rfl (lv_at hl 0 rfl) ?_
  exact xret_i E hr hlk w (by decide) (congrArg Prod.fst (os h)) (congrArg Prod.snd (os h)) (dq da_X11_load 8 rfl)
def f_X11_load (u : St) : Option (Int32 × St) := (f_X11_imageError u).bind (fun y1 => if y1 = (0 : Int32) then ((f_X11_bringImage u).bind (fun y4 => f_X11_load_b13 y1 y4)) else (f_X11_load_b13 y1 u))
set_option maxRecDepth 100000 in
set_option maxHeartbeats 4000000 in
theorem c_X11_load (l : Launch) (D : va_G) (cy : ClassId × ClassId × ClassId) (ad : Nat → Nat) (u : St) {r : Int32} {u' : St} (h : f_X11_load u = some (r, u')) : MX (wC cy ad) D cy l yX11_load cX11_load 2 (some .int) 4 100 0 [.ref (ad 0)] u u' (some (.int (r))) := by
  refine entX (by decide +kernel) (Nat.le_of_ble_eq_true rfl) ?_
  intro p e s m args below meth c ls rr A E hr hlk hl w
  have hl : lv_has ls 2 [(0, .ref (ad 0))] := hl
  have hx := E.1
  have hb := E.2.1
  have hown := E.2.2.2.1
  have hts := E.2.2.2.2
  refine lv_aload_n hx hb (dq da_X11_load 0 rfl) rfl (lv_at hl 0 rfl) ?_
  obtain ⟨y1, hy2, h⟩ := ob h
  refine cV1 E (c_X11_imageError l D cy ad _ hy2) w_317 w_319 w_p0 w_1 w_320 rfl hd_X11_imageError rfl hl.1 rfl (Nat.le_of_ble_eq_true rfl) ⟨Nat.le_of_ble_eq_true rfl, Nat.le_of_ble_eq_true rfl⟩ (by decide) w (rc_wC_0 w) (dq da_X11_load 1 rfl) (fun H locs rr w => ?_)
  refine lv_istore_n (lv' := [(1, .int y1), (0, .ref (ad 0))]) hx hb (dq da_X11_load 2 rfl) rfl hl (by decide) rfl (fun ls hl => ?_)
  refine lv_iload_n hx hb (dq da_X11_load 3 rfl) rfl (lv_at hl 0 rfl) ?_
  refine lv_if_ne (tgt := 13) hx hb (dq da_X11_load 4 rfl) (by decide) (fun c3 => ?_) (fun c3 => ?_)
  · have h := ie c3 h
    exact b_X11_load_b13 E hr hlk h (lv_sub hl [0] rfl) w
  · have h := it c3 h
    refine lv_aload_n hx hb (dq da_X11_load 5 rfl) rfl (lv_at hl 1 rfl) ?_
    obtain ⟨y4, hy5, h⟩ := ob h
    refine cV0 E (c_X11_bringImage l D cy ad _ hy5) w_350 w_352 w_p3 w_1 w_353 rfl hd_X11_bringImage rfl hl.1 rfl (Nat.le_of_ble_eq_true rfl) ⟨Nat.le_of_ble_eq_true rfl, Nat.le_of_ble_eq_true rfl⟩ (by decide) w (rc_wC_0 w) (dq da_X11_load 6 rfl) (fun H locs rr w => ?_)
    exact b_X11_load_b13 E hr hlk h (lv_sub hl [0] rfl) w

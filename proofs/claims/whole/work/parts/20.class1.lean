theorem w_38 : Cond.fieldLink RX2 17 "HartBoard$Bytes" "count" "I" ∈ gw := gw_t1 38 rfl rfl
theorem w_37 : Cond.fieldLink RX2 20 "HartBoard$Bytes" "first" "I" ∈ gw := gw_t1 37 rfl rfl
theorem w_36 : Cond.fieldLink RX2 9 "HartBoard$Bytes" "row" "[B" ∈ gw := gw_t1 36 rfl rfl
theorem w_325 : Cond.methodLink RX2 23 yX2_byteAt ∈ gw := gw_t2 85 rfl rfl
theorem w_326 : Cond.instanceMethod yX2_byteAt ∈ gw := gw_t2 86 rfl rfl
theorem w_327 : Cond.selects RX2 yX2_byteAt yX2_byteAt ∈ gw := gw_t2 87 rfl rfl
theorem w_2 : Cond.initialized RX2 ∈ gw := gw_t1 2 rfl rfl
theorem w_328 : Cond.code yX2_byteAt cX2_byteAt 2 (some .int) ∈ gw := gw_t2 88 rfl rfl
theorem w_349 : Cond.constantLong RX10 19 (2147483648) ∈ gw := gw_t2 109 rfl rfl
theorem w_57 : Cond.fieldLink RX10 9 "HartBoard$Ram" "size" "I" ∈ gw := gw_t1 57 rfl rfl
theorem w_59 : Cond.fieldLink RX10 15 "HartBoard$Ram" "words" "[J" ∈ gw := gw_t1 59 rfl rfl
theorem w_363 : Cond.constantLong RX10 21 (-1) ∈ gw := gw_t2 123 rfl rfl
theorem w_368 : Cond.methodLink RX10 23 yX10_write ∈ gw := gw_t2 128 rfl rfl
theorem w_360 : Cond.instanceMethod yX10_write ∈ gw := gw_t2 120 rfl rfl
theorem w_361 : Cond.selects RX10 yX10_write yX10_write ∈ gw := gw_t2 121 rfl rfl
theorem w_4 : Cond.initialized RX10 ∈ gw := gw_t1 4 rfl rfl
theorem w_362 : Cond.code yX10_write cX10_write 8 (none) ∈ gw := gw_t2 122 rfl rfl
theorem w_80 : Cond.fieldLink RX3 39 "HartBoard$Controller" "pending" "I" ∈ gw := gw_t1 80 rfl rfl
theorem w_82 : Cond.fieldLink RX3 51 "HartBoard$Controller" "claimed" "I" ∈ gw := gw_t1 82 rfl rfl
theorem w_76 : Cond.fieldLink RX3 9 "HartBoard$Controller" "priority" "[I" ∈ gw := gw_t1 76 rfl rfl
theorem w_77 : Cond.fieldLink RX3 13 "HartBoard$Controller" "enabled" "[I" ∈ gw := gw_t1 77 rfl rfl
theorem w_78 : Cond.fieldLink RX3 16 "HartBoard$Controller" "threshold" "[I" ∈ gw := gw_t1 78 rfl rfl
theorem w_901 : Cond.methodLink RX3 43 yX3_claim ∈ gw := gw_t4 181 rfl rfl
theorem w_903 : Cond.instanceMethod yX3_claim ∈ gw := gw_t4 183 rfl rfl
theorem w_p26 : Cond.selects RX3 yX3_claim yX3_claim ∈ gw := gw_p 26 rfl rfl
theorem w_5 : Cond.initialized RX3 ∈ gw := gw_t1 5 rfl rfl
theorem w_904 : Cond.code yX3_claim cX3_claim 5 (some .int) ∈ gw := gw_t4 184 rfl rfl
theorem w_934 : Cond.methodLink RX3 47 yX3_complete ∈ gw := gw_t4 214 rfl rfl
theorem w_936 : Cond.instanceMethod yX3_complete ∈ gw := gw_t4 216 rfl rfl
theorem w_p28 : Cond.selects RX3 yX3_complete yX3_complete ∈ gw := gw_p 28 rfl rfl
theorem w_937 : Cond.code yX3_complete cX3_complete 3 (none) ∈ gw := gw_t4 217 rfl rfl
theorem w_79 : Cond.fieldLink RX3 54 "HartBoard$Controller" "high" "I" ∈ gw := gw_t1 79 rfl rfl
theorem w_171 : Cond.fieldLink RX7 7 "HartBoard$Level" "tvec" "J" ∈ gw := gw_t1 171 rfl rfl
theorem w_173 : Cond.fieldLink RX7 13 "HartBoard$Level" "counters" "J" ∈ gw := gw_t1 173 rfl rfl
theorem w_175 : Cond.fieldLink RX7 16 "HartBoard$Level" "scratch" "J" ∈ gw := gw_t1 175 rfl rfl
theorem w_176 : Cond.fieldLink RX7 19 "HartBoard$Level" "epc" "J" ∈ gw := gw_t1 176 rfl rfl
theorem w_178 : Cond.fieldLink RX7 22 "HartBoard$Level" "cause" "J" ∈ gw := gw_t1 178 rfl rfl
theorem w_180 : Cond.fieldLink RX7 25 "HartBoard$Level" "tval" "J" ∈ gw := gw_t1 180 rfl rfl
theorem w_630 : Cond.constantLong RX7 28 (-3) ∈ gw := gw_t3 150 rfl rfl
theorem w_631 : Cond.constantLong RX7 30 (7) ∈ gw := gw_t3 151 rfl rfl
theorem w_632 : Cond.constantLong RX7 32 (-2) ∈ gw := gw_t3 152 rfl rfl
theorem w_111 : Cond.fieldLink RX8 28 "HartBoard$Line" "enable" "I" ∈ gw := gw_t1 111 rfl rfl
theorem w_107 : Cond.fieldLink RX8 15 "HartBoard$Line" "input" "LHartBoard$Bytes;" ∈ gw := gw_t1 107 rfl rfl
theorem w_488 : Cond.methodLink RX8 32 yX2_size ∈ gw := gw_t3 8 rfl rfl
theorem w_306 : Cond.instanceMethod yX2_size ∈ gw := gw_t2 66 rfl rfl
theorem w_307 : Cond.selects RX2 yX2_size yX2_size ∈ gw := gw_t2 67 rfl rfl
theorem w_308 : Cond.code yX2_size cX2_size 1 (some .int) ∈ gw := gw_t2 68 rfl rfl
theorem w_877 : Cond.methodLink RX8 24 yX2_removeFirst ∈ gw := gw_t4 157 rfl rfl
theorem w_878 : Cond.instanceMethod yX2_removeFirst ∈ gw := gw_t4 158 rfl rfl
theorem w_879 : Cond.selects RX2 yX2_removeFirst yX2_removeFirst ∈ gw := gw_t4 159 rfl rfl
theorem w_880 : Cond.code yX2_removeFirst cX2_removeFirst 2 (some .int) ∈ gw := gw_t4 160 rfl rfl
theorem w_882 : Cond.constantLong RX8 37 (96) ∈ gw := gw_t4 162 rfl rfl
theorem w_881 : Cond.constantLong RX8 35 (97) ∈ gw := gw_t4 161 rfl rfl
theorem w_200 : Cond.fieldLink RX4 25 "HartBoard$Controls" "status" "J" ∈ gw := gw_t1 200 rfl rfl
theorem w_567 : Cond.constantLong RX4 29 (786722) ∈ gw := gw_t3 87 rfl rfl
theorem w_568 : Cond.constantLong RX4 31 (8589934592) ∈ gw := gw_t3 88 rfl rfl
theorem w_207 : Cond.fieldLink RX4 33 "HartBoard$Controls" "mie" "J" ∈ gw := gw_t1 207 rfl rfl
theorem w_205 : Cond.fieldLink RX4 36 "HartBoard$Controls" "mideleg" "J" ∈ gw := gw_t1 205 rfl rfl
theorem w_208 : Cond.fieldLink RX4 75 "HartBoard$Controls" "mip" "J" ∈ gw := gw_t1 208 rfl rfl
theorem w_195 : Cond.fieldLink RX4 21 "HartBoard$Controls" "bus" "LHartBoard$Bus;" ∈ gw := gw_t1 195 rfl rfl
theorem n_10 : Cond.fieldLinkNest RX4 110 "HartBoard$Bus" "soft" "J" "HartBoard" ∈ nl := List.mem_append_left _ (List.mem_of_getElem? (i := 10) rfl)
theorem n_13 : Cond.fieldLinkNest RX4 59 "HartBoard$Bus" "time" "J" "HartBoard" ∈ nl := List.mem_append_left _ (List.mem_of_getElem? (i := 13) rfl)
theorem n_11 : Cond.fieldLinkNest RX4 113 "HartBoard$Bus" "compare" "J" "HartBoard" ∈ nl := List.mem_append_left _ (List.mem_of_getElem? (i := 11) rfl)
theorem w_573 : Cond.methodLink RX4 116 yX0_below ∈ gw := gw_t3 93 rfl rfl
theorem n_7 : Cond.fieldLinkNest RX4 122 "HartBoard$Bus" "controller" "LHartBoard$Controller;" "HartBoard" ∈ nl := List.mem_append_left _ (List.mem_of_getElem? (i := 7) rfl)
theorem w_577 : Cond.methodLink RX4 126 yX3_calls ∈ gw := gw_t3 97 rfl rfl
theorem w_578 : Cond.instanceMethod yX3_calls ∈ gw := gw_t3 98 rfl rfl
theorem w_579 : Cond.selects RX3 yX3_calls yX3_calls ∈ gw := gw_t3 99 rfl rfl
theorem w_580 : Cond.code yX3_calls cX3_calls 5 (some .boolean) ∈ gw := gw_t3 100 rfl rfl
theorem w_569 : Cond.methodLink RX4 39 yX4_pendingInterrupts ∈ gw := gw_t3 89 rfl rfl
theorem w_570 : Cond.instanceMethod yX4_pendingInterrupts ∈ gw := gw_t3 90 rfl rfl
theorem w_571 : Cond.selects RX4 yX4_pendingInterrupts yX4_pendingInterrupts ∈ gw := gw_t3 91 rfl rfl
theorem w_7 : Cond.initialized RX4 ∈ gw := gw_t1 7 rfl rfl
theorem w_572 : Cond.code yX4_pendingInterrupts cX4_pendingInterrupts 1 (some .long) ∈ gw := gw_t3 92 rfl rfl
theorem w_210 : Cond.fieldLink RX4 43 "HartBoard$Controls" "satp" "J" ∈ gw := gw_t1 210 rfl rfl
theorem w_581 : Cond.constantLong RX4 46 (42949672960) ∈ gw := gw_t3 101 rfl rfl
theorem w_582 : Cond.constantLong RX4 48 (-9223372036853460731) ∈ gw := gw_t3 102 rfl rfl
theorem w_202 : Cond.fieldLink RX4 50 "HartBoard$Controls" "medeleg" "J" ∈ gw := gw_t1 202 rfl rfl
theorem w_212 : Cond.fieldLink RX4 53 "HartBoard$Controls" "cycle" "J" ∈ gw := gw_t1 212 rfl rfl
theorem w_214 : Cond.fieldLink RX4 56 "HartBoard$Controls" "retired" "J" ∈ gw := gw_t1 214 rfl rfl
theorem w_198 : Cond.fieldLink RX4 18 "HartBoard$Controls" "supervisor" "LHartBoard$Level;" ∈ gw := gw_t1 198 rfl rfl
theorem w_587 : Cond.methodLink RX4 68 yX7_read ∈ gw := gw_t3 107 rfl rfl
theorem w_588 : Cond.instanceMethod yX7_read ∈ gw := gw_t3 108 rfl rfl
theorem w_589 : Cond.selects RX7 yX7_read yX7_read ∈ gw := gw_t3 109 rfl rfl
theorem w_8 : Cond.initialized RX7 ∈ gw := gw_t1 8 rfl rfl
theorem w_590 : Cond.code yX7_read cX7_read 2 (some .long) ∈ gw := gw_t3 110 rfl rfl
theorem w_196 : Cond.fieldLink RX4 14 "HartBoard$Controls" "machine" "LHartBoard$Level;" ∈ gw := gw_t1 196 rfl rfl
theorem w_583 : Cond.methodLink RX4 64 yX4_readOfLevel ∈ gw := gw_t3 103 rfl rfl
theorem w_585 : Cond.instanceMethod yX4_readOfLevel ∈ gw := gw_t3 105 rfl rfl
theorem w_p6 : Cond.selects RX4 yX4_readOfLevel yX4_readOfLevel ∈ gw := gw_p 6 rfl rfl
theorem w_586 : Cond.code yX4_readOfLevel cX4_readOfLevel 2 (some .long) ∈ gw := gw_t3 106 rfl rfl
theorem w_602 : Cond.methodLink RX4 71 yX4_mixed ∈ gw := gw_t3 122 rfl rfl
theorem w_603 : Cond.static yX4_mixed ∈ gw := gw_t3 123 rfl rfl
theorem w_604 : Cond.code yX4_mixed cX4_mixed 6 (some .long) ∈ gw := gw_t3 124 rfl rfl
theorem w_606 : Cond.constantLong RX4 78 (2) ∈ gw := gw_t3 126 rfl rfl
theorem w_611 : Cond.constantLong RX4 106 (8) ∈ gw := gw_t3 131 rfl rfl
theorem w_607 : Cond.methodLink RX4 80 yX4_writeSatp ∈ gw := gw_t3 127 rfl rfl
theorem w_609 : Cond.instanceMethod yX4_writeSatp ∈ gw := gw_t3 129 rfl rfl
theorem w_p7 : Cond.selects RX4 yX4_writeSatp yX4_writeSatp ∈ gw := gw_p 7 rfl rfl
theorem w_610 : Cond.code yX4_writeSatp cX4_writeSatp 5 (none) ∈ gw := gw_t3 130 rfl rfl
theorem w_616 : Cond.constantLong RX4 100 (6144) ∈ gw := gw_t3 136 rfl rfl
theorem w_618 : Cond.constantLong RX4 104 (8264106) ∈ gw := gw_t3 138 rfl rfl
theorem w_617 : Cond.constantLong RX4 102 (8257962) ∈ gw := gw_t3 137 rfl rfl
theorem w_612 : Cond.methodLink RX4 84 yX4_writeStatus ∈ gw := gw_t3 132 rfl rfl
theorem w_614 : Cond.instanceMethod yX4_writeStatus ∈ gw := gw_t3 134 rfl rfl
theorem w_p8 : Cond.selects RX4 yX4_writeStatus yX4_writeStatus ∈ gw := gw_p 8 rfl rfl
theorem w_615 : Cond.code yX4_writeStatus cX4_writeStatus 4 (none) ∈ gw := gw_t3 135 rfl rfl
theorem w_619 : Cond.constantLong RX4 87 (46079) ∈ gw := gw_t3 139 rfl rfl
theorem w_620 : Cond.constantLong RX4 89 (546) ∈ gw := gw_t3 140 rfl rfl
theorem w_621 : Cond.constantLong RX4 91 (2730) ∈ gw := gw_t3 141 rfl rfl
theorem w_626 : Cond.methodLink RX4 97 yX7_write ∈ gw := gw_t3 146 rfl rfl
theorem w_627 : Cond.instanceMethod yX7_write ∈ gw := gw_t3 147 rfl rfl
theorem w_628 : Cond.selects RX7 yX7_write yX7_write ∈ gw := gw_t3 148 rfl rfl
theorem w_629 : Cond.code yX7_write cX7_write 4 (none) ∈ gw := gw_t3 149 rfl rfl
theorem w_622 : Cond.methodLink RX4 93 yX4_writeOfLevel ∈ gw := gw_t3 142 rfl rfl
theorem w_624 : Cond.instanceMethod yX4_writeOfLevel ∈ gw := gw_t3 144 rfl rfl
theorem w_p9 : Cond.selects RX4 yX4_writeOfLevel yX4_writeOfLevel ∈ gw := gw_p 9 rfl rfl
theorem w_625 : Cond.code yX4_writeOfLevel cX4_writeOfLevel 4 (none) ∈ gw := gw_t3 145 rfl rfl
theorem w_683 : Cond.constantLong RX4 154 (32) ∈ gw := gw_t3 203 rfl rfl
theorem w_684 : Cond.methodLink RX4 137 yX4_has ∈ gw := gw_t3 204 rfl rfl
theorem w_665 : Cond.instanceMethod yX4_has ∈ gw := gw_t3 185 rfl rfl
theorem w_666 : Cond.selects RX4 yX4_has yX4_has ∈ gw := gw_t3 186 rfl rfl
theorem w_667 : Cond.code yX4_has cX4_has 3 (some .boolean) ∈ gw := gw_t3 187 rfl rfl
theorem w_685 : Cond.methodLink RX4 150 yX4_put ∈ gw := gw_t3 205 rfl rfl
theorem w_687 : Cond.instanceMethod yX4_put ∈ gw := gw_t3 207 rfl rfl
theorem w_p12 : Cond.selects RX4 yX4_put yX4_put ∈ gw := gw_p 12 rfl rfl
theorem w_688 : Cond.code yX4_put cX4_put 4 (none) ∈ gw := gw_t3 208 rfl rfl
theorem w_689 : Cond.constantLong RX4 156 (256) ∈ gw := gw_t3 209 rfl rfl
theorem w_694 : Cond.constantLong RX4 148 (128) ∈ gw := gw_t3 214 rfl rfl
theorem w_1017 : Cond.methodLink RX4 158 yX4_previousPrivilege ∈ gw := gw_t5 57 rfl rfl
theorem w_720 : Cond.instanceMethod yX4_previousPrivilege ∈ gw := gw_t4 0 rfl rfl
theorem w_721 : Cond.selects RX4 yX4_previousPrivilege yX4_previousPrivilege ∈ gw := gw_t4 1 rfl rfl
theorem w_722 : Cond.code yX4_previousPrivilege cX4_previousPrivilege 1 (some .int) ∈ gw := gw_t4 2 rfl rfl
theorem w_1018 : Cond.constantLong RX4 162 (131072) ∈ gw := gw_t5 58 rfl rfl
theorem w_1042 : Cond.methodLink RX4 132 yX4_knows ∈ gw := gw_t5 82 rfl rfl
theorem w_560 : Cond.static yX4_knows ∈ gw := gw_t3 80 rfl rfl
theorem w_561 : Cond.code yX4_knows cX4_knows 1 (some .boolean) ∈ gw := gw_t3 81 rfl rfl
theorem n_17 : Cond.fieldLinkNest RX4 145 "HartBoard$Level" "counters" "J" "HartBoard" ∈ nl := List.mem_append_left _ (List.mem_of_getElem? (i := 17) rfl)
theorem w_1044 : Cond.methodLink RX4 141 yX4_counterIsOpen ∈ gw := gw_t5 84 rfl rfl
theorem w_1046 : Cond.instanceMethod yX4_counterIsOpen ∈ gw := gw_t5 86 rfl rfl
theorem w_p41 : Cond.selects RX4 yX4_counterIsOpen yX4_counterIsOpen ∈ gw := gw_p 41 rfl rfl
theorem w_1047 : Cond.code yX4_counterIsOpen cX4_counterIsOpen 5 (some .boolean) ∈ gw := gw_t5 87 rfl rfl
theorem w_1043 : Cond.constantLong RX4 135 (1048576) ∈ gw := gw_t5 83 rfl rfl
def dl_X2_size_o1 : List (Nat × Instr × Nat) := [(0, .aload_n 0, 1), (1, .getfield 17, 3), (4, .ireturn, 1)]
theorem da_X2_size_o1 : dkL cX2_size dl_X2_size_o1 = true := by decide +kernel
def f_X2_size_o1 (u : St) : Int32 := (gI u 2)
set_option maxRecDepth 100000 in
set_option maxHeartbeats 4000000 in
theorem c_X2_size_o1 (l : Launch) (D : va_G) (cy : ClassId × ClassId × ClassId) (ad : Nat → Nat) (u : St) : MX (wC cy ad) D cy l yX2_size cX2_size 1 (some .int) 0 0 0 [.ref (ad 1)] u u (some (.int (f_X2_size_o1 u))) := by
  refine entX (by decide +kernel) (Nat.le_of_ble_eq_true rfl) ?_
  intro p e s m args below meth c ls rr A E hr hlk hl w
  have hl : lv_has ls 1 [(0, .ref (ad 1))] := hl
  generalize h : f_X2_size_o1 u = r
  have hx := E.1
  have hb := E.2.1
  have hown := E.2.2.2.1
  have hts := E.2.2.2.2
  refine lv_aload_n hx hb (dq da_X2_size_o1 0 rfl) rfl (lv_at hl 0 rfl) ?_
  refine gt_wC_1_count E w w_38 (dq da_X2_size_o1 1 rfl) ?_
  exact xret_i E hr hlk w (by decide) h rfl (dq da_X2_size_o1 2 rfl)
def dl_X2_clear_o1 : List (Nat × Instr × Nat) := [(0, .aload_n 0, 1), (1, .iconst 0, 1), (2, .putfield 20, 3), (5, .aload_n 0, 1), (6, .iconst 0, 1), (7, .putfield 17, 3), (10, .return_, 1)]
theorem da_X2_clear_o1 : dkL cX2_clear dl_X2_clear_o1 = true := by decide +kernel
def f_X2_clear_o1 (u : St) : St := (sI (sI u 1 (0 : Int32)) 2 (0 : Int32))
set_option maxRecDepth 100000 in
set_option maxHeartbeats 4000000 in
theorem c_X2_clear_o1 (l : Launch) (D : va_G) (cy : ClassId × ClassId × ClassId) (ad : Nat → Nat) (u : St) : MX (wC cy ad) D cy l yX2_clear cX2_clear 1 (none) 0 0 0 [.ref (ad 1)] u (f_X2_clear_o1 u) none := by
  refine entX (by decide +kernel) (Nat.le_of_ble_eq_true rfl) ?_
  intro p e s m args below meth c ls rr A E hr hlk hl w
  have hl : lv_has ls 1 [(0, .ref (ad 1))] := hl
  generalize h : f_X2_clear_o1 u = u'
  have hx := E.1
  have hb := E.2.1
  have hown := E.2.2.2.1
  have hts := E.2.2.2.2
  refine lv_aload_n hx hb (dq da_X2_clear_o1 0 rfl) rfl (lv_at hl 0 rfl) ?_
  refine lv_iconst (v := 0) hx hb (dq da_X2_clear_o1 1 rfl) rfl ?_
  refine pt_wC_1_first E w w_37 (dq da_X2_clear_o1 2 rfl) (fun H locs w => ?_)
  refine lv_aload_n hx hb (dq da_X2_clear_o1 3 rfl) rfl (lv_at hl 0 rfl) ?_
  refine lv_iconst (v := 0) hx hb (dq da_X2_clear_o1 4 rfl) rfl ?_
  refine pt_wC_1_count E w w_38 (dq da_X2_clear_o1 5 rfl) (fun H locs w => ?_)
  exact xret_v E hr hlk w (by decide) h (dq da_X2_clear_o1 6 rfl)
def dl_X2_byteAt_o1 : List (Nat × Instr × Nat) := [(0, .iload_n 1, 1), (1, .ifCond .lt 11, 3), (4, .iload_n 1, 1), (5, .aload_n 0, 1), (6, .getfield 17, 3), (9, .if_icmp .lt 7, 3), (12, .iconst 0, 1), (13, .goto 26, 3), (16, .aload_n 0, 1), (17, .getfield 9, 3), (20, .aload_n 0, 1), (21, .getfield 20, 3), (24, .iload_n 1, 1), (25, .iadd, 1), (26, .aload_n 0, 1), (27, .getfield 9, 3), (30, .arraylength, 1), (31, .iconst 1, 1), (32, .isub, 1), (33, .iand, 1), (34, .baload, 1), (35, .sipush 255, 3), (38, .iand, 1), (39, .ireturn, 1)]
theorem da_X2_byteAt_o1 : dkL cX2_byteAt dl_X2_byteAt_o1 = true := by decide +kernel
def f_X2_byteAt_o1_b12 (u : St) : Option (Int32) := some (0 : Int32)
set_option maxRecDepth 100000 in
set_option maxHeartbeats 4000000 in
theorem b_X2_byteAt_o1_b12 {p : Program} {l : Launch} {e : Env} {s : State} {m : MethodId} {args : Array Value} {below : List Frame} {meth : Method} {c : Code} {D : va_G} {cy : ClassId × ClassId × ClassId} {ad : Nat → Nat} {A : Nat → Prop} (E : CallFix p m c cX2_byteAt 2 s args gw RX2) (hr : meth.sig.returnType = some .int) (hlk : meth.locks = false) {u : St} {r : Int32} (h : f_X2_byteAt_o1_b12 u = some r) {ls : Array Slot} {H : Heap} {locs : List Loc} {rr : Nat → Nat} (hl : lv_has ls 2 []) (w : WX (wC cy ad) D cy rr u A s H locs) : Wx (wC cy ad) D p l e 0 0 0 s m args below meth c A u (some (.int r)) H locs 0 12 ls [] := by
  have hx := E.1
  have hb := E.2.1
  have hown := E.2.2.2.1
  have hts := E.2.2.2.2
  refine lv_iconst (v := 0) hx hb (dq da_X2_byteAt_o1 6 rfl) rfl ?_
  refine lv_goto (tgt := 39) hx hb (dq da_X2_byteAt_o1 7 rfl) (by decide) ?_
  exact xret_i E hr hlk w (by decide) (os h) rfl (dq da_X2_byteAt_o1 23 rfl)
def f_X2_byteAt_o1 (x1 : Int32) (u : St) : Option (Int32) := if x1 < (0 : Int32) then (f_X2_byteAt_o1_b12 u) else (if x1 < (gI u 2) then (if inB (((gI u 1) + x1) &&& ((Int32.ofNat (gN u 0)) - (1 : Int32))) (gN u 0) then (some ((gA u 0 (((gI u 1) + x1) &&& ((Int32.ofNat (gN u 0)) - (1 : Int32))).toNatClampNeg) &&& (255 : Int32))) else none) else (f_X2_byteAt_o1_b12 u))
set_option maxRecDepth 100000 in
set_option maxHeartbeats 4000000 in
theorem c_X2_byteAt_o1 (l : Launch) (D : va_G) (cy : ClassId × ClassId × ClassId) (ad : Nat → Nat) (x1 : Int32) (u : St) {r : Int32} (h : f_X2_byteAt_o1 x1 u = some r) : MX (wC cy ad) D cy l yX2_byteAt cX2_byteAt 2 (some .int) 0 0 0 [.ref (ad 1), .int x1] u u (some (.int (r))) := by
  refine entX (by decide +kernel) (Nat.le_of_ble_eq_true rfl) ?_
  intro p e s m args below meth c ls rr A E hr hlk hl w
  have hl : lv_has ls 2 [(0, .ref (ad 1)), (1, .int x1)] := hl
  have hx := E.1
  have hb := E.2.1
  have hown := E.2.2.2.1
  have hts := E.2.2.2.2
  refine lv_iload_n hx hb (dq da_X2_byteAt_o1 0 rfl) rfl (lv_at hl 1 rfl) ?_
  refine lv_if_lt (tgt := 12) hx hb (dq da_X2_byteAt_o1 1 rfl) (by decide) (fun c1 => ?_) (fun c1 => ?_)
  · have h := it c1 h
    exact b_X2_byteAt_o1_b12 E hr hlk h (lv_sub hl [] rfl) w
  · have h := ie c1 h
    refine lv_iload_n hx hb (dq da_X2_byteAt_o1 2 rfl) rfl (lv_at hl 1 rfl) ?_
    refine lv_aload_n hx hb (dq da_X2_byteAt_o1 3 rfl) rfl (lv_at hl 0 rfl) ?_
    refine gt_wC_1_count E w w_38 (dq da_X2_byteAt_o1 4 rfl) ?_
    refine lv_icmp_lt (tgt := 16) hx hb (dq da_X2_byteAt_o1 5 rfl) (by decide) (fun c2 => ?_) (fun c2 => ?_)
    · have h := it c2 h
      refine lv_aload_n hx hb (dq da_X2_byteAt_o1 8 rfl) rfl (lv_at hl 0 rfl) ?_
      refine gt_wC_1_row E w w_36 (dq da_X2_byteAt_o1 9 rfl) ?_
      refine lv_aload_n hx hb (dq da_X2_byteAt_o1 10 rfl) rfl (lv_at hl 0 rfl) ?_
      refine gt_wC_1_first E w w_37 (dq da_X2_byteAt_o1 11 rfl) ?_
      refine lv_iload_n hx hb (dq da_X2_byteAt_o1 12 rfl) rfl (lv_at hl 1 rfl) ?_
      refine lv_iadd hx hb (dq da_X2_byteAt_o1 13 rfl) ?_
      refine lv_aload_n hx hb (dq da_X2_byteAt_o1 14 rfl) rfl (lv_at hl 0 rfl) ?_
      refine gt_wC_1_row E w w_36 (dq da_X2_byteAt_o1 15 rfl) ?_
      refine aln_wC_2 E w (dq da_X2_byteAt_o1 16 rfl) ?_
      refine lv_iconst (v := 1) hx hb (dq da_X2_byteAt_o1 17 rfl) rfl ?_
      refine lv_isub hx hb (dq da_X2_byteAt_o1 18 rfl) ?_
      refine lv_iand hx hb (dq da_X2_byteAt_o1 19 rfl) ?_
      obtain ⟨hi3, h⟩ := oi h
      refine ald_wC_2 E w hi3 (dq da_X2_byteAt_o1 20 rfl) ?_
      refine lv_sipush (v := 255) hx hb (dq da_X2_byteAt_o1 21 rfl) rfl ?_
      refine lv_iand hx hb (dq da_X2_byteAt_o1 22 rfl) ?_
      exact xret_i E hr hlk w (by decide) (os h) rfl (dq da_X2_byteAt_o1 23 rfl)
    · have h := ie c2 h
      exact b_X2_byteAt_o1_b12 E hr hlk h (lv_sub hl [] rfl) w
def dl_X2_size_o11 : List (Nat × Instr × Nat) := [(0, .aload_n 0, 1), (1, .getfield 17, 3), (4, .ireturn, 1)]
theorem da_X2_size_o11 : dkL cX2_size dl_X2_size_o11 = true := by decide +kernel
def f_X2_size_o11 (u : St) : Int32 := (gI u 12)
set_option maxRecDepth 100000 in
set_option maxHeartbeats 4000000 in
theorem c_X2_size_o11 (l : Launch) (D : va_G) (cy : ClassId × ClassId × ClassId) (ad : Nat → Nat) (u : St) : MX (wC cy ad) D cy l yX2_size cX2_size 1 (some .int) 0 0 0 [.ref (ad 11)] u u (some (.int (f_X2_size_o11 u))) := by
  refine entX (by decide +kernel) (Nat.le_of_ble_eq_true rfl) ?_
  intro p e s m args below meth c ls rr A E hr hlk hl w
  have hl : lv_has ls 1 [(0, .ref (ad 11))] := hl
  generalize h : f_X2_size_o11 u = r
  have hx := E.1
  have hb := E.2.1
  have hown := E.2.2.2.1
  have hts := E.2.2.2.2
  refine lv_aload_n hx hb (dq da_X2_size_o11 0 rfl) rfl (lv_at hl 0 rfl) ?_
  refine gt_wC_11_count E w w_38 (dq da_X2_size_o11 1 rfl) ?_
  exact xret_i E hr hlk w (by decide) h rfl (dq da_X2_size_o11 2 rfl)
def dl_X2_clear_o11 : List (Nat × Instr × Nat) := [(0, .aload_n 0, 1), (1, .iconst 0, 1), (2, .putfield 20, 3), (5, .aload_n 0, 1), (6, .iconst 0, 1), (7, .putfield 17, 3), (10, .return_, 1)]
theorem da_X2_clear_o11 : dkL cX2_clear dl_X2_clear_o11 = true := by decide +kernel
def f_X2_clear_o11 (u : St) : St := (sI (sI u 11 (0 : Int32)) 12 (0 : Int32))
set_option maxRecDepth 100000 in
set_option maxHeartbeats 4000000 in
theorem c_X2_clear_o11 (l : Launch) (D : va_G) (cy : ClassId × ClassId × ClassId) (ad : Nat → Nat) (u : St) : MX (wC cy ad) D cy l yX2_clear cX2_clear 1 (none) 0 0 0 [.ref (ad 11)] u (f_X2_clear_o11 u) none := by
  refine entX (by decide +kernel) (Nat.le_of_ble_eq_true rfl) ?_
  intro p e s m args below meth c ls rr A E hr hlk hl w
  have hl : lv_has ls 1 [(0, .ref (ad 11))] := hl
  generalize h : f_X2_clear_o11 u = u'
  have hx := E.1
  have hb := E.2.1
  have hown := E.2.2.2.1
  have hts := E.2.2.2.2
  refine lv_aload_n hx hb (dq da_X2_clear_o11 0 rfl) rfl (lv_at hl 0 rfl) ?_
  refine lv_iconst (v := 0) hx hb (dq da_X2_clear_o11 1 rfl) rfl ?_
  refine pt_wC_11_first E w w_37 (dq da_X2_clear_o11 2 rfl) (fun H locs w => ?_)
  refine lv_aload_n hx hb (dq da_X2_clear_o11 3 rfl) rfl (lv_at hl 0 rfl) ?_
  refine lv_iconst (v := 0) hx hb (dq da_X2_clear_o11 4 rfl) rfl ?_
  refine pt_wC_11_count E w w_38 (dq da_X2_clear_o11 5 rfl) (fun H locs w => ?_)
  exact xret_v E hr hlk w (by decide) h (dq da_X2_clear_o11 6 rfl)
def dl_X2_byteAt_o11 : List (Nat × Instr × Nat) := [(0, .iload_n 1, 1), (1, .ifCond .lt 11, 3), (4, .iload_n 1, 1), (5, .aload_n 0, 1), (6, .getfield 17, 3), (9, .if_icmp .lt 7, 3), (12, .iconst 0, 1), (13, .goto 26, 3), (16, .aload_n 0, 1), (17, .getfield 9, 3), (20, .aload_n 0, 1), (21, .getfield 20, 3), (24, .iload_n 1, 1), (25, .iadd, 1), (26, .aload_n 0, 1), (27, .getfield 9, 3), (30, .arraylength, 1), (31, .iconst 1, 1), (32, .isub, 1), (33, .iand, 1), (34, .baload, 1), (35, .sipush 255, 3), (38, .iand, 1), (39, .ireturn, 1)]
theorem da_X2_byteAt_o11 : dkL cX2_byteAt dl_X2_byteAt_o11 = true := by decide +kernel
def f_X2_byteAt_o11_b12 (u : St) : Option (Int32) := some (0 : Int32)
set_option maxRecDepth 100000 in
set_option maxHeartbeats 4000000 in
theorem b_X2_byteAt_o11_b12 {p : Program} {l : Launch} {e : Env} {s : State} {m : MethodId} {args : Array Value} {below : List Frame} {meth : Method} {c : Code} {D : va_G} {cy : ClassId × ClassId × ClassId} {ad : Nat → Nat} {A : Nat → Prop} (E : CallFix p m c cX2_byteAt 2 s args gw RX2) (hr : meth.sig.returnType = some .int) (hlk : meth.locks = false) {u : St} {r : Int32} (h : f_X2_byteAt_o11_b12 u = some r) {ls : Array Slot} {H : Heap} {locs : List Loc} {rr : Nat → Nat} (hl : lv_has ls 2 []) (w : WX (wC cy ad) D cy rr u A s H locs) : Wx (wC cy ad) D p l e 0 0 0 s m args below meth c A u (some (.int r)) H locs 0 12 ls [] := by
  have hx := E.1
  have hb := E.2.1
  have hown := E.2.2.2.1
  have hts := E.2.2.2.2
  refine lv_iconst (v := 0) hx hb (dq da_X2_byteAt_o11 6 rfl) rfl ?_
  refine lv_goto (tgt := 39) hx hb (dq da_X2_byteAt_o11 7 rfl) (by decide) ?_
  exact xret_i E hr hlk w (by decide) (os h) rfl (dq da_X2_byteAt_o11 23 rfl)
def f_X2_byteAt_o11 (x1 : Int32) (u : St) : Option (Int32) := if x1 < (0 : Int32) then (f_X2_byteAt_o11_b12 u) else (if x1 < (gI u 12) then (if inB (((gI u 11) + x1) &&& ((Int32.ofNat (gN u 5)) - (1 : Int32))) (gN u 5) then (some ((gA u 4 (((gI u 11) + x1) &&& ((Int32.ofNat (gN u 5)) - (1 : Int32))).toNatClampNeg) &&& (255 : Int32))) else none) else (f_X2_byteAt_o11_b12 u))
set_option maxRecDepth 100000 in
set_option maxHeartbeats 4000000 in
theorem c_X2_byteAt_o11 (l : Launch) (D : va_G) (cy : ClassId × ClassId × ClassId) (ad : Nat → Nat) (x1 : Int32) (u : St) {r : Int32} (h : f_X2_byteAt_o11 x1 u = some r) : MX (wC cy ad) D cy l yX2_byteAt cX2_byteAt 2 (some .int) 0 0 0 [.ref (ad 11), .int x1] u u (some (.int (r))) := by
  refine entX (by decide +kernel) (Nat.le_of_ble_eq_true rfl) ?_
  intro p e s m args below meth c ls rr A E hr hlk hl w
  have hl : lv_has ls 2 [(0, .ref (ad 11)), (1, .int x1)] := hl
  have hx := E.1
  have hb := E.2.1
  have hown := E.2.2.2.1
  have hts := E.2.2.2.2
  refine lv_iload_n hx hb (dq da_X2_byteAt_o11 0 rfl) rfl (lv_at hl 1 rfl) ?_
  refine lv_if_lt (tgt := 12) hx hb (dq da_X2_byteAt_o11 1 rfl) (by decide) (fun c1 => ?_) (fun c1 => ?_)
  · have h := it c1 h
    exact b_X2_byteAt_o11_b12 E hr hlk h (lv_sub hl [] rfl) w
  · have h := ie c1 h
    refine lv_iload_n hx hb (dq da_X2_byteAt_o11 2 rfl) rfl (lv_at hl 1 rfl) ?_
    refine lv_aload_n hx hb (dq da_X2_byteAt_o11 3 rfl) rfl (lv_at hl 0 rfl) ?_
    refine gt_wC_11_count E w w_38 (dq da_X2_byteAt_o11 4 rfl) ?_
    refine lv_icmp_lt (tgt := 16) hx hb (dq da_X2_byteAt_o11 5 rfl) (by decide) (fun c2 => ?_) (fun c2 => ?_)
    · have h := it c2 h
      refine lv_aload_n hx hb (dq da_X2_byteAt_o11 8 rfl) rfl (lv_at hl 0 rfl) ?_
      refine gt_wC_11_row E w w_36 (dq da_X2_byteAt_o11 9 rfl) ?_
      refine lv_aload_n hx hb (dq da_X2_byteAt_o11 10 rfl) rfl (lv_at hl 0 rfl) ?_
      refine gt_wC_11_first E w w_37 (dq da_X2_byteAt_o11 11 rfl) ?_
      refine lv_iload_n hx hb (dq da_X2_byteAt_o11 12 rfl) rfl (lv_at hl 1 rfl) ?_
      refine lv_iadd hx hb (dq da_X2_byteAt_o11 13 rfl) ?_
      refine lv_aload_n hx hb (dq da_X2_byteAt_o11 14 rfl) rfl (lv_at hl 0 rfl) ?_
      refine gt_wC_11_row E w w_36 (dq da_X2_byteAt_o11 15 rfl) ?_
      refine aln_wC_12 E w (dq da_X2_byteAt_o11 16 rfl) ?_
      refine lv_iconst (v := 1) hx hb (dq da_X2_byteAt_o11 17 rfl) rfl ?_
      refine lv_isub hx hb (dq da_X2_byteAt_o11 18 rfl) ?_
      refine lv_iand hx hb (dq da_X2_byteAt_o11 19 rfl) ?_
      obtain ⟨hi3, h⟩ := oi h
      refine ald_wC_12 E w hi3 (dq da_X2_byteAt_o11 20 rfl) ?_
      refine lv_sipush (v := 255) hx hb (dq da_X2_byteAt_o11 21 rfl) rfl ?_
      refine lv_iand hx hb (dq da_X2_byteAt_o11 22 rfl) ?_
      exact xret_i E hr hlk w (by decide) (os h) rfl (dq da_X2_byteAt_o11 23 rfl)
    · have h := ie c2 h
      exact b_X2_byteAt_o11_b12 E hr hlk h (lv_sub hl [] rfl) w
def dl_X2_size_o13 : List (Nat × Instr × Nat) := [(0, .aload_n 0, 1), (1, .getfield 17, 3), (4, .ireturn, 1)]
theorem da_X2_size_o13 : dkL cX2_size dl_X2_size_o13 = true := by decide +kernel
def f_X2_size_o13 (u : St) : Int32 := (gI u 15)
set_option maxRecDepth 100000 in
set_option maxHeartbeats 4000000 in
theorem c_X2_size_o13 (l : Launch) (D : va_G) (cy : ClassId × ClassId × ClassId) (ad : Nat → Nat) (u : St) : MX (wC cy ad) D cy l yX2_size cX2_size 1 (some .int) 0 0 0 [.ref (ad 13)] u u (some (.int (f_X2_size_o13 u))) := by
  refine entX (by decide +kernel) (Nat.le_of_ble_eq_true rfl) ?_
  intro p e s m args below meth c ls rr A E hr hlk hl w
  have hl : lv_has ls 1 [(0, .ref (ad 13))] := hl
  generalize h : f_X2_size_o13 u = r
  have hx := E.1
  have hb := E.2.1
  have hown := E.2.2.2.1
  have hts := E.2.2.2.2
  refine lv_aload_n hx hb (dq da_X2_size_o13 0 rfl) rfl (lv_at hl 0 rfl) ?_
  refine gt_wC_13_count E w w_38 (dq da_X2_size_o13 1 rfl) ?_
  exact xret_i E hr hlk w (by decide) h rfl (dq da_X2_size_o13 2 rfl)
def dl_X2_clear_o13 : List (Nat × Instr × Nat) := [(0, .aload_n 0, 1), (1, .iconst 0, 1), (2, .putfield 20, 3), (5, .aload_n 0, 1), (6, .iconst 0, 1), (7, .putfield 17, 3), (10, .return_, 1)]
theorem da_X2_clear_o13 : dkL cX2_clear dl_X2_clear_o13 = true := by decide +kernel
def f_X2_clear_o13 (u : St) : St := (sI (sI u 14 (0 : Int32)) 15 (0 : Int32))
set_option maxRecDepth 100000 in
set_option maxHeartbeats 4000000 in
theorem c_X2_clear_o13 (l : Launch) (D : va_G) (cy : ClassId × ClassId × ClassId) (ad : Nat → Nat) (u : St) : MX (wC cy ad) D cy l yX2_clear cX2_clear 1 (none) 0 0 0 [.ref (ad 13)] u (f_X2_clear_o13 u) none := by
  refine entX (by decide +kernel) (Nat.le_of_ble_eq_true rfl) ?_
  intro p e s m args below meth c ls rr A E hr hlk hl w
  have hl : lv_has ls 1 [(0, .ref (ad 13))] := hl
  generalize h : f_X2_clear_o13 u = u'
  have hx := E.1
  have hb := E.2.1
  have hown := E.2.2.2.1
  have hts := E.2.2.2.2
  refine lv_aload_n hx hb (dq da_X2_clear_o13 0 rfl) rfl (lv_at hl 0 rfl) ?_
  refine lv_iconst (v := 0) hx hb (dq da_X2_clear_o13 1 rfl) rfl ?_
  refine pt_wC_13_first E w w_37 (dq da_X2_clear_o13 2 rfl) (fun H locs w => ?_)
  refine lv_aload_n hx hb (dq da_X2_clear_o13 3 rfl) rfl (lv_at hl 0 rfl) ?_
  refine lv_iconst (v := 0) hx hb (dq da_X2_clear_o13 4 rfl) rfl ?_
  refine pt_wC_13_count E w w_38 (dq da_X2_clear_o13 5 rfl) (fun H locs w => ?_)
  exact xret_v E hr hlk w (by decide) h (dq da_X2_clear_o13 6 rfl)
def dl_X2_byteAt_o13 : List (Nat × Instr × Nat) := [(0, .iload_n 1, 1), (1, .ifCond .lt 11, 3), (4, .iload_n 1, 1), (5, .aload_n 0, 1), (6, .getfield 17, 3), (9, .if_icmp .lt 7, 3), (12, .iconst 0, 1), (13, .goto 26, 3), (16, .aload_n 0, 1), (17, .getfield 9, 3), (20, .aload_n 0, 1), (21, .getfield 20, 3), (24, .iload_n 1, 1), (25, .iadd, 1), (26, .aload_n 0, 1), (27, .getfield 9, 3), (30, .arraylength, 1), (31, .iconst 1, 1), (32, .isub, 1), (33, .iand, 1), (34, .baload, 1), (35, .sipush 255, 3), (38, .iand, 1), (39, .ireturn, 1)]
theorem da_X2_byteAt_o13 : dkL cX2_byteAt dl_X2_byteAt_o13 = true := by decide +kernel
def f_X2_byteAt_o13_b12 (u : St) : Option (Int32) := some (0 : Int32)
set_option maxRecDepth 100000 in
set_option maxHeartbeats 4000000 in
theorem b_X2_byteAt_o13_b12 {p : Program} {l : Launch} {e : Env} {s : State} {m : MethodId} {args : Array Value} {below : List Frame} {meth : Method} {c : Code} {D : va_G} {cy : ClassId × ClassId × ClassId} {ad : Nat → Nat} {A : Nat → Prop} (E : CallFix p m c cX2_byteAt 2 s args gw RX2) (hr : meth.sig.returnType = some .int) (hlk : meth.locks = false) {u : St} {r : Int32} (h : f_X2_byteAt_o13_b12 u = some r) {ls : Array Slot} {H : Heap} {locs : List Loc} {rr : Nat → Nat} (hl : lv_has ls 2 []) (w : WX (wC cy ad) D cy rr u A s H locs) : Wx (wC cy ad) D p l e 0 0 0 s m args below meth c A u (some (.int r)) H locs 0 12 ls [] := by
  have hx := E.1
  have hb := E.2.1
  have hown := E.2.2.2.1
  have hts := E.2.2.2.2
  refine lv_iconst (v := 0) hx hb (dq da_X2_byteAt_o13 6 rfl) rfl ?_
  refine lv_goto (tgt := 39) hx hb (dq da_X2_byteAt_o13 7 rfl) (by decide) ?_
  exact xret_i E hr hlk w (by decide) (os h) rfl (dq da_X2_byteAt_o13 23 rfl)
def f_X2_byteAt_o13 (x1 : Int32) (u : St) : Option (Int32) := if x1 < (0 : Int32) then (f_X2_byteAt_o13_b12 u) else (if x1 < (gI u 15) then (if inB (((gI u 14) + x1) &&& ((Int32.ofNat (gN u 6)) - (1 : Int32))) (gN u 6) then (some ((gA u 5 (((gI u 14) + x1) &&& ((Int32.ofNat (gN u 6)) - (1 : Int32))).toNatClampNeg) &&& (255 : Int32))) else none) else (f_X2_byteAt_o13_b12 u))
set_option maxRecDepth 100000 in
set_option maxHeartbeats 4000000 in
theorem c_X2_byteAt_o13 (l : Launch) (D : va_G) (cy : ClassId × ClassId × ClassId) (ad : Nat → Nat) (x1 : Int32) (u : St) {r : Int32} (h : f_X2_byteAt_o13 x1 u = some r) : MX (wC cy ad) D cy l yX2_byteAt cX2_byteAt 2 (some .int) 0 0 0 [.ref (ad 13), .int x1] u u (some (.int (r))) := by
  refine entX (by decide +kernel) (Nat.le_of_ble_eq_true rfl) ?_
  intro p e s m args below meth c ls rr A E hr hlk hl w
  have hl : lv_has ls 2 [(0, .ref (ad 13)), (1, .int x1)] := hl
  have hx := E.1
  have hb := E.2.1
  have hown := E.2.2.2.1
  have hts := E.2.2.2.2
  refine lv_iload_n hx hb (dq da_X2_byteAt_o13 0 rfl) rfl (lv_at hl 1 rfl) ?_
  refine lv_if_lt (tgt := 12) hx hb (dq da_X2_byteAt_o13 1 rfl) (by decide) (fun c1 => ?_) (fun c1 => ?_)
  · have h := it c1 h
    exact b_X2_byteAt_o13_b12 E hr hlk h (lv_sub hl [] rfl) w
  · have h := ie c1 h
    refine lv_iload_n hx hb (dq da_X2_byteAt_o13 2 rfl) rfl (lv_at hl 1 rfl) ?_
    refine lv_aload_n hx hb (dq da_X2_byteAt_o13 3 rfl) rfl (lv_at hl 0 rfl) ?_
    refine gt_wC_13_count E w w_38 (dq da_X2_byteAt_o13 4 rfl) ?_
    refine lv_icmp_lt (tgt := 16) hx hb (dq da_X2_byteAt_o13 5 rfl) (by decide) (fun c2 => ?_) (fun c2 => ?_)
    · have h := it c2 h
      refine lv_aload_n hx hb (dq da_X2_byteAt_o13 8 rfl) rfl (lv_at hl 0 rfl) ?_
      refine gt_wC_13_row E w w_36 (dq da_X2_byteAt_o13 9 rfl) ?_
      refine lv_aload_n hx hb (dq da_X2_byteAt_o13 10 rfl) rfl (lv_at hl 0 rfl) ?_
      refine gt_wC_13_first E w w_37 (dq da_X2_byteAt_o13 11 rfl) ?_
      refine lv_iload_n hx hb (dq da_X2_byteAt_o13 12 rfl) rfl (lv_at hl 1 rfl) ?_
      refine lv_iadd hx hb (dq da_X2_byteAt_o13 13 rfl) ?_
      refine lv_aload_n hx hb (dq da_X2_byteAt_o13 14 rfl) rfl (lv_at hl 0 rfl) ?_
      refine gt_wC_13_row E w w_36 (dq da_X2_byteAt_o13 15 rfl) ?_
      refine aln_wC_14 E w (dq da_X2_byteAt_o13 16 rfl) ?_
      refine lv_iconst (v := 1) hx hb (dq da_X2_byteAt_o13 17 rfl) rfl ?_
      refine lv_isub hx hb (dq da_X2_byteAt_o13 18 rfl) ?_
      refine lv_iand hx hb (dq da_X2_byteAt_o13 19 rfl) ?_
      obtain ⟨hi3, h⟩ := oi h
      refine ald_wC_14 E w hi3 (dq da_X2_byteAt_o13 20 rfl) ?_
      refine lv_sipush (v := 255) hx hb (dq da_X2_byteAt_o13 21 rfl) rfl ?_
      refine lv_iand hx hb (dq da_X2_byteAt_o13 22 rfl) ?_
      exact xret_i E hr hlk w (by decide) (os h) rfl (dq da_X2_byteAt_o13 23 rfl)
    · have h := ie c2 h
      exact b_X2_byteAt_o13_b12 E hr hlk h (lv_sub hl [] rfl) w
def dl_X2_removeFirst_o11 : List (Nat × Instr × Nat) := [(0, .aload_n 0, 1), (1, .getfield 17, 3), (4, .ifCond .ne 5, 3), (7, .iconst 0, 1), (8, .ireturn, 1), (9, .aload_n 0, 1), (10, .getfield 9, 3), (13, .aload_n 0, 1), (14, .getfield 20, 3), (17, .aload_n 0, 1), (18, .getfield 9, 3), (21, .arraylength, 1), (22, .iconst 1, 1), (23, .isub, 1), (24, .iand, 1), (25, .baload, 1), (26, .sipush 255, 3), (29, .iand, 1), (30, .istore_n 1, 1), (31, .aload_n 0, 1), (32, .aload_n 0, 1), (33, .getfield 20, 3), (36, .iconst 1, 1), (37, .iadd, 1), (38, .aload_n 0, 1), (39, .getfield 9, 3), (42, .arraylength, 1), (43, .iconst 1, 1), (44, .isub, 1), (45, .iand, 1), (46, .putfield 20, 3), (49, .aload_n 0, 1), (50, .dup, 1), (51, .getfield 17, 3), (54, .iconst 1, 1), (55, .isub, 1), (56, .putfield 17, 3), (59, .iload_n 1, 1), (60, .ireturn, 1)]
theorem da_X2_removeFirst_o11 : dkL cX2_removeFirst dl_X2_removeFirst_o11 = true := by decide +kernel
def f_X2_removeFirst_o11 (u : St) : Option (Int32 × St) := if (gI u 12) = (0 : Int32) then (some ((0 : Int32), u)) else (if inB ((gI u 11) &&& ((Int32.ofNat (gN u 5)) - (1 : Int32))) (gN u 5) then (some (((gA u 4 ((gI u 11) &&& ((Int32.ofNat (gN u 5)) - (1 : Int32))).toNatClampNeg) &&& (255 : Int32)), (sI (sI u 11 (((gI u 11) + (1 : Int32)) &&& ((Int32.ofNat (gN u 5)) - (1 : Int32)))) 12 ((gI (sI u 11 (((gI u 11) + (1 : Int32)) &&& ((Int32.ofNat (gN u 5)) - (1 : Int32)))) 12) - (1 : Int32))))) else none)
set_option maxRecDepth 100000 in
set_option maxHeartbeats 4000000 in
theorem c_X2_removeFirst_o11 (l : Launch) (D : va_G) (cy : ClassId × ClassId × ClassId) (ad : Nat → Nat) (u : St) {r : Int32} {u' : St} (h : f_X2_removeFirst_o11 u = some (r, u')) : MX (wC cy ad) D cy l yX2_removeFirst cX2_removeFirst 2 (some .int) 0 0 0 [.ref (ad 11)] u u' (some (.int (r))) := by
  refine entX (by decide +kernel) (Nat.le_of_ble_eq_true rfl) ?_
  intro p e s m args below meth c ls rr A E hr hlk hl w
  have hl : lv_has ls 2 [(0, .ref (ad 11))] := hl
  have hx := E.1
  have hb := E.2.1
  have hown := E.2.2.2.1
  have hts := E.2.2.2.2
  refine lv_aload_n hx hb (dq da_X2_removeFirst_o11 0 rfl) rfl (lv_at hl 0 rfl) ?_
  refine gt_wC_11_count E w w_38 (dq da_X2_removeFirst_o11 1 rfl) ?_
  refine lv_if_ne (tgt := 9) hx hb (dq da_X2_removeFirst_o11 2 rfl) (by decide) (fun c1 => ?_) (fun c1 => ?_)
  · have h := ie c1 h
    refine lv_aload_n hx hb (dq da_X2_removeFirst_o11 5 rfl) rfl (lv_at hl 0 rfl) ?_
    refine gt_wC_11_row E w w_36 (dq da_X2_removeFirst_o11 6 rfl) ?_
    refine lv_aload_n hx hb (dq da_X2_removeFirst_o11 7 rfl) rfl (lv_at hl 0 rfl) ?_
    refine gt_wC_11_first E w w_37 (dq da_X2_removeFirst_o11 8 rfl) ?_
    refine lv_aload_n hx hb (dq da_X2_removeFirst_o11 9 rfl) rfl (lv_at hl 0 rfl) ?_
    refine gt_wC_11_row E w w_36 (dq da_X2_removeFirst_o11 10 rfl) ?_
    refine aln_wC_12 E w (dq da_X2_removeFirst_o11 11 rfl) ?_
    refine lv_iconst (v := 1) hx hb (dq da_X2_removeFirst_o11 12 rfl) rfl ?_
    refine lv_isub hx hb (dq da_X2_removeFirst_o11 13 rfl) ?_
    refine lv_iand hx hb (dq da_X2_removeFirst_o11 14 rfl) ?_
    obtain ⟨hi2, h⟩ := oi h
    refine ald_wC_12 E w hi2 (dq da_X2_removeFirst_o11 15 rfl) ?_
    refine lv_sipush (v := 255) hx hb (dq da_X2_removeFirst_o11 16 rfl) rfl ?_
    refine lv_iand hx hb (dq da_X2_removeFirst_o11 17 rfl) ?_
    refine lv_istore_n (lv' := [(1, .int ((gA u 4 ((gI u 11) &&& ((Int32.ofNat (gN u 5)) - (1 : Int32))).toNatClampNeg) &&& (255 : Int32))), (0, .ref (ad 11))]) hx hb (dq da_X2_removeFirst_o11 18 rfl) rfl hl (by decide) rfl (fun ls hl => ?_)
    refine lv_aload_n hx hb (dq da_X2_removeFirst_o11 19 rfl) rfl (lv_at hl 1 rfl) ?_
    refine lv_aload_n hx hb (dq da_X2_removeFirst_o11 20 rfl) rfl (lv_at hl 1 rfl) ?_
    refine gt_wC_11_first E w w_37 (dq da_X2_removeFirst_o11 21 rfl) ?_
    refine lv_iconst (v := 1) hx hb (dq da_X2_removeFirst_o11 22 rfl) rfl ?_
    refine lv_iadd hx hb (dq da_X2_removeFirst_o11 23 rfl) ?_
    refine lv_aload_n hx hb (dq da_X2_removeFirst_o11 24 rfl) rfl (lv_at hl 1 rfl) ?_
    refine gt_wC_11_row E w w_36 (dq da_X2_removeFirst_o11 25 rfl) ?_
    refine aln_wC_12 E w (dq da_X2_removeFirst_o11 26 rfl) ?_
    refine lv_iconst (v := 1) hx hb (dq da_X2_removeFirst_o11 27 rfl) rfl ?_
    refine lv_isub hx hb (dq da_X2_removeFirst_o11 28 rfl) ?_
    refine lv_iand hx hb (dq da_X2_removeFirst_o11 29 rfl) ?_
    refine pt_wC_11_first E w w_37 (dq da_X2_removeFirst_o11 30 rfl) (fun H locs w => ?_)
    refine lv_aload_n hx hb (dq da_X2_removeFirst_o11 31 rfl) rfl (lv_at hl 1 rfl) ?_
    refine lv_dup hx hb (dq da_X2_removeFirst_o11 32 rfl) rfl ?_
    refine gt_wC_11_count E w w_38 (dq da_X2_removeFirst_o11 33 rfl) ?_
    refine lv_iconst (v := 1) hx hb (dq da_X2_removeFirst_o11 34 rfl) rfl ?_
    refine lv_isub hx hb (dq da_X2_removeFirst_o11 35 rfl) ?_
    refine pt_wC_11_count E w w_38 (dq da_X2_removeFirst_o11 36 rfl) (fun H locs w => ?_)
    refine lv_iload_n hx hb (dq da_X2_removeFirst_o11 37 rfl) rfl (lv_at hl 0 rfl) ?_
    exact xret_i E hr hlk w (by decide) (congrArg Prod.fst (os h)) (congrArg Prod.snd (os h)) (dq da_X2_removeFirst_o11 38 rfl)
  · have h := it c1 h
    refine lv_iconst (v := 0) hx hb (dq da_X2_removeFirst_o11 3 rfl) rfl ?_
    exact xret_i E hr hlk w (by decide) (congrArg Prod.fst (os h)) (congrArg Prod.snd (os h)) (dq da_X2_removeFirst_o11 4 rfl)
def dl_X2_number_o1 : List (Nat × Instr × Nat) := [(0, .lconst 0, 1), (1, .lstore_n 3, 1), (2, .iload_n 2, 1), (3, .iconst 1, 1), (4, .isub, 1), (5, .istore 5, 2), (7, .iload 5, 2), (9, .ifCond .lt 24, 3), (12, .lload_n 3, 1), (13, .bipush 8, 2), (15, .lshl, 1), (16, .aload_n 0, 1), (17, .iload_n 1, 1), (18, .iload 5, 2), (20, .iadd, 1), (21, .invokevirtual 23, 3), (24, .i2l, 1), (25, .lor, 1), (26, .lstore_n 3, 1), (27, .iinc 5 (-1), 3), (30, .goto (-23), 3), (33, .lload_n 3, 1), (34, .lreturn, 1)]
theorem da_X2_number_o1 : dkL cX2_number dl_X2_number_o1 = true := by decide +kernel
def f_X2_number_o1_b7_s (k7 : Int32 → Int64 → Int32 → St → Option (Int64)) (x1 : Int32) (x3 : Int64) (x5 : Int32) (u : St) : Option (Int64) := if x5 < (0 : Int32) then (some x3) else ((f_X2_byteAt_o1 (x1 + x5) u).bind (fun y2 => k7 x1 ((j_lshl x3 (8 : Int32)) ||| y2.toInt64) (x5 + (-1 : Int32)) u))
set_option maxRecDepth 100000 in
set_option maxHeartbeats 4000000 in
theorem b_X2_number_o1_b7_s {p : Program} {l : Launch} {e : Env} {s : State} {m : MethodId} {args : Array Value} {below : List Frame} {meth : Method} {c : Code} {D : va_G} {cy : ClassId × ClassId × ClassId} {ad : Nat → Nat} {A : Nat → Prop} (E : CallFix p m c cX2_number 6 s args gw RX2) (hr : meth.sig.returnType = some .long) (hlk : meth.locks = false) {k7 : Int32 → Int64 → Int32 → St → Option (Int64)} (hk7 : ∀ (x1 : Int32) (x3 : Int64) (x5 : Int32) (u : St) (r : Int64), k7 x1 x3 x5 u = some r → ∀ (ls : Array Slot) (H : Heap) (locs : List Loc) (rr : Nat → Nat), lv_has ls 6 [(0, .ref (ad 1)), (1, .int x1), (3, .long x3), (5, .int x5)] → WX (wC cy ad) D cy rr u A s H locs → Wx (wC cy ad) D p l e 1 21 0 s m args below meth c A u (some (.long r)) H locs 0 7 ls []) {x1 : Int32} {x3 : Int64} {x5 : Int32} {u : St} {r : Int64} (h : f_X2_number_o1_b7_s k7 x1 x3 x5 u = some r) {ls : Array Slot} {H : Heap} {locs : List Loc} {rr : Nat → Nat} (hl : lv_has ls 6 [(0, .ref (ad 1)), (1, .int x1), (3, .long x3), (5, .int x5)]) (w : WX (wC cy ad) D cy rr u A s H locs) : Wx (wC cy ad) D p l e 1 21 0 s m args below meth c A u (some (.long r)) H locs 0 7 ls [] := by
  have hx := E.1
  have hb := E.2.1
  have hown := E.2.2.2.1
  have hts := E.2.2.2.2
  refine lv_iload hx hb (dq da_X2_number_o1 6 rfl) (lv_at hl 3 rfl) ?_
  refine lv_if_lt (tgt := 33) hx hb (dq da_X2_number_o1 7 rfl) (by decide) (fun c1 => ?_) (fun c1 => ?_)
  · have h := it c1 h
    refine lv_lload_n hx hb (dq da_X2_number_o1 21 rfl) rfl (lv_at hl 2 rfl) ?_
    exact xret_l E hr hlk w (by decide) (os h) rfl (dq da_X2_number_o1 22 rfl)
  · have h := ie c1 h
    refine lv_lload_n hx hb (dq da_X2_number_o1 8 rfl) rfl (lv_at hl 2 rfl) ?_
    refine lv_bipush (v := 8) hx hb (dq da_X2_number_o1 9 rfl) rfl ?_
    refine lv_lshl (v := (j_lshl x3 (8 : Int32))) hx hb (dq da_X2_number_o1 10 rfl) rfl ?_
    refine lv_aload_n hx hb (dq da_X2_number_o1 11 rfl) rfl (lv_at hl 0 rfl) ?_
    refine lv_iload_n hx hb (dq da_X2_number_o1 12 rfl) rfl (lv_at hl 1 rfl) ?_
    refine lv_iload hx hb (dq da_X2_number_o1 13 rfl) (lv_at hl 3 rfl) ?_
    refine lv_iadd hx hb (dq da_X2_number_o1 14 rfl) ?_
    obtain ⟨y2, hy3, h⟩ := ob h
    refine cV1 E (c_X2_byteAt_o1 l D cy ad _ _ hy3) w_325 w_326 w_327 w_2 w_328 rfl hd_X2_byteAt rfl hl.1 rfl (Nat.le_of_ble_eq_true rfl) ⟨Nat.le_of_ble_eq_true rfl, Nat.le_of_ble_eq_true rfl⟩ (by decide) w (rc_wC_1 w) (dq da_X2_number_o1 15 rfl) (fun H locs rr w => ?_)
    refine lv_i2l (v := y2.toInt64) hx hb (dq da_X2_number_o1 16 rfl) rfl ?_
    refine lv_lor hx hb (dq da_X2_number_o1 17 rfl) ?_
    refine lv_lstore_n (lv' := [(3, .long ((j_lshl x3 (8 : Int32)) ||| y2.toInt64)), (0, .ref (ad 1)), (1, .int x1), (5, .int x5)]) hx hb (dq da_X2_number_o1 18 rfl) rfl hl (by decide) rfl (fun ls hl => ?_)
    refine lv_iinc (v := (x5 + (-1 : Int32))) (lv' := [(5, .int (x5 + (-1 : Int32))), (3, .long ((j_lshl x3 (8 : Int32)) ||| y2.toInt64)), (0, .ref (ad 1)), (1, .int x1)]) hx hb (dq da_X2_number_o1 19 rfl) hl (k := 3) rfl rfl (by decide) rfl (fun ls hl => ?_)
    refine lv_goto (tgt := 7) hx hb (dq da_X2_number_o1 20 rfl) (by decide) ?_
    exact hk7 _ _ _ _ _ h ls _ _ _ (lv_sub hl [2, 3, 1, 0] rfl) w
def f_X2_number_o1_b7 : Nat → Int32 → Int64 → Int32 → St → Option (Int64)
  | 0 => fun _ _ _ _ => none
  | n + 1 => f_X2_number_o1_b7_s (f_X2_number_o1_b7 n)
theorem b_X2_number_o1_b7 {p : Program} {l : Launch} {e : Env} {s : State} {m : MethodId} {args : Array Value} {below : List Frame} {meth : Method} {c : Code} {D : va_G} {cy : ClassId × ClassId × ClassId} {ad : Nat → Nat} {A : Nat → Prop} (E : CallFix p m c cX2_number 6 s args gw RX2) (hr : meth.sig.returnType = some .long) (hlk : meth.locks = false) : ∀ n : Nat, ∀ (x1 : Int32) (x3 : Int64) (x5 : Int32) (u : St) (r : Int64), f_X2_number_o1_b7 n x1 x3 x5 u = some r → ∀ (ls : Array Slot) (H : Heap) (locs : List Loc) (rr : Nat → Nat), lv_has ls 6 [(0, .ref (ad 1)), (1, .int x1), (3, .long x3), (5, .int x5)] → WX (wC cy ad) D cy rr u A s H locs → Wx (wC cy ad) D p l e 1 21 0 s m args below meth c A u (some (.long r)) H locs 0 7 ls [] := by
  intro n
  induction n with
  | zero => intro x1 x3 x5 u r h; cases h
  | succ n ih => intro x1 x3 x5 u r h ls H locs rr hl w; exact b_X2_number_o1_b7_s E hr hlk ih h hl w
def f_X2_number_o1 (x1 : Int32) (x2 : Int32) (u : St) : Option (Int64) := f_X2_number_o1_b7 FU x1 (0 : Int64) (x2 - (1 : Int32)) u
set_option maxRecDepth 100000 in
set_option maxHeartbeats 4000000 in
theorem c_X2_number_o1 (l : Launch) (D : va_G) (cy : ClassId × ClassId × ClassId) (ad : Nat → Nat) (x1 : Int32) (x2 : Int32) (u : St) {r : Int64} (h : f_X2_number_o1 x1 x2 u = some r) : MX (wC cy ad) D cy l yX2_number cX2_number 6 (some .long) 1 21 0 [.ref (ad 1), .int x1, .int x2] u u (some (.long (r))) := by
  refine entX (by decide +kernel) (Nat.le_of_ble_eq_true rfl) ?_
  intro p e s m args below meth c ls rr A E hr hlk hl w
  have hl : lv_has ls 6 [(0, .ref (ad 1)), (1, .int x1), (2, .int x2)] := hl
  have hx := E.1
  have hb := E.2.1
  have hown := E.2.2.2.1
  have hts := E.2.2.2.2
  refine lv_lconst (v := 0) hx hb (dq da_X2_number_o1 0 rfl) rfl ?_
  refine lv_lstore_n (lv' := [(3, .long (0 : Int64)), (0, .ref (ad 1)), (1, .int x1), (2, .int x2)]) hx hb (dq da_X2_number_o1 1 rfl) rfl hl (by decide) rfl (fun ls hl => ?_)
  refine lv_iload_n hx hb (dq da_X2_number_o1 2 rfl) rfl (lv_at hl 3 rfl) ?_
  refine lv_iconst (v := 1) hx hb (dq da_X2_number_o1 3 rfl) rfl ?_
  refine lv_isub hx hb (dq da_X2_number_o1 4 rfl) ?_
  refine lv_istore (lv' := [(5, .int (x2 - (1 : Int32))), (3, .long (0 : Int64)), (0, .ref (ad 1)), (1, .int x1), (2, .int x2)]) hx hb (dq da_X2_number_o1 5 rfl) hl (by decide) rfl (fun ls hl => ?_)
  exact b_X2_number_o1_b7 E hr hlk FU _ _ _ _ _ h ls _ _ _ (lv_sub hl [2, 3, 1, 0] rfl) w
def dl_X10_place : List (Nat × Instr × Nat) := [(0, .lload_n 1, 1), (1, .ldc2_w 19, 3), (4, .lsub, 1), (5, .lstore 4, 2), (7, .lload 4, 2), (9, .lconst 0, 1), (10, .lcmp, 1), (11, .ifCond .lt 22, 3), (14, .lload 4, 2), (16, .aload_n 0, 1), (17, .getfield 9, 3), (20, .iload_n 3, 1), (21, .isub, 1), (22, .i2l, 1), (23, .lcmp, 1), (24, .ifCond .gt 9, 3), (27, .lload 4, 2), (29, .l2i, 1), (30, .goto 4, 3), (33, .iconst (-1), 1), (34, .ireturn, 1)]
theorem da_X10_place : dkL cX10_place dl_X10_place = true := by decide +kernel
def f_X10_place_b33 (u : St) : Int32 := (-1 : Int32)
set_option maxRecDepth 100000 in
set_option maxHeartbeats 4000000 in
theorem b_X10_place_b33 {p : Program} {l : Launch} {e : Env} {s : State} {m : MethodId} {args : Array Value} {below : List Frame} {meth : Method} {c : Code} {D : va_G} {cy : ClassId × ClassId × ClassId} {ad : Nat → Nat} {A : Nat → Prop} (E : CallFix p m c cX10_place 6 s args gw RX10) (hr : meth.sig.returnType = some .int) (hlk : meth.locks = false) {u : St} {r : Int32} (h : f_X10_place_b33 u = r) {ls : Array Slot} {H : Heap} {locs : List Loc} {rr : Nat → Nat} (hl : lv_has ls 6 []) (w : WX (wC cy ad) D cy rr u A s H locs) : Wx (wC cy ad) D p l e 0 0 0 s m args below meth c A u (some (.int r)) H locs 0 33 ls [] := by
  have hx := E.1
  have hb := E.2.1
  have hown := E.2.2.2.1
  have hts := E.2.2.2.2
  refine lv_iconst (v := (-1)) hx hb (dq da_X10_place 19 rfl) rfl ?_
  exact xret_i E hr hlk w (by decide) h rfl (dq da_X10_place 20 rfl)
def f_X10_place (x1 : Int64) (x3 : Int32) (u : St) : Int32 := if (x1 - (2147483648 : Int64)) < (0 : Int64) then (f_X10_place_b33 u) else (if ((gI u 5) - x3).toInt64 < (x1 - (2147483648 : Int64)) then (f_X10_place_b33 u) else ((x1 - (2147483648 : Int64)).toInt32))
set_option maxRecDepth 100000 in
set_option maxHeartbeats 4000000 in
theorem c_X10_place (l : Launch) (D : va_G) (cy : ClassId × ClassId × ClassId) (ad : Nat → Nat) (x1 : Int64) (x3 : Int32) (u : St) : MX (wC cy ad) D cy l yX10_place cX10_place 6 (some .int) 0 0 0 [.ref (ad 4), .long x1, .int x3] u u (some (.int (f_X10_place x1 x3 u))) := by
  refine entX (by decide +kernel) (Nat.le_of_ble_eq_true rfl) ?_
  intro p e s m args below meth c ls rr A E hr hlk hl w
  have hl : lv_has ls 6 [(0, .ref (ad 4)), (1, .long x1), (3, .int x3)] := hl
  generalize h : f_X10_place x1 x3 u = r
  have hx := E.1
  have hb := E.2.1
  have hown := E.2.2.2.1
  have hts := E.2.2.2.2
  refine lv_lload_n hx hb (dq da_X10_place 0 rfl) rfl (lv_at hl 1 rfl) ?_
  refine lv_ldc2 hx hb hown (hts _ w_349) (dq da_X10_place 1 rfl) ?_
  refine lv_lsub hx hb (dq da_X10_place 2 rfl) ?_
  refine lv_lstore (lv' := [(4, .long (x1 - (2147483648 : Int64))), (0, .ref (ad 4)), (1, .long x1), (3, .int x3)]) hx hb (dq da_X10_place 3 rfl) hl (by decide) rfl (fun ls hl => ?_)
  refine lv_lload hx hb (dq da_X10_place 4 rfl) (lv_at hl 0 rfl) ?_
  refine lv_lconst (v := 0) hx hb (dq da_X10_place 5 rfl) rfl ?_
  refine lc_lt (tgt := 33) hx hb (dq da_X10_place 6 rfl) (dq da_X10_place 7 rfl) (by decide) (fun c1 => ?_) (fun c1 => ?_)
  · have h := it c1 h
    exact b_X10_place_b33 E hr hlk h (lv_sub hl [] rfl) w
  · have h := ie c1 h
    refine lv_lload hx hb (dq da_X10_place 8 rfl) (lv_at hl 0 rfl) ?_
    refine lv_aload_n hx hb (dq da_X10_place 9 rfl) rfl (lv_at hl 1 rfl) ?_
    refine gt_wC_4_size E w w_57 (dq da_X10_place 10 rfl) ?_
    refine lv_iload_n hx hb (dq da_X10_place 11 rfl) rfl (lv_at hl 3 rfl) ?_
    refine lv_isub hx hb (dq da_X10_place 12 rfl) ?_
    refine lv_i2l (v := ((gI u 5) - x3).toInt64) hx hb (dq da_X10_place 13 rfl) rfl ?_
    refine lc_gt (tgt := 33) hx hb (dq da_X10_place 14 rfl) (dq da_X10_place 15 rfl) (by decide) (fun c2 => ?_) (fun c2 => ?_)
    · have h := it c2 h
      exact b_X10_place_b33 E hr hlk h (lv_sub hl [] rfl) w
    · have h := ie c2 h
      refine lv_lload hx hb (dq da_X10_place 16 rfl) (lv_at hl 0 rfl) ?_
      refine lv_l2i (v := (x1 - (2147483648 : Int64)).toInt32) hx hb (dq da_X10_place 17 rfl) rfl ?_
      refine lv_goto (tgt := 34) hx hb (dq da_X10_place 18 rfl) (by decide) ?_
      exact xret_i E hr hlk w (by decide) h rfl (dq da_X10_place 20 rfl)
def dl_X10_read : List (Nat × Instr × Nat) := [(0, .iload_n 1, 1), (1, .ifCond .lt 11, 3), (4, .iload_n 1, 1), (5, .aload_n 0, 1), (6, .getfield 9, 3), (9, .if_icmp .lt 5, 3), (12, .lconst 0, 1), (13, .lreturn, 1), (14, .bipush 64, 2), (16, .bipush 8, 2), (18, .iload_n 2, 1), (19, .imul, 1), (20, .isub, 1), (21, .istore_n 3, 1), (22, .aload_n 0, 1), (23, .getfield 15, 3), (26, .iload_n 1, 1), (27, .iconst 3, 1), (28, .ishr, 1), (29, .laload, 1), (30, .bipush 8, 2), (32, .iload_n 1, 1), (33, .bipush 7, 2), (35, .iand, 1), (36, .imul, 1), (37, .lushr, 1), (38, .iload_n 3, 1), (39, .lshl, 1), (40, .iload_n 3, 1), (41, .lushr, 1), (42, .lreturn, 1)]
theorem da_X10_read : dkL cX10_read dl_X10_read = true := by decide +kernel
def f_X10_read_b12 (u : St) : Option (Int64) := some (0 : Int64)
set_option maxRecDepth 100000 in
set_option maxHeartbeats 4000000 in
theorem b_X10_read_b12 {p : Program} {l : Launch} {e : Env} {s : State} {m : MethodId} {args : Array Value} {below : List Frame} {meth : Method} {c : Code} {D : va_G} {cy : ClassId × ClassId × ClassId} {ad : Nat → Nat} {A : Nat → Prop} (E : CallFix p m c cX10_read 4 s args gw RX10) (hr : meth.sig.returnType = some .long) (hlk : meth.locks = false) {u : St} {r : Int64} (h : f_X10_read_b12 u = some r) {ls : Array Slot} {H : Heap} {locs : List Loc} {rr : Nat → Nat} (hl : lv_has ls 4 []) (w : WX (wC cy ad) D cy rr u A s H locs) : Wx (wC cy ad) D p l e 0 0 0 s m args below meth c A u (some (.long r)) H locs 0 12 ls [] := by
  have hx := E.1
  have hb := E.2.1
  have hown := E.2.2.2.1
  have hts := E.2.2.2.2
  refine lv_lconst (v := 0) hx hb (dq da_X10_read 6 rfl) rfl ?_
  exact xret_l E hr hlk w (by decide) (os h) rfl (dq da_X10_read 7 rfl)
def f_X10_read (x1 : Int32) (x2 : Int32) (u : St) : Option (Int64) := if x1 < (0 : Int32) then (f_X10_read_b12 u) else (if x1 < (gI u 5) then (if inB (x1 >>> ((3 : Int32) &&& 31)) (gN u 1) then (some (j_lushr (j_lshl (j_lushr (gB u 0 (x1 >>> ((3 : Int32) &&& 31)).toNatClampNeg) ((8 : Int32) * (x1 &&& (7 : Int32)))) ((64 : Int32) - ((8 : Int32) * x2))) ((64 : Int32) - ((8 : Int32) * x2)))) else none) else (f_X10_read_b12 u))
set_option maxRecDepth 100000 in
set_option maxHeartbeats 4000000 in
theorem c_X10_read (l : Launch) (D : va_G) (cy : ClassId × ClassId × ClassId) (ad : Nat → Nat) (x1 : Int32) (x2 : Int32) (u : St) {r : Int64} (h : f_X10_read x1 x2 u = some r) : MX (wC cy ad) D cy l yX10_read cX10_read 4 (some .long) 0 0 0 [.ref (ad 4), .int x1, .int x2] u u (some (.long (r))) := by
  refine entX (by decide +kernel) (Nat.le_of_ble_eq_true rfl) ?_
  intro p e s m args below meth c ls rr A E hr hlk hl w
  have hl : lv_has ls 4 [(0, .ref (ad 4)), (1, .int x1), (2, .int x2)] := hl
  have hx := E.1
  have hb := E.2.1
  have hown := E.2.2.2.1
  have hts := E.2.2.2.2
  refine lv_iload_n hx hb (dq da_X10_read 0 rfl) rfl (lv_at hl 1 rfl) ?_
  refine lv_if_lt (tgt := 12) hx hb (dq da_X10_read 1 rfl) (by decide) (fun c1 => ?_) (fun c1 => ?_)
  · have h := it c1 h
    exact b_X10_read_b12 E hr hlk h (lv_sub hl [] rfl) w
  · have h := ie c1 h
    refine lv_iload_n hx hb (dq da_X10_read 2 rfl) rfl (lv_at hl 1 rfl) ?_
    refine lv_aload_n hx hb (dq da_X10_read 3 rfl) rfl (lv_at hl 0 rfl) ?_
    refine gt_wC_4_size E w w_57 (dq da_X10_read 4 rfl) ?_
    refine lv_icmp_lt (tgt := 14) hx hb (dq da_X10_read 5 rfl) (by decide) (fun c2 => ?_) (fun c2 => ?_)
    · have h := it c2 h
      refine lv_bipush (v := 64) hx hb (dq da_X10_read 8 rfl) rfl ?_
      refine lv_bipush (v := 8) hx hb (dq da_X10_read 9 rfl) rfl ?_
      refine lv_iload_n hx hb (dq da_X10_read 10 rfl) rfl (lv_at hl 2 rfl) ?_
      refine lv_imul hx hb (dq da_X10_read 11 rfl) ?_
      refine lv_isub hx hb (dq da_X10_read 12 rfl) ?_
      refine lv_istore_n (lv' := [(3, .int ((64 : Int32) - ((8 : Int32) * x2))), (0, .ref (ad 4)), (1, .int x1), (2, .int x2)]) hx hb (dq da_X10_read 13 rfl) rfl hl (by decide) rfl (fun ls hl => ?_)
      refine lv_aload_n hx hb (dq da_X10_read 14 rfl) rfl (lv_at hl 1 rfl) ?_
      refine gt_wC_4_words E w w_59 (dq da_X10_read 15 rfl) ?_
      refine lv_iload_n hx hb (dq da_X10_read 16 rfl) rfl (lv_at hl 2 rfl) ?_
      refine lv_iconst (v := 3) hx hb (dq da_X10_read 17 rfl) rfl ?_
      refine lv_ishr hx hb (dq da_X10_read 18 rfl) ?_
      obtain ⟨hi3, h⟩ := oi h
      refine ald_wC_5 E w hi3 (dq da_X10_read 19 rfl) ?_
      refine lv_bipush (v := 8) hx hb (dq da_X10_read 20 rfl) rfl ?_
      refine lv_iload_n hx hb (dq da_X10_read 21 rfl) rfl (lv_at hl 2 rfl) ?_
      refine lv_bipush (v := 7) hx hb (dq da_X10_read 22 rfl) rfl ?_
      refine lv_iand hx hb (dq da_X10_read 23 rfl) ?_
      refine lv_imul hx hb (dq da_X10_read 24 rfl) ?_
      refine lv_lushr (v := (j_lushr (gB u 0 (x1 >>> ((3 : Int32) &&& 31)).toNatClampNeg) ((8 : Int32) * (x1 &&& (7 : Int32))))) hx hb (dq da_X10_read 25 rfl) rfl ?_
      refine lv_iload_n hx hb (dq da_X10_read 26 rfl) rfl (lv_at hl 0 rfl) ?_
      refine lv_lshl (v := (j_lshl (j_lushr (gB u 0 (x1 >>> ((3 : Int32) &&& 31)).toNatClampNeg) ((8 : Int32) * (x1 &&& (7 : Int32)))) ((64 : Int32) - ((8 : Int32) * x2)))) hx hb (dq da_X10_read 27 rfl) rfl ?_
      refine lv_iload_n hx hb (dq da_X10_read 28 rfl) rfl (lv_at hl 0 rfl) ?_
      refine lv_lushr (v := (j_lushr (j_lshl (j_lushr (gB u 0 (x1 >>> ((3 : Int32) &&& 31)).toNatClampNeg) ((8 : Int32) * (x1 &&& (7 : Int32)))) ((64 : Int32) - ((8 : Int32) * x2))) ((64 : Int32) - ((8 : Int32) * x2)))) hx hb (dq da_X10_read 29 rfl) rfl ?_
      exact xret_l E hr hlk w (by decide) (os h) rfl (dq da_X10_read 30 rfl)
    · have h := ie c2 h
      exact b_X10_read_b12 E hr hlk h (lv_sub hl [] rfl) w
def dl_X10_write : List (Nat × Instr × Nat) := [(0, .iload_n 1, 1), (1, .ifCond .lt 11, 3), (4, .iload_n 1, 1), (5, .aload_n 0, 1), (6, .getfield 9, 3), (9, .if_icmp .lt 4, 3), (12, .return_, 1), (13, .bipush 8, 2), (15, .iload_n 1, 1), (16, .bipush 7, 2), (18, .iand, 1), (19, .imul, 1), (20, .istore 5, 2), (22, .ldc2_w 21, 3), (25, .bipush 64, 2), (27, .bipush 8, 2), (29, .iload_n 2, 1), (30, .imul, 1), (31, .isub, 1), (32, .lushr, 1), (33, .iload 5, 2), (35, .lshl, 1), (36, .lstore 6, 2), (38, .aload_n 0, 1), (39, .getfield 15, 3), (42, .iload_n 1, 1), (43, .iconst 3, 1), (44, .ishr, 1), (45, .aload_n 0, 1), (46, .getfield 15, 3), (49, .iload_n 1, 1), (50, .iconst 3, 1), (51, .ishr, 1), (52, .laload, 1), (53, .lload 6, 2), (55, .ldc2_w 21, 3), (58, .lxor, 1), (59, .land, 1), (60, .lload_n 3, 1), (61, .iload 5, 2), (63, .lshl, 1), (64, .lload 6, 2), (66, .land, 1), (67, .lor, 1), (68, .lastore, 1), (69, .return_, 1)]
theorem da_X10_write : dkL cX10_write dl_X10_write = true := by decide +kernel
def f_X10_write (x1 : Int32) (x2 : Int32) (x3 : Int64) (u : St) : Option (St) := if x1 < (0 : Int32) then (some u) else (if x1 < (gI u 5) then (if inB (x1 >>> ((3 : Int32) &&& 31)) (gN u 1) then (if inB (x1 >>> ((3 : Int32) &&& 31)) (gN u 1) then (some (sB u 0 (x1 >>> ((3 : Int32) &&& 31)).toNatClampNeg (((gB u 0 (x1 >>> ((3 : Int32) &&& 31)).toNatClampNeg) &&& ((j_lshl (j_lushr (-1 : Int64) ((64 : Int32) - ((8 : Int32) * x2))) ((8 : Int32) * (x1 &&& (7 : Int32)))) ^^^ (-1 : Int64))) ||| ((j_lshl x3 ((8 : Int32) * (x1 &&& (7 : Int32)))) &&& (j_lshl (j_lushr (-1 : Int64) ((64 : Int32) - ((8 : Int32) * x2))) ((8 : Int32) * (x1 &&& (7 : Int32)))))))) else none) else none) else (some u))
set_option maxRecDepth 100000 in
set_option maxHeartbeats 4000000 in
theorem c_X10_write (l : Launch) (D : va_G) (cy : ClassId × ClassId × ClassId) (ad : Nat → Nat) (x1 : Int32) (x2 : Int32) (x3 : Int64) (u : St) {u' : St} (h : f_X10_write x1 x2 x3 u = some u') : MX (wC cy ad) D cy l yX10_write cX10_write 8 (none) 0 0 0 [.ref (ad 4), .int x1, .int x2, .long x3] u u' none := by
  refine entX (by decide +kernel) (Nat.le_of_ble_eq_true rfl) ?_
  intro p e s m args below meth c ls rr A E hr hlk hl w
  have hl : lv_has ls 8 [(0, .ref (ad 4)), (1, .int x1), (2, .int x2), (3, .long x3)] := hl
  have hx := E.1
  have hb := E.2.1
  have hown := E.2.2.2.1
  have hts := E.2.2.2.2
  refine lv_iload_n hx hb (dq da_X10_write 0 rfl) rfl (lv_at hl 1 rfl) ?_
  refine lv_if_lt (tgt := 12) hx hb (dq da_X10_write 1 rfl) (by decide) (fun c1 => ?_) (fun c1 => ?_)
  · have h := it c1 h
    exact xret_v E hr hlk w (by decide) (os h) (dq da_X10_write 6 rfl)
  · have h := ie c1 h
    refine lv_iload_n hx hb (dq da_X10_write 2 rfl) rfl (lv_at hl 1 rfl) ?_
    refine lv_aload_n hx hb (dq da_X10_write 3 rfl) rfl (lv_at hl 0 rfl) ?_
    refine gt_wC_4_size E w w_57 (dq da_X10_write 4 rfl) ?_
    refine lv_icmp_lt (tgt := 13) hx hb (dq da_X10_write 5 rfl) (by decide) (fun c2 => ?_) (fun c2 => ?_)
    · have h := it c2 h
      refine lv_bipush (v := 8) hx hb (dq da_X10_write 7 rfl) rfl ?_
      refine lv_iload_n hx hb (dq da_X10_write 8 rfl) rfl (lv_at hl 1 rfl) ?_
      refine lv_bipush (v := 7) hx hb (dq da_X10_write 9 rfl) rfl ?_
      refine lv_iand hx hb (dq da_X10_write 10 rfl) ?_
      refine lv_imul hx hb (dq da_X10_write 11 rfl) ?_
      refine lv_istore (lv' := [(5, .int ((8 : Int32) * (x1 &&& (7 : Int32)))), (0, .ref (ad 4)), (1, .int x1), (2, .int x2), (3, .long x3)]) hx hb (dq da_X10_write 12 rfl) hl (by decide) rfl (fun ls hl => ?_)
      refine lv_ldc2 hx hb hown (hts _ w_363) (dq da_X10_write 13 rfl) ?_
      refine lv_bipush (v := 64) hx hb (dq da_X10_write 14 rfl) rfl ?_
      refine lv_bipush (v := 8) hx hb (dq da_X10_write 15 rfl) rfl ?_
      refine lv_iload_n hx hb (dq da_X10_write 16 rfl) rfl (lv_at hl 3 rfl) ?_
      refine lv_imul hx hb (dq da_X10_write 17 rfl) ?_
      refine lv_isub hx hb (dq da_X10_write 18 rfl) ?_
      refine lv_lushr (v := (j_lushr (-1 : Int64) ((64 : Int32) - ((8 : Int32) * x2)))) hx hb (dq da_X10_write 19 rfl) rfl ?_
      refine lv_iload hx hb (dq da_X10_write 20 rfl) (lv_at hl 0 rfl) ?_
      refine lv_lshl (v := (j_lshl (j_lushr (-1 : Int64) ((64 : Int32) - ((8 : Int32) * x2))) ((8 : Int32) * (x1 &&& (7 : Int32))))) hx hb (dq da_X10_write 21 rfl) rfl ?_
      refine lv_lstore (lv' := [(6, .long (j_lshl (j_lushr (-1 : Int64) ((64 : Int32) - ((8 : Int32) * x2))) ((8 : Int32) * (x1 &&& (7 : Int32))))), (5, .int ((8 : Int32) * (x1 &&& (7 : Int32)))), (0, .ref (ad 4)), (1, .int x1), (2, .int x2), (3, .long x3)]) hx hb (dq da_X10_write 22 rfl) hl (by decide) rfl (fun ls hl => ?_)
      refine lv_aload_n hx hb (dq da_X10_write 23 rfl) rfl (lv_at hl 2 rfl) ?_
      refine gt_wC_4_words E w w_59 (dq da_X10_write 24 rfl) ?_
      refine lv_iload_n hx hb (dq da_X10_write 25 rfl) rfl (lv_at hl 3 rfl) ?_
      refine lv_iconst (v := 3) hx hb (dq da_X10_write 26 rfl) rfl ?_
      refine lv_ishr hx hb (dq da_X10_write 27 rfl) ?_
      refine lv_aload_n hx hb (dq da_X10_write 28 rfl) rfl (lv_at hl 2 rfl) ?_
      refine gt_wC_4_words E w w_59 (dq da_X10_write 29 rfl) ?_
      refine lv_iload_n hx hb (dq da_X10_write 30 rfl) rfl (lv_at hl 3 rfl) ?_
      refine lv_iconst (v := 3) hx hb (dq da_X10_write 31 rfl) rfl ?_
      refine lv_ishr hx hb (dq da_X10_write 32 rfl) ?_
      obtain ⟨hi3, h⟩ := oi h
      refine ald_wC_5 E w hi3 (dq da_X10_write 33 rfl) ?_
      refine lv_lload hx hb (dq da_X10_write 34 rfl) (lv_at hl 0 rfl) ?_
      refine lv_ldc2 hx hb hown (hts _ w_363) (dq da_X10_write 35 rfl) ?_
      refine lv_lxor hx hb (dq da_X10_write 36 rfl) ?_
      refine lv_land hx hb (dq da_X10_write 37 rfl) ?_
      refine lv_lload_n hx hb (dq da_X10_write 38 rfl) rfl (lv_at hl 5 rfl) ?_
      refine lv_iload hx hb (dq da_X10_write 39 rfl) (lv_at hl 1 rfl) ?_
      refine lv_lshl (v := (j_lshl x3 ((8 : Int32) * (x1 &&& (7 : Int32))))) hx hb (dq da_X10_write 40 rfl) rfl ?_
      refine lv_lload hx hb (dq da_X10_write 41 rfl) (lv_at hl 0 rfl) ?_
      refine lv_land hx hb (dq da_X10_write 42 rfl) ?_
      refine lv_lor hx hb (dq da_X10_write 43 rfl) ?_
      obtain ⟨hi4, h⟩ := oi h
      refine ast_wC_5 E w hi4 (dq da_X10_write 44 rfl) (fun H locs w => ?_)
      exact xret_v E hr hlk w (by decide) (os h) (dq da_X10_write 45 rfl)
    · have h := ie c2 h
      exact xret_v E hr hlk w (by decide) (os h) (dq da_X10_write 6 rfl)
def dl_X10_zero : List (Nat × Instr × Nat) := [(0, .iload_n 1, 1), (1, .istore_n 3, 1), (2, .iload_n 3, 1), (3, .iload_n 2, 1), (4, .if_icmp .ge 42, 3), (7, .iload_n 3, 1), (8, .bipush 7, 2), (10, .iand, 1), (11, .ifCond .ne 16, 3), (14, .iload_n 2, 1), (15, .iload_n 3, 1), (16, .isub, 1), (17, .bipush 8, 2), (19, .if_icmp .lt 8, 3), (22, .bipush 8, 2), (24, .goto 4, 3), (27, .iconst 1, 1), (28, .istore 4, 2), (30, .aload_n 0, 1), (31, .iload_n 3, 1), (32, .iload 4, 2), (34, .lconst 0, 1), (35, .invokevirtual 23, 3), (38, .iload_n 3, 1), (39, .iload 4, 2), (41, .iadd, 1), (42, .istore_n 3, 1), (43, .goto (-41), 3), (46, .return_, 1)]
theorem da_X10_zero : dkL cX10_zero dl_X10_zero = true := by decide +kernel
def f_X10_zero_b28 (k2 : Int32 → Int32 → St → Option (St)) (x2 : Int32) (x3 : Int32) (s0 : Int32) (u : St) : Option (St) := (f_X10_write x3 s0 (0 : Int64) u).bind (fun y3 => k2 x2 (x3 + s0) y3)
set_option maxRecDepth 100000 in
set_option maxHeartbeats 4000000 in
theorem b_X10_zero_b28 {p : Program} {l : Launch} {e : Env} {s : State} {m : MethodId} {args : Array Value} {below : List Frame} {meth : Method} {c : Code} {D : va_G} {cy : ClassId × ClassId × ClassId} {ad : Nat → Nat} {A : Nat → Prop} (E : CallFix p m c cX10_zero 5 s args gw RX10) (hr : meth.sig.returnType = none) (hlk : meth.locks = false) {k2 : Int32 → Int32 → St → Option (St)} (hk2 : ∀ (x2 : Int32) (x3 : Int32) (u : St) (u' : St), k2 x2 x3 u = some u' → ∀ (ls : Array Slot) (H : Heap) (locs : List Loc) (rr : Nat → Nat), lv_has ls 5 [(0, .ref (ad 4)), (2, .int x2), (3, .int x3)] → WX (wC cy ad) D cy rr u A s H locs → Wx (wC cy ad) D p l e 1 27 0 s m args below meth c A u' none H locs 0 2 ls []) {x2 : Int32} {x3 : Int32} {s0 : Int32} {u : St} {u' : St} (h : f_X10_zero_b28 k2 x2 x3 s0 u = some u') {ls : Array Slot} {H : Heap} {locs : List Loc} {rr : Nat → Nat} (hl : lv_has ls 5 [(0, .ref (ad 4)), (2, .int x2), (3, .int x3)]) (w : WX (wC cy ad) D cy rr u A s H locs) : Wx (wC cy ad) D p l e 1 27 0 s m args below meth c A u' none H locs 0 28 ls [.int s0] := by
  have hx := E.1
  have hb := E.2.1
  have hown := E.2.2.2.1
  have hts := E.2.2.2.2
  refine lv_istore (lv' := [(4, .int s0), (0, .ref (ad 4)), (2, .int x2), (3, .int x3)]) hx hb (dq da_X10_zero 17 rfl) hl (by decide) rfl (fun ls hl => ?_)
  refine lv_aload_n hx hb (dq da_X10_zero 18 rfl) rfl (lv_at hl 1 rfl) ?_
  refine lv_iload_n hx hb (dq da_X10_zero 19 rfl) rfl (lv_at hl 3 rfl) ?_
  refine lv_iload hx hb (dq da_X10_zero 20 rfl) (lv_at hl 0 rfl) ?_
  refine lv_lconst (v := 0) hx hb (dq da_X10_zero 21 rfl) rfl ?_
  obtain ⟨y3, hy4, h⟩ := ob h
  refine cV0 E (c_X10_write l D cy ad _ _ _ _ hy4) w_368 w_360 w_361 w_4 w_362 rfl hd_X10_write rfl hl.1 rfl (Nat.le_of_ble_eq_true rfl) ⟨Nat.le_of_ble_eq_true rfl, Nat.le_of_ble_eq_true rfl⟩ (by decide) w (rc_wC_4 w) (dq da_X10_zero 22 rfl) (fun H locs rr w => ?_)
  refine lv_iload_n hx hb (dq da_X10_zero 23 rfl) rfl (lv_at hl 3 rfl) ?_
  refine lv_iload hx hb (dq da_X10_zero 24 rfl) (lv_at hl 0 rfl) ?_
  refine lv_iadd hx hb (dq da_X10_zero 25 rfl) ?_
  refine lv_istore_n (lv' := [(3, .int (x3 + s0)), (4, .int s0), (0, .ref (ad 4)), (2, .int x2)]) hx hb (dq da_X10_zero 26 rfl) rfl hl (by decide) rfl (fun ls hl => ?_)
  refine lv_goto (tgt := 2) hx hb (dq da_X10_zero 27 rfl) (by decide) ?_
  exact hk2 _ _ _ _ h ls _ _ _ (lv_sub hl [2, 3, 0] rfl) w
def f_X10_zero_b27 (k2 : Int32 → Int32 → St → Option (St)) (x2 : Int32) (x3 : Int32) (u : St) : Option (St) := f_X10_zero_b28 k2 x2 x3 (1 : Int32) u
set_option maxRecDepth 100000 in
set_option maxHeartbeats 4000000 in
theorem b_X10_zero_b27 {p : Program} {l : Launch} {e : Env} {s : State} {m : MethodId} {args : Array Value} {below : List Frame} {meth : Method} {c : Code} {D : va_G} {cy : ClassId × ClassId × ClassId} {ad : Nat → Nat} {A : Nat → Prop} (E : CallFix p m c cX10_zero 5 s args gw RX10) (hr : meth.sig.returnType = none) (hlk : meth.locks = false) {k2 : Int32 → Int32 → St → Option (St)} (hk2 : ∀ (x2 : Int32) (x3 : Int32) (u : St) (u' : St), k2 x2 x3 u = some u' → ∀ (ls : Array Slot) (H : Heap) (locs : List Loc) (rr : Nat → Nat), lv_has ls 5 [(0, .ref (ad 4)), (2, .int x2), (3, .int x3)] → WX (wC cy ad) D cy rr u A s H locs → Wx (wC cy ad) D p l e 1 27 0 s m args below meth c A u' none H locs 0 2 ls []) {x2 : Int32} {x3 : Int32} {u : St} {u' : St} (h : f_X10_zero_b27 k2 x2 x3 u = some u') {ls : Array Slot} {H : Heap} {locs : List Loc} {rr : Nat → Nat} (hl : lv_has ls 5 [(0, .ref (ad 4)), (2, .int x2), (3, .int x3)]) (w : WX (wC cy ad) D cy rr u A s H locs) : Wx (wC cy ad) D p l e 1 27 0 s m args below meth c A u' none H locs 0 27 ls [] := by
  have hx := E.1
  have hb := E.2.1
  have hown := E.2.2.2.1
  have hts := E.2.2.2.2
  refine lv_iconst (v := 1) hx hb (dq da_X10_zero 16 rfl) rfl ?_
  exact b_X10_zero_b28 E hr hlk hk2 h (lv_sub hl [0, 1, 2] rfl) w
def f_X10_zero_b2_s (k2 : Int32 → Int32 → St → Option (St)) (x2 : Int32) (x3 : Int32) (u : St) : Option (St) := if x2 ≤ x3 then (some u) else (if (x3 &&& (7 : Int32)) = (0 : Int32) then (if (x2 - x3) < (8 : Int32) then (f_X10_zero_b27 k2 x2 x3 u) else (f_X10_zero_b28 k2 x2 x3 (8 : Int32) u)) else (f_X10_zero_b27 k2 x2 x3 u))
set_option maxRecDepth 100000 in
set_option maxHeartbeats 4000000 in
theorem b_X10_zero_b2_s {p : Program} {l : Launch} {e : Env} {s : State} {m : MethodId} {args : Array Value} {below : List Frame} {meth : Method} {c : Code} {D : va_G} {cy : ClassId × ClassId × ClassId} {ad : Nat → Nat} {A : Nat → Prop} (E : CallFix p m c cX10_zero 5 s args gw RX10) (hr : meth.sig.returnType = none) (hlk : meth.locks = false) {k2 : Int32 → Int32 → St → Option (St)} (hk2 : ∀ (x2 : Int32) (x3 : Int32) (u : St) (u' : St), k2 x2 x3 u = some u' → ∀ (ls : Array Slot) (H : Heap) (locs : List Loc) (rr : Nat → Nat), lv_has ls 5 [(0, .ref (ad 4)), (2, .int x2), (3, .int x3)] → WX (wC cy ad) D cy rr u A s H locs → Wx (wC cy ad) D p l e 1 27 0 s m args below meth c A u' none H locs 0 2 ls []) {x2 : Int32} {x3 : Int32} {u : St} {u' : St} (h : f_X10_zero_b2_s k2 x2 x3 u = some u') {ls : Array Slot} {H : Heap} {locs : List Loc} {rr : Nat → Nat} (hl : lv_has ls 5 [(0, .ref (ad 4)), (2, .int x2), (3, .int x3)]) (w : WX (wC cy ad) D cy rr u A s H locs) : Wx (wC cy ad) D p l e 1 27 0 s m args below meth c A u' none H locs 0 2 ls [] := by
  have hx := E.1
  have hb := E.2.1
  have hown := E.2.2.2.1
  have hts := E.2.2.2.2
  refine lv_iload_n hx hb (dq da_X10_zero 2 rfl) rfl (lv_at hl 2 rfl) ?_
  refine lv_iload_n hx hb (dq da_X10_zero 3 rfl) rfl (lv_at hl 1 rfl) ?_
  refine lv_icmp_ge (tgt := 46) hx hb (dq da_X10_zero 4 rfl) (by decide) (fun c1 => ?_) (fun c1 => ?_)
  · have h := it c1 h
    exact xret_v E hr hlk w (by decide) (os h) (dq da_X10_zero 28 rfl)
  · have h := ie c1 h
    refine lv_iload_n hx hb (dq da_X10_zero 5 rfl) rfl (lv_at hl 2 rfl) ?_
    refine lv_bipush (v := 7) hx hb (dq da_X10_zero 6 rfl) rfl ?_
    refine lv_iand hx hb (dq da_X10_zero 7 rfl) ?_
    refine lv_if_ne (tgt := 27) hx hb (dq da_X10_zero 8 rfl) (by decide) (fun c2 => ?_) (fun c2 => ?_)
    · have h := ie c2 h
      exact b_X10_zero_b27 E hr hlk hk2 h (lv_sub hl [0, 1, 2] rfl) w
    · have h := it c2 h
      refine lv_iload_n hx hb (dq da_X10_zero 9 rfl) rfl (lv_at hl 1 rfl) ?_
      refine lv_iload_n hx hb (dq da_X10_zero 10 rfl) rfl (lv_at hl 2 rfl) ?_
      refine lv_isub hx hb (dq da_X10_zero 11 rfl) ?_
      refine lv_bipush (v := 8) hx hb (dq da_X10_zero 12 rfl) rfl ?_
      refine lv_icmp_lt (tgt := 27) hx hb (dq da_X10_zero 13 rfl) (by decide) (fun c5 => ?_) (fun c5 => ?_)
      · have h := it c5 h
        exact b_X10_zero_b27 E hr hlk hk2 h (lv_sub hl [0, 1, 2] rfl) w
      · have h := ie c5 h
        refine lv_bipush (v := 8) hx hb (dq da_X10_zero 14 rfl) rfl ?_
        refine lv_goto (tgt := 28) hx hb (dq da_X10_zero 15 rfl) (by decide) ?_
        exact b_X10_zero_b28 E hr hlk hk2 h (lv_sub hl [0, 1, 2] rfl) w
def f_X10_zero_b2 : Nat → Int32 → Int32 → St → Option (St)
  | 0 => fun _ _ _ => none
  | n + 1 => f_X10_zero_b2_s (f_X10_zero_b2 n)
theorem b_X10_zero_b2 {p : Program} {l : Launch} {e : Env} {s : State} {m : MethodId} {args : Array Value} {below : List Frame} {meth : Method} {c : Code} {D : va_G} {cy : ClassId × ClassId × ClassId} {ad : Nat → Nat} {A : Nat → Prop} (E : CallFix p m c cX10_zero 5 s args gw RX10) (hr : meth.sig.returnType = none) (hlk : meth.locks = false) : ∀ n : Nat, ∀ (x2 : Int32) (x3 : Int32) (u : St) (u' : St), f_X10_zero_b2 n x2 x3 u = some u' → ∀ (ls : Array Slot) (H : Heap) (locs : List Loc) (rr : Nat → Nat), lv_has ls 5 [(0, .ref (ad 4)), (2, .int x2), (3, .int x3)] → WX (wC cy ad) D cy rr u A s H locs → Wx (wC cy ad) D p l e 1 27 0 s m args below meth c A u' none H locs 0 2 ls [] := by
  intro n
  induction n with
  | zero => intro x2 x3 u u' h; cases h
  | succ n ih => intro x2 x3 u u' h ls H locs rr hl w; exact b_X10_zero_b2_s E hr hlk ih h hl w
def f_X10_zero (x1 : Int32) (x2 : Int32) (u : St) : Option (St) := f_X10_zero_b2 FU x2 x1 u
set_option maxRecDepth 100000 in
set_option maxHeartbeats 4000000 in
theorem c_X10_zero (l : Launch) (D : va_G) (cy : ClassId × ClassId × ClassId) (ad : Nat → Nat) (x1 : Int32) (x2 : Int32) (u : St) {u' : St} (h : f_X10_zero x1 x2 u = some u') : MX (wC cy ad) D cy l yX10_zero cX10_zero 5 (none) 1 27 0 [.ref (ad 4), .int x1, .int x2] u u' none := by
  refine entX (by decide +kernel) (Nat.le_of_ble_eq_true rfl) ?_
  intro p e s m args below meth c ls rr A E hr hlk hl w
  have hl : lv_has ls 5 [(0, .ref (ad 4)), (1, .int x1), (2, .int x2)] := hl
  have hx := E.1
  have hb := E.2.1
  have hown := E.2.2.2.1
  have hts := E.2.2.2.2
  refine lv_iload_n hx hb (dq da_X10_zero 0 rfl) rfl (lv_at hl 1 rfl) ?_
  refine lv_istore_n (lv' := [(3, .int x1), (0, .ref (ad 4)), (1, .int x1), (2, .int x2)]) hx hb (dq da_X10_zero 1 rfl) rfl hl (by decide) rfl (fun ls hl => ?_)
  exact b_X10_zero_b2 E hr hlk FU _ _ _ _ h ls _ _ _ (lv_sub hl [1, 3, 0] rfl) w
def dl_X3_claim : List (Nat × Instr × Nat) := [(0, .iconst 0, 1), (1, .istore_n 2, 1), (2, .iconst 0, 1), (3, .istore_n 3, 1), (4, .iconst 1, 1), (5, .istore 4, 2), (7, .iload 4, 2), (9, .bipush 7, 2), (11, .if_icmp .gt 45, 3), (14, .aload_n 0, 1), (15, .getfield 39, 3), (18, .iload_n 1, 1), (19, .iand, 1), (20, .iload 4, 2), (22, .ishr, 1), (23, .iconst 1, 1), (24, .iand, 1), (25, .ifCond .eq 25, 3), (28, .aload_n 0, 1), (29, .getfield 9, 3), (32, .iload 4, 2), (34, .iaload, 1), (35, .iload_n 3, 1), (36, .if_icmp .le 14, 3), (39, .iload 4, 2), (41, .istore_n 2, 1), (42, .aload_n 0, 1), (43, .getfield 9, 3), (46, .iload 4, 2), (48, .iaload, 1), (49, .istore_n 3, 1), (50, .iinc 4 1, 3), (53, .goto (-46), 3), (56, .iload_n 2, 1), (57, .ifCond .eq 29, 3), (60, .aload_n 0, 1), (61, .dup, 1), (62, .getfield 39, 3), (65, .iconst 1, 1), (66, .iload_n 2, 1), (67, .ishl, 1), (68, .iconst (-1), 1), (69, .ixor, 1), (70, .iand, 1), (71, .putfield 39, 3), (74, .aload_n 0, 1), (75, .dup, 1), (76, .getfield 51, 3), (79, .iconst 1, 1), (80, .iload_n 2, 1), (81, .ishl, 1), (82, .ior, 1), (83, .putfield 51, 3), (86, .iload_n 2, 1), (87, .ireturn, 1)]
theorem da_X3_claim : dkL cX3_claim dl_X3_claim = true := by decide +kernel
def f_X3_claim_b86 (x2 : Int32) (u : St) : Option (Int32 × St) := some (x2, u)
set_option maxRecDepth 100000 in
set_option maxHeartbeats 4000000 in
theorem b_X3_claim_b86 {p : Program} {l : Launch} {e : Env} {s : State} {m : MethodId} {args : Array Value} {below : List Frame} {meth : Method} {c : Code} {D : va_G} {cy : ClassId × ClassId × ClassId} {ad : Nat → Nat} {A : Nat → Prop} (E : CallFix p m c cX3_claim 5 s args gw RX3) (hr : meth.sig.returnType = some .int) (hlk : meth.locks = false) {x2 : Int32} {u : St} {r : Int32} {u' : St} (h : f_X3_claim_b86 x2 u = some (r, u')) {ls : Array Slot} {H : Heap} {locs : List Loc} {rr : Nat → Nat} (hl : lv_has ls 5 [(2, .int x2)]) (w : WX (wC cy ad) D cy rr u A s H locs) : Wx (wC cy ad) D p l e 0 0 0 s m args below meth c A u' (some (.int r)) H locs 0 86 ls [] := by
  have hx := E.1
  have hb := E.2.1
  have hown := E.2.2.2.1
  have hts := E.2.2.2.2
  refine lv_iload_n hx hb (dq da_X3_claim 53 rfl) rfl (lv_at hl 0 rfl) ?_
  exact xret_i E hr hlk w (by decide) (congrArg Prod.fst (os h)) (congrArg Prod.snd (os h)) (dq da_X3_claim 54 rfl)
def f_X3_claim_b50 (k7 : Int32 → Int32 → Int32 → Int32 → St → Option (Int32 × St)) (x1 : Int32) (x2 : Int32) (x3 : Int32) (x4 : Int32) (u : St) : Option (Int32 × St) := k7 x1 x2 x3 (x4 + (1 : Int32)) u
set_option maxRecDepth 100000 in
set_option maxHeartbeats 4000000 in
theorem b_X3_claim_b50 {p : Program} {l : Launch} {e : Env} {s : State} {m : MethodId} {args : Array Value} {below : List Frame} {meth : Method} {c : Code} {D : va_G} {cy : ClassId × ClassId × ClassId} {ad : Nat → Nat} {A : Nat → Prop} (E : CallFix p m c cX3_claim 5 s args gw RX3) (hr : meth.sig.returnType = some .int) (hlk : meth.locks = false) {k7 : Int32 → Int32 → Int32 → Int32 → St → Option (Int32 × St)} (hk7 : ∀ (x1 : Int32) (x2 : Int32) (x3 : Int32) (x4 : Int32) (u : St) (r : Int32) (u' : St), k7 x1 x2 x3 x4 u = some (r, u') → ∀ (ls : Array Slot) (H : Heap) (locs : List Loc) (rr : Nat → Nat), lv_has ls 5 [(0, .ref (ad 6)), (1, .int x1), (2, .int x2), (3, .int x3), (4, .int x4)] → WX (wC cy ad) D cy rr u A s H locs → Wx (wC cy ad) D p l e 0 0 0 s m args below meth c A u' (some (.int r)) H locs 0 7 ls []) {x1 : Int32} {x2 : Int32} {x3 : Int32} {x4 : Int32} {u : St} {r : Int32} {u' : St} (h : f_X3_claim_b50 k7 x1 x2 x3 x4 u = some (r, u')) {ls : Array Slot} {H : Heap} {locs : List Loc} {rr : Nat → Nat} (hl : lv_has ls 5 [(0, .ref (ad 6)), (1, .int x1), (2, .int x2), (3, .int x3), (4, .int x4)]) (w : WX (wC cy ad) D cy rr u A s H locs) : Wx (wC cy ad) D p l e 0 0 0 s m args below meth c A u' (some (.int r)) H locs 0 50 ls [] := by
  have hx := E.1
  have hb := E.2.1
  have hown := E.2.2.2.1
  have hts := E.2.2.2.2
  refine lv_iinc (v := (x4 + (1 : Int32))) (lv' := [(4, .int (x4 + (1 : Int32))), (0, .ref (ad 6)), (1, .int x1), (2, .int x2), (3, .int x3)]) hx hb (dq da_X3_claim 31 rfl) hl (k := 4) rfl rfl (by decide) rfl (fun ls hl => ?_)
  refine lv_goto (tgt := 7) hx hb (dq da_X3_claim 32 rfl) (by decide) ?_
  exact hk7 _ _ _ _ _ _ _ h ls _ _ _ (lv_sub hl [1, 2, 3, 4, 0] rfl) w
def f_X3_claim_b7_s (k7 : Int32 → Int32 → Int32 → Int32 → St → Option (Int32 × St)) (x1 : Int32) (x2 : Int32) (x3 : Int32) (x4 : Int32) (u : St) : Option (Int32 × St) := if (7 : Int32) < x4 then (if x2 = (0 : Int32) then (f_X3_claim_b86 x2 u) else (f_X3_claim_b86 x2 (sI (sI u 7 ((gI u 7) &&& (((1 : Int32) <<< (x2 &&& 31)) ^^^ (-1 : Int32)))) 8 ((gI (sI u 7 ((gI u 7) &&& (((1 : Int32) <<< (x2 &&& 31)) ^^^ (-1 : Int32)))) 8) ||| ((1 : Int32) <<< (x2 &&& 31)))))) else (if ((((gI u 7) &&& x1) >>> (x4 &&& 31)) &&& (1 : Int32)) = (0 : Int32) then (f_X3_claim_b50 k7 x1 x2 x3 x4 u) else (if inB x4 (gN u 2) then (if (gA u 1 x4.toNatClampNeg) ≤ x3 then (f_X3_claim_b50 k7 x1 x2 x3 x4 u) else (if inB x4 (gN u 2) then (f_X3_claim_b50 k7 x1 x4 (gA u 1 x4.toNatClampNeg) x4 u) else none)) else none))
set_option maxRecDepth 100000 in
set_option maxHeartbeats 4000000 in
theorem b_X3_claim_b7_s {p : Program} {l : Launch} {e : Env} {s : State} {m : MethodId} {args : Array Value} {below : List Frame} {meth : Method} {c : Code} {D : va_G} {cy : ClassId × ClassId × ClassId} {ad : Nat → Nat} {A : Nat → Prop} (E : CallFix p m c cX3_claim 5 s args gw RX3) (hr : meth.sig.returnType = some .int) (hlk : meth.locks = false) {k7 : Int32 → Int32 → Int32 → Int32 → St → Option (Int32 × St)} (hk7 : ∀ (x1 : Int32) (x2 : Int32) (x3 : Int32) (x4 : Int32) (u : St) (r : Int32) (u' : St), k7 x1 x2 x3 x4 u = some (r, u') → ∀ (ls : Array Slot) (H : Heap) (locs : List Loc) (rr : Nat → Nat), lv_has ls 5 [(0, .ref (ad 6)), (1, .int x1), (2, .int x2), (3, .int x3), (4, .int x4)] → WX (wC cy ad) D cy rr u A s H locs → Wx (wC cy ad) D p l e 0 0 0 s m args below meth c A u' (some (.int r)) H locs 0 7 ls []) {x1 : Int32} {x2 : Int32} {x3 : Int32} {x4 : Int32} {u : St} {r : Int32} {u' : St} (h : f_X3_claim_b7_s k7 x1 x2 x3 x4 u = some (r, u')) {ls : Array Slot} {H : Heap} {locs : List Loc} {rr : Nat → Nat} (hl : lv_has ls 5 [(0, .ref (ad 6)), (1, .int x1), (2, .int x2), (3, .int x3), (4, .int x4)]) (w : WX (wC cy ad) D cy rr u A s H locs) : Wx (wC cy ad) D p l e 0 0 0 s m args below meth c A u' (some (.int r)) H locs 0 7 ls [] := by
  have hx := E.1
  have hb := E.2.1
  have hown := E.2.2.2.1
  have hts := E.2.2.2.2
  refine lv_iload hx hb (dq da_X3_claim 6 rfl) (lv_at hl 4 rfl) ?_
  refine lv_bipush (v := 7) hx hb (dq da_X3_claim 7 rfl) rfl ?_
  refine lv_icmp_gt (tgt := 56) hx hb (dq da_X3_claim 8 rfl) (by decide) (fun c1 => ?_) (fun c1 => ?_)
  · have h := it c1 h
    refine lv_iload_n hx hb (dq da_X3_claim 33 rfl) rfl (lv_at hl 2 rfl) ?_
    refine lv_if_eq (tgt := 86) hx hb (dq da_X3_claim 34 rfl) (by decide) (fun c2 => ?_) (fun c2 => ?_)
    · have h := it c2 h
      exact b_X3_claim_b86 E hr hlk h (lv_sub hl [2] rfl) w
    · have h := ie c2 h
      refine lv_aload_n hx hb (dq da_X3_claim 35 rfl) rfl (lv_at hl 0 rfl) ?_
      refine lv_dup hx hb (dq da_X3_claim 36 rfl) rfl ?_
      refine gt_wC_6_pending E w w_80 (dq da_X3_claim 37 rfl) ?_
      refine lv_iconst (v := 1) hx hb (dq da_X3_claim 38 rfl) rfl ?_
      refine lv_iload_n hx hb (dq da_X3_claim 39 rfl) rfl (lv_at hl 2 rfl) ?_
      refine lv_ishl hx hb (dq da_X3_claim 40 rfl) ?_
      refine lv_iconst (v := (-1)) hx hb (dq da_X3_claim 41 rfl) rfl ?_
      refine lv_ixor hx hb (dq da_X3_claim 42 rfl) ?_
      refine lv_iand hx hb (dq da_X3_claim 43 rfl) ?_
      refine pt_wC_6_pending E w w_80 (dq da_X3_claim 44 rfl) (fun H locs w => ?_)
      refine lv_aload_n hx hb (dq da_X3_claim 45 rfl) rfl (lv_at hl 0 rfl) ?_
      refine lv_dup hx hb (dq da_X3_claim 46 rfl) rfl ?_
      refine gt_wC_6_claimed E w w_82 (dq da_X3_claim 47 rfl) ?_
      refine lv_iconst (v := 1) hx hb (dq da_X3_claim 48 rfl) rfl ?_
      refine lv_iload_n hx hb (dq da_X3_claim 49 rfl) rfl (lv_at hl 2 rfl) ?_
      refine lv_ishl hx hb (dq da_X3_claim 50 rfl) ?_
      refine lv_ior hx hb (dq da_X3_claim 51 rfl) ?_
      refine pt_wC_6_claimed E w w_82 (dq da_X3_claim 52 rfl) (fun H locs w => ?_)
      exact b_X3_claim_b86 E hr hlk h (lv_sub hl [2] rfl) w
  · have h := ie c1 h
    refine lv_aload_n hx hb (dq da_X3_claim 9 rfl) rfl (lv_at hl 0 rfl) ?_
    refine gt_wC_6_pending E w w_80 (dq da_X3_claim 10 rfl) ?_
    refine lv_iload_n hx hb (dq da_X3_claim 11 rfl) rfl (lv_at hl 1 rfl) ?_
    refine lv_iand hx hb (dq da_X3_claim 12 rfl) ?_
    refine lv_iload hx hb (dq da_X3_claim 13 rfl) (lv_at hl 4 rfl) ?_
    refine lv_ishr hx hb (dq da_X3_claim 14 rfl) ?_
    refine lv_iconst (v := 1) hx hb (dq da_X3_claim 15 rfl) rfl ?_
    refine lv_iand hx hb (dq da_X3_claim 16 rfl) ?_
    refine lv_if_eq (tgt := 50) hx hb (dq da_X3_claim 17 rfl) (by decide) (fun c3 => ?_) (fun c3 => ?_)
    · have h := it c3 h
      exact b_X3_claim_b50 E hr hlk hk7 h (lv_sub hl [0, 1, 2, 3, 4] rfl) w
    · have h := ie c3 h
      refine lv_aload_n hx hb (dq da_X3_claim 18 rfl) rfl (lv_at hl 0 rfl) ?_
      refine gt_wC_6_priority E w w_76 (dq da_X3_claim 19 rfl) ?_
      refine lv_iload hx hb (dq da_X3_claim 20 rfl) (lv_at hl 4 rfl) ?_
      obtain ⟨hi4, h⟩ := oi h
      refine ald_wC_7 E w hi4 (dq da_X3_claim 21 rfl) ?_
      refine lv_iload_n hx hb (dq da_X3_claim 22 rfl) rfl (lv_at hl 3 rfl) ?_
      refine lv_icmp_le (tgt := 50) hx hb (dq da_X3_claim 23 rfl) (by decide) (fun c5 => ?_) (fun c5 => ?_)
      · have h := it c5 h
        exact b_X3_claim_b50 E hr hlk hk7 h (lv_sub hl [0, 1, 2, 3, 4] rfl) w
      · have h := ie c5 h
        refine lv_iload hx hb (dq da_X3_claim 24 rfl) (lv_at hl 4 rfl) ?_
        refine lv_istore_n (lv' := [(2, .int x4), (0, .ref (ad 6)), (1, .int x1), (3, .int x3), (4, .int x4)]) hx hb (dq da_X3_claim 25 rfl) rfl hl (by decide) rfl (fun ls hl => ?_)
        refine lv_aload_n hx hb (dq da_X3_claim 26 rfl) rfl (lv_at hl 1 rfl) ?_
        refine gt_wC_6_priority E w w_76 (dq da_X3_claim 27 rfl) ?_
        refine lv_iload hx hb (dq da_X3_claim 28 rfl) (lv_at hl 4 rfl) ?_
        obtain ⟨hi6, h⟩ := oi h
        refine ald_wC_7 E w hi6 (dq da_X3_claim 29 rfl) ?_
        refine lv_istore_n (lv' := [(3, .int (gA u 1 x4.toNatClampNeg)), (2, .int x4), (0, .ref (ad 6)), (1, .int x1), (4, .int x4)]) hx hb (dq da_X3_claim 30 rfl) rfl hl (by decide) rfl (fun ls hl => ?_)
        exact b_X3_claim_b50 E hr hlk hk7 h (lv_sub hl [2, 3, 1, 0, 4] rfl) w
def f_X3_claim_b7 : Nat → Int32 → Int32 → Int32 → Int32 → St → Option (Int32 × St)
  | 0 => fun _ _ _ _ _ => none
  | n + 1 => f_X3_claim_b7_s (f_X3_claim_b7 n)
theorem b_X3_claim_b7 {p : Program} {l : Launch} {e : Env} {s : State} {m : MethodId} {args : Array Value} {below : List Frame} {meth : Method} {c : Code} {D : va_G} {cy : ClassId × ClassId × ClassId} {ad : Nat → Nat} {A : Nat → Prop} (E : CallFix p m c cX3_claim 5 s args gw RX3) (hr : meth.sig.returnType = some .int) (hlk : meth.locks = false) : ∀ n : Nat, ∀ (x1 : Int32) (x2 : Int32) (x3 : Int32) (x4 : Int32) (u : St) (r : Int32) (u' : St), f_X3_claim_b7 n x1 x2 x3 x4 u = some (r, u') → ∀ (ls : Array Slot) (H : Heap) (locs : List Loc) (rr : Nat → Nat), lv_has ls 5 [(0, .ref (ad 6)), (1, .int x1), (2, .int x2), (3, .int x3), (4, .int x4)] → WX (wC cy ad) D cy rr u A s H locs → Wx (wC cy ad) D p l e 0 0 0 s m args below meth c A u' (some (.int r)) H locs 0 7 ls [] := by
  intro n
  induction n with
  | zero => intro x1 x2 x3 x4 u r u' h; cases h
  | succ n ih => intro x1 x2 x3 x4 u r u' h ls H locs rr hl w; exact b_X3_claim_b7_s E hr hlk ih h hl w
def f_X3_claim (x1 : Int32) (u : St) : Option (Int32 × St) := f_X3_claim_b7 FU x1 (0 : Int32) (0 : Int32) (1 : Int32) u
set_option maxRecDepth 100000 in
set_option maxHeartbeats 4000000 in
theorem c_X3_claim (l : Launch) (D : va_G) (cy : ClassId × ClassId × ClassId) (ad : Nat → Nat) (x1 : Int32) (u : St) {r : Int32} {u' : St} (h : f_X3_claim x1 u = some (r, u')) : MX (wC cy ad) D cy l yX3_claim cX3_claim 5 (some .int) 0 0 0 [.ref (ad 6), .int x1] u u' (some (.int (r))) := by
  refine entX (by decide +kernel) (Nat.le_of_ble_eq_true rfl) ?_
  intro p e s m args below meth c ls rr A E hr hlk hl w
  have hl : lv_has ls 5 [(0, .ref (ad 6)), (1, .int x1)] := hl
  have hx := E.1
  have hb := E.2.1
  have hown := E.2.2.2.1
  have hts := E.2.2.2.2
  refine lv_iconst (v := 0) hx hb (dq da_X3_claim 0 rfl) rfl ?_
  refine lv_istore_n (lv' := [(2, .int (0 : Int32)), (0, .ref (ad 6)), (1, .int x1)]) hx hb (dq da_X3_claim 1 rfl) rfl hl (by decide) rfl (fun ls hl => ?_)
  refine lv_iconst (v := 0) hx hb (dq da_X3_claim 2 rfl) rfl ?_
  refine lv_istore_n (lv' := [(3, .int (0 : Int32)), (2, .int (0 : Int32)), (0, .ref (ad 6)), (1, .int x1)]) hx hb (dq da_X3_claim 3 rfl) rfl hl (by decide) rfl (fun ls hl => ?_)
  refine lv_iconst (v := 1) hx hb (dq da_X3_claim 4 rfl) rfl ?_
  refine lv_istore (lv' := [(4, .int (1 : Int32)), (3, .int (0 : Int32)), (2, .int (0 : Int32)), (0, .ref (ad 6)), (1, .int x1)]) hx hb (dq da_X3_claim 5 rfl) hl (by decide) rfl (fun ls hl => ?_)
  exact b_X3_claim_b7 E hr hlk FU _ _ _ _ _ _ _ h ls _ _ _ (lv_sub hl [3, 4, 2, 1, 0] rfl) w
def dl_X3_complete : List (Nat × Instr × Nat) := [(0, .iload_n 2, 1), (1, .iconst 1, 1), (2, .if_icmp .lt 25, 3), (5, .iload_n 2, 1), (6, .bipush 7, 2), (8, .if_icmp .gt 19, 3), (11, .aload_n 0, 1), (12, .dup, 1), (13, .getfield 51, 3), (16, .iload_n 1, 1), (17, .iconst 1, 1), (18, .iload_n 2, 1), (19, .ishl, 1), (20, .iand, 1), (21, .iconst (-1), 1), (22, .ixor, 1), (23, .iand, 1), (24, .putfield 51, 3), (27, .return_, 1)]
theorem da_X3_complete : dkL cX3_complete dl_X3_complete = true := by decide +kernel
def f_X3_complete (x1 : Int32) (x2 : Int32) (u : St) : St := if x2 < (1 : Int32) then u else (if (7 : Int32) < x2 then u else (sI u 8 ((gI u 8) &&& ((x1 &&& ((1 : Int32) <<< (x2 &&& 31))) ^^^ (-1 : Int32)))))
set_option maxRecDepth 100000 in
set_option maxHeartbeats 4000000 in
theorem c_X3_complete (l : Launch) (D : va_G) (cy : ClassId × ClassId × ClassId) (ad : Nat → Nat) (x1 : Int32) (x2 : Int32) (u : St) : MX (wC cy ad) D cy l yX3_complete cX3_complete 3 (none) 0 0 0 [.ref (ad 6), .int x1, .int x2] u (f_X3_complete x1 x2 u) none := by
  refine entX (by decide +kernel) (Nat.le_of_ble_eq_true rfl) ?_
  intro p e s m args below meth c ls rr A E hr hlk hl w
  have hl : lv_has ls 3 [(0, .ref (ad 6)), (1, .int x1), (2, .int x2)] := hl
  generalize h : f_X3_complete x1 x2 u = u'
  have hx := E.1
  have hb := E.2.1
  have hown := E.2.2.2.1
  have hts := E.2.2.2.2
  refine lv_iload_n hx hb (dq da_X3_complete 0 rfl) rfl (lv_at hl 2 rfl) ?_
  refine lv_iconst (v := 1) hx hb (dq da_X3_complete 1 rfl) rfl ?_
  refine lv_icmp_lt (tgt := 27) hx hb (dq da_X3_complete 2 rfl) (by decide) (fun c1 => ?_) (fun c1 => ?_)
  · have h := it c1 h
    exact xret_v E hr hlk w (by decide) h (dq da_X3_complete 18 rfl)
  · have h := ie c1 h
    refine lv_iload_n hx hb (dq da_X3_complete 3 rfl) rfl (lv_at hl 2 rfl) ?_
    refine lv_bipush (v := 7) hx hb (dq da_X3_complete 4 rfl) rfl ?_
    refine lv_icmp_gt (tgt := 27) hx hb (dq da_X3_complete 5 rfl) (by decide) (fun c2 => ?_) (fun c2 => ?_)
    · have h := it c2 h
      exact xret_v E hr hlk w (by decide) h (dq da_X3_complete 18 rfl)
    · have h := ie c2 h
      refine lv_aload_n hx hb (dq da_X3_complete 6 rfl) rfl (lv_at hl 0 rfl) ?_
      refine lv_dup hx hb (dq da_X3_complete 7 rfl) rfl ?_
      refine gt_wC_6_claimed E w w_82 (dq da_X3_complete 8 rfl) ?_
      refine lv_iload_n hx hb (dq da_X3_complete 9 rfl) rfl (lv_at hl 1 rfl) ?_
      refine lv_iconst (v := 1) hx hb (dq da_X3_complete 10 rfl) rfl ?_
      refine lv_iload_n hx hb (dq da_X3_complete 11 rfl) rfl (lv_at hl 2 rfl) ?_
      refine lv_ishl hx hb (dq da_X3_complete 12 rfl) ?_
      refine lv_iand hx hb (dq da_X3_complete 13 rfl) ?_
      refine lv_iconst (v := (-1)) hx hb (dq da_X3_complete 14 rfl) rfl ?_
      refine lv_ixor hx hb (dq da_X3_complete 15 rfl) ?_
      refine lv_iand hx hb (dq da_X3_complete 16 rfl) ?_
      refine pt_wC_6_claimed E w w_82 (dq da_X3_complete 17 rfl) (fun H locs w => ?_)
      exact xret_v E hr hlk w (by decide) h (dq da_X3_complete 18 rfl)
def dl_X3_read : List (Nat × Instr × Nat) := [(0, .iload_n 1, 1), (1, .lookupswitch 129 #[(4096, 67), (8192, 73), (8320, 81), (2097152, 89), (2097156, 105), (2101248, 97), (2101252, 117)], 67), (68, .aload_n 0, 1), (69, .getfield 39, 3), (72, .i2l, 1), (73, .lreturn, 1), (74, .aload_n 0, 1), (75, .getfield 13, 3), (78, .iconst 0, 1), (79, .iaload, 1), (80, .i2l, 1), (81, .lreturn, 1), (82, .aload_n 0, 1), (83, .getfield 13, 3), (86, .iconst 1, 1), (87, .iaload, 1), (88, .i2l, 1), (89, .lreturn, 1), (90, .aload_n 0, 1), (91, .getfield 16, 3), (94, .iconst 0, 1), (95, .iaload, 1), (96, .i2l, 1), (97, .lreturn, 1), (98, .aload_n 0, 1), (99, .getfield 16, 3), (102, .iconst 1, 1), (103, .iaload, 1), (104, .i2l, 1), (105, .lreturn, 1), (106, .aload_n 0, 1), (107, .aload_n 0, 1), (108, .getfield 13, 3), (111, .iconst 0, 1), (112, .iaload, 1), (113, .invokevirtual 43, 3), (116, .i2l, 1), (117, .lreturn, 1), (118, .aload_n 0, 1), (119, .aload_n 0, 1), (120, .getfield 13, 3), (123, .iconst 1, 1), (124, .iaload, 1), (125, .invokevirtual 43, 3), (128, .i2l, 1), (129, .lreturn, 1), (130, .aload_n 0, 1), (131, .getfield 9, 3), (134, .iload_n 1, 1), (135, .iconst 2, 1), (136, .ishr, 1), (137, .bipush 7, 2), (139, .iand, 1), (140, .iaload, 1), (141, .i2l, 1), (142, .lreturn, 1)]
theorem da_X3_read : dkL cX3_read dl_X3_read = true := by decide +kernel
def f_X3_read (x1 : Int32) (u : St) : Option (Int64 × St) := if x1 = (4096 : Int32) then (some ((gI u 7).toInt64, u)) else if x1 = (8192 : Int32) then (if inB (0 : Int32) (gN u 3) then (some ((gA u 2 (0 : Int32).toNatClampNeg).toInt64, u)) else none) else if x1 = (8320 : Int32) then (if inB (1 : Int32) (gN u 3) then (some ((gA u 2 (1 : Int32).toNatClampNeg).toInt64, u)) else none) else if x1 = (2097152 : Int32) then (if inB (0 : Int32) (gN u 4) then (some ((gA u 3 (0 : Int32).toNatClampNeg).toInt64, u)) else none) else if x1 = (2097156 : Int32) then (if inB (0 : Int32) (gN u 3) then ((f_X3_claim (gA u 2 (0 : Int32).toNatClampNeg) u).bind (fun y10 => some (y10.1.toInt64, y10.2))) else none) else if x1 = (2101248 : Int32) then (if inB (1 : Int32) (gN u 4) then (some ((gA u 3 (1 : Int32).toNatClampNeg).toInt64, u)) else none) else if x1 = (2101252 : Int32) then (if inB (1 : Int32) (gN u 3) then ((f_X3_claim (gA u 2 (1 : Int32).toNatClampNeg) u).bind (fun y16 => some (y16.1.toInt64, y16.2))) else none) else (if inB ((x1 >>> ((2 : Int32) &&& 31)) &&& (7 : Int32)) (gN u 2) then (some ((gA u 1 ((x1 >>> ((2 : Int32) &&& 31)) &&& (7 : Int32)).toNatClampNeg).toInt64, u)) else none)
set_option maxRecDepth 100000 in
set_option maxHeartbeats 4000000 in
theorem c_X3_read (l : Launch) (D : va_G) (cy : ClassId × ClassId × ClassId) (ad : Nat → Nat) (x1 : Int32) (u : St) {r : Int64} {u' : St} (h : f_X3_read x1 u = some (r, u')) : MX (wC cy ad) D cy l yX3_read cX3_read 2 (some .long) 1 24 0 [.ref (ad 6), .int x1] u u' (some (.long (r))) := by
  refine entX (by decide +kernel) (Nat.le_of_ble_eq_true rfl) ?_
  intro p e s m args below meth c ls rr A E hr hlk hl w
  have hl : lv_has ls 2 [(0, .ref (ad 6)), (1, .int x1)] := hl
  have hx := E.1
  have hb := E.2.1
  have hown := E.2.2.2.1
  have hts := E.2.2.2.2
  refine lv_iload_n hx hb (dq da_X3_read 0 rfl) rfl (lv_at hl 1 rfl) ?_
  by_cases c1 : x1 = (4096 : Int32)
  · have h := it c1 h
    refine lv_lookup (off := 67) (tgt := 68) hx hb (dq da_X3_read 1 rfl) (by decide +kernel) (by rw [c1]; decide +kernel) (by decide) ?_
    refine lv_aload_n hx hb (dq da_X3_read 2 rfl) rfl (lv_at hl 0 rfl) ?_
    refine gt_wC_6_pending E w w_80 (dq da_X3_read 3 rfl) ?_
    refine lv_i2l (v := (gI u 7).toInt64) hx hb (dq da_X3_read 4 rfl) rfl ?_
    exact xret_l E hr hlk w (by decide) (congrArg Prod.fst (os h)) (congrArg Prod.snd (os h)) (dq da_X3_read 5 rfl)
  · have h := ie c1 h
    by_cases c2 : x1 = (8192 : Int32)
    · have h := it c2 h
      refine lv_lookup (off := 73) (tgt := 74) hx hb (dq da_X3_read 1 rfl) (by decide +kernel) (by rw [c2]; decide +kernel) (by decide) ?_
      refine lv_aload_n hx hb (dq da_X3_read 6 rfl) rfl (lv_at hl 0 rfl) ?_
      refine gt_wC_6_enabled E w w_77 (dq da_X3_read 7 rfl) ?_
      refine lv_iconst (v := 0) hx hb (dq da_X3_read 8 rfl) rfl ?_
      obtain ⟨hi3, h⟩ := oi h
      refine ald_wC_8 E w hi3 (dq da_X3_read 9 rfl) ?_
      refine lv_i2l (v := (gA u 2 (0 : Int32).toNatClampNeg).toInt64) hx hb (dq da_X3_read 10 rfl) rfl ?_
      exact xret_l E hr hlk w (by decide) (congrArg Prod.fst (os h)) (congrArg Prod.snd (os h)) (dq da_X3_read 11 rfl)
    · have h := ie c2 h
      by_cases c4 : x1 = (8320 : Int32)
      · have h := it c4 h
        refine lv_lookup (off := 81) (tgt := 82) hx hb (dq da_X3_read 1 rfl) (by decide +kernel) (by rw [c4]; decide +kernel) (by decide) ?_
        refine lv_aload_n hx hb (dq da_X3_read 12 rfl) rfl (lv_at hl 0 rfl) ?_
        refine gt_wC_6_enabled E w w_77 (dq da_X3_read 13 rfl) ?_
        refine lv_iconst (v := 1) hx hb (dq da_X3_read 14 rfl) rfl ?_
        obtain ⟨hi5, h⟩ := oi h
        refine ald_wC_8 E w hi5 (dq da_X3_read 15 rfl) ?_
        refine lv_i2l (v := (gA u 2 (1 : Int32).toNatClampNeg).toInt64) hx hb (dq da_X3_read 16 rfl) rfl ?_
        exact xret_l E hr hlk w (by decide) (congrArg Prod.fst (os h)) (congrArg Prod.snd (os h)) (dq da_X3_read 17 rfl)
      · have h := ie c4 h
        by_cases c6 : x1 = (2097152 : Int32)
        · have h := it c6 h
          refine lv_lookup (off := 89) (tgt := 90) hx hb (dq da_X3_read 1 rfl) (by decide +kernel) (by rw [c6]; decide +kernel) (by decide) ?_
          refine lv_aload_n hx hb (dq da_X3_read 18 rfl) rfl (lv_at hl 0 rfl) ?_
          refine gt_wC_6_threshold E w w_78 (dq da_X3_read 19 rfl) ?_
          refine lv_iconst (v := 0) hx hb (dq da_X3_read 20 rfl) rfl ?_
          obtain ⟨hi7, h⟩ := oi h
          refine ald_wC_9 E w hi7 (dq da_X3_read 21 rfl) ?_
          refine lv_i2l (v := (gA u 3 (0 : Int32).toNatClampNeg).toInt64) hx hb (dq da_X3_read 22 rfl) rfl ?_
          exact xret_l E hr hlk w (by decide) (congrArg Prod.fst (os h)) (congrArg Prod.snd (os h)) (dq da_X3_read 23 rfl)
        · have h := ie c6 h
          by_cases c8 : x1 = (2097156 : Int32)
          · have h := it c8 h
            refine lv_lookup (off := 105) (tgt := 106) hx hb (dq da_X3_read 1 rfl) (by decide +kernel) (by rw [c8]; decide +kernel) (by decide) ?_
            refine lv_aload_n hx hb (dq da_X3_read 30 rfl) rfl (lv_at hl 0 rfl) ?_
            refine lv_aload_n hx hb (dq da_X3_read 31 rfl) rfl (lv_at hl 0 rfl) ?_
            refine gt_wC_6_enabled E w w_77 (dq da_X3_read 32 rfl) ?_
            refine lv_iconst (v := 0) hx hb (dq da_X3_read 33 rfl) rfl ?_
            obtain ⟨hi9, h⟩ := oi h
            refine ald_wC_8 E w hi9 (dq da_X3_read 34 rfl) ?_
            obtain ⟨y10, hy11, h⟩ := ob h
            refine cV1 E (c_X3_claim l D cy ad _ _ hy11) w_901 w_903 w_p26 w_5 w_904 rfl hd_X3_claim rfl hl.1 rfl (Nat.le_of_ble_eq_true rfl) ⟨Nat.le_of_ble_eq_true rfl, Nat.le_of_ble_eq_true rfl⟩ (by decide) w (rc_wC_6 w) (dq da_X3_read 35 rfl) (fun H locs rr w => ?_)
            refine lv_i2l (v := y10.1.toInt64) hx hb (dq da_X3_read 36 rfl) rfl ?_
            exact xret_l E hr hlk w (by decide) (congrArg Prod.fst (os h)) (congrArg Prod.snd (os h)) (dq da_X3_read 37 rfl)
          · have h := ie c8 h
            by_cases c12 : x1 = (2101248 : Int32)
            · have h := it c12 h
              refine lv_lookup (off := 97) (tgt := 98) hx hb (dq da_X3_read 1 rfl) (by decide +kernel) (by rw [c12]; decide +kernel) (by decide) ?_
              refine lv_aload_n hx hb (dq da_X3_read 24 rfl) rfl (lv_at hl 0 rfl) ?_
              refine gt_wC_6_threshold E w w_78 (dq da_X3_read 25 rfl) ?_
              refine lv_iconst (v := 1) hx hb (dq da_X3_read 26 rfl) rfl ?_
              obtain ⟨hi13, h⟩ := oi h
              refine ald_wC_9 E w hi13 (dq da_X3_read 27 rfl) ?_
              refine lv_i2l (v := (gA u 3 (1 : Int32).toNatClampNeg).toInt64) hx hb (dq da_X3_read 28 rfl) rfl ?_
              exact xret_l E hr hlk w (by decide) (congrArg Prod.fst (os h)) (congrArg Prod.snd (os h)) (dq da_X3_read 29 rfl)
            · have h := ie c12 h
              by_cases c14 : x1 = (2101252 : Int32)
              · have h := it c14 h
                refine lv_lookup (off := 117) (tgt := 118) hx hb (dq da_X3_read 1 rfl) (by decide +kernel) (by rw [c14]; decide +kernel) (by decide) ?_
                refine lv_aload_n hx hb (dq da_X3_read 38 rfl) rfl (lv_at hl 0 rfl) ?_
                refine lv_aload_n hx hb (dq da_X3_read 39 rfl) rfl (lv_at hl 0 rfl) ?_
                refine gt_wC_6_enabled E w w_77 (dq da_X3_read 40 rfl) ?_
                refine lv_iconst (v := 1) hx hb (dq da_X3_read 41 rfl) rfl ?_
                obtain ⟨hi15, h⟩ := oi h
                refine ald_wC_8 E w hi15 (dq da_X3_read 42 rfl) ?_
                obtain ⟨y16, hy17, h⟩ := ob h
                refine cV1 E (c_X3_claim l D cy ad _ _ hy17) w_901 w_903 w_p26 w_5 w_904 rfl hd_X3_claim rfl hl.1 rfl (Nat.le_of_ble_eq_true rfl) ⟨Nat.le_of_ble_eq_true rfl, Nat.le_of_ble_eq_true rfl⟩ (by decide) w (rc_wC_6 w) (dq da_X3_read 43 rfl) (fun H locs rr w => ?_)
                refine lv_i2l (v := y16.1.toInt64) hx hb (dq da_X3_read 44 rfl) rfl ?_
                exact xret_l E hr hlk w (by decide) (congrArg Prod.fst (os h)) (congrArg Prod.snd (os h)) (dq da_X3_read 45 rfl)
              · have h := ie c14 h
                refine lv_lookup (off := 129) (tgt := 130) hx hb (dq da_X3_read 1 rfl) (by decide +kernel) (by show Op.lookupswitch.offset [(4096, 67), (8192, 73), (8320, 81), (2097152, 89), (2097156, 105), (2101248, 97), (2101252, 117)] (129) _ = _; rw [lv_osw (k := (4096 : Int32)) (a := 4096) c1 rfl, lv_osw (k := (8192 : Int32)) (a := 8192) c2 rfl, lv_osw (k := (8320 : Int32)) (a := 8320) c4 rfl, lv_osw (k := (2097152 : Int32)) (a := 2097152) c6 rfl, lv_osw (k := (2097156 : Int32)) (a := 2097156) c8 rfl, lv_osw (k := (2101248 : Int32)) (a := 2101248) c12 rfl, lv_osw (k := (2101252 : Int32)) (a := 2101252) c14 rfl]; rfl) (by decide) ?_
                refine lv_aload_n hx hb (dq da_X3_read 46 rfl) rfl (lv_at hl 0 rfl) ?_
                refine gt_wC_6_priority E w w_76 (dq da_X3_read 47 rfl) ?_
                refine lv_iload_n hx hb (dq da_X3_read 48 rfl) rfl (lv_at hl 1 rfl) ?_
                refine lv_iconst (v := 2) hx hb (dq da_X3_read 49 rfl) rfl ?_
                refine lv_ishr hx hb (dq da_X3_read 50 rfl) ?_
                refine lv_bipush (v := 7) hx hb (dq da_X3_read 51 rfl) rfl ?_
                refine lv_iand hx hb (dq da_X3_read 52 rfl) ?_
                obtain ⟨hi18, h⟩ := oi h
                refine ald_wC_7 E w hi18 (dq da_X3_read 53 rfl) ?_
                refine lv_i2l (v := (gA u 1 ((x1 >>> ((2 : Int32) &&& 31)) &&& (7 : Int32)).toNatClampNeg).toInt64) hx hb (dq da_X3_read 54 rfl) rfl ?_
                exact xret_l E hr hlk w (by decide) (congrArg Prod.fst (os h)) (congrArg Prod.snd (os h)) (dq da_X3_read 55 rfl)
def dl_X3_write : List (Nat × Instr × Nat) := [(0, .iload_n 1, 1), (1, .lookupswitch 152 #[(4096, 67), (8192, 70), (8320, 84), (2097152, 98), (2097156, 124), (2101248, 111), (2101252, 138)], 67), (68, .goto 100, 3), (71, .aload_n 0, 1), (72, .getfield 13, 3), (75, .iconst 0, 1), (76, .iload_n 2, 1), (77, .sipush 254, 3), (80, .iand, 1), (81, .iastore, 1), (82, .goto 86, 3), (85, .aload_n 0, 1), (86, .getfield 13, 3), (89, .iconst 1, 1), (90, .iload_n 2, 1), (91, .sipush 254, 3), (94, .iand, 1), (95, .iastore, 1), (96, .goto 72, 3), (99, .aload_n 0, 1), (100, .getfield 16, 3), (103, .iconst 0, 1), (104, .iload_n 2, 1), (105, .bipush 7, 2), (107, .iand, 1), (108, .iastore, 1), (109, .goto 59, 3), (112, .aload_n 0, 1), (113, .getfield 16, 3), (116, .iconst 1, 1), (117, .iload_n 2, 1), (118, .bipush 7, 2), (120, .iand, 1), (121, .iastore, 1), (122, .goto 46, 3), (125, .aload_n 0, 1), (126, .aload_n 0, 1), (127, .getfield 13, 3), (130, .iconst 0, 1), (131, .iaload, 1), (132, .iload_n 2, 1), (133, .invokevirtual 47, 3), (136, .goto 32, 3), (139, .aload_n 0, 1), (140, .aload_n 0, 1), (141, .getfield 13, 3), (144, .iconst 1, 1), (145, .iaload, 1), (146, .iload_n 2, 1), (147, .invokevirtual 47, 3), (150, .goto 18, 3), (153, .aload_n 0, 1), (154, .getfield 9, 3), (157, .iload_n 1, 1), (158, .iconst 2, 1), (159, .ishr, 1), (160, .bipush 7, 2), (162, .iand, 1), (163, .iload_n 2, 1), (164, .bipush 7, 2), (166, .iand, 1), (167, .iastore, 1), (168, .return_, 1)]
theorem da_X3_write : dkL cX3_write dl_X3_write = true := by decide +kernel
def f_X3_write (x1 : Int32) (x2 : Int32) (u : St) : Option (St) := if x1 = (4096 : Int32) then (some u) else if x1 = (8192 : Int32) then (if inB (0 : Int32) (gN u 3) then (some (sA u 2 (0 : Int32).toNatClampNeg (x2 &&& (254 : Int32)))) else none) else if x1 = (8320 : Int32) then (if inB (1 : Int32) (gN u 3) then (some (sA u 2 (1 : Int32).toNatClampNeg (x2 &&& (254 : Int32)))) else none) else if x1 = (2097152 : Int32) then (if inB (0 : Int32) (gN u 4) then (some (sA u 3 (0 : Int32).toNatClampNeg (x2 &&& (7 : Int32)))) else none) else if x1 = (2097156 : Int32) then (if inB (0 : Int32) (gN u 3) then (some (f_X3_complete (gA u 2 (0 : Int32).toNatClampNeg) x2 u)) else none) else if x1 = (2101248 : Int32) then (if inB (1 : Int32) (gN u 4) then (some (sA u 3 (1 : Int32).toNatClampNeg (x2 &&& (7 : Int32)))) else none) else if x1 = (2101252 : Int32) then (if inB (1 : Int32) (gN u 3) then (some (f_X3_complete (gA u 2 (1 : Int32).toNatClampNeg) x2 u)) else none) else (if inB ((x1 >>> ((2 : Int32) &&& 31)) &&& (7 : Int32)) (gN u 2) then (some (sA u 1 ((x1 >>> ((2 : Int32) &&& 31)) &&& (7 : Int32)).toNatClampNeg (x2 &&& (7 : Int32)))) else none)
set_option maxRecDepth 100000 in
set_option maxHeartbeats 4000000 in
theorem c_X3_write (l : Launch) (D : va_G) (cy : ClassId × ClassId × ClassId) (ad : Nat → Nat) (x1 : Int32) (x2 : Int32) (u : St) {u' : St} (h : f_X3_write x1 x2 u = some u') : MX (wC cy ad) D cy l yX3_write cX3_write 3 (none) 1 22 0 [.ref (ad 6), .int x1, .int x2] u u' none := by
  refine entX (by decide +kernel) (Nat.le_of_ble_eq_true rfl) ?_
  intro p e s m args below meth c ls rr A E hr hlk hl w
  have hl : lv_has ls 3 [(0, .ref (ad 6)), (1, .int x1), (2, .int x2)] := hl
  have hx := E.1
  have hb := E.2.1
  have hown := E.2.2.2.1
  have hts := E.2.2.2.2
  refine lv_iload_n hx hb (dq da_X3_write 0 rfl) rfl (lv_at hl 1 rfl) ?_
  by_cases c1 : x1 = (4096 : Int32)
  · have h := it c1 h
    refine lv_lookup (off := 67) (tgt := 68) hx hb (dq da_X3_write 1 rfl) (by decide +kernel) (by rw [c1]; decide +kernel) (by decide) ?_
    refine lv_goto (tgt := 168) hx hb (dq da_X3_write 2 rfl) (by decide) ?_
    exact xret_v E hr hlk w (by decide) (os h) (dq da_X3_write 62 rfl)
  · have h := ie c1 h
    by_cases c2 : x1 = (8192 : Int32)
    · have h := it c2 h
      refine lv_lookup (off := 70) (tgt := 71) hx hb (dq da_X3_write 1 rfl) (by decide +kernel) (by rw [c2]; decide +kernel) (by decide) ?_
      refine lv_aload_n hx hb (dq da_X3_write 3 rfl) rfl (lv_at hl 0 rfl) ?_
      refine gt_wC_6_enabled E w w_77 (dq da_X3_write 4 rfl) ?_
      refine lv_iconst (v := 0) hx hb (dq da_X3_write 5 rfl) rfl ?_
      refine lv_iload_n hx hb (dq da_X3_write 6 rfl) rfl (lv_at hl 2 rfl) ?_
      refine lv_sipush (v := 254) hx hb (dq da_X3_write 7 rfl) rfl ?_
      refine lv_iand hx hb (dq da_X3_write 8 rfl) ?_
      obtain ⟨hi3, h⟩ := oi h
      refine ast_wC_8 E w hi3 (dq da_X3_write 9 rfl) (fun H locs w => ?_)
      refine lv_goto (tgt := 168) hx hb (dq da_X3_write 10 rfl) (by decide) ?_
      exact xret_v E hr hlk w (by decide) (os h) (dq da_X3_write 62 rfl)
    · have h := ie c2 h
      by_cases c4 : x1 = (8320 : Int32)
      · have h := it c4 h
        refine lv_lookup (off := 84) (tgt := 85) hx hb (dq da_X3_write 1 rfl) (by decide +kernel) (by rw [c4]; decide +kernel) (by decide) ?_
        refine lv_aload_n hx hb (dq da_X3_write 11 rfl) rfl (lv_at hl 0 rfl) ?_
        refine gt_wC_6_enabled E w w_77 (dq da_X3_write 12 rfl) ?_
        refine lv_iconst (v := 1) hx hb (dq da_X3_write 13 rfl) rfl ?_
        refine lv_iload_n hx hb (dq da_X3_write 14 rfl) rfl (lv_at hl 2 rfl) ?_
        refine lv_sipush (v := 254) hx hb (dq da_X3_write 15 rfl) rfl ?_
        refine lv_iand hx hb (dq da_X3_write 16 rfl) ?_
        obtain ⟨hi5, h⟩ := oi h
        refine ast_wC_8 E w hi5 (dq da_X3_write 17 rfl) (fun H locs w => ?_)
        refine lv_goto (tgt := 168) hx hb (dq da_X3_write 18 rfl) (by decide) ?_
        exact xret_v E hr hlk w (by decide) (os h) (dq da_X3_write 62 rfl)
      · have h := ie c4 h
        by_cases c6 : x1 = (2097152 : Int32)
        · have h := it c6 h
          refine lv_lookup (off := 98) (tgt := 99) hx hb (dq da_X3_write 1 rfl) (by decide +kernel) (by rw [c6]; decide +kernel) (by decide) ?_
          refine lv_aload_n hx hb (dq da_X3_write 19 rfl) rfl (lv_at hl 0 rfl) ?_
          refine gt_wC_6_threshold E w w_78 (dq da_X3_write 20 rfl) ?_
          refine lv_iconst (v := 0) hx hb (dq da_X3_write 21 rfl) rfl ?_
          refine lv_iload_n hx hb (dq da_X3_write 22 rfl) rfl (lv_at hl 2 rfl) ?_
          refine lv_bipush (v := 7) hx hb (dq da_X3_write 23 rfl) rfl ?_
          refine lv_iand hx hb (dq da_X3_write 24 rfl) ?_
          obtain ⟨hi7, h⟩ := oi h
          refine ast_wC_9 E w hi7 (dq da_X3_write 25 rfl) (fun H locs w => ?_)
          refine lv_goto (tgt := 168) hx hb (dq da_X3_write 26 rfl) (by decide) ?_
          exact xret_v E hr hlk w (by decide) (os h) (dq da_X3_write 62 rfl)
        · have h := ie c6 h
          by_cases c8 : x1 = (2097156 : Int32)
          · have h := it c8 h
            refine lv_lookup (off := 124) (tgt := 125) hx hb (dq da_X3_write 1 rfl) (by decide +kernel) (by rw [c8]; decide +kernel) (by decide) ?_
            refine lv_aload_n hx hb (dq da_X3_write 35 rfl) rfl (lv_at hl 0 rfl) ?_
            refine lv_aload_n hx hb (dq da_X3_write 36 rfl) rfl (lv_at hl 0 rfl) ?_
            refine gt_wC_6_enabled E w w_77 (dq da_X3_write 37 rfl) ?_
            refine lv_iconst (v := 0) hx hb (dq da_X3_write 38 rfl) rfl ?_
            obtain ⟨hi9, h⟩ := oi h
            refine ald_wC_8 E w hi9 (dq da_X3_write 39 rfl) ?_
            refine lv_iload_n hx hb (dq da_X3_write 40 rfl) rfl (lv_at hl 2 rfl) ?_
            refine cV0 E (c_X3_complete l D cy ad _ _ _ ) w_934 w_936 w_p28 w_5 w_937 rfl hd_X3_complete rfl hl.1 rfl (Nat.le_of_ble_eq_true rfl) ⟨Nat.le_of_ble_eq_true rfl, Nat.le_of_ble_eq_true rfl⟩ (by decide) w (rc_wC_6 w) (dq da_X3_write 41 rfl) (fun H locs rr w => ?_)
            refine lv_goto (tgt := 168) hx hb (dq da_X3_write 42 rfl) (by decide) ?_
            exact xret_v E hr hlk w (by decide) (os h) (dq da_X3_write 62 rfl)
          · have h := ie c8 h
            by_cases c10 : x1 = (2101248 : Int32)
            · have h := it c10 h
              refine lv_lookup (off := 111) (tgt := 112) hx hb (dq da_X3_write 1 rfl) (by decide +kernel) (by rw [c10]; decide +kernel) (by decide) ?_
              refine lv_aload_n hx hb (dq da_X3_write 27 rfl) rfl (lv_at hl 0 rfl) ?_
              refine gt_wC_6_threshold E w w_78 (dq da_X3_write 28 rfl) ?_
              refine lv_iconst (v := 1) hx hb (dq da_X3_write 29 rfl) rfl ?_
              refine lv_iload_n hx hb (dq da_X3_write 30 rfl) rfl (lv_at hl 2 rfl) ?_
              refine lv_bipush (v := 7) hx hb (dq da_X3_write 31 rfl) rfl ?_
              refine lv_iand hx hb (dq da_X3_write 32 rfl) ?_
              obtain ⟨hi11, h⟩ := oi h
              refine ast_wC_9 E w hi11 (dq da_X3_write 33 rfl) (fun H locs w => ?_)
              refine lv_goto (tgt := 168) hx hb (dq da_X3_write 34 rfl) (by decide) ?_
              exact xret_v E hr hlk w (by decide) (os h) (dq da_X3_write 62 rfl)
            · have h := ie c10 h
              by_cases c12 : x1 = (2101252 : Int32)
              · have h := it c12 h
                refine lv_lookup (off := 138) (tgt := 139) hx hb (dq da_X3_write 1 rfl) (by decide +kernel) (by rw [c12]; decide +kernel) (by decide) ?_
                refine lv_aload_n hx hb (dq da_X3_write 43 rfl) rfl (lv_at hl 0 rfl) ?_
                refine lv_aload_n hx hb (dq da_X3_write 44 rfl) rfl (lv_at hl 0 rfl) ?_
                refine gt_wC_6_enabled E w w_77 (dq da_X3_write 45 rfl) ?_
                refine lv_iconst (v := 1) hx hb (dq da_X3_write 46 rfl) rfl ?_
                obtain ⟨hi13, h⟩ := oi h
                refine ald_wC_8 E w hi13 (dq da_X3_write 47 rfl) ?_
                refine lv_iload_n hx hb (dq da_X3_write 48 rfl) rfl (lv_at hl 2 rfl) ?_
                refine cV0 E (c_X3_complete l D cy ad _ _ _ ) w_934 w_936 w_p28 w_5 w_937 rfl hd_X3_complete rfl hl.1 rfl (Nat.le_of_ble_eq_true rfl) ⟨Nat.le_of_ble_eq_true rfl, Nat.le_of_ble_eq_true rfl⟩ (by decide) w (rc_wC_6 w) (dq da_X3_write 49 rfl) (fun H locs rr w => ?_)
                refine lv_goto (tgt := 168) hx hb (dq da_X3_write 50 rfl) (by decide) ?_
                exact xret_v E hr hlk w (by decide) (os h) (dq da_X3_write 62 rfl)
              · have h := ie c12 h
                refine lv_lookup (off := 152) (tgt := 153) hx hb (dq da_X3_write 1 rfl) (by decide +kernel) (by show Op.lookupswitch.offset [(4096, 67), (8192, 70), (8320, 84), (2097152, 98), (2097156, 124), (2101248, 111), (2101252, 138)] (152) _ = _; rw [lv_osw (k := (4096 : Int32)) (a := 4096) c1 rfl, lv_osw (k := (8192 : Int32)) (a := 8192) c2 rfl, lv_osw (k := (8320 : Int32)) (a := 8320) c4 rfl, lv_osw (k := (2097152 : Int32)) (a := 2097152) c6 rfl, lv_osw (k := (2097156 : Int32)) (a := 2097156) c8 rfl, lv_osw (k := (2101248 : Int32)) (a := 2101248) c10 rfl, lv_osw (k := (2101252 : Int32)) (a := 2101252) c12 rfl]; rfl) (by decide) ?_
                refine lv_aload_n hx hb (dq da_X3_write 51 rfl) rfl (lv_at hl 0 rfl) ?_
                refine gt_wC_6_priority E w w_76 (dq da_X3_write 52 rfl) ?_
                refine lv_iload_n hx hb (dq da_X3_write 53 rfl) rfl (lv_at hl 1 rfl) ?_
                refine lv_iconst (v := 2) hx hb (dq da_X3_write 54 rfl) rfl ?_
                refine lv_ishr hx hb (dq da_X3_write 55 rfl) ?_
                refine lv_bipush (v := 7) hx hb (dq da_X3_write 56 rfl) rfl ?_
                refine lv_iand hx hb (dq da_X3_write 57 rfl) ?_
                refine lv_iload_n hx hb (dq da_X3_write 58 rfl) rfl (lv_at hl 2 rfl) ?_
                refine lv_bipush (v := 7) hx hb (dq da_X3_write 59 rfl) rfl ?_
                refine lv_iand hx hb (dq da_X3_write 60 rfl) ?_
                obtain ⟨hi14, h⟩ := oi h
                refine ast_wC_7 E w hi14 (dq da_X3_write 61 rfl) (fun H locs w => ?_)
                exact xret_v E hr hlk w (by decide) (os h) (dq da_X3_write 62 rfl)
def dl_X3_calls : List (Nat × Instr × Nat) := [(0, .iload_n 1, 1), (1, .iconst 1, 1), (2, .iand, 1), (3, .istore_n 2, 1), (4, .aload_n 0, 1), (5, .getfield 39, 3), (8, .aload_n 0, 1), (9, .getfield 13, 3), (12, .iload_n 2, 1), (13, .iaload, 1), (14, .iand, 1), (15, .istore_n 3, 1), (16, .iload_n 3, 1), (17, .ifCond .ne 5, 3), (20, .iconst 0, 1), (21, .ireturn, 1), (22, .iconst 1, 1), (23, .istore 4, 2), (25, .iload 4, 2), (27, .bipush 7, 2), (29, .if_icmp .gt 36, 3), (32, .iload_n 3, 1), (33, .iload 4, 2), (35, .ishr, 1), (36, .iconst 1, 1), (37, .iand, 1), (38, .ifCond .eq 21, 3), (41, .aload_n 0, 1), (42, .getfield 9, 3), (45, .iload 4, 2), (47, .iaload, 1), (48, .aload_n 0, 1), (49, .getfield 16, 3), (52, .iload_n 2, 1), (53, .iaload, 1), (54, .if_icmp .le 5, 3), (57, .iconst 1, 1), (58, .ireturn, 1), (59, .iinc 4 1, 3), (62, .goto (-37), 3), (65, .iconst 0, 1), (66, .ireturn, 1)]
theorem da_X3_calls : dkL cX3_calls dl_X3_calls = true := by decide +kernel
def f_X3_calls_b59 (k25 : Int32 → Int32 → Int32 → St → Option (Int32)) (x2 : Int32) (x3 : Int32) (x4 : Int32) (u : St) : Option (Int32) := k25 x2 x3 (x4 + (1 : Int32)) u
set_option maxRecDepth 100000 in
set_option maxHeartbeats 4000000 in
theorem b_X3_calls_b59 {p : Program} {l : Launch} {e : Env} {s : State} {m : MethodId} {args : Array Value} {below : List Frame} {meth : Method} {c : Code} {D : va_G} {cy : ClassId × ClassId × ClassId} {ad : Nat → Nat} {A : Nat → Prop} (E : CallFix p m c cX3_calls 5 s args gw RX3) (hr : meth.sig.returnType = some .boolean) (hlk : meth.locks = false) {k25 : Int32 → Int32 → Int32 → St → Option (Int32)} (hk25 : ∀ (x2 : Int32) (x3 : Int32) (x4 : Int32) (u : St) (r : Int32), k25 x2 x3 x4 u = some r → ∀ (ls : Array Slot) (H : Heap) (locs : List Loc) (rr : Nat → Nat), lv_has ls 5 [(0, .ref (ad 6)), (2, .int x2), (3, .int x3), (4, .int x4)] → WX (wC cy ad) D cy rr u A s H locs → Wx (wC cy ad) D p l e 0 0 0 s m args below meth c A u (some (.int r)) H locs 0 25 ls []) {x2 : Int32} {x3 : Int32} {x4 : Int32} {u : St} {r : Int32} (h : f_X3_calls_b59 k25 x2 x3 x4 u = some r) {ls : Array Slot} {H : Heap} {locs : List Loc} {rr : Nat → Nat} (hl : lv_has ls 5 [(0, .ref (ad 6)), (2, .int x2), (3, .int x3), (4, .int x4)]) (w : WX (wC cy ad) D cy rr u A s H locs) : Wx (wC cy ad) D p l e 0 0 0 s m args below meth c A u (some (.int r)) H locs 0 59 ls [] := by
  have hx := E.1
  have hb := E.2.1
  have hown := E.2.2.2.1
  have hts := E.2.2.2.2
  refine lv_iinc (v := (x4 + (1 : Int32))) (lv' := [(4, .int (x4 + (1 : Int32))), (0, .ref (ad 6)), (2, .int x2), (3, .int x3)]) hx hb (dq da_X3_calls 38 rfl) hl (k := 3) rfl rfl (by decide) rfl (fun ls hl => ?_)
  refine lv_goto (tgt := 25) hx hb (dq da_X3_calls 39 rfl) (by decide) ?_
  exact hk25 _ _ _ _ _ h ls _ _ _ (lv_sub hl [1, 2, 3, 0] rfl) w
def f_X3_calls_b25_s (k25 : Int32 → Int32 → Int32 → St → Option (Int32)) (x2 : Int32) (x3 : Int32) (x4 : Int32) (u : St) : Option (Int32) := if (7 : Int32) < x4 then (some (0 : Int32)) else (if ((x3 >>> (x4 &&& 31)) &&& (1 : Int32)) = (0 : Int32) then (f_X3_calls_b59 k25 x2 x3 x4 u) else (if inB x4 (gN u 2) then (if inB x2 (gN u 4) then (if (gA u 1 x4.toNatClampNeg) ≤ (gA u 3 x2.toNatClampNeg) then (f_X3_calls_b59 k25 x2 x3 x4 u) else (some (1 : Int32))) else none) else none))
set_option maxRecDepth 100000 in
set_option maxHeartbeats 4000000 in
theorem b_X3_calls_b25_s {p : Program} {l : Launch} {e : Env} {s : State} {m : MethodId} {args : Array Value} {below : List Frame} {meth : Method} {c : Code} {D : va_G} {cy : ClassId × ClassId × ClassId} {ad : Nat → Nat} {A : Nat → Prop} (E : CallFix p m c cX3_calls 5 s args gw RX3) (hr : meth.sig.returnType = some .boolean) (hlk : meth.locks = false) {k25 : Int32 → Int32 → Int32 → St → Option (Int32)} (hk25 : ∀ (x2 : Int32) (x3 : Int32) (x4 : Int32) (u : St) (r : Int32), k25 x2 x3 x4 u = some r → ∀ (ls : Array Slot) (H : Heap) (locs : List Loc) (rr : Nat → Nat), lv_has ls 5 [(0, .ref (ad 6)), (2, .int x2), (3, .int x3), (4, .int x4)] → WX (wC cy ad) D cy rr u A s H locs → Wx (wC cy ad) D p l e 0 0 0 s m args below meth c A u (some (.int r)) H locs 0 25 ls []) {x2 : Int32} {x3 : Int32} {x4 : Int32} {u : St} {r : Int32} (h : f_X3_calls_b25_s k25 x2 x3 x4 u = some r) {ls : Array Slot} {H : Heap} {locs : List Loc} {rr : Nat → Nat} (hl : lv_has ls 5 [(0, .ref (ad 6)), (2, .int x2), (3, .int x3), (4, .int x4)]) (w : WX (wC cy ad) D cy rr u A s H locs) : Wx (wC cy ad) D p l e 0 0 0 s m args below meth c A u (some (.int r)) H locs 0 25 ls [] := by
  have hx := E.1
  have hb := E.2.1
  have hown := E.2.2.2.1
  have hts := E.2.2.2.2
  refine lv_iload hx hb (dq da_X3_calls 18 rfl) (lv_at hl 3 rfl) ?_
  refine lv_bipush (v := 7) hx hb (dq da_X3_calls 19 rfl) rfl ?_
  refine lv_icmp_gt (tgt := 65) hx hb (dq da_X3_calls 20 rfl) (by decide) (fun c3 => ?_) (fun c3 => ?_)
  · have h := it c3 h
    refine lv_iconst (v := 0) hx hb (dq da_X3_calls 40 rfl) rfl ?_
    exact xret_z E hr hlk rfl w (by decide) (os h) rfl (dq da_X3_calls 41 rfl)
  · have h := ie c3 h
    refine lv_iload_n hx hb (dq da_X3_calls 21 rfl) rfl (lv_at hl 2 rfl) ?_
    refine lv_iload hx hb (dq da_X3_calls 22 rfl) (lv_at hl 3 rfl) ?_
    refine lv_ishr hx hb (dq da_X3_calls 23 rfl) ?_
    refine lv_iconst (v := 1) hx hb (dq da_X3_calls 24 rfl) rfl ?_
    refine lv_iand hx hb (dq da_X3_calls 25 rfl) ?_
    refine lv_if_eq (tgt := 59) hx hb (dq da_X3_calls 26 rfl) (by decide) (fun c4 => ?_) (fun c4 => ?_)
    · have h := it c4 h
      exact b_X3_calls_b59 E hr hlk hk25 h (lv_sub hl [0, 1, 2, 3] rfl) w
    · have h := ie c4 h
      refine lv_aload_n hx hb (dq da_X3_calls 27 rfl) rfl (lv_at hl 0 rfl) ?_
      refine gt_wC_6_priority E w w_76 (dq da_X3_calls 28 rfl) ?_
      refine lv_iload hx hb (dq da_X3_calls 29 rfl) (lv_at hl 3 rfl) ?_
      obtain ⟨hi5, h⟩ := oi h
      refine ald_wC_7 E w hi5 (dq da_X3_calls 30 rfl) ?_
      refine lv_aload_n hx hb (dq da_X3_calls 31 rfl) rfl (lv_at hl 0 rfl) ?_
      refine gt_wC_6_threshold E w w_78 (dq da_X3_calls 32 rfl) ?_
      refine lv_iload_n hx hb (dq da_X3_calls 33 rfl) rfl (lv_at hl 1 rfl) ?_
      obtain ⟨hi6, h⟩ := oi h
      refine ald_wC_9 E w hi6 (dq da_X3_calls 34 rfl) ?_
      refine lv_icmp_le (tgt := 59) hx hb (dq da_X3_calls 35 rfl) (by decide) (fun c7 => ?_) (fun c7 => ?_)
      · have h := it c7 h
        exact b_X3_calls_b59 E hr hlk hk25 h (lv_sub hl [0, 1, 2, 3] rfl) w
      · have h := ie c7 h
        refine lv_iconst (v := 1) hx hb (dq da_X3_calls 36 rfl) rfl ?_
        exact xret_z E hr hlk rfl w (by decide) (os h) rfl (dq da_X3_calls 37 rfl)
def f_X3_calls_b25 : Nat → Int32 → Int32 → Int32 → St → Option (Int32)
  | 0 => fun _ _ _ _ => none
  | n + 1 => f_X3_calls_b25_s (f_X3_calls_b25 n)
theorem b_X3_calls_b25 {p : Program} {l : Launch} {e : Env} {s : State} {m : MethodId} {args : Array Value} {below : List Frame} {meth : Method} {c : Code} {D : va_G} {cy : ClassId × ClassId × ClassId} {ad : Nat → Nat} {A : Nat → Prop} (E : CallFix p m c cX3_calls 5 s args gw RX3) (hr : meth.sig.returnType = some .boolean) (hlk : meth.locks = false) : ∀ n : Nat, ∀ (x2 : Int32) (x3 : Int32) (x4 : Int32) (u : St) (r : Int32), f_X3_calls_b25 n x2 x3 x4 u = some r → ∀ (ls : Array Slot) (H : Heap) (locs : List Loc) (rr : Nat → Nat), lv_has ls 5 [(0, .ref (ad 6)), (2, .int x2), (3, .int x3), (4, .int x4)] → WX (wC cy ad) D cy rr u A s H locs → Wx (wC cy ad) D p l e 0 0 0 s m args below meth c A u (some (.int r)) H locs 0 25 ls [] := by
  intro n
  induction n with
  | zero => intro x2 x3 x4 u r h; cases h
  | succ n ih => intro x2 x3 x4 u r h ls H locs rr hl w; exact b_X3_calls_b25_s E hr hlk ih h hl w
def f_X3_calls (x1 : Int32) (u : St) : Option (Int32) := if inB (x1 &&& (1 : Int32)) (gN u 3) then (if ((gI u 7) &&& (gA u 2 (x1 &&& (1 : Int32)).toNatClampNeg)) = (0 : Int32) then (some (0 : Int32)) else (f_X3_calls_b25 FU (x1 &&& (1 : Int32)) ((gI u 7) &&& (gA u 2 (x1 &&& (1 : Int32)).toNatClampNeg)) (1 : Int32) u)) else none
set_option maxRecDepth 100000 in
set_option maxHeartbeats 4000000 in
theorem c_X3_calls (l : Launch) (D : va_G) (cy : ClassId × ClassId × ClassId) (ad : Nat → Nat) (x1 : Int32) (u : St) {r : Int32} (h : f_X3_calls x1 u = some r) : MX (wC cy ad) D cy l yX3_calls cX3_calls 5 (some .boolean) 0 0 0 [.ref (ad 6), .int x1] u u (some (.int (r))) := by
  refine entX (by decide +kernel) (Nat.le_of_ble_eq_true rfl) ?_
  intro p e s m args below meth c ls rr A E hr hlk hl w
  have hl : lv_has ls 5 [(0, .ref (ad 6)), (1, .int x1)] := hl
  have hx := E.1
  have hb := E.2.1
  have hown := E.2.2.2.1
  have hts := E.2.2.2.2
  refine lv_iload_n hx hb (dq da_X3_calls 0 rfl) rfl (lv_at hl 1 rfl) ?_
  refine lv_iconst (v := 1) hx hb (dq da_X3_calls 1 rfl) rfl ?_
  refine lv_iand hx hb (dq da_X3_calls 2 rfl) ?_
  refine lv_istore_n (lv' := [(2, .int (x1 &&& (1 : Int32))), (0, .ref (ad 6)), (1, .int x1)]) hx hb (dq da_X3_calls 3 rfl) rfl hl (by decide) rfl (fun ls hl => ?_)
  refine lv_aload_n hx hb (dq da_X3_calls 4 rfl) rfl (lv_at hl 1 rfl) ?_
  refine gt_wC_6_pending E w w_80 (dq da_X3_calls 5 rfl) ?_
  refine lv_aload_n hx hb (dq da_X3_calls 6 rfl) rfl (lv_at hl 1 rfl) ?_
  refine gt_wC_6_enabled E w w_77 (dq da_X3_calls 7 rfl) ?_
  refine lv_iload_n hx hb (dq da_X3_calls 8 rfl) rfl (lv_at hl 0 rfl) ?_
  obtain ⟨hi1, h⟩ := oi h
  refine ald_wC_8 E w hi1 (dq da_X3_calls 9 rfl) ?_
  refine lv_iand hx hb (dq da_X3_calls 10 rfl) ?_
  refine lv_istore_n (lv' := [(3, .int ((gI u 7) &&& (gA u 2 (x1 &&& (1 : Int32)).toNatClampNeg))), (2, .int (x1 &&& (1 : Int32))), (0, .ref (ad 6)), (1, .int x1)]) hx hb (dq da_X3_calls 11 rfl) rfl hl (by decide) rfl (fun ls hl => ?_)
  refine lv_iload_n hx hb (dq da_X3_calls 12 rfl) rfl (lv_at hl 0 rfl) ?_
  refine lv_if_ne (tgt := 22) hx hb (dq da_X3_calls 13 rfl) (by decide) (fun c2 => ?_) (fun c2 => ?_)
  · have h := ie c2 h
    refine lv_iconst (v := 1) hx hb (dq da_X3_calls 16 rfl) rfl ?_
    refine lv_istore (lv' := [(4, .int (1 : Int32)), (3, .int ((gI u 7) &&& (gA u 2 (x1 &&& (1 : Int32)).toNatClampNeg))), (2, .int (x1 &&& (1 : Int32))), (0, .ref (ad 6)), (1, .int x1)]) hx hb (dq da_X3_calls 17 rfl) hl (by decide) rfl (fun ls hl => ?_)
    exact b_X3_calls_b25 E hr hlk FU _ _ _ _ _ h ls _ _ _ (lv_sub hl [3, 2, 1, 0] rfl) w
  · have h := it c2 h
    refine lv_iconst (v := 0) hx hb (dq da_X3_calls 14 rfl) rfl ?_
    exact xret_z E hr hlk rfl w (by decide) (os h) rfl (dq da_X3_calls 15 rfl)
def dl_X3_drive : List (Nat × Instr × Nat) := [(0, .iconst 1, 1), (1, .iload_n 1, 1), (2, .bipush 7, 2), (4, .iand, 1), (5, .ishl, 1), (6, .istore_n 3, 1), (7, .aload_n 0, 1), (8, .iload_n 2, 1), (9, .ifCond .eq 12, 3), (12, .aload_n 0, 1), (13, .getfield 54, 3), (16, .iload_n 3, 1), (17, .ior, 1), (18, .goto 11, 3), (21, .aload_n 0, 1), (22, .getfield 54, 3), (25, .iload_n 3, 1), (26, .iconst (-1), 1), (27, .ixor, 1), (28, .iand, 1), (29, .putfield 54, 3), (32, .return_, 1)]
theorem da_X3_drive : dkL cX3_drive dl_X3_drive = true := by decide +kernel
def f_X3_drive_b29 (s0 : Int32) (u : St) : St := (sI u 6 s0)
set_option maxRecDepth 100000 in
set_option maxHeartbeats 4000000 in
theorem b_X3_drive_b29 {p : Program} {l : Launch} {e : Env} {s : State} {m : MethodId} {args : Array Value} {below : List Frame} {meth : Method} {c : Code} {D : va_G} {cy : ClassId × ClassId × ClassId} {ad : Nat → Nat} {A : Nat → Prop} (E : CallFix p m c cX3_drive 4 s args gw RX3) (hr : meth.sig.returnType = none) (hlk : meth.locks = false) {s0 : Int32} {u : St} {u' : St} (h : f_X3_drive_b29 s0 u = u') {ls : Array Slot} {H : Heap} {locs : List Loc} {rr : Nat → Nat} (hl : lv_has ls 4 []) (w : WX (wC cy ad) D cy rr u A s H locs) : Wx (wC cy ad) D p l e 0 0 0 s m args below meth c A u' none H locs 0 29 ls [.int s0, .ref (ad 6)] := by
  have hx := E.1
  have hb := E.2.1
  have hown := E.2.2.2.1
  have hts := E.2.2.2.2
  refine pt_wC_6_high E w w_79 (dq da_X3_drive 20 rfl) (fun H locs w => ?_)
  exact xret_v E hr hlk w (by decide) h (dq da_X3_drive 21 rfl)
def f_X3_drive (x1 : Int32) (x2 : Int32) (u : St) : St := if x2 = (0 : Int32) then (f_X3_drive_b29 ((gI u 6) &&& (((1 : Int32) <<< ((x1 &&& (7 : Int32)) &&& 31)) ^^^ (-1 : Int32))) u) else (f_X3_drive_b29 ((gI u 6) ||| ((1 : Int32) <<< ((x1 &&& (7 : Int32)) &&& 31))) u)
set_option maxRecDepth 100000 in
set_option maxHeartbeats 4000000 in
theorem c_X3_drive (l : Launch) (D : va_G) (cy : ClassId × ClassId × ClassId) (ad : Nat → Nat) (x1 : Int32) (x2 : Int32) (u : St) : MX (wC cy ad) D cy l yX3_drive cX3_drive 4 (none) 0 0 0 [.ref (ad 6), .int x1, .int x2] u (f_X3_drive x1 x2 u) none := by
  refine entX (by decide +kernel) (Nat.le_of_ble_eq_true rfl) ?_
  intro p e s m args below meth c ls rr A E hr hlk hl w
  have hl : lv_has ls 4 [(0, .ref (ad 6)), (1, .int x1), (2, .int x2)] := hl
  generalize h : f_X3_drive x1 x2 u = u'
  have hx := E.1
  have hb := E.2.1
  have hown := E.2.2.2.1
  have hts := E.2.2.2.2
  refine lv_iconst (v := 1) hx hb (dq da_X3_drive 0 rfl) rfl ?_
  refine lv_iload_n hx hb (dq da_X3_drive 1 rfl) rfl (lv_at hl 1 rfl) ?_
  refine lv_bipush (v := 7) hx hb (dq da_X3_drive 2 rfl) rfl ?_
  refine lv_iand hx hb (dq da_X3_drive 3 rfl) ?_
  refine lv_ishl hx hb (dq da_X3_drive 4 rfl) ?_
  refine lv_istore_n (lv' := [(3, .int ((1 : Int32) <<< ((x1 &&& (7 : Int32)) &&& 31))), (0, .ref (ad 6)), (1, .int x1), (2, .int x2)]) hx hb (dq da_X3_drive 5 rfl) rfl hl (by decide) rfl (fun ls hl => ?_)
  refine lv_aload_n hx hb (dq da_X3_drive 6 rfl) rfl (lv_at hl 1 rfl) ?_
  refine lv_iload_n hx hb (dq da_X3_drive 7 rfl) rfl (lv_at hl 3 rfl) ?_
  refine lv_if_eq (tgt := 21) hx hb (dq da_X3_drive 8 rfl) (by decide) (fun c1 => ?_) (fun c1 => ?_)
  · have h := it c1 h
    refine lv_aload_n hx hb (dq da_X3_drive 14 rfl) rfl (lv_at hl 1 rfl) ?_
    refine gt_wC_6_high E w w_79 (dq da_X3_drive 15 rfl) ?_
    refine lv_iload_n hx hb (dq da_X3_drive 16 rfl) rfl (lv_at hl 0 rfl) ?_
    refine lv_iconst (v := (-1)) hx hb (dq da_X3_drive 17 rfl) rfl ?_
    refine lv_ixor hx hb (dq da_X3_drive 18 rfl) ?_
    refine lv_iand hx hb (dq da_X3_drive 19 rfl) ?_
    exact b_X3_drive_b29 E hr hlk h (lv_sub hl [] rfl) w
  · have h := ie c1 h
    refine lv_aload_n hx hb (dq da_X3_drive 9 rfl) rfl (lv_at hl 1 rfl) ?_
    refine gt_wC_6_high E w w_79 (dq da_X3_drive 10 rfl) ?_
    refine lv_iload_n hx hb (dq da_X3_drive 11 rfl) rfl (lv_at hl 0 rfl) ?_
    refine lv_ior hx hb (dq da_X3_drive 12 rfl) ?_
    refine lv_goto (tgt := 29) hx hb (dq da_X3_drive 13 rfl) (by decide) ?_
    exact b_X3_drive_b29 E hr hlk h (lv_sub hl [] rfl) w
def dl_X3_settle : List (Nat × Instr × Nat) := [(0, .aload_n 0, 1), (1, .dup, 1), (2, .getfield 39, 3), (5, .iload_n 1, 1), (6, .ifCond .eq 12, 3), (9, .aload_n 0, 1), (10, .getfield 54, 3), (13, .iconst 2, 1), (14, .ior, 1), (15, .goto 7, 3), (18, .aload_n 0, 1), (19, .getfield 54, 3), (22, .aload_n 0, 1), (23, .getfield 51, 3), (26, .iconst (-1), 1), (27, .ixor, 1), (28, .iand, 1), (29, .ior, 1), (30, .putfield 39, 3), (33, .return_, 1)]
theorem da_X3_settle : dkL cX3_settle dl_X3_settle = true := by decide +kernel
def f_X3_settle_b22 (s0 : Int32) (s1 : Int32) (u : St) : St := (sI u 7 (s1 ||| (s0 &&& ((gI u 8) ^^^ (-1 : Int32)))))
set_option maxRecDepth 100000 in
set_option maxHeartbeats 4000000 in
theorem b_X3_settle_b22 {p : Program} {l : Launch} {e : Env} {s : State} {m : MethodId} {args : Array Value} {below : List Frame} {meth : Method} {c : Code} {D : va_G} {cy : ClassId × ClassId × ClassId} {ad : Nat → Nat} {A : Nat → Prop} (E : CallFix p m c cX3_settle 2 s args gw RX3) (hr : meth.sig.returnType = none) (hlk : meth.locks = false) {s0 : Int32} {s1 : Int32} {u : St} {u' : St} (h : f_X3_settle_b22 s0 s1 u = u') {ls : Array Slot} {H : Heap} {locs : List Loc} {rr : Nat → Nat} (hl : lv_has ls 2 [(0, .ref (ad 6))]) (w : WX (wC cy ad) D cy rr u A s H locs) : Wx (wC cy ad) D p l e 0 0 0 s m args below meth c A u' none H locs 0 22 ls [.int s0, .int s1, .ref (ad 6)] := by
  have hx := E.1
  have hb := E.2.1
  have hown := E.2.2.2.1
  have hts := E.2.2.2.2
  refine lv_aload_n hx hb (dq da_X3_settle 12 rfl) rfl (lv_at hl 0 rfl) ?_
  refine gt_wC_6_claimed E w w_82 (dq da_X3_settle 13 rfl) ?_
  refine lv_iconst (v := (-1)) hx hb (dq da_X3_settle 14 rfl) rfl ?_
  refine lv_ixor hx hb (dq da_X3_settle 15 rfl) ?_
  refine lv_iand hx hb (dq da_X3_settle 16 rfl) ?_
  refine lv_ior hx hb (dq da_X3_settle 17 rfl) ?_
  refine pt_wC_6_pending E w w_80 (dq da_X3_settle 18 rfl) (fun H locs w => ?_)
  exact xret_v E hr hlk w (by decide) h (dq da_X3_settle 19 rfl)
def f_X3_settle (x1 : Int32) (u : St) : St := if x1 = (0 : Int32) then (f_X3_settle_b22 (gI u 6) (gI u 7) u) else (f_X3_settle_b22 ((gI u 6) ||| (2 : Int32)) (gI u 7) u)
set_option maxRecDepth 100000 in
set_option maxHeartbeats 4000000 in
theorem c_X3_settle (l : Launch) (D : va_G) (cy : ClassId × ClassId × ClassId) (ad : Nat → Nat) (x1 : Int32) (u : St) : MX (wC cy ad) D cy l yX3_settle cX3_settle 2 (none) 0 0 0 [.ref (ad 6), .int x1] u (f_X3_settle x1 u) none := by
  refine entX (by decide +kernel) (Nat.le_of_ble_eq_true rfl) ?_
  intro p e s m args below meth c ls rr A E hr hlk hl w
  have hl : lv_has ls 2 [(0, .ref (ad 6)), (1, .int x1)] := hl
  generalize h : f_X3_settle x1 u = u'
  have hx := E.1
  have hb := E.2.1
  have hown := E.2.2.2.1
  have hts := E.2.2.2.2
  refine lv_aload_n hx hb (dq da_X3_settle 0 rfl) rfl (lv_at hl 0 rfl) ?_
  refine lv_dup hx hb (dq da_X3_settle 1 rfl) rfl ?_
  refine gt_wC_6_pending E w w_80 (dq da_X3_settle 2 rfl) ?_
  refine lv_iload_n hx hb (dq da_X3_settle 3 rfl) rfl (lv_at hl 1 rfl) ?_
  refine lv_if_eq (tgt := 18) hx hb (dq da_X3_settle 4 rfl) (by decide) (fun c1 => ?_) (fun c1 => ?_)
  · have h := it c1 h
    refine lv_aload_n hx hb (dq da_X3_settle 10 rfl) rfl (lv_at hl 0 rfl) ?_
    refine gt_wC_6_high E w w_79 (dq da_X3_settle 11 rfl) ?_
    exact b_X3_settle_b22 E hr hlk h (lv_sub hl [0] rfl) w
  · have h := ie c1 h
    refine lv_aload_n hx hb (dq da_X3_settle 5 rfl) rfl (lv_at hl 0 rfl) ?_
    refine gt_wC_6_high E w w_79 (dq da_X3_settle 6 rfl) ?_
    refine lv_iconst (v := 2) hx hb (dq da_X3_settle 7 rfl) rfl ?_
    refine lv_ior hx hb (dq da_X3_settle 8 rfl) ?_
    refine lv_goto (tgt := 22) hx hb (dq da_X3_settle 9 rfl) (by decide) ?_
    exact b_X3_settle_b22 E hr hlk h (lv_sub hl [0] rfl) w
def dl_X7_read_o16 : List (Nat × Instr × Nat) := [(0, .iload_n 1, 1), (1, .lookupswitch 89 #[(5, 59), (6, 64), (64, 69), (65, 74), (66, 79), (67, 84)], 59), (60, .aload_n 0, 1), (61, .getfield 7, 3), (64, .lreturn, 1), (65, .aload_n 0, 1), (66, .getfield 13, 3), (69, .lreturn, 1), (70, .aload_n 0, 1), (71, .getfield 16, 3), (74, .lreturn, 1), (75, .aload_n 0, 1), (76, .getfield 19, 3), (79, .lreturn, 1), (80, .aload_n 0, 1), (81, .getfield 22, 3), (84, .lreturn, 1), (85, .aload_n 0, 1), (86, .getfield 25, 3), (89, .lreturn, 1), (90, .lconst 0, 1), (91, .lreturn, 1)]
theorem da_X7_read_o16 : dkL cX7_read dl_X7_read_o16 = true := by decide +kernel
def f_X7_read_o16 (x1 : Int32) (u : St) : Int64 := if x1 = (5 : Int32) then (gL u 12) else if x1 = (6 : Int32) then (gL u 13) else if x1 = (64 : Int32) then (gL u 14) else if x1 = (65 : Int32) then (gL u 15) else if x1 = (66 : Int32) then (gL u 16) else if x1 = (67 : Int32) then (gL u 17) else (0 : Int64)
set_option maxRecDepth 100000 in
set_option maxHeartbeats 4000000 in
theorem c_X7_read_o16 (l : Launch) (D : va_G) (cy : ClassId × ClassId × ClassId) (ad : Nat → Nat) (x1 : Int32) (u : St) : MX (wC cy ad) D cy l yX7_read cX7_read 2 (some .long) 0 0 0 [.ref (ad 16), .int x1] u u (some (.long (f_X7_read_o16 x1 u))) := by
  refine entX (by decide +kernel) (Nat.le_of_ble_eq_true rfl) ?_
  intro p e s m args below meth c ls rr A E hr hlk hl w
  have hl : lv_has ls 2 [(0, .ref (ad 16)), (1, .int x1)] := hl
  generalize h : f_X7_read_o16 x1 u = r
  have hx := E.1
  have hb := E.2.1
  have hown := E.2.2.2.1
  have hts := E.2.2.2.2
  refine lv_iload_n hx hb (dq da_X7_read_o16 0 rfl) rfl (lv_at hl 1 rfl) ?_
  by_cases c1 : x1 = (5 : Int32)
  · have h := it c1 h
    refine lv_lookup (off := 59) (tgt := 60) hx hb (dq da_X7_read_o16 1 rfl) (by decide +kernel) (by rw [c1]; decide +kernel) (by decide) ?_
    refine lv_aload_n hx hb (dq da_X7_read_o16 2 rfl) rfl (lv_at hl 0 rfl) ?_
    refine gt_wC_16_tvec E w w_171 (dq da_X7_read_o16 3 rfl) ?_
    exact xret_l E hr hlk w (by decide) h rfl (dq da_X7_read_o16 4 rfl)
  · have h := ie c1 h
    by_cases c2 : x1 = (6 : Int32)
    · have h := it c2 h
      refine lv_lookup (off := 64) (tgt := 65) hx hb (dq da_X7_read_o16 1 rfl) (by decide +kernel) (by rw [c2]; decide +kernel) (by decide) ?_
      refine lv_aload_n hx hb (dq da_X7_read_o16 5 rfl) rfl (lv_at hl 0 rfl) ?_
      refine gt_wC_16_counters E w w_173 (dq da_X7_read_o16 6 rfl) ?_
      exact xret_l E hr hlk w (by decide) h rfl (dq da_X7_read_o16 7 rfl)
    · have h := ie c2 h
      by_cases c3 : x1 = (64 : Int32)
      · have h := it c3 h
        refine lv_lookup (off := 69) (tgt := 70) hx hb (dq da_X7_read_o16 1 rfl) (by decide +kernel) (by rw [c3]; decide +kernel) (by decide) ?_
        refine lv_aload_n hx hb (dq da_X7_read_o16 8 rfl) rfl (lv_at hl 0 rfl) ?_
        refine gt_wC_16_scratch E w w_175 (dq da_X7_read_o16 9 rfl) ?_
        exact xret_l E hr hlk w (by decide) h rfl (dq da_X7_read_o16 10 rfl)
      · have h := ie c3 h
        by_cases c4 : x1 = (65 : Int32)
        · have h := it c4 h
          refine lv_lookup (off := 74) (tgt := 75) hx hb (dq da_X7_read_o16 1 rfl) (by decide +kernel) (by rw [c4]; decide +kernel) (by decide) ?_
          refine lv_aload_n hx hb (dq da_X7_read_o16 11 rfl) rfl (lv_at hl 0 rfl) ?_
          refine gt_wC_16_epc E w w_176 (dq da_X7_read_o16 12 rfl) ?_
          exact xret_l E hr hlk w (by decide) h rfl (dq da_X7_read_o16 13 rfl)
        · have h := ie c4 h
          by_cases c5 : x1 = (66 : Int32)
          · have h := it c5 h
            refine lv_lookup (off := 79) (tgt := 80) hx hb (dq da_X7_read_o16 1 rfl) (by decide +kernel) (by rw [c5]; decide +kernel) (by decide) ?_
            refine lv_aload_n hx hb (dq da_X7_read_o16 14 rfl) rfl (lv_at hl 0 rfl) ?_
            refine gt_wC_16_cause E w w_178 (dq da_X7_read_o16 15 rfl) ?_
            exact xret_l E hr hlk w (by decide) h rfl (dq da_X7_read_o16 16 rfl)
          · have h := ie c5 h
            by_cases c6 : x1 = (67 : Int32)
            · have h := it c6 h
              refine lv_lookup (off := 84) (tgt := 85) hx hb (dq da_X7_read_o16 1 rfl) (by decide +kernel) (by rw [c6]; decide +kernel) (by decide) ?_
              refine lv_aload_n hx hb (dq da_X7_read_o16 17 rfl) rfl (lv_at hl 0 rfl) ?_
              refine gt_wC_16_tval E w w_180 (dq da_X7_read_o16 18 rfl) ?_
              exact xret_l E hr hlk w (by decide) h rfl (dq da_X7_read_o16 19 rfl)
            · have h := ie c6 h
              refine lv_lookup (off := 89) (tgt := 90) hx hb (dq da_X7_read_o16 1 rfl) (by decide +kernel) (by show Op.lookupswitch.offset [(5, 59), (6, 64), (64, 69), (65, 74), (66, 79), (67, 84)] (89) _ = _; rw [lv_osw (k := (5 : Int32)) (a := 5) c1 rfl, lv_osw (k := (6 : Int32)) (a := 6) c2 rfl, lv_osw (k := (64 : Int32)) (a := 64) c3 rfl, lv_osw (k := (65 : Int32)) (a := 65) c4 rfl, lv_osw (k := (66 : Int32)) (a := 66) c5 rfl, lv_osw (k := (67 : Int32)) (a := 67) c6 rfl]; rfl) (by decide) ?_
              refine lv_lconst (v := 0) hx hb (dq da_X7_read_o16 20 rfl) rfl ?_
              exact xret_l E hr hlk w (by decide) h rfl (dq da_X7_read_o16 21 rfl)
def dl_X7_write_o16 : List (Nat × Instr × Nat) := [(0, .iload_n 1, 1), (1, .lookupswitch 119 #[(5, 59), (6, 71), (64, 83), (65, 91), (66, 103), (67, 111)], 59), (60, .aload_n 0, 1), (61, .lload_n 2, 1), (62, .ldc2_w 28, 3), (65, .land, 1), (66, .putfield 7, 3), (69, .goto 51, 3), (72, .aload_n 0, 1), (73, .lload_n 2, 1), (74, .ldc2_w 30, 3), (77, .land, 1), (78, .putfield 13, 3), (81, .goto 39, 3), (84, .aload_n 0, 1), (85, .lload_n 2, 1), (86, .putfield 16, 3), (89, .goto 31, 3), (92, .aload_n 0, 1), (93, .lload_n 2, 1), (94, .ldc2_w 32, 3), (97, .land, 1), (98, .putfield 19, 3), (101, .goto 19, 3), (104, .aload_n 0, 1), (105, .lload_n 2, 1), (106, .putfield 22, 3), (109, .goto 11, 3), (112, .aload_n 0, 1), (113, .lload_n 2, 1), (114, .putfield 25, 3), (117, .goto 3, 3), (120, .return_, 1)]
theorem da_X7_write_o16 : dkL cX7_write dl_X7_write_o16 = true := by decide +kernel
def f_X7_write_o16 (x1 : Int32) (x2 : Int64) (u : St) : St := if x1 = (5 : Int32) then (sL u 12 (x2 &&& (-3 : Int64))) else if x1 = (6 : Int32) then (sL u 13 (x2 &&& (7 : Int64))) else if x1 = (64 : Int32) then (sL u 14 x2) else if x1 = (65 : Int32) then (sL u 15 (x2 &&& (-2 : Int64))) else if x1 = (66 : Int32) then (sL u 16 x2) else if x1 = (67 : Int32) then (sL u 17 x2) else u
set_option maxRecDepth 100000 in
set_option maxHeartbeats 4000000 in
theorem c_X7_write_o16 (l : Launch) (D : va_G) (cy : ClassId × ClassId × ClassId) (ad : Nat → Nat) (x1 : Int32) (x2 : Int64) (u : St) : MX (wC cy ad) D cy l yX7_write cX7_write 4 (none) 0 0 0 [.ref (ad 16), .int x1, .long x2] u (f_X7_write_o16 x1 x2 u) none := by
  refine entX (by decide +kernel) (Nat.le_of_ble_eq_true rfl) ?_
  intro p e s m args below meth c ls rr A E hr hlk hl w
  have hl : lv_has ls 4 [(0, .ref (ad 16)), (1, .int x1), (2, .long x2)] := hl
  generalize h : f_X7_write_o16 x1 x2 u = u'
  have hx := E.1
  have hb := E.2.1
  have hown := E.2.2.2.1
  have hts := E.2.2.2.2
  refine lv_iload_n hx hb (dq da_X7_write_o16 0 rfl) rfl (lv_at hl 1 rfl) ?_
  by_cases c1 : x1 = (5 : Int32)
  · have h := it c1 h
    refine lv_lookup (off := 59) (tgt := 60) hx hb (dq da_X7_write_o16 1 rfl) (by decide +kernel) (by rw [c1]; decide +kernel) (by decide) ?_
    refine lv_aload_n hx hb (dq da_X7_write_o16 2 rfl) rfl (lv_at hl 0 rfl) ?_
    refine lv_lload_n hx hb (dq da_X7_write_o16 3 rfl) rfl (lv_at hl 2 rfl) ?_
    refine lv_ldc2 hx hb hown (hts _ w_630) (dq da_X7_write_o16 4 rfl) ?_
    refine lv_land hx hb (dq da_X7_write_o16 5 rfl) ?_
    refine pt_wC_16_tvec E w w_171 (dq da_X7_write_o16 6 rfl) (fun H locs w => ?_)
    refine lv_goto (tgt := 120) hx hb (dq da_X7_write_o16 7 rfl) (by decide) ?_
    exact xret_v E hr hlk w (by decide) h (dq da_X7_write_o16 32 rfl)
  · have h := ie c1 h
    by_cases c2 : x1 = (6 : Int32)
    · have h := it c2 h
      refine lv_lookup (off := 71) (tgt := 72) hx hb (dq da_X7_write_o16 1 rfl) (by decide +kernel) (by rw [c2]; decide +kernel) (by decide) ?_
      refine lv_aload_n hx hb (dq da_X7_write_o16 8 rfl) rfl (lv_at hl 0 rfl) ?_
      refine lv_lload_n hx hb (dq da_X7_write_o16 9 rfl) rfl (lv_at hl 2 rfl) ?_
      refine lv_ldc2 hx hb hown (hts _ w_631) (dq da_X7_write_o16 10 rfl) ?_
      refine lv_land hx hb (dq da_X7_write_o16 11 rfl) ?_
      refine pt_wC_16_counters E w w_173 (dq da_X7_write_o16 12 rfl) (fun H locs w => ?_)
      refine lv_goto (tgt := 120) hx hb (dq da_X7_write_o16 13 rfl) (by decide) ?_
      exact xret_v E hr hlk w (by decide) h (dq da_X7_write_o16 32 rfl)
    · have h := ie c2 h
      by_cases c3 : x1 = (64 : Int32)
      · have h := it c3 h
        refine lv_lookup (off := 83) (tgt := 84) hx hb (dq da_X7_write_o16 1 rfl) (by decide +kernel) (by rw [c3]; decide +kernel) (by decide) ?_
        refine lv_aload_n hx hb (dq da_X7_write_o16 14 rfl) rfl (lv_at hl 0 rfl) ?_
        refine lv_lload_n hx hb (dq da_X7_write_o16 15 rfl) rfl (lv_at hl 2 rfl) ?_
        refine pt_wC_16_scratch E w w_175 (dq da_X7_write_o16 16 rfl) (fun H locs w => ?_)
        refine lv_goto (tgt := 120) hx hb (dq da_X7_write_o16 17 rfl) (by decide) ?_
        exact xret_v E hr hlk w (by decide) h (dq da_X7_write_o16 32 rfl)
      · have h := ie c3 h
        by_cases c4 : x1 = (65 : Int32)
        · have h := it c4 h
          refine lv_lookup (off := 91) (tgt := 92) hx hb (dq da_X7_write_o16 1 rfl) (by decide +kernel) (by rw [c4]; decide +kernel) (by decide) ?_
          refine lv_aload_n hx hb (dq da_X7_write_o16 18 rfl) rfl (lv_at hl 0 rfl) ?_
          refine lv_lload_n hx hb (dq da_X7_write_o16 19 rfl) rfl (lv_at hl 2 rfl) ?_
          refine lv_ldc2 hx hb hown (hts _ w_632) (dq da_X7_write_o16 20 rfl) ?_
          refine lv_land hx hb (dq da_X7_write_o16 21 rfl) ?_
          refine pt_wC_16_epc E w w_176 (dq da_X7_write_o16 22 rfl) (fun H locs w => ?_)
          refine lv_goto (tgt := 120) hx hb (dq da_X7_write_o16 23 rfl) (by decide) ?_
          exact xret_v E hr hlk w (by decide) h (dq da_X7_write_o16 32 rfl)
        · have h := ie c4 h
          by_cases c5 : x1 = (66 : Int32)
          · have h := it c5 h
            refine lv_lookup (off := 103) (tgt := 104) hx hb (dq da_X7_write_o16 1 rfl) (by decide +kernel) (by rw [c5]; decide +kernel) (by decide) ?_
            refine lv_aload_n hx hb (dq da_X7_write_o16 24 rfl) rfl (lv_at hl 0 rfl) ?_
            refine lv_lload_n hx hb (dq da_X7_write_o16 25 rfl) rfl (lv_at hl 2 rfl) ?_
            refine pt_wC_16_cause E w w_178 (dq da_X7_write_o16 26 rfl) (fun H locs w => ?_)
            refine lv_goto (tgt := 120) hx hb (dq da_X7_write_o16 27 rfl) (by decide) ?_
            exact xret_v E hr hlk w (by decide) h (dq da_X7_write_o16 32 rfl)
          · have h := ie c5 h
            by_cases c6 : x1 = (67 : Int32)
            · have h := it c6 h
              refine lv_lookup (off := 111) (tgt := 112) hx hb (dq da_X7_write_o16 1 rfl) (by decide +kernel) (by rw [c6]; decide +kernel) (by decide) ?_
              refine lv_aload_n hx hb (dq da_X7_write_o16 28 rfl) rfl (lv_at hl 0 rfl) ?_
              refine lv_lload_n hx hb (dq da_X7_write_o16 29 rfl) rfl (lv_at hl 2 rfl) ?_
              refine pt_wC_16_tval E w w_180 (dq da_X7_write_o16 30 rfl) (fun H locs w => ?_)
              refine lv_goto (tgt := 120) hx hb (dq da_X7_write_o16 31 rfl) (by decide) ?_
              exact xret_v E hr hlk w (by decide) h (dq da_X7_write_o16 32 rfl)
            · have h := ie c6 h
              refine lv_lookup (off := 119) (tgt := 120) hx hb (dq da_X7_write_o16 1 rfl) (by decide +kernel) (by show Op.lookupswitch.offset [(5, 59), (6, 71), (64, 83), (65, 91), (66, 103), (67, 111)] (119) _ = _; rw [lv_osw (k := (5 : Int32)) (a := 5) c1 rfl, lv_osw (k := (6 : Int32)) (a := 6) c2 rfl, lv_osw (k := (64 : Int32)) (a := 64) c3 rfl, lv_osw (k := (65 : Int32)) (a := 65) c4 rfl, lv_osw (k := (66 : Int32)) (a := 66) c5 rfl, lv_osw (k := (67 : Int32)) (a := 67) c6 rfl]; rfl) (by decide) ?_
              exact xret_v E hr hlk w (by decide) h (dq da_X7_write_o16 32 rfl)
def dl_X7_read_o17 : List (Nat × Instr × Nat) := [(0, .iload_n 1, 1), (1, .lookupswitch 89 #[(5, 59), (6, 64), (64, 69), (65, 74), (66, 79), (67, 84)], 59), (60, .aload_n 0, 1), (61, .getfield 7, 3), (64, .lreturn, 1), (65, .aload_n 0, 1), (66, .getfield 13, 3), (69, .lreturn, 1), (70, .aload_n 0, 1), (71, .getfield 16, 3), (74, .lreturn, 1), (75, .aload_n 0, 1), (76, .getfield 19, 3), (79, .lreturn, 1), (80, .aload_n 0, 1), (81, .getfield 22, 3), (84, .lreturn, 1), (85, .aload_n 0, 1), (86, .getfield 25, 3), (89, .lreturn, 1), (90, .lconst 0, 1), (91, .lreturn, 1)]
theorem da_X7_read_o17 : dkL cX7_read dl_X7_read_o17 = true := by decide +kernel
def f_X7_read_o17 (x1 : Int32) (u : St) : Int64 := if x1 = (5 : Int32) then (gL u 18) else if x1 = (6 : Int32) then (gL u 19) else if x1 = (64 : Int32) then (gL u 20) else if x1 = (65 : Int32) then (gL u 21) else if x1 = (66 : Int32) then (gL u 22) else if x1 = (67 : Int32) then (gL u 23) else (0 : Int64)
set_option maxRecDepth 100000 in
set_option maxHeartbeats 4000000 in
theorem c_X7_read_o17 (l : Launch) (D : va_G) (cy : ClassId × ClassId × ClassId) (ad : Nat → Nat) (x1 : Int32) (u : St) : MX (wC cy ad) D cy l yX7_read cX7_read 2 (some .long) 0 0 0 [.ref (ad 17), .int x1] u u (some (.long (f_X7_read_o17 x1 u))) := by
  refine entX (by decide +kernel) (Nat.le_of_ble_eq_true rfl) ?_
  intro p e s m args below meth c ls rr A E hr hlk hl w
  have hl : lv_has ls 2 [(0, .ref (ad 17)), (1, .int x1)] := hl
  generalize h : f_X7_read_o17 x1 u = r
  have hx := E.1
  have hb := E.2.1
  have hown := E.2.2.2.1
  have hts := E.2.2.2.2
  refine lv_iload_n hx hb (dq da_X7_read_o17 0 rfl) rfl (lv_at hl 1 rfl) ?_
  by_cases c1 : x1 = (5 : Int32)
  · have h := it c1 h
    refine lv_lookup (off := 59) (tgt := 60) hx hb (dq da_X7_read_o17 1 rfl) (by decide +kernel) (by rw [c1]; decide +kernel) (by decide) ?_
    refine lv_aload_n hx hb (dq da_X7_read_o17 2 rfl) rfl (lv_at hl 0 rfl) ?_
    refine gt_wC_17_tvec E w w_171 (dq da_X7_read_o17 3 rfl) ?_
    exact xret_l E hr hlk w (by decide) h rfl (dq da_X7_read_o17 4 rfl)
  · have h := ie c1 h
    by_cases c2 : x1 = (6 : Int32)
    · have h := it c2 h
      refine lv_lookup (off := 64) (tgt := 65) hx hb (dq da_X7_read_o17 1 rfl) (by decide +kernel) (by rw [c2]; decide +kernel) (by decide) ?_
      refine lv_aload_n hx hb (dq da_X7_read_o17 5 rfl) rfl (lv_at hl 0 rfl) ?_
      refine gt_wC_17_counters E w w_173 (dq da_X7_read_o17 6 rfl) ?_
      exact xret_l E hr hlk w (by decide) h rfl (dq da_X7_read_o17 7 rfl)
    · have h := ie c2 h
      by_cases c3 : x1 = (64 : Int32)
      · have h := it c3 h
        refine lv_lookup (off := 69) (tgt := 70) hx hb (dq da_X7_read_o17 1 rfl) (by decide +kernel) (by rw [c3]; decide +kernel) (by decide) ?_
        refine lv_aload_n hx hb (dq da_X7_read_o17 8 rfl) rfl (lv_at hl 0 rfl) ?_
        refine gt_wC_17_scratch E w w_175 (dq da_X7_read_o17 9 rfl) ?_
        exact xret_l E hr hlk w (by decide) h rfl (dq da_X7_read_o17 10 rfl)
      · have h := ie c3 h
        by_cases c4 : x1 = (65 : Int32)
        · have h := it c4 h
          refine lv_lookup (off := 74) (tgt := 75) hx hb (dq da_X7_read_o17 1 rfl) (by decide +kernel) (by rw [c4]; decide +kernel) (by decide) ?_
          refine lv_aload_n hx hb (dq da_X7_read_o17 11 rfl) rfl (lv_at hl 0 rfl) ?_
          refine gt_wC_17_epc E w w_176 (dq da_X7_read_o17 12 rfl) ?_
          exact xret_l E hr hlk w (by decide) h rfl (dq da_X7_read_o17 13 rfl)
        · have h := ie c4 h
          by_cases c5 : x1 = (66 : Int32)
          · have h := it c5 h
            refine lv_lookup (off := 79) (tgt := 80) hx hb (dq da_X7_read_o17 1 rfl) (by decide +kernel) (by rw [c5]; decide +kernel) (by decide) ?_
            refine lv_aload_n hx hb (dq da_X7_read_o17 14 rfl) rfl (lv_at hl 0 rfl) ?_
            refine gt_wC_17_cause E w w_178 (dq da_X7_read_o17 15 rfl) ?_
            exact xret_l E hr hlk w (by decide) h rfl (dq da_X7_read_o17 16 rfl)
          · have h := ie c5 h
            by_cases c6 : x1 = (67 : Int32)
            · have h := it c6 h
              refine lv_lookup (off := 84) (tgt := 85) hx hb (dq da_X7_read_o17 1 rfl) (by decide +kernel) (by rw [c6]; decide +kernel) (by decide) ?_
              refine lv_aload_n hx hb (dq da_X7_read_o17 17 rfl) rfl (lv_at hl 0 rfl) ?_
              refine gt_wC_17_tval E w w_180 (dq da_X7_read_o17 18 rfl) ?_
              exact xret_l E hr hlk w (by decide) h rfl (dq da_X7_read_o17 19 rfl)
            · have h := ie c6 h
              refine lv_lookup (off := 89) (tgt := 90) hx hb (dq da_X7_read_o17 1 rfl) (by decide +kernel) (by show Op.lookupswitch.offset [(5, 59), (6, 64), (64, 69), (65, 74), (66, 79), (67, 84)] (89) _ = _; rw [lv_osw (k := (5 : Int32)) (a := 5) c1 rfl, lv_osw (k := (6 : Int32)) (a := 6) c2 rfl, lv_osw (k := (64 : Int32)) (a := 64) c3 rfl, lv_osw (k := (65 : Int32)) (a := 65) c4 rfl, lv_osw (k := (66 : Int32)) (a := 66) c5 rfl, lv_osw (k := (67 : Int32)) (a := 67) c6 rfl]; rfl) (by decide) ?_
              refine lv_lconst (v := 0) hx hb (dq da_X7_read_o17 20 rfl) rfl ?_
              exact xret_l E hr hlk w (by decide) h rfl (dq da_X7_read_o17 21 rfl)
def dl_X7_write_o17 : List (Nat × Instr × Nat) := [(0, .iload_n 1, 1), (1, .lookupswitch 119 #[(5, 59), (6, 71), (64, 83), (65, 91), (66, 103), (67, 111)], 59), (60, .aload_n 0, 1), (61, .lload_n 2, 1), (62, .ldc2_w 28, 3), (65, .land, 1), (66, .putfield 7, 3), (69, .goto 51, 3), (72, .aload_n 0, 1), (73, .lload_n 2, 1), (74, .ldc2_w 30, 3), (77, .land, 1), (78, .putfield 13, 3), (81, .goto 39, 3), (84, .aload_n 0, 1), (85, .lload_n 2, 1), (86, .putfield 16, 3), (89, .goto 31, 3), (92, .aload_n 0, 1), (93, .lload_n 2, 1), (94, .ldc2_w 32, 3), (97, .land, 1), (98, .putfield 19, 3), (101, .goto 19, 3), (104, .aload_n 0, 1), (105, .lload_n 2, 1), (106, .putfield 22, 3), (109, .goto 11, 3), (112, .aload_n 0, 1), (113, .lload_n 2, 1), (114, .putfield 25, 3), (117, .goto 3, 3), (120, .return_, 1)]
theorem da_X7_write_o17 : dkL cX7_write dl_X7_write_o17 = true := by decide +kernel
def f_X7_write_o17 (x1 : Int32) (x2 : Int64) (u : St) : St := if x1 = (5 : Int32) then (sL u 18 (x2 &&& (-3 : Int64))) else if x1 = (6 : Int32) then (sL u 19 (x2 &&& (7 : Int64))) else if x1 = (64 : Int32) then (sL u 20 x2) else if x1 = (65 : Int32) then (sL u 21 (x2 &&& (-2 : Int64))) else if x1 = (66 : Int32) then (sL u 22 x2) else if x1 = (67 : Int32) then (sL u 23 x2) else u
set_option maxRecDepth 100000 in
set_option maxHeartbeats 4000000 in
theorem c_X7_write_o17 (l : Launch) (D : va_G) (cy : ClassId × ClassId × ClassId) (ad : Nat → Nat) (x1 : Int32) (x2 : Int64) (u : St) : MX (wC cy ad) D cy l yX7_write cX7_write 4 (none) 0 0 0 [.ref (ad 17), .int x1, .long x2] u (f_X7_write_o17 x1 x2 u) none := by
  refine entX (by decide +kernel) (Nat.le_of_ble_eq_true rfl) ?_
  intro p e s m args below meth c ls rr A E hr hlk hl w
  have hl : lv_has ls 4 [(0, .ref (ad 17)), (1, .int x1), (2, .long x2)] := hl
  generalize h : f_X7_write_o17 x1 x2 u = u'
  have hx := E.1
  have hb := E.2.1
  have hown := E.2.2.2.1
  have hts := E.2.2.2.2
  refine lv_iload_n hx hb (dq da_X7_write_o17 0 rfl) rfl (lv_at hl 1 rfl) ?_
  by_cases c1 : x1 = (5 : Int32)
  · have h := it c1 h
    refine lv_lookup (off := 59) (tgt := 60) hx hb (dq da_X7_write_o17 1 rfl) (by decide +kernel) (by rw [c1]; decide +kernel) (by decide) ?_
    refine lv_aload_n hx hb (dq da_X7_write_o17 2 rfl) rfl (lv_at hl 0 rfl) ?_
    refine lv_lload_n hx hb (dq da_X7_write_o17 3 rfl) rfl (lv_at hl 2 rfl) ?_
    refine lv_ldc2 hx hb hown (hts _ w_630) (dq da_X7_write_o17 4 rfl) ?_
    refine lv_land hx hb (dq da_X7_write_o17 5 rfl) ?_
    refine pt_wC_17_tvec E w w_171 (dq da_X7_write_o17 6 rfl) (fun H locs w => ?_)
    refine lv_goto (tgt := 120) hx hb (dq da_X7_write_o17 7 rfl) (by decide) ?_
    exact xret_v E hr hlk w (by decide) h (dq da_X7_write_o17 32 rfl)
  · have h := ie c1 h
    by_cases c2 : x1 = (6 : Int32)
    · have h := it c2 h
      refine lv_lookup (off := 71) (tgt := 72) hx hb (dq da_X7_write_o17 1 rfl) (by decide +kernel) (by rw [c2]; decide +kernel) (by decide) ?_
      refine lv_aload_n hx hb (dq da_X7_write_o17 8 rfl) rfl (lv_at hl 0 rfl) ?_
      refine lv_lload_n hx hb (dq da_X7_write_o17 9 rfl) rfl (lv_at hl 2 rfl) ?_
      refine lv_ldc2 hx hb hown (hts _ w_631) (dq da_X7_write_o17 10 rfl) ?_
      refine lv_land hx hb (dq da_X7_write_o17 11 rfl) ?_
      refine pt_wC_17_counters E w w_173 (dq da_X7_write_o17 12 rfl) (fun H locs w => ?_)
      refine lv_goto (tgt := 120) hx hb (dq da_X7_write_o17 13 rfl) (by decide) ?_
      exact xret_v E hr hlk w (by decide) h (dq da_X7_write_o17 32 rfl)
    · have h := ie c2 h
      by_cases c3 : x1 = (64 : Int32)
      · have h := it c3 h
        refine lv_lookup (off := 83) (tgt := 84) hx hb (dq da_X7_write_o17 1 rfl) (by decide +kernel) (by rw [c3]; decide +kernel) (by decide) ?_
        refine lv_aload_n hx hb (dq da_X7_write_o17 14 rfl) rfl (lv_at hl 0 rfl) ?_
        refine lv_lload_n hx hb (dq da_X7_write_o17 15 rfl) rfl (lv_at hl 2 rfl) ?_
        refine pt_wC_17_scratch E w w_175 (dq da_X7_write_o17 16 rfl) (fun H locs w => ?_)
        refine lv_goto (tgt := 120) hx hb (dq da_X7_write_o17 17 rfl) (by decide) ?_
        exact xret_v E hr hlk w (by decide) h (dq da_X7_write_o17 32 rfl)
      · have h := ie c3 h
        by_cases c4 : x1 = (65 : Int32)
        · have h := it c4 h
          refine lv_lookup (off := 91) (tgt := 92) hx hb (dq da_X7_write_o17 1 rfl) (by decide +kernel) (by rw [c4]; decide +kernel) (by decide) ?_
          refine lv_aload_n hx hb (dq da_X7_write_o17 18 rfl) rfl (lv_at hl 0 rfl) ?_
          refine lv_lload_n hx hb (dq da_X7_write_o17 19 rfl) rfl (lv_at hl 2 rfl) ?_
          refine lv_ldc2 hx hb hown (hts _ w_632) (dq da_X7_write_o17 20 rfl) ?_
          refine lv_land hx hb (dq da_X7_write_o17 21 rfl) ?_
          refine pt_wC_17_epc E w w_176 (dq da_X7_write_o17 22 rfl) (fun H locs w => ?_)
          refine lv_goto (tgt := 120) hx hb (dq da_X7_write_o17 23 rfl) (by decide) ?_
          exact xret_v E hr hlk w (by decide) h (dq da_X7_write_o17 32 rfl)
        · have h := ie c4 h
          by_cases c5 : x1 = (66 : Int32)
          · have h := it c5 h
            refine lv_lookup (off := 103) (tgt := 104) hx hb (dq da_X7_write_o17 1 rfl) (by decide +kernel) (by rw [c5]; decide +kernel) (by decide) ?_
            refine lv_aload_n hx hb (dq da_X7_write_o17 24 rfl) rfl (lv_at hl 0 rfl) ?_
            refine lv_lload_n hx hb (dq da_X7_write_o17 25 rfl) rfl (lv_at hl 2 rfl) ?_
            refine pt_wC_17_cause E w w_178 (dq da_X7_write_o17 26 rfl) (fun H locs w => ?_)
            refine lv_goto (tgt := 120) hx hb (dq da_X7_write_o17 27 rfl) (by decide) ?_
            exact xret_v E hr hlk w (by decide) h (dq da_X7_write_o17 32 rfl)
          · have h := ie c5 h
            by_cases c6 : x1 = (67 : Int32)
            · have h := it c6 h
              refine lv_lookup (off := 111) (tgt := 112) hx hb (dq da_X7_write_o17 1 rfl) (by decide +kernel) (by rw [c6]; decide +kernel) (by decide) ?_
              refine lv_aload_n hx hb (dq da_X7_write_o17 28 rfl) rfl (lv_at hl 0 rfl) ?_
              refine lv_lload_n hx hb (dq da_X7_write_o17 29 rfl) rfl (lv_at hl 2 rfl) ?_
              refine pt_wC_17_tval E w w_180 (dq da_X7_write_o17 30 rfl) (fun H locs w => ?_)
              refine lv_goto (tgt := 120) hx hb (dq da_X7_write_o17 31 rfl) (by decide) ?_
              exact xret_v E hr hlk w (by decide) h (dq da_X7_write_o17 32 rfl)
            · have h := ie c6 h
              refine lv_lookup (off := 119) (tgt := 120) hx hb (dq da_X7_write_o17 1 rfl) (by decide +kernel) (by show Op.lookupswitch.offset [(5, 59), (6, 71), (64, 83), (65, 91), (66, 103), (67, 111)] (119) _ = _; rw [lv_osw (k := (5 : Int32)) (a := 5) c1 rfl, lv_osw (k := (6 : Int32)) (a := 6) c2 rfl, lv_osw (k := (64 : Int32)) (a := 64) c3 rfl, lv_osw (k := (65 : Int32)) (a := 65) c4 rfl, lv_osw (k := (66 : Int32)) (a := 66) c5 rfl, lv_osw (k := (67 : Int32)) (a := 67) c6 rfl]; rfl) (by decide) ?_
              exact xret_v E hr hlk w (by decide) h (dq da_X7_write_o17 32 rfl)
def dl_X8_high : List (Nat × Instr × Nat) := [(0, .aload_n 0, 1), (1, .getfield 28, 3), (4, .iconst 1, 1), (5, .iand, 1), (6, .ifCond .eq 17, 3), (9, .aload_n 0, 1), (10, .getfield 15, 3), (13, .invokevirtual 32, 3), (16, .ifCond .le 7, 3), (19, .iconst 1, 1), (20, .goto 4, 3), (23, .iconst 0, 1), (24, .ireturn, 1)]
theorem da_X8_high : dkL cX8_high dl_X8_high = true := by decide +kernel
def f_X8_high_b23 (u : St) : Int32 := (0 : Int32)
set_option maxRecDepth 100000 in
set_option maxHeartbeats 4000000 in
theorem b_X8_high_b23 {p : Program} {l : Launch} {e : Env} {s : State} {m : MethodId} {args : Array Value} {below : List Frame} {meth : Method} {c : Code} {D : va_G} {cy : ClassId × ClassId × ClassId} {ad : Nat → Nat} {A : Nat → Prop} (E : CallFix p m c cX8_high 1 s args gw RX8) (hr : meth.sig.returnType = some .boolean) (hlk : meth.locks = false) {u : St} {r : Int32} (h : f_X8_high_b23 u = r) {ls : Array Slot} {H : Heap} {locs : List Loc} {rr : Nat → Nat} (hl : lv_has ls 1 []) (w : WX (wC cy ad) D cy rr u A s H locs) : Wx (wC cy ad) D p l e 1 20 0 s m args below meth c A u (some (.int r)) H locs 0 23 ls [] := by
  have hx := E.1
  have hb := E.2.1
  have hown := E.2.2.2.1
  have hts := E.2.2.2.2
  refine lv_iconst (v := 0) hx hb (dq da_X8_high 11 rfl) rfl ?_
  exact xret_z E hr hlk rfl w (by decide) h rfl (dq da_X8_high 12 rfl)
def f_X8_high (u : St) : Int32 := if ((gI u 9) &&& (1 : Int32)) = (0 : Int32) then (f_X8_high_b23 u) else (if (f_X2_size_o11 u) ≤ (0 : Int32) then (f_X8_high_b23 u) else (1 : Int32))
set_option maxRecDepth 100000 in
set_option maxHeartbeats 4000000 in
theorem c_X8_high (l : Launch) (D : va_G) (cy : ClassId × ClassId × ClassId) (ad : Nat → Nat) (u : St) : MX (wC cy ad) D cy l yX8_high cX8_high 1 (some .boolean) 1 20 0 [.ref (ad 10)] u u (some (.int (f_X8_high u))) := by
  refine entX (by decide +kernel) (Nat.le_of_ble_eq_true rfl) ?_
  intro p e s m args below meth c ls rr A E hr hlk hl w
  have hl : lv_has ls 1 [(0, .ref (ad 10))] := hl
  generalize h : f_X8_high u = r
  have hx := E.1
  have hb := E.2.1
  have hown := E.2.2.2.1
  have hts := E.2.2.2.2
  refine lv_aload_n hx hb (dq da_X8_high 0 rfl) rfl (lv_at hl 0 rfl) ?_
  refine gt_wC_10_enable E w w_111 (dq da_X8_high 1 rfl) ?_
  refine lv_iconst (v := 1) hx hb (dq da_X8_high 2 rfl) rfl ?_
  refine lv_iand hx hb (dq da_X8_high 3 rfl) ?_
  refine lv_if_eq (tgt := 23) hx hb (dq da_X8_high 4 rfl) (by decide) (fun c1 => ?_) (fun c1 => ?_)
  · have h := it c1 h
    exact b_X8_high_b23 E hr hlk h (lv_sub hl [] rfl) w
  · have h := ie c1 h
    refine lv_aload_n hx hb (dq da_X8_high 5 rfl) rfl (lv_at hl 0 rfl) ?_
    refine gt_wC_10_input E w w_107 (dq da_X8_high 6 rfl) ?_
    refine cV1 E (c_X2_size_o11 l D cy ad _ ) w_488 w_306 w_307 w_2 w_308 rfl hd_X2_size rfl hl.1 rfl (Nat.le_of_ble_eq_true rfl) ⟨Nat.le_of_ble_eq_true rfl, Nat.le_of_ble_eq_true rfl⟩ (by decide) w (rc_wC_11 w) (dq da_X8_high 7 rfl) (fun H locs rr w => ?_)
    refine lv_if_le (tgt := 23) hx hb (dq da_X8_high 8 rfl) (by decide) (fun c2 => ?_) (fun c2 => ?_)
    · have h := it c2 h
      exact b_X8_high_b23 E hr hlk h (lv_sub hl [] rfl) w
    · have h := ie c2 h
      refine lv_iconst (v := 1) hx hb (dq da_X8_high 9 rfl) rfl ?_
      refine lv_goto (tgt := 24) hx hb (dq da_X8_high 10 rfl) (by decide) ?_
      exact xret_z E hr hlk rfl w (by decide) h rfl (dq da_X8_high 12 rfl)
def dl_X8_read : List (Nat × Instr × Nat) := [(0, .iload_n 1, 1), (1, .lookupswitch 70 #[(0, 35), (1, 44), (5, 50)], 35), (36, .aload_n 0, 1), (37, .getfield 15, 3), (40, .invokevirtual 24, 3), (43, .i2l, 1), (44, .lreturn, 1), (45, .aload_n 0, 1), (46, .getfield 28, 3), (49, .i2l, 1), (50, .lreturn, 1), (51, .aload_n 0, 1), (52, .getfield 15, 3), (55, .invokevirtual 32, 3), (58, .ifCond .le 9, 3), (61, .ldc2_w 35, 3), (64, .goto 6, 3), (67, .ldc2_w 37, 3), (70, .lreturn, 1), (71, .lconst 0, 1), (72, .lreturn, 1)]
theorem da_X8_read : dkL cX8_read dl_X8_read = true := by decide +kernel
def f_X8_read (x1 : Int32) (u : St) : Option (Int64 × St) := if x1 = (0 : Int32) then ((f_X2_removeFirst_o11 u).bind (fun y2 => some (y2.1.toInt64, y2.2))) else if x1 = (1 : Int32) then (some ((gI u 9).toInt64, u)) else if x1 = (5 : Int32) then (if (f_X2_size_o11 u) ≤ (0 : Int32) then (some ((96 : Int64), u)) else (some ((97 : Int64), u))) else (some ((0 : Int64), u))
set_option maxRecDepth 100000 in
set_option maxHeartbeats 4000000 in
theorem c_X8_read (l : Launch) (D : va_G) (cy : ClassId × ClassId × ClassId) (ad : Nat → Nat) (x1 : Int32) (u : St) {r : Int64} {u' : St} (h : f_X8_read x1 u = some (r, u')) : MX (wC cy ad) D cy l yX8_read cX8_read 2 (some .long) 1 21 0 [.ref (ad 10), .int x1] u u' (some (.long (r))) := by
  refine entX (by decide +kernel) (Nat.le_of_ble_eq_true rfl) ?_
  intro p e s m args below meth c ls rr A E hr hlk hl w
  have hl : lv_has ls 2 [(0, .ref (ad 10)), (1, .int x1)] := hl
  have hx := E.1
  have hb := E.2.1
  have hown := E.2.2.2.1
  have hts := E.2.2.2.2
  refine lv_iload_n hx hb (dq da_X8_read 0 rfl) rfl (lv_at hl 1 rfl) ?_
  by_cases c1 : x1 = (0 : Int32)
  · have h := it c1 h
    refine lv_lookup (off := 35) (tgt := 36) hx hb (dq da_X8_read 1 rfl) (by decide +kernel) (by rw [c1]; decide +kernel) (by decide) ?_
    refine lv_aload_n hx hb (dq da_X8_read 2 rfl) rfl (lv_at hl 0 rfl) ?_
    refine gt_wC_10_input E w w_107 (dq da_X8_read 3 rfl) ?_
    obtain ⟨y2, hy3, h⟩ := ob h
    refine cV1 E (c_X2_removeFirst_o11 l D cy ad _ hy3) w_877 w_878 w_879 w_2 w_880 rfl hd_X2_removeFirst rfl hl.1 rfl (Nat.le_of_ble_eq_true rfl) ⟨Nat.le_of_ble_eq_true rfl, Nat.le_of_ble_eq_true rfl⟩ (by decide) w (rc_wC_11 w) (dq da_X8_read 4 rfl) (fun H locs rr w => ?_)
    refine lv_i2l (v := y2.1.toInt64) hx hb (dq da_X8_read 5 rfl) rfl ?_
    exact xret_l E hr hlk w (by decide) (congrArg Prod.fst (os h)) (congrArg Prod.snd (os h)) (dq da_X8_read 6 rfl)
  · have h := ie c1 h
    by_cases c4 : x1 = (1 : Int32)
    · have h := it c4 h
      refine lv_lookup (off := 44) (tgt := 45) hx hb (dq da_X8_read 1 rfl) (by decide +kernel) (by rw [c4]; decide +kernel) (by decide) ?_
      refine lv_aload_n hx hb (dq da_X8_read 7 rfl) rfl (lv_at hl 0 rfl) ?_
      refine gt_wC_10_enable E w w_111 (dq da_X8_read 8 rfl) ?_
      refine lv_i2l (v := (gI u 9).toInt64) hx hb (dq da_X8_read 9 rfl) rfl ?_
      exact xret_l E hr hlk w (by decide) (congrArg Prod.fst (os h)) (congrArg Prod.snd (os h)) (dq da_X8_read 10 rfl)
    · have h := ie c4 h
      by_cases c5 : x1 = (5 : Int32)
      · have h := it c5 h
        refine lv_lookup (off := 50) (tgt := 51) hx hb (dq da_X8_read 1 rfl) (by decide +kernel) (by rw [c5]; decide +kernel) (by decide) ?_
        refine lv_aload_n hx hb (dq da_X8_read 11 rfl) rfl (lv_at hl 0 rfl) ?_
        refine gt_wC_10_input E w w_107 (dq da_X8_read 12 rfl) ?_
        refine cV1 E (c_X2_size_o11 l D cy ad _ ) w_488 w_306 w_307 w_2 w_308 rfl hd_X2_size rfl hl.1 rfl (Nat.le_of_ble_eq_true rfl) ⟨Nat.le_of_ble_eq_true rfl, Nat.le_of_ble_eq_true rfl⟩ (by decide) w (rc_wC_11 w) (dq da_X8_read 13 rfl) (fun H locs rr w => ?_)
        refine lv_if_le (tgt := 67) hx hb (dq da_X8_read 14 rfl) (by decide) (fun c6 => ?_) (fun c6 => ?_)
        · have h := it c6 h
          refine lv_ldc2 hx hb hown (hts _ w_882) (dq da_X8_read 17 rfl) ?_
          exact xret_l E hr hlk w (by decide) (congrArg Prod.fst (os h)) (congrArg Prod.snd (os h)) (dq da_X8_read 18 rfl)
        · have h := ie c6 h
          refine lv_ldc2 hx hb hown (hts _ w_881) (dq da_X8_read 15 rfl) ?_
          refine lv_goto (tgt := 70) hx hb (dq da_X8_read 16 rfl) (by decide) ?_
          exact xret_l E hr hlk w (by decide) (congrArg Prod.fst (os h)) (congrArg Prod.snd (os h)) (dq da_X8_read 18 rfl)
      · have h := ie c5 h
        refine lv_lookup (off := 70) (tgt := 71) hx hb (dq da_X8_read 1 rfl) (by decide +kernel) (by show Op.lookupswitch.offset [(0, 35), (1, 44), (5, 50)] (70) _ = _; rw [lv_osw (k := (0 : Int32)) (a := 0) c1 rfl, lv_osw (k := (1 : Int32)) (a := 1) c4 rfl, lv_osw (k := (5 : Int32)) (a := 5) c5 rfl]; rfl) (by decide) ?_
        refine lv_lconst (v := 0) hx hb (dq da_X8_read 19 rfl) rfl ?_
        exact xret_l E hr hlk w (by decide) (congrArg Prod.fst (os h)) (congrArg Prod.snd (os h)) (dq da_X8_read 20 rfl)
def dl_X4_pendingInterrupts : List (Nat × Instr × Nat) := [(0, .aload_n 0, 1), (1, .getfield 75, 3), (4, .aload_n 0, 1), (5, .getfield 21, 3), (8, .getfield 110, 3), (11, .iconst 3, 1), (12, .lshl, 1), (13, .lor, 1), (14, .aload_n 0, 1), (15, .getfield 21, 3), (18, .getfield 59, 3), (21, .aload_n 0, 1), (22, .getfield 21, 3), (25, .getfield 113, 3), (28, .invokestatic 116, 3), (31, .ifCond .eq 7, 3), (34, .iconst 0, 1), (35, .goto 6, 3), (38, .sipush 128, 3), (41, .i2l, 1), (42, .lor, 1), (43, .aload_n 0, 1), (44, .getfield 21, 3), (47, .getfield 122, 3), (50, .iconst 0, 1), (51, .invokevirtual 126, 3), (54, .ifCond .eq 9, 3), (57, .sipush 2048, 3), (60, .goto 4, 3), (63, .iconst 0, 1), (64, .i2l, 1), (65, .lor, 1), (66, .aload_n 0, 1), (67, .getfield 21, 3), (70, .getfield 122, 3), (73, .iconst 1, 1), (74, .invokevirtual 126, 3), (77, .ifCond .eq 9, 3), (80, .sipush 512, 3), (83, .goto 4, 3), (86, .iconst 0, 1), (87, .i2l, 1), (88, .lor, 1), (89, .lreturn, 1)]
theorem da_X4_pendingInterrupts : dkL cX4_pendingInterrupts dl_X4_pendingInterrupts = true := by decide +kernel
def f_X4_pendingInterrupts_b87 (s0 : Int32) (s1 : Int64) (u : St) : Option (Int64) := some (s1 ||| s0.toInt64)
set_option maxRecDepth 100000 in
set_option maxHeartbeats 4000000 in
theorem b_X4_pendingInterrupts_b87 {p : Program} {l : Launch} {e : Env} {s : State} {m : MethodId} {args : Array Value} {below : List Frame} {meth : Method} {c : Code} {D : va_G} {cy : ClassId × ClassId × ClassId} {ad : Nat → Nat} {A : Nat → Prop} (E : CallFix p m c cX4_pendingInterrupts 1 s args gw RX4) (hr : meth.sig.returnType = some .long) (hlk : meth.locks = false) {s0 : Int32} {s1 : Int64} {u : St} {r : Int64} (h : f_X4_pendingInterrupts_b87 s0 s1 u = some r) {ls : Array Slot} {H : Heap} {locs : List Loc} {rr : Nat → Nat} (hl : lv_has ls 1 []) (w : WX (wC cy ad) D cy rr u A s H locs) : Wx (wC cy ad) D p l e 1 24 0 s m args below meth c A u (some (.long r)) H locs 0 87 ls [.int s0, .long s1] := by
  have hx := E.1
  have hb := E.2.1
  have hown := E.2.2.2.1
  have hts := E.2.2.2.2
  refine lv_i2l (v := s0.toInt64) hx hb (dq da_X4_pendingInterrupts 41 rfl) rfl ?_
  refine lv_lor hx hb (dq da_X4_pendingInterrupts 42 rfl) ?_
  exact xret_l E hr hlk w (by decide) (os h) rfl (dq da_X4_pendingInterrupts 43 rfl)
def f_X4_pendingInterrupts_b64 (s0 : Int32) (s1 : Int64) (u : St) : Option (Int64) := (f_X3_calls (1 : Int32) u).bind (fun y5 => if y5 = (0 : Int32) then (f_X4_pendingInterrupts_b87 (0 : Int32) (s1 ||| s0.toInt64) u) else (f_X4_pendingInterrupts_b87 (512 : Int32) (s1 ||| s0.toInt64) u))
set_option maxRecDepth 100000 in
set_option maxHeartbeats 4000000 in
theorem b_X4_pendingInterrupts_b64 {p : Program} {l : Launch} {e : Env} {s : State} {m : MethodId} {args : Array Value} {below : List Frame} {meth : Method} {c : Code} {D : va_G} {cy : ClassId × ClassId × ClassId} {ad : Nat → Nat} {A : Nat → Prop} (E : CallFix p m c cX4_pendingInterrupts 1 s args gw RX4) (hr : meth.sig.returnType = some .long) (hlk : meth.locks = false) {s0 : Int32} {s1 : Int64} {u : St} {r : Int64} (h : f_X4_pendingInterrupts_b64 s0 s1 u = some r) {ls : Array Slot} {H : Heap} {locs : List Loc} {rr : Nat → Nat} (hl : lv_has ls 1 [(0, .ref (ad 15))]) (w : WX (wC cy ad) D cy rr u A s H locs) : Wx (wC cy ad) D p l e 1 24 0 s m args below meth c A u (some (.long r)) H locs 0 64 ls [.int s0, .long s1] := by
  have hx := E.1
  have hb := E.2.1
  have hown := E.2.2.2.1
  have hts := E.2.2.2.2
  refine lv_i2l (v := s0.toInt64) hx hb (dq da_X4_pendingInterrupts 30 rfl) rfl ?_
  refine lv_lor hx hb (dq da_X4_pendingInterrupts 31 rfl) ?_
  refine lv_aload_n hx hb (dq da_X4_pendingInterrupts 32 rfl) rfl (lv_at hl 0 rfl) ?_
  refine gt_wC_15_bus E w w_195 (dq da_X4_pendingInterrupts 33 rfl) ?_
  refine gtN_wC_3_controller E w n_7 (dq da_X4_pendingInterrupts 34 rfl) ?_
  refine lv_iconst (v := 1) hx hb (dq da_X4_pendingInterrupts 35 rfl) rfl ?_
  obtain ⟨y5, hy6, h⟩ := ob h
  refine cV1 E (c_X3_calls l D cy ad _ _ hy6) w_577 w_578 w_579 w_5 w_580 rfl hd_X3_calls rfl hl.1 rfl (Nat.le_of_ble_eq_true rfl) ⟨Nat.le_of_ble_eq_true rfl, Nat.le_of_ble_eq_true rfl⟩ (by decide) w (rc_wC_6 w) (dq da_X4_pendingInterrupts 36 rfl) (fun H locs rr w => ?_)
  refine lv_if_eq (tgt := 86) hx hb (dq da_X4_pendingInterrupts 37 rfl) (by decide) (fun c7 => ?_) (fun c7 => ?_)
  · have h := it c7 h
    refine lv_iconst (v := 0) hx hb (dq da_X4_pendingInterrupts 40 rfl) rfl ?_
    exact b_X4_pendingInterrupts_b87 E hr hlk h (lv_sub hl [] rfl) w
  · have h := ie c7 h
    refine lv_sipush (v := 512) hx hb (dq da_X4_pendingInterrupts 38 rfl) rfl ?_
    refine lv_goto (tgt := 87) hx hb (dq da_X4_pendingInterrupts 39 rfl) (by decide) ?_
    exact b_X4_pendingInterrupts_b87 E hr hlk h (lv_sub hl [] rfl) w
def f_X4_pendingInterrupts_b41 (s0 : Int32) (s1 : Int64) (u : St) : Option (Int64) := (f_X3_calls (0 : Int32) u).bind (fun y2 => if y2 = (0 : Int32) then (f_X4_pendingInterrupts_b64 (0 : Int32) (s1 ||| s0.toInt64) u) else (f_X4_pendingInterrupts_b64 (2048 : Int32) (s1 ||| s0.toInt64) u))
set_option maxRecDepth 100000 in
set_option maxHeartbeats 4000000 in
theorem b_X4_pendingInterrupts_b41 {p : Program} {l : Launch} {e : Env} {s : State} {m : MethodId} {args : Array Value} {below : List Frame} {meth : Method} {c : Code} {D : va_G} {cy : ClassId × ClassId × ClassId} {ad : Nat → Nat} {A : Nat → Prop} (E : CallFix p m c cX4_pendingInterrupts 1 s args gw RX4) (hr : meth.sig.returnType = some .long) (hlk : meth.locks = false) {s0 : Int32} {s1 : Int64} {u : St} {r : Int64} (h : f_X4_pendingInterrupts_b41 s0 s1 u = some r) {ls : Array Slot} {H : Heap} {locs : List Loc} {rr : Nat → Nat} (hl : lv_has ls 1 [(0, .ref (ad 15))]) (w : WX (wC cy ad) D cy rr u A s H locs) : Wx (wC cy ad) D p l e 1 24 0 s m args below meth c A u (some (.long r)) H locs 0 41 ls [.int s0, .long s1] := by
  have hx := E.1
  have hb := E.2.1
  have hown := E.2.2.2.1
  have hts := E.2.2.2.2
  refine lv_i2l (v := s0.toInt64) hx hb (dq da_X4_pendingInterrupts 19 rfl) rfl ?_
  refine lv_lor hx hb (dq da_X4_pendingInterrupts 20 rfl) ?_
  refine lv_aload_n hx hb (dq da_X4_pendingInterrupts 21 rfl) rfl (lv_at hl 0 rfl) ?_
  refine gt_wC_15_bus E w w_195 (dq da_X4_pendingInterrupts 22 rfl) ?_
  refine gtN_wC_3_controller E w n_7 (dq da_X4_pendingInterrupts 23 rfl) ?_
  refine lv_iconst (v := 0) hx hb (dq da_X4_pendingInterrupts 24 rfl) rfl ?_
  obtain ⟨y2, hy3, h⟩ := ob h
  refine cV1 E (c_X3_calls l D cy ad _ _ hy3) w_577 w_578 w_579 w_5 w_580 rfl hd_X3_calls rfl hl.1 rfl (Nat.le_of_ble_eq_true rfl) ⟨Nat.le_of_ble_eq_true rfl, Nat.le_of_ble_eq_true rfl⟩ (by decide) w (rc_wC_6 w) (dq da_X4_pendingInterrupts 25 rfl) (fun H locs rr w => ?_)
  refine lv_if_eq (tgt := 63) hx hb (dq da_X4_pendingInterrupts 26 rfl) (by decide) (fun c4 => ?_) (fun c4 => ?_)
  · have h := it c4 h
    refine lv_iconst (v := 0) hx hb (dq da_X4_pendingInterrupts 29 rfl) rfl ?_
    exact b_X4_pendingInterrupts_b64 E hr hlk h (lv_sub hl [0] rfl) w
  · have h := ie c4 h
    refine lv_sipush (v := 2048) hx hb (dq da_X4_pendingInterrupts 27 rfl) rfl ?_
    refine lv_goto (tgt := 64) hx hb (dq da_X4_pendingInterrupts 28 rfl) (by decide) ?_
    exact b_X4_pendingInterrupts_b64 E hr hlk h (lv_sub hl [0] rfl) w
def f_X4_pendingInterrupts (u : St) : Option (Int64) := if (f_X0_below (gL u 2) (gL u 1)) = (0 : Int32) then (f_X4_pendingInterrupts_b41 (128 : Int32) ((gL u 8) ||| (j_lshl (gL u 0) (3 : Int32))) u) else (f_X4_pendingInterrupts_b41 (0 : Int32) ((gL u 8) ||| (j_lshl (gL u 0) (3 : Int32))) u)
set_option maxRecDepth 100000 in
set_option maxHeartbeats 4000000 in
theorem c_X4_pendingInterrupts (l : Launch) (D : va_G) (cy : ClassId × ClassId × ClassId) (ad : Nat → Nat) (u : St) {r : Int64} (h : f_X4_pendingInterrupts u = some r) : MX (wC cy ad) D cy l yX4_pendingInterrupts cX4_pendingInterrupts 1 (some .long) 1 24 0 [.ref (ad 15)] u u (some (.long (r))) := by
  refine entX (by decide +kernel) (Nat.le_of_ble_eq_true rfl) ?_
  intro p e s m args below meth c ls rr A E hr hlk hl w
  have hl : lv_has ls 1 [(0, .ref (ad 15))] := hl
  have hx := E.1
  have hb := E.2.1
  have hown := E.2.2.2.1
  have hts := E.2.2.2.2
  refine lv_aload_n hx hb (dq da_X4_pendingInterrupts 0 rfl) rfl (lv_at hl 0 rfl) ?_
  refine gt_wC_15_mip E w w_208 (dq da_X4_pendingInterrupts 1 rfl) ?_
  refine lv_aload_n hx hb (dq da_X4_pendingInterrupts 2 rfl) rfl (lv_at hl 0 rfl) ?_
  refine gt_wC_15_bus E w w_195 (dq da_X4_pendingInterrupts 3 rfl) ?_
  refine gtN_wC_3_soft E w n_10 (dq da_X4_pendingInterrupts 4 rfl) ?_
  refine lv_iconst (v := 3) hx hb (dq da_X4_pendingInterrupts 5 rfl) rfl ?_
  refine lv_lshl (v := (j_lshl (gL u 0) (3 : Int32))) hx hb (dq da_X4_pendingInterrupts 6 rfl) rfl ?_
  refine lv_lor hx hb (dq da_X4_pendingInterrupts 7 rfl) ?_
  refine lv_aload_n hx hb (dq da_X4_pendingInterrupts 8 rfl) rfl (lv_at hl 0 rfl) ?_
  refine gt_wC_15_bus E w w_195 (dq da_X4_pendingInterrupts 9 rfl) ?_
  refine gtN_wC_3_time E w n_13 (dq da_X4_pendingInterrupts 10 rfl) ?_
  refine lv_aload_n hx hb (dq da_X4_pendingInterrupts 11 rfl) rfl (lv_at hl 0 rfl) ?_
  refine gt_wC_15_bus E w w_195 (dq da_X4_pendingInterrupts 12 rfl) ?_
  refine gtN_wC_3_compare E w n_11 (dq da_X4_pendingInterrupts 13 rfl) ?_
  refine callP E (c_X0_below l _ _ ) w_573 w_574 w_17 w_575 hd_X0_below rfl hl.1 rfl (Nat.le_of_ble_eq_true rfl) ⟨Nat.le_of_ble_eq_true rfl, Nat.le_of_ble_eq_true rfl⟩ (by decide) (dq da_X4_pendingInterrupts 14 rfl) ?_
  refine lv_if_eq (tgt := 38) hx hb (dq da_X4_pendingInterrupts 15 rfl) (by decide) (fun c1 => ?_) (fun c1 => ?_)
  · have h := it c1 h
    refine lv_sipush (v := 128) hx hb (dq da_X4_pendingInterrupts 18 rfl) rfl ?_
    exact b_X4_pendingInterrupts_b41 E hr hlk h (lv_sub hl [0] rfl) w
  · have h := ie c1 h
    refine lv_iconst (v := 0) hx hb (dq da_X4_pendingInterrupts 16 rfl) rfl ?_
    refine lv_goto (tgt := 41) hx hb (dq da_X4_pendingInterrupts 17 rfl) (by decide) ?_
    exact b_X4_pendingInterrupts_b41 E hr hlk h (lv_sub hl [0] rfl) w
def dl_X4_readOfLevel : List (Nat × Instr × Nat) := [(0, .iload_n 1, 1), (1, .bipush 8, 2), (3, .ishr, 1), (4, .lookupswitch 54 #[(1, 28), (3, 41)], 28), (32, .aload_n 0, 1), (33, .getfield 18, 3), (36, .iload_n 1, 1), (37, .sipush 255, 3), (40, .iand, 1), (41, .invokevirtual 68, 3), (44, .lreturn, 1), (45, .aload_n 0, 1), (46, .getfield 14, 3), (49, .iload_n 1, 1), (50, .sipush 255, 3), (53, .iand, 1), (54, .invokevirtual 68, 3), (57, .lreturn, 1), (58, .lconst 0, 1), (59, .lreturn, 1)]
theorem da_X4_readOfLevel : dkL cX4_readOfLevel dl_X4_readOfLevel = true := by decide +kernel
def f_X4_readOfLevel (x1 : Int32) (u : St) : Int64 := if (x1 >>> ((8 : Int32) &&& 31)) = (1 : Int32) then (f_X7_read_o17 (x1 &&& (255 : Int32)) u) else if (x1 >>> ((8 : Int32) &&& 31)) = (3 : Int32) then (f_X7_read_o16 (x1 &&& (255 : Int32)) u) else (0 : Int64)
set_option maxRecDepth 100000 in
set_option maxHeartbeats 4000000 in
theorem c_X4_readOfLevel (l : Launch) (D : va_G) (cy : ClassId × ClassId × ClassId) (ad : Nat → Nat) (x1 : Int32) (u : St) : MX (wC cy ad) D cy l yX4_readOfLevel cX4_readOfLevel 2 (some .long) 1 21 0 [.ref (ad 15), .int x1] u u (some (.long (f_X4_readOfLevel x1 u))) := by
  refine entX (by decide +kernel) (Nat.le_of_ble_eq_true rfl) ?_
  intro p e s m args below meth c ls rr A E hr hlk hl w
  have hl : lv_has ls 2 [(0, .ref (ad 15)), (1, .int x1)] := hl
  generalize h : f_X4_readOfLevel x1 u = r
  have hx := E.1
  have hb := E.2.1
  have hown := E.2.2.2.1
  have hts := E.2.2.2.2
  refine lv_iload_n hx hb (dq da_X4_readOfLevel 0 rfl) rfl (lv_at hl 1 rfl) ?_
  refine lv_bipush (v := 8) hx hb (dq da_X4_readOfLevel 1 rfl) rfl ?_
  refine lv_ishr hx hb (dq da_X4_readOfLevel 2 rfl) ?_
  by_cases c1 : (x1 >>> ((8 : Int32) &&& 31)) = (1 : Int32)
  · have h := it c1 h
    refine lv_lookup (off := 28) (tgt := 32) hx hb (dq da_X4_readOfLevel 3 rfl) (by decide +kernel) (by rw [c1]; decide +kernel) (by decide) ?_
    refine lv_aload_n hx hb (dq da_X4_readOfLevel 4 rfl) rfl (lv_at hl 0 rfl) ?_
    refine gt_wC_15_supervisor E w w_198 (dq da_X4_readOfLevel 5 rfl) ?_
    refine lv_iload_n hx hb (dq da_X4_readOfLevel 6 rfl) rfl (lv_at hl 1 rfl) ?_
    refine lv_sipush (v := 255) hx hb (dq da_X4_readOfLevel 7 rfl) rfl ?_
    refine lv_iand hx hb (dq da_X4_readOfLevel 8 rfl) ?_
    refine cV1 E (c_X7_read_o17 l D cy ad _ _ ) w_587 w_588 w_589 w_8 w_590 rfl hd_X7_read rfl hl.1 rfl (Nat.le_of_ble_eq_true rfl) ⟨Nat.le_of_ble_eq_true rfl, Nat.le_of_ble_eq_true rfl⟩ (by decide) w (rc_wC_17 w) (dq da_X4_readOfLevel 9 rfl) (fun H locs rr w => ?_)
    exact xret_l E hr hlk w (by decide) h rfl (dq da_X4_readOfLevel 10 rfl)
  · have h := ie c1 h
    by_cases c2 : (x1 >>> ((8 : Int32) &&& 31)) = (3 : Int32)
    · have h := it c2 h
      refine lv_lookup (off := 41) (tgt := 45) hx hb (dq da_X4_readOfLevel 3 rfl) (by decide +kernel) (by rw [c2]; decide +kernel) (by decide) ?_
      refine lv_aload_n hx hb (dq da_X4_readOfLevel 11 rfl) rfl (lv_at hl 0 rfl) ?_
      refine gt_wC_15_machine E w w_196 (dq da_X4_readOfLevel 12 rfl) ?_
      refine lv_iload_n hx hb (dq da_X4_readOfLevel 13 rfl) rfl (lv_at hl 1 rfl) ?_
      refine lv_sipush (v := 255) hx hb (dq da_X4_readOfLevel 14 rfl) rfl ?_
      refine lv_iand hx hb (dq da_X4_readOfLevel 15 rfl) ?_
      refine cV1 E (c_X7_read_o16 l D cy ad _ _ ) w_587 w_588 w_589 w_8 w_590 rfl hd_X7_read rfl hl.1 rfl (Nat.le_of_ble_eq_true rfl) ⟨Nat.le_of_ble_eq_true rfl, Nat.le_of_ble_eq_true rfl⟩ (by decide) w (rc_wC_16 w) (dq da_X4_readOfLevel 16 rfl) (fun H locs rr w => ?_)
      exact xret_l E hr hlk w (by decide) h rfl (dq da_X4_readOfLevel 17 rfl)
    · have h := ie c2 h
      refine lv_lookup (off := 54) (tgt := 58) hx hb (dq da_X4_readOfLevel 3 rfl) (by decide +kernel) (by show Op.lookupswitch.offset [(1, 28), (3, 41)] (54) _ = _; rw [lv_osw (k := (1 : Int32)) (a := 1) c1 rfl, lv_osw (k := (3 : Int32)) (a := 3) c2 rfl]; rfl) (by decide) ?_
      refine lv_lconst (v := 0) hx hb (dq da_X4_readOfLevel 18 rfl) rfl ?_
      exact xret_l E hr hlk w (by decide) h rfl (dq da_X4_readOfLevel 19 rfl)
def dl_X4_read : List (Nat × Instr × Nat) := [(0, .iload_n 1, 1), (1, .lookupswitch 220 #[(256, 131), (260, 144), (324, 154), (384, 164), (768, 169), (769, 178), (770, 182), (771, 187), (772, 192), (836, 197), (2816, 202), (2818, 207), (3072, 202), (3073, 212), (3074, 207)], 131), (132, .aload_n 0, 1), (133, .getfield 25, 3), (136, .ldc2_w 29, 3), (139, .land, 1), (140, .ldc2_w 31, 3), (143, .lor, 1), (144, .lreturn, 1), (145, .aload_n 0, 1), (146, .getfield 33, 3), (149, .aload_n 0, 1), (150, .getfield 36, 3), (153, .land, 1), (154, .lreturn, 1), (155, .aload_n 0, 1), (156, .invokevirtual 39, 3), (159, .aload_n 0, 1), (160, .getfield 36, 3), (163, .land, 1), (164, .lreturn, 1), (165, .aload_n 0, 1), (166, .getfield 43, 3), (169, .lreturn, 1), (170, .aload_n 0, 1), (171, .getfield 25, 3), (174, .ldc2_w 46, 3), (177, .lor, 1), (178, .lreturn, 1), (179, .ldc2_w 48, 3), (182, .lreturn, 1), (183, .aload_n 0, 1), (184, .getfield 50, 3), (187, .lreturn, 1), (188, .aload_n 0, 1), (189, .getfield 36, 3), (192, .lreturn, 1), (193, .aload_n 0, 1), (194, .getfield 33, 3), (197, .lreturn, 1), (198, .aload_n 0, 1), (199, .invokevirtual 39, 3), (202, .lreturn, 1), (203, .aload_n 0, 1), (204, .getfield 53, 3), (207, .lreturn, 1), (208, .aload_n 0, 1), (209, .getfield 56, 3), (212, .lreturn, 1), (213, .aload_n 0, 1), (214, .getfield 21, 3), (217, .getfield 59, 3), (220, .lreturn, 1), (221, .aload_n 0, 1), (222, .iload_n 1, 1), (223, .invokevirtual 64, 3), (226, .lreturn, 1)]
theorem da_X4_read : dkL cX4_read dl_X4_read = true := by decide +kernel
def f_X4_read_b203 (u : St) : Option (Int64) := some (gL u 10)
set_option maxRecDepth 100000 in
set_option maxHeartbeats 4000000 in
theorem b_X4_read_b203 {p : Program} {l : Launch} {e : Env} {s : State} {m : MethodId} {args : Array Value} {below : List Frame} {meth : Method} {c : Code} {D : va_G} {cy : ClassId × ClassId × ClassId} {ad : Nat → Nat} {A : Nat → Prop} (E : CallFix p m c cX4_read 2 s args gw RX4) (hr : meth.sig.returnType = some .long) (hlk : meth.locks = false) {u : St} {r : Int64} (h : f_X4_read_b203 u = some r) {ls : Array Slot} {H : Heap} {locs : List Loc} {rr : Nat → Nat} (hl : lv_has ls 2 [(0, .ref (ad 15))]) (w : WX (wC cy ad) D cy rr u A s H locs) : Wx (wC cy ad) D p l e 2 44 0 s m args below meth c A u (some (.long r)) H locs 0 203 ls [] := by
  have hx := E.1
  have hb := E.2.1
  have hown := E.2.2.2.1
  have hts := E.2.2.2.2
  refine lv_aload_n hx hb (dq da_X4_read 43 rfl) rfl (lv_at hl 0 rfl) ?_
  refine gt_wC_15_cycle E w w_212 (dq da_X4_read 44 rfl) ?_
  exact xret_l E hr hlk w (by decide) (os h) rfl (dq da_X4_read 45 rfl)
def f_X4_read_b208 (u : St) : Option (Int64) := some (gL u 11)
set_option maxRecDepth 100000 in
set_option maxHeartbeats 4000000 in
theorem b_X4_read_b208 {p : Program} {l : Launch} {e : Env} {s : State} {m : MethodId} {args : Array Value} {below : List Frame} {meth : Method} {c : Code} {D : va_G} {cy : ClassId × ClassId × ClassId} {ad : Nat → Nat} {A : Nat → Prop} (E : CallFix p m c cX4_read 2 s args gw RX4) (hr : meth.sig.returnType = some .long) (hlk : meth.locks = false) {u : St} {r : Int64} (h : f_X4_read_b208 u = some r) {ls : Array Slot} {H : Heap} {locs : List Loc} {rr : Nat → Nat} (hl : lv_has ls 2 [(0, .ref (ad 15))]) (w : WX (wC cy ad) D cy rr u A s H locs) : Wx (wC cy ad) D p l e 2 44 0 s m args below meth c A u (some (.long r)) H locs 0 208 ls [] := by
  have hx := E.1
  have hb := E.2.1
  have hown := E.2.2.2.1
  have hts := E.2.2.2.2
  refine lv_aload_n hx hb (dq da_X4_read 46 rfl) rfl (lv_at hl 0 rfl) ?_
  refine gt_wC_15_retired E w w_214 (dq da_X4_read 47 rfl) ?_
  exact xret_l E hr hlk w (by decide) (os h) rfl (dq da_X4_read 48 rfl)
def f_X4_read (x1 : Int32) (u : St) : Option (Int64) := if x1 = (256 : Int32) then (some (((gL u 4) &&& (786722 : Int64)) ||| (8589934592 : Int64))) else if x1 = (260 : Int32) then (some ((gL u 7) &&& (gL u 6))) else if x1 = (324 : Int32) then ((f_X4_pendingInterrupts u).bind (fun y4 => some (y4 &&& (gL u 6)))) else if x1 = (384 : Int32) then (some (gL u 9)) else if x1 = (768 : Int32) then (some ((gL u 4) ||| (42949672960 : Int64))) else if x1 = (769 : Int32) then (some (-9223372036853460731 : Int64)) else if x1 = (770 : Int32) then (some (gL u 5)) else if x1 = (771 : Int32) then (some (gL u 6)) else if x1 = (772 : Int32) then (some (gL u 7)) else if x1 = (836 : Int32) then ((f_X4_pendingInterrupts u).bind (fun y13 => some y13)) else if x1 = (2816 : Int32) then (f_X4_read_b203 u) else if x1 = (2818 : Int32) then (f_X4_read_b208 u) else if x1 = (3072 : Int32) then (f_X4_read_b203 u) else if x1 = (3073 : Int32) then (some (gL u 2)) else if x1 = (3074 : Int32) then (f_X4_read_b208 u) else (some (f_X4_readOfLevel x1 u))
set_option maxRecDepth 100000 in
set_option maxHeartbeats 4000000 in
theorem c_X4_read (l : Launch) (D : va_G) (cy : ClassId × ClassId × ClassId) (ad : Nat → Nat) (x1 : Int32) (u : St) {r : Int64} (h : f_X4_read x1 u = some r) : MX (wC cy ad) D cy l yX4_read cX4_read 2 (some .long) 2 44 0 [.ref (ad 15), .int x1] u u (some (.long (r))) := by
  refine entX (by decide +kernel) (Nat.le_of_ble_eq_true rfl) ?_
  intro p e s m args below meth c ls rr A E hr hlk hl w
  have hl : lv_has ls 2 [(0, .ref (ad 15)), (1, .int x1)] := hl
  have hx := E.1
  have hb := E.2.1
  have hown := E.2.2.2.1
  have hts := E.2.2.2.2
  refine lv_iload_n hx hb (dq da_X4_read 0 rfl) rfl (lv_at hl 1 rfl) ?_
  by_cases c1 : x1 = (256 : Int32)
  · have h := it c1 h
    refine lv_lookup (off := 131) (tgt := 132) hx hb (dq da_X4_read 1 rfl) (by decide +kernel) (by rw [c1]; decide +kernel) (by decide) ?_
    refine lv_aload_n hx hb (dq da_X4_read 2 rfl) rfl (lv_at hl 0 rfl) ?_
    refine gt_wC_15_status E w w_200 (dq da_X4_read 3 rfl) ?_
    refine lv_ldc2 hx hb hown (hts _ w_567) (dq da_X4_read 4 rfl) ?_
    refine lv_land hx hb (dq da_X4_read 5 rfl) ?_
    refine lv_ldc2 hx hb hown (hts _ w_568) (dq da_X4_read 6 rfl) ?_
    refine lv_lor hx hb (dq da_X4_read 7 rfl) ?_
    exact xret_l E hr hlk w (by decide) (os h) rfl (dq da_X4_read 8 rfl)
  · have h := ie c1 h
    by_cases c2 : x1 = (260 : Int32)
    · have h := it c2 h
      refine lv_lookup (off := 144) (tgt := 145) hx hb (dq da_X4_read 1 rfl) (by decide +kernel) (by rw [c2]; decide +kernel) (by decide) ?_
      refine lv_aload_n hx hb (dq da_X4_read 9 rfl) rfl (lv_at hl 0 rfl) ?_
      refine gt_wC_15_mie E w w_207 (dq da_X4_read 10 rfl) ?_
      refine lv_aload_n hx hb (dq da_X4_read 11 rfl) rfl (lv_at hl 0 rfl) ?_
      refine gt_wC_15_mideleg E w w_205 (dq da_X4_read 12 rfl) ?_
      refine lv_land hx hb (dq da_X4_read 13 rfl) ?_
      exact xret_l E hr hlk w (by decide) (os h) rfl (dq da_X4_read 14 rfl)
    · have h := ie c2 h
      by_cases c3 : x1 = (324 : Int32)
      · have h := it c3 h
        refine lv_lookup (off := 154) (tgt := 155) hx hb (dq da_X4_read 1 rfl) (by decide +kernel) (by rw [c3]; decide +kernel) (by decide) ?_
        refine lv_aload_n hx hb (dq da_X4_read 15 rfl) rfl (lv_at hl 0 rfl) ?_
        obtain ⟨y4, hy5, h⟩ := ob h
        refine cV1 E (c_X4_pendingInterrupts l D cy ad _ hy5) w_569 w_570 w_571 w_7 w_572 rfl hd_X4_pendingInterrupts rfl hl.1 rfl (Nat.le_of_ble_eq_true rfl) ⟨Nat.le_of_ble_eq_true rfl, Nat.le_of_ble_eq_true rfl⟩ (by decide) w (rc_wC_15 w) (dq da_X4_read 16 rfl) (fun H locs rr w => ?_)
        refine lv_aload_n hx hb (dq da_X4_read 17 rfl) rfl (lv_at hl 0 rfl) ?_
        refine gt_wC_15_mideleg E w w_205 (dq da_X4_read 18 rfl) ?_
        refine lv_land hx hb (dq da_X4_read 19 rfl) ?_
        exact xret_l E hr hlk w (by decide) (os h) rfl (dq da_X4_read 20 rfl)
      · have h := ie c3 h
        by_cases c6 : x1 = (384 : Int32)
        · have h := it c6 h
          refine lv_lookup (off := 164) (tgt := 165) hx hb (dq da_X4_read 1 rfl) (by decide +kernel) (by rw [c6]; decide +kernel) (by decide) ?_
          refine lv_aload_n hx hb (dq da_X4_read 21 rfl) rfl (lv_at hl 0 rfl) ?_
          refine gt_wC_15_satp E w w_210 (dq da_X4_read 22 rfl) ?_
          exact xret_l E hr hlk w (by decide) (os h) rfl (dq da_X4_read 23 rfl)
        · have h := ie c6 h
          by_cases c7 : x1 = (768 : Int32)
          · have h := it c7 h
            refine lv_lookup (off := 169) (tgt := 170) hx hb (dq da_X4_read 1 rfl) (by decide +kernel) (by rw [c7]; decide +kernel) (by decide) ?_
            refine lv_aload_n hx hb (dq da_X4_read 24 rfl) rfl (lv_at hl 0 rfl) ?_
            refine gt_wC_15_status E w w_200 (dq da_X4_read 25 rfl) ?_
            refine lv_ldc2 hx hb hown (hts _ w_581) (dq da_X4_read 26 rfl) ?_
            refine lv_lor hx hb (dq da_X4_read 27 rfl) ?_
            exact xret_l E hr hlk w (by decide) (os h) rfl (dq da_X4_read 28 rfl)
          · have h := ie c7 h
            by_cases c8 : x1 = (769 : Int32)
            · have h := it c8 h
              refine lv_lookup (off := 178) (tgt := 179) hx hb (dq da_X4_read 1 rfl) (by decide +kernel) (by rw [c8]; decide +kernel) (by decide) ?_
              refine lv_ldc2 hx hb hown (hts _ w_582) (dq da_X4_read 29 rfl) ?_
              exact xret_l E hr hlk w (by decide) (os h) rfl (dq da_X4_read 30 rfl)
            · have h := ie c8 h
              by_cases c9 : x1 = (770 : Int32)
              · have h := it c9 h
                refine lv_lookup (off := 182) (tgt := 183) hx hb (dq da_X4_read 1 rfl) (by decide +kernel) (by rw [c9]; decide +kernel) (by decide) ?_
                refine lv_aload_n hx hb (dq da_X4_read 31 rfl) rfl (lv_at hl 0 rfl) ?_
                refine gt_wC_15_medeleg E w w_202 (dq da_X4_read 32 rfl) ?_
                exact xret_l E hr hlk w (by decide) (os h) rfl (dq da_X4_read 33 rfl)
              · have h := ie c9 h
                by_cases c10 : x1 = (771 : Int32)
                · have h := it c10 h
                  refine lv_lookup (off := 187) (tgt := 188) hx hb (dq da_X4_read 1 rfl) (by decide +kernel) (by rw [c10]; decide +kernel) (by decide) ?_
                  refine lv_aload_n hx hb (dq da_X4_read 34 rfl) rfl (lv_at hl 0 rfl) ?_
                  refine gt_wC_15_mideleg E w w_205 (dq da_X4_read 35 rfl) ?_
                  exact xret_l E hr hlk w (by decide) (os h) rfl (dq da_X4_read 36 rfl)
                · have h := ie c10 h
                  by_cases c11 : x1 = (772 : Int32)
                  · have h := it c11 h
                    refine lv_lookup (off := 192) (tgt := 193) hx hb (dq da_X4_read 1 rfl) (by decide +kernel) (by rw [c11]; decide +kernel) (by decide) ?_
                    refine lv_aload_n hx hb (dq da_X4_read 37 rfl) rfl (lv_at hl 0 rfl) ?_
                    refine gt_wC_15_mie E w w_207 (dq da_X4_read 38 rfl) ?_
                    exact xret_l E hr hlk w (by decide) (os h) rfl (dq da_X4_read 39 rfl)
                  · have h := ie c11 h
                    by_cases c12 : x1 = (836 : Int32)
                    · have h := it c12 h
                      refine lv_lookup (off := 197) (tgt := 198) hx hb (dq da_X4_read 1 rfl) (by decide +kernel) (by rw [c12]; decide +kernel) (by decide) ?_
                      refine lv_aload_n hx hb (dq da_X4_read 40 rfl) rfl (lv_at hl 0 rfl) ?_
                      obtain ⟨y13, hy14, h⟩ := ob h
                      refine cV1 E (c_X4_pendingInterrupts l D cy ad _ hy14) w_569 w_570 w_571 w_7 w_572 rfl hd_X4_pendingInterrupts rfl hl.1 rfl (Nat.le_of_ble_eq_true rfl) ⟨Nat.le_of_ble_eq_true rfl, Nat.le_of_ble_eq_true rfl⟩ (by decide) w (rc_wC_15 w) (dq da_X4_read 41 rfl) (fun H locs rr w => ?_)
                      exact xret_l E hr hlk w (by decide) (os h) rfl (dq da_X4_read 42 rfl)
                    · have h := ie c12 h
                      by_cases c15 : x1 = (2816 : Int32)
                      · have h := it c15 h
                        refine lv_lookup (off := 202) (tgt := 203) hx hb (dq da_X4_read 1 rfl) (by decide +kernel) (by rw [c15]; decide +kernel) (by decide) ?_
                        exact b_X4_read_b203 E hr hlk h (lv_sub hl [0] rfl) w
                      · have h := ie c15 h
                        by_cases c16 : x1 = (2818 : Int32)
                        · have h := it c16 h
                          refine lv_lookup (off := 207) (tgt := 208) hx hb (dq da_X4_read 1 rfl) (by decide +kernel) (by rw [c16]; decide +kernel) (by decide) ?_
                          exact b_X4_read_b208 E hr hlk h (lv_sub hl [0] rfl) w
                        · have h := ie c16 h
                          by_cases c17 : x1 = (3072 : Int32)
                          · have h := it c17 h
                            refine lv_lookup (off := 202) (tgt := 203) hx hb (dq da_X4_read 1 rfl) (by decide +kernel) (by rw [c17]; decide +kernel) (by decide) ?_
                            exact b_X4_read_b203 E hr hlk h (lv_sub hl [0] rfl) w
                          · have h := ie c17 h
                            by_cases c18 : x1 = (3073 : Int32)
                            · have h := it c18 h
                              refine lv_lookup (off := 212) (tgt := 213) hx hb (dq da_X4_read 1 rfl) (by decide +kernel) (by rw [c18]; decide +kernel) (by decide) ?_
                              refine lv_aload_n hx hb (dq da_X4_read 49 rfl) rfl (lv_at hl 0 rfl) ?_
                              refine gt_wC_15_bus E w w_195 (dq da_X4_read 50 rfl) ?_
                              refine gtN_wC_3_time E w n_13 (dq da_X4_read 51 rfl) ?_
                              exact xret_l E hr hlk w (by decide) (os h) rfl (dq da_X4_read 52 rfl)
                            · have h := ie c18 h
                              by_cases c19 : x1 = (3074 : Int32)
                              · have h := it c19 h
                                refine lv_lookup (off := 207) (tgt := 208) hx hb (dq da_X4_read 1 rfl) (by decide +kernel) (by rw [c19]; decide +kernel) (by decide) ?_
                                exact b_X4_read_b208 E hr hlk h (lv_sub hl [0] rfl) w
                              · have h := ie c19 h
                                refine lv_lookup (off := 220) (tgt := 221) hx hb (dq da_X4_read 1 rfl) (by decide +kernel) (by show Op.lookupswitch.offset [(256, 131), (260, 144), (324, 154), (384, 164), (768, 169), (769, 178), (770, 182), (771, 187), (772, 192), (836, 197), (2816, 202), (2818, 207), (3072, 202), (3073, 212), (3074, 207)] (220) _ = _; rw [lv_osw (k := (256 : Int32)) (a := 256) c1 rfl, lv_osw (k := (260 : Int32)) (a := 260) c2 rfl, lv_osw (k := (324 : Int32)) (a := 324) c3 rfl, lv_osw (k := (384 : Int32)) (a := 384) c6 rfl, lv_osw (k := (768 : Int32)) (a := 768) c7 rfl, lv_osw (k := (769 : Int32)) (a := 769) c8 rfl, lv_osw (k := (770 : Int32)) (a := 770) c9 rfl, lv_osw (k := (771 : Int32)) (a := 771) c10 rfl, lv_osw (k := (772 : Int32)) (a := 772) c11 rfl, lv_osw (k := (836 : Int32)) (a := 836) c12 rfl, lv_osw (k := (2816 : Int32)) (a := 2816) c15 rfl, lv_osw (k := (2818 : Int32)) (a := 2818) c16 rfl, lv_osw (k := (3072 : Int32)) (a := 3072) c17 rfl, lv_osw (k := (3073 : Int32)) (a := 3073) c18 rfl, lv_osw (k := (3074 : Int32)) (a := 3074) c19 rfl]; rfl) (by decide) ?_
                                refine lv_aload_n hx hb (dq da_X4_read 53 rfl) rfl (lv_at hl 0 rfl) ?_
                                refine lv_iload_n hx hb (dq da_X4_read 54 rfl) rfl (lv_at hl 1 rfl) ?_
                                refine cV1 E (c_X4_readOfLevel l D cy ad _ _ ) w_583 w_585 w_p6 w_7 w_586 rfl hd_X4_readOfLevel rfl hl.1 rfl (Nat.le_of_ble_eq_true rfl) ⟨Nat.le_of_ble_eq_true rfl, Nat.le_of_ble_eq_true rfl⟩ (by decide) w (rc_wC_15 w) (dq da_X4_read 55 rfl) (fun H locs rr w => ?_)
                                exact xret_l E hr hlk w (by decide) (os h) rfl (dq da_X4_read 56 rfl)
def dl_X4_writeSatp : List (Nat × Instr × Nat) := [(0, .lload_n 1, 1), (1, .bipush 60, 2), (3, .lushr, 1), (4, .lstore_n 3, 1), (5, .lload_n 3, 1), (6, .lconst 0, 1), (7, .lcmp, 1), (8, .ifCond .eq 11, 3), (11, .lload_n 3, 1), (12, .ldc2_w 106, 3), (15, .lcmp, 1), (16, .ifCond .ne 8, 3), (19, .aload_n 0, 1), (20, .lload_n 1, 1), (21, .putfield 43, 3), (24, .return_, 1)]
theorem da_X4_writeSatp : dkL cX4_writeSatp dl_X4_writeSatp = true := by decide +kernel
def f_X4_writeSatp_b19 (x1 : Int64) (u : St) : St := (sL u 9 x1)
set_option maxRecDepth 100000 in
set_option maxHeartbeats 4000000 in
theorem b_X4_writeSatp_b19 {p : Program} {l : Launch} {e : Env} {s : State} {m : MethodId} {args : Array Value} {below : List Frame} {meth : Method} {c : Code} {D : va_G} {cy : ClassId × ClassId × ClassId} {ad : Nat → Nat} {A : Nat → Prop} (E : CallFix p m c cX4_writeSatp 5 s args gw RX4) (hr : meth.sig.returnType = none) (hlk : meth.locks = false) {x1 : Int64} {u : St} {u' : St} (h : f_X4_writeSatp_b19 x1 u = u') {ls : Array Slot} {H : Heap} {locs : List Loc} {rr : Nat → Nat} (hl : lv_has ls 5 [(0, .ref (ad 15)), (1, .long x1)]) (w : WX (wC cy ad) D cy rr u A s H locs) : Wx (wC cy ad) D p l e 0 0 0 s m args below meth c A u' none H locs 0 19 ls [] := by
  have hx := E.1
  have hb := E.2.1
  have hown := E.2.2.2.1
  have hts := E.2.2.2.2
  refine lv_aload_n hx hb (dq da_X4_writeSatp 12 rfl) rfl (lv_at hl 0 rfl) ?_
  refine lv_lload_n hx hb (dq da_X4_writeSatp 13 rfl) rfl (lv_at hl 1 rfl) ?_
  refine pt_wC_15_satp E w w_210 (dq da_X4_writeSatp 14 rfl) (fun H locs w => ?_)
  exact xret_v E hr hlk w (by decide) h (dq da_X4_writeSatp 15 rfl)
def f_X4_writeSatp (x1 : Int64) (u : St) : St := if (j_lushr x1 (60 : Int32)) = (0 : Int64) then (f_X4_writeSatp_b19 x1 u) else (if (j_lushr x1 (60 : Int32)) = (8 : Int64) then (f_X4_writeSatp_b19 x1 u) else u)
set_option maxRecDepth 100000 in
set_option maxHeartbeats 4000000 in
theorem c_X4_writeSatp (l : Launch) (D : va_G) (cy : ClassId × ClassId × ClassId) (ad : Nat → Nat) (x1 : Int64) (u : St) : MX (wC cy ad) D cy l yX4_writeSatp cX4_writeSatp 5 (none) 0 0 0 [.ref (ad 15), .long x1] u (f_X4_writeSatp x1 u) none := by
  refine entX (by decide +kernel) (Nat.le_of_ble_eq_true rfl) ?_
  intro p e s m args below meth c ls rr A E hr hlk hl w
  have hl : lv_has ls 5 [(0, .ref (ad 15)), (1, .long x1)] := hl
  generalize h : f_X4_writeSatp x1 u = u'
  have hx := E.1
  have hb := E.2.1
  have hown := E.2.2.2.1
  have hts := E.2.2.2.2
  refine lv_lload_n hx hb (dq da_X4_writeSatp 0 rfl) rfl (lv_at hl 1 rfl) ?_
  refine lv_bipush (v := 60) hx hb (dq da_X4_writeSatp 1 rfl) rfl ?_
  refine lv_lushr (v := (j_lushr x1 (60 : Int32))) hx hb (dq da_X4_writeSatp 2 rfl) rfl ?_
  refine lv_lstore_n (lv' := [(3, .long (j_lushr x1 (60 : Int32))), (0, .ref (ad 15)), (1, .long x1)]) hx hb (dq da_X4_writeSatp 3 rfl) rfl hl (by decide) rfl (fun ls hl => ?_)
  refine lv_lload_n hx hb (dq da_X4_writeSatp 4 rfl) rfl (lv_at hl 0 rfl) ?_
  refine lv_lconst (v := 0) hx hb (dq da_X4_writeSatp 5 rfl) rfl ?_
  refine lc_eq (tgt := 19) hx hb (dq da_X4_writeSatp 6 rfl) (dq da_X4_writeSatp 7 rfl) (by decide) (fun c1 => ?_) (fun c1 => ?_)
  · have h := it c1 h
    exact b_X4_writeSatp_b19 E hr hlk h (lv_sub hl [1, 2] rfl) w
  · have h := ie c1 h
    refine lv_lload_n hx hb (dq da_X4_writeSatp 8 rfl) rfl (lv_at hl 0 rfl) ?_
    refine lv_ldc2 hx hb hown (hts _ w_611) (dq da_X4_writeSatp 9 rfl) ?_
    refine lc_ne (tgt := 24) hx hb (dq da_X4_writeSatp 10 rfl) (dq da_X4_writeSatp 11 rfl) (by decide) (fun c2 => ?_) (fun c2 => ?_)
    · have h := ie c2 h
      exact xret_v E hr hlk w (by decide) h (dq da_X4_writeSatp 15 rfl)
    · have h := it c2 h
      exact b_X4_writeSatp_b19 E hr hlk h (lv_sub hl [1, 2] rfl) w
def dl_X4_writeStatus : List (Nat × Instr × Nat) := [(0, .lload_n 1, 1), (1, .ldc2_w 100, 3), (4, .land, 1), (5, .bipush 11, 2), (7, .lshr, 1), (8, .ldc2_w 78, 3), (11, .lcmp, 1), (12, .ifCond .ne 7, 3), (15, .iconst 1, 1), (16, .goto 4, 3), (19, .iconst 0, 1), (20, .istore_n 3, 1), (21, .aload_n 0, 1), (22, .aload_n 0, 1), (23, .getfield 25, 3), (26, .lload_n 1, 1), (27, .iload_n 3, 1), (28, .ifCond .eq 9, 3), (31, .ldc2_w 102, 3), (34, .goto 6, 3), (37, .ldc2_w 104, 3), (40, .invokestatic 71, 3), (43, .putfield 25, 3), (46, .return_, 1)]
theorem da_X4_writeStatus : dkL cX4_writeStatus dl_X4_writeStatus = true := by decide +kernel
def f_X4_writeStatus_b40 (s0 : Int64) (s1 : Int64) (s2 : Int64) (u : St) : St := (sL u 4 (f_X4_mixed s2 s1 s0))
set_option maxRecDepth 100000 in
set_option maxHeartbeats 4000000 in
theorem b_X4_writeStatus_b40 {p : Program} {l : Launch} {e : Env} {s : State} {m : MethodId} {args : Array Value} {below : List Frame} {meth : Method} {c : Code} {D : va_G} {cy : ClassId × ClassId × ClassId} {ad : Nat → Nat} {A : Nat → Prop} (E : CallFix p m c cX4_writeStatus 4 s args gw RX4) (hr : meth.sig.returnType = none) (hlk : meth.locks = false) {s0 : Int64} {s1 : Int64} {s2 : Int64} {u : St} {u' : St} (h : f_X4_writeStatus_b40 s0 s1 s2 u = u') {ls : Array Slot} {H : Heap} {locs : List Loc} {rr : Nat → Nat} (hl : lv_has ls 4 []) (w : WX (wC cy ad) D cy rr u A s H locs) : Wx (wC cy ad) D p l e 1 25 0 s m args below meth c A u' none H locs 0 40 ls [.long s0, .long s1, .long s2, .ref (ad 15)] := by
  have hx := E.1
  have hb := E.2.1
  have hown := E.2.2.2.1
  have hts := E.2.2.2.2
  refine callP E (c_X4_mixed l _ _ _ ) w_602 w_603 w_7 w_604 hd_X4_mixed rfl hl.1 rfl (Nat.le_of_ble_eq_true rfl) ⟨Nat.le_of_ble_eq_true rfl, Nat.le_of_ble_eq_true rfl⟩ (by decide) (dq da_X4_writeStatus 21 rfl) ?_
  refine pt_wC_15_status E w w_200 (dq da_X4_writeStatus 22 rfl) (fun H locs w => ?_)
  exact xret_v E hr hlk w (by decide) h (dq da_X4_writeStatus 23 rfl)
def f_X4_writeStatus_b20 (x1 : Int64) (s0 : Int32) (u : St) : St := if s0 = (0 : Int32) then (f_X4_writeStatus_b40 (8264106 : Int64) x1 (gL u 4) u) else (f_X4_writeStatus_b40 (8257962 : Int64) x1 (gL u 4) u)
set_option maxRecDepth 100000 in
set_option maxHeartbeats 4000000 in
theorem b_X4_writeStatus_b20 {p : Program} {l : Launch} {e : Env} {s : State} {m : MethodId} {args : Array Value} {below : List Frame} {meth : Method} {c : Code} {D : va_G} {cy : ClassId × ClassId × ClassId} {ad : Nat → Nat} {A : Nat → Prop} (E : CallFix p m c cX4_writeStatus 4 s args gw RX4) (hr : meth.sig.returnType = none) (hlk : meth.locks = false) {x1 : Int64} {s0 : Int32} {u : St} {u' : St} (h : f_X4_writeStatus_b20 x1 s0 u = u') {ls : Array Slot} {H : Heap} {locs : List Loc} {rr : Nat → Nat} (hl : lv_has ls 4 [(0, .ref (ad 15)), (1, .long x1)]) (w : WX (wC cy ad) D cy rr u A s H locs) : Wx (wC cy ad) D p l e 1 25 0 s m args below meth c A u' none H locs 0 20 ls [.int s0] := by
  have hx := E.1
  have hb := E.2.1
  have hown := E.2.2.2.1
  have hts := E.2.2.2.2
  refine lv_istore_n (lv' := [(3, .int s0), (0, .ref (ad 15)), (1, .long x1)]) hx hb (dq da_X4_writeStatus 11 rfl) rfl hl (by decide) rfl (fun ls hl => ?_)
  refine lv_aload_n hx hb (dq da_X4_writeStatus 12 rfl) rfl (lv_at hl 1 rfl) ?_
  refine lv_aload_n hx hb (dq da_X4_writeStatus 13 rfl) rfl (lv_at hl 1 rfl) ?_
  refine gt_wC_15_status E w w_200 (dq da_X4_writeStatus 14 rfl) ?_
  refine lv_lload_n hx hb (dq da_X4_writeStatus 15 rfl) rfl (lv_at hl 2 rfl) ?_
  refine lv_iload_n hx hb (dq da_X4_writeStatus 16 rfl) rfl (lv_at hl 0 rfl) ?_
  refine lv_if_eq (tgt := 37) hx hb (dq da_X4_writeStatus 17 rfl) (by decide) (fun c2 => ?_) (fun c2 => ?_)
  · have h := it c2 h
    refine lv_ldc2 hx hb hown (hts _ w_618) (dq da_X4_writeStatus 20 rfl) ?_
    exact b_X4_writeStatus_b40 E hr hlk h (lv_sub hl [] rfl) w
  · have h := ie c2 h
    refine lv_ldc2 hx hb hown (hts _ w_617) (dq da_X4_writeStatus 18 rfl) ?_
    refine lv_goto (tgt := 40) hx hb (dq da_X4_writeStatus 19 rfl) (by decide) ?_
    exact b_X4_writeStatus_b40 E hr hlk h (lv_sub hl [] rfl) w
def f_X4_writeStatus (x1 : Int64) (u : St) : St := if (j_lshr (x1 &&& (6144 : Int64)) (11 : Int32)) = (2 : Int64) then (f_X4_writeStatus_b20 x1 (1 : Int32) u) else (f_X4_writeStatus_b20 x1 (0 : Int32) u)
set_option maxRecDepth 100000 in
set_option maxHeartbeats 4000000 in
theorem c_X4_writeStatus (l : Launch) (D : va_G) (cy : ClassId × ClassId × ClassId) (ad : Nat → Nat) (x1 : Int64) (u : St) : MX (wC cy ad) D cy l yX4_writeStatus cX4_writeStatus 4 (none) 1 25 0 [.ref (ad 15), .long x1] u (f_X4_writeStatus x1 u) none := by
  refine entX (by decide +kernel) (Nat.le_of_ble_eq_true rfl) ?_
  intro p e s m args below meth c ls rr A E hr hlk hl w
  have hl : lv_has ls 4 [(0, .ref (ad 15)), (1, .long x1)] := hl
  generalize h : f_X4_writeStatus x1 u = u'
  have hx := E.1
  have hb := E.2.1
  have hown := E.2.2.2.1
  have hts := E.2.2.2.2
  refine lv_lload_n hx hb (dq da_X4_writeStatus 0 rfl) rfl (lv_at hl 1 rfl) ?_
  refine lv_ldc2 hx hb hown (hts _ w_616) (dq da_X4_writeStatus 1 rfl) ?_
  refine lv_land hx hb (dq da_X4_writeStatus 2 rfl) ?_
  refine lv_bipush (v := 11) hx hb (dq da_X4_writeStatus 3 rfl) rfl ?_
  refine lv_lshr (v := (j_lshr (x1 &&& (6144 : Int64)) (11 : Int32))) hx hb (dq da_X4_writeStatus 4 rfl) rfl ?_
  refine lv_ldc2 hx hb hown (hts _ w_606) (dq da_X4_writeStatus 5 rfl) ?_
  refine lc_ne (tgt := 19) hx hb (dq da_X4_writeStatus 6 rfl) (dq da_X4_writeStatus 7 rfl) (by decide) (fun c1 => ?_) (fun c1 => ?_)
  · have h := ie c1 h
    refine lv_iconst (v := 0) hx hb (dq da_X4_writeStatus 10 rfl) rfl ?_
    exact b_X4_writeStatus_b20 E hr hlk h (lv_sub hl [0, 1] rfl) w
  · have h := it c1 h
    refine lv_iconst (v := 1) hx hb (dq da_X4_writeStatus 8 rfl) rfl ?_
    refine lv_goto (tgt := 20) hx hb (dq da_X4_writeStatus 9 rfl) (by decide) ?_
    exact b_X4_writeStatus_b20 E hr hlk h (lv_sub hl [0, 1] rfl) w
def dl_X4_writeOfLevel : List (Nat × Instr × Nat) := [(0, .iload_n 1, 1), (1, .bipush 8, 2), (3, .ishr, 1), (4, .iconst 1, 1), (5, .if_icmp .ne 19, 3), (8, .aload_n 0, 1), (9, .getfield 18, 3), (12, .iload_n 1, 1), (13, .sipush 255, 3), (16, .iand, 1), (17, .lload_n 2, 1), (18, .invokevirtual 97, 3), (21, .goto 24, 3), (24, .iload_n 1, 1), (25, .bipush 8, 2), (27, .ishr, 1), (28, .iconst 3, 1), (29, .if_icmp .ne 16, 3), (32, .aload_n 0, 1), (33, .getfield 14, 3), (36, .iload_n 1, 1), (37, .sipush 255, 3), (40, .iand, 1), (41, .lload_n 2, 1), (42, .invokevirtual 97, 3), (45, .return_, 1)]
theorem da_X4_writeOfLevel : dkL cX4_writeOfLevel dl_X4_writeOfLevel = true := by decide +kernel
def f_X4_writeOfLevel (x1 : Int32) (x2 : Int64) (u : St) : St := if (x1 >>> ((8 : Int32) &&& 31)) = (1 : Int32) then (f_X7_write_o17 (x1 &&& (255 : Int32)) x2 u) else (if (x1 >>> ((8 : Int32) &&& 31)) = (3 : Int32) then (f_X7_write_o16 (x1 &&& (255 : Int32)) x2 u) else u)
set_option maxRecDepth 100000 in
set_option maxHeartbeats 4000000 in
theorem c_X4_writeOfLevel (l : Launch) (D : va_G) (cy : ClassId × ClassId × ClassId) (ad : Nat → Nat) (x1 : Int32) (x2 : Int64) (u : St) : MX (wC cy ad) D cy l yX4_writeOfLevel cX4_writeOfLevel 4 (none) 1 23 0 [.ref (ad 15), .int x1, .long x2] u (f_X4_writeOfLevel x1 x2 u) none := by
  refine entX (by decide +kernel) (Nat.le_of_ble_eq_true rfl) ?_
  intro p e s m args below meth c ls rr A E hr hlk hl w
  have hl : lv_has ls 4 [(0, .ref (ad 15)), (1, .int x1), (2, .long x2)] := hl
  generalize h : f_X4_writeOfLevel x1 x2 u = u'
  have hx := E.1
  have hb := E.2.1
  have hown := E.2.2.2.1
  have hts := E.2.2.2.2
  refine lv_iload_n hx hb (dq da_X4_writeOfLevel 0 rfl) rfl (lv_at hl 1 rfl) ?_
  refine lv_bipush (v := 8) hx hb (dq da_X4_writeOfLevel 1 rfl) rfl ?_
  refine lv_ishr hx hb (dq da_X4_writeOfLevel 2 rfl) ?_
  refine lv_iconst (v := 1) hx hb (dq da_X4_writeOfLevel 3 rfl) rfl ?_
  refine lv_icmp_ne (tgt := 24) hx hb (dq da_X4_writeOfLevel 4 rfl) (by decide) (fun c1 => ?_) (fun c1 => ?_)
  · have h := ie c1 h
    refine lv_iload_n hx hb (dq da_X4_writeOfLevel 13 rfl) rfl (lv_at hl 1 rfl) ?_
    refine lv_bipush (v := 8) hx hb (dq da_X4_writeOfLevel 14 rfl) rfl ?_
    refine lv_ishr hx hb (dq da_X4_writeOfLevel 15 rfl) ?_
    refine lv_iconst (v := 3) hx hb (dq da_X4_writeOfLevel 16 rfl) rfl ?_
    refine lv_icmp_ne (tgt := 45) hx hb (dq da_X4_writeOfLevel 17 rfl) (by decide) (fun c2 => ?_) (fun c2 => ?_)
    · have h := ie c2 h
      exact xret_v E hr hlk w (by decide) h (dq da_X4_writeOfLevel 25 rfl)
    · have h := it c2 h
      refine lv_aload_n hx hb (dq da_X4_writeOfLevel 18 rfl) rfl (lv_at hl 0 rfl) ?_
      refine gt_wC_15_machine E w w_196 (dq da_X4_writeOfLevel 19 rfl) ?_
      refine lv_iload_n hx hb (dq da_X4_writeOfLevel 20 rfl) rfl (lv_at hl 1 rfl) ?_
      refine lv_sipush (v := 255) hx hb (dq da_X4_writeOfLevel 21 rfl) rfl ?_
      refine lv_iand hx hb (dq da_X4_writeOfLevel 22 rfl) ?_
      refine lv_lload_n hx hb (dq da_X4_writeOfLevel 23 rfl) rfl (lv_at hl 2 rfl) ?_
      refine cV0 E (c_X7_write_o16 l D cy ad _ _ _ ) w_626 w_627 w_628 w_8 w_629 rfl hd_X7_write rfl hl.1 rfl (Nat.le_of_ble_eq_true rfl) ⟨Nat.le_of_ble_eq_true rfl, Nat.le_of_ble_eq_true rfl⟩ (by decide) w (rc_wC_16 w) (dq da_X4_writeOfLevel 24 rfl) (fun H locs rr w => ?_)
      exact xret_v E hr hlk w (by decide) h (dq da_X4_writeOfLevel 25 rfl)
  · have h := it c1 h
    refine lv_aload_n hx hb (dq da_X4_writeOfLevel 5 rfl) rfl (lv_at hl 0 rfl) ?_
    refine gt_wC_15_supervisor E w w_198 (dq da_X4_writeOfLevel 6 rfl) ?_
    refine lv_iload_n hx hb (dq da_X4_writeOfLevel 7 rfl) rfl (lv_at hl 1 rfl) ?_
    refine lv_sipush (v := 255) hx hb (dq da_X4_writeOfLevel 8 rfl) rfl ?_
    refine lv_iand hx hb (dq da_X4_writeOfLevel 9 rfl) ?_
    refine lv_lload_n hx hb (dq da_X4_writeOfLevel 10 rfl) rfl (lv_at hl 2 rfl) ?_
    refine cV0 E (c_X7_write_o17 l D cy ad _ _ _ ) w_626 w_627 w_628 w_8 w_629 rfl hd_X7_write rfl hl.1 rfl (Nat.le_of_ble_eq_true rfl) ⟨Nat.le_of_ble_eq_true rfl, Nat.le_of_ble_eq_true rfl⟩ (by decide) w (rc_wC_17 w) (dq da_X4_writeOfLevel 11 rfl) (fun H locs rr w => ?_)
    refine lv_goto (tgt := 45) hx hb (dq da_X4_writeOfLevel 12 rfl) (by decide) ?_
    exact xret_v E hr hlk w (by decide) h (dq da_X4_writeOfLevel 25 rfl)
def dl_X4_write : List (Nat × Instr × Nat) := [(0, .iload_n 1, 1), (1, .lookupswitch 239 #[(256, 99), (260, 117), (324, 136), (384, 159), (768, 167), (770, 175), (771, 187), (772, 199), (836, 211), (2816, 223), (2818, 231)], 99), (100, .aload_n 0, 1), (101, .aload_n 0, 1), (102, .getfield 25, 3), (105, .lload_n 2, 1), (106, .ldc2_w 29, 3), (109, .invokestatic 71, 3), (112, .putfield 25, 3), (115, .goto 131, 3), (118, .aload_n 0, 1), (119, .aload_n 0, 1), (120, .getfield 33, 3), (123, .lload_n 2, 1), (124, .aload_n 0, 1), (125, .getfield 36, 3), (128, .invokestatic 71, 3), (131, .putfield 33, 3), (134, .goto 112, 3), (137, .aload_n 0, 1), (138, .aload_n 0, 1), (139, .getfield 75, 3), (142, .lload_n 2, 1), (143, .aload_n 0, 1), (144, .getfield 36, 3), (147, .ldc2_w 78, 3), (150, .land, 1), (151, .invokestatic 71, 3), (154, .putfield 75, 3), (157, .goto 89, 3), (160, .aload_n 0, 1), (161, .lload_n 2, 1), (162, .invokevirtual 80, 3), (165, .goto 81, 3), (168, .aload_n 0, 1), (169, .lload_n 2, 1), (170, .invokevirtual 84, 3), (173, .goto 73, 3), (176, .aload_n 0, 1), (177, .lload_n 2, 1), (178, .ldc2_w 87, 3), (181, .land, 1), (182, .putfield 50, 3), (185, .goto 61, 3), (188, .aload_n 0, 1), (189, .lload_n 2, 1), (190, .ldc2_w 89, 3), (193, .land, 1), (194, .putfield 36, 3), (197, .goto 49, 3), (200, .aload_n 0, 1), (201, .lload_n 2, 1), (202, .ldc2_w 91, 3), (205, .land, 1), (206, .putfield 33, 3), (209, .goto 37, 3), (212, .aload_n 0, 1), (213, .lload_n 2, 1), (214, .ldc2_w 89, 3), (217, .land, 1), (218, .putfield 75, 3), (221, .goto 25, 3), (224, .aload_n 0, 1), (225, .lload_n 2, 1), (226, .putfield 53, 3), (229, .goto 17, 3), (232, .aload_n 0, 1), (233, .lload_n 2, 1), (234, .putfield 56, 3), (237, .goto 9, 3), (240, .aload_n 0, 1), (241, .iload_n 1, 1), (242, .lload_n 2, 1), (243, .invokevirtual 93, 3), (246, .return_, 1)]
theorem da_X4_write : dkL cX4_write dl_X4_write = true := by decide +kernel
def f_X4_write (x1 : Int32) (x2 : Int64) (u : St) : St := if x1 = (256 : Int32) then (sL u 4 (f_X4_mixed (gL u 4) x2 (786722 : Int64))) else if x1 = (260 : Int32) then (sL u 7 (f_X4_mixed (gL u 7) x2 (gL u 6))) else if x1 = (324 : Int32) then (sL u 8 (f_X4_mixed (gL u 8) x2 ((gL u 6) &&& (2 : Int64)))) else if x1 = (384 : Int32) then (f_X4_writeSatp x2 u) else if x1 = (768 : Int32) then (f_X4_writeStatus x2 u) else if x1 = (770 : Int32) then (sL u 5 (x2 &&& (46079 : Int64))) else if x1 = (771 : Int32) then (sL u 6 (x2 &&& (546 : Int64))) else if x1 = (772 : Int32) then (sL u 7 (x2 &&& (2730 : Int64))) else if x1 = (836 : Int32) then (sL u 8 (x2 &&& (546 : Int64))) else if x1 = (2816 : Int32) then (sL u 10 x2) else if x1 = (2818 : Int32) then (sL u 11 x2) else (f_X4_writeOfLevel x1 x2 u)
set_option maxRecDepth 100000 in
set_option maxHeartbeats 4000000 in
theorem c_X4_write (l : Launch) (D : va_G) (cy : ClassId × ClassId × ClassId) (ad : Nat → Nat) (x1 : Int32) (x2 : Int64) (u : St) : MX (wC cy ad) D cy l yX4_write cX4_write 4 (none) 2 48 0 [.ref (ad 15), .int x1, .long x2] u (f_X4_write x1 x2 u) none := by
  refine entX (by decide +kernel) (Nat.le_of_ble_eq_true rfl) ?_
  intro p e s m args below meth c ls rr A E hr hlk hl w
  have hl : lv_has ls 4 [(0, .ref (ad 15)), (1, .int x1), (2, .long x2)] := hl
  generalize h : f_X4_write x1 x2 u = u'
  have hx := E.1
  have hb := E.2.1
  have hown := E.2.2.2.1
  have hts := E.2.2.2.2
  refine lv_iload_n hx hb (dq da_X4_write 0 rfl) rfl (lv_at hl 1 rfl) ?_
  by_cases c1 : x1 = (256 : Int32)
  · have h := it c1 h
    refine lv_lookup (off := 99) (tgt := 100) hx hb (dq da_X4_write 1 rfl) (by decide +kernel) (by rw [c1]; decide +kernel) (by decide) ?_
    refine lv_aload_n hx hb (dq da_X4_write 2 rfl) rfl (lv_at hl 0 rfl) ?_
    refine lv_aload_n hx hb (dq da_X4_write 3 rfl) rfl (lv_at hl 0 rfl) ?_
    refine gt_wC_15_status E w w_200 (dq da_X4_write 4 rfl) ?_
    refine lv_lload_n hx hb (dq da_X4_write 5 rfl) rfl (lv_at hl 2 rfl) ?_
    refine lv_ldc2 hx hb hown (hts _ w_567) (dq da_X4_write 6 rfl) ?_
    refine callP E (c_X4_mixed l _ _ _ ) w_602 w_603 w_7 w_604 hd_X4_mixed rfl hl.1 rfl (Nat.le_of_ble_eq_true rfl) ⟨Nat.le_of_ble_eq_true rfl, Nat.le_of_ble_eq_true rfl⟩ (by decide) (dq da_X4_write 7 rfl) ?_
    refine pt_wC_15_status E w w_200 (dq da_X4_write 8 rfl) (fun H locs w => ?_)
    refine lv_goto (tgt := 246) hx hb (dq da_X4_write 9 rfl) (by decide) ?_
    exact xret_v E hr hlk w (by decide) h (dq da_X4_write 74 rfl)
  · have h := ie c1 h
    by_cases c2 : x1 = (260 : Int32)
    · have h := it c2 h
      refine lv_lookup (off := 117) (tgt := 118) hx hb (dq da_X4_write 1 rfl) (by decide +kernel) (by rw [c2]; decide +kernel) (by decide) ?_
      refine lv_aload_n hx hb (dq da_X4_write 10 rfl) rfl (lv_at hl 0 rfl) ?_
      refine lv_aload_n hx hb (dq da_X4_write 11 rfl) rfl (lv_at hl 0 rfl) ?_
      refine gt_wC_15_mie E w w_207 (dq da_X4_write 12 rfl) ?_
      refine lv_lload_n hx hb (dq da_X4_write 13 rfl) rfl (lv_at hl 2 rfl) ?_
      refine lv_aload_n hx hb (dq da_X4_write 14 rfl) rfl (lv_at hl 0 rfl) ?_
      refine gt_wC_15_mideleg E w w_205 (dq da_X4_write 15 rfl) ?_
      refine callP E (c_X4_mixed l _ _ _ ) w_602 w_603 w_7 w_604 hd_X4_mixed rfl hl.1 rfl (Nat.le_of_ble_eq_true rfl) ⟨Nat.le_of_ble_eq_true rfl, Nat.le_of_ble_eq_true rfl⟩ (by decide) (dq da_X4_write 16 rfl) ?_
      refine pt_wC_15_mie E w w_207 (dq da_X4_write 17 rfl) (fun H locs w => ?_)
      refine lv_goto (tgt := 246) hx hb (dq da_X4_write 18 rfl) (by decide) ?_
      exact xret_v E hr hlk w (by decide) h (dq da_X4_write 74 rfl)
    · have h := ie c2 h
      by_cases c3 : x1 = (324 : Int32)
      · have h := it c3 h
        refine lv_lookup (off := 136) (tgt := 137) hx hb (dq da_X4_write 1 rfl) (by decide +kernel) (by rw [c3]; decide +kernel) (by decide) ?_
        refine lv_aload_n hx hb (dq da_X4_write 19 rfl) rfl (lv_at hl 0 rfl) ?_
        refine lv_aload_n hx hb (dq da_X4_write 20 rfl) rfl (lv_at hl 0 rfl) ?_
        refine gt_wC_15_mip E w w_208 (dq da_X4_write 21 rfl) ?_
        refine lv_lload_n hx hb (dq da_X4_write 22 rfl) rfl (lv_at hl 2 rfl) ?_
        refine lv_aload_n hx hb (dq da_X4_write 23 rfl) rfl (lv_at hl 0 rfl) ?_
        refine gt_wC_15_mideleg E w w_205 (dq da_X4_write 24 rfl) ?_
        refine lv_ldc2 hx hb hown (hts _ w_606) (dq da_X4_write 25 rfl) ?_
        refine lv_land hx hb (dq da_X4_write 26 rfl) ?_
        refine callP E (c_X4_mixed l _ _ _ ) w_602 w_603 w_7 w_604 hd_X4_mixed rfl hl.1 rfl (Nat.le_of_ble_eq_true rfl) ⟨Nat.le_of_ble_eq_true rfl, Nat.le_of_ble_eq_true rfl⟩ (by decide) (dq da_X4_write 27 rfl) ?_
        refine pt_wC_15_mip E w w_208 (dq da_X4_write 28 rfl) (fun H locs w => ?_)
        refine lv_goto (tgt := 246) hx hb (dq da_X4_write 29 rfl) (by decide) ?_
        exact xret_v E hr hlk w (by decide) h (dq da_X4_write 74 rfl)
      · have h := ie c3 h
        by_cases c4 : x1 = (384 : Int32)
        · have h := it c4 h
          refine lv_lookup (off := 159) (tgt := 160) hx hb (dq da_X4_write 1 rfl) (by decide +kernel) (by rw [c4]; decide +kernel) (by decide) ?_
          refine lv_aload_n hx hb (dq da_X4_write 30 rfl) rfl (lv_at hl 0 rfl) ?_
          refine lv_lload_n hx hb (dq da_X4_write 31 rfl) rfl (lv_at hl 2 rfl) ?_
          refine cV0 E (c_X4_writeSatp l D cy ad _ _ ) w_607 w_609 w_p7 w_7 w_610 rfl hd_X4_writeSatp rfl hl.1 rfl (Nat.le_of_ble_eq_true rfl) ⟨Nat.le_of_ble_eq_true rfl, Nat.le_of_ble_eq_true rfl⟩ (by decide) w (rc_wC_15 w) (dq da_X4_write 32 rfl) (fun H locs rr w => ?_)
          refine lv_goto (tgt := 246) hx hb (dq da_X4_write 33 rfl) (by decide) ?_
          exact xret_v E hr hlk w (by decide) h (dq da_X4_write 74 rfl)
        · have h := ie c4 h
          by_cases c5 : x1 = (768 : Int32)
          · have h := it c5 h
            refine lv_lookup (off := 167) (tgt := 168) hx hb (dq da_X4_write 1 rfl) (by decide +kernel) (by rw [c5]; decide +kernel) (by decide) ?_
            refine lv_aload_n hx hb (dq da_X4_write 34 rfl) rfl (lv_at hl 0 rfl) ?_
            refine lv_lload_n hx hb (dq da_X4_write 35 rfl) rfl (lv_at hl 2 rfl) ?_
            refine cV0 E (c_X4_writeStatus l D cy ad _ _ ) w_612 w_614 w_p8 w_7 w_615 rfl hd_X4_writeStatus rfl hl.1 rfl (Nat.le_of_ble_eq_true rfl) ⟨Nat.le_of_ble_eq_true rfl, Nat.le_of_ble_eq_true rfl⟩ (by decide) w (rc_wC_15 w) (dq da_X4_write 36 rfl) (fun H locs rr w => ?_)
            refine lv_goto (tgt := 246) hx hb (dq da_X4_write 37 rfl) (by decide) ?_
            exact xret_v E hr hlk w (by decide) h (dq da_X4_write 74 rfl)
          · have h := ie c5 h
            by_cases c6 : x1 = (770 : Int32)
            · have h := it c6 h
              refine lv_lookup (off := 175) (tgt := 176) hx hb (dq da_X4_write 1 rfl) (by decide +kernel) (by rw [c6]; decide +kernel) (by decide) ?_
              refine lv_aload_n hx hb (dq da_X4_write 38 rfl) rfl (lv_at hl 0 rfl) ?_
              refine lv_lload_n hx hb (dq da_X4_write 39 rfl) rfl (lv_at hl 2 rfl) ?_
              refine lv_ldc2 hx hb hown (hts _ w_619) (dq da_X4_write 40 rfl) ?_
              refine lv_land hx hb (dq da_X4_write 41 rfl) ?_
              refine pt_wC_15_medeleg E w w_202 (dq da_X4_write 42 rfl) (fun H locs w => ?_)
              refine lv_goto (tgt := 246) hx hb (dq da_X4_write 43 rfl) (by decide) ?_
              exact xret_v E hr hlk w (by decide) h (dq da_X4_write 74 rfl)
            · have h := ie c6 h
              by_cases c7 : x1 = (771 : Int32)
              · have h := it c7 h
                refine lv_lookup (off := 187) (tgt := 188) hx hb (dq da_X4_write 1 rfl) (by decide +kernel) (by rw [c7]; decide +kernel) (by decide) ?_
                refine lv_aload_n hx hb (dq da_X4_write 44 rfl) rfl (lv_at hl 0 rfl) ?_
                refine lv_lload_n hx hb (dq da_X4_write 45 rfl) rfl (lv_at hl 2 rfl) ?_
                refine lv_ldc2 hx hb hown (hts _ w_620) (dq da_X4_write 46 rfl) ?_
                refine lv_land hx hb (dq da_X4_write 47 rfl) ?_
                refine pt_wC_15_mideleg E w w_205 (dq da_X4_write 48 rfl) (fun H locs w => ?_)
                refine lv_goto (tgt := 246) hx hb (dq da_X4_write 49 rfl) (by decide) ?_
                exact xret_v E hr hlk w (by decide) h (dq da_X4_write 74 rfl)
              · have h := ie c7 h
                by_cases c8 : x1 = (772 : Int32)
                · have h := it c8 h
                  refine lv_lookup (off := 199) (tgt := 200) hx hb (dq da_X4_write 1 rfl) (by decide +kernel) (by rw [c8]; decide +kernel) (by decide) ?_
                  refine lv_aload_n hx hb (dq da_X4_write 50 rfl) rfl (lv_at hl 0 rfl) ?_
                  refine lv_lload_n hx hb (dq da_X4_write 51 rfl) rfl (lv_at hl 2 rfl) ?_
                  refine lv_ldc2 hx hb hown (hts _ w_621) (dq da_X4_write 52 rfl) ?_
                  refine lv_land hx hb (dq da_X4_write 53 rfl) ?_
                  refine pt_wC_15_mie E w w_207 (dq da_X4_write 54 rfl) (fun H locs w => ?_)
                  refine lv_goto (tgt := 246) hx hb (dq da_X4_write 55 rfl) (by decide) ?_
                  exact xret_v E hr hlk w (by decide) h (dq da_X4_write 74 rfl)
                · have h := ie c8 h
                  by_cases c9 : x1 = (836 : Int32)
                  · have h := it c9 h
                    refine lv_lookup (off := 211) (tgt := 212) hx hb (dq da_X4_write 1 rfl) (by decide +kernel) (by rw [c9]; decide +kernel) (by decide) ?_
                    refine lv_aload_n hx hb (dq da_X4_write 56 rfl) rfl (lv_at hl 0 rfl) ?_
                    refine lv_lload_n hx hb (dq da_X4_write 57 rfl) rfl (lv_at hl 2 rfl) ?_
                    refine lv_ldc2 hx hb hown (hts _ w_620) (dq da_X4_write 58 rfl) ?_
                    refine lv_land hx hb (dq da_X4_write 59 rfl) ?_
                    refine pt_wC_15_mip E w w_208 (dq da_X4_write 60 rfl) (fun H locs w => ?_)
                    refine lv_goto (tgt := 246) hx hb (dq da_X4_write 61 rfl) (by decide) ?_
                    exact xret_v E hr hlk w (by decide) h (dq da_X4_write 74 rfl)
                  · have h := ie c9 h
                    by_cases c10 : x1 = (2816 : Int32)
                    · have h := it c10 h
                      refine lv_lookup (off := 223) (tgt := 224) hx hb (dq da_X4_write 1 rfl) (by decide +kernel) (by rw [c10]; decide +kernel) (by decide) ?_
                      refine lv_aload_n hx hb (dq da_X4_write 62 rfl) rfl (lv_at hl 0 rfl) ?_
                      refine lv_lload_n hx hb (dq da_X4_write 63 rfl) rfl (lv_at hl 2 rfl) ?_
                      refine pt_wC_15_cycle E w w_212 (dq da_X4_write 64 rfl) (fun H locs w => ?_)
                      refine lv_goto (tgt := 246) hx hb (dq da_X4_write 65 rfl) (by decide) ?_
                      exact xret_v E hr hlk w (by decide) h (dq da_X4_write 74 rfl)
                    · have h := ie c10 h
                      by_cases c11 : x1 = (2818 : Int32)
                      · have h := it c11 h
                        refine lv_lookup (off := 231) (tgt := 232) hx hb (dq da_X4_write 1 rfl) (by decide +kernel) (by rw [c11]; decide +kernel) (by decide) ?_
                        refine lv_aload_n hx hb (dq da_X4_write 66 rfl) rfl (lv_at hl 0 rfl) ?_
                        refine lv_lload_n hx hb (dq da_X4_write 67 rfl) rfl (lv_at hl 2 rfl) ?_
                        refine pt_wC_15_retired E w w_214 (dq da_X4_write 68 rfl) (fun H locs w => ?_)
                        refine lv_goto (tgt := 246) hx hb (dq da_X4_write 69 rfl) (by decide) ?_
                        exact xret_v E hr hlk w (by decide) h (dq da_X4_write 74 rfl)
                      · have h := ie c11 h
                        refine lv_lookup (off := 239) (tgt := 240) hx hb (dq da_X4_write 1 rfl) (by decide +kernel) (by show Op.lookupswitch.offset [(256, 99), (260, 117), (324, 136), (384, 159), (768, 167), (770, 175), (771, 187), (772, 199), (836, 211), (2816, 223), (2818, 231)] (239) _ = _; rw [lv_osw (k := (256 : Int32)) (a := 256) c1 rfl, lv_osw (k := (260 : Int32)) (a := 260) c2 rfl, lv_osw (k := (324 : Int32)) (a := 324) c3 rfl, lv_osw (k := (384 : Int32)) (a := 384) c4 rfl, lv_osw (k := (768 : Int32)) (a := 768) c5 rfl, lv_osw (k := (770 : Int32)) (a := 770) c6 rfl, lv_osw (k := (771 : Int32)) (a := 771) c7 rfl, lv_osw (k := (772 : Int32)) (a := 772) c8 rfl, lv_osw (k := (836 : Int32)) (a := 836) c9 rfl, lv_osw (k := (2816 : Int32)) (a := 2816) c10 rfl, lv_osw (k := (2818 : Int32)) (a := 2818) c11 rfl]; rfl) (by decide) ?_
                        refine lv_aload_n hx hb (dq da_X4_write 70 rfl) rfl (lv_at hl 0 rfl) ?_
                        refine lv_iload_n hx hb (dq da_X4_write 71 rfl) rfl (lv_at hl 1 rfl) ?_
                        refine lv_lload_n hx hb (dq da_X4_write 72 rfl) rfl (lv_at hl 2 rfl) ?_
                        refine cV0 E (c_X4_writeOfLevel l D cy ad _ _ _ ) w_622 w_624 w_p9 w_7 w_625 rfl hd_X4_writeOfLevel rfl hl.1 rfl (Nat.le_of_ble_eq_true rfl) ⟨Nat.le_of_ble_eq_true rfl, Nat.le_of_ble_eq_true rfl⟩ (by decide) w (rc_wC_15 w) (dq da_X4_write 73 rfl) (fun H locs rr w => ?_)
                        exact xret_v E hr hlk w (by decide) h (dq da_X4_write 74 rfl)
def dl_X4_has : List (Nat × Instr × Nat) := [(0, .aload_n 0, 1), (1, .getfield 25, 3), (4, .lload_n 1, 1), (5, .land, 1), (6, .lconst 0, 1), (7, .lcmp, 1), (8, .ifCond .eq 7, 3), (11, .iconst 1, 1), (12, .goto 4, 3), (15, .iconst 0, 1), (16, .ireturn, 1)]
theorem da_X4_has : dkL cX4_has dl_X4_has = true := by decide +kernel
def f_X4_has (x1 : Int64) (u : St) : Int32 := if ((gL u 4) &&& x1) = (0 : Int64) then (0 : Int32) else (1 : Int32)
set_option maxRecDepth 100000 in
set_option maxHeartbeats 4000000 in
theorem c_X4_has (l : Launch) (D : va_G) (cy : ClassId × ClassId × ClassId) (ad : Nat → Nat) (x1 : Int64) (u : St) : MX (wC cy ad) D cy l yX4_has cX4_has 3 (some .boolean) 0 0 0 [.ref (ad 15), .long x1] u u (some (.int (f_X4_has x1 u))) := by
  refine entX (by decide +kernel) (Nat.le_of_ble_eq_true rfl) ?_
  intro p e s m args below meth c ls rr A E hr hlk hl w
  have hl : lv_has ls 3 [(0, .ref (ad 15)), (1, .long x1)] := hl
  generalize h : f_X4_has x1 u = r
  have hx := E.1
  have hb := E.2.1
  have hown := E.2.2.2.1
  have hts := E.2.2.2.2
  refine lv_aload_n hx hb (dq da_X4_has 0 rfl) rfl (lv_at hl 0 rfl) ?_
  refine gt_wC_15_status E w w_200 (dq da_X4_has 1 rfl) ?_
  refine lv_lload_n hx hb (dq da_X4_has 2 rfl) rfl (lv_at hl 1 rfl) ?_
  refine lv_land hx hb (dq da_X4_has 3 rfl) ?_
  refine lv_lconst (v := 0) hx hb (dq da_X4_has 4 rfl) rfl ?_
  refine lc_eq (tgt := 15) hx hb (dq da_X4_has 5 rfl) (dq da_X4_has 6 rfl) (by decide) (fun c1 => ?_) (fun c1 => ?_)
  · have h := it c1 h
    refine lv_iconst (v := 0) hx hb (dq da_X4_has 9 rfl) rfl ?_
    exact xret_z E hr hlk rfl w (by decide) h rfl (dq da_X4_has 10 rfl)
  · have h := ie c1 h
    refine lv_iconst (v := 1) hx hb (dq da_X4_has 7 rfl) rfl ?_
    refine lv_goto (tgt := 16) hx hb (dq da_X4_has 8 rfl) (by decide) ?_
    exact xret_z E hr hlk rfl w (by decide) h rfl (dq da_X4_has 10 rfl)
def dl_X4_put : List (Nat × Instr × Nat) := [(0, .aload_n 0, 1), (1, .iload_n 3, 1), (2, .ifCond .eq 12, 3), (5, .aload_n 0, 1), (6, .getfield 25, 3), (9, .lload_n 1, 1), (10, .lor, 1), (11, .goto 13, 3), (14, .aload_n 0, 1), (15, .getfield 25, 3), (18, .lload_n 1, 1), (19, .ldc2_w 108, 3), (22, .lxor, 1), (23, .land, 1), (24, .putfield 25, 3), (27, .return_, 1)]
theorem da_X4_put : dkL cX4_put dl_X4_put = true := by decide +kernel
def f_X4_put_b24 (s0 : Int64) (u : St) : St := (sL u 4 s0)
set_option maxRecDepth 100000 in
set_option maxHeartbeats 4000000 in
theorem b_X4_put_b24 {p : Program} {l : Launch} {e : Env} {s : State} {m : MethodId} {args : Array Value} {below : List Frame} {meth : Method} {c : Code} {D : va_G} {cy : ClassId × ClassId × ClassId} {ad : Nat → Nat} {A : Nat → Prop} (E : CallFix p m c cX4_put 4 s args gw RX4) (hr : meth.sig.returnType = none) (hlk : meth.locks = false) {s0 : Int64} {u : St} {u' : St} (h : f_X4_put_b24 s0 u = u') {ls : Array Slot} {H : Heap} {locs : List Loc} {rr : Nat → Nat} (hl : lv_has ls 4 []) (w : WX (wC cy ad) D cy rr u A s H locs) : Wx (wC cy ad) D p l e 0 0 0 s m args below meth c A u' none H locs 0 24 ls [.long s0, .ref (ad 15)] := by
  have hx := E.1
  have hb := E.2.1
  have hown := E.2.2.2.1
  have hts := E.2.2.2.2
  refine pt_wC_15_status E w w_200 (dq da_X4_put 14 rfl) (fun H locs w => ?_)
  exact xret_v E hr hlk w (by decide) h (dq da_X4_put 15 rfl)
def f_X4_put (x1 : Int64) (x3 : Int32) (u : St) : St := if x3 = (0 : Int32) then (f_X4_put_b24 ((gL u 4) &&& (x1 ^^^ (-1 : Int64))) u) else (f_X4_put_b24 ((gL u 4) ||| x1) u)
set_option maxRecDepth 100000 in
set_option maxHeartbeats 4000000 in
theorem c_X4_put (l : Launch) (D : va_G) (cy : ClassId × ClassId × ClassId) (ad : Nat → Nat) (x1 : Int64) (x3 : Int32) (u : St) : MX (wC cy ad) D cy l yX4_put cX4_put 4 (none) 0 0 0 [.ref (ad 15), .long x1, .int x3] u (f_X4_put x1 x3 u) none := by
  refine entX (by decide +kernel) (Nat.le_of_ble_eq_true rfl) ?_
  intro p e s m args below meth c ls rr A E hr hlk hl w
  have hl : lv_has ls 4 [(0, .ref (ad 15)), (1, .long x1), (3, .int x3)] := hl
  generalize h : f_X4_put x1 x3 u = u'
  have hx := E.1
  have hb := E.2.1
  have hown := E.2.2.2.1
  have hts := E.2.2.2.2
  refine lv_aload_n hx hb (dq da_X4_put 0 rfl) rfl (lv_at hl 0 rfl) ?_
  refine lv_iload_n hx hb (dq da_X4_put 1 rfl) rfl (lv_at hl 2 rfl) ?_
  refine lv_if_eq (tgt := 14) hx hb (dq da_X4_put 2 rfl) (by decide) (fun c1 => ?_) (fun c1 => ?_)
  · have h := it c1 h
    refine lv_aload_n hx hb (dq da_X4_put 8 rfl) rfl (lv_at hl 0 rfl) ?_
    refine gt_wC_15_status E w w_200 (dq da_X4_put 9 rfl) ?_
    refine lv_lload_n hx hb (dq da_X4_put 10 rfl) rfl (lv_at hl 1 rfl) ?_
    refine lv_ldc2 hx hb hown (hts _ w_605) (dq da_X4_put 11 rfl) ?_
    refine lv_lxor hx hb (dq da_X4_put 12 rfl) ?_
    refine lv_land hx hb (dq da_X4_put 13 rfl) ?_
    exact b_X4_put_b24 E hr hlk h (lv_sub hl [] rfl) w
  · have h := ie c1 h
    refine lv_aload_n hx hb (dq da_X4_put 3 rfl) rfl (lv_at hl 0 rfl) ?_
    refine gt_wC_15_status E w w_200 (dq da_X4_put 4 rfl) ?_
    refine lv_lload_n hx hb (dq da_X4_put 5 rfl) rfl (lv_at hl 1 rfl) ?_
    refine lv_lor hx hb (dq da_X4_put 6 rfl) ?_
    refine lv_goto (tgt := 24) hx hb (dq da_X4_put 7 rfl) (by decide) ?_
    exact b_X4_put_b24 E hr hlk h (lv_sub hl [] rfl) w
def dl_X4_enterSupervisor : List (Nat × Instr × Nat) := [(0, .aload_n 0, 1), (1, .ldc2_w 154, 3), (4, .aload_n 0, 1), (5, .ldc2_w 78, 3), (8, .invokevirtual 137, 3), (11, .invokevirtual 150, 3), (14, .aload_n 0, 1), (15, .ldc2_w 78, 3), (18, .iconst 0, 1), (19, .invokevirtual 150, 3), (22, .aload_n 0, 1), (23, .ldc2_w 156, 3), (26, .iload_n 1, 1), (27, .iconst 1, 1), (28, .if_icmp .ne 7, 3), (31, .iconst 1, 1), (32, .goto 4, 3), (35, .iconst 0, 1), (36, .invokevirtual 150, 3), (39, .return_, 1)]
theorem da_X4_enterSupervisor : dkL cX4_enterSupervisor dl_X4_enterSupervisor = true := by decide +kernel
def f_X4_enterSupervisor_b36 (s0 : Int32) (s1 : Int64) (u : St) : St := (f_X4_put s1 s0 u)
set_option maxRecDepth 100000 in
set_option maxHeartbeats 4000000 in
theorem b_X4_enterSupervisor_b36 {p : Program} {l : Launch} {e : Env} {s : State} {m : MethodId} {args : Array Value} {below : List Frame} {meth : Method} {c : Code} {D : va_G} {cy : ClassId × ClassId × ClassId} {ad : Nat → Nat} {A : Nat → Prop} (E : CallFix p m c cX4_enterSupervisor 2 s args gw RX4) (hr : meth.sig.returnType = none) (hlk : meth.locks = false) {s0 : Int32} {s1 : Int64} {u : St} {u' : St} (h : f_X4_enterSupervisor_b36 s0 s1 u = u') {ls : Array Slot} {H : Heap} {locs : List Loc} {rr : Nat → Nat} (hl : lv_has ls 2 []) (w : WX (wC cy ad) D cy rr u A s H locs) : Wx (wC cy ad) D p l e 1 23 0 s m args below meth c A u' none H locs 0 36 ls [.int s0, .long s1, .ref (ad 15)] := by
  have hx := E.1
  have hb := E.2.1
  have hown := E.2.2.2.1
  have hts := E.2.2.2.2
  refine cV0 E (c_X4_put l D cy ad _ _ _ ) w_685 w_687 w_p12 w_7 w_688 rfl hd_X4_put rfl hl.1 rfl (Nat.le_of_ble_eq_true rfl) ⟨Nat.le_of_ble_eq_true rfl, Nat.le_of_ble_eq_true rfl⟩ (by decide) w (rc_wC_15 w) (dq da_X4_enterSupervisor 18 rfl) (fun H locs rr w => ?_)
  exact xret_v E hr hlk w (by decide) h (dq da_X4_enterSupervisor 19 rfl)
def f_X4_enterSupervisor (x1 : Int32) (u : St) : St := if x1 = (1 : Int32) then (f_X4_enterSupervisor_b36 (1 : Int32) (256 : Int64) (f_X4_put (2 : Int64) (0 : Int32) (f_X4_put (32 : Int64) (f_X4_has (2 : Int64) u) u))) else (f_X4_enterSupervisor_b36 (0 : Int32) (256 : Int64) (f_X4_put (2 : Int64) (0 : Int32) (f_X4_put (32 : Int64) (f_X4_has (2 : Int64) u) u)))
set_option maxRecDepth 100000 in
set_option maxHeartbeats 4000000 in
theorem c_X4_enterSupervisor (l : Launch) (D : va_G) (cy : ClassId × ClassId × ClassId) (ad : Nat → Nat) (x1 : Int32) (u : St) : MX (wC cy ad) D cy l yX4_enterSupervisor cX4_enterSupervisor 2 (none) 1 23 0 [.ref (ad 15), .int x1] u (f_X4_enterSupervisor x1 u) none := by
  refine entX (by decide +kernel) (Nat.le_of_ble_eq_true rfl) ?_
  intro p e s m args below meth c ls rr A E hr hlk hl w
  have hl : lv_has ls 2 [(0, .ref (ad 15)), (1, .int x1)] := hl
  generalize h : f_X4_enterSupervisor x1 u = u'
  have hx := E.1
  have hb := E.2.1
  have hown := E.2.2.2.1
  have hts := E.2.2.2.2
  refine lv_aload_n hx hb (dq da_X4_enterSupervisor 0 rfl) rfl (lv_at hl 0 rfl) ?_
  refine lv_ldc2 hx hb hown (hts _ w_683) (dq da_X4_enterSupervisor 1 rfl) ?_
  refine lv_aload_n hx hb (dq da_X4_enterSupervisor 2 rfl) rfl (lv_at hl 0 rfl) ?_
  refine lv_ldc2 hx hb hown (hts _ w_606) (dq da_X4_enterSupervisor 3 rfl) ?_
  refine cV1 E (c_X4_has l D cy ad _ _ ) w_684 w_665 w_666 w_7 w_667 rfl hd_X4_has rfl hl.1 rfl (Nat.le_of_ble_eq_true rfl) ⟨Nat.le_of_ble_eq_true rfl, Nat.le_of_ble_eq_true rfl⟩ (by decide) w (rc_wC_15 w) (dq da_X4_enterSupervisor 4 rfl) (fun H locs rr w => ?_)
  refine cV0 E (c_X4_put l D cy ad _ _ _ ) w_685 w_687 w_p12 w_7 w_688 rfl hd_X4_put rfl hl.1 rfl (Nat.le_of_ble_eq_true rfl) ⟨Nat.le_of_ble_eq_true rfl, Nat.le_of_ble_eq_true rfl⟩ (by decide) w (rc_wC_15 w) (dq da_X4_enterSupervisor 5 rfl) (fun H locs rr w => ?_)
  refine lv_aload_n hx hb (dq da_X4_enterSupervisor 6 rfl) rfl (lv_at hl 0 rfl) ?_
  refine lv_ldc2 hx hb hown (hts _ w_606) (dq da_X4_enterSupervisor 7 rfl) ?_
  refine lv_iconst (v := 0) hx hb (dq da_X4_enterSupervisor 8 rfl) rfl ?_
  refine cV0 E (c_X4_put l D cy ad _ _ _ ) w_685 w_687 w_p12 w_7 w_688 rfl hd_X4_put rfl hl.1 rfl (Nat.le_of_ble_eq_true rfl) ⟨Nat.le_of_ble_eq_true rfl, Nat.le_of_ble_eq_true rfl⟩ (by decide) w (rc_wC_15 w) (dq da_X4_enterSupervisor 9 rfl) (fun H locs rr w => ?_)
  refine lv_aload_n hx hb (dq da_X4_enterSupervisor 10 rfl) rfl (lv_at hl 0 rfl) ?_
  refine lv_ldc2 hx hb hown (hts _ w_689) (dq da_X4_enterSupervisor 11 rfl) ?_
  refine lv_iload_n hx hb (dq da_X4_enterSupervisor 12 rfl) rfl (lv_at hl 1 rfl) ?_
  refine lv_iconst (v := 1) hx hb (dq da_X4_enterSupervisor 13 rfl) rfl ?_
  refine lv_icmp_ne (tgt := 35) hx hb (dq da_X4_enterSupervisor 14 rfl) (by decide) (fun c1 => ?_) (fun c1 => ?_)
  · have h := ie c1 h
    refine lv_iconst (v := 0) hx hb (dq da_X4_enterSupervisor 17 rfl) rfl ?_
    exact b_X4_enterSupervisor_b36 E hr hlk h (lv_sub hl [] rfl) w
  · have h := it c1 h
    refine lv_iconst (v := 1) hx hb (dq da_X4_enterSupervisor 15 rfl) rfl ?_
    refine lv_goto (tgt := 36) hx hb (dq da_X4_enterSupervisor 16 rfl) (by decide) ?_
    exact b_X4_enterSupervisor_b36 E hr hlk h (lv_sub hl [] rfl) w
def dl_X4_enterMachine : List (Nat × Instr × Nat) := [(0, .aload_n 0, 1), (1, .ldc2_w 148, 3), (4, .aload_n 0, 1), (5, .ldc2_w 106, 3), (8, .invokevirtual 137, 3), (11, .invokevirtual 150, 3), (14, .aload_n 0, 1), (15, .ldc2_w 106, 3), (18, .iconst 0, 1), (19, .invokevirtual 150, 3), (22, .aload_n 0, 1), (23, .aload_n 0, 1), (24, .getfield 25, 3), (27, .iload_n 1, 1), (28, .i2l, 1), (29, .bipush 11, 2), (31, .lshl, 1), (32, .ldc2_w 100, 3), (35, .invokestatic 71, 3), (38, .putfield 25, 3), (41, .return_, 1)]
theorem da_X4_enterMachine : dkL cX4_enterMachine dl_X4_enterMachine = true := by decide +kernel
def f_X4_enterMachine (x1 : Int32) (u : St) : St := (sL (f_X4_put (8 : Int64) (0 : Int32) (f_X4_put (128 : Int64) (f_X4_has (8 : Int64) u) u)) 4 (f_X4_mixed (gL (f_X4_put (8 : Int64) (0 : Int32) (f_X4_put (128 : Int64) (f_X4_has (8 : Int64) u) u)) 4) (j_lshl x1.toInt64 (11 : Int32)) (6144 : Int64)))
set_option maxRecDepth 100000 in
set_option maxHeartbeats 4000000 in
theorem c_X4_enterMachine (l : Launch) (D : va_G) (cy : ClassId × ClassId × ClassId) (ad : Nat → Nat) (x1 : Int32) (u : St) : MX (wC cy ad) D cy l yX4_enterMachine cX4_enterMachine 2 (none) 1 25 0 [.ref (ad 15), .int x1] u (f_X4_enterMachine x1 u) none := by
  refine entX (by decide +kernel) (Nat.le_of_ble_eq_true rfl) ?_
  intro p e s m args below meth c ls rr A E hr hlk hl w
  have hl : lv_has ls 2 [(0, .ref (ad 15)), (1, .int x1)] := hl
  generalize h : f_X4_enterMachine x1 u = u'
  have hx := E.1
  have hb := E.2.1
  have hown := E.2.2.2.1
  have hts := E.2.2.2.2
  refine lv_aload_n hx hb (dq da_X4_enterMachine 0 rfl) rfl (lv_at hl 0 rfl) ?_
  refine lv_ldc2 hx hb hown (hts _ w_694) (dq da_X4_enterMachine 1 rfl) ?_
  refine lv_aload_n hx hb (dq da_X4_enterMachine 2 rfl) rfl (lv_at hl 0 rfl) ?_
  refine lv_ldc2 hx hb hown (hts _ w_611) (dq da_X4_enterMachine 3 rfl) ?_
  refine cV1 E (c_X4_has l D cy ad _ _ ) w_684 w_665 w_666 w_7 w_667 rfl hd_X4_has rfl hl.1 rfl (Nat.le_of_ble_eq_true rfl) ⟨Nat.le_of_ble_eq_true rfl, Nat.le_of_ble_eq_true rfl⟩ (by decide) w (rc_wC_15 w) (dq da_X4_enterMachine 4 rfl) (fun H locs rr w => ?_)
  refine cV0 E (c_X4_put l D cy ad _ _ _ ) w_685 w_687 w_p12 w_7 w_688 rfl hd_X4_put rfl hl.1 rfl (Nat.le_of_ble_eq_true rfl) ⟨Nat.le_of_ble_eq_true rfl, Nat.le_of_ble_eq_true rfl⟩ (by decide) w (rc_wC_15 w) (dq da_X4_enterMachine 5 rfl) (fun H locs rr w => ?_)
  refine lv_aload_n hx hb (dq da_X4_enterMachine 6 rfl) rfl (lv_at hl 0 rfl) ?_
  refine lv_ldc2 hx hb hown (hts _ w_611) (dq da_X4_enterMachine 7 rfl) ?_
  refine lv_iconst (v := 0) hx hb (dq da_X4_enterMachine 8 rfl) rfl ?_
  refine cV0 E (c_X4_put l D cy ad _ _ _ ) w_685 w_687 w_p12 w_7 w_688 rfl hd_X4_put rfl hl.1 rfl (Nat.le_of_ble_eq_true rfl) ⟨Nat.le_of_ble_eq_true rfl, Nat.le_of_ble_eq_true rfl⟩ (by decide) w (rc_wC_15 w) (dq da_X4_enterMachine 9 rfl) (fun H locs rr w => ?_)
  refine lv_aload_n hx hb (dq da_X4_enterMachine 10 rfl) rfl (lv_at hl 0 rfl) ?_
  refine lv_aload_n hx hb (dq da_X4_enterMachine 11 rfl) rfl (lv_at hl 0 rfl) ?_
  refine gt_wC_15_status E w w_200 (dq da_X4_enterMachine 12 rfl) ?_
  refine lv_iload_n hx hb (dq da_X4_enterMachine 13 rfl) rfl (lv_at hl 1 rfl) ?_
  refine lv_i2l (v := x1.toInt64) hx hb (dq da_X4_enterMachine 14 rfl) rfl ?_
  refine lv_bipush (v := 11) hx hb (dq da_X4_enterMachine 15 rfl) rfl ?_
  refine lv_lshl (v := (j_lshl x1.toInt64 (11 : Int32))) hx hb (dq da_X4_enterMachine 16 rfl) rfl ?_
  refine lv_ldc2 hx hb hown (hts _ w_616) (dq da_X4_enterMachine 17 rfl) ?_
  refine callP E (c_X4_mixed l _ _ _ ) w_602 w_603 w_7 w_604 hd_X4_mixed rfl hl.1 rfl (Nat.le_of_ble_eq_true rfl) ⟨Nat.le_of_ble_eq_true rfl, Nat.le_of_ble_eq_true rfl⟩ (by decide) (dq da_X4_enterMachine 18 rfl) ?_
  refine pt_wC_15_status E w w_200 (dq da_X4_enterMachine 19 rfl) (fun H locs w => ?_)
  exact xret_v E hr hlk w (by decide) h (dq da_X4_enterMachine 20 rfl)
def dl_X4_previousPrivilege : List (Nat × Instr × Nat) := [(0, .aload_n 0, 1), (1, .getfield 25, 3), (4, .ldc2_w 100, 3), (7, .land, 1), (8, .bipush 11, 2), (10, .lshr, 1), (11, .l2i, 1), (12, .ireturn, 1)]
theorem da_X4_previousPrivilege : dkL cX4_previousPrivilege dl_X4_previousPrivilege = true := by decide +kernel
def f_X4_previousPrivilege (u : St) : Int32 := (j_lshr ((gL u 4) &&& (6144 : Int64)) (11 : Int32)).toInt32
set_option maxRecDepth 100000 in
set_option maxHeartbeats 4000000 in
theorem c_X4_previousPrivilege (l : Launch) (D : va_G) (cy : ClassId × ClassId × ClassId) (ad : Nat → Nat) (u : St) : MX (wC cy ad) D cy l yX4_previousPrivilege cX4_previousPrivilege 1 (some .int) 0 0 0 [.ref (ad 15)] u u (some (.int (f_X4_previousPrivilege u))) := by
  refine entX (by decide +kernel) (Nat.le_of_ble_eq_true rfl) ?_
  intro p e s m args below meth c ls rr A E hr hlk hl w
  have hl : lv_has ls 1 [(0, .ref (ad 15))] := hl
  generalize h : f_X4_previousPrivilege u = r
  have hx := E.1
  have hb := E.2.1
  have hown := E.2.2.2.1
  have hts := E.2.2.2.2
  refine lv_aload_n hx hb (dq da_X4_previousPrivilege 0 rfl) rfl (lv_at hl 0 rfl) ?_
  refine gt_wC_15_status E w w_200 (dq da_X4_previousPrivilege 1 rfl) ?_
  refine lv_ldc2 hx hb hown (hts _ w_616) (dq da_X4_previousPrivilege 2 rfl) ?_
  refine lv_land hx hb (dq da_X4_previousPrivilege 3 rfl) ?_
  refine lv_bipush (v := 11) hx hb (dq da_X4_previousPrivilege 4 rfl) rfl ?_
  refine lv_lshr (v := (j_lshr ((gL u 4) &&& (6144 : Int64)) (11 : Int32))) hx hb (dq da_X4_previousPrivilege 5 rfl) rfl ?_
  refine lv_l2i (v := (j_lshr ((gL u 4) &&& (6144 : Int64)) (11 : Int32)).toInt32) hx hb (dq da_X4_previousPrivilege 6 rfl) rfl ?_
  exact xret_i E hr hlk w (by decide) h rfl (dq da_X4_previousPrivilege 7 rfl)
def dl_X4_pages : List (Nat × Instr × Nat) := [(0, .iload_n 1, 1), (1, .iconst 3, 1), (2, .if_icmp .ge 21, 3), (5, .aload_n 0, 1), (6, .getfield 43, 3), (9, .bipush 60, 2), (11, .lushr, 1), (12, .ldc2_w 106, 3), (15, .lcmp, 1), (16, .ifCond .ne 7, 3), (19, .iconst 1, 1), (20, .goto 4, 3), (23, .iconst 0, 1), (24, .ireturn, 1)]
theorem da_X4_pages : dkL cX4_pages dl_X4_pages = true := by decide +kernel
def f_X4_pages_b23 (u : St) : Int32 := (0 : Int32)
set_option maxRecDepth 100000 in
set_option maxHeartbeats 4000000 in
theorem b_X4_pages_b23 {p : Program} {l : Launch} {e : Env} {s : State} {m : MethodId} {args : Array Value} {below : List Frame} {meth : Method} {c : Code} {D : va_G} {cy : ClassId × ClassId × ClassId} {ad : Nat → Nat} {A : Nat → Prop} (E : CallFix p m c cX4_pages 2 s args gw RX4) (hr : meth.sig.returnType = some .boolean) (hlk : meth.locks = false) {u : St} {r : Int32} (h : f_X4_pages_b23 u = r) {ls : Array Slot} {H : Heap} {locs : List Loc} {rr : Nat → Nat} (hl : lv_has ls 2 []) (w : WX (wC cy ad) D cy rr u A s H locs) : Wx (wC cy ad) D p l e 0 0 0 s m args below meth c A u (some (.int r)) H locs 0 23 ls [] := by
  have hx := E.1
  have hb := E.2.1
  have hown := E.2.2.2.1
  have hts := E.2.2.2.2
  refine lv_iconst (v := 0) hx hb (dq da_X4_pages 12 rfl) rfl ?_
  exact xret_z E hr hlk rfl w (by decide) h rfl (dq da_X4_pages 13 rfl)
def f_X4_pages (x1 : Int32) (u : St) : Int32 := if (3 : Int32) ≤ x1 then (f_X4_pages_b23 u) else (if (j_lushr (gL u 9) (60 : Int32)) = (8 : Int64) then (1 : Int32) else (f_X4_pages_b23 u))
set_option maxRecDepth 100000 in
set_option maxHeartbeats 4000000 in
theorem c_X4_pages (l : Launch) (D : va_G) (cy : ClassId × ClassId × ClassId) (ad : Nat → Nat) (x1 : Int32) (u : St) : MX (wC cy ad) D cy l yX4_pages cX4_pages 2 (some .boolean) 0 0 0 [.ref (ad 15), .int x1] u u (some (.int (f_X4_pages x1 u))) := by
  refine entX (by decide +kernel) (Nat.le_of_ble_eq_true rfl) ?_
  intro p e s m args below meth c ls rr A E hr hlk hl w
  have hl : lv_has ls 2 [(0, .ref (ad 15)), (1, .int x1)] := hl
  generalize h : f_X4_pages x1 u = r
  have hx := E.1
  have hb := E.2.1
  have hown := E.2.2.2.1
  have hts := E.2.2.2.2
  refine lv_iload_n hx hb (dq da_X4_pages 0 rfl) rfl (lv_at hl 1 rfl) ?_
  refine lv_iconst (v := 3) hx hb (dq da_X4_pages 1 rfl) rfl ?_
  refine lv_icmp_ge (tgt := 23) hx hb (dq da_X4_pages 2 rfl) (by decide) (fun c1 => ?_) (fun c1 => ?_)
  · have h := it c1 h
    exact b_X4_pages_b23 E hr hlk h (lv_sub hl [] rfl) w
  · have h := ie c1 h
    refine lv_aload_n hx hb (dq da_X4_pages 3 rfl) rfl (lv_at hl 0 rfl) ?_
    refine gt_wC_15_satp E w w_210 (dq da_X4_pages 4 rfl) ?_
    refine lv_bipush (v := 60) hx hb (dq da_X4_pages 5 rfl) rfl ?_
    refine lv_lushr (v := (j_lushr (gL u 9) (60 : Int32))) hx hb (dq da_X4_pages 6 rfl) rfl ?_
    refine lv_ldc2 hx hb hown (hts _ w_611) (dq da_X4_pages 7 rfl) ?_
    refine lc_ne (tgt := 23) hx hb (dq da_X4_pages 8 rfl) (dq da_X4_pages 9 rfl) (by decide) (fun c2 => ?_) (fun c2 => ?_)
    · have h := ie c2 h
      exact b_X4_pages_b23 E hr hlk h (lv_sub hl [] rfl) w
    · have h := it c2 h
      refine lv_iconst (v := 1) hx hb (dq da_X4_pages 10 rfl) rfl ?_
      refine lv_goto (tgt := 24) hx hb (dq da_X4_pages 11 rfl) (by decide) ?_
      exact xret_z E hr hlk rfl w (by decide) h rfl (dq da_X4_pages 13 rfl)
def dl_X4_leaveMachine : List (Nat × Instr × Nat) := [(0, .aload_n 0, 1), (1, .invokevirtual 158, 3), (4, .istore_n 1, 1), (5, .aload_n 0, 1), (6, .ldc2_w 106, 3), (9, .aload_n 0, 1), (10, .ldc2_w 148, 3), (13, .invokevirtual 137, 3), (16, .invokevirtual 150, 3), (19, .aload_n 0, 1), (20, .ldc2_w 148, 3), (23, .iconst 1, 1), (24, .invokevirtual 150, 3), (27, .aload_n 0, 1), (28, .ldc2_w 100, 3), (31, .iconst 0, 1), (32, .invokevirtual 150, 3), (35, .iload_n 1, 1), (36, .iconst 3, 1), (37, .if_icmp .eq 11, 3), (40, .aload_n 0, 1), (41, .ldc2_w 162, 3), (44, .iconst 0, 1), (45, .invokevirtual 150, 3), (48, .iload_n 1, 1), (49, .ireturn, 1)]
theorem da_X4_leaveMachine : dkL cX4_leaveMachine dl_X4_leaveMachine = true := by decide +kernel
def f_X4_leaveMachine_b48 (x1 : Int32) (u : St) : Int32 × St := (x1, u)
set_option maxRecDepth 100000 in
set_option maxHeartbeats 4000000 in
theorem b_X4_leaveMachine_b48 {p : Program} {l : Launch} {e : Env} {s : State} {m : MethodId} {args : Array Value} {below : List Frame} {meth : Method} {c : Code} {D : va_G} {cy : ClassId × ClassId × ClassId} {ad : Nat → Nat} {A : Nat → Prop} (E : CallFix p m c cX4_leaveMachine 2 s args gw RX4) (hr : meth.sig.returnType = some .int) (hlk : meth.locks = false) {x1 : Int32} {u : St} {r : Int32} {u' : St} (h : f_X4_leaveMachine_b48 x1 u = (r, u')) {ls : Array Slot} {H : Heap} {locs : List Loc} {rr : Nat → Nat} (hl : lv_has ls 2 [(1, .int x1)]) (w : WX (wC cy ad) D cy rr u A s H locs) : Wx (wC cy ad) D p l e 1 23 0 s m args below meth c A u' (some (.int r)) H locs 0 48 ls [] := by
  have hx := E.1
  have hb := E.2.1
  have hown := E.2.2.2.1
  have hts := E.2.2.2.2
  refine lv_iload_n hx hb (dq da_X4_leaveMachine 24 rfl) rfl (lv_at hl 0 rfl) ?_
  exact xret_i E hr hlk w (by decide) (congrArg Prod.fst h) (congrArg Prod.snd h) (dq da_X4_leaveMachine 25 rfl)
def f_X4_leaveMachine (u : St) : Int32 × St := if (f_X4_previousPrivilege u) = (3 : Int32) then (f_X4_leaveMachine_b48 (f_X4_previousPrivilege u) (f_X4_put (6144 : Int64) (0 : Int32) (f_X4_put (128 : Int64) (1 : Int32) (f_X4_put (8 : Int64) (f_X4_has (128 : Int64) u) u)))) else (f_X4_leaveMachine_b48 (f_X4_previousPrivilege u) (f_X4_put (131072 : Int64) (0 : Int32) (f_X4_put (6144 : Int64) (0 : Int32) (f_X4_put (128 : Int64) (1 : Int32) (f_X4_put (8 : Int64) (f_X4_has (128 : Int64) u) u)))))
set_option maxRecDepth 100000 in
set_option maxHeartbeats 4000000 in
theorem c_X4_leaveMachine (l : Launch) (D : va_G) (cy : ClassId × ClassId × ClassId) (ad : Nat → Nat) (u : St) : MX (wC cy ad) D cy l yX4_leaveMachine cX4_leaveMachine 2 (some .int) 1 23 0 [.ref (ad 15)] u ((f_X4_leaveMachine u).2) (some (.int ((f_X4_leaveMachine u).1))) := by
  refine entX (by decide +kernel) (Nat.le_of_ble_eq_true rfl) ?_
  intro p e s m args below meth c ls rr A E hr hlk hl w
  have hl : lv_has ls 2 [(0, .ref (ad 15))] := hl
  generalize h0 : f_X4_leaveMachine u = q
  obtain ⟨r, u'⟩ := q
  have h := h0
  have hx := E.1
  have hb := E.2.1
  have hown := E.2.2.2.1
  have hts := E.2.2.2.2
  refine lv_aload_n hx hb (dq da_X4_leaveMachine 0 rfl) rfl (lv_at hl 0 rfl) ?_
  refine cV1 E (c_X4_previousPrivilege l D cy ad _ ) w_1017 w_720 w_721 w_7 w_722 rfl hd_X4_previousPrivilege rfl hl.1 rfl (Nat.le_of_ble_eq_true rfl) ⟨Nat.le_of_ble_eq_true rfl, Nat.le_of_ble_eq_true rfl⟩ (by decide) w (rc_wC_15 w) (dq da_X4_leaveMachine 1 rfl) (fun H locs rr w => ?_)
  refine lv_istore_n (lv' := [(1, .int (f_X4_previousPrivilege u)), (0, .ref (ad 15))]) hx hb (dq da_X4_leaveMachine 2 rfl) rfl hl (by decide) rfl (fun ls hl => ?_)
  refine lv_aload_n hx hb (dq da_X4_leaveMachine 3 rfl) rfl (lv_at hl 1 rfl) ?_
  refine lv_ldc2 hx hb hown (hts _ w_611) (dq da_X4_leaveMachine 4 rfl) ?_
  refine lv_aload_n hx hb (dq da_X4_leaveMachine 5 rfl) rfl (lv_at hl 1 rfl) ?_
  refine lv_ldc2 hx hb hown (hts _ w_694) (dq da_X4_leaveMachine 6 rfl) ?_
  refine cV1 E (c_X4_has l D cy ad _ _ ) w_684 w_665 w_666 w_7 w_667 rfl hd_X4_has rfl hl.1 rfl (Nat.le_of_ble_eq_true rfl) ⟨Nat.le_of_ble_eq_true rfl, Nat.le_of_ble_eq_true rfl⟩ (by decide) w (rc_wC_15 w) (dq da_X4_leaveMachine 7 rfl) (fun H locs rr w => ?_)
  refine cV0 E (c_X4_put l D cy ad _ _ _ ) w_685 w_687 w_p12 w_7 w_688 rfl hd_X4_put rfl hl.1 rfl (Nat.le_of_ble_eq_true rfl) ⟨Nat.le_of_ble_eq_true rfl, Nat.le_of_ble_eq_true rfl⟩ (by decide) w (rc_wC_15 w) (dq da_X4_leaveMachine 8 rfl) (fun H locs rr w => ?_)
  refine lv_aload_n hx hb (dq da_X4_leaveMachine 9 rfl) rfl (lv_at hl 1 rfl) ?_
  refine lv_ldc2 hx hb hown (hts _ w_694) (dq da_X4_leaveMachine 10 rfl) ?_
  refine lv_iconst (v := 1) hx hb (dq da_X4_leaveMachine 11 rfl) rfl ?_
  refine cV0 E (c_X4_put l D cy ad _ _ _ ) w_685 w_687 w_p12 w_7 w_688 rfl hd_X4_put rfl hl.1 rfl (Nat.le_of_ble_eq_true rfl) ⟨Nat.le_of_ble_eq_true rfl, Nat.le_of_ble_eq_true rfl⟩ (by decide) w (rc_wC_15 w) (dq da_X4_leaveMachine 12 rfl) (fun H locs rr w => ?_)
  refine lv_aload_n hx hb (dq da_X4_leaveMachine 13 rfl) rfl (lv_at hl 1 rfl) ?_
  refine lv_ldc2 hx hb hown (hts _ w_616) (dq da_X4_leaveMachine 14 rfl) ?_
  refine lv_iconst (v := 0) hx hb (dq da_X4_leaveMachine 15 rfl) rfl ?_
  refine cV0 E (c_X4_put l D cy ad _ _ _ ) w_685 w_687 w_p12 w_7 w_688 rfl hd_X4_put rfl hl.1 rfl (Nat.le_of_ble_eq_true rfl) ⟨Nat.le_of_ble_eq_true rfl, Nat.le_of_ble_eq_true rfl⟩ (by decide) w (rc_wC_15 w) (dq da_X4_leaveMachine 16 rfl) (fun H locs rr w => ?_)
  refine lv_iload_n hx hb (dq da_X4_leaveMachine 17 rfl) rfl (lv_at hl 0 rfl) ?_
  refine lv_iconst (v := 3) hx hb (dq da_X4_leaveMachine 18 rfl) rfl ?_
  refine lv_icmp_eq (tgt := 48) hx hb (dq da_X4_leaveMachine 19 rfl) (by decide) (fun c1 => ?_) (fun c1 => ?_)
  · have h := it c1 h
    exact b_X4_leaveMachine_b48 E hr hlk h (lv_sub hl [0] rfl) w
  · have h := ie c1 h
    refine lv_aload_n hx hb (dq da_X4_leaveMachine 20 rfl) rfl (lv_at hl 1 rfl) ?_
    refine lv_ldc2 hx hb hown (hts _ w_1018) (dq da_X4_leaveMachine 21 rfl) ?_
    refine lv_iconst (v := 0) hx hb (dq da_X4_leaveMachine 22 rfl) rfl ?_
    refine cV0 E (c_X4_put l D cy ad _ _ _ ) w_685 w_687 w_p12 w_7 w_688 rfl hd_X4_put rfl hl.1 rfl (Nat.le_of_ble_eq_true rfl) ⟨Nat.le_of_ble_eq_true rfl, Nat.le_of_ble_eq_true rfl⟩ (by decide) w (rc_wC_15 w) (dq da_X4_leaveMachine 23 rfl) (fun H locs rr w => ?_)
    exact b_X4_leaveMachine_b48 E hr hlk h (lv_sub hl [0] rfl) w
def dl_X4_leaveSupervisor : List (Nat × Instr × Nat) := [(0, .aload_n 0, 1), (1, .ldc2_w 156, 3), (4, .invokevirtual 137, 3), (7, .ifCond .eq 7, 3), (10, .iconst 1, 1), (11, .goto 4, 3), (14, .iconst 0, 1), (15, .istore_n 1, 1), (16, .aload_n 0, 1), (17, .ldc2_w 78, 3), (20, .aload_n 0, 1), (21, .ldc2_w 154, 3), (24, .invokevirtual 137, 3), (27, .invokevirtual 150, 3), (30, .aload_n 0, 1), (31, .ldc2_w 154, 3), (34, .iconst 1, 1), (35, .invokevirtual 150, 3), (38, .aload_n 0, 1), (39, .ldc2_w 156, 3), (42, .iconst 0, 1), (43, .invokevirtual 150, 3), (46, .aload_n 0, 1), (47, .ldc2_w 162, 3), (50, .iconst 0, 1), (51, .invokevirtual 150, 3), (54, .iload_n 1, 1), (55, .ireturn, 1)]
theorem da_X4_leaveSupervisor : dkL cX4_leaveSupervisor dl_X4_leaveSupervisor = true := by decide +kernel
def f_X4_leaveSupervisor_b15 (s0 : Int32) (u : St) : Int32 × St := (s0, (f_X4_put (131072 : Int64) (0 : Int32) (f_X4_put (256 : Int64) (0 : Int32) (f_X4_put (32 : Int64) (1 : Int32) (f_X4_put (2 : Int64) (f_X4_has (32 : Int64) u) u)))))
set_option maxRecDepth 100000 in
set_option maxHeartbeats 4000000 in
theorem b_X4_leaveSupervisor_b15 {p : Program} {l : Launch} {e : Env} {s : State} {m : MethodId} {args : Array Value} {below : List Frame} {meth : Method} {c : Code} {D : va_G} {cy : ClassId × ClassId × ClassId} {ad : Nat → Nat} {A : Nat → Prop} (E : CallFix p m c cX4_leaveSupervisor 2 s args gw RX4) (hr : meth.sig.returnType = some .int) (hlk : meth.locks = false) {s0 : Int32} {u : St} {r : Int32} {u' : St} (h : f_X4_leaveSupervisor_b15 s0 u = (r, u')) {ls : Array Slot} {H : Heap} {locs : List Loc} {rr : Nat → Nat} (hl : lv_has ls 2 [(0, .ref (ad 15))]) (w : WX (wC cy ad) D cy rr u A s H locs) : Wx (wC cy ad) D p l e 1 23 0 s m args below meth c A u' (some (.int r)) H locs 0 15 ls [.int s0] := by
  have hx := E.1
  have hb := E.2.1
  have hown := E.2.2.2.1
  have hts := E.2.2.2.2
  refine lv_istore_n (lv' := [(1, .int s0), (0, .ref (ad 15))]) hx hb (dq da_X4_leaveSupervisor 7 rfl) rfl hl (by decide) rfl (fun ls hl => ?_)
  refine lv_aload_n hx hb (dq da_X4_leaveSupervisor 8 rfl) rfl (lv_at hl 1 rfl) ?_
  refine lv_ldc2 hx hb hown (hts _ w_606) (dq da_X4_leaveSupervisor 9 rfl) ?_
  refine lv_aload_n hx hb (dq da_X4_leaveSupervisor 10 rfl) rfl (lv_at hl 1 rfl) ?_
  refine lv_ldc2 hx hb hown (hts _ w_683) (dq da_X4_leaveSupervisor 11 rfl) ?_
  refine cV1 E (c_X4_has l D cy ad _ _ ) w_684 w_665 w_666 w_7 w_667 rfl hd_X4_has rfl hl.1 rfl (Nat.le_of_ble_eq_true rfl) ⟨Nat.le_of_ble_eq_true rfl, Nat.le_of_ble_eq_true rfl⟩ (by decide) w (rc_wC_15 w) (dq da_X4_leaveSupervisor 12 rfl) (fun H locs rr w => ?_)
  refine cV0 E (c_X4_put l D cy ad _ _ _ ) w_685 w_687 w_p12 w_7 w_688 rfl hd_X4_put rfl hl.1 rfl (Nat.le_of_ble_eq_true rfl) ⟨Nat.le_of_ble_eq_true rfl, Nat.le_of_ble_eq_true rfl⟩ (by decide) w (rc_wC_15 w) (dq da_X4_leaveSupervisor 13 rfl) (fun H locs rr w => ?_)
  refine lv_aload_n hx hb (dq da_X4_leaveSupervisor 14 rfl) rfl (lv_at hl 1 rfl) ?_
  refine lv_ldc2 hx hb hown (hts _ w_683) (dq da_X4_leaveSupervisor 15 rfl) ?_
  refine lv_iconst (v := 1) hx hb (dq da_X4_leaveSupervisor 16 rfl) rfl ?_
  refine cV0 E (c_X4_put l D cy ad _ _ _ ) w_685 w_687 w_p12 w_7 w_688 rfl hd_X4_put rfl hl.1 rfl (Nat.le_of_ble_eq_true rfl) ⟨Nat.le_of_ble_eq_true rfl, Nat.le_of_ble_eq_true rfl⟩ (by decide) w (rc_wC_15 w) (dq da_X4_leaveSupervisor 17 rfl) (fun H locs rr w => ?_)
  refine lv_aload_n hx hb (dq da_X4_leaveSupervisor 18 rfl) rfl (lv_at hl 1 rfl) ?_
  refine lv_ldc2 hx hb hown (hts _ w_689) (dq da_X4_leaveSupervisor 19 rfl) ?_
  refine lv_iconst (v := 0) hx hb (dq da_X4_leaveSupervisor 20 rfl) rfl ?_
  refine cV0 E (c_X4_put l D cy ad _ _ _ ) w_685 w_687 w_p12 w_7 w_688 rfl hd_X4_put rfl hl.1 rfl (Nat.le_of_ble_eq_true rfl) ⟨Nat.le_of_ble_eq_true rfl, Nat.le_of_ble_eq_true rfl⟩ (by decide) w (rc_wC_15 w) (dq da_X4_leaveSupervisor 21 rfl) (fun H locs rr w => ?_)
  refine lv_aload_n hx hb (dq da_X4_leaveSupervisor 22 rfl) rfl (lv_at hl 1 rfl) ?_
  refine lv_ldc2 hx hb hown (hts _ w_1018) (dq da_X4_leaveSupervisor 23 rfl) ?_
  refine lv_iconst (v := 0) hx hb (dq da_X4_leaveSupervisor 24 rfl) rfl ?_
  refine cV0 E (c_X4_put l D cy ad _ _ _ ) w_685 w_687 w_p12 w_7 w_688 rfl hd_X4_put rfl hl.1 rfl (Nat.le_of_ble_eq_true rfl) ⟨Nat.le_of_ble_eq_true rfl, Nat.le_of_ble_eq_true rfl⟩ (by decide) w (rc_wC_15 w) (dq da_X4_leaveSupervisor 25 rfl) (fun H locs rr w => ?_)
  refine lv_iload_n hx hb (dq da_X4_leaveSupervisor 26 rfl) rfl (lv_at hl 0 rfl) ?_
  exact xret_i E hr hlk w (by decide) (congrArg Prod.fst h) (congrArg Prod.snd h) (dq da_X4_leaveSupervisor 27 rfl)
def f_X4_leaveSupervisor (u : St) : Int32 × St := if (f_X4_has (256 : Int64) u) = (0 : Int32) then (f_X4_leaveSupervisor_b15 (0 : Int32) u) else (f_X4_leaveSupervisor_b15 (1 : Int32) u)
set_option maxRecDepth 100000 in
set_option maxHeartbeats 4000000 in
theorem c_X4_leaveSupervisor (l : Launch) (D : va_G) (cy : ClassId × ClassId × ClassId) (ad : Nat → Nat) (u : St) : MX (wC cy ad) D cy l yX4_leaveSupervisor cX4_leaveSupervisor 2 (some .int) 1 23 0 [.ref (ad 15)] u ((f_X4_leaveSupervisor u).2) (some (.int ((f_X4_leaveSupervisor u).1))) := by
  refine entX (by decide +kernel) (Nat.le_of_ble_eq_true rfl) ?_
  intro p e s m args below meth c ls rr A E hr hlk hl w
  have hl : lv_has ls 2 [(0, .ref (ad 15))] := hl
  generalize h0 : f_X4_leaveSupervisor u = q
  obtain ⟨r, u'⟩ := q
  have h := h0
  have hx := E.1
  have hb := E.2.1
  have hown := E.2.2.2.1
  have hts := E.2.2.2.2
  refine lv_aload_n hx hb (dq da_X4_leaveSupervisor 0 rfl) rfl (lv_at hl 0 rfl) ?_
  refine lv_ldc2 hx hb hown (hts _ w_689) (dq da_X4_leaveSupervisor 1 rfl) ?_
  refine cV1 E (c_X4_has l D cy ad _ _ ) w_684 w_665 w_666 w_7 w_667 rfl hd_X4_has rfl hl.1 rfl (Nat.le_of_ble_eq_true rfl) ⟨Nat.le_of_ble_eq_true rfl, Nat.le_of_ble_eq_true rfl⟩ (by decide) w (rc_wC_15 w) (dq da_X4_leaveSupervisor 2 rfl) (fun H locs rr w => ?_)
  refine lv_if_eq (tgt := 14) hx hb (dq da_X4_leaveSupervisor 3 rfl) (by decide) (fun c1 => ?_) (fun c1 => ?_)
  · have h := it c1 h
    refine lv_iconst (v := 0) hx hb (dq da_X4_leaveSupervisor 6 rfl) rfl ?_
    exact b_X4_leaveSupervisor_b15 E hr hlk h (lv_sub hl [0] rfl) w
  · have h := ie c1 h
    refine lv_iconst (v := 1) hx hb (dq da_X4_leaveSupervisor 4 rfl) rfl ?_
    refine lv_goto (tgt := 15) hx hb (dq da_X4_leaveSupervisor 5 rfl) (by decide) ?_
    exact b_X4_leaveSupervisor_b15 E hr hlk h (lv_sub hl [0] rfl) w
def dl_X4_counterIsOpen : List (Nat × Instr × Nat) := [(0, .iload_n 3, 1), (1, .iconst 3, 1), (2, .if_icmp .ne 5, 3), (5, .iconst 1, 1), (6, .ireturn, 1), (7, .aload_n 0, 1), (8, .getfield 14, 3), (11, .getfield 145, 3), (14, .lload_n 1, 1), (15, .land, 1), (16, .lconst 0, 1), (17, .lcmp, 1), (18, .ifCond .eq 7, 3), (21, .iconst 1, 1), (22, .goto 4, 3), (25, .iconst 0, 1), (26, .istore 4, 2), (28, .iload 4, 2), (30, .ifCond .eq 26, 3), (33, .iload_n 3, 1), (34, .iconst 1, 1), (35, .if_icmp .eq 17, 3), (38, .aload_n 0, 1), (39, .getfield 18, 3), (42, .getfield 145, 3), (45, .lload_n 1, 1), (46, .land, 1), (47, .lconst 0, 1), (48, .lcmp, 1), (49, .ifCond .eq 7, 3), (52, .iconst 1, 1), (53, .goto 4, 3), (56, .iconst 0, 1), (57, .ireturn, 1)]
theorem da_X4_counterIsOpen : dkL cX4_counterIsOpen dl_X4_counterIsOpen = true := by decide +kernel
def f_X4_counterIsOpen_b56 (u : St) : Int32 := (0 : Int32)
set_option maxRecDepth 100000 in
set_option maxHeartbeats 4000000 in
theorem b_X4_counterIsOpen_b56 {p : Program} {l : Launch} {e : Env} {s : State} {m : MethodId} {args : Array Value} {below : List Frame} {meth : Method} {c : Code} {D : va_G} {cy : ClassId × ClassId × ClassId} {ad : Nat → Nat} {A : Nat → Prop} (E : CallFix p m c cX4_counterIsOpen 5 s args gw RX4) (hr : meth.sig.returnType = some .boolean) (hlk : meth.locks = false) {u : St} {r : Int32} (h : f_X4_counterIsOpen_b56 u = r) {ls : Array Slot} {H : Heap} {locs : List Loc} {rr : Nat → Nat} (hl : lv_has ls 5 []) (w : WX (wC cy ad) D cy rr u A s H locs) : Wx (wC cy ad) D p l e 0 0 0 s m args below meth c A u (some (.int r)) H locs 0 56 ls [] := by
  have hx := E.1
  have hb := E.2.1
  have hown := E.2.2.2.1
  have hts := E.2.2.2.2
  refine lv_iconst (v := 0) hx hb (dq da_X4_counterIsOpen 32 rfl) rfl ?_
  exact xret_z E hr hlk rfl w (by decide) h rfl (dq da_X4_counterIsOpen 33 rfl)
def f_X4_counterIsOpen_b52 (u : St) : Int32 := (1 : Int32)
set_option maxRecDepth 100000 in
set_option maxHeartbeats 4000000 in
theorem b_X4_counterIsOpen_b52 {p : Program} {l : Launch} {e : Env} {s : State} {m : MethodId} {args : Array Value} {below : List Frame} {meth : Method} {c : Code} {D : va_G} {cy : ClassId × ClassId × ClassId} {ad : Nat → Nat} {A : Nat → Prop} (E : CallFix p m c cX4_counterIsOpen 5 s args gw RX4) (hr : meth.sig.returnType = some .boolean) (hlk : meth.locks = false) {u : St} {r : Int32} (h : f_X4_counterIsOpen_b52 u = r) {ls : Array Slot} {H : Heap} {locs : List Loc} {rr : Nat → Nat} (hl : lv_has ls 5 []) (w : WX (wC cy ad) D cy rr u A s H locs) : Wx (wC cy ad) D p l e 0 0 0 s m args below meth c A u (some (.int r)) H locs 0 52 ls [] := by
  have hx := E.1
  have hb := E.2.1
  have hown := E.2.2.2.1
  have hts := E.2.2.2.2
  refine lv_iconst (v := 1) hx hb (dq da_X4_counterIsOpen 30 rfl) rfl ?_
  refine lv_goto (tgt := 57) hx hb (dq da_X4_counterIsOpen 31 rfl) (by decide) ?_
  exact xret_z E hr hlk rfl w (by decide) h rfl (dq da_X4_counterIsOpen 33 rfl)
def f_X4_counterIsOpen_b26 (x1 : Int64) (x3 : Int32) (s0 : Int32) (u : St) : Int32 := if s0 = (0 : Int32) then (f_X4_counterIsOpen_b56 u) else (if x3 = (1 : Int32) then (f_X4_counterIsOpen_b52 u) else (if ((gL u 19) &&& x1) = (0 : Int64) then (f_X4_counterIsOpen_b56 u) else (f_X4_counterIsOpen_b52 u)))
set_option maxRecDepth 100000 in
set_option maxHeartbeats 4000000 in
theorem b_X4_counterIsOpen_b26 {p : Program} {l : Launch} {e : Env} {s : State} {m : MethodId} {args : Array Value} {below : List Frame} {meth : Method} {c : Code} {D : va_G} {cy : ClassId × ClassId × ClassId} {ad : Nat → Nat} {A : Nat → Prop} (E : CallFix p m c cX4_counterIsOpen 5 s args gw RX4) (hr : meth.sig.returnType = some .boolean) (hlk : meth.locks = false) {x1 : Int64} {x3 : Int32} {s0 : Int32} {u : St} {r : Int32} (h : f_X4_counterIsOpen_b26 x1 x3 s0 u = r) {ls : Array Slot} {H : Heap} {locs : List Loc} {rr : Nat → Nat} (hl : lv_has ls 5 [(0, .ref (ad 15)), (1, .long x1), (3, .int x3)]) (w : WX (wC cy ad) D cy rr u A s H locs) : Wx (wC cy ad) D p l e 0 0 0 s m args below meth c A u (some (.int r)) H locs 0 26 ls [.int s0] := by
  have hx := E.1
  have hb := E.2.1
  have hown := E.2.2.2.1
  have hts := E.2.2.2.2
  refine lv_istore (lv' := [(4, .int s0), (0, .ref (ad 15)), (1, .long x1), (3, .int x3)]) hx hb (dq da_X4_counterIsOpen 16 rfl) hl (by decide) rfl (fun ls hl => ?_)
  refine lv_iload hx hb (dq da_X4_counterIsOpen 17 rfl) (lv_at hl 0 rfl) ?_
  refine lv_if_eq (tgt := 56) hx hb (dq da_X4_counterIsOpen 18 rfl) (by decide) (fun c3 => ?_) (fun c3 => ?_)
  · have h := it c3 h
    exact b_X4_counterIsOpen_b56 E hr hlk h (lv_sub hl [] rfl) w
  · have h := ie c3 h
    refine lv_iload_n hx hb (dq da_X4_counterIsOpen 19 rfl) rfl (lv_at hl 3 rfl) ?_
    refine lv_iconst (v := 1) hx hb (dq da_X4_counterIsOpen 20 rfl) rfl ?_
    refine lv_icmp_eq (tgt := 52) hx hb (dq da_X4_counterIsOpen 21 rfl) (by decide) (fun c4 => ?_) (fun c4 => ?_)
    · have h := it c4 h
      exact b_X4_counterIsOpen_b52 E hr hlk h (lv_sub hl [] rfl) w
    · have h := ie c4 h
      refine lv_aload_n hx hb (dq da_X4_counterIsOpen 22 rfl) rfl (lv_at hl 1 rfl) ?_
      refine gt_wC_15_supervisor E w w_198 (dq da_X4_counterIsOpen 23 rfl) ?_
      refine gtN_wC_17_counters E w n_17 (dq da_X4_counterIsOpen 24 rfl) ?_
      refine lv_lload_n hx hb (dq da_X4_counterIsOpen 25 rfl) rfl (lv_at hl 2 rfl) ?_
      refine lv_land hx hb (dq da_X4_counterIsOpen 26 rfl) ?_
      refine lv_lconst (v := 0) hx hb (dq da_X4_counterIsOpen 27 rfl) rfl ?_
      refine lc_eq (tgt := 56) hx hb (dq da_X4_counterIsOpen 28 rfl) (dq da_X4_counterIsOpen 29 rfl) (by decide) (fun c5 => ?_) (fun c5 => ?_)
      · have h := it c5 h
        exact b_X4_counterIsOpen_b56 E hr hlk h (lv_sub hl [] rfl) w
      · have h := ie c5 h
        exact b_X4_counterIsOpen_b52 E hr hlk h (lv_sub hl [] rfl) w
def f_X4_counterIsOpen (x1 : Int64) (x3 : Int32) (u : St) : Int32 := if x3 = (3 : Int32) then (1 : Int32) else (if ((gL u 13) &&& x1) = (0 : Int64) then (f_X4_counterIsOpen_b26 x1 x3 (0 : Int32) u) else (f_X4_counterIsOpen_b26 x1 x3 (1 : Int32) u))
set_option maxRecDepth 100000 in
set_option maxHeartbeats 4000000 in
theorem c_X4_counterIsOpen (l : Launch) (D : va_G) (cy : ClassId × ClassId × ClassId) (ad : Nat → Nat) (x1 : Int64) (x3 : Int32) (u : St) : MX (wC cy ad) D cy l yX4_counterIsOpen cX4_counterIsOpen 5 (some .boolean) 0 0 0 [.ref (ad 15), .long x1, .int x3] u u (some (.int (f_X4_counterIsOpen x1 x3 u))) := by
  refine entX (by decide +kernel) (Nat.le_of_ble_eq_true rfl) ?_
  intro p e s m args below meth c ls rr A E hr hlk hl w
  have hl : lv_has ls 5 [(0, .ref (ad 15)), (1, .long x1), (3, .int x3)] := hl
  generalize h : f_X4_counterIsOpen x1 x3 u = r
  have hx := E.1
  have hb := E.2.1
  have hown := E.2.2.2.1
  have hts := E.2.2.2.2
  refine lv_iload_n hx hb (dq da_X4_counterIsOpen 0 rfl) rfl (lv_at hl 2 rfl) ?_
  refine lv_iconst (v := 3) hx hb (dq da_X4_counterIsOpen 1 rfl) rfl ?_
  refine lv_icmp_ne (tgt := 7) hx hb (dq da_X4_counterIsOpen 2 rfl) (by decide) (fun c1 => ?_) (fun c1 => ?_)
  · have h := ie c1 h
    refine lv_aload_n hx hb (dq da_X4_counterIsOpen 5 rfl) rfl (lv_at hl 0 rfl) ?_
    refine gt_wC_15_machine E w w_196 (dq da_X4_counterIsOpen 6 rfl) ?_
    refine gtN_wC_16_counters E w n_17 (dq da_X4_counterIsOpen 7 rfl) ?_
    refine lv_lload_n hx hb (dq da_X4_counterIsOpen 8 rfl) rfl (lv_at hl 1 rfl) ?_
    refine lv_land hx hb (dq da_X4_counterIsOpen 9 rfl) ?_
    refine lv_lconst (v := 0) hx hb (dq da_X4_counterIsOpen 10 rfl) rfl ?_
    refine lc_eq (tgt := 25) hx hb (dq da_X4_counterIsOpen 11 rfl) (dq da_X4_counterIsOpen 12 rfl) (by decide) (fun c2 => ?_) (fun c2 => ?_)
    · have h := it c2 h
      refine lv_iconst (v := 0) hx hb (dq da_X4_counterIsOpen 15 rfl) rfl ?_
      exact b_X4_counterIsOpen_b26 E hr hlk h (lv_sub hl [0, 1, 2] rfl) w
    · have h := ie c2 h
      refine lv_iconst (v := 1) hx hb (dq da_X4_counterIsOpen 13 rfl) rfl ?_
      refine lv_goto (tgt := 26) hx hb (dq da_X4_counterIsOpen 14 rfl) (by decide) ?_
      exact b_X4_counterIsOpen_b26 E hr hlk h (lv_sub hl [0, 1, 2] rfl) w
  · have h := it c1 h
    refine lv_iconst (v := 1) hx hb (dq da_X4_counterIsOpen 3 rfl) rfl ?_
    exact xret_z E hr hlk rfl w (by decide) h rfl (dq da_X4_counterIsOpen 4 rfl)
def dl_X4_allows : List (Nat × Instr × Nat) := [(0, .iload_n 1, 1), (1, .invokestatic 132, 3), (4, .ifCond .eq 25, 3), (7, .iload_n 1, 1), (8, .bipush 8, 2), (10, .ishr, 1), (11, .iconst 3, 1), (12, .iand, 1), (13, .iload_n 2, 1), (14, .if_icmp .gt 15, 3), (17, .iload_n 3, 1), (18, .ifCond .eq 13, 3), (21, .iload_n 1, 1), (22, .bipush 10, 2), (24, .ishr, 1), (25, .iconst 3, 1), (26, .if_icmp .ne 5, 3), (29, .iconst 0, 1), (30, .ireturn, 1), (31, .iload_n 1, 1), (32, .sipush 384, 3), (35, .if_icmp .ne 24, 3), (38, .iload_n 2, 1), (39, .iconst 1, 1), (40, .if_icmp .ne 13, 3), (43, .aload_n 0, 1), (44, .ldc2_w 135, 3), (47, .invokevirtual 137, 3), (50, .ifCond .ne 7, 3), (53, .iconst 1, 1), (54, .goto 4, 3), (57, .iconst 0, 1), (58, .ireturn, 1), (59, .iload_n 1, 1), (60, .sipush 3072, 3), (63, .if_icmp .lt 23, 3), (66, .iload_n 1, 1), (67, .sipush 3074, 3), (70, .if_icmp .gt 16, 3), (73, .aload_n 0, 1), (74, .lconst 1, 1), (75, .iload_n 1, 1), (76, .sipush 3072, 3), (79, .isub, 1), (80, .lshl, 1), (81, .iload_n 2, 1), (82, .invokevirtual 141, 3), (85, .ireturn, 1), (86, .iconst 1, 1), (87, .ireturn, 1)]
theorem da_X4_allows : dkL cX4_allows dl_X4_allows = true := by decide +kernel
def f_X4_allows_b29 (u : St) : Option (Int32) := some (0 : Int32)
set_option maxRecDepth 100000 in
set_option maxHeartbeats 4000000 in
theorem b_X4_allows_b29 {p : Program} {l : Launch} {e : Env} {s : State} {m : MethodId} {args : Array Value} {below : List Frame} {meth : Method} {c : Code} {D : va_G} {cy : ClassId × ClassId × ClassId} {ad : Nat → Nat} {A : Nat → Prop} (E : CallFix p m c cX4_allows 4 s args gw RX4) (hr : meth.sig.returnType = some .boolean) (hlk : meth.locks = false) {u : St} {r : Int32} (h : f_X4_allows_b29 u = some r) {ls : Array Slot} {H : Heap} {locs : List Loc} {rr : Nat → Nat} (hl : lv_has ls 4 []) (w : WX (wC cy ad) D cy rr u A s H locs) : Wx (wC cy ad) D p l e 1 24 0 s m args below meth c A u (some (.int r)) H locs 0 29 ls [] := by
  have hx := E.1
  have hb := E.2.1
  have hown := E.2.2.2.1
  have hts := E.2.2.2.2
  refine lv_iconst (v := 0) hx hb (dq da_X4_allows 17 rfl) rfl ?_
  exact xret_z E hr hlk rfl w (by decide) (os h) rfl (dq da_X4_allows 18 rfl)
def f_X4_allows_b86 (u : St) : Option (Int32) := some (1 : Int32)
set_option maxRecDepth 100000 in
set_option maxHeartbeats 4000000 in
theorem b_X4_allows_b86 {p : Program} {l : Launch} {e : Env} {s : State} {m : MethodId} {args : Array Value} {below : List Frame} {meth : Method} {c : Code} {D : va_G} {cy : ClassId × ClassId × ClassId} {ad : Nat → Nat} {A : Nat → Prop} (E : CallFix p m c cX4_allows 4 s args gw RX4) (hr : meth.sig.returnType = some .boolean) (hlk : meth.locks = false) {u : St} {r : Int32} (h : f_X4_allows_b86 u = some r) {ls : Array Slot} {H : Heap} {locs : List Loc} {rr : Nat → Nat} (hl : lv_has ls 4 []) (w : WX (wC cy ad) D cy rr u A s H locs) : Wx (wC cy ad) D p l e 1 24 0 s m args below meth c A u (some (.int r)) H locs 0 86 ls [] := by
  have hx := E.1
  have hb := E.2.1
  have hown := E.2.2.2.1
  have hts := E.2.2.2.2
  refine lv_iconst (v := 1) hx hb (dq da_X4_allows 48 rfl) rfl ?_
  exact xret_z E hr hlk rfl w (by decide) (os h) rfl (dq da_X4_allows 49 rfl)
def f_X4_allows_b53 (u : St) : Option (Int32) := some (1 : Int32)
set_option maxRecDepth 100000 in
set_option maxHeartbeats 4000000 in
theorem b_X4_allows_b53 {p : Program} {l : Launch} {e : Env} {s : State} {m : MethodId} {args : Array Value} {below : List Frame} {meth : Method} {c : Code} {D : va_G} {cy : ClassId × ClassId × ClassId} {ad : Nat → Nat} {A : Nat → Prop} (E : CallFix p m c cX4_allows 4 s args gw RX4) (hr : meth.sig.returnType = some .boolean) (hlk : meth.locks = false) {u : St} {r : Int32} (h : f_X4_allows_b53 u = some r) {ls : Array Slot} {H : Heap} {locs : List Loc} {rr : Nat → Nat} (hl : lv_has ls 4 []) (w : WX (wC cy ad) D cy rr u A s H locs) : Wx (wC cy ad) D p l e 1 24 0 s m args below meth c A u (some (.int r)) H locs 0 53 ls [] := by
  have hx := E.1
  have hb := E.2.1
  have hown := E.2.2.2.1
  have hts := E.2.2.2.2
  refine lv_iconst (v := 1) hx hb (dq da_X4_allows 29 rfl) rfl ?_
  refine lv_goto (tgt := 58) hx hb (dq da_X4_allows 30 rfl) (by decide) ?_
  exact xret_z E hr hlk rfl w (by decide) (os h) rfl (dq da_X4_allows 32 rfl)
def f_X4_allows_b31 (x1 : Int32) (x2 : Int32) (u : St) : Option (Int32) := if x1 = (384 : Int32) then (if x2 = (1 : Int32) then (if (f_X4_has (1048576 : Int64) u) = (0 : Int32) then (f_X4_allows_b53 u) else (some (0 : Int32))) else (f_X4_allows_b53 u)) else (if x1 < (3072 : Int32) then (f_X4_allows_b86 u) else (if (3074 : Int32) < x1 then (f_X4_allows_b86 u) else (if (f_X4_counterIsOpen (j_lshl (1 : Int64) (x1 - (3072 : Int32))) x2 u) &&& 1 = (f_X4_counterIsOpen (j_lshl (1 : Int64) (x1 - (3072 : Int32))) x2 u) then some (f_X4_counterIsOpen (j_lshl (1 : Int64) (x1 - (3072 : Int32))) x2 u) else none)))
set_option maxRecDepth 100000 in
set_option maxHeartbeats 4000000 in
theorem b_X4_allows_b31 {p : Program} {l : Launch} {e : Env} {s : State} {m : MethodId} {args : Array Value} {below : List Frame} {meth : Method} {c : Code} {D : va_G} {cy : ClassId × ClassId × ClassId} {ad : Nat → Nat} {A : Nat → Prop} (E : CallFix p m c cX4_allows 4 s args gw RX4) (hr : meth.sig.returnType = some .boolean) (hlk : meth.locks = false) {x1 : Int32} {x2 : Int32} {u : St} {r : Int32} (h : f_X4_allows_b31 x1 x2 u = some r) {ls : Array Slot} {H : Heap} {locs : List Loc} {rr : Nat → Nat} (hl : lv_has ls 4 [(0, .ref (ad 15)), (1, .int x1), (2, .int x2)]) (w : WX (wC cy ad) D cy rr u A s H locs) : Wx (wC cy ad) D p l e 1 24 0 s m args below meth c A u (some (.int r)) H locs 0 31 ls [] := by
  have hx := E.1
  have hb := E.2.1
  have hown := E.2.2.2.1
  have hts := E.2.2.2.2
  refine lv_iload_n hx hb (dq da_X4_allows 19 rfl) rfl (lv_at hl 1 rfl) ?_
  refine lv_sipush (v := 384) hx hb (dq da_X4_allows 20 rfl) rfl ?_
  refine lv_icmp_ne (tgt := 59) hx hb (dq da_X4_allows 21 rfl) (by decide) (fun c4 => ?_) (fun c4 => ?_)
  · have h := ie c4 h
    refine lv_iload_n hx hb (dq da_X4_allows 33 rfl) rfl (lv_at hl 1 rfl) ?_
    refine lv_sipush (v := 3072) hx hb (dq da_X4_allows 34 rfl) rfl ?_
    refine lv_icmp_lt (tgt := 86) hx hb (dq da_X4_allows 35 rfl) (by decide) (fun c5 => ?_) (fun c5 => ?_)
    · have h := it c5 h
      exact b_X4_allows_b86 E hr hlk h (lv_sub hl [] rfl) w
    · have h := ie c5 h
      refine lv_iload_n hx hb (dq da_X4_allows 36 rfl) rfl (lv_at hl 1 rfl) ?_
      refine lv_sipush (v := 3074) hx hb (dq da_X4_allows 37 rfl) rfl ?_
      refine lv_icmp_gt (tgt := 86) hx hb (dq da_X4_allows 38 rfl) (by decide) (fun c6 => ?_) (fun c6 => ?_)
      · have h := it c6 h
        exact b_X4_allows_b86 E hr hlk h (lv_sub hl [] rfl) w
      · have h := ie c6 h
        refine lv_aload_n hx hb (dq da_X4_allows 39 rfl) rfl (lv_at hl 0 rfl) ?_
        refine lv_lconst (v := 1) hx hb (dq da_X4_allows 40 rfl) rfl ?_
        refine lv_iload_n hx hb (dq da_X4_allows 41 rfl) rfl (lv_at hl 1 rfl) ?_
        refine lv_sipush (v := 3072) hx hb (dq da_X4_allows 42 rfl) rfl ?_
        refine lv_isub hx hb (dq da_X4_allows 43 rfl) ?_
        refine lv_lshl (v := (j_lshl (1 : Int64) (x1 - (3072 : Int32)))) hx hb (dq da_X4_allows 44 rfl) rfl ?_
        refine lv_iload_n hx hb (dq da_X4_allows 45 rfl) rfl (lv_at hl 2 rfl) ?_
        refine cV1 E (c_X4_counterIsOpen l D cy ad _ _ _ ) w_1044 w_1046 w_p41 w_7 w_1047 rfl hd_X4_counterIsOpen rfl hl.1 rfl (Nat.le_of_ble_eq_true rfl) ⟨Nat.le_of_ble_eq_true rfl, Nat.le_of_ble_eq_true rfl⟩ (by decide) w (rc_wC_15 w) (dq da_X4_allows 46 rfl) (fun H locs rr w => ?_)
        obtain ⟨hz7, h⟩ := oi h
        exact xret_z E hr hlk (by show Value.int _ = _; rw [hz7]) w (by decide) (os h) rfl (dq da_X4_allows 47 rfl)
  · have h := it c4 h
    refine lv_iload_n hx hb (dq da_X4_allows 22 rfl) rfl (lv_at hl 2 rfl) ?_
    refine lv_iconst (v := 1) hx hb (dq da_X4_allows 23 rfl) rfl ?_
    refine lv_icmp_ne (tgt := 53) hx hb (dq da_X4_allows 24 rfl) (by decide) (fun c8 => ?_) (fun c8 => ?_)
    · have h := ie c8 h
      exact b_X4_allows_b53 E hr hlk h (lv_sub hl [] rfl) w
    · have h := it c8 h
      refine lv_aload_n hx hb (dq da_X4_allows 25 rfl) rfl (lv_at hl 0 rfl) ?_
      refine lv_ldc2 hx hb hown (hts _ w_1043) (dq da_X4_allows 26 rfl) ?_
      refine cV1 E (c_X4_has l D cy ad _ _ ) w_684 w_665 w_666 w_7 w_667 rfl hd_X4_has rfl hl.1 rfl (Nat.le_of_ble_eq_true rfl) ⟨Nat.le_of_ble_eq_true rfl, Nat.le_of_ble_eq_true rfl⟩ (by decide) w (rc_wC_15 w) (dq da_X4_allows 27 rfl) (fun H locs rr w => ?_)
      refine lv_if_ne (tgt := 57) hx hb (dq da_X4_allows 28 rfl) (by decide) (fun c9 => ?_) (fun c9 => ?_)
      · have h := ie c9 h
        refine lv_iconst (v := 0) hx hb (dq da_X4_allows 31 rfl) rfl ?_
        exact xret_z E hr hlk rfl w (by decide) (os h) rfl (dq da_X4_allows 32 rfl)
      · have h := it c9 h
        exact b_X4_allows_b53 E hr hlk h (lv_sub hl [] rfl) w
def f_X4_allows (x1 : Int32) (x2 : Int32) (x3 : Int32) (u : St) : Option (Int32) := if (f_X4_knows x1) = (0 : Int32) then (f_X4_allows_b29 u) else (if x2 < ((x1 >>> ((8 : Int32) &&& 31)) &&& (3 : Int32)) then (f_X4_allows_b29 u) else (if x3 = (0 : Int32) then (f_X4_allows_b31 x1 x2 u) else (if (x1 >>> ((10 : Int32) &&& 31)) = (3 : Int32) then (f_X4_allows_b29 u) else (f_X4_allows_b31 x1 x2 u))))
set_option maxRecDepth 100000 in
set_option maxHeartbeats 4000000 in
theorem c_X4_allows (l : Launch) (D : va_G) (cy : ClassId × ClassId × ClassId) (ad : Nat → Nat) (x1 : Int32) (x2 : Int32) (x3 : Int32) (u : St) {r : Int32} (h : f_X4_allows x1 x2 x3 u = some r) : MX (wC cy ad) D cy l yX4_allows cX4_allows 4 (some .boolean) 1 24 0 [.ref (ad 15), .int x1, .int x2, .int x3] u u (some (.int (r))) := by
  refine entX (by decide +kernel) (Nat.le_of_ble_eq_true rfl) ?_
  intro p e s m args below meth c ls rr A E hr hlk hl w
  have hl : lv_has ls 4 [(0, .ref (ad 15)), (1, .int x1), (2, .int x2), (3, .int x3)] := hl
  have hx := E.1
  have hb := E.2.1
  have hown := E.2.2.2.1
  have hts := E.2.2.2.2
  refine lv_iload_n hx hb (dq da_X4_allows 0 rfl) rfl (lv_at hl 1 rfl) ?_
  refine callP E (c_X4_knows l _ ) w_1042 w_560 w_7 w_561 hd_X4_knows rfl hl.1 rfl (Nat.le_of_ble_eq_true rfl) ⟨Nat.le_of_ble_eq_true rfl, Nat.le_of_ble_eq_true rfl⟩ (by decide) (dq da_X4_allows 1 rfl) ?_
  refine lv_if_eq (tgt := 29) hx hb (dq da_X4_allows 2 rfl) (by decide) (fun c1 => ?_) (fun c1 => ?_)
  · have h := it c1 h
    exact b_X4_allows_b29 E hr hlk h (lv_sub hl [] rfl) w
  · have h := ie c1 h
    refine lv_iload_n hx hb (dq da_X4_allows 3 rfl) rfl (lv_at hl 1 rfl) ?_
    refine lv_bipush (v := 8) hx hb (dq da_X4_allows 4 rfl) rfl ?_
    refine lv_ishr hx hb (dq da_X4_allows 5 rfl) ?_
    refine lv_iconst (v := 3) hx hb (dq da_X4_allows 6 rfl) rfl ?_
    refine lv_iand hx hb (dq da_X4_allows 7 rfl) ?_
    refine lv_iload_n hx hb (dq da_X4_allows 8 rfl) rfl (lv_at hl 2 rfl) ?_
    refine lv_icmp_gt (tgt := 29) hx hb (dq da_X4_allows 9 rfl) (by decide) (fun c2 => ?_) (fun c2 => ?_)
    · have h := it c2 h
      exact b_X4_allows_b29 E hr hlk h (lv_sub hl [] rfl) w
    · have h := ie c2 h
      refine lv_iload_n hx hb (dq da_X4_allows 10 rfl) rfl (lv_at hl 3 rfl) ?_
      refine lv_if_eq (tgt := 31) hx hb (dq da_X4_allows 11 rfl) (by decide) (fun c3 => ?_) (fun c3 => ?_)
      · have h := it c3 h
        exact b_X4_allows_b31 E hr hlk h (lv_sub hl [0, 1, 2] rfl) w
      · have h := ie c3 h
        refine lv_iload_n hx hb (dq da_X4_allows 12 rfl) rfl (lv_at hl 1 rfl) ?_
        refine lv_bipush (v := 10) hx hb (dq da_X4_allows 13 rfl) rfl ?_
        refine lv_ishr hx hb (dq da_X4_allows 14 rfl) ?_
        refine lv_iconst (v := 3) hx hb (dq da_X4_allows 15 rfl) rfl ?_
        refine lv_icmp_ne (tgt := 31) hx hb (dq da_X4_allows 16 rfl) (by decide) (fun c10 => ?_) (fun c10 => ?_)
        · have h := ie c10 h
          exact b_X4_allows_b31 E hr hlk h (lv_sub hl [0, 1, 2] rfl) w
        · have h := it c10 h
          exact b_X4_allows_b29 E hr hlk h (lv_sub hl [] rfl) w

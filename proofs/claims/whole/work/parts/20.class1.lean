theorem w_38 : Cond.fieldLink RX2 17 "HartBoard$Bytes" "count" "I" ∈ gw := gw_t1 38 rfl rfl
theorem w_37 : Cond.fieldLink RX2 20 "HartBoard$Bytes" "first" "I" ∈ gw := gw_t1 37 rfl rfl
theorem w_36 : Cond.fieldLink RX2 9 "HartBoard$Bytes" "row" "[B" ∈ gw := gw_t1 36 rfl rfl
theorem w_325 : Cond.methodLink RX2 23 yX2_byteAt ∈ gw := gw_t2 85 rfl rfl
theorem w_326 : Cond.instanceMethod yX2_byteAt ∈ gw := gw_t2 86 rfl rfl
theorem w_349 : Cond.constantLong RX10 19 (2147483648) ∈ gw := gw_t2 109 rfl rfl
theorem w_57 : Cond.fieldLink RX10 9 "HartBoard$Ram" "size" "I" ∈ gw := gw_t1 57 rfl rfl
theorem w_59 : Cond.fieldLink RX10 15 "HartBoard$Ram" "words" "[J" ∈ gw := gw_t1 59 rfl rfl
theorem w_363 : Cond.constantLong RX10 21 (-1) ∈ gw := gw_t2 123 rfl rfl
theorem w_368 : Cond.methodLink RX10 23 yX10_write ∈ gw := gw_t2 128 rfl rfl
theorem w_360 : Cond.instanceMethod yX10_write ∈ gw := gw_t2 120 rfl rfl
theorem w_80 : Cond.fieldLink RX3 39 "HartBoard$Controller" "pending" "I" ∈ gw := gw_t1 80 rfl rfl
theorem w_82 : Cond.fieldLink RX3 51 "HartBoard$Controller" "claimed" "I" ∈ gw := gw_t1 82 rfl rfl
theorem w_76 : Cond.fieldLink RX3 9 "HartBoard$Controller" "priority" "[I" ∈ gw := gw_t1 76 rfl rfl
theorem w_77 : Cond.fieldLink RX3 13 "HartBoard$Controller" "enabled" "[I" ∈ gw := gw_t1 77 rfl rfl
theorem w_78 : Cond.fieldLink RX3 16 "HartBoard$Controller" "threshold" "[I" ∈ gw := gw_t1 78 rfl rfl
theorem w_901 : Cond.methodLink RX3 43 yX3_claim ∈ gw := gw_t4 181 rfl rfl
theorem w_903 : Cond.instanceMethod yX3_claim ∈ gw := gw_t4 183 rfl rfl
theorem w_p26 : Cond.selects RX3 yX3_claim yX3_claim ∈ gw := gw_p 26 rfl rfl
theorem w_5 : Cond.initialized RX3 ∈ gw := gw_t1 5 rfl rfl
theorem w_904 : Cond.code yX3_claim cX3_claim 5 (some .int) ∈ gw := gw_t4 184 rfl rfl
theorem w_934 : Cond.methodLink RX3 47 yX3_complete ∈ gw := gw_t4 214 rfl rfl
theorem w_936 : Cond.instanceMethod yX3_complete ∈ gw := gw_t4 216 rfl rfl
theorem w_p28 : Cond.selects RX3 yX3_complete yX3_complete ∈ gw := gw_p 28 rfl rfl
theorem w_937 : Cond.code yX3_complete cX3_complete 3 (none) ∈ gw := gw_t4 217 rfl rfl
theorem w_79 : Cond.fieldLink RX3 54 "HartBoard$Controller" "high" "I" ∈ gw := gw_t1 79 rfl rfl
theorem w_171 : Cond.fieldLink RX7 7 "HartBoard$Level" "tvec" "J" ∈ gw := gw_t1 171 rfl rfl
theorem w_173 : Cond.fieldLink RX7 13 "HartBoard$Level" "counters" "J" ∈ gw := gw_t1 173 rfl rfl
theorem w_175 : Cond.fieldLink RX7 16 "HartBoard$Level" "scratch" "J" ∈ gw := gw_t1 175 rfl rfl
theorem w_176 : Cond.fieldLink RX7 19 "HartBoard$Level" "epc" "J" ∈ gw := gw_t1 176 rfl rfl
theorem w_178 : Cond.fieldLink RX7 22 "HartBoard$Level" "cause" "J" ∈ gw := gw_t1 178 rfl rfl
theorem w_180 : Cond.fieldLink RX7 25 "HartBoard$Level" "tval" "J" ∈ gw := gw_t1 180 rfl rfl
theorem w_630 : Cond.constantLong RX7 28 (-3) ∈ gw := gw_t3 150 rfl rfl
theorem w_631 : Cond.constantLong RX7 30 (7) ∈ gw := gw_t3 151 rfl rfl
theorem w_632 : Cond.constantLong RX7 32 (-2) ∈ gw := gw_t3 152 rfl rfl
theorem w_111 : Cond.fieldLink RX8 28 "HartBoard$Line" "enable" "I" ∈ gw := gw_t1 111 rfl rfl
theorem w_107 : Cond.fieldLink RX8 15 "HartBoard$Line" "input" "LHartBoard$Bytes;" ∈ gw := gw_t1 107 rfl rfl
theorem w_488 : Cond.methodLink RX8 32 yX2_size ∈ gw := gw_t3 8 rfl rfl
theorem w_306 : Cond.instanceMethod yX2_size ∈ gw := gw_t2 66 rfl rfl
theorem w_877 : Cond.methodLink RX8 24 yX2_removeFirst ∈ gw := gw_t4 157 rfl rfl
theorem w_878 : Cond.instanceMethod yX2_removeFirst ∈ gw := gw_t4 158 rfl rfl
theorem w_200 : Cond.fieldLink RX4 25 "HartBoard$Controls" "status" "J" ∈ gw := gw_t1 200 rfl rfl
theorem w_567 : Cond.constantLong RX4 29 (786722) ∈ gw := gw_t3 87 rfl rfl
theorem w_568 : Cond.constantLong RX4 31 (8589934592) ∈ gw := gw_t3 88 rfl rfl
theorem w_207 : Cond.fieldLink RX4 33 "HartBoard$Controls" "mie" "J" ∈ gw := gw_t1 207 rfl rfl
theorem w_205 : Cond.fieldLink RX4 36 "HartBoard$Controls" "mideleg" "J" ∈ gw := gw_t1 205 rfl rfl
theorem w_208 : Cond.fieldLink RX4 75 "HartBoard$Controls" "mip" "J" ∈ gw := gw_t1 208 rfl rfl
theorem w_195 : Cond.fieldLink RX4 21 "HartBoard$Controls" "bus" "LHartBoard$Bus;" ∈ gw := gw_t1 195 rfl rfl
theorem n_10 : Cond.fieldLinkNest RX4 110 "HartBoard$Bus" "soft" "J" "HartBoard" ∈ nl := List.mem_append_left _ (List.mem_of_getElem? (i := 10) rfl)
theorem n_13 : Cond.fieldLinkNest RX4 59 "HartBoard$Bus" "time" "J" "HartBoard" ∈ nl := List.mem_append_left _ (List.mem_of_getElem? (i := 13) rfl)
theorem n_11 : Cond.fieldLinkNest RX4 113 "HartBoard$Bus" "compare" "J" "HartBoard" ∈ nl := List.mem_append_left _ (List.mem_of_getElem? (i := 11) rfl)
theorem w_573 : Cond.methodLink RX4 116 yX0_below ∈ gw := gw_t3 93 rfl rfl
theorem n_7 : Cond.fieldLinkNest RX4 122 "HartBoard$Bus" "controller" "LHartBoard$Controller;" "HartBoard" ∈ nl := List.mem_append_left _ (List.mem_of_getElem? (i := 7) rfl)
theorem w_577 : Cond.methodLink RX4 126 yX3_calls ∈ gw := gw_t3 97 rfl rfl
theorem w_578 : Cond.instanceMethod yX3_calls ∈ gw := gw_t3 98 rfl rfl
theorem w_198 : Cond.fieldLink RX4 18 "HartBoard$Controls" "supervisor" "LHartBoard$Level;" ∈ gw := gw_t1 198 rfl rfl
theorem w_587 : Cond.methodLink RX4 68 yX7_read ∈ gw := gw_t3 107 rfl rfl
theorem w_588 : Cond.instanceMethod yX7_read ∈ gw := gw_t3 108 rfl rfl
theorem w_602 : Cond.methodLink RX4 71 yX4_mixed ∈ gw := gw_t3 122 rfl rfl
theorem w_603 : Cond.static yX4_mixed ∈ gw := gw_t3 123 rfl rfl
theorem w_7 : Cond.initialized RX4 ∈ gw := gw_t1 7 rfl rfl
theorem w_604 : Cond.code yX4_mixed cX4_mixed 6 (some .long) ∈ gw := gw_t3 124 rfl rfl
theorem w_606 : Cond.constantLong RX4 78 (2) ∈ gw := gw_t3 126 rfl rfl
theorem w_210 : Cond.fieldLink RX4 43 "HartBoard$Controls" "satp" "J" ∈ gw := gw_t1 210 rfl rfl
theorem w_611 : Cond.constantLong RX4 106 (8) ∈ gw := gw_t3 131 rfl rfl
theorem w_607 : Cond.methodLink RX4 80 yX4_writeSatp ∈ gw := gw_t3 127 rfl rfl
theorem w_609 : Cond.instanceMethod yX4_writeSatp ∈ gw := gw_t3 129 rfl rfl
theorem w_p7 : Cond.selects RX4 yX4_writeSatp yX4_writeSatp ∈ gw := gw_p 7 rfl rfl
theorem w_610 : Cond.code yX4_writeSatp cX4_writeSatp 5 (none) ∈ gw := gw_t3 130 rfl rfl
theorem w_616 : Cond.constantLong RX4 100 (6144) ∈ gw := gw_t3 136 rfl rfl
theorem w_618 : Cond.constantLong RX4 104 (8264106) ∈ gw := gw_t3 138 rfl rfl
theorem w_617 : Cond.constantLong RX4 102 (8257962) ∈ gw := gw_t3 137 rfl rfl
theorem w_612 : Cond.methodLink RX4 84 yX4_writeStatus ∈ gw := gw_t3 132 rfl rfl
theorem w_614 : Cond.instanceMethod yX4_writeStatus ∈ gw := gw_t3 134 rfl rfl
theorem w_p8 : Cond.selects RX4 yX4_writeStatus yX4_writeStatus ∈ gw := gw_p 8 rfl rfl
theorem w_615 : Cond.code yX4_writeStatus cX4_writeStatus 4 (none) ∈ gw := gw_t3 135 rfl rfl
theorem w_619 : Cond.constantLong RX4 87 (46079) ∈ gw := gw_t3 139 rfl rfl
theorem w_202 : Cond.fieldLink RX4 50 "HartBoard$Controls" "medeleg" "J" ∈ gw := gw_t1 202 rfl rfl
theorem w_620 : Cond.constantLong RX4 89 (546) ∈ gw := gw_t3 140 rfl rfl
theorem w_621 : Cond.constantLong RX4 91 (2730) ∈ gw := gw_t3 141 rfl rfl
theorem w_212 : Cond.fieldLink RX4 53 "HartBoard$Controls" "cycle" "J" ∈ gw := gw_t1 212 rfl rfl
theorem w_214 : Cond.fieldLink RX4 56 "HartBoard$Controls" "retired" "J" ∈ gw := gw_t1 214 rfl rfl
theorem w_196 : Cond.fieldLink RX4 14 "HartBoard$Controls" "machine" "LHartBoard$Level;" ∈ gw := gw_t1 196 rfl rfl
theorem w_626 : Cond.methodLink RX4 97 yX7_write ∈ gw := gw_t3 146 rfl rfl
theorem w_627 : Cond.instanceMethod yX7_write ∈ gw := gw_t3 147 rfl rfl
theorem w_683 : Cond.constantLong RX4 154 (32) ∈ gw := gw_t3 203 rfl rfl
theorem w_684 : Cond.methodLink RX4 137 yX4_has ∈ gw := gw_t3 204 rfl rfl
theorem w_665 : Cond.instanceMethod yX4_has ∈ gw := gw_t3 185 rfl rfl
theorem w_694 : Cond.constantLong RX4 148 (128) ∈ gw := gw_t3 214 rfl rfl
theorem w_1017 : Cond.methodLink RX4 158 yX4_previousPrivilege ∈ gw := gw_t5 57 rfl rfl
theorem w_720 : Cond.instanceMethod yX4_previousPrivilege ∈ gw := gw_t4 0 rfl rfl
theorem w_689 : Cond.constantLong RX4 156 (256) ∈ gw := gw_t3 209 rfl rfl
theorem w_1042 : Cond.methodLink RX4 132 yX4_knows ∈ gw := gw_t5 82 rfl rfl
theorem w_560 : Cond.static yX4_knows ∈ gw := gw_t3 80 rfl rfl
theorem w_561 : Cond.code yX4_knows cX4_knows 1 (some .boolean) ∈ gw := gw_t3 81 rfl rfl
theorem n_17 : Cond.fieldLinkNest RX4 145 "HartBoard$Level" "counters" "J" "HartBoard" ∈ nl := List.mem_append_left _ (List.mem_of_getElem? (i := 17) rfl)
theorem w_1044 : Cond.methodLink RX4 141 yX4_counterIsOpen ∈ gw := gw_t5 84 rfl rfl
theorem w_1046 : Cond.instanceMethod yX4_counterIsOpen ∈ gw := gw_t5 86 rfl rfl
theorem w_p41 : Cond.selects RX4 yX4_counterIsOpen yX4_counterIsOpen ∈ gw := gw_p 41 rfl rfl
theorem w_1047 : Cond.code yX4_counterIsOpen cX4_counterIsOpen 5 (some .boolean) ∈ gw := gw_t5 87 rfl rfl
theorem w_1043 : Cond.constantLong RX4 135 (1048576) ∈ gw := gw_t5 83 rfl rfl
def dl_X2_size_o1 : List (Nat × Instr × Nat) := [(0, .aload_n 0, 1), (1, .getfield 17, 3), (4, .ireturn, 1)]
theorem da_X2_size_o1 : dkL cX2_size dl_X2_size_o1 = true := by decide +kernel
def f_X2_size_o1 (u : St) : Int32 := (gI u 2)
set_option maxRecDepth 100000 in
set_option maxHeartbeats 4000000 in
theorem c_X2_size_o1 (l : Launch) (D : va_G) (cy : ClassId × ClassId × ClassId) (ad : Nat → Nat) (u : St) : MX (wC cy ad) D cy l yX2_size cX2_size 1 (some .int) 0 0 0 [.ref (ad 1)] u u (some (.int (f_X2_size_o1 u))) := by
  refine entX (by decide +kernel) (Nat.le_of_ble_eq_true rfl) ?_
  intro p e s m args below meth c ls rr A E hr hlk hl w
  have hl : lv_has ls 1 [(0, .ref (ad 1))] := hl
  generalize h : f_X2_size_o1 u = r
  skip
  have hx := E.1
  have hb := E.2.1
  have hown := E.2.2.2.1
  have hts := E.2.2.2.2
  refine lv_aload_n hx hb (dq da_X2_size_o1 0 rfl) rfl (lv_at hl 0 rfl) ?_
  refine gt_wC_1_count E w w_38 (dq da_X2_size_o1 1 rfl) ?_
  exact xret_i E hr hlk w (by decide) h rfl (dq da_X2_size_o1 2 rfl)
def dl_X2_clear_o1 : List (Nat × Instr × Nat) := [(0, .aload_n 0, 1), (1, .iconst 0, 1), (2, .putfield 20, 3), (5, .aload_n 0, 1), (6, .iconst 0, 1), (7, .putfield 17, 3), (10, .return_, 1)]
theorem da_X2_clear_o1 : dkL cX2_clear dl_X2_clear_o1 = true := by decide +kernel
def f_X2_clear_o1 (u : St) : St := (sI (sI u 1 (0 : Int32)) 2 (0 : Int32))
set_option maxRecDepth 100000 in
set_option maxHeartbeats 4000000 in
theorem c_X2_clear_o1 (l : Launch) (D : va_G) (cy : ClassId × ClassId × ClassId) (ad : Nat → Nat) (u : St) : MX (wC cy ad) D cy l yX2_clear cX2_clear 1 (none) 0 0 0 [.ref (ad 1)] u (f_X2_clear_o1 u) none := by
  refine entX (by decide +kernel) (Nat.le_of_ble_eq_true rfl) ?_
  intro p e s m args below meth c ls rr A E hr hlk hl w
  have hl : lv_has ls 1 [(0, .ref (ad 1))] := hl
  generalize h : f_X2_clear_o1 u = u'
  skip
  have hx := E.1
  have hb := E.2.1
  have hown := E.2.2.2.1
  have hts := E.2.2.2.2
  refine lv_aload_n hx hb (dq da_X2_clear_o1 0 rfl) rfl (lv_at hl 0 rfl) ?_
  refine lv_iconst (v := 0) hx hb (dq da_X2_clear_o1 1 rfl) rfl ?_
  refine pt_wC_1_first E w w_37 (dq da_X2_clear_o1 2 rfl) (fun H locs w => ?_)
  refine lv_aload_n hx hb (dq da_X2_clear_o1 3 rfl) rfl (lv_at hl 0 rfl) ?_
  refine lv_iconst (v := 0) hx hb (dq da_X2_clear_o1 4 rfl) rfl ?_
  refine pt_wC_1_count E w w_38 (dq da_X2_clear_o1 5 rfl) (fun H locs w => ?_)
  exact xret_v E hr hlk w (by decide) h (dq da_X2_clear_o1 6 rfl)
def dl_X2_byteAt_o1 : List (Nat × Instr × Nat) := [(0, .iload_n 1, 1), (1, .ifCond .lt 11, 3), (4, .iload_n 1, 1), (5, .aload_n 0, 1), (6, .getfield 17, 3), (9, .if_icmp .lt 7, 3), (12, .iconst 0, 1), (13, .goto 26, 3), (16, .aload_n 0, 1), (17, .getfield 9, 3), (20, .aload_n 0, 1), (21, .getfield 20, 3), (24, .iload_n 1, 1), (25, .iadd, 1), (26, .aload_n 0, 1), (27, .getfield 9, 3), (30, .arraylength, 1), (31, .iconst 1, 1), (32, .isub, 1), (33, .iand, 1), (34, .baload, 1), (35, .sipush 255, 3), (38, .iand, 1), (39, .ireturn, 1)]
theorem da_X2_byteAt_o1 : dkL cX2_byteAt dl_X2_byteAt_o1 = true := by decide +kernel
def f_X2_byteAt_o1_b12 (u : St) : Option (Int32) := some (0 : Int32)
set_option maxRecDepth 100000 in
set_option maxHeartbeats 4000000 in
theorem b_X2_byteAt_o1_b12 {p : Program} {l : Launch} {e : Env} {s : State} {m : MethodId} {args : Array Value} {below : List Frame} {meth : Method} {c : Code} {D : va_G} {cy : ClassId × ClassId × ClassId} {ad : Nat → Nat} {A : Nat → Prop} (E : CallFix p m c cX2_byteAt 2 s args gw RX2) (hr : meth.sig.returnType = some .int) (hlk : meth.locks = false) {u : St} {r : Int32} (h : f_X2_byteAt_o1_b12 u = some r) {ls : Array Slot} {H : Heap} {locs : List Loc} {rr : Nat → Nat} (hl : lv_has ls 2 []) (w : WX (wC cy ad) D cy rr u A s H locs) : Wx (wC cy ad) D p l e 0 0 0 s m args below meth c A u (some (.int r)) H locs 0 12 ls [] := by
  have hx := E.1
  have hb := E.2.1
  have hown := E.2.2.2.1
  have hts := E.2.2.2.2
  refine lv_iconst (v := 0) hx hb (dq da_X2_byteAt_o1 6 rfl) rfl ?_
  refine lv_goto (tgt := 39) hx hb (dq da_X2_byteAt_o1 7 rfl) (by decide) ?_
  exact xret_i E hr hlk w (by decide) (os h) rfl (dq da_X2_byteAt_o1 23 rfl)
def f_X2_byteAt_o1 (x1 : Int32) (u : St) : Option (Int32) := if x1 < (0 : Int32) then (f_X2_byteAt_o1_b12 u) else (if x1 < (gI u 2) then (if inB (((gI u 1) + x1) &&& ((Int32.ofNat (gN u 0)) - (1 : Int32))) (gN u 0) then (some ((gA u 0 (((gI u 1) + x1) &&& ((Int32.ofNat (gN u 0)) - (1 : Int32))).toNatClampNeg) &&& (255 : Int32))) else none) else (f_X2_byteAt_o1_b12 u))
set_option maxRecDepth 100000 in
set_option maxHeartbeats 4000000 in
theorem c_X2_byteAt_o1 (l : Launch) (D : va_G) (cy : ClassId × ClassId × ClassId) (ad : Nat → Nat) (x1 : Int32) (u : St) {r : Int32} (h : f_X2_byteAt_o1 x1 u = some r) : MX (wC cy ad) D cy l yX2_byteAt cX2_byteAt 2 (some .int) 0 0 0 [.ref (ad 1), .int x1] u u (some (.int (r))) := by
  refine entX (by decide +kernel) (Nat.le_of_ble_eq_true rfl) ?_
  intro p e s m args below meth c ls rr A E hr hlk hl w
  have hl : lv_has ls 2 [(0, .ref (ad 1)), (1, .int x1)] := hl
  skip
  have hx := E.1
  have hb := E.2.1
  have hown := E.2.2.2.1
  have hts := E.2.2.2.2
  refine lv_iload_n hx hb (dq da_X2_byteAt_o1 0 rfl) rfl (lv_at hl 1 rfl) ?_
  refine lv_if_lt (tgt := 12) hx hb (dq da_X2_byteAt_o1 1 rfl) (by decide) (fun c1 => ?_) (fun c1 => ?_)
  · have h := it c1 h
    exact b_X2_byteAt_o1_b12 E hr hlk h (lv_sub hl [] rfl) w
  · have h := ie c1 h
    refine lv_iload_n hx hb (dq da_X2_byteAt_o1 2 rfl) rfl (lv_at hl 1 rfl) ?_
    refine lv_aload_n hx hb (dq da_X2_byteAt_o1 3 rfl) rfl (lv_at hl 0 rfl) ?_
    refine gt_wC_1_count E w w_38 (dq da_X2_byteAt_o1 4 rfl) ?_
    refine lv_icmp_lt (tgt := 16) hx hb (dq da_X2_byteAt_o1 5 rfl) (by decide) (fun c2 => ?_) (fun c2 => ?_)
    · have h := it c2 h
      refine lv_aload_n hx hb (dq da_X2_byteAt_o1 8 rfl) rfl (lv_at hl 0 rfl) ?_
      refine gt_wC_1_row E w w_36 (dq da_X2_byteAt_o1 9 rfl) ?_
      refine lv_aload_n hx hb (dq da_X2_byteAt_o1 10 rfl) rfl (lv_at hl 0 rfl) ?_
      refine gt_wC_1_first E w w_37 (dq da_X2_byteAt_o1 11 rfl) ?_
      refine lv_iload_n hx hb (dq da_X2_byteAt_o1 12 rfl) rfl (lv_at hl 1 rfl) ?_
      refine lv_iadd hx hb (dq da_X2_byteAt_o1 13 rfl) ?_
      refine lv_aload_n hx hb (dq da_X2_byteAt_o1 14 rfl) rfl (lv_at hl 0 rfl) ?_
      refine gt_wC_1_row E w w_36 (dq da_X2_byteAt_o1 15 rfl) ?_
      refine aln_wC_2 E w (dq da_X2_byteAt_o1 16 rfl) ?_
      refine lv_iconst (v := 1) hx hb (dq da_X2_byteAt_o1 17 rfl) rfl ?_
      refine lv_isub hx hb (dq da_X2_byteAt_o1 18 rfl) ?_
      refine lv_iand hx hb (dq da_X2_byteAt_o1 19 rfl) ?_
      obtain ⟨hi3, h⟩ := oi h
      refine ald_wC_2 E w hi3 (dq da_X2_byteAt_o1 20 rfl) ?_
      refine lv_sipush (v := 255) hx hb (dq da_X2_byteAt_o1 21 rfl) rfl ?_
      refine lv_iand hx hb (dq da_X2_byteAt_o1 22 rfl) ?_
      exact xret_i E hr hlk w (by decide) (os h) rfl (dq da_X2_byteAt_o1 23 rfl)
    · have h := ie c2 h
      exact b_X2_byteAt_o1_b12 E hr hlk h (lv_sub hl [] rfl) w
def dl_X2_size_o11 : List (Nat × Instr × Nat) := [(0, .aload_n 0, 1), (1, .getfield 17, 3), (4, .ireturn, 1)]
theorem da_X2_size_o11 : dkL cX2_size dl_X2_size_o11 = true := by decide +kernel
def f_X2_size_o11 (u : St) : Int32 := (gI u 12)
set_option maxRecDepth 100000 in
set_option maxHeartbeats 4000000 in
theorem c_X2_size_o11 (l : Launch) (D : va_G) (cy : ClassId × ClassId × ClassId) (ad : Nat → Nat) (u : St) : MX (wC cy ad) D cy l yX2_size cX2_size 1 (some .int) 0 0 0 [.ref (ad 11)] u u (some (.int (f_X2_size_o11 u))) := by
  refine entX (by decide +kernel) (Nat.le_of_ble_eq_true rfl) ?_
  intro p e s m args below meth c ls rr A E hr hlk hl w
  have hl : lv_has ls 1 [(0, .ref (ad 11))] := hl
  generalize h : f_X2_size_o11 u = r
  skip
  have hx := E.1
  have hb := E.2.1
  have hown := E.2.2.2.1
  have hts := E.2.2.2.2
  refine lv_aload_n hx hb (dq da_X2_size_o11 0 rfl) rfl (lv_at hl 0 rfl) ?_
  refine gt_wC_11_count E w w_38 (dq da_X2_size_o11 1 rfl) ?_
  exact xret_i E hr hlk w (by decide) h rfl (dq da_X2_size_o11 2 rfl)
def dl_X2_clear_o11 : List (Nat × Instr × Nat) := [(0, .aload_n 0, 1), (1, .iconst 0, 1), (2, .putfield 20, 3), (5, .aload_n 0, 1), (6, .iconst 0, 1), (7, .putfield 17, 3), (10, .return_, 1)]
theorem da_X2_clear_o11 : dkL cX2_clear dl_X2_clear_o11 = true := by decide +kernel
def f_X2_clear_o11 (u : St) : St := (sI (sI u 11 (0 : Int32)) 12 (0 : Int32))
set_option maxRecDepth 100000 in
set_option maxHeartbeats 4000000 in
theorem c_X2_clear_o11 (l : Launch) (D : va_G) (cy : ClassId × ClassId × ClassId) (ad : Nat → Nat) (u : St) : MX (wC cy ad) D cy l yX2_clear cX2_clear 1 (none) 0 0 0 [.ref (ad 11)] u (f_X2_clear_o11 u) none := by
  refine entX (by decide +kernel) (Nat.le_of_ble_eq_true rfl) ?_
  intro p e s m args below meth c ls rr A E hr hlk hl w
  have hl : lv_has ls 1 [(0, .ref (ad 11))] := hl
  generalize h : f_X2_clear_o11 u = u'
  skip
  have hx := E.1
  have hb := E.2.1
  have hown := E.2.2.2.1
  have hts := E.2.2.2.2
  refine lv_aload_n hx hb (dq da_X2_clear_o11 0 rfl) rfl (lv_at hl 0 rfl) ?_
  refine lv_iconst (v := 0) hx hb (dq da_X2_clear_o11 1 rfl) rfl ?_
  refine pt_wC_11_first E w w_37 (dq da_X2_clear_o11 2 rfl) (fun H locs w => ?_)
  refine lv_aload_n hx hb (dq da_X2_clear_o11 3 rfl) rfl (lv_at hl 0 rfl) ?_
  refine lv_iconst (v := 0) hx hb (dq da_X2_clear_o11 4 rfl) rfl ?_
  refine pt_wC_11_count E w w_38 (dq da_X2_clear_o11 5 rfl) (fun H locs w => ?_)
  exact xret_v E hr hlk w (by decide) h (dq da_X2_clear_o11 6 rfl)
def dl_X2_byteAt_o11 : List (Nat × Instr × Nat) := [(0, .iload_n 1, 1), (1, .ifCond .lt 11, 3), (4, .iload_n 1, 1), (5, .aload_n 0, 1), (6, .getfield 17, 3), (9, .if_icmp .lt 7, 3), (12, .iconst 0, 1), (13, .goto 26, 3), (16, .aload_n 0, 1), (17, .getfield 9, 3), (20, .aload_n 0, 1), (21, .getfield 20, 3), (24, .iload_n 1, 1), (25, .iadd, 1), (26, .aload_n 0, 1), (27, .getfield 9, 3), (30, .arraylength, 1), (31, .iconst 1, 1), (32, .isub, 1), (33, .iand, 1), (34, .baload, 1), (35, .sipush 255, 3), (38, .iand, 1), (39, .ireturn, 1)]
theorem da_X2_byteAt_o11 : dkL cX2_byteAt dl_X2_byteAt_o11 = true := by decide +kernel
def f_X2_byteAt_o11_b12 (u : St) : Option (Int32) := some (0 : Int32)
set_option maxRecDepth 100000 in
set_option maxHeartbeats 4000000 in
theorem b_X2_byteAt_o11_b12 {p : Program} {l : Launch} {e : Env} {s : State} {m : MethodId} {args : Array Value} {below : List Frame} {meth : Method} {c : Code} {D : va_G} {cy : ClassId × ClassId × ClassId} {ad : Nat → Nat} {A : Nat → Prop} (E : CallFix p m c cX2_byteAt 2 s args gw RX2) (hr : meth.sig.returnType = some .int) (hlk : meth.locks = false) {u : St} {r : Int32} (h : f_X2_byteAt_o11_b12 u = some r) {ls : Array Slot} {H : Heap} {locs : List Loc} {rr : Nat → Nat} (hl : lv_has ls 2 []) (w : WX (wC cy ad) D cy rr u A s H locs) : Wx (wC cy ad) D p l e 0 0 0 s m args below meth c A u (some (.int r)) H locs 0 12 ls [] := by
  have hx := E.1
  have hb := E.2.1
  have hown := E.2.2.2.1
  have hts := E.2.2.2.2
  refine lv_iconst (v := 0) hx hb (dq da_X2_byteAt_o11 6 rfl) rfl ?_
  refine lv_goto (tgt := 39) hx hb (dq da_X2_byteAt_o11 7 rfl) (by decide) ?_
  exact xret_i E hr hlk w (by decide) (os h) rfl (dq da_X2_byteAt_o11 23 rfl)
def f_X2_byteAt_o11 (x1 : Int32) (u : St) : Option (Int32) := if x1 < (0 : Int32) then (f_X2_byteAt_o11_b12 u) else (if x1 < (gI u 12) then (if inB (((gI u 11) + x1) &&& ((Int32.ofNat (gN u 5)) - (1 : Int32))) (gN u 5) then (some ((gA u 4 (((gI u 11) + x1) &&& ((Int32.ofNat (gN u 5)) - (1 : Int32))).toNatClampNeg) &&& (255 : Int32))) else none) else (f_X2_byteAt_o11_b12 u))
set_option maxRecDepth 100000 in
set_option maxHeartbeats 4000000 in
theorem c_X2_byteAt_o11 (l : Launch) (D : va_G) (cy : ClassId × ClassId × ClassId) (ad : Nat → Nat) (x1 : Int32) (u : St) {r : Int32} (h : f_X2_byteAt_o11 x1 u = some r) : MX (wC cy ad) D cy l yX2_byteAt cX2_byteAt 2 (some .int) 0 0 0 [.ref (ad 11), .int x1] u u (some (.int (r))) := by
  refine entX (by decide +kernel) (Nat.le_of_ble_eq_true rfl) ?_
  intro p e s m args below meth c ls rr A E hr hlk hl w
  have hl : lv_has ls 2 [(0, .ref (ad 11)), (1, .int x1)] := hl
  skip
  have hx := E.1
  have hb := E.2.1
  have hown := E.2.2.2.1
  have hts := E.2.2.2.2
  refine lv_iload_n hx hb (dq da_X2_byteAt_o11 0 rfl) rfl (lv_at hl 1 rfl) ?_
  refine lv_if_lt (tgt := 12) hx hb (dq da_X2_byteAt_o11 1 rfl) (by decide) (fun c1 => ?_) (fun c1 => ?_)
  · have h := it c1 h
    exact b_X2_byteAt_o11_b12 E hr hlk h (lv_sub hl [] rfl) w
  · have h := ie c1 h
    refine lv_iload_n hx hb (dq da_X2_byteAt_o11 2 rfl) rfl (lv_at hl 1 rfl) ?_
    refine lv_aload_n hx hb (dq da_X2_byteAt_o11 3 rfl) rfl (lv_at hl 0 rfl) ?_
    refine gt_wC_11_count E w w_38 (dq da_X2_byteAt_o11 4 rfl) ?_
    refine lv_icmp_lt (tgt := 16) hx hb (dq da_X2_byteAt_o11 5 rfl) (by decide) (fun c2 => ?_) (fun c2 => ?_)
    · have h := it c2 h
      refine lv_aload_n hx hb (dq da_X2_byteAt_o11 8 rfl) rfl (lv_at hl 0 rfl) ?_
      refine gt_wC_11_row E w w_36 (dq da_X2_byteAt_o11 9 rfl) ?_
      refine lv_aload_n hx hb (dq da_X2_byteAt_o11 10 rfl) rfl (lv_at hl 0 rfl) ?_
      refine gt_wC_11_first E w w_37 (dq da_X2_byteAt_o11 11 rfl) ?_
      refine lv_iload_n hx hb (dq da_X2_byteAt_o11 12 rfl) rfl (lv_at hl 1 rfl) ?_
      refine lv_iadd hx hb (dq da_X2_byteAt_o11 13 rfl) ?_
      refine lv_aload_n hx hb (dq da_X2_byteAt_o11 14 rfl) rfl (lv_at hl 0 rfl) ?_
      refine gt_wC_11_row E w w_36 (dq da_X2_byteAt_o11 15 rfl) ?_
      refine aln_wC_12 E w (dq da_X2_byteAt_o11 16 rfl) ?_
      refine lv_iconst (v := 1) hx hb (dq da_X2_byteAt_o11 17 rfl) rfl ?_
      refine lv_isub hx hb (dq da_X2_byteAt_o11 18 rfl) ?_
      refine lv_iand hx hb (dq da_X2_byteAt_o11 19 rfl) ?_
      obtain ⟨hi3, h⟩ := oi h
      refine ald_wC_12 E w hi3 (dq da_X2_byteAt_o11 20 rfl) ?_
      refine lv_sipush (v := 255) hx hb (dq da_X2_byteAt_o11 21 rfl) rfl ?_
      refine lv_iand hx hb (dq da_X2_byteAt_o11 22 rfl) ?_
      exact xret_i E hr hlk w (by decide) (os h) rfl (dq da_X2_byteAt_o11 23 rfl)
    · have h := ie c2 h
      exact b_X2_byteAt_o11_b12 E hr hlk h (lv_sub hl [] rfl) w
def dl_X2_size_o13 : List (Nat × Instr × Nat) := [(0, .aload_n 0, 1), (1, .getfield 17, 3), (4, .ireturn, 1)]
theorem da_X2_size_o13 : dkL cX2_size dl_X2_size_o13 = true := by decide +kernel
def f_X2_size_o13 (u : St) : Int32 := (gI u 15)
set_option maxRecDepth 100000 in
set_option maxHeartbeats 4000000 in
theorem c_X2_size_o13 (l : Launch) (D : va_G) (cy : ClassId × ClassId × ClassId) (ad : Nat → Nat) (u : St) : MX (wC cy ad) D cy l yX2_size cX2_size 1 (some .int) 0 0 0 [.ref (ad 13)] u u (some (.int (f_X2_size_o13 u))) := by
  refine entX (by decide +kernel) (Nat.le_of_ble_eq_true rfl) ?_
  intro p e s m args below meth c ls rr A E hr hlk hl w
  have hl : lv_has ls 1 [(0, .ref (ad 13))] := hl
  generalize h : f_X2_size_o13 u = r
  skip
  have hx := E.1
  have hb := E.2.1
  have hown := E.2.2.2.1
  have hts := E.2.2.2.2
  refine lv_aload_n hx hb (dq da_X2_size_o13 0 rfl) rfl (lv_at hl 0 rfl) ?_
  refine gt_wC_13_count E w w_38 (dq da_X2_size_o13 1 rfl) ?_
  exact xret_i E hr hlk w (by decide) h rfl (dq da_X2_size_o13 2 rfl)
def dl_X2_clear_o13 : List (Nat × Instr × Nat) := [(0, .aload_n 0, 1), (1, .iconst 0, 1), (2, .putfield 20, 3), (5, .aload_n 0, 1), (6, .iconst 0, 1), (7, .putfield 17, 3), (10, .return_, 1)]
theorem da_X2_clear_o13 : dkL cX2_clear dl_X2_clear_o13 = true := by decide +kernel
def f_X2_clear_o13 (u : St) : St := (sI (sI u 14 (0 : Int32)) 15 (0 : Int32))
set_option maxRecDepth 100000 in
set_option maxHeartbeats 4000000 in
theorem c_X2_clear_o13 (l : Launch) (D : va_G) (cy : ClassId × ClassId × ClassId) (ad : Nat → Nat) (u : St) : MX (wC cy ad) D cy l yX2_clear cX2_clear 1 (none) 0 0 0 [.ref (ad 13)] u (f_X2_clear_o13 u) none := by
  refine entX (by decide +kernel) (Nat.le_of_ble_eq_true rfl) ?_
  intro p e s m args below meth c ls rr A E hr hlk hl w
  have hl : lv_has ls 1 [(0, .ref (ad 13))] := hl
  generalize h : f_X2_clear_o13 u = u'
  skip
  have hx := E.1
  have hb := E.2.1
  have hown := E.2.2.2.1
  have hts := E.2.2.2.2
  refine lv_aload_n hx hb (dq da_X2_clear_o13 0 rfl) rfl (lv_at hl 0 rfl) ?_
  refine lv_iconst (v := 0) hx hb (dq da_X2_clear_o13 1 rfl) rfl ?_
  refine pt_wC_13_first E w w_37 (dq da_X2_clear_o13 2 rfl) (fun H locs w => ?_)
  refine lv_aload_n hx hb (dq da_X2_clear_o13 3 rfl) rfl (lv_at hl 0 rfl) ?_
  refine lv_iconst (v := 0) hx hb (dq da_X2_clear_o13 4 rfl) rfl ?_
  refine pt_wC_13_count E w w_38 (dq da_X2_clear_o13 5 rfl) (fun H locs w => ?_)
  exact xret_v E hr hlk w (by decide) h (dq da_X2_clear_o13 6 rfl)
def dl_X2_byteAt_o13 : List (Nat × Instr × Nat) := [(0, .iload_n 1, 1), (1, .ifCond .lt 11, 3), (4, .iload_n 1, 1), (5, .aload_n 0, 1), (6, .getfield 17, 3), (9, .if_icmp .lt 7, 3), (12, .iconst 0, 1), (13, .goto 26, 3), (16, .aload_n 0, 1), (17, .getfield 9, 3), (20, .aload_n 0, 1), (21, .getfield 20, 3), (24, .iload_n 1, 1), (25, .iadd, 1), (26, .aload_n 0, 1), (27, .getfield 9, 3), (30, .arraylength, 1), (31, .iconst 1, 1), (32, .isub, 1), (33, .iand, 1), (34, .baload, 1), (35, .sipush 255, 3), (38, .iand, 1), (39, .ireturn, 1)]
theorem da_X2_byteAt_o13 : dkL cX2_byteAt dl_X2_byteAt_o13 = true := by decide +kernel
def f_X2_byteAt_o13_b12 (u : St) : Option (Int32) := some (0 : Int32)
set_option maxRecDepth 100000 in
set_option maxHeartbeats 4000000 in
theorem b_X2_byteAt_o13_b12 {p : Program} {l : Launch} {e : Env} {s : State} {m : MethodId} {args : Array Value} {below : List Frame} {meth : Method} {c : Code} {D : va_G} {cy : ClassId × ClassId × ClassId} {ad : Nat → Nat} {A : Nat → Prop} (E : CallFix p m c cX2_byteAt 2 s args gw RX2) (hr : meth.sig.returnType = some .int) (hlk : meth.locks = false) {u : St} {r : Int32} (h : f_X2_byteAt_o13_b12 u = some r) {ls : Array Slot} {H : Heap} {locs : List Loc} {rr : Nat → Nat} (hl : lv_has ls 2 []) (w : WX (wC cy ad) D cy rr u A s H locs) : Wx (wC cy ad) D p l e 0 0 0 s m args below meth c A u (some (.int r)) H locs 0 12 ls [] := by
  have hx := E.1
  have hb := E.2.1
  have hown := E.2.2.2.1
  have hts := E.2.2.2.2
  refine lv_iconst (v := 0) hx hb (dq da_X2_byteAt_o13 6 rfl) rfl ?_
  refine lv_goto (tgt := 39) hx hb (dq da_X2_byteAt_o13 7 rfl) (by decide) ?_
  exact xret_i E hr hlk w (by decide) (os h) rfl (dq da_X2_byteAt_o13 23 rfl)
def f_X2_byteAt_o13 (x1 : Int32) (u : St) : Option (Int32) := if x1 < (0 : Int32) then (f_X2_byteAt_o13_b12 u) else (if x1 < (gI u 15) then (if inB (((gI u 14) + x1) &&& ((Int32.ofNat (gN u 6)) - (1 : Int32))) (gN u 6) then (some ((gA u 5 (((gI u 14) + x1) &&& ((Int32.ofNat (gN u 6)) - (1 : Int32))).toNatClampNeg) &&& (255 : Int32))) else none) else (f_X2_byteAt_o13_b12 u))
set_option maxRecDepth 100000 in
set_option maxHeartbeats 4000000 in
theorem c_X2_byteAt_o13 (l : Launch) (D : va_G) (cy : ClassId × ClassId × ClassId) (ad : Nat → Nat) (x1 : Int32) (u : St) {r : Int32} (h : f_X2_byteAt_o13 x1 u = some r) : MX (wC cy ad) D cy l yX2_byteAt cX2_byteAt 2 (some .int) 0 0 0 [.ref (ad 13), .int x1] u u (some (.int (r))) := by
  refine entX (by decide +kernel) (Nat.le_of_ble_eq_true rfl) ?_
  intro p e s m args below meth c ls rr A E hr hlk hl w
  have hl : lv_has ls 2 [(0, .ref (ad 13)), (1, .int x1)] := hl
  skip
  have hx := E.1
  have hb := E.2.1
  have hown := E.2.2.2.1
  have hts := E.2.2.2.2
  refine lv_iload_n hx hb (dq da_X2_byteAt_o13 0 rfl) rfl (lv_at hl 1 rfl) ?_
  refine lv_if_lt (tgt := 12) hx hb (dq da_X2_byteAt_o13 1 rfl) (by decide) (fun c1 => ?_) (fun c1 => ?_)
  · have h := it c1 h
    exact b_X2_byteAt_o13_b12 E hr hlk h (lv_sub hl [] rfl) w
  · have h := ie c1 h
    refine lv_iload_n hx hb (dq da_X2_byteAt_o13 2 rfl) rfl (lv_at hl 1 rfl) ?_
    refine lv_aload_n hx hb (dq da_X2_byteAt_o13 3 rfl) rfl (lv_at hl 0 rfl) ?_
    refine gt_wC_13_count E w w_38 (dq da_X2_byteAt_o13 4 rfl) ?_
    refine lv_icmp_lt (tgt := 16) hx hb (dq da_X2_byteAt_o13 5 rfl) (by decide) (fun c2 => ?_) (fun c2 => ?_)
    · have h := it c2 h
      refine lv_aload_n hx hb (dq da_X2_byteAt_o13 8 rfl) rfl (lv_at hl 0 rfl) ?_
      refine gt_wC_13_row E w w_36 (dq da_X2_byteAt_o13 9 rfl) ?_
      refine lv_aload_n hx hb (dq da_X2_byteAt_o13 10 rfl) rfl (lv_at hl 0 rfl) ?_
      refine gt_wC_13_first E w w_37 (dq da_X2_byteAt_o13 11 rfl) ?_
      refine lv_iload_n hx hb (dq da_X2_byteAt_o13 12 rfl) rfl (lv_at hl 1 rfl) ?_
      refine lv_iadd hx hb (dq da_X2_byteAt_o13 13 rfl) ?_
      refine lv_aload_n hx hb (dq da_X2_byteAt_o13 14 rfl) rfl (lv_at hl 0 rfl) ?_
      refine gt_wC_13_row E w w_36 (dq da_X2_byteAt_o13 15 rfl) ?_
      refine aln_wC_14 E w (dq da_X2_byteAt_o13 16 rfl) ?_
      refine lv_iconst (v := 1) hx hb (dq da_X2_byteAt_o13 17 rfl) rfl ?_
      refine lv_isub hx hb (dq da_X2_byteAt_o13 18 rfl) ?_
      refine lv_iand hx hb (dq da_X2_byteAt_o13 19 rfl) ?_
      obtain ⟨hi3, h⟩ := oi h
      refine ald_wC_14 E w hi3 (dq da_X2_byteAt_o13 20 rfl) ?_
      refine lv_sipush (v := 255) hx hb (dq da_X2_byteAt_o13 21 rfl) rfl ?_
      refine lv_iand hx hb (dq da_X2_byteAt_o13 22 rfl) ?_
      exact xret_i E hr hlk w (by decide) (os h) rfl (dq da_X2_byteAt_o13 23 rfl)
    · have h := ie c2 h
      exact b_X2_byteAt_o13_b12 E hr hlk h (lv_sub hl [] rfl) w
def dl_X2_removeFirst_o11 : List (Nat × Instr × Nat) := [(0, .aload_n 0, 1), (1, .getfield 17, 3), (4, .ifCond .ne 5, 3), (7, .iconst 0, 1), (8, .ireturn, 1), (9, .aload_n 0, 1), (10, .getfield 9, 3), (13, .aload_n 0, 1), (14, .getfield 20, 3), (17, .aload_n 0, 1), (18, .getfield 9, 3), (21, .arraylength, 1), (22, .iconst 1, 1), (23, .isub, 1), (24, .iand, 1), (25, .baload, 1), (26, .sipush 255, 3), (29, .iand, 1), (30, .istore_n 1, 1), (31, .aload_n 0, 1), (32, .aload_n 0, 1), (33, .getfield 20, 3), (36, .iconst 1, 1), (37, .iadd, 1), (38, .aload_n 0, 1), (39, .getfield 9, 3), (42, .arraylength, 1), (43, .iconst 1, 1), (44, .isub, 1), (45, .iand, 1), (46, .putfield 20, 3), (49, .aload_n 0, 1), (50, .dup, 1), (51, .getfield 17, 3), (54, .iconst 1, 1), (55, .isub, 1), (56, .putfield 17, 3), (59, .iload_n 1, 1), (60, .ireturn, 1)]
theorem da_X2_removeFirst_o11 : dkL cX2_removeFirst dl_X2_removeFirst_o11 = true := by decide +kernel
def f_X2_removeFirst_o11 (u : St) : Option (Int32 × St) := if (gI u 12) = (0 : Int32) then (some ((0 : Int32), u)) else (if inB ((gI u 11) &&& ((Int32.ofNat (gN u 5)) - (1 : Int32))) (gN u 5) then (some (((gA u 4 ((gI u 11) &&& ((Int32.ofNat (gN u 5)) - (1 : Int32))).toNatClampNeg) &&& (255 : Int32)), (sI (sI u 11 (((gI u 11) + (1 : Int32)) &&& ((Int32.ofNat (gN u 5)) - (1 : Int32)))) 12 ((gI (sI u 11 (((gI u 11) + (1 : Int32)) &&& ((Int32.ofNat (gN u 5)) - (1 : Int32)))) 12) - (1 : Int32))))) else none)
set_option maxRecDepth 100000 in
set_option maxHeartbeats 4000000 in
theorem c_X2_removeFirst_o11 (l : Launch) (D : va_G) (cy : ClassId × ClassId × ClassId) (ad : Nat → Nat) (u : St) {r : Int32} {u' : St} (h : f_X2_removeFirst_o11 u = some (r, u')) : MX (wC cy ad) D cy l yX2_removeFirst cX2_removeFirst 2 (some .int) 0 0 0 [.ref (ad 11)] u u' (some (.int (r))) := by
  refine entX (by decide +kernel) (Nat.le_of_ble_eq_true rfl) ?_
  intro p e s m args below meth c ls rr A E hr hlk hl w
  have hl : lv_has ls 2 [(0, .ref (ad 11))] := hl
  skip
  have hx := E.1
  have hb := E.2.1
  have hown := E.2.2.2.1
  have hts := E.2.2.2.2
  refine lv_aload_n hx hb (dq da_X2_removeFirst_o11 0 rfl) rfl (lv_at hl 0 rfl) ?_
  refine gt_wC_11_count E w w_38 (dq da_X2_removeFirst_o11 1 rfl) ?_
  refine lv_if_ne (tgt := 9) hx hb (dq da_X2_removeFirst_o11 2 rfl) (by decide) (fun c1 => ?_) (fun c1 => ?_)
  · have h := ie c1 h
    refine lv_aload_n hx hb (dq da_X2_removeFirst_o11 5 rfl) rfl (lv_at hl 0 rfl) ?_
    refine gt_wC_11_row E w w_36 (dq da_X2_removeFirst_o11 6 rfl) ?_
    refine lv_aload_n hx hb (dq da_X2_removeFirst_o11 7 rfl) rfl (lv_at hl 0 rfl) ?_
    refine gt_wC_11_first E w w_37 (dq da_X2_removeFirst_o11 8 rfl) ?_
    refine lv_aload_n hx hb (dq da_X2_removeFirst_o11 9 rfl) rfl (lv_at hl 0 rfl) ?_
    refine gt_wC_11_row E w w_36 (dq da_X2_removeFirst_o11 10 rfl) ?_
    refine aln_wC_12 E w (dq da_X2_removeFirst_o11 11 rfl) ?_
    refine lv_iconst (v := 1) hx hb (dq da_X2_removeFirst_o11 12 rfl) rfl ?_
    refine lv_isub hx hb (dq da_X2_removeFirst_o11 13 rfl) ?_
    refine lv_iand hx hb (dq da_X2_removeFirst_o11 14 rfl) ?_
    obtain ⟨hi2, h⟩ := oi h
    refine ald_wC_12 E w hi2 (dq da_X2_removeFirst_o11 15 rfl) ?_
    refine lv_sipush (v := 255) hx hb (dq da_X2_removeFirst_o11 16 rfl) rfl ?_
    refine lv_iand hx hb (dq da_X2_removeFirst_o11 17 rfl) ?_
    refine lv_istore_n (lv' := [(1, .int ((gA u 4 ((gI u 11) &&& ((Int32.ofNat (gN u 5)) - (1 : Int32))).toNatClampNeg) &&& (255 : Int32))), (0, .ref (ad 11))]) hx hb (dq da_X2_removeFirst_o11 18 rfl) rfl hl (by decide) rfl (fun ls hl => ?_)
    refine lv_aload_n hx hb (dq da_X2_removeFirst_o11 19 rfl) rfl (lv_at hl 1 rfl) ?_
    refine lv_aload_n hx hb (dq da_X2_removeFirst_o11 20 rfl) rfl (lv_at hl 1 rfl) ?_
    refine gt_wC_11_first E w w_37 (dq da_X2_removeFirst_o11 21 rfl) ?_
    refine lv_iconst (v := 1) hx hb (dq da_X2_removeFirst_o11 22 rfl) rfl ?_
    refine lv_iadd hx hb (dq da_X2_removeFirst_o11 23 rfl) ?_
    refine lv_aload_n hx hb (dq da_X2_removeFirst_o11 24 rfl) rfl (lv_at hl 1 rfl) ?_
    refine gt_wC_11_row E w w_36 (dq da_X2_removeFirst_o11 25 rfl) ?_
    refine aln_wC_12 E w (dq da_X2_removeFirst_o11 26 rfl) ?_
    refine lv_iconst (v := 1) hx hb (dq da_X2_removeFirst_o11 27 rfl) rfl ?_
    refine lv_isub hx hb (dq da_X2_removeFirst_o11 28 rfl) ?_
    refine lv_iand hx hb (dq da_X2_removeFirst_o11 29 rfl) ?_
    refine pt_wC_11_first E w w_37 (dq da_X2_removeFirst_o11 30 rfl) (fun H locs w => ?_)
    refine lv_aload_n hx hb (dq da_X2_removeFirst_o11 31 rfl) rfl (lv_at hl 1 rfl) ?_
    refine lv_dup hx hb (dq da_X2_removeFirst_o11 32 rfl) rfl ?_
    refine gt_wC_11_count E w w_38 (dq da_X2_removeFirst_o11 33 rfl) ?_
    refine lv_iconst (v := 1) hx hb (dq da_X2_removeFirst_o11 34 rfl) rfl ?_
    refine lv_isub hx hb (dq da_X2_removeFirst_o11 35 rfl) ?_
    refine pt_wC_11_count E w w_38 (dq da_X2_removeFirst_o11 36 rfl) (fun H locs w => ?_)
    refine lv_iload_n hx hb (dq da_X2_removeFirst_o11 37 rfl) rfl (lv_at hl 0 rfl) ?_
    exact xret_i E hr hlk w (by decide) (congrArg Prod.fst (os h)) (congrArg Prod.snd (os h)) (dq da_X2_removeFirst_o11 38 rfl)
  · have h := it c1 h
    refine lv_iconst (v := 0) hx hb (dq da_X2_removeFirst_o11 3 rfl) rfl ?_
    exact xret_i E hr hlk w (by decide) (congrArg Prod.fst (os h)) (congrArg Prod.snd (os h)) (dq da_X2_removeFirst_o11 4 rfl)
def dl_X10_place : List (Nat × Instr × Nat) := [(0, .lload_n 1, 1), (1, .ldc2_w 19, 3), (4, .lsub, 1), (5, .lstore 4, 2), (7, .lload 4, 2), (9, .lconst 0, 1), (10, .lcmp, 1), (11, .ifCond .lt 22, 3), (14, .lload 4, 2), (16, .aload_n 0, 1), (17, .getfield 9, 3), (20, .iload_n 3, 1), (21, .isub, 1), (22, .i2l, 1), (23, .lcmp, 1), (24, .ifCond .gt 9, 3), (27, .lload 4, 2), (29, .l2i, 1), (30, .goto 4, 3), (33, .iconst (-1), 1), (34, .ireturn, 1)]
theorem da_X10_place : dkL cX10_place dl_X10_place = true := by decide +kernel
def f_X10_place_b33 (u : St) : Int32 := (-1 : Int32)
set_option maxRecDepth 100000 in
set_option maxHeartbeats 4000000 in
theorem b_X10_place_b33 {p : Program} {l : Launch} {e : Env} {s : State} {m : MethodId} {args : Array Value} {below : List Frame} {meth : Method} {c : Code} {D : va_G} {cy : ClassId × ClassId × ClassId} {ad : Nat → Nat} {A : Nat → Prop} (E : CallFix p m c cX10_place 6 s args gw RX10) (hr : meth.sig.returnType = some .int) (hlk : meth.locks = false) {u : St} {r : Int32} (h : f_X10_place_b33 u = r) {ls : Array Slot} {H : Heap} {locs : List Loc} {rr : Nat → Nat} (hl : lv_has ls 6 []) (w : WX (wC cy ad) D cy rr u A s H locs) : Wx (wC cy ad) D p l e 0 0 0 s m args below meth c A u (some (.int r)) H locs 0 33 ls [] := by
  have hx := E.1
  have hb := E.2.1
  have hown := E.2.2.2.1
  have hts := E.2.2.2.2
  refine lv_iconst (v := (-1)) hx hb (dq da_X10_place 19 rfl) rfl ?_
  exact xret_i E hr hlk w (by decide) h rfl (dq da_X10_place 20 rfl)
def f_X10_place (x1 : Int64) (x3 : Int32) (u : St) : Int32 := if (x1 - (2147483648 : Int64)) < (0 : Int64) then (f_X10_place_b33 u) else (if ((gI u 5) - x3).toInt64 < (x1 - (2147483648 : Int64)) then (f_X10_place_b33 u) else ((x1 - (2147483648 : Int64)).toInt32))
set_option maxRecDepth 100000 in
set_option maxHeartbeats 4000000 in
theorem c_X10_place (l : Launch) (D : va_G) (cy : ClassId × ClassId × ClassId) (ad : Nat → Nat) (x1 : Int64) (x3 : Int32) (u : St) : MX (wC cy ad) D cy l yX10_place cX10_place 6 (some .int) 0 0 0 [.ref (ad 4), .long x1, .int x3] u u (some (.int (f_X10_place x1 x3 u))) := by
  refine entX (by decide +kernel) (Nat.le_of_ble_eq_true rfl) ?_
  intro p e s m args below meth c ls rr A E hr hlk hl w
  have hl : lv_has ls 6 [(0, .ref (ad 4)), (1, .long x1), (3, .int x3)] := hl
  generalize h : f_X10_place x1 x3 u = r
  skip
  have hx := E.1
  have hb := E.2.1
  have hown := E.2.2.2.1
  have hts := E.2.2.2.2
  refine lv_lload_n hx hb (dq da_X10_place 0 rfl) rfl (lv_at hl 1 rfl) ?_
  refine lv_ldc2 hx hb hown (hts _ w_349) (dq da_X10_place 1 rfl) ?_
  refine lv_lsub hx hb (dq da_X10_place 2 rfl) ?_
  refine lv_lstore (lv' := [(4, .long (x1 - (2147483648 : Int64))), (0, .ref (ad 4)), (1, .long x1), (3, .int x3)]) hx hb (dq da_X10_place 3 rfl) hl (by decide) rfl (fun ls hl => ?_)
  refine lv_lload hx hb (dq da_X10_place 4 rfl) (lv_at hl 0 rfl) ?_
  refine lv_lconst (v := 0) hx hb (dq da_X10_place 5 rfl) rfl ?_
  refine lc_lt (tgt := 33) hx hb (dq da_X10_place 6 rfl) (dq da_X10_place 7 rfl) (by decide) (fun c1 => ?_) (fun c1 => ?_)
  · have h := it c1 h
    exact b_X10_place_b33 E hr hlk h (lv_sub hl [] rfl) w
  · have h := ie c1 h
    refine lv_lload hx hb (dq da_X10_place 8 rfl) (lv_at hl 0 rfl) ?_
    refine lv_aload_n hx hb (dq da_X10_place 9 rfl) rfl (lv_at hl 1 rfl) ?_
    refine gt_wC_4_size E w w_57 (dq da_X10_place 10 rfl) ?_
    refine lv_iload_n hx hb (dq da_X10_place 11 rfl) rfl (lv_at hl 3 rfl) ?_
    refine lv_isub hx hb (dq da_X10_place 12 rfl) ?_
    refine lv_i2l (v := ((gI u 5) - x3).toInt64) hx hb (dq da_X10_place 13 rfl) rfl ?_
    refine lc_gt (tgt := 33) hx hb (dq da_X10_place 14 rfl) (dq da_X10_place 15 rfl) (by decide) (fun c2 => ?_) (fun c2 => ?_)
    · have h := it c2 h
      exact b_X10_place_b33 E hr hlk h (lv_sub hl [] rfl) w
    · have h := ie c2 h
      refine lv_lload hx hb (dq da_X10_place 16 rfl) (lv_at hl 0 rfl) ?_
      refine lv_l2i (v := (x1 - (2147483648 : Int64)).toInt32) hx hb (dq da_X10_place 17 rfl) rfl ?_
      refine lv_goto (tgt := 34) hx hb (dq da_X10_place 18 rfl) (by decide) ?_
      exact xret_i E hr hlk w (by decide) h rfl (dq da_X10_place 20 rfl)
def dl_X10_read : List (Nat × Instr × Nat) := [(0, .iload_n 1, 1), (1, .ifCond .lt 11, 3), (4, .iload_n 1, 1), (5, .aload_n 0, 1), (6, .getfield 9, 3), (9, .if_icmp .lt 5, 3), (12, .lconst 0, 1), (13, .lreturn, 1), (14, .bipush 64, 2), (16, .bipush 8, 2), (18, .iload_n 2, 1), (19, .imul, 1), (20, .isub, 1), (21, .istore_n 3, 1), (22, .aload_n 0, 1), (23, .getfield 15, 3), (26, .iload_n 1, 1), (27, .iconst 3, 1), (28, .ishr, 1), (29, .laload, 1), (30, .bipush 8, 2), (32, .iload_n 1, 1), (33, .bipush 7, 2), (35, .iand, 1), (36, .imul, 1), (37, .lushr, 1), (38, .iload_n 3, 1), (39, .lshl, 1), (40, .iload_n 3, 1), (41, .lushr, 1), (42, .lreturn, 1)]
theorem da_X10_read : dkL cX10_read dl_X10_read = true := by decide +kernel
def f_X10_read_b12 (u : St) : Option (Int64) := some (0 : Int64)
set_option maxRecDepth 100000 in
set_option maxHeartbeats 4000000 in
theorem b_X10_read_b12 {p : Program} {l : Launch} {e : Env} {s : State} {m : MethodId} {args : Array Value} {below : List Frame} {meth : Method} {c : Code} {D : va_G} {cy : ClassId × ClassId × ClassId} {ad : Nat → Nat} {A : Nat → Prop} (E : CallFix p m c cX10_read 4 s args gw RX10) (hr : meth.sig.returnType = some .long) (hlk : meth.locks = false) {u : St} {r : Int64} (h : f_X10_read_b12 u = some r) {ls : Array Slot} {H : Heap} {locs : List Loc} {rr : Nat → Nat} (hl : lv_has ls 4 []) (w : WX (wC cy ad) D cy rr u A s H locs) : Wx (wC cy ad) D p l e 0 0 0 s m args below meth c A u (some (.long r)) H locs 0 12 ls [] := by
  have hx := E.1
  have hb := E.2.1
  have hown := E.2.2.2.1
  have hts := E.2.2.2.2
  refine lv_lconst (v := 0) hx hb (dq da_X10_read 6 rfl) rfl ?_
  exact xret_l E hr hlk w (by decide) (os h) rfl (dq da_X10_read 7 rfl)
def f_X10_read (x1 : Int32) (x2 : Int32) (u : St) : Option (Int64) := if x1 < (0 : Int32) then (f_X10_read_b12 u) else (if x1 < (gI u 5) then (if inB (x1 >>> ((3 : Int32) &&& 31)) (gN u 1) then (some (j_lushr (j_lshl (j_lushr (gB u 0 (x1 >>> ((3 : Int32) &&& 31)).toNatClampNeg) ((8 : Int32) * (x1 &&& (7 : Int32)))) ((64 : Int32) - ((8 : Int32) * x2))) ((64 : Int32) - ((8 : Int32) * x2)))) else none) else (f_X10_read_b12 u))
set_option maxRecDepth 100000 in
set_option maxHeartbeats 4000000 in
theorem c_X10_read (l : Launch) (D : va_G) (cy : ClassId × ClassId × ClassId) (ad : Nat → Nat) (x1 : Int32) (x2 : Int32) (u : St) {r : Int64} (h : f_X10_read x1 x2 u = some r) : MX (wC cy ad) D cy l yX10_read cX10_read 4 (some .long) 0 0 0 [.ref (ad 4), .int x1, .int x2] u u (some (.long (r))) := by
  refine entX (by decide +kernel) (Nat.le_of_ble_eq_true rfl) ?_
  intro p e s m args below meth c ls rr A E hr hlk hl w
  have hl : lv_has ls 4 [(0, .ref (ad 4)), (1, .int x1), (2, .int x2)] := hl
  skip
  have hx := E.1
  have hb := E.2.1
  have hown := E.2.2.2.1
  have hts := E.2.2.2.2
  refine lv_iload_n hx hb (dq da_X10_read 0 rfl) rfl (lv_at hl 1 rfl) ?_
  refine lv_if_lt (tgt := 12) hx hb (dq da_X10_read 1 rfl) (by decide) (fun c1 => ?_) (fun c1 => ?_)
  · have h := it c1 h
    exact b_X10_read_b12 E hr hlk h (lv_sub hl [] rfl) w
  · have h := ie c1 h
    refine lv_iload_n hx hb (dq da_X10_read 2 rfl) rfl (lv_at hl 1 rfl) ?_
    refine lv_aload_n hx hb (dq da_X10_read 3 rfl) rfl (lv_at hl 0 rfl) ?_
    refine gt_wC_4_size E w w_57 (dq da_X10_read 4 rfl) ?_
    refine lv_icmp_lt (tgt := 14) hx hb (dq da_X10_read 5 rfl) (by decide) (fun c2 => ?_) (fun c2 => ?_)
    · have h := it c2 h
      refine lv_bipush (v := 64) hx hb (dq da_X10_read 8 rfl) rfl ?_
      refine lv_bipush (v := 8) hx hb (dq da_X10_read 9 rfl) rfl ?_
      refine lv_iload_n hx hb (dq da_X10_read 10 rfl) rfl (lv_at hl 2 rfl) ?_
      refine lv_imul hx hb (dq da_X10_read 11 rfl) ?_
      refine lv_isub hx hb (dq da_X10_read 12 rfl) ?_
      refine lv_istore_n (lv' := [(3, .int ((64 : Int32) - ((8 : Int32) * x2))), (0, .ref (ad 4)), (1, .int x1), (2, .int x2)]) hx hb (dq da_X10_read 13 rfl) rfl hl (by decide) rfl (fun ls hl => ?_)
      refine lv_aload_n hx hb (dq da_X10_read 14 rfl) rfl (lv_at hl 1 rfl) ?_
      refine gt_wC_4_words E w w_59 (dq da_X10_read 15 rfl) ?_
      refine lv_iload_n hx hb (dq da_X10_read 16 rfl) rfl (lv_at hl 2 rfl) ?_
      refine lv_iconst (v := 3) hx hb (dq da_X10_read 17 rfl) rfl ?_
      refine lv_ishr hx hb (dq da_X10_read 18 rfl) ?_
      obtain ⟨hi3, h⟩ := oi h
      refine ald_wC_5 E w hi3 (dq da_X10_read 19 rfl) ?_
      refine lv_bipush (v := 8) hx hb (dq da_X10_read 20 rfl) rfl ?_
      refine lv_iload_n hx hb (dq da_X10_read 21 rfl) rfl (lv_at hl 2 rfl) ?_
      refine lv_bipush (v := 7) hx hb (dq da_X10_read 22 rfl) rfl ?_
      refine lv_iand hx hb (dq da_X10_read 23 rfl) ?_
      refine lv_imul hx hb (dq da_X10_read 24 rfl) ?_
      refine lv_lushr (v := (j_lushr (gB u 0 (x1 >>> ((3 : Int32) &&& 31)).toNatClampNeg) ((8 : Int32) * (x1 &&& (7 : Int32))))) hx hb (dq da_X10_read 25 rfl) rfl ?_
      refine lv_iload_n hx hb (dq da_X10_read 26 rfl) rfl (lv_at hl 0 rfl) ?_
      refine lv_lshl (v := (j_lshl (j_lushr (gB u 0 (x1 >>> ((3 : Int32) &&& 31)).toNatClampNeg) ((8 : Int32) * (x1 &&& (7 : Int32)))) ((64 : Int32) - ((8 : Int32) * x2)))) hx hb (dq da_X10_read 27 rfl) rfl ?_
      refine lv_iload_n hx hb (dq da_X10_read 28 rfl) rfl (lv_at hl 0 rfl) ?_
      refine lv_lushr (v := (j_lushr (j_lshl (j_lushr (gB u 0 (x1 >>> ((3 : Int32) &&& 31)).toNatClampNeg) ((8 : Int32) * (x1 &&& (7 : Int32)))) ((64 : Int32) - ((8 : Int32) * x2))) ((64 : Int32) - ((8 : Int32) * x2)))) hx hb (dq da_X10_read 29 rfl) rfl ?_
      exact xret_l E hr hlk w (by decide) (os h) rfl (dq da_X10_read 30 rfl)
    · have h := ie c2 h
      exact b_X10_read_b12 E hr hlk h (lv_sub hl [] rfl) w
def dl_X10_write : List (Nat × Instr × Nat) := [(0, .iload_n 1, 1), (1, .ifCond .lt 11, 3), (4, .iload_n 1, 1), (5, .aload_n 0, 1), (6, .getfield 9, 3), (9, .if_icmp .lt 4, 3), (12, .return_, 1), (13, .bipush 8, 2), (15, .iload_n 1, 1), (16, .bipush 7, 2), (18, .iand, 1), (19, .imul, 1), (20, .istore 5, 2), (22, .ldc2_w 21, 3), (25, .bipush 64, 2), (27, .bipush 8, 2), (29, .iload_n 2, 1), (30, .imul, 1), (31, .isub, 1), (32, .lushr, 1), (33, .iload 5, 2), (35, .lshl, 1), (36, .lstore 6, 2), (38, .aload_n 0, 1), (39, .getfield 15, 3), (42, .iload_n 1, 1), (43, .iconst 3, 1), (44, .ishr, 1), (45, .aload_n 0, 1), (46, .getfield 15, 3), (49, .iload_n 1, 1), (50, .iconst 3, 1), (51, .ishr, 1), (52, .laload, 1), (53, .lload 6, 2), (55, .ldc2_w 21, 3), (58, .lxor, 1), (59, .land, 1), (60, .lload_n 3, 1), (61, .iload 5, 2), (63, .lshl, 1), (64, .lload 6, 2), (66, .land, 1), (67, .lor, 1), (68, .lastore, 1), (69, .return_, 1)]
theorem da_X10_write : dkL cX10_write dl_X10_write = true := by decide +kernel
def f_X10_write (x1 : Int32) (x2 : Int32) (x3 : Int64) (u : St) : Option (St) := if x1 < (0 : Int32) then (some u) else (if x1 < (gI u 5) then (if inB (x1 >>> ((3 : Int32) &&& 31)) (gN u 1) then (if inB (x1 >>> ((3 : Int32) &&& 31)) (gN u 1) then (some (sB u 0 (x1 >>> ((3 : Int32) &&& 31)).toNatClampNeg (((gB u 0 (x1 >>> ((3 : Int32) &&& 31)).toNatClampNeg) &&& ((j_lshl (j_lushr (-1 : Int64) ((64 : Int32) - ((8 : Int32) * x2))) ((8 : Int32) * (x1 &&& (7 : Int32)))) ^^^ (-1 : Int64))) ||| ((j_lshl x3 ((8 : Int32) * (x1 &&& (7 : Int32)))) &&& (j_lshl (j_lushr (-1 : Int64) ((64 : Int32) - ((8 : Int32) * x2))) ((8 : Int32) * (x1 &&& (7 : Int32)))))))) else none) else none) else (some u))
set_option maxRecDepth 100000 in
set_option maxHeartbeats 4000000 in
theorem c_X10_write (l : Launch) (D : va_G) (cy : ClassId × ClassId × ClassId) (ad : Nat → Nat) (x1 : Int32) (x2 : Int32) (x3 : Int64) (u : St) {u' : St} (h : f_X10_write x1 x2 x3 u = some u') : MX (wC cy ad) D cy l yX10_write cX10_write 8 (none) 0 0 0 [.ref (ad 4), .int x1, .int x2, .long x3] u u' none := by
  refine entX (by decide +kernel) (Nat.le_of_ble_eq_true rfl) ?_
  intro p e s m args below meth c ls rr A E hr hlk hl w
  have hl : lv_has ls 8 [(0, .ref (ad 4)), (1, .int x1), (2, .int x2), (3, .long x3)] := hl
  skip
  have hx := E.1
  have hb := E.2.1
  have hown := E.2.2.2.1
  have hts := E.2.2.2.2
  refine lv_iload_n hx hb (dq da_X10_write 0 rfl) rfl (lv_at hl 1 rfl) ?_
  refine lv_if_lt (tgt := 12) hx hb (dq da_X10_write 1 rfl) (by decide) (fun c1 => ?_) (fun c1 => ?_)
  · have h := it c1 h
    exact xret_v E hr hlk w (by decide) (os h) (dq da_X10_write 6 rfl)
  · have h := ie c1 h
    refine lv_iload_n hx hb (dq da_X10_write 2 rfl) rfl (lv_at hl 1 rfl) ?_
    refine lv_aload_n hx hb (dq da_X10_write 3 rfl) rfl (lv_at hl 0 rfl) ?_
    refine gt_wC_4_size E w w_57 (dq da_X10_write 4 rfl) ?_
    refine lv_icmp_lt (tgt := 13) hx hb (dq da_X10_write 5 rfl) (by decide) (fun c2 => ?_) (fun c2 => ?_)
    · have h := it c2 h
      refine lv_bipush (v := 8) hx hb (dq da_X10_write 7 rfl) rfl ?_
      refine lv_iload_n hx hb (dq da_X10_write 8 rfl) rfl (lv_at hl 1 rfl) ?_
      refine lv_bipush (v := 7) hx hb (dq da_X10_write 9 rfl) rfl ?_
      refine lv_iand hx hb (dq da_X10_write 10 rfl) ?_
      refine lv_imul hx hb (dq da_X10_write 11 rfl) ?_
      refine lv_istore (lv' := [(5, .int ((8 : Int32) * (x1 &&& (7 : Int32)))), (0, .ref (ad 4)), (1, .int x1), (2, .int x2), (3, .long x3)]) hx hb (dq da_X10_write 12 rfl) hl (by decide) rfl (fun ls hl => ?_)
      refine lv_ldc2 hx hb hown (hts _ w_363) (dq da_X10_write 13 rfl) ?_
      refine lv_bipush (v := 64) hx hb (dq da_X10_write 14 rfl) rfl ?_
      refine lv_bipush (v := 8) hx hb (dq da_X10_write 15 rfl) rfl ?_
      refine lv_iload_n hx hb (dq da_X10_write 16 rfl) rfl (lv_at hl 3 rfl) ?_
      refine lv_imul hx hb (dq da_X10_write 17 rfl) ?_
      refine lv_isub hx hb (dq da_X10_write 18 rfl) ?_
      refine lv_lushr (v := (j_lushr (-1 : Int64) ((64 : Int32) - ((8 : Int32) * x2)))) hx hb (dq da_X10_write 19 rfl) rfl ?_
      refine lv_iload hx hb (dq da_X10_write 20 rfl) (lv_at hl 0 rfl) ?_
      refine lv_lshl (v := (j_lshl (j_lushr (-1 : Int64) ((64 : Int32) - ((8 : Int32) * x2))) ((8 : Int32) * (x1 &&& (7 : Int32))))) hx hb (dq da_X10_write 21 rfl) rfl ?_
      refine lv_lstore (lv' := [(6, .long (j_lshl (j_lushr (-1 : Int64) ((64 : Int32) - ((8 : Int32) * x2))) ((8 : Int32) * (x1 &&& (7 : Int32))))), (5, .int ((8 : Int32) * (x1 &&& (7 : Int32)))), (0, .ref (ad 4)), (1, .int x1), (2, .int x2), (3, .long x3)]) hx hb (dq da_X10_write 22 rfl) hl (by decide) rfl (fun ls hl => ?_)
      refine lv_aload_n hx hb (dq da_X10_write 23 rfl) rfl (lv_at hl 2 rfl) ?_
      refine gt_wC_4_words E w w_59 (dq da_X10_write 24 rfl) ?_
      refine lv_iload_n hx hb (dq da_X10_write 25 rfl) rfl (lv_at hl 3 rfl) ?_
      refine lv_iconst (v := 3) hx hb (dq da_X10_write 26 rfl) rfl ?_
      refine lv_ishr hx hb (dq da_X10_write 27 rfl) ?_
      refine lv_aload_n hx hb (dq da_X10_write 28 rfl) rfl (lv_at hl 2 rfl) ?_
      refine gt_wC_4_words E w w_59 (dq da_X10_write 29 rfl) ?_
      refine lv_iload_n hx hb (dq da_X10_write 30 rfl) rfl (lv_at hl 3 rfl) ?_
      refine lv_iconst (v := 3) hx hb (dq da_X10_write 31 rfl) rfl ?_
      refine lv_ishr hx hb (dq da_X10_write 32 rfl) ?_
      obtain ⟨hi3, h⟩ := oi h
      refine ald_wC_5 E w hi3 (dq da_X10_write 33 rfl) ?_
      refine lv_lload hx hb (dq da_X10_write 34 rfl) (lv_at hl 0 rfl) ?_
      refine lv_ldc2 hx hb hown (hts _ w_363) (dq da_X10_write 35 rfl) ?_
      refine lv_lxor hx hb (dq da_X10_write 36 rfl) ?_
      refine lv_land hx hb (dq da_X10_write 37 rfl) ?_
      refine lv_lload_n hx hb (dq da_X10_write 38 rfl) rfl (lv_at hl 5 rfl) ?_
      refine lv_iload hx hb (dq da_X10_write 39 rfl) (lv_at hl 1 rfl) ?_
      refine lv_lshl (v := (j_lshl x3 ((8 : Int32) * (x1 &&& (7 : Int32))))) hx hb (dq da_X10_write 40 rfl) rfl ?_
      refine lv_lload hx hb (dq da_X10_write 41 rfl) (lv_at hl 0 rfl) ?_
      refine lv_land hx hb (dq da_X10_write 42 rfl) ?_
      refine lv_lor hx hb (dq da_X10_write 43 rfl) ?_
      obtain ⟨hi4, h⟩ := oi h
      refine ast_wC_5 E w hi4 (dq da_X10_write 44 rfl) (fun H locs w => ?_)
      exact xret_v E hr hlk w (by decide) (os h) (dq da_X10_write 45 rfl)
    · have h := ie c2 h
      exact xret_v E hr hlk w (by decide) (os h) (dq da_X10_write 6 rfl)
def dl_X3_claim : List (Nat × Instr × Nat) := [(0, .iconst 0, 1), (1, .istore_n 2, 1), (2, .iconst 0, 1), (3, .istore_n 3, 1), (4, .iconst 1, 1), (5, .istore 4, 2), (7, .iload 4, 2), (9, .bipush 7, 2), (11, .if_icmp .gt 45, 3), (14, .aload_n 0, 1), (15, .getfield 39, 3), (18, .iload_n 1, 1), (19, .iand, 1), (20, .iload 4, 2), (22, .ishr, 1), (23, .iconst 1, 1), (24, .iand, 1), (25, .ifCond .eq 25, 3), (28, .aload_n 0, 1), (29, .getfield 9, 3), (32, .iload 4, 2), (34, .iaload, 1), (35, .iload_n 3, 1), (36, .if_icmp .le 14, 3), (39, .iload 4, 2), (41, .istore_n 2, 1), (42, .aload_n 0, 1), (43, .getfield 9, 3), (46, .iload 4, 2), (48, .iaload, 1), (49, .istore_n 3, 1), (50, .iinc 4 1, 3), (53, .goto (-46), 3), (56, .iload_n 2, 1), (57, .ifCond .eq 29, 3), (60, .aload_n 0, 1), (61, .dup, 1), (62, .getfield 39, 3), (65, .iconst 1, 1), (66, .iload_n 2, 1), (67, .ishl, 1), (68, .iconst (-1), 1), (69, .ixor, 1), (70, .iand, 1), (71, .putfield 39, 3), (74, .aload_n 0, 1), (75, .dup, 1), (76, .getfield 51, 3), (79, .iconst 1, 1), (80, .iload_n 2, 1), (81, .ishl, 1), (82, .ior, 1), (83, .putfield 51, 3), (86, .iload_n 2, 1), (87, .ireturn, 1)]
theorem da_X3_claim : dkL cX3_claim dl_X3_claim = true := by decide +kernel
def f_X3_claim_b86 (x2 : Int32) (u : St) : Option (Int32 × St) := some (x2, u)
set_option maxRecDepth 100000 in
set_option maxHeartbeats 4000000 in
theorem b_X3_claim_b86 {p : Program} {l : Launch} {e : Env} {s : State} {m : MethodId} {args : Array Value} {below : List Frame} {meth : Method} {c : Code} {D : va_G} {cy : ClassId × ClassId × ClassId} {ad : Nat → Nat} {A : Nat → Prop} (E : CallFix p m c cX3_claim 5 s args gw RX3) (hr : meth.sig.returnType = some .int) (hlk : meth.locks = false) {x2 : Int32} {u : St} {r : Int32} {u' : St} (h : f_X3_claim_b86 x2 u = some (r, u')) {ls : Array Slot} {H : Heap} {locs : List Loc} {rr : Nat → Nat} (hl : lv_has ls 5 [(2, .int x2)]) (w : WX (wC cy ad) D cy rr u A s H locs) : Wx (wC cy ad) D p l e 0 0 0 s m args below meth c A u' (some (.int r)) H locs 0 86 ls [] := by
  have hx := E.1
  have hb := E.2.1
  have hown := E.2.2.2.1
  have hts := E.2.2.2.2
  refine lv_iload_n hx hb (dq da_X3_claim 53 rfl) rfl (lv_at hl 0 rfl) ?_
  exact xret_i E hr hlk w (by decide) (congrArg Prod.fst (os h)) (congrArg Prod.snd (os h)) (dq da_X3_claim 54 rfl)
def f_X3_claim_b50 (k7 : Int32 → Int32 → Int32 → Int32 → St → Option (Int32 × St)) (x1 : Int32) (x2 : Int32) (x3 : Int32) (x4 : Int32) (u : St) : Option (Int32 × St) := k7 x1 x2 x3 (x4 + (1 : Int32)) u
set_option maxRecDepth 100000 in
set_option maxHeartbeats 4000000 in
theorem b_X3_claim_b50 {p : Program} {l : Launch} {e : Env} {s : State} {m : MethodId} {args : Array Value} {below : List Frame} {meth : Method} {c : Code} {D : va_G} {cy : ClassId × ClassId × ClassId} {ad : Nat → Nat} {A : Nat → Prop} (E : CallFix p m c cX3_claim 5 s args gw RX3) (hr : meth.sig.returnType = some .int) (hlk : meth.locks = false) {k7 : Int32 → Int32 → Int32 → Int32 → St → Option (Int32 × St)} (hk7 : ∀ (x1 : Int32) (x2 : Int32) (x3 : Int32) (x4 : Int32) (u : St) (r : Int32) (u' : St), k7 x1 x2 x3 x4 u = some (r, u') → ∀ (ls : Array Slot) (H : Heap) (locs : List Loc) (rr : Nat → Nat), lv_has ls 5 [(0, .ref (ad 6)), (1, .int x1), (2, .int x2), (3, .int x3), (4, .int x4)] → WX (wC cy ad) D cy rr u A s H locs → Wx (wC cy ad) D p l e 0 0 0 s m args below meth c A u' (some (.int r)) H locs 0 7 ls []) {x1 : Int32} {x2 : Int32} {x3 : Int32} {x4 : Int32} {u : St} {r : Int32} {u' : St} (h : f_X3_claim_b50 k7 x1 x2 x3 x4 u = some (r, u')) {ls : Array Slot} {H : Heap} {locs : List Loc} {rr : Nat → Nat} (hl : lv_has ls 5 [(0, .ref (ad 6)), (1, .int x1), (2, .int x2), (3, .int x3), (4, .int x4)]) (w : WX (wC cy ad) D cy rr u A s H locs) : Wx (wC cy ad) D p l e 0 0 0 s m args below meth c A u' (some (.int r)) H locs 0 50 ls [] := by
  have hx := E.1
  have hb := E.2.1
  have hown := E.2.2.2.1
  have hts := E.2.2.2.2
  refine lv_iinc (v := (x4 + (1 : Int32))) (lv' := [(4, .int (x4 + (1 : Int32))), (0, .ref (ad 6)), (1, .int x1), (2, .int x2), (3, .int x3)]) hx hb (dq da_X3_claim 31 rfl) hl (k := 4) rfl rfl (by decide) rfl (fun ls hl => ?_)
  refine lv_goto (tgt := 7) hx hb (dq da_X3_claim 32 rfl) (by decide) ?_
  exact hk7 _ _ _ _ _ _ _ h ls _ _ _ (lv_sub hl [1, 2, 3, 4, 0] rfl) w
def f_X3_claim_b7_s (k7 : Int32 → Int32 → Int32 → Int32 → St → Option (Int32 × St)) (x1 : Int32) (x2 : Int32) (x3 : Int32) (x4 : Int32) (u : St) : Option (Int32 × St) := if (7 : Int32) < x4 then (if x2 = (0 : Int32) then (f_X3_claim_b86 x2 u) else (f_X3_claim_b86 x2 (sI (sI u 7 ((gI u 7) &&& (((1 : Int32) <<< (x2 &&& 31)) ^^^ (-1 : Int32)))) 8 ((gI (sI u 7 ((gI u 7) &&& (((1 : Int32) <<< (x2 &&& 31)) ^^^ (-1 : Int32)))) 8) ||| ((1 : Int32) <<< (x2 &&& 31)))))) else (if ((((gI u 7) &&& x1) >>> (x4 &&& 31)) &&& (1 : Int32)) = (0 : Int32) then (f_X3_claim_b50 k7 x1 x2 x3 x4 u) else (if inB x4 (gN u 2) then (if (gA u 1 x4.toNatClampNeg) ≤ x3 then (f_X3_claim_b50 k7 x1 x2 x3 x4 u) else (if inB x4 (gN u 2) then (f_X3_claim_b50 k7 x1 x4 (gA u 1 x4.toNatClampNeg) x4 u) else none)) else none))
set_option maxRecDepth 100000 in
set_option maxHeartbeats 4000000 in
theorem b_X3_claim_b7_s {p : Program} {l : Launch} {e : Env} {s : State} {m : MethodId} {args : Array Value} {below : List Frame} {meth : Method} {c : Code} {D : va_G} {cy : ClassId × ClassId × ClassId} {ad : Nat → Nat} {A : Nat → Prop} (E : CallFix p m c cX3_claim 5 s args gw RX3) (hr : meth.sig.returnType = some .int) (hlk : meth.locks = false) {k7 : Int32 → Int32 → Int32 → Int32 → St → Option (Int32 × St)} (hk7 : ∀ (x1 : Int32) (x2 : Int32) (x3 : Int32) (x4 : Int32) (u : St) (r : Int32) (u' : St), k7 x1 x2 x3 x4 u = some (r, u') → ∀ (ls : Array Slot) (H : Heap) (locs : List Loc) (rr : Nat → Nat), lv_has ls 5 [(0, .ref (ad 6)), (1, .int x1), (2, .int x2), (3, .int x3), (4, .int x4)] → WX (wC cy ad) D cy rr u A s H locs → Wx (wC cy ad) D p l e 0 0 0 s m args below meth c A u' (some (.int r)) H locs 0 7 ls []) {x1 : Int32} {x2 : Int32} {x3 : Int32} {x4 : Int32} {u : St} {r : Int32} {u' : St} (h : f_X3_claim_b7_s k7 x1 x2 x3 x4 u = some (r, u')) {ls : Array Slot} {H : Heap} {locs : List Loc} {rr : Nat → Nat} (hl : lv_has ls 5 [(0, .ref (ad 6)), (1, .int x1), (2, .int x2), (3, .int x3), (4, .int x4)]) (w : WX (wC cy ad) D cy rr u A s H locs) : Wx (wC cy ad) D p l e 0 0 0 s m args below meth c A u' (some (.int r)) H locs 0 7 ls [] := by
  have hx := E.1
  have hb := E.2.1
  have hown := E.2.2.2.1
  have hts := E.2.2.2.2
  refine lv_iload hx hb (dq da_X3_claim 6 rfl) (lv_at hl 4 rfl) ?_
  refine lv_bipush (v := 7) hx hb (dq da_X3_claim 7 rfl) rfl ?_
  refine lv_icmp_gt (tgt := 56) hx hb (dq da_X3_claim 8 rfl) (by decide) (fun c1 => ?_) (fun c1 => ?_)
  · have h := it c1 h
    refine lv_iload_n hx hb (dq da_X3_claim 33 rfl) rfl (lv_at hl 2 rfl) ?_
    refine lv_if_eq (tgt := 86) hx hb (dq da_X3_claim 34 rfl) (by decide) (fun c2 => ?_) (fun c2 => ?_)
    · have h := it c2 h
      exact b_X3_claim_b86 E hr hlk h (lv_sub hl [2] rfl) w
    · have h := ie c2 h
      refine lv_aload_n hx hb (dq da_X3_claim 35 rfl) rfl (lv_at hl 0 rfl) ?_
      refine lv_dup hx hb (dq da_X3_claim 36 rfl) rfl ?_
      refine gt_wC_6_pending E w w_80 (dq da_X3_claim 37 rfl) ?_
      refine lv_iconst (v := 1) hx hb (dq da_X3_claim 38 rfl) rfl ?_
      refine lv_iload_n hx hb (dq da_X3_claim 39 rfl) rfl (lv_at hl 2 rfl) ?_
      refine lv_ishl hx hb (dq da_X3_claim 40 rfl) ?_
      refine lv_iconst (v := (-1)) hx hb (dq da_X3_claim 41 rfl) rfl ?_
      refine lv_ixor hx hb (dq da_X3_claim 42 rfl) ?_
      refine lv_iand hx hb (dq da_X3_claim 43 rfl) ?_
      refine pt_wC_6_pending E w w_80 (dq da_X3_claim 44 rfl) (fun H locs w => ?_)
      refine lv_aload_n hx hb (dq da_X3_claim 45 rfl) rfl (lv_at hl 0 rfl) ?_
      refine lv_dup hx hb (dq da_X3_claim 46 rfl) rfl ?_
      refine gt_wC_6_claimed E w w_82 (dq da_X3_claim 47 rfl) ?_
      refine lv_iconst (v := 1) hx hb (dq da_X3_claim 48 rfl) rfl ?_
      refine lv_iload_n hx hb (dq da_X3_claim 49 rfl) rfl (lv_at hl 2 rfl) ?_
      refine lv_ishl hx hb (dq da_X3_claim 50 rfl) ?_
      refine lv_ior hx hb (dq da_X3_claim 51 rfl) ?_
      refine pt_wC_6_claimed E w w_82 (dq da_X3_claim 52 rfl) (fun H locs w => ?_)
      exact b_X3_claim_b86 E hr hlk h (lv_sub hl [2] rfl) w
  · have h := ie c1 h
    refine lv_aload_n hx hb (dq da_X3_claim 9 rfl) rfl (lv_at hl 0 rfl) ?_
    refine gt_wC_6_pending E w w_80 (dq da_X3_claim 10 rfl) ?_
    refine lv_iload_n hx hb (dq da_X3_claim 11 rfl) rfl (lv_at hl 1 rfl) ?_
    refine lv_iand hx hb (dq da_X3_claim 12 rfl) ?_
    refine lv_iload hx hb (dq da_X3_claim 13 rfl) (lv_at hl 4 rfl) ?_
    refine lv_ishr hx hb (dq da_X3_claim 14 rfl) ?_
    refine lv_iconst (v := 1) hx hb (dq da_X3_claim 15 rfl) rfl ?_
    refine lv_iand hx hb (dq da_X3_claim 16 rfl) ?_
    refine lv_if_eq (tgt := 50) hx hb (dq da_X3_claim 17 rfl) (by decide) (fun c3 => ?_) (fun c3 => ?_)
    · have h := it c3 h
      exact b_X3_claim_b50 E hr hlk hk7 h (lv_sub hl [0, 1, 2, 3, 4] rfl) w
    · have h := ie c3 h
      refine lv_aload_n hx hb (dq da_X3_claim 18 rfl) rfl (lv_at hl 0 rfl) ?_
      refine gt_wC_6_priority E w w_76 (dq da_X3_claim 19 rfl) ?_
      refine lv_iload hx hb (dq da_X3_claim 20 rfl) (lv_at hl 4 rfl) ?_
      obtain ⟨hi4, h⟩ := oi h
      refine ald_wC_7 E w hi4 (dq da_X3_claim 21 rfl) ?_
      refine lv_iload_n hx hb (dq da_X3_claim 22 rfl) rfl (lv_at hl 3 rfl) ?_
      refine lv_icmp_le (tgt := 50) hx hb (dq da_X3_claim 23 rfl) (by decide) (fun c5 => ?_) (fun c5 => ?_)
      · have h := it c5 h
        exact b_X3_claim_b50 E hr hlk hk7 h (lv_sub hl [0, 1, 2, 3, 4] rfl) w
      · have h := ie c5 h
        refine lv_iload hx hb (dq da_X3_claim 24 rfl) (lv_at hl 4 rfl) ?_
        refine lv_istore_n (lv' := [(2, .int x4), (0, .ref (ad 6)), (1, .int x1), (3, .int x3), (4, .int x4)]) hx hb (dq da_X3_claim 25 rfl) rfl hl (by decide) rfl (fun ls hl => ?_)
        refine lv_aload_n hx hb (dq da_X3_claim 26 rfl) rfl (lv_at hl 1 rfl) ?_
        refine gt_wC_6_priority E w w_76 (dq da_X3_claim 27 rfl) ?_
        refine lv_iload hx hb (dq da_X3_claim 28 rfl) (lv_at hl 4 rfl) ?_
        obtain ⟨hi6, h⟩ := oi h
        refine ald_wC_7 E w hi6 (dq da_X3_claim 29 rfl) ?_
        refine lv_istore_n (lv' := [(3, .int (gA u 1 x4.toNatClampNeg)), (2, .int x4), (0, .ref (ad 6)), (1, .int x1), (4, .int x4)]) hx hb (dq da_X3_claim 30 rfl) rfl hl (by decide) rfl (fun ls hl => ?_)
        exact b_X3_claim_b50 E hr hlk hk7 h (lv_sub hl [2, 3, 1, 0, 4] rfl) w
def f_X3_claim_b7 : Nat → Int32 → Int32 → Int32 → Int32 → St → Option (Int32 × St)
  | 0 => fun _ _ _ _ _ => none
  | n + 1 => f_X3_claim_b7_s (f_X3_claim_b7 n)
theorem b_X3_claim_b7 {p : Program} {l : Launch} {e : Env} {s : State} {m : MethodId} {args : Array Value} {below : List Frame} {meth : Method} {c : Code} {D : va_G} {cy : ClassId × ClassId × ClassId} {ad : Nat → Nat} {A : Nat → Prop} (E : CallFix p m c cX3_claim 5 s args gw RX3) (hr : meth.sig.returnType = some .int) (hlk : meth.locks = false) : ∀ n : Nat, ∀ (x1 : Int32) (x2 : Int32) (x3 : Int32) (x4 : Int32) (u : St) (r : Int32) (u' : St), f_X3_claim_b7 n x1 x2 x3 x4 u = some (r, u') → ∀ (ls : Array Slot) (H : Heap) (locs : List Loc) (rr : Nat → Nat), lv_has ls 5 [(0, .ref (ad 6)), (1, .int x1), (2, .int x2), (3, .int x3), (4, .int x4)] → WX (wC cy ad) D cy rr u A s H locs → Wx (wC cy ad) D p l e 0 0 0 s m args below meth c A u' (some (.int r)) H locs 0 7 ls [] := by
  intro n
  induction n with
  | zero => intro x1 x2 x3 x4 u r u' h; cases h
  | succ n ih => intro x1 x2 x3 x4 u r u' h ls H locs rr hl w; exact b_X3_claim_b7_s E hr hlk ih h hl w
def f_X3_claim (x1 : Int32) (u : St) : Option (Int32 × St) := f_X3_claim_b7 FU x1 (0 : Int32) (0 : Int32) (1 : Int32) u
set_option maxRecDepth 100000 in
set_option maxHeartbeats 4000000 in
theorem c_X3_claim (l : Launch) (D : va_G) (cy : ClassId × ClassId × ClassId) (ad : Nat → Nat) (x1 : Int32) (u : St) {r : Int32} {u' : St} (h : f_X3_claim x1 u = some (r, u')) : MX (wC cy ad) D cy l yX3_claim cX3_claim 5 (some .int) 0 0 0 [.ref (ad 6), .int x1] u u' (some (.int (r))) := by
  refine entX (by decide +kernel) (Nat.le_of_ble_eq_true rfl) ?_
  intro p e s m args below meth c ls rr A E hr hlk hl w
  have hl : lv_has ls 5 [(0, .ref (ad 6)), (1, .int x1)] := hl
  skip
  have hx := E.1
  have hb := E.2.1
  have hown := E.2.2.2.1
  have hts := E.2.2.2.2
  refine lv_iconst (v := 0) hx hb (dq da_X3_claim 0 rfl) rfl ?_
  refine lv_istore_n (lv' := [(2, .int (0 : Int32)), (0, .ref (ad 6)), (1, .int x1)]) hx hb (dq da_X3_claim 1 rfl) rfl hl (by decide) rfl (fun ls hl => ?_)
  refine lv_iconst (v := 0) hx hb (dq da_X3_claim 2 rfl) rfl ?_
  refine lv_istore_n (lv' := [(3, .int (0 : Int32)), (2, .int (0 : Int32)), (0, .ref (ad 6)), (1, .int x1)]) hx hb (dq da_X3_claim 3 rfl) rfl hl (by decide) rfl (fun ls hl => ?_)
  refine lv_iconst (v := 1) hx hb (dq da_X3_claim 4 rfl) rfl ?_
  refine lv_istore (lv' := [(4, .int (1 : Int32)), (3, .int (0 : Int32)), (2, .int (0 : Int32)), (0, .ref (ad 6)), (1, .int x1)]) hx hb (dq da_X3_claim 5 rfl) hl (by decide) rfl (fun ls hl => ?_)
  exact b_X3_claim_b7 E hr hlk FU _ _ _ _ _ _ _ h ls _ _ _ (lv_sub hl [3, 4, 2, 1, 0] rfl) w
def dl_X3_complete : List (Nat × Instr × Nat) := [(0, .iload_n 2, 1), (1, .iconst 1, 1), (2, .if_icmp .lt 25, 3), (5, .iload_n 2, 1), (6, .bipush 7, 2), (8, .if_icmp .gt 19, 3), (11, .aload_n 0, 1), (12, .dup, 1), (13, .getfield 51, 3), (16, .iload_n 1, 1), (17, .iconst 1, 1), (18, .iload_n 2, 1), (19, .ishl, 1), (20, .iand, 1), (21, .iconst (-1), 1), (22, .ixor, 1), (23, .iand, 1), (24, .putfield 51, 3), (27, .return_, 1)]
theorem da_X3_complete : dkL cX3_complete dl_X3_complete = true := by decide +kernel
def f_X3_complete (x1 : Int32) (x2 : Int32) (u : St) : St := if x2 < (1 : Int32) then u else (if (7 : Int32) < x2 then u else (sI u 8 ((gI u 8) &&& ((x1 &&& ((1 : Int32) <<< (x2 &&& 31))) ^^^ (-1 : Int32)))))
set_option maxRecDepth 100000 in
set_option maxHeartbeats 4000000 in
theorem c_X3_complete (l : Launch) (D : va_G) (cy : ClassId × ClassId × ClassId) (ad : Nat → Nat) (x1 : Int32) (x2 : Int32) (u : St) : MX (wC cy ad) D cy l yX3_complete cX3_complete 3 (none) 0 0 0 [.ref (ad 6), .int x1, .int x2] u (f_X3_complete x1 x2 u) none := by
  refine entX (by decide +kernel) (Nat.le_of_ble_eq_true rfl) ?_
  intro p e s m args below meth c ls rr A E hr hlk hl w
  have hl : lv_has ls 3 [(0, .ref (ad 6)), (1, .int x1), (2, .int x2)] := hl
  generalize h : f_X3_complete x1 x2 u = u'
  skip
  have hx := E.1
  have hb := E.2.1
  have hown := E.2.2.2.1
  have hts := E.2.2.2.2
  refine lv_iload_n hx hb (dq da_X3_complete 0 rfl) rfl (lv_at hl 2 rfl) ?_
  refine lv_iconst (v := 1) hx hb (dq da_X3_complete 1 rfl) rfl ?_
  refine lv_icmp_lt (tgt := 27) hx hb (dq da_X3_complete 2 rfl) (by decide) (fun c1 => ?_) (fun c1 => ?_)
  · have h := it c1 h
    exact xret_v E hr hlk w (by decide) h (dq da_X3_complete 18 rfl)
  · have h := ie c1 h
    refine lv_iload_n hx hb (dq da_X3_complete 3 rfl) rfl (lv_at hl 2 rfl) ?_
    refine lv_bipush (v := 7) hx hb (dq da_X3_complete 4 rfl) rfl ?_
    refine lv_icmp_gt (tgt := 27) hx hb (dq da_X3_complete 5 rfl) (by decide) (fun c2 => ?_) (fun c2 => ?_)
    · have h := it c2 h
      exact xret_v E hr hlk w (by decide) h (dq da_X3_complete 18 rfl)
    · have h := ie c2 h
      refine lv_aload_n hx hb (dq da_X3_complete 6 rfl) rfl (lv_at hl 0 rfl) ?_
      refine lv_dup hx hb (dq da_X3_complete 7 rfl) rfl ?_
      refine gt_wC_6_claimed E w w_82 (dq da_X3_complete 8 rfl) ?_
      refine lv_iload_n hx hb (dq da_X3_complete 9 rfl) rfl (lv_at hl 1 rfl) ?_
      refine lv_iconst (v := 1) hx hb (dq da_X3_complete 10 rfl) rfl ?_
      refine lv_iload_n hx hb (dq da_X3_complete 11 rfl) rfl (lv_at hl 2 rfl) ?_
      refine lv_ishl hx hb (dq da_X3_complete 12 rfl) ?_
      refine lv_iand hx hb (dq da_X3_complete 13 rfl) ?_
      refine lv_iconst (v := (-1)) hx hb (dq da_X3_complete 14 rfl) rfl ?_
      refine lv_ixor hx hb (dq da_X3_complete 15 rfl) ?_
      refine lv_iand hx hb (dq da_X3_complete 16 rfl) ?_
      refine pt_wC_6_claimed E w w_82 (dq da_X3_complete 17 rfl) (fun H locs w => ?_)
      exact xret_v E hr hlk w (by decide) h (dq da_X3_complete 18 rfl)
def dl_X3_read : List (Nat × Instr × Nat) := [(0, .iload_n 1, 1), (1, .lookupswitch 129 #[(4096, 67), (8192, 73), (8320, 81), (2097152, 89), (2097156, 105), (2101248, 97), (2101252, 117)], 67), (68, .aload_n 0, 1), (69, .getfield 39, 3), (72, .i2l, 1), (73, .lreturn, 1), (74, .aload_n 0, 1), (75, .getfield 13, 3), (78, .iconst 0, 1), (79, .iaload, 1), (80, .i2l, 1), (81, .lreturn, 1), (82, .aload_n 0, 1), (83, .getfield 13, 3), (86, .iconst 1, 1), (87, .iaload, 1), (88, .i2l, 1), (89, .lreturn, 1), (90, .aload_n 0, 1), (91, .getfield 16, 3), (94, .iconst 0, 1), (95, .iaload, 1), (96, .i2l, 1), (97, .lreturn, 1), (98, .aload_n 0, 1), (99, .getfield 16, 3), (102, .iconst 1, 1), (103, .iaload, 1), (104, .i2l, 1), (105, .lreturn, 1), (106, .aload_n 0, 1), (107, .aload_n 0, 1), (108, .getfield 13, 3), (111, .iconst 0, 1), (112, .iaload, 1), (113, .invokevirtual 43, 3), (116, .i2l, 1), (117, .lreturn, 1), (118, .aload_n 0, 1), (119, .aload_n 0, 1), (120, .getfield 13, 3), (123, .iconst 1, 1), (124, .iaload, 1), (125, .invokevirtual 43, 3), (128, .i2l, 1), (129, .lreturn, 1), (130, .aload_n 0, 1), (131, .getfield 9, 3), (134, .iload_n 1, 1), (135, .iconst 2, 1), (136, .ishr, 1), (137, .bipush 7, 2), (139, .iand, 1), (140, .iaload, 1), (141, .i2l, 1), (142, .lreturn, 1)]
theorem da_X3_read : dkL cX3_read dl_X3_read = true := by decide +kernel
def f_X3_read (x1 : Int32) (u : St) : Option (Int64 × St) := if x1 = (4096 : Int32) then (some ((gI u 7).toInt64, u)) else if x1 = (8192 : Int32) then (if inB (0 : Int32) (gN u 3) then (some ((gA u 2 (0 : Int32).toNatClampNeg).toInt64, u)) else none) else if x1 = (8320 : Int32) then (if inB (1 : Int32) (gN u 3) then (some ((gA u 2 (1 : Int32).toNatClampNeg).toInt64, u)) else none) else if x1 = (2097152 : Int32) then (if inB (0 : Int32) (gN u 4) then (some ((gA u 3 (0 : Int32).toNatClampNeg).toInt64, u)) else none) else if x1 = (2097156 : Int32) then (if inB (0 : Int32) (gN u 3) then ((f_X3_claim (gA u 2 (0 : Int32).toNatClampNeg) u).bind (fun y10 => some (y10.1.toInt64, y10.2))) else none) else if x1 = (2101248 : Int32) then (if inB (1 : Int32) (gN u 4) then (some ((gA u 3 (1 : Int32).toNatClampNeg).toInt64, u)) else none) else if x1 = (2101252 : Int32) then (if inB (1 : Int32) (gN u 3) then ((f_X3_claim (gA u 2 (1 : Int32).toNatClampNeg) u).bind (fun y16 => some (y16.1.toInt64, y16.2))) else none) else (if inB ((x1 >>> ((2 : Int32) &&& 31)) &&& (7 : Int32)) (gN u 2) then (some ((gA u 1 ((x1 >>> ((2 : Int32) &&& 31)) &&& (7 : Int32)).toNatClampNeg).toInt64, u)) else none)
set_option maxRecDepth 100000 in
set_option maxHeartbeats 4000000 in
theorem c_X3_read (l : Launch) (D : va_G) (cy : ClassId × ClassId × ClassId) (ad : Nat → Nat) (x1 : Int32) (u : St) {r : Int64} {u' : St} (h : f_X3_read x1 u = some (r, u')) : MX (wC cy ad) D cy l yX3_read cX3_read 2 (some .long) 1 24 0 [.ref (ad 6), .int x1] u u' (some (.long (r))) := by
  refine entX (by decide +kernel) (Nat.le_of_ble_eq_true rfl) ?_
  intro p e s m args below meth c ls rr A E hr hlk hl w
  have hl : lv_has ls 2 [(0, .ref (ad 6)), (1, .int x1)] := hl
  skip
  have hx := E.1
  have hb := E.2.1
  have hown := E.2.2.2.1
  have hts := E.2.2.2.2
  refine lv_iload_n hx hb (dq da_X3_read 0 rfl) rfl (lv_at hl 1 rfl) ?_
  by_cases c1 : x1 = (4096 : Int32)
  · have h := it c1 h
    refine lv_lookup (off := 67) (tgt := 68) hx hb (dq da_X3_read 1 rfl) (by decide +kernel) (by rw [c1]; decide +kernel) (by decide) ?_
    refine lv_aload_n hx hb (dq da_X3_read 2 rfl) rfl (lv_at hl 0 rfl) ?_
    refine gt_wC_6_pending E w w_80 (dq da_X3_read 3 rfl) ?_
    refine lv_i2l (v := (gI u 7).toInt64) hx hb (dq da_X3_read 4 rfl) rfl ?_
    exact xret_l E hr hlk w (by decide) (congrArg Prod.fst (os h)) (congrArg Prod.snd (os h)) (dq da_X3_read 5 rfl)
  · have h := ie c1 h
    by_cases c2 : x1 = (8192 : Int32)
    · have h := it c2 h
      refine lv_lookup (off := 73) (tgt := 74) hx hb (dq da_X3_read 1 rfl) (by decide +kernel) (by rw [c2]; decide +kernel) (by decide) ?_
      refine lv_aload_n hx hb (dq da_X3_read 6 rfl) rfl (lv_at hl 0 rfl) ?_
      refine gt_wC_6_enabled E w w_77 (dq da_X3_read 7 rfl) ?_
      refine lv_iconst (v := 0) hx hb (dq da_X3_read 8 rfl) rfl ?_
      obtain ⟨hi3, h⟩ := oi h
      refine ald_wC_8 E w hi3 (dq da_X3_read 9 rfl) ?_
      refine lv_i2l (v := (gA u 2 (0 : Int32).toNatClampNeg).toInt64) hx hb (dq da_X3_read 10 rfl) rfl ?_
      exact xret_l E hr hlk w (by decide) (congrArg Prod.fst (os h)) (congrArg Prod.snd (os h)) (dq da_X3_read 11 rfl)
    · have h := ie c2 h
      by_cases c4 : x1 = (8320 : Int32)
      · have h := it c4 h
        refine lv_lookup (off := 81) (tgt := 82) hx hb (dq da_X3_read 1 rfl) (by decide +kernel) (by rw [c4]; decide +kernel) (by decide) ?_
        refine lv_aload_n hx hb (dq da_X3_read 12 rfl) rfl (lv_at hl 0 rfl) ?_
        refine gt_wC_6_enabled E w w_77 (dq da_X3_read 13 rfl) ?_
        refine lv_iconst (v := 1) hx hb (dq da_X3_read 14 rfl) rfl ?_
        obtain ⟨hi5, h⟩ := oi h
        refine ald_wC_8 E w hi5 (dq da_X3_read 15 rfl) ?_
        refine lv_i2l (v := (gA u 2 (1 : Int32).toNatClampNeg).toInt64) hx hb (dq da_X3_read 16 rfl) rfl ?_
        exact xret_l E hr hlk w (by decide) (congrArg Prod.fst (os h)) (congrArg Prod.snd (os h)) (dq da_X3_read 17 rfl)
      · have h := ie c4 h
        by_cases c6 : x1 = (2097152 : Int32)
        · have h := it c6 h
          refine lv_lookup (off := 89) (tgt := 90) hx hb (dq da_X3_read 1 rfl) (by decide +kernel) (by rw [c6]; decide +kernel) (by decide) ?_
          refine lv_aload_n hx hb (dq da_X3_read 18 rfl) rfl (lv_at hl 0 rfl) ?_
          refine gt_wC_6_threshold E w w_78 (dq da_X3_read 19 rfl) ?_
          refine lv_iconst (v := 0) hx hb (dq da_X3_read 20 rfl) rfl ?_
          obtain ⟨hi7, h⟩ := oi h
          refine ald_wC_9 E w hi7 (dq da_X3_read 21 rfl) ?_
          refine lv_i2l (v := (gA u 3 (0 : Int32).toNatClampNeg).toInt64) hx hb (dq da_X3_read 22 rfl) rfl ?_
          exact xret_l E hr hlk w (by decide) (congrArg Prod.fst (os h)) (congrArg Prod.snd (os h)) (dq da_X3_read 23 rfl)
        · have h := ie c6 h
          by_cases c8 : x1 = (2097156 : Int32)
          · have h := it c8 h
            refine lv_lookup (off := 105) (tgt := 106) hx hb (dq da_X3_read 1 rfl) (by decide +kernel) (by rw [c8]; decide +kernel) (by decide) ?_
            refine lv_aload_n hx hb (dq da_X3_read 30 rfl) rfl (lv_at hl 0 rfl) ?_
            refine lv_aload_n hx hb (dq da_X3_read 31 rfl) rfl (lv_at hl 0 rfl) ?_
            refine gt_wC_6_enabled E w w_77 (dq da_X3_read 32 rfl) ?_
            refine lv_iconst (v := 0) hx hb (dq da_X3_read 33 rfl) rfl ?_
            obtain ⟨hi9, h⟩ := oi h
            refine ald_wC_8 E w hi9 (dq da_X3_read 34 rfl) ?_
            obtain ⟨y10, hy11, h⟩ := ob h
            refine cV1 E (c_X3_claim l D cy ad _ _ hy11) w_901 w_903 w_p26 w_5 w_904 rfl hd_X3_claim rfl hl.1 rfl (Nat.le_of_ble_eq_true rfl) (by decide) (by decide) w (rc_wC_6 w) (dq da_X3_read 35 rfl) (fun H locs rr w => ?_)
            refine lv_i2l (v := y10.1.toInt64) hx hb (dq da_X3_read 36 rfl) rfl ?_
            exact xret_l E hr hlk w (by decide) (congrArg Prod.fst (os h)) (congrArg Prod.snd (os h)) (dq da_X3_read 37 rfl)
          · have h := ie c8 h
            by_cases c12 : x1 = (2101248 : Int32)
            · have h := it c12 h
              refine lv_lookup (off := 97) (tgt := 98) hx hb (dq da_X3_read 1 rfl) (by decide +kernel) (by rw [c12]; decide +kernel) (by decide) ?_
              refine lv_aload_n hx hb (dq da_X3_read 24 rfl) rfl (lv_at hl 0 rfl) ?_
              refine gt_wC_6_threshold E w w_78 (dq da_X3_read 25 rfl) ?_
              refine lv_iconst (v := 1) hx hb (dq da_X3_read 26 rfl) rfl ?_
              obtain ⟨hi13, h⟩ := oi h
              refine ald_wC_9 E w hi13 (dq da_X3_read 27 rfl) ?_
              refine lv_i2l (v := (gA u 3 (1 : Int32).toNatClampNeg).toInt64) hx hb (dq da_X3_read 28 rfl) rfl ?_
              exact xret_l E hr hlk w (by decide) (congrArg Prod.fst (os h)) (congrArg Prod.snd (os h)) (dq da_X3_read 29 rfl)
            · have h := ie c12 h
              by_cases c14 : x1 = (2101252 : Int32)
              · have h := it c14 h
                refine lv_lookup (off := 117) (tgt := 118) hx hb (dq da_X3_read 1 rfl) (by decide +kernel) (by rw [c14]; decide +kernel) (by decide) ?_
                refine lv_aload_n hx hb (dq da_X3_read 38 rfl) rfl (lv_at hl 0 rfl) ?_
                refine lv_aload_n hx hb (dq da_X3_read 39 rfl) rfl (lv_at hl 0 rfl) ?_
                refine gt_wC_6_enabled E w w_77 (dq da_X3_read 40 rfl) ?_
                refine lv_iconst (v := 1) hx hb (dq da_X3_read 41 rfl) rfl ?_
                obtain ⟨hi15, h⟩ := oi h
                refine ald_wC_8 E w hi15 (dq da_X3_read 42 rfl) ?_
                obtain ⟨y16, hy17, h⟩ := ob h
                refine cV1 E (c_X3_claim l D cy ad _ _ hy17) w_901 w_903 w_p26 w_5 w_904 rfl hd_X3_claim rfl hl.1 rfl (Nat.le_of_ble_eq_true rfl) (by decide) (by decide) w (rc_wC_6 w) (dq da_X3_read 43 rfl) (fun H locs rr w => ?_)
                refine lv_i2l (v := y16.1.toInt64) hx hb (dq da_X3_read 44 rfl) rfl ?_
                exact xret_l E hr hlk w (by decide) (congrArg Prod.fst (os h)) (congrArg Prod.snd (os h)) (dq da_X3_read 45 rfl)
              · have h := ie c14 h
                refine lv_lookup (off := 129) (tgt := 130) hx hb (dq da_X3_read 1 rfl) (by decide +kernel) (by show Op.lookupswitch.offset [(4096, 67), (8192, 73), (8320, 81), (2097152, 89), (2097156, 105), (2101248, 97), (2101252, 117)] (129) _ = _; rw [lv_osw (k := (4096 : Int32)) (a := 4096) c1 rfl, lv_osw (k := (8192 : Int32)) (a := 8192) c2 rfl, lv_osw (k := (8320 : Int32)) (a := 8320) c4 rfl, lv_osw (k := (2097152 : Int32)) (a := 2097152) c6 rfl, lv_osw (k := (2097156 : Int32)) (a := 2097156) c8 rfl, lv_osw (k := (2101248 : Int32)) (a := 2101248) c12 rfl, lv_osw (k := (2101252 : Int32)) (a := 2101252) c14 rfl]; rfl) (by decide) ?_
                refine lv_aload_n hx hb (dq da_X3_read 46 rfl) rfl (lv_at hl 0 rfl) ?_
                refine gt_wC_6_priority E w w_76 (dq da_X3_read 47 rfl) ?_
                refine lv_iload_n hx hb (dq da_X3_read 48 rfl) rfl (lv_at hl 1 rfl) ?_
                refine lv_iconst (v := 2) hx hb (dq da_X3_read 49 rfl) rfl ?_
                refine lv_ishr hx hb (dq da_X3_read 50 rfl) ?_
                refine lv_bipush (v := 7) hx hb (dq da_X3_read 51 rfl) rfl ?_
                refine lv_iand hx hb (dq da_X3_read 52 rfl) ?_
                obtain ⟨hi18, h⟩ := oi h
                refine ald_wC_7 E w hi18 (dq da_X3_read 53 rfl) ?_
                refine lv_i2l (v := (gA u 1 ((x1 >>> ((2 : Int32) &&& 31)) &&& (7 : Int32)).toNatClampNeg).toInt64) hx hb (dq da_X3_read 54 rfl) rfl ?_
                exact xret_l E hr hlk w (by decide) (congrArg Prod.fst (os h)) (congrArg Prod.snd (os h)) (dq da_X3_read 55 rfl)
def dl_X3_write : List (Nat × Instr × Nat) := [(0, .iload_n 1, 1), (1, .lookupswitch 152 #[(4096, 67), (8192, 70), (8320, 84), (2097152, 98), (2097156, 124), (2101248, 111), (2101252, 138)], 67), (68, .goto 100, 3), (71, .aload_n 0, 1), (72, .getfield 13, 3), (75, .iconst 0, 1), (76, .iload_n 2, 1), (77, .sipush 254, 3), (80, .iand, 1), (81, .iastore, 1), (82, .goto 86, 3), (85, .aload_n 0, 1), (86, .getfield 13, 3), (89, .iconst 1, 1), (90, .iload_n 2, 1), (91, .sipush 254, 3), (94, .iand, 1), (95, .iastore, 1), (96, .goto 72, 3), (99, .aload_n 0, 1), (100, .getfield 16, 3), (103, .iconst 0, 1), (104, .iload_n 2, 1), (105, .bipush 7, 2), (107, .iand, 1), (108, .iastore, 1), (109, .goto 59, 3), (112, .aload_n 0, 1), (113, .getfield 16, 3), (116, .iconst 1, 1), (117, .iload_n 2, 1), (118, .bipush 7, 2), (120, .iand, 1), (121, .iastore, 1), (122, .goto 46, 3), (125, .aload_n 0, 1), (126, .aload_n 0, 1), (127, .getfield 13, 3), (130, .iconst 0, 1), (131, .iaload, 1), (132, .iload_n 2, 1), (133, .invokevirtual 47, 3), (136, .goto 32, 3), (139, .aload_n 0, 1), (140, .aload_n 0, 1), (141, .getfield 13, 3), (144, .iconst 1, 1), (145, .iaload, 1), (146, .iload_n 2, 1), (147, .invokevirtual 47, 3), (150, .goto 18, 3), (153, .aload_n 0, 1), (154, .getfield 9, 3), (157, .iload_n 1, 1), (158, .iconst 2, 1), (159, .ishr, 1), (160, .bipush 7, 2), (162, .iand, 1), (163, .iload_n 2, 1), (164, .bipush 7, 2), (166, .iand, 1), (167, .iastore, 1), (168, .return_, 1)]
theorem da_X3_write : dkL cX3_write dl_X3_write = true := by decide +kernel
def f_X3_write (x1 : Int32) (x2 : Int32) (u : St) : Option (St) := if x1 = (4096 : Int32) then (some u) else if x1 = (8192 : Int32) then (if inB (0 : Int32) (gN u 3) then (some (sA u 2 (0 : Int32).toNatClampNeg (x2 &&& (254 : Int32)))) else none) else if x1 = (8320 : Int32) then (if inB (1 : Int32) (gN u 3) then (some (sA u 2 (1 : Int32).toNatClampNeg (x2 &&& (254 : Int32)))) else none) else if x1 = (2097152 : Int32) then (if inB (0 : Int32) (gN u 4) then (some (sA u 3 (0 : Int32).toNatClampNeg (x2 &&& (7 : Int32)))) else none) else if x1 = (2097156 : Int32) then (if inB (0 : Int32) (gN u 3) then (some (f_X3_complete (gA u 2 (0 : Int32).toNatClampNeg) x2 u)) else none) else if x1 = (2101248 : Int32) then (if inB (1 : Int32) (gN u 4) then (some (sA u 3 (1 : Int32).toNatClampNeg (x2 &&& (7 : Int32)))) else none) else if x1 = (2101252 : Int32) then (if inB (1 : Int32) (gN u 3) then (some (f_X3_complete (gA u 2 (1 : Int32).toNatClampNeg) x2 u)) else none) else (if inB ((x1 >>> ((2 : Int32) &&& 31)) &&& (7 : Int32)) (gN u 2) then (some (sA u 1 ((x1 >>> ((2 : Int32) &&& 31)) &&& (7 : Int32)).toNatClampNeg (x2 &&& (7 : Int32)))) else none)
set_option maxRecDepth 100000 in
set_option maxHeartbeats 4000000 in
theorem c_X3_write (l : Launch) (D : va_G) (cy : ClassId × ClassId × ClassId) (ad : Nat → Nat) (x1 : Int32) (x2 : Int32) (u : St) {u' : St} (h : f_X3_write x1 x2 u = some u') : MX (wC cy ad) D cy l yX3_write cX3_write 3 (none) 1 22 0 [.ref (ad 6), .int x1, .int x2] u u' none := by
  refine entX (by decide +kernel) (Nat.le_of_ble_eq_true rfl) ?_
  intro p e s m args below meth c ls rr A E hr hlk hl w
  have hl : lv_has ls 3 [(0, .ref (ad 6)), (1, .int x1), (2, .int x2)] := hl
  skip
  have hx := E.1
  have hb := E.2.1
  have hown := E.2.2.2.1
  have hts := E.2.2.2.2
  refine lv_iload_n hx hb (dq da_X3_write 0 rfl) rfl (lv_at hl 1 rfl) ?_
  by_cases c1 : x1 = (4096 : Int32)
  · have h := it c1 h
    refine lv_lookup (off := 67) (tgt := 68) hx hb (dq da_X3_write 1 rfl) (by decide +kernel) (by rw [c1]; decide +kernel) (by decide) ?_
    refine lv_goto (tgt := 168) hx hb (dq da_X3_write 2 rfl) (by decide) ?_
    exact xret_v E hr hlk w (by decide) (os h) (dq da_X3_write 62 rfl)
  · have h := ie c1 h
    by_cases c2 : x1 = (8192 : Int32)
    · have h := it c2 h
      refine lv_lookup (off := 70) (tgt := 71) hx hb (dq da_X3_write 1 rfl) (by decide +kernel) (by rw [c2]; decide +kernel) (by decide) ?_
      refine lv_aload_n hx hb (dq da_X3_write 3 rfl) rfl (lv_at hl 0 rfl) ?_
      refine gt_wC_6_enabled E w w_77 (dq da_X3_write 4 rfl) ?_
      refine lv_iconst (v := 0) hx hb (dq da_X3_write 5 rfl) rfl ?_
      refine lv_iload_n hx hb (dq da_X3_write 6 rfl) rfl (lv_at hl 2 rfl) ?_
      refine lv_sipush (v := 254) hx hb (dq da_X3_write 7 rfl) rfl ?_
      refine lv_iand hx hb (dq da_X3_write 8 rfl) ?_
      obtain ⟨hi3, h⟩ := oi h
      refine ast_wC_8 E w hi3 (dq da_X3_write 9 rfl) (fun H locs w => ?_)
      refine lv_goto (tgt := 168) hx hb (dq da_X3_write 10 rfl) (by decide) ?_
      exact xret_v E hr hlk w (by decide) (os h) (dq da_X3_write 62 rfl)
    · have h := ie c2 h
      by_cases c4 : x1 = (8320 : Int32)
      · have h := it c4 h
        refine lv_lookup (off := 84) (tgt := 85) hx hb (dq da_X3_write 1 rfl) (by decide +kernel) (by rw [c4]; decide +kernel) (by decide) ?_
        refine lv_aload_n hx hb (dq da_X3_write 11 rfl) rfl (lv_at hl 0 rfl) ?_
        refine gt_wC_6_enabled E w w_77 (dq da_X3_write 12 rfl) ?_
        refine lv_iconst (v := 1) hx hb (dq da_X3_write 13 rfl) rfl ?_
        refine lv_iload_n hx hb (dq da_X3_write 14 rfl) rfl (lv_at hl 2 rfl) ?_
        refine lv_sipush (v := 254) hx hb (dq da_X3_write 15 rfl) rfl ?_
        refine lv_iand hx hb (dq da_X3_write 16 rfl) ?_
        obtain ⟨hi5, h⟩ := oi h
        refine ast_wC_8 E w hi5 (dq da_X3_write 17 rfl) (fun H locs w => ?_)
        refine lv_goto (tgt := 168) hx hb (dq da_X3_write 18 rfl) (by decide) ?_
        exact xret_v E hr hlk w (by decide) (os h) (dq da_X3_write 62 rfl)
      · have h := ie c4 h
        by_cases c6 : x1 = (2097152 : Int32)
        · have h := it c6 h
          refine lv_lookup (off := 98) (tgt := 99) hx hb (dq da_X3_write 1 rfl) (by decide +kernel) (by rw [c6]; decide +kernel) (by decide) ?_
          refine lv_aload_n hx hb (dq da_X3_write 19 rfl) rfl (lv_at hl 0 rfl) ?_
          refine gt_wC_6_threshold E w w_78 (dq da_X3_write 20 rfl) ?_
          refine lv_iconst (v := 0) hx hb (dq da_X3_write 21 rfl) rfl ?_
          refine lv_iload_n hx hb (dq da_X3_write 22 rfl) rfl (lv_at hl 2 rfl) ?_
          refine lv_bipush (v := 7) hx hb (dq da_X3_write 23 rfl) rfl ?_
          refine lv_iand hx hb (dq da_X3_write 24 rfl) ?_
          obtain ⟨hi7, h⟩ := oi h
          refine ast_wC_9 E w hi7 (dq da_X3_write 25 rfl) (fun H locs w => ?_)
          refine lv_goto (tgt := 168) hx hb (dq da_X3_write 26 rfl) (by decide) ?_
          exact xret_v E hr hlk w (by decide) (os h) (dq da_X3_write 62 rfl)
        · have h := ie c6 h
          by_cases c8 : x1 = (2097156 : Int32)
          · have h := it c8 h
            refine lv_lookup (off := 124) (tgt := 125) hx hb (dq da_X3_write 1 rfl) (by decide +kernel) (by rw [c8]; decide +kernel) (by decide) ?_
            refine lv_aload_n hx hb (dq da_X3_write 35 rfl) rfl (lv_at hl 0 rfl) ?_
            refine lv_aload_n hx hb (dq da_X3_write 36 rfl) rfl (lv_at hl 0 rfl) ?_
            refine gt_wC_6_enabled E w w_77 (dq da_X3_write 37 rfl) ?_
            refine lv_iconst (v := 0) hx hb (dq da_X3_write 38 rfl) rfl ?_
            obtain ⟨hi9, h⟩ := oi h
            refine ald_wC_8 E w hi9 (dq da_X3_write 39 rfl) ?_
            refine lv_iload_n hx hb (dq da_X3_write 40 rfl) rfl (lv_at hl 2 rfl) ?_
            refine cV0 E (c_X3_complete l D cy ad _ _ _ ) w_934 w_936 w_p28 w_5 w_937 rfl hd_X3_complete rfl hl.1 rfl (Nat.le_of_ble_eq_true rfl) (by decide) (by decide) w (rc_wC_6 w) (dq da_X3_write 41 rfl) (fun H locs rr w => ?_)
            refine lv_goto (tgt := 168) hx hb (dq da_X3_write 42 rfl) (by decide) ?_
            exact xret_v E hr hlk w (by decide) (os h) (dq da_X3_write 62 rfl)
          · have h := ie c8 h
            by_cases c10 : x1 = (2101248 : Int32)
            · have h := it c10 h
              refine lv_lookup (off := 111) (tgt := 112) hx hb (dq da_X3_write 1 rfl) (by decide +kernel) (by rw [c10]; decide +kernel) (by decide) ?_
              refine lv_aload_n hx hb (dq da_X3_write 27 rfl) rfl (lv_at hl 0 rfl) ?_
              refine gt_wC_6_threshold E w w_78 (dq da_X3_write 28 rfl) ?_
              refine lv_iconst (v := 1) hx hb (dq da_X3_write 29 rfl) rfl ?_
              refine lv_iload_n hx hb (dq da_X3_write 30 rfl) rfl (lv_at hl 2 rfl) ?_
              refine lv_bipush (v := 7) hx hb (dq da_X3_write 31 rfl) rfl ?_
              refine lv_iand hx hb (dq da_X3_write 32 rfl) ?_
              obtain ⟨hi11, h⟩ := oi h
              refine ast_wC_9 E w hi11 (dq da_X3_write 33 rfl) (fun H locs w => ?_)
              refine lv_goto (tgt := 168) hx hb (dq da_X3_write 34 rfl) (by decide) ?_
              exact xret_v E hr hlk w (by decide) (os h) (dq da_X3_write 62 rfl)
            · have h := ie c10 h
              by_cases c12 : x1 = (2101252 : Int32)
              · have h := it c12 h
                refine lv_lookup (off := 138) (tgt := 139) hx hb (dq da_X3_write 1 rfl) (by decide +kernel) (by rw [c12]; decide +kernel) (by decide) ?_
                refine lv_aload_n hx hb (dq da_X3_write 43 rfl) rfl (lv_at hl 0 rfl) ?_
                refine lv_aload_n hx hb (dq da_X3_write 44 rfl) rfl (lv_at hl 0 rfl) ?_
                refine gt_wC_6_enabled E w w_77 (dq da_X3_write 45 rfl) ?_
                refine lv_iconst (v := 1) hx hb (dq da_X3_write 46 rfl) rfl ?_
                obtain ⟨hi13, h⟩ := oi h
                refine ald_wC_8 E w hi13 (dq da_X3_write 47 rfl) ?_
                refine lv_iload_n hx hb (dq da_X3_write 48 rfl) rfl (lv_at hl 2 rfl) ?_
                refine cV0 E (c_X3_complete l D cy ad _ _ _ ) w_934 w_936 w_p28 w_5 w_937 rfl hd_X3_complete rfl hl.1 rfl (Nat.le_of_ble_eq_true rfl) (by decide) (by decide) w (rc_wC_6 w) (dq da_X3_write 49 rfl) (fun H locs rr w => ?_)
                refine lv_goto (tgt := 168) hx hb (dq da_X3_write 50 rfl) (by decide) ?_
                exact xret_v E hr hlk w (by decide) (os h) (dq da_X3_write 62 rfl)
              · have h := ie c12 h
                refine lv_lookup (off := 152) (tgt := 153) hx hb (dq da_X3_write 1 rfl) (by decide +kernel) (by show Op.lookupswitch.offset [(4096, 67), (8192, 70), (8320, 84), (2097152, 98), (2097156, 124), (2101248, 111), (2101252, 138)] (152) _ = _; rw [lv_osw (k := (4096 : Int32)) (a := 4096) c1 rfl, lv_osw (k := (8192 : Int32)) (a := 8192) c2 rfl, lv_osw (k := (8320 : Int32)) (a := 8320) c4 rfl, lv_osw (k := (2097152 : Int32)) (a := 2097152) c6 rfl, lv_osw (k := (2097156 : Int32)) (a := 2097156) c8 rfl, lv_osw (k := (2101248 : Int32)) (a := 2101248) c10 rfl, lv_osw (k := (2101252 : Int32)) (a := 2101252) c12 rfl]; rfl) (by decide) ?_
                refine lv_aload_n hx hb (dq da_X3_write 51 rfl) rfl (lv_at hl 0 rfl) ?_
                refine gt_wC_6_priority E w w_76 (dq da_X3_write 52 rfl) ?_
                refine lv_iload_n hx hb (dq da_X3_write 53 rfl) rfl (lv_at hl 1 rfl) ?_
                refine lv_iconst (v := 2) hx hb (dq da_X3_write 54 rfl) rfl ?_
                refine lv_ishr hx hb (dq da_X3_write 55 rfl) ?_
                refine lv_bipush (v := 7) hx hb (dq da_X3_write 56 rfl) rfl ?_
                refine lv_iand hx hb (dq da_X3_write 57 rfl) ?_
                refine lv_iload_n hx hb (dq da_X3_write 58 rfl) rfl (lv_at hl 2 rfl) ?_
                refine lv_bipush (v := 7) hx hb (dq da_X3_write 59 rfl) rfl ?_
                refine lv_iand hx hb (dq da_X3_write 60 rfl) ?_
                obtain ⟨hi14, h⟩ := oi h
                refine ast_wC_7 E w hi14 (dq da_X3_write 61 rfl) (fun H locs w => ?_)
                exact xret_v E hr hlk w (by decide) (os h) (dq da_X3_write 62 rfl)
def dl_X3_calls : List (Nat × Instr × Nat) := [(0, .iload_n 1, 1), (1, .iconst 1, 1), (2, .iand, 1), (3, .istore_n 2, 1), (4, .aload_n 0, 1), (5, .getfield 39, 3), (8, .aload_n 0, 1), (9, .getfield 13, 3), (12, .iload_n 2, 1), (13, .iaload, 1), (14, .iand, 1), (15, .istore_n 3, 1), (16, .iload_n 3, 1), (17, .ifCond .ne 5, 3), (20, .iconst 0, 1), (21, .ireturn, 1), (22, .iconst 1, 1), (23, .istore 4, 2), (25, .iload 4, 2), (27, .bipush 7, 2), (29, .if_icmp .gt 36, 3), (32, .iload_n 3, 1), (33, .iload 4, 2), (35, .ishr, 1), (36, .iconst 1, 1), (37, .iand, 1), (38, .ifCond .eq 21, 3), (41, .aload_n 0, 1), (42, .getfield 9, 3), (45, .iload 4, 2), (47, .iaload, 1), (48, .aload_n 0, 1), (49, .getfield 16, 3), (52, .iload_n 2, 1), (53, .iaload, 1), (54, .if_icmp .le 5, 3), (57, .iconst 1, 1), (58, .ireturn, 1), (59, .iinc 4 1, 3), (62, .goto (-37), 3), (65, .iconst 0, 1), (66, .ireturn, 1)]
theorem da_X3_calls : dkL cX3_calls dl_X3_calls = true := by decide +kernel
def f_X3_calls_b59 (k25 : Int32 → Int32 → Int32 → St → Option (Int32)) (x2 : Int32) (x3 : Int32) (x4 : Int32) (u : St) : Option (Int32) := k25 x2 x3 (x4 + (1 : Int32)) u
set_option maxRecDepth 100000 in
set_option maxHeartbeats 4000000 in
theorem b_X3_calls_b59 {p : Program} {l : Launch} {e : Env} {s : State} {m : MethodId} {args : Array Value} {below : List Frame} {meth : Method} {c : Code} {D : va_G} {cy : ClassId × ClassId × ClassId} {ad : Nat → Nat} {A : Nat → Prop} (E : CallFix p m c cX3_calls 5 s args gw RX3) (hr : meth.sig.returnType = some .boolean) (hlk : meth.locks = false) {k25 : Int32 → Int32 → Int32 → St → Option (Int32)} (hk25 : ∀ (x2 : Int32) (x3 : Int32) (x4 : Int32) (u : St) (r : Int32), k25 x2 x3 x4 u = some r → ∀ (ls : Array Slot) (H : Heap) (locs : List Loc) (rr : Nat → Nat), lv_has ls 5 [(0, .ref (ad 6)), (2, .int x2), (3, .int x3), (4, .int x4)] → WX (wC cy ad) D cy rr u A s H locs → Wx (wC cy ad) D p l e 0 0 0 s m args below meth c A u (some (.int r)) H locs 0 25 ls []) {x2 : Int32} {x3 : Int32} {x4 : Int32} {u : St} {r : Int32} (h : f_X3_calls_b59 k25 x2 x3 x4 u = some r) {ls : Array Slot} {H : Heap} {locs : List Loc} {rr : Nat → Nat} (hl : lv_has ls 5 [(0, .ref (ad 6)), (2, .int x2), (3, .int x3), (4, .int x4)]) (w : WX (wC cy ad) D cy rr u A s H locs) : Wx (wC cy ad) D p l e 0 0 0 s m args below meth c A u (some (.int r)) H locs 0 59 ls [] := by
  have hx := E.1
  have hb := E.2.1
  have hown := E.2.2.2.1
  have hts := E.2.2.2.2
  refine lv_iinc (v := (x4 + (1 : Int32))) (lv' := [(4, .int (x4 + (1 : Int32))), (0, .ref (ad 6)), (2, .int x2), (3, .int x3)]) hx hb (dq da_X3_calls 38 rfl) hl (k := 3) rfl rfl (by decide) rfl (fun ls hl => ?_)
  refine lv_goto (tgt := 25) hx hb (dq da_X3_calls 39 rfl) (by decide) ?_
  exact hk25 _ _ _ _ _ h ls _ _ _ (lv_sub hl [1, 2, 3, 0] rfl) w
def f_X3_calls_b25_s (k25 : Int32 → Int32 → Int32 → St → Option (Int32)) (x2 : Int32) (x3 : Int32) (x4 : Int32) (u : St) : Option (Int32) := if (7 : Int32) < x4 then (some (0 : Int32)) else (if ((x3 >>> (x4 &&& 31)) &&& (1 : Int32)) = (0 : Int32) then (f_X3_calls_b59 k25 x2 x3 x4 u) else (if inB x4 (gN u 2) then (if inB x2 (gN u 4) then (if (gA u 1 x4.toNatClampNeg) ≤ (gA u 3 x2.toNatClampNeg) then (f_X3_calls_b59 k25 x2 x3 x4 u) else (some (1 : Int32))) else none) else none))
set_option maxRecDepth 100000 in
set_option maxHeartbeats 4000000 in
theorem b_X3_calls_b25_s {p : Program} {l : Launch} {e : Env} {s : State} {m : MethodId} {args : Array Value} {below : List Frame} {meth : Method} {c : Code} {D : va_G} {cy : ClassId × ClassId × ClassId} {ad : Nat → Nat} {A : Nat → Prop} (E : CallFix p m c cX3_calls 5 s args gw RX3) (hr : meth.sig.returnType = some .boolean) (hlk : meth.locks = false) {k25 : Int32 → Int32 → Int32 → St → Option (Int32)} (hk25 : ∀ (x2 : Int32) (x3 : Int32) (x4 : Int32) (u : St) (r : Int32), k25 x2 x3 x4 u = some r → ∀ (ls : Array Slot) (H : Heap) (locs : List Loc) (rr : Nat → Nat), lv_has ls 5 [(0, .ref (ad 6)), (2, .int x2), (3, .int x3), (4, .int x4)] → WX (wC cy ad) D cy rr u A s H locs → Wx (wC cy ad) D p l e 0 0 0 s m args below meth c A u (some (.int r)) H locs 0 25 ls []) {x2 : Int32} {x3 : Int32} {x4 : Int32} {u : St} {r : Int32} (h : f_X3_calls_b25_s k25 x2 x3 x4 u = some r) {ls : Array Slot} {H : Heap} {locs : List Loc} {rr : Nat → Nat} (hl : lv_has ls 5 [(0, .ref (ad 6)), (2, .int x2), (3, .int x3), (4, .int x4)]) (w : WX (wC cy ad) D cy rr u A s H locs) : Wx (wC cy ad) D p l e 0 0 0 s m args below meth c A u (some (.int r)) H locs 0 25 ls [] := by
  have hx := E.1
  have hb := E.2.1
  have hown := E.2.2.2.1
  have hts := E.2.2.2.2
  refine lv_iload hx hb (dq da_X3_calls 18 rfl) (lv_at hl 3 rfl) ?_
  refine lv_bipush (v := 7) hx hb (dq da_X3_calls 19 rfl) rfl ?_
  refine lv_icmp_gt (tgt := 65) hx hb (dq da_X3_calls 20 rfl) (by decide) (fun c3 => ?_) (fun c3 => ?_)
  · have h := it c3 h
    refine lv_iconst (v := 0) hx hb (dq da_X3_calls 40 rfl) rfl ?_
    exact xret_z E hr hlk rfl w (by decide) (os h) rfl (dq da_X3_calls 41 rfl)
  · have h := ie c3 h
    refine lv_iload_n hx hb (dq da_X3_calls 21 rfl) rfl (lv_at hl 2 rfl) ?_
    refine lv_iload hx hb (dq da_X3_calls 22 rfl) (lv_at hl 3 rfl) ?_
    refine lv_ishr hx hb (dq da_X3_calls 23 rfl) ?_
    refine lv_iconst (v := 1) hx hb (dq da_X3_calls 24 rfl) rfl ?_
    refine lv_iand hx hb (dq da_X3_calls 25 rfl) ?_
    refine lv_if_eq (tgt := 59) hx hb (dq da_X3_calls 26 rfl) (by decide) (fun c4 => ?_) (fun c4 => ?_)
    · have h := it c4 h
      exact b_X3_calls_b59 E hr hlk hk25 h (lv_sub hl [0, 1, 2, 3] rfl) w
    · have h := ie c4 h
      refine lv_aload_n hx hb (dq da_X3_calls 27 rfl) rfl (lv_at hl 0 rfl) ?_
      refine gt_wC_6_priority E w w_76 (dq da_X3_calls 28 rfl) ?_
      refine lv_iload hx hb (dq da_X3_calls 29 rfl) (lv_at hl 3 rfl) ?_
      obtain ⟨hi5, h⟩ := oi h
      refine ald_wC_7 E w hi5 (dq da_X3_calls 30 rfl) ?_
      refine lv_aload_n hx hb (dq da_X3_calls 31 rfl) rfl (lv_at hl 0 rfl) ?_
      refine gt_wC_6_threshold E w w_78 (dq da_X3_calls 32 rfl) ?_
      refine lv_iload_n hx hb (dq da_X3_calls 33 rfl) rfl (lv_at hl 1 rfl) ?_
      obtain ⟨hi6, h⟩ := oi h
      refine ald_wC_9 E w hi6 (dq da_X3_calls 34 rfl) ?_
      refine lv_icmp_le (tgt := 59) hx hb (dq da_X3_calls 35 rfl) (by decide) (fun c7 => ?_) (fun c7 => ?_)
      · have h := it c7 h
        exact b_X3_calls_b59 E hr hlk hk25 h (lv_sub hl [0, 1, 2, 3] rfl) w
      · have h := ie c7 h
        refine lv_iconst (v := 1) hx hb (dq da_X3_calls 36 rfl) rfl ?_
        exact xret_z E hr hlk rfl w (by decide) (os h) rfl (dq da_X3_calls 37 rfl)
def f_X3_calls_b25 : Nat → Int32 → Int32 → Int32 → St → Option (Int32)
  | 0 => fun _ _ _ _ => none
  | n + 1 => f_X3_calls_b25_s (f_X3_calls_b25 n)
theorem b_X3_calls_b25 {p : Program} {l : Launch} {e : Env} {s : State} {m : MethodId} {args : Array Value} {below : List Frame} {meth : Method} {c : Code} {D : va_G} {cy : ClassId × ClassId × ClassId} {ad : Nat → Nat} {A : Nat → Prop} (E : CallFix p m c cX3_calls 5 s args gw RX3) (hr : meth.sig.returnType = some .boolean) (hlk : meth.locks = false) : ∀ n : Nat, ∀ (x2 : Int32) (x3 : Int32) (x4 : Int32) (u : St) (r : Int32), f_X3_calls_b25 n x2 x3 x4 u = some r → ∀ (ls : Array Slot) (H : Heap) (locs : List Loc) (rr : Nat → Nat), lv_has ls 5 [(0, .ref (ad 6)), (2, .int x2), (3, .int x3), (4, .int x4)] → WX (wC cy ad) D cy rr u A s H locs → Wx (wC cy ad) D p l e 0 0 0 s m args below meth c A u (some (.int r)) H locs 0 25 ls [] := by
  intro n
  induction n with
  | zero => intro x2 x3 x4 u r h; cases h
  | succ n ih => intro x2 x3 x4 u r h ls H locs rr hl w; exact b_X3_calls_b25_s E hr hlk ih h hl w
def f_X3_calls (x1 : Int32) (u : St) : Option (Int32) := if inB (x1 &&& (1 : Int32)) (gN u 3) then (if ((gI u 7) &&& (gA u 2 (x1 &&& (1 : Int32)).toNatClampNeg)) = (0 : Int32) then (some (0 : Int32)) else (f_X3_calls_b25 FU (x1 &&& (1 : Int32)) ((gI u 7) &&& (gA u 2 (x1 &&& (1 : Int32)).toNatClampNeg)) (1 : Int32) u)) else none
set_option maxRecDepth 100000 in
set_option maxHeartbeats 4000000 in
theorem c_X3_calls (l : Launch) (D : va_G) (cy : ClassId × ClassId × ClassId) (ad : Nat → Nat) (x1 : Int32) (u : St) {r : Int32} (h : f_X3_calls x1 u = some r) : MX (wC cy ad) D cy l yX3_calls cX3_calls 5 (some .boolean) 0 0 0 [.ref (ad 6), .int x1] u u (some (.int (r))) := by
  refine entX (by decide +kernel) (Nat.le_of_ble_eq_true rfl) ?_
  intro p e s m args below meth c ls rr A E hr hlk hl w
  have hl : lv_has ls 5 [(0, .ref (ad 6)), (1, .int x1)] := hl
  skip
  have hx := E.1
  have hb := E.2.1
  have hown := E.2.2.2.1
  have hts := E.2.2.2.2
  refine lv_iload_n hx hb (dq da_X3_calls 0 rfl) rfl (lv_at hl 1 rfl) ?_
  refine lv_iconst (v := 1) hx hb (dq da_X3_calls 1 rfl) rfl ?_
  refine lv_iand hx hb (dq da_X3_calls 2 rfl) ?_
  refine lv_istore_n (lv' := [(2, .int (x1 &&& (1 : Int32))), (0, .ref (ad 6)), (1, .int x1)]) hx hb (dq da_X3_calls 3 rfl) rfl hl (by decide) rfl (fun ls hl => ?_)
  refine lv_aload_n hx hb (dq da_X3_calls 4 rfl) rfl (lv_at hl 1 rfl) ?_
  refine gt_wC_6_pending E w w_80 (dq da_X3_calls 5 rfl) ?_
  refine lv_aload_n hx hb (dq da_X3_calls 6 rfl) rfl (lv_at hl 1 rfl) ?_
  refine gt_wC_6_enabled E w w_77 (dq da_X3_calls 7 rfl) ?_
  refine lv_iload_n hx hb (dq da_X3_calls 8 rfl) rfl (lv_at hl 0 rfl) ?_
  obtain ⟨hi1, h⟩ := oi h
  refine ald_wC_8 E w hi1 (dq da_X3_calls 9 rfl) ?_
  refine lv_iand hx hb (dq da_X3_calls 10 rfl) ?_
  refine lv_istore_n (lv' := [(3, .int ((gI u 7) &&& (gA u 2 (x1 &&& (1 : Int32)).toNatClampNeg))), (2, .int (x1 &&& (1 : Int32))), (0, .ref (ad 6)), (1, .int x1)]) hx hb (dq da_X3_calls 11 rfl) rfl hl (by decide) rfl (fun ls hl => ?_)
  refine lv_iload_n hx hb (dq da_X3_calls 12 rfl) rfl (lv_at hl 0 rfl) ?_
  refine lv_if_ne (tgt := 22) hx hb (dq da_X3_calls 13 rfl) (by decide) (fun c2 => ?_) (fun c2 => ?_)
  · have h := ie c2 h
    refine lv_iconst (v := 1) hx hb (dq da_X3_calls 16 rfl) rfl ?_
    refine lv_istore (lv' := [(4, .int (1 : Int32)), (3, .int ((gI u 7) &&& (gA u 2 (x1 &&& (1 : Int32)).toNatClampNeg))), (2, .int (x1 &&& (1 : Int32))), (0, .ref (ad 6)), (1, .int x1)]) hx hb (dq da_X3_calls 17 rfl) hl (by decide) rfl (fun ls hl => ?_)
    exact b_X3_calls_b25 E hr hlk FU _ _ _ _ _ h ls _ _ _ (lv_sub hl [3, 2, 1, 0] rfl) w
  · have h := it c2 h
    refine lv_iconst (v := 0) hx hb (dq da_X3_calls 14 rfl) rfl ?_
    exact xret_z E hr hlk rfl w (by decide) (os h) rfl (dq da_X3_calls 15 rfl)
def dl_X3_drive : List (Nat × Instr × Nat) := [(0, .iconst 1, 1), (1, .iload_n 1, 1), (2, .bipush 7, 2), (4, .iand, 1), (5, .ishl, 1), (6, .istore_n 3, 1), (7, .aload_n 0, 1), (8, .iload_n 2, 1), (9, .ifCond .eq 12, 3), (12, .aload_n 0, 1), (13, .getfield 54, 3), (16, .iload_n 3, 1), (17, .ior, 1), (18, .goto 11, 3), (21, .aload_n 0, 1), (22, .getfield 54, 3), (25, .iload_n 3, 1), (26, .iconst (-1), 1), (27, .ixor, 1), (28, .iand, 1), (29, .putfield 54, 3), (32, .return_, 1)]
theorem da_X3_drive : dkL cX3_drive dl_X3_drive = true := by decide +kernel
def f_X3_drive_b29 (s0 : Int32) (u : St) : St := (sI u 6 s0)
set_option maxRecDepth 100000 in
set_option maxHeartbeats 4000000 in
theorem b_X3_drive_b29 {p : Program} {l : Launch} {e : Env} {s : State} {m : MethodId} {args : Array Value} {below : List Frame} {meth : Method} {c : Code} {D : va_G} {cy : ClassId × ClassId × ClassId} {ad : Nat → Nat} {A : Nat → Prop} (E : CallFix p m c cX3_drive 4 s args gw RX3) (hr : meth.sig.returnType = none) (hlk : meth.locks = false) {s0 : Int32} {u : St} {u' : St} (h : f_X3_drive_b29 s0 u = u') {ls : Array Slot} {H : Heap} {locs : List Loc} {rr : Nat → Nat} (hl : lv_has ls 4 []) (w : WX (wC cy ad) D cy rr u A s H locs) : Wx (wC cy ad) D p l e 0 0 0 s m args below meth c A u' none H locs 0 29 ls [.int s0, .ref (ad 6)] := by
  have hx := E.1
  have hb := E.2.1
  have hown := E.2.2.2.1
  have hts := E.2.2.2.2
  refine pt_wC_6_high E w w_79 (dq da_X3_drive 20 rfl) (fun H locs w => ?_)
  exact xret_v E hr hlk w (by decide) h (dq da_X3_drive 21 rfl)
def f_X3_drive (x1 : Int32) (x2 : Int32) (u : St) : St := if x2 = (0 : Int32) then (f_X3_drive_b29 ((gI u 6) &&& (((1 : Int32) <<< ((x1 &&& (7 : Int32)) &&& 31)) ^^^ (-1 : Int32))) u) else (f_X3_drive_b29 ((gI u 6) ||| ((1 : Int32) <<< ((x1 &&& (7 : Int32)) &&& 31))) u)
set_option maxRecDepth 100000 in
set_option maxHeartbeats 4000000 in
theorem c_X3_drive (l : Launch) (D : va_G) (cy : ClassId × ClassId × ClassId) (ad : Nat → Nat) (x1 : Int32) (x2 : Int32) (u : St) : MX (wC cy ad) D cy l yX3_drive cX3_drive 4 (none) 0 0 0 [.ref (ad 6), .int x1, .int x2] u (f_X3_drive x1 x2 u) none := by
  refine entX (by decide +kernel) (Nat.le_of_ble_eq_true rfl) ?_
  intro p e s m args below meth c ls rr A E hr hlk hl w
  have hl : lv_has ls 4 [(0, .ref (ad 6)), (1, .int x1), (2, .int x2)] := hl
  generalize h : f_X3_drive x1 x2 u = u'
  skip
  have hx := E.1
  have hb := E.2.1
  have hown := E.2.2.2.1
  have hts := E.2.2.2.2
  refine lv_iconst (v := 1) hx hb (dq da_X3_drive 0 rfl) rfl ?_
  refine lv_iload_n hx hb (dq da_X3_drive 1 rfl) rfl (lv_at hl 1 rfl) ?_
  refine lv_bipush (v := 7) hx hb (dq da_X3_drive 2 rfl) rfl ?_
  refine lv_iand hx hb (dq da_X3_drive 3 rfl) ?_
  refine lv_ishl hx hb (dq da_X3_drive 4 rfl) ?_
  refine lv_istore_n (lv' := [(3, .int ((1 : Int32) <<< ((x1 &&& (7 : Int32)) &&& 31))), (0, .ref (ad 6)), (1, .int x1), (2, .int x2)]) hx hb (dq da_X3_drive 5 rfl) rfl hl (by decide) rfl (fun ls hl => ?_)
  refine lv_aload_n hx hb (dq da_X3_drive 6 rfl) rfl (lv_at hl 1 rfl) ?_
  refine lv_iload_n hx hb (dq da_X3_drive 7 rfl) rfl (lv_at hl 3 rfl) ?_
  refine lv_if_eq (tgt := 21) hx hb (dq da_X3_drive 8 rfl) (by decide) (fun c1 => ?_) (fun c1 => ?_)
  · have h := it c1 h
    refine lv_aload_n hx hb (dq da_X3_drive 14 rfl) rfl (lv_at hl 1 rfl) ?_
    refine gt_wC_6_high E w w_79 (dq da_X3_drive 15 rfl) ?_
    refine lv_iload_n hx hb (dq da_X3_drive 16 rfl) rfl (lv_at hl 0 rfl) ?_
    refine lv_iconst (v := (-1)) hx hb (dq da_X3_drive 17 rfl) rfl ?_
    refine lv_ixor hx hb (dq da_X3_drive 18 rfl) ?_
    refine lv_iand hx hb (dq da_X3_drive 19 rfl) ?_
    exact b_X3_drive_b29 E hr hlk h (lv_sub hl [] rfl) w
  · have h := ie c1 h
    refine lv_aload_n hx hb (dq da_X3_drive 9 rfl) rfl (lv_at hl 1 rfl) ?_
    refine gt_wC_6_high E w w_79 (dq da_X3_drive 10 rfl) ?_
    refine lv_iload_n hx hb (dq da_X3_drive 11 rfl) rfl (lv_at hl 0 rfl) ?_
    refine lv_ior hx hb (dq da_X3_drive 12 rfl) ?_
    refine lv_goto (tgt := 29) hx hb (dq da_X3_drive 13 rfl) (by decide) ?_
    exact b_X3_drive_b29 E hr hlk h (lv_sub hl [] rfl) w
def dl_X3_settle : List (Nat × Instr × Nat) := [(0, .aload_n 0, 1), (1, .dup, 1), (2, .getfield 39, 3), (5, .iload_n 1, 1), (6, .ifCond .eq 12, 3), (9, .aload_n 0, 1), (10, .getfield 54, 3), (13, .iconst 2, 1), (14, .ior, 1), (15, .goto 7, 3), (18, .aload_n 0, 1), (19, .getfield 54, 3), (22, .aload_n 0, 1), (23, .getfield 51, 3), (26, .iconst (-1), 1), (27, .ixor, 1), (28, .iand, 1), (29, .ior, 1), (30, .putfield 39, 3), (33, .return_, 1)]
theorem da_X3_settle : dkL cX3_settle dl_X3_settle = true := by decide +kernel
def f_X3_settle_b22 (s0 : Int32) (s1 : Int32) (u : St) : St := (sI u 7 (s1 ||| (s0 &&& ((gI u 8) ^^^ (-1 : Int32)))))
set_option maxRecDepth 100000 in
set_option maxHeartbeats 4000000 in
theorem b_X3_settle_b22 {p : Program} {l : Launch} {e : Env} {s : State} {m : MethodId} {args : Array Value} {below : List Frame} {meth : Method} {c : Code} {D : va_G} {cy : ClassId × ClassId × ClassId} {ad : Nat → Nat} {A : Nat → Prop} (E : CallFix p m c cX3_settle 2 s args gw RX3) (hr : meth.sig.returnType = none) (hlk : meth.locks = false) {s0 : Int32} {s1 : Int32} {u : St} {u' : St} (h : f_X3_settle_b22 s0 s1 u = u') {ls : Array Slot} {H : Heap} {locs : List Loc} {rr : Nat → Nat} (hl : lv_has ls 2 [(0, .ref (ad 6))]) (w : WX (wC cy ad) D cy rr u A s H locs) : Wx (wC cy ad) D p l e 0 0 0 s m args below meth c A u' none H locs 0 22 ls [.int s0, .int s1, .ref (ad 6)] := by
  have hx := E.1
  have hb := E.2.1
  have hown := E.2.2.2.1
  have hts := E.2.2.2.2
  refine lv_aload_n hx hb (dq da_X3_settle 12 rfl) rfl (lv_at hl 0 rfl) ?_
  refine gt_wC_6_claimed E w w_82 (dq da_X3_settle 13 rfl) ?_
  refine lv_iconst (v := (-1)) hx hb (dq da_X3_settle 14 rfl) rfl ?_
  refine lv_ixor hx hb (dq da_X3_settle 15 rfl) ?_
  refine lv_iand hx hb (dq da_X3_settle 16 rfl) ?_
  refine lv_ior hx hb (dq da_X3_settle 17 rfl) ?_
  refine pt_wC_6_pending E w w_80 (dq da_X3_settle 18 rfl) (fun H locs w => ?_)
  exact xret_v E hr hlk w (by decide) h (dq da_X3_settle 19 rfl)
def f_X3_settle (x1 : Int32) (u : St) : St := if x1 = (0 : Int32) then (f_X3_settle_b22 (gI u 6) (gI u 7) u) else (f_X3_settle_b22 ((gI u 6) ||| (2 : Int32)) (gI u 7) u)
set_option maxRecDepth 100000 in
set_option maxHeartbeats 4000000 in
theorem c_X3_settle (l : Launch) (D : va_G) (cy : ClassId × ClassId × ClassId) (ad : Nat → Nat) (x1 : Int32) (u : St) : MX (wC cy ad) D cy l yX3_settle cX3_settle 2 (none) 0 0 0 [.ref (ad 6), .int x1] u (f_X3_settle x1 u) none := by
  refine entX (by decide +kernel) (Nat.le_of_ble_eq_true rfl) ?_
  intro p e s m args below meth c ls rr A E hr hlk hl w
  have hl : lv_has ls 2 [(0, .ref (ad 6)), (1, .int x1)] := hl
  generalize h : f_X3_settle x1 u = u'
  skip
  have hx := E.1
  have hb := E.2.1
  have hown := E.2.2.2.1
  have hts := E.2.2.2.2
  refine lv_aload_n hx hb (dq da_X3_settle 0 rfl) rfl (lv_at hl 0 rfl) ?_
  refine lv_dup hx hb (dq da_X3_settle 1 rfl) rfl ?_
  refine gt_wC_6_pending E w w_80 (dq da_X3_settle 2 rfl) ?_
  refine lv_iload_n hx hb (dq da_X3_settle 3 rfl) rfl (lv_at hl 1 rfl) ?_
  refine lv_if_eq (tgt := 18) hx hb (dq da_X3_settle 4 rfl) (by decide) (fun c1 => ?_) (fun c1 => ?_)
  · have h := it c1 h
    refine lv_aload_n hx hb (dq da_X3_settle 10 rfl) rfl (lv_at hl 0 rfl) ?_
    refine gt_wC_6_high E w w_79 (dq da_X3_settle 11 rfl) ?_
    exact b_X3_settle_b22 E hr hlk h (lv_sub hl [0] rfl) w
  · have h := ie c1 h
    refine lv_aload_n hx hb (dq da_X3_settle 5 rfl) rfl (lv_at hl 0 rfl) ?_
    refine gt_wC_6_high E w w_79 (dq da_X3_settle 6 rfl) ?_
    refine lv_iconst (v := 2) hx hb (dq da_X3_settle 7 rfl) rfl ?_
    refine lv_ior hx hb (dq da_X3_settle 8 rfl) ?_
    refine lv_goto (tgt := 22) hx hb (dq da_X3_settle 9 rfl) (by decide) ?_
    exact b_X3_settle_b22 E hr hlk h (lv_sub hl [0] rfl) w
def dl_X7_read_o16 : List (Nat × Instr × Nat) := [(0, .iload_n 1, 1), (1, .lookupswitch 89 #[(5, 59), (6, 64), (64, 69), (65, 74), (66, 79), (67, 84)], 59), (60, .aload_n 0, 1), (61, .getfield 7, 3), (64, .lreturn, 1), (65, .aload_n 0, 1), (66, .getfield 13, 3), (69, .lreturn, 1), (70, .aload_n 0, 1), (71, .getfield 16, 3), (74, .lreturn, 1), (75, .aload_n 0, 1), (76, .getfield 19, 3), (79, .lreturn, 1), (80, .aload_n 0, 1), (81, .getfield 22, 3), (84, .lreturn, 1), (85, .aload_n 0, 1), (86, .getfield 25, 3), (89, .lreturn, 1), (90, .lconst 0, 1), (91, .lreturn, 1)]
theorem da_X7_read_o16 : dkL cX7_read dl_X7_read_o16 = true := by decide +kernel
def f_X7_read_o16 (x1 : Int32) (u : St) : Int64 := if x1 = (5 : Int32) then (gL u 12) else if x1 = (6 : Int32) then (gL u 13) else if x1 = (64 : Int32) then (gL u 14) else if x1 = (65 : Int32) then (gL u 15) else if x1 = (66 : Int32) then (gL u 16) else if x1 = (67 : Int32) then (gL u 17) else (0 : Int64)
set_option maxRecDepth 100000 in
set_option maxHeartbeats 4000000 in
theorem c_X7_read_o16 (l : Launch) (D : va_G) (cy : ClassId × ClassId × ClassId) (ad : Nat → Nat) (x1 : Int32) (u : St) : MX (wC cy ad) D cy l yX7_read cX7_read 2 (some .long) 0 0 0 [.ref (ad 16), .int x1] u u (some (.long (f_X7_read_o16 x1 u))) := by
  refine entX (by decide +kernel) (Nat.le_of_ble_eq_true rfl) ?_
  intro p e s m args below meth c ls rr A E hr hlk hl w
  have hl : lv_has ls 2 [(0, .ref (ad 16)), (1, .int x1)] := hl
  generalize h : f_X7_read_o16 x1 u = r
  skip
  have hx := E.1
  have hb := E.2.1
  have hown := E.2.2.2.1
  have hts := E.2.2.2.2
  refine lv_iload_n hx hb (dq da_X7_read_o16 0 rfl) rfl (lv_at hl 1 rfl) ?_
  by_cases c1 : x1 = (5 : Int32)
  · have h := it c1 h
    refine lv_lookup (off := 59) (tgt := 60) hx hb (dq da_X7_read_o16 1 rfl) (by decide +kernel) (by rw [c1]; decide +kernel) (by decide) ?_
    refine lv_aload_n hx hb (dq da_X7_read_o16 2 rfl) rfl (lv_at hl 0 rfl) ?_
    refine gt_wC_16_tvec E w w_171 (dq da_X7_read_o16 3 rfl) ?_
    exact xret_l E hr hlk w (by decide) h rfl (dq da_X7_read_o16 4 rfl)
  · have h := ie c1 h
    by_cases c2 : x1 = (6 : Int32)
    · have h := it c2 h
      refine lv_lookup (off := 64) (tgt := 65) hx hb (dq da_X7_read_o16 1 rfl) (by decide +kernel) (by rw [c2]; decide +kernel) (by decide) ?_
      refine lv_aload_n hx hb (dq da_X7_read_o16 5 rfl) rfl (lv_at hl 0 rfl) ?_
      refine gt_wC_16_counters E w w_173 (dq da_X7_read_o16 6 rfl) ?_
      exact xret_l E hr hlk w (by decide) h rfl (dq da_X7_read_o16 7 rfl)
    · have h := ie c2 h
      by_cases c3 : x1 = (64 : Int32)
      · have h := it c3 h
        refine lv_lookup (off := 69) (tgt := 70) hx hb (dq da_X7_read_o16 1 rfl) (by decide +kernel) (by rw [c3]; decide +kernel) (by decide) ?_
        refine lv_aload_n hx hb (dq da_X7_read_o16 8 rfl) rfl (lv_at hl 0 rfl) ?_
        refine gt_wC_16_scratch E w w_175 (dq da_X7_read_o16 9 rfl) ?_
        exact xret_l E hr hlk w (by decide) h rfl (dq da_X7_read_o16 10 rfl)
      · have h := ie c3 h
        by_cases c4 : x1 = (65 : Int32)
        · have h := it c4 h
          refine lv_lookup (off := 74) (tgt := 75) hx hb (dq da_X7_read_o16 1 rfl) (by decide +kernel) (by rw [c4]; decide +kernel) (by decide) ?_
          refine lv_aload_n hx hb (dq da_X7_read_o16 11 rfl) rfl (lv_at hl 0 rfl) ?_
          refine gt_wC_16_epc E w w_176 (dq da_X7_read_o16 12 rfl) ?_
          exact xret_l E hr hlk w (by decide) h rfl (dq da_X7_read_o16 13 rfl)
        · have h := ie c4 h
          by_cases c5 : x1 = (66 : Int32)
          · have h := it c5 h
            refine lv_lookup (off := 79) (tgt := 80) hx hb (dq da_X7_read_o16 1 rfl) (by decide +kernel) (by rw [c5]; decide +kernel) (by decide) ?_
            refine lv_aload_n hx hb (dq da_X7_read_o16 14 rfl) rfl (lv_at hl 0 rfl) ?_
            refine gt_wC_16_cause E w w_178 (dq da_X7_read_o16 15 rfl) ?_
            exact xret_l E hr hlk w (by decide) h rfl (dq da_X7_read_o16 16 rfl)
          · have h := ie c5 h
            by_cases c6 : x1 = (67 : Int32)
            · have h := it c6 h
              refine lv_lookup (off := 84) (tgt := 85) hx hb (dq da_X7_read_o16 1 rfl) (by decide +kernel) (by rw [c6]; decide +kernel) (by decide) ?_
              refine lv_aload_n hx hb (dq da_X7_read_o16 17 rfl) rfl (lv_at hl 0 rfl) ?_
              refine gt_wC_16_tval E w w_180 (dq da_X7_read_o16 18 rfl) ?_
              exact xret_l E hr hlk w (by decide) h rfl (dq da_X7_read_o16 19 rfl)
            · have h := ie c6 h
              refine lv_lookup (off := 89) (tgt := 90) hx hb (dq da_X7_read_o16 1 rfl) (by decide +kernel) (by show Op.lookupswitch.offset [(5, 59), (6, 64), (64, 69), (65, 74), (66, 79), (67, 84)] (89) _ = _; rw [lv_osw (k := (5 : Int32)) (a := 5) c1 rfl, lv_osw (k := (6 : Int32)) (a := 6) c2 rfl, lv_osw (k := (64 : Int32)) (a := 64) c3 rfl, lv_osw (k := (65 : Int32)) (a := 65) c4 rfl, lv_osw (k := (66 : Int32)) (a := 66) c5 rfl, lv_osw (k := (67 : Int32)) (a := 67) c6 rfl]; rfl) (by decide) ?_
              refine lv_lconst (v := 0) hx hb (dq da_X7_read_o16 20 rfl) rfl ?_
              exact xret_l E hr hlk w (by decide) h rfl (dq da_X7_read_o16 21 rfl)
def dl_X7_write_o16 : List (Nat × Instr × Nat) := [(0, .iload_n 1, 1), (1, .lookupswitch 119 #[(5, 59), (6, 71), (64, 83), (65, 91), (66, 103), (67, 111)], 59), (60, .aload_n 0, 1), (61, .lload_n 2, 1), (62, .ldc2_w 28, 3), (65, .land, 1), (66, .putfield 7, 3), (69, .goto 51, 3), (72, .aload_n 0, 1), (73, .lload_n 2, 1), (74, .ldc2_w 30, 3), (77, .land, 1), (78, .putfield 13, 3), (81, .goto 39, 3), (84, .aload_n 0, 1), (85, .lload_n 2, 1), (86, .putfield 16, 3), (89, .goto 31, 3), (92, .aload_n 0, 1), (93, .lload_n 2, 1), (94, .ldc2_w 32, 3), (97, .land, 1), (98, .putfield 19, 3), (101, .goto 19, 3), (104, .aload_n 0, 1), (105, .lload_n 2, 1), (106, .putfield 22, 3), (109, .goto 11, 3), (112, .aload_n 0, 1), (113, .lload_n 2, 1), (114, .putfield 25, 3), (117, .goto 3, 3), (120, .return_, 1)]
theorem da_X7_write_o16 : dkL cX7_write dl_X7_write_o16 = true := by decide +kernel
def f_X7_write_o16 (x1 : Int32) (x2 : Int64) (u : St) : St := if x1 = (5 : Int32) then (sL u 12 (x2 &&& (-3 : Int64))) else if x1 = (6 : Int32) then (sL u 13 (x2 &&& (7 : Int64))) else if x1 = (64 : Int32) then (sL u 14 x2) else if x1 = (65 : Int32) then (sL u 15 (x2 &&& (-2 : Int64))) else if x1 = (66 : Int32) then (sL u 16 x2) else if x1 = (67 : Int32) then (sL u 17 x2) else u
set_option maxRecDepth 100000 in
set_option maxHeartbeats 4000000 in
theorem c_X7_write_o16 (l : Launch) (D : va_G) (cy : ClassId × ClassId × ClassId) (ad : Nat → Nat) (x1 : Int32) (x2 : Int64) (u : St) : MX (wC cy ad) D cy l yX7_write cX7_write 4 (none) 0 0 0 [.ref (ad 16), .int x1, .long x2] u (f_X7_write_o16 x1 x2 u) none := by
  refine entX (by decide +kernel) (Nat.le_of_ble_eq_true rfl) ?_
  intro p e s m args below meth c ls rr A E hr hlk hl w
  have hl : lv_has ls 4 [(0, .ref (ad 16)), (1, .int x1), (2, .long x2)] := hl
  generalize h : f_X7_write_o16 x1 x2 u = u'
  skip
  have hx := E.1
  have hb := E.2.1
  have hown := E.2.2.2.1
  have hts := E.2.2.2.2
  refine lv_iload_n hx hb (dq da_X7_write_o16 0 rfl) rfl (lv_at hl 1 rfl) ?_
  by_cases c1 : x1 = (5 : Int32)
  · have h := it c1 h
    refine lv_lookup (off := 59) (tgt := 60) hx hb (dq da_X7_write_o16 1 rfl) (by decide +kernel) (by rw [c1]; decide +kernel) (by decide) ?_
    refine lv_aload_n hx hb (dq da_X7_write_o16 2 rfl) rfl (lv_at hl 0 rfl) ?_
    refine lv_lload_n hx hb (dq da_X7_write_o16 3 rfl) rfl (lv_at hl 2 rfl) ?_
    refine lv_ldc2 hx hb hown (hts _ w_630) (dq da_X7_write_o16 4 rfl) ?_
    refine lv_land hx hb (dq da_X7_write_o16 5 rfl) ?_
    refine pt_wC_16_tvec E w w_171 (dq da_X7_write_o16 6 rfl) (fun H locs w => ?_)
    refine lv_goto (tgt := 120) hx hb (dq da_X7_write_o16 7 rfl) (by decide) ?_
    exact xret_v E hr hlk w (by decide) h (dq da_X7_write_o16 32 rfl)
  · have h := ie c1 h
    by_cases c2 : x1 = (6 : Int32)
    · have h := it c2 h
      refine lv_lookup (off := 71) (tgt := 72) hx hb (dq da_X7_write_o16 1 rfl) (by decide +kernel) (by rw [c2]; decide +kernel) (by decide) ?_
      refine lv_aload_n hx hb (dq da_X7_write_o16 8 rfl) rfl (lv_at hl 0 rfl) ?_
      refine lv_lload_n hx hb (dq da_X7_write_o16 9 rfl) rfl (lv_at hl 2 rfl) ?_
      refine lv_ldc2 hx hb hown (hts _ w_631) (dq da_X7_write_o16 10 rfl) ?_
      refine lv_land hx hb (dq da_X7_write_o16 11 rfl) ?_
      refine pt_wC_16_counters E w w_173 (dq da_X7_write_o16 12 rfl) (fun H locs w => ?_)
      refine lv_goto (tgt := 120) hx hb (dq da_X7_write_o16 13 rfl) (by decide) ?_
      exact xret_v E hr hlk w (by decide) h (dq da_X7_write_o16 32 rfl)
    · have h := ie c2 h
      by_cases c3 : x1 = (64 : Int32)
      · have h := it c3 h
        refine lv_lookup (off := 83) (tgt := 84) hx hb (dq da_X7_write_o16 1 rfl) (by decide +kernel) (by rw [c3]; decide +kernel) (by decide) ?_
        refine lv_aload_n hx hb (dq da_X7_write_o16 14 rfl) rfl (lv_at hl 0 rfl) ?_
        refine lv_lload_n hx hb (dq da_X7_write_o16 15 rfl) rfl (lv_at hl 2 rfl) ?_
        refine pt_wC_16_scratch E w w_175 (dq da_X7_write_o16 16 rfl) (fun H locs w => ?_)
        refine lv_goto (tgt := 120) hx hb (dq da_X7_write_o16 17 rfl) (by decide) ?_
        exact xret_v E hr hlk w (by decide) h (dq da_X7_write_o16 32 rfl)
      · have h := ie c3 h
        by_cases c4 : x1 = (65 : Int32)
        · have h := it c4 h
          refine lv_lookup (off := 91) (tgt := 92) hx hb (dq da_X7_write_o16 1 rfl) (by decide +kernel) (by rw [c4]; decide +kernel) (by decide) ?_
          refine lv_aload_n hx hb (dq da_X7_write_o16 18 rfl) rfl (lv_at hl 0 rfl) ?_
          refine lv_lload_n hx hb (dq da_X7_write_o16 19 rfl) rfl (lv_at hl 2 rfl) ?_
          refine lv_ldc2 hx hb hown (hts _ w_632) (dq da_X7_write_o16 20 rfl) ?_
          refine lv_land hx hb (dq da_X7_write_o16 21 rfl) ?_
          refine pt_wC_16_epc E w w_176 (dq da_X7_write_o16 22 rfl) (fun H locs w => ?_)
          refine lv_goto (tgt := 120) hx hb (dq da_X7_write_o16 23 rfl) (by decide) ?_
          exact xret_v E hr hlk w (by decide) h (dq da_X7_write_o16 32 rfl)
        · have h := ie c4 h
          by_cases c5 : x1 = (66 : Int32)
          · have h := it c5 h
            refine lv_lookup (off := 103) (tgt := 104) hx hb (dq da_X7_write_o16 1 rfl) (by decide +kernel) (by rw [c5]; decide +kernel) (by decide) ?_
            refine lv_aload_n hx hb (dq da_X7_write_o16 24 rfl) rfl (lv_at hl 0 rfl) ?_
            refine lv_lload_n hx hb (dq da_X7_write_o16 25 rfl) rfl (lv_at hl 2 rfl) ?_
            refine pt_wC_16_cause E w w_178 (dq da_X7_write_o16 26 rfl) (fun H locs w => ?_)
            refine lv_goto (tgt := 120) hx hb (dq da_X7_write_o16 27 rfl) (by decide) ?_
            exact xret_v E hr hlk w (by decide) h (dq da_X7_write_o16 32 rfl)
          · have h := ie c5 h
            by_cases c6 : x1 = (67 : Int32)
            · have h := it c6 h
              refine lv_lookup (off := 111) (tgt := 112) hx hb (dq da_X7_write_o16 1 rfl) (by decide +kernel) (by rw [c6]; decide +kernel) (by decide) ?_
              refine lv_aload_n hx hb (dq da_X7_write_o16 28 rfl) rfl (lv_at hl 0 rfl) ?_
              refine lv_lload_n hx hb (dq da_X7_write_o16 29 rfl) rfl (lv_at hl 2 rfl) ?_
              refine pt_wC_16_tval E w w_180 (dq da_X7_write_o16 30 rfl) (fun H locs w => ?_)
              refine lv_goto (tgt := 120) hx hb (dq da_X7_write_o16 31 rfl) (by decide) ?_
              exact xret_v E hr hlk w (by decide) h (dq da_X7_write_o16 32 rfl)
            · have h := ie c6 h
              refine lv_lookup (off := 119) (tgt := 120) hx hb (dq da_X7_write_o16 1 rfl) (by decide +kernel) (by show Op.lookupswitch.offset [(5, 59), (6, 71), (64, 83), (65, 91), (66, 103), (67, 111)] (119) _ = _; rw [lv_osw (k := (5 : Int32)) (a := 5) c1 rfl, lv_osw (k := (6 : Int32)) (a := 6) c2 rfl, lv_osw (k := (64 : Int32)) (a := 64) c3 rfl, lv_osw (k := (65 : Int32)) (a := 65) c4 rfl, lv_osw (k := (66 : Int32)) (a := 66) c5 rfl, lv_osw (k := (67 : Int32)) (a := 67) c6 rfl]; rfl) (by decide) ?_
              exact xret_v E hr hlk w (by decide) h (dq da_X7_write_o16 32 rfl)
def dl_X7_read_o17 : List (Nat × Instr × Nat) := [(0, .iload_n 1, 1), (1, .lookupswitch 89 #[(5, 59), (6, 64), (64, 69), (65, 74), (66, 79), (67, 84)], 59), (60, .aload_n 0, 1), (61, .getfield 7, 3), (64, .lreturn, 1), (65, .aload_n 0, 1), (66, .getfield 13, 3), (69, .lreturn, 1), (70, .aload_n 0, 1), (71, .getfield 16, 3), (74, .lreturn, 1), (75, .aload_n 0, 1), (76, .getfield 19, 3), (79, .lreturn, 1), (80, .aload_n 0, 1), (81, .getfield 22, 3), (84, .lreturn, 1), (85, .aload_n 0, 1), (86, .getfield 25, 3), (89, .lreturn, 1), (90, .lconst 0, 1), (91, .lreturn, 1)]
theorem da_X7_read_o17 : dkL cX7_read dl_X7_read_o17 = true := by decide +kernel
def f_X7_read_o17 (x1 : Int32) (u : St) : Int64 := if x1 = (5 : Int32) then (gL u 18) else if x1 = (6 : Int32) then (gL u 19) else if x1 = (64 : Int32) then (gL u 20) else if x1 = (65 : Int32) then (gL u 21) else if x1 = (66 : Int32) then (gL u 22) else if x1 = (67 : Int32) then (gL u 23) else (0 : Int64)
set_option maxRecDepth 100000 in
set_option maxHeartbeats 4000000 in
theorem c_X7_read_o17 (l : Launch) (D : va_G) (cy : ClassId × ClassId × ClassId) (ad : Nat → Nat) (x1 : Int32) (u : St) : MX (wC cy ad) D cy l yX7_read cX7_read 2 (some .long) 0 0 0 [.ref (ad 17), .int x1] u u (some (.long (f_X7_read_o17 x1 u))) := by
  refine entX (by decide +kernel) (Nat.le_of_ble_eq_true rfl) ?_
  intro p e s m args below meth c ls rr A E hr hlk hl w
  have hl : lv_has ls 2 [(0, .ref (ad 17)), (1, .int x1)] := hl
  generalize h : f_X7_read_o17 x1 u = r
  skip
  have hx := E.1
  have hb := E.2.1
  have hown := E.2.2.2.1
  have hts := E.2.2.2.2
  refine lv_iload_n hx hb (dq da_X7_read_o17 0 rfl) rfl (lv_at hl 1 rfl) ?_
  by_cases c1 : x1 = (5 : Int32)
  · have h := it c1 h
    refine lv_lookup (off := 59) (tgt := 60) hx hb (dq da_X7_read_o17 1 rfl) (by decide +kernel) (by rw [c1]; decide +kernel) (by decide) ?_
    refine lv_aload_n hx hb (dq da_X7_read_o17 2 rfl) rfl (lv_at hl 0 rfl) ?_
    refine gt_wC_17_tvec E w w_171 (dq da_X7_read_o17 3 rfl) ?_
    exact xret_l E hr hlk w (by decide) h rfl (dq da_X7_read_o17 4 rfl)
  · have h := ie c1 h
    by_cases c2 : x1 = (6 : Int32)
    · have h := it c2 h
      refine lv_lookup (off := 64) (tgt := 65) hx hb (dq da_X7_read_o17 1 rfl) (by decide +kernel) (by rw [c2]; decide +kernel) (by decide) ?_
      refine lv_aload_n hx hb (dq da_X7_read_o17 5 rfl) rfl (lv_at hl 0 rfl) ?_
      refine gt_wC_17_counters E w w_173 (dq da_X7_read_o17 6 rfl) ?_
      exact xret_l E hr hlk w (by decide) h rfl (dq da_X7_read_o17 7 rfl)
    · have h := ie c2 h
      by_cases c3 : x1 = (64 : Int32)
      · have h := it c3 h
        refine lv_lookup (off := 69) (tgt := 70) hx hb (dq da_X7_read_o17 1 rfl) (by decide +kernel) (by rw [c3]; decide +kernel) (by decide) ?_
        refine lv_aload_n hx hb (dq da_X7_read_o17 8 rfl) rfl (lv_at hl 0 rfl) ?_
        refine gt_wC_17_scratch E w w_175 (dq da_X7_read_o17 9 rfl) ?_
        exact xret_l E hr hlk w (by decide) h rfl (dq da_X7_read_o17 10 rfl)
      · have h := ie c3 h
        by_cases c4 : x1 = (65 : Int32)
        · have h := it c4 h
          refine lv_lookup (off := 74) (tgt := 75) hx hb (dq da_X7_read_o17 1 rfl) (by decide +kernel) (by rw [c4]; decide +kernel) (by decide) ?_
          refine lv_aload_n hx hb (dq da_X7_read_o17 11 rfl) rfl (lv_at hl 0 rfl) ?_
          refine gt_wC_17_epc E w w_176 (dq da_X7_read_o17 12 rfl) ?_
          exact xret_l E hr hlk w (by decide) h rfl (dq da_X7_read_o17 13 rfl)
        · have h := ie c4 h
          by_cases c5 : x1 = (66 : Int32)
          · have h := it c5 h
            refine lv_lookup (off := 79) (tgt := 80) hx hb (dq da_X7_read_o17 1 rfl) (by decide +kernel) (by rw [c5]; decide +kernel) (by decide) ?_
            refine lv_aload_n hx hb (dq da_X7_read_o17 14 rfl) rfl (lv_at hl 0 rfl) ?_
            refine gt_wC_17_cause E w w_178 (dq da_X7_read_o17 15 rfl) ?_
            exact xret_l E hr hlk w (by decide) h rfl (dq da_X7_read_o17 16 rfl)
          · have h := ie c5 h
            by_cases c6 : x1 = (67 : Int32)
            · have h := it c6 h
              refine lv_lookup (off := 84) (tgt := 85) hx hb (dq da_X7_read_o17 1 rfl) (by decide +kernel) (by rw [c6]; decide +kernel) (by decide) ?_
              refine lv_aload_n hx hb (dq da_X7_read_o17 17 rfl) rfl (lv_at hl 0 rfl) ?_
              refine gt_wC_17_tval E w w_180 (dq da_X7_read_o17 18 rfl) ?_
              exact xret_l E hr hlk w (by decide) h rfl (dq da_X7_read_o17 19 rfl)
            · have h := ie c6 h
              refine lv_lookup (off := 89) (tgt := 90) hx hb (dq da_X7_read_o17 1 rfl) (by decide +kernel) (by show Op.lookupswitch.offset [(5, 59), (6, 64), (64, 69), (65, 74), (66, 79), (67, 84)] (89) _ = _; rw [lv_osw (k := (5 : Int32)) (a := 5) c1 rfl, lv_osw (k := (6 : Int32)) (a := 6) c2 rfl, lv_osw (k := (64 : Int32)) (a := 64) c3 rfl, lv_osw (k := (65 : Int32)) (a := 65) c4 rfl, lv_osw (k := (66 : Int32)) (a := 66) c5 rfl, lv_osw (k := (67 : Int32)) (a := 67) c6 rfl]; rfl) (by decide) ?_
              refine lv_lconst (v := 0) hx hb (dq da_X7_read_o17 20 rfl) rfl ?_
              exact xret_l E hr hlk w (by decide) h rfl (dq da_X7_read_o17 21 rfl)
def dl_X7_write_o17 : List (Nat × Instr × Nat) := [(0, .iload_n 1, 1), (1, .lookupswitch 119 #[(5, 59), (6, 71), (64, 83), (65, 91), (66, 103), (67, 111)], 59), (60, .aload_n 0, 1), (61, .lload_n 2, 1), (62, .ldc2_w 28, 3), (65, .land, 1), (66, .putfield 7, 3), (69, .goto 51, 3), (72, .aload_n 0, 1), (73, .lload_n 2, 1), (74, .ldc2_w 30, 3), (77, .land, 1), (78, .putfield 13, 3), (81, .goto 39, 3), (84, .aload_n 0, 1), (85, .lload_n 2, 1), (86, .putfield 16, 3), (89, .goto 31, 3), (92, .aload_n 0, 1), (93, .lload_n 2, 1), (94, .ldc2_w 32, 3), (97, .land, 1), (98, .putfield 19, 3), (101, .goto 19, 3), (104, .aload_n 0, 1), (105, .lload_n 2, 1), (106, .putfield 22, 3), (109, .goto 11, 3), (112, .aload_n 0, 1), (113, .lload_n 2, 1), (114, .putfield 25, 3), (117, .goto 3, 3), (120, .return_, 1)]
theorem da_X7_write_o17 : dkL cX7_write dl_X7_write_o17 = true := by decide +kernel
def f_X7_write_o17 (x1 : Int32) (x2 : Int64) (u : St) : St := if x1 = (5 : Int32) then (sL u 18 (x2 &&& (-3 : Int64))) else if x1 = (6 : Int32) then (sL u 19 (x2 &&& (7 : Int64))) else if x1 = (64 : Int32) then (sL u 20 x2) else if x1 = (65 : Int32) then (sL u 21 (x2 &&& (-2 : Int64))) else if x1 = (66 : Int32) then (sL u 22 x2) else if x1 = (67 : Int32) then (sL u 23 x2) else u
set_option maxRecDepth 100000 in
set_option maxHeartbeats 4000000 in
theorem c_X7_write_o17 (l : Launch) (D : va_G) (cy : ClassId × ClassId × ClassId) (ad : Nat → Nat) (x1 : Int32) (x2 : Int64) (u : St) : MX (wC cy ad) D cy l yX7_write cX7_write 4 (none) 0 0 0 [.ref (ad 17), .int x1, .long x2] u (f_X7_write_o17 x1 x2 u) none := by
  refine entX (by decide +kernel) (Nat.le_of_ble_eq_true rfl) ?_
  intro p e s m args below meth c ls rr A E hr hlk hl w
  have hl : lv_has ls 4 [(0, .ref (ad 17)), (1, .int x1), (2, .long x2)] := hl
  generalize h : f_X7_write_o17 x1 x2 u = u'
  skip
  have hx := E.1
  have hb := E.2.1
  have hown := E.2.2.2.1
  have hts := E.2.2.2.2
  refine lv_iload_n hx hb (dq da_X7_write_o17 0 rfl) rfl (lv_at hl 1 rfl) ?_
  by_cases c1 : x1 = (5 : Int32)
  · have h := it c1 h
    refine lv_lookup (off := 59) (tgt := 60) hx hb (dq da_X7_write_o17 1 rfl) (by decide +kernel) (by rw [c1]; decide +kernel) (by decide) ?_
    refine lv_aload_n hx hb (dq da_X7_write_o17 2 rfl) rfl (lv_at hl 0 rfl) ?_
    refine lv_lload_n hx hb (dq da_X7_write_o17 3 rfl) rfl (lv_at hl 2 rfl) ?_
    refine lv_ldc2 hx hb hown (hts _ w_630) (dq da_X7_write_o17 4 rfl) ?_
    refine lv_land hx hb (dq da_X7_write_o17 5 rfl) ?_
    refine pt_wC_17_tvec E w w_171 (dq da_X7_write_o17 6 rfl) (fun H locs w => ?_)
    refine lv_goto (tgt := 120) hx hb (dq da_X7_write_o17 7 rfl) (by decide) ?_
    exact xret_v E hr hlk w (by decide) h (dq da_X7_write_o17 32 rfl)
  · have h := ie c1 h
    by_cases c2 : x1 = (6 : Int32)
    · have h := it c2 h
      refine lv_lookup (off := 71) (tgt := 72) hx hb (dq da_X7_write_o17 1 rfl) (by decide +kernel) (by rw [c2]; decide +kernel) (by decide) ?_
      refine lv_aload_n hx hb (dq da_X7_write_o17 8 rfl) rfl (lv_at hl 0 rfl) ?_
      refine lv_lload_n hx hb (dq da_X7_write_o17 9 rfl) rfl (lv_at hl 2 rfl) ?_
      refine lv_ldc2 hx hb hown (hts _ w_631) (dq da_X7_write_o17 10 rfl) ?_
      refine lv_land hx hb (dq da_X7_write_o17 11 rfl) ?_
      refine pt_wC_17_counters E w w_173 (dq da_X7_write_o17 12 rfl) (fun H locs w => ?_)
      refine lv_goto (tgt := 120) hx hb (dq da_X7_write_o17 13 rfl) (by decide) ?_
      exact xret_v E hr hlk w (by decide) h (dq da_X7_write_o17 32 rfl)
    · have h := ie c2 h
      by_cases c3 : x1 = (64 : Int32)
      · have h := it c3 h
        refine lv_lookup (off := 83) (tgt := 84) hx hb (dq da_X7_write_o17 1 rfl) (by decide +kernel) (by rw [c3]; decide +kernel) (by decide) ?_
        refine lv_aload_n hx hb (dq da_X7_write_o17 14 rfl) rfl (lv_at hl 0 rfl) ?_
        refine lv_lload_n hx hb (dq da_X7_write_o17 15 rfl) rfl (lv_at hl 2 rfl) ?_
        refine pt_wC_17_scratch E w w_175 (dq da_X7_write_o17 16 rfl) (fun H locs w => ?_)
        refine lv_goto (tgt := 120) hx hb (dq da_X7_write_o17 17 rfl) (by decide) ?_
        exact xret_v E hr hlk w (by decide) h (dq da_X7_write_o17 32 rfl)
      · have h := ie c3 h
        by_cases c4 : x1 = (65 : Int32)
        · have h := it c4 h
          refine lv_lookup (off := 91) (tgt := 92) hx hb (dq da_X7_write_o17 1 rfl) (by decide +kernel) (by rw [c4]; decide +kernel) (by decide) ?_
          refine lv_aload_n hx hb (dq da_X7_write_o17 18 rfl) rfl (lv_at hl 0 rfl) ?_
          refine lv_lload_n hx hb (dq da_X7_write_o17 19 rfl) rfl (lv_at hl 2 rfl) ?_
          refine lv_ldc2 hx hb hown (hts _ w_632) (dq da_X7_write_o17 20 rfl) ?_
          refine lv_land hx hb (dq da_X7_write_o17 21 rfl) ?_
          refine pt_wC_17_epc E w w_176 (dq da_X7_write_o17 22 rfl) (fun H locs w => ?_)
          refine lv_goto (tgt := 120) hx hb (dq da_X7_write_o17 23 rfl) (by decide) ?_
          exact xret_v E hr hlk w (by decide) h (dq da_X7_write_o17 32 rfl)
        · have h := ie c4 h
          by_cases c5 : x1 = (66 : Int32)
          · have h := it c5 h
            refine lv_lookup (off := 103) (tgt := 104) hx hb (dq da_X7_write_o17 1 rfl) (by decide +kernel) (by rw [c5]; decide +kernel) (by decide) ?_
            refine lv_aload_n hx hb (dq da_X7_write_o17 24 rfl) rfl (lv_at hl 0 rfl) ?_
            refine lv_lload_n hx hb (dq da_X7_write_o17 25 rfl) rfl (lv_at hl 2 rfl) ?_
            refine pt_wC_17_cause E w w_178 (dq da_X7_write_o17 26 rfl) (fun H locs w => ?_)
            refine lv_goto (tgt := 120) hx hb (dq da_X7_write_o17 27 rfl) (by decide) ?_
            exact xret_v E hr hlk w (by decide) h (dq da_X7_write_o17 32 rfl)
          · have h := ie c5 h
            by_cases c6 : x1 = (67 : Int32)
            · have h := it c6 h
              refine lv_lookup (off := 111) (tgt := 112) hx hb (dq da_X7_write_o17 1 rfl) (by decide +kernel) (by rw [c6]; decide +kernel) (by decide) ?_
              refine lv_aload_n hx hb (dq da_X7_write_o17 28 rfl) rfl (lv_at hl 0 rfl) ?_
              refine lv_lload_n hx hb (dq da_X7_write_o17 29 rfl) rfl (lv_at hl 2 rfl) ?_
              refine pt_wC_17_tval E w w_180 (dq da_X7_write_o17 30 rfl) (fun H locs w => ?_)
              refine lv_goto (tgt := 120) hx hb (dq da_X7_write_o17 31 rfl) (by decide) ?_
              exact xret_v E hr hlk w (by decide) h (dq da_X7_write_o17 32 rfl)
            · have h := ie c6 h
              refine lv_lookup (off := 119) (tgt := 120) hx hb (dq da_X7_write_o17 1 rfl) (by decide +kernel) (by show Op.lookupswitch.offset [(5, 59), (6, 71), (64, 83), (65, 91), (66, 103), (67, 111)] (119) _ = _; rw [lv_osw (k := (5 : Int32)) (a := 5) c1 rfl, lv_osw (k := (6 : Int32)) (a := 6) c2 rfl, lv_osw (k := (64 : Int32)) (a := 64) c3 rfl, lv_osw (k := (65 : Int32)) (a := 65) c4 rfl, lv_osw (k := (66 : Int32)) (a := 66) c5 rfl, lv_osw (k := (67 : Int32)) (a := 67) c6 rfl]; rfl) (by decide) ?_
              exact xret_v E hr hlk w (by decide) h (dq da_X7_write_o17 32 rfl)
def dl_X4_writeSatp : List (Nat × Instr × Nat) := [(0, .lload_n 1, 1), (1, .bipush 60, 2), (3, .lushr, 1), (4, .lstore_n 3, 1), (5, .lload_n 3, 1), (6, .lconst 0, 1), (7, .lcmp, 1), (8, .ifCond .eq 11, 3), (11, .lload_n 3, 1), (12, .ldc2_w 106, 3), (15, .lcmp, 1), (16, .ifCond .ne 8, 3), (19, .aload_n 0, 1), (20, .lload_n 1, 1), (21, .putfield 43, 3), (24, .return_, 1)]
theorem da_X4_writeSatp : dkL cX4_writeSatp dl_X4_writeSatp = true := by decide +kernel
def f_X4_writeSatp_b19 (x1 : Int64) (u : St) : St := (sL u 9 x1)
set_option maxRecDepth 100000 in
set_option maxHeartbeats 4000000 in
theorem b_X4_writeSatp_b19 {p : Program} {l : Launch} {e : Env} {s : State} {m : MethodId} {args : Array Value} {below : List Frame} {meth : Method} {c : Code} {D : va_G} {cy : ClassId × ClassId × ClassId} {ad : Nat → Nat} {A : Nat → Prop} (E : CallFix p m c cX4_writeSatp 5 s args gw RX4) (hr : meth.sig.returnType = none) (hlk : meth.locks = false) {x1 : Int64} {u : St} {u' : St} (h : f_X4_writeSatp_b19 x1 u = u') {ls : Array Slot} {H : Heap} {locs : List Loc} {rr : Nat → Nat} (hl : lv_has ls 5 [(0, .ref (ad 15)), (1, .long x1)]) (w : WX (wC cy ad) D cy rr u A s H locs) : Wx (wC cy ad) D p l e 0 0 0 s m args below meth c A u' none H locs 0 19 ls [] := by
  have hx := E.1
  have hb := E.2.1
  have hown := E.2.2.2.1
  have hts := E.2.2.2.2
  refine lv_aload_n hx hb (dq da_X4_writeSatp 12 rfl) rfl (lv_at hl 0 rfl) ?_
  refine lv_lload_n hx hb (dq da_X4_writeSatp 13 rfl) rfl (lv_at hl 1 rfl) ?_
  refine pt_wC_15_satp E w w_210 (dq da_X4_writeSatp 14 rfl) (fun H locs w => ?_)
  exact xret_v E hr hlk w (by decide) h (dq da_X4_writeSatp 15 rfl)
def f_X4_writeSatp (x1 : Int64) (u : St) : St := if (j_lushr x1 (60 : Int32)) = (0 : Int64) then (f_X4_writeSatp_b19 x1 u) else (if (j_lushr x1 (60 : Int32)) = (8 : Int64) then (f_X4_writeSatp_b19 x1 u) else u)
set_option maxRecDepth 100000 in
set_option maxHeartbeats 4000000 in
theorem c_X4_writeSatp (l : Launch) (D : va_G) (cy : ClassId × ClassId × ClassId) (ad : Nat → Nat) (x1 : Int64) (u : St) : MX (wC cy ad) D cy l yX4_writeSatp cX4_writeSatp 5 (none) 0 0 0 [.ref (ad 15), .long x1] u (f_X4_writeSatp x1 u) none := by
  refine entX (by decide +kernel) (Nat.le_of_ble_eq_true rfl) ?_
  intro p e s m args below meth c ls rr A E hr hlk hl w
  have hl : lv_has ls 5 [(0, .ref (ad 15)), (1, .long x1)] := hl
  generalize h : f_X4_writeSatp x1 u = u'
  skip
  have hx := E.1
  have hb := E.2.1
  have hown := E.2.2.2.1
  have hts := E.2.2.2.2
  refine lv_lload_n hx hb (dq da_X4_writeSatp 0 rfl) rfl (lv_at hl 1 rfl) ?_
  refine lv_bipush (v := 60) hx hb (dq da_X4_writeSatp 1 rfl) rfl ?_
  refine lv_lushr (v := (j_lushr x1 (60 : Int32))) hx hb (dq da_X4_writeSatp 2 rfl) rfl ?_
  refine lv_lstore_n (lv' := [(3, .long (j_lushr x1 (60 : Int32))), (0, .ref (ad 15)), (1, .long x1)]) hx hb (dq da_X4_writeSatp 3 rfl) rfl hl (by decide) rfl (fun ls hl => ?_)
  refine lv_lload_n hx hb (dq da_X4_writeSatp 4 rfl) rfl (lv_at hl 0 rfl) ?_
  refine lv_lconst (v := 0) hx hb (dq da_X4_writeSatp 5 rfl) rfl ?_
  refine lc_eq (tgt := 19) hx hb (dq da_X4_writeSatp 6 rfl) (dq da_X4_writeSatp 7 rfl) (by decide) (fun c1 => ?_) (fun c1 => ?_)
  · have h := it c1 h
    exact b_X4_writeSatp_b19 E hr hlk h (lv_sub hl [1, 2] rfl) w
  · have h := ie c1 h
    refine lv_lload_n hx hb (dq da_X4_writeSatp 8 rfl) rfl (lv_at hl 0 rfl) ?_
    refine lv_ldc2 hx hb hown (hts _ w_611) (dq da_X4_writeSatp 9 rfl) ?_
    refine lc_ne (tgt := 24) hx hb (dq da_X4_writeSatp 10 rfl) (dq da_X4_writeSatp 11 rfl) (by decide) (fun c2 => ?_) (fun c2 => ?_)
    · have h := ie c2 h
      exact xret_v E hr hlk w (by decide) h (dq da_X4_writeSatp 15 rfl)
    · have h := it c2 h
      exact b_X4_writeSatp_b19 E hr hlk h (lv_sub hl [1, 2] rfl) w
def dl_X4_writeStatus : List (Nat × Instr × Nat) := [(0, .lload_n 1, 1), (1, .ldc2_w 100, 3), (4, .land, 1), (5, .bipush 11, 2), (7, .lshr, 1), (8, .ldc2_w 78, 3), (11, .lcmp, 1), (12, .ifCond .ne 7, 3), (15, .iconst 1, 1), (16, .goto 4, 3), (19, .iconst 0, 1), (20, .istore_n 3, 1), (21, .aload_n 0, 1), (22, .aload_n 0, 1), (23, .getfield 25, 3), (26, .lload_n 1, 1), (27, .iload_n 3, 1), (28, .ifCond .eq 9, 3), (31, .ldc2_w 102, 3), (34, .goto 6, 3), (37, .ldc2_w 104, 3), (40, .invokestatic 71, 3), (43, .putfield 25, 3), (46, .return_, 1)]
theorem da_X4_writeStatus : dkL cX4_writeStatus dl_X4_writeStatus = true := by decide +kernel
def f_X4_writeStatus_b40 (s0 : Int64) (s1 : Int64) (s2 : Int64) (u : St) : St := (sL u 4 (f_X4_mixed s2 s1 s0))
set_option maxRecDepth 100000 in
set_option maxHeartbeats 4000000 in
theorem b_X4_writeStatus_b40 {p : Program} {l : Launch} {e : Env} {s : State} {m : MethodId} {args : Array Value} {below : List Frame} {meth : Method} {c : Code} {D : va_G} {cy : ClassId × ClassId × ClassId} {ad : Nat → Nat} {A : Nat → Prop} (E : CallFix p m c cX4_writeStatus 4 s args gw RX4) (hr : meth.sig.returnType = none) (hlk : meth.locks = false) {s0 : Int64} {s1 : Int64} {s2 : Int64} {u : St} {u' : St} (h : f_X4_writeStatus_b40 s0 s1 s2 u = u') {ls : Array Slot} {H : Heap} {locs : List Loc} {rr : Nat → Nat} (hl : lv_has ls 4 []) (w : WX (wC cy ad) D cy rr u A s H locs) : Wx (wC cy ad) D p l e 1 25 0 s m args below meth c A u' none H locs 0 40 ls [.long s0, .long s1, .long s2, .ref (ad 15)] := by
  have hx := E.1
  have hb := E.2.1
  have hown := E.2.2.2.1
  have hts := E.2.2.2.2
  refine callP E (c_X4_mixed l _ _ _ ) w_602 w_603 w_7 w_604 hd_X4_mixed rfl hl.1 rfl (Nat.le_of_ble_eq_true rfl) (by decide) (by decide) (dq da_X4_writeStatus 21 rfl) ?_
  refine pt_wC_15_status E w w_200 (dq da_X4_writeStatus 22 rfl) (fun H locs w => ?_)
  exact xret_v E hr hlk w (by decide) h (dq da_X4_writeStatus 23 rfl)
def f_X4_writeStatus_b20 (x1 : Int64) (s0 : Int32) (u : St) : St := if s0 = (0 : Int32) then (f_X4_writeStatus_b40 (8264106 : Int64) x1 (gL u 4) u) else (f_X4_writeStatus_b40 (8257962 : Int64) x1 (gL u 4) u)
set_option maxRecDepth 100000 in
set_option maxHeartbeats 4000000 in
theorem b_X4_writeStatus_b20 {p : Program} {l : Launch} {e : Env} {s : State} {m : MethodId} {args : Array Value} {below : List Frame} {meth : Method} {c : Code} {D : va_G} {cy : ClassId × ClassId × ClassId} {ad : Nat → Nat} {A : Nat → Prop} (E : CallFix p m c cX4_writeStatus 4 s args gw RX4) (hr : meth.sig.returnType = none) (hlk : meth.locks = false) {x1 : Int64} {s0 : Int32} {u : St} {u' : St} (h : f_X4_writeStatus_b20 x1 s0 u = u') {ls : Array Slot} {H : Heap} {locs : List Loc} {rr : Nat → Nat} (hl : lv_has ls 4 [(0, .ref (ad 15)), (1, .long x1)]) (w : WX (wC cy ad) D cy rr u A s H locs) : Wx (wC cy ad) D p l e 1 25 0 s m args below meth c A u' none H locs 0 20 ls [.int s0] := by
  have hx := E.1
  have hb := E.2.1
  have hown := E.2.2.2.1
  have hts := E.2.2.2.2
  refine lv_istore_n (lv' := [(3, .int s0), (0, .ref (ad 15)), (1, .long x1)]) hx hb (dq da_X4_writeStatus 11 rfl) rfl hl (by decide) rfl (fun ls hl => ?_)
  refine lv_aload_n hx hb (dq da_X4_writeStatus 12 rfl) rfl (lv_at hl 1 rfl) ?_
  refine lv_aload_n hx hb (dq da_X4_writeStatus 13 rfl) rfl (lv_at hl 1 rfl) ?_
  refine gt_wC_15_status E w w_200 (dq da_X4_writeStatus 14 rfl) ?_
  refine lv_lload_n hx hb (dq da_X4_writeStatus 15 rfl) rfl (lv_at hl 2 rfl) ?_
  refine lv_iload_n hx hb (dq da_X4_writeStatus 16 rfl) rfl (lv_at hl 0 rfl) ?_
  refine lv_if_eq (tgt := 37) hx hb (dq da_X4_writeStatus 17 rfl) (by decide) (fun c2 => ?_) (fun c2 => ?_)
  · have h := it c2 h
    refine lv_ldc2 hx hb hown (hts _ w_618) (dq da_X4_writeStatus 20 rfl) ?_
    exact b_X4_writeStatus_b40 E hr hlk h (lv_sub hl [] rfl) w
  · have h := ie c2 h
    refine lv_ldc2 hx hb hown (hts _ w_617) (dq da_X4_writeStatus 18 rfl) ?_
    refine lv_goto (tgt := 40) hx hb (dq da_X4_writeStatus 19 rfl) (by decide) ?_
    exact b_X4_writeStatus_b40 E hr hlk h (lv_sub hl [] rfl) w
def f_X4_writeStatus (x1 : Int64) (u : St) : St := if (j_lshr (x1 &&& (6144 : Int64)) (11 : Int32)) = (2 : Int64) then (f_X4_writeStatus_b20 x1 (1 : Int32) u) else (f_X4_writeStatus_b20 x1 (0 : Int32) u)
set_option maxRecDepth 100000 in
set_option maxHeartbeats 4000000 in
theorem c_X4_writeStatus (l : Launch) (D : va_G) (cy : ClassId × ClassId × ClassId) (ad : Nat → Nat) (x1 : Int64) (u : St) : MX (wC cy ad) D cy l yX4_writeStatus cX4_writeStatus 4 (none) 1 25 0 [.ref (ad 15), .long x1] u (f_X4_writeStatus x1 u) none := by
  refine entX (by decide +kernel) (Nat.le_of_ble_eq_true rfl) ?_
  intro p e s m args below meth c ls rr A E hr hlk hl w
  have hl : lv_has ls 4 [(0, .ref (ad 15)), (1, .long x1)] := hl
  generalize h : f_X4_writeStatus x1 u = u'
  skip
  have hx := E.1
  have hb := E.2.1
  have hown := E.2.2.2.1
  have hts := E.2.2.2.2
  refine lv_lload_n hx hb (dq da_X4_writeStatus 0 rfl) rfl (lv_at hl 1 rfl) ?_
  refine lv_ldc2 hx hb hown (hts _ w_616) (dq da_X4_writeStatus 1 rfl) ?_
  refine lv_land hx hb (dq da_X4_writeStatus 2 rfl) ?_
  refine lv_bipush (v := 11) hx hb (dq da_X4_writeStatus 3 rfl) rfl ?_
  refine lv_lshr (v := (j_lshr (x1 &&& (6144 : Int64)) (11 : Int32))) hx hb (dq da_X4_writeStatus 4 rfl) rfl ?_
  refine lv_ldc2 hx hb hown (hts _ w_606) (dq da_X4_writeStatus 5 rfl) ?_
  refine lc_ne (tgt := 19) hx hb (dq da_X4_writeStatus 6 rfl) (dq da_X4_writeStatus 7 rfl) (by decide) (fun c1 => ?_) (fun c1 => ?_)
  · have h := ie c1 h
    refine lv_iconst (v := 0) hx hb (dq da_X4_writeStatus 10 rfl) rfl ?_
    exact b_X4_writeStatus_b20 E hr hlk h (lv_sub hl [0, 1] rfl) w
  · have h := it c1 h
    refine lv_iconst (v := 1) hx hb (dq da_X4_writeStatus 8 rfl) rfl ?_
    refine lv_goto (tgt := 20) hx hb (dq da_X4_writeStatus 9 rfl) (by decide) ?_
    exact b_X4_writeStatus_b20 E hr hlk h (lv_sub hl [0, 1] rfl) w
def dl_X4_has : List (Nat × Instr × Nat) := [(0, .aload_n 0, 1), (1, .getfield 25, 3), (4, .lload_n 1, 1), (5, .land, 1), (6, .lconst 0, 1), (7, .lcmp, 1), (8, .ifCond .eq 7, 3), (11, .iconst 1, 1), (12, .goto 4, 3), (15, .iconst 0, 1), (16, .ireturn, 1)]
theorem da_X4_has : dkL cX4_has dl_X4_has = true := by decide +kernel
def f_X4_has (x1 : Int64) (u : St) : Int32 := if ((gL u 4) &&& x1) = (0 : Int64) then (0 : Int32) else (1 : Int32)
set_option maxRecDepth 100000 in
set_option maxHeartbeats 4000000 in
theorem c_X4_has (l : Launch) (D : va_G) (cy : ClassId × ClassId × ClassId) (ad : Nat → Nat) (x1 : Int64) (u : St) : MX (wC cy ad) D cy l yX4_has cX4_has 3 (some .boolean) 0 0 0 [.ref (ad 15), .long x1] u u (some (.int (f_X4_has x1 u))) := by
  refine entX (by decide +kernel) (Nat.le_of_ble_eq_true rfl) ?_
  intro p e s m args below meth c ls rr A E hr hlk hl w
  have hl : lv_has ls 3 [(0, .ref (ad 15)), (1, .long x1)] := hl
  generalize h : f_X4_has x1 u = r
  skip
  have hx := E.1
  have hb := E.2.1
  have hown := E.2.2.2.1
  have hts := E.2.2.2.2
  refine lv_aload_n hx hb (dq da_X4_has 0 rfl) rfl (lv_at hl 0 rfl) ?_
  refine gt_wC_15_status E w w_200 (dq da_X4_has 1 rfl) ?_
  refine lv_lload_n hx hb (dq da_X4_has 2 rfl) rfl (lv_at hl 1 rfl) ?_
  refine lv_land hx hb (dq da_X4_has 3 rfl) ?_
  refine lv_lconst (v := 0) hx hb (dq da_X4_has 4 rfl) rfl ?_
  refine lc_eq (tgt := 15) hx hb (dq da_X4_has 5 rfl) (dq da_X4_has 6 rfl) (by decide) (fun c1 => ?_) (fun c1 => ?_)
  · have h := it c1 h
    refine lv_iconst (v := 0) hx hb (dq da_X4_has 9 rfl) rfl ?_
    exact xret_z E hr hlk rfl w (by decide) h rfl (dq da_X4_has 10 rfl)
  · have h := ie c1 h
    refine lv_iconst (v := 1) hx hb (dq da_X4_has 7 rfl) rfl ?_
    refine lv_goto (tgt := 16) hx hb (dq da_X4_has 8 rfl) (by decide) ?_
    exact xret_z E hr hlk rfl w (by decide) h rfl (dq da_X4_has 10 rfl)
def dl_X4_put : List (Nat × Instr × Nat) := [(0, .aload_n 0, 1), (1, .iload_n 3, 1), (2, .ifCond .eq 12, 3), (5, .aload_n 0, 1), (6, .getfield 25, 3), (9, .lload_n 1, 1), (10, .lor, 1), (11, .goto 13, 3), (14, .aload_n 0, 1), (15, .getfield 25, 3), (18, .lload_n 1, 1), (19, .ldc2_w 108, 3), (22, .lxor, 1), (23, .land, 1), (24, .putfield 25, 3), (27, .return_, 1)]
theorem da_X4_put : dkL cX4_put dl_X4_put = true := by decide +kernel
def f_X4_put_b24 (s0 : Int64) (u : St) : St := (sL u 4 s0)
set_option maxRecDepth 100000 in
set_option maxHeartbeats 4000000 in
theorem b_X4_put_b24 {p : Program} {l : Launch} {e : Env} {s : State} {m : MethodId} {args : Array Value} {below : List Frame} {meth : Method} {c : Code} {D : va_G} {cy : ClassId × ClassId × ClassId} {ad : Nat → Nat} {A : Nat → Prop} (E : CallFix p m c cX4_put 4 s args gw RX4) (hr : meth.sig.returnType = none) (hlk : meth.locks = false) {s0 : Int64} {u : St} {u' : St} (h : f_X4_put_b24 s0 u = u') {ls : Array Slot} {H : Heap} {locs : List Loc} {rr : Nat → Nat} (hl : lv_has ls 4 []) (w : WX (wC cy ad) D cy rr u A s H locs) : Wx (wC cy ad) D p l e 0 0 0 s m args below meth c A u' none H locs 0 24 ls [.long s0, .ref (ad 15)] := by
  have hx := E.1
  have hb := E.2.1
  have hown := E.2.2.2.1
  have hts := E.2.2.2.2
  refine pt_wC_15_status E w w_200 (dq da_X4_put 14 rfl) (fun H locs w => ?_)
  exact xret_v E hr hlk w (by decide) h (dq da_X4_put 15 rfl)
def f_X4_put (x1 : Int64) (x3 : Int32) (u : St) : St := if x3 = (0 : Int32) then (f_X4_put_b24 ((gL u 4) &&& (x1 ^^^ (-1 : Int64))) u) else (f_X4_put_b24 ((gL u 4) ||| x1) u)
set_option maxRecDepth 100000 in
set_option maxHeartbeats 4000000 in
theorem c_X4_put (l : Launch) (D : va_G) (cy : ClassId × ClassId × ClassId) (ad : Nat → Nat) (x1 : Int64) (x3 : Int32) (u : St) : MX (wC cy ad) D cy l yX4_put cX4_put 4 (none) 0 0 0 [.ref (ad 15), .long x1, .int x3] u (f_X4_put x1 x3 u) none := by
  refine entX (by decide +kernel) (Nat.le_of_ble_eq_true rfl) ?_
  intro p e s m args below meth c ls rr A E hr hlk hl w
  have hl : lv_has ls 4 [(0, .ref (ad 15)), (1, .long x1), (3, .int x3)] := hl
  generalize h : f_X4_put x1 x3 u = u'
  skip
  have hx := E.1
  have hb := E.2.1
  have hown := E.2.2.2.1
  have hts := E.2.2.2.2
  refine lv_aload_n hx hb (dq da_X4_put 0 rfl) rfl (lv_at hl 0 rfl) ?_
  refine lv_iload_n hx hb (dq da_X4_put 1 rfl) rfl (lv_at hl 2 rfl) ?_
  refine lv_if_eq (tgt := 14) hx hb (dq da_X4_put 2 rfl) (by decide) (fun c1 => ?_) (fun c1 => ?_)
  · have h := it c1 h
    refine lv_aload_n hx hb (dq da_X4_put 8 rfl) rfl (lv_at hl 0 rfl) ?_
    refine gt_wC_15_status E w w_200 (dq da_X4_put 9 rfl) ?_
    refine lv_lload_n hx hb (dq da_X4_put 10 rfl) rfl (lv_at hl 1 rfl) ?_
    refine lv_ldc2 hx hb hown (hts _ w_605) (dq da_X4_put 11 rfl) ?_
    refine lv_lxor hx hb (dq da_X4_put 12 rfl) ?_
    refine lv_land hx hb (dq da_X4_put 13 rfl) ?_
    exact b_X4_put_b24 E hr hlk h (lv_sub hl [] rfl) w
  · have h := ie c1 h
    refine lv_aload_n hx hb (dq da_X4_put 3 rfl) rfl (lv_at hl 0 rfl) ?_
    refine gt_wC_15_status E w w_200 (dq da_X4_put 4 rfl) ?_
    refine lv_lload_n hx hb (dq da_X4_put 5 rfl) rfl (lv_at hl 1 rfl) ?_
    refine lv_lor hx hb (dq da_X4_put 6 rfl) ?_
    refine lv_goto (tgt := 24) hx hb (dq da_X4_put 7 rfl) (by decide) ?_
    exact b_X4_put_b24 E hr hlk h (lv_sub hl [] rfl) w
def dl_X4_previousPrivilege : List (Nat × Instr × Nat) := [(0, .aload_n 0, 1), (1, .getfield 25, 3), (4, .ldc2_w 100, 3), (7, .land, 1), (8, .bipush 11, 2), (10, .lshr, 1), (11, .l2i, 1), (12, .ireturn, 1)]
theorem da_X4_previousPrivilege : dkL cX4_previousPrivilege dl_X4_previousPrivilege = true := by decide +kernel
def f_X4_previousPrivilege (u : St) : Int32 := (j_lshr ((gL u 4) &&& (6144 : Int64)) (11 : Int32)).toInt32
set_option maxRecDepth 100000 in
set_option maxHeartbeats 4000000 in
theorem c_X4_previousPrivilege (l : Launch) (D : va_G) (cy : ClassId × ClassId × ClassId) (ad : Nat → Nat) (u : St) : MX (wC cy ad) D cy l yX4_previousPrivilege cX4_previousPrivilege 1 (some .int) 0 0 0 [.ref (ad 15)] u u (some (.int (f_X4_previousPrivilege u))) := by
  refine entX (by decide +kernel) (Nat.le_of_ble_eq_true rfl) ?_
  intro p e s m args below meth c ls rr A E hr hlk hl w
  have hl : lv_has ls 1 [(0, .ref (ad 15))] := hl
  generalize h : f_X4_previousPrivilege u = r
  skip
  have hx := E.1
  have hb := E.2.1
  have hown := E.2.2.2.1
  have hts := E.2.2.2.2
  refine lv_aload_n hx hb (dq da_X4_previousPrivilege 0 rfl) rfl (lv_at hl 0 rfl) ?_
  refine gt_wC_15_status E w w_200 (dq da_X4_previousPrivilege 1 rfl) ?_
  refine lv_ldc2 hx hb hown (hts _ w_616) (dq da_X4_previousPrivilege 2 rfl) ?_
  refine lv_land hx hb (dq da_X4_previousPrivilege 3 rfl) ?_
  refine lv_bipush (v := 11) hx hb (dq da_X4_previousPrivilege 4 rfl) rfl ?_
  refine lv_lshr (v := (j_lshr ((gL u 4) &&& (6144 : Int64)) (11 : Int32))) hx hb (dq da_X4_previousPrivilege 5 rfl) rfl ?_
  refine lv_l2i (v := (j_lshr ((gL u 4) &&& (6144 : Int64)) (11 : Int32)).toInt32) hx hb (dq da_X4_previousPrivilege 6 rfl) rfl ?_
  exact xret_i E hr hlk w (by decide) h rfl (dq da_X4_previousPrivilege 7 rfl)
def dl_X4_pages : List (Nat × Instr × Nat) := [(0, .iload_n 1, 1), (1, .iconst 3, 1), (2, .if_icmp .ge 21, 3), (5, .aload_n 0, 1), (6, .getfield 43, 3), (9, .bipush 60, 2), (11, .lushr, 1), (12, .ldc2_w 106, 3), (15, .lcmp, 1), (16, .ifCond .ne 7, 3), (19, .iconst 1, 1), (20, .goto 4, 3), (23, .iconst 0, 1), (24, .ireturn, 1)]
theorem da_X4_pages : dkL cX4_pages dl_X4_pages = true := by decide +kernel
def f_X4_pages_b23 (u : St) : Int32 := (0 : Int32)
set_option maxRecDepth 100000 in
set_option maxHeartbeats 4000000 in
theorem b_X4_pages_b23 {p : Program} {l : Launch} {e : Env} {s : State} {m : MethodId} {args : Array Value} {below : List Frame} {meth : Method} {c : Code} {D : va_G} {cy : ClassId × ClassId × ClassId} {ad : Nat → Nat} {A : Nat → Prop} (E : CallFix p m c cX4_pages 2 s args gw RX4) (hr : meth.sig.returnType = some .boolean) (hlk : meth.locks = false) {u : St} {r : Int32} (h : f_X4_pages_b23 u = r) {ls : Array Slot} {H : Heap} {locs : List Loc} {rr : Nat → Nat} (hl : lv_has ls 2 []) (w : WX (wC cy ad) D cy rr u A s H locs) : Wx (wC cy ad) D p l e 0 0 0 s m args below meth c A u (some (.int r)) H locs 0 23 ls [] := by
  have hx := E.1
  have hb := E.2.1
  have hown := E.2.2.2.1
  have hts := E.2.2.2.2
  refine lv_iconst (v := 0) hx hb (dq da_X4_pages 12 rfl) rfl ?_
  exact xret_z E hr hlk rfl w (by decide) h rfl (dq da_X4_pages 13 rfl)
def f_X4_pages (x1 : Int32) (u : St) : Int32 := if (3 : Int32) ≤ x1 then (f_X4_pages_b23 u) else (if (j_lushr (gL u 9) (60 : Int32)) = (8 : Int64) then (1 : Int32) else (f_X4_pages_b23 u))
set_option maxRecDepth 100000 in
set_option maxHeartbeats 4000000 in
theorem c_X4_pages (l : Launch) (D : va_G) (cy : ClassId × ClassId × ClassId) (ad : Nat → Nat) (x1 : Int32) (u : St) : MX (wC cy ad) D cy l yX4_pages cX4_pages 2 (some .boolean) 0 0 0 [.ref (ad 15), .int x1] u u (some (.int (f_X4_pages x1 u))) := by
  refine entX (by decide +kernel) (Nat.le_of_ble_eq_true rfl) ?_
  intro p e s m args below meth c ls rr A E hr hlk hl w
  have hl : lv_has ls 2 [(0, .ref (ad 15)), (1, .int x1)] := hl
  generalize h : f_X4_pages x1 u = r
  skip
  have hx := E.1
  have hb := E.2.1
  have hown := E.2.2.2.1
  have hts := E.2.2.2.2
  refine lv_iload_n hx hb (dq da_X4_pages 0 rfl) rfl (lv_at hl 1 rfl) ?_
  refine lv_iconst (v := 3) hx hb (dq da_X4_pages 1 rfl) rfl ?_
  refine lv_icmp_ge (tgt := 23) hx hb (dq da_X4_pages 2 rfl) (by decide) (fun c1 => ?_) (fun c1 => ?_)
  · have h := it c1 h
    exact b_X4_pages_b23 E hr hlk h (lv_sub hl [] rfl) w
  · have h := ie c1 h
    refine lv_aload_n hx hb (dq da_X4_pages 3 rfl) rfl (lv_at hl 0 rfl) ?_
    refine gt_wC_15_satp E w w_210 (dq da_X4_pages 4 rfl) ?_
    refine lv_bipush (v := 60) hx hb (dq da_X4_pages 5 rfl) rfl ?_
    refine lv_lushr (v := (j_lushr (gL u 9) (60 : Int32))) hx hb (dq da_X4_pages 6 rfl) rfl ?_
    refine lv_ldc2 hx hb hown (hts _ w_611) (dq da_X4_pages 7 rfl) ?_
    refine lc_ne (tgt := 23) hx hb (dq da_X4_pages 8 rfl) (dq da_X4_pages 9 rfl) (by decide) (fun c2 => ?_) (fun c2 => ?_)
    · have h := ie c2 h
      exact b_X4_pages_b23 E hr hlk h (lv_sub hl [] rfl) w
    · have h := it c2 h
      refine lv_iconst (v := 1) hx hb (dq da_X4_pages 10 rfl) rfl ?_
      refine lv_goto (tgt := 24) hx hb (dq da_X4_pages 11 rfl) (by decide) ?_
      exact xret_z E hr hlk rfl w (by decide) h rfl (dq da_X4_pages 13 rfl)
def dl_X4_counterIsOpen : List (Nat × Instr × Nat) := [(0, .iload_n 3, 1), (1, .iconst 3, 1), (2, .if_icmp .ne 5, 3), (5, .iconst 1, 1), (6, .ireturn, 1), (7, .aload_n 0, 1), (8, .getfield 14, 3), (11, .getfield 145, 3), (14, .lload_n 1, 1), (15, .land, 1), (16, .lconst 0, 1), (17, .lcmp, 1), (18, .ifCond .eq 7, 3), (21, .iconst 1, 1), (22, .goto 4, 3), (25, .iconst 0, 1), (26, .istore 4, 2), (28, .iload 4, 2), (30, .ifCond .eq 26, 3), (33, .iload_n 3, 1), (34, .iconst 1, 1), (35, .if_icmp .eq 17, 3), (38, .aload_n 0, 1), (39, .getfield 18, 3), (42, .getfield 145, 3), (45, .lload_n 1, 1), (46, .land, 1), (47, .lconst 0, 1), (48, .lcmp, 1), (49, .ifCond .eq 7, 3), (52, .iconst 1, 1), (53, .goto 4, 3), (56, .iconst 0, 1), (57, .ireturn, 1)]
theorem da_X4_counterIsOpen : dkL cX4_counterIsOpen dl_X4_counterIsOpen = true := by decide +kernel
def f_X4_counterIsOpen_b56 (u : St) : Int32 := (0 : Int32)
set_option maxRecDepth 100000 in
set_option maxHeartbeats 4000000 in
theorem b_X4_counterIsOpen_b56 {p : Program} {l : Launch} {e : Env} {s : State} {m : MethodId} {args : Array Value} {below : List Frame} {meth : Method} {c : Code} {D : va_G} {cy : ClassId × ClassId × ClassId} {ad : Nat → Nat} {A : Nat → Prop} (E : CallFix p m c cX4_counterIsOpen 5 s args gw RX4) (hr : meth.sig.returnType = some .boolean) (hlk : meth.locks = false) {u : St} {r : Int32} (h : f_X4_counterIsOpen_b56 u = r) {ls : Array Slot} {H : Heap} {locs : List Loc} {rr : Nat → Nat} (hl : lv_has ls 5 []) (w : WX (wC cy ad) D cy rr u A s H locs) : Wx (wC cy ad) D p l e 0 0 0 s m args below meth c A u (some (.int r)) H locs 0 56 ls [] := by
  have hx := E.1
  have hb := E.2.1
  have hown := E.2.2.2.1
  have hts := E.2.2.2.2
  refine lv_iconst (v := 0) hx hb (dq da_X4_counterIsOpen 32 rfl) rfl ?_
  exact xret_z E hr hlk rfl w (by decide) h rfl (dq da_X4_counterIsOpen 33 rfl)
def f_X4_counterIsOpen_b52 (u : St) : Int32 := (1 : Int32)
set_option maxRecDepth 100000 in
set_option maxHeartbeats 4000000 in
theorem b_X4_counterIsOpen_b52 {p : Program} {l : Launch} {e : Env} {s : State} {m : MethodId} {args : Array Value} {below : List Frame} {meth : Method} {c : Code} {D : va_G} {cy : ClassId × ClassId × ClassId} {ad : Nat → Nat} {A : Nat → Prop} (E : CallFix p m c cX4_counterIsOpen 5 s args gw RX4) (hr : meth.sig.returnType = some .boolean) (hlk : meth.locks = false) {u : St} {r : Int32} (h : f_X4_counterIsOpen_b52 u = r) {ls : Array Slot} {H : Heap} {locs : List Loc} {rr : Nat → Nat} (hl : lv_has ls 5 []) (w : WX (wC cy ad) D cy rr u A s H locs) : Wx (wC cy ad) D p l e 0 0 0 s m args below meth c A u (some (.int r)) H locs 0 52 ls [] := by
  have hx := E.1
  have hb := E.2.1
  have hown := E.2.2.2.1
  have hts := E.2.2.2.2
  refine lv_iconst (v := 1) hx hb (dq da_X4_counterIsOpen 30 rfl) rfl ?_
  refine lv_goto (tgt := 57) hx hb (dq da_X4_counterIsOpen 31 rfl) (by decide) ?_
  exact xret_z E hr hlk rfl w (by decide) h rfl (dq da_X4_counterIsOpen 33 rfl)
def f_X4_counterIsOpen_b26 (x1 : Int64) (x3 : Int32) (s0 : Int32) (u : St) : Int32 := if s0 = (0 : Int32) then (f_X4_counterIsOpen_b56 u) else (if x3 = (1 : Int32) then (f_X4_counterIsOpen_b52 u) else (if ((gL u 19) &&& x1) = (0 : Int64) then (f_X4_counterIsOpen_b56 u) else (f_X4_counterIsOpen_b52 u)))
set_option maxRecDepth 100000 in
set_option maxHeartbeats 4000000 in
theorem b_X4_counterIsOpen_b26 {p : Program} {l : Launch} {e : Env} {s : State} {m : MethodId} {args : Array Value} {below : List Frame} {meth : Method} {c : Code} {D : va_G} {cy : ClassId × ClassId × ClassId} {ad : Nat → Nat} {A : Nat → Prop} (E : CallFix p m c cX4_counterIsOpen 5 s args gw RX4) (hr : meth.sig.returnType = some .boolean) (hlk : meth.locks = false) {x1 : Int64} {x3 : Int32} {s0 : Int32} {u : St} {r : Int32} (h : f_X4_counterIsOpen_b26 x1 x3 s0 u = r) {ls : Array Slot} {H : Heap} {locs : List Loc} {rr : Nat → Nat} (hl : lv_has ls 5 [(0, .ref (ad 15)), (1, .long x1), (3, .int x3)]) (w : WX (wC cy ad) D cy rr u A s H locs) : Wx (wC cy ad) D p l e 0 0 0 s m args below meth c A u (some (.int r)) H locs 0 26 ls [.int s0] := by
  have hx := E.1
  have hb := E.2.1
  have hown := E.2.2.2.1
  have hts := E.2.2.2.2
  refine lv_istore (lv' := [(4, .int s0), (0, .ref (ad 15)), (1, .long x1), (3, .int x3)]) hx hb (dq da_X4_counterIsOpen 16 rfl) hl (by decide) rfl (fun ls hl => ?_)
  refine lv_iload hx hb (dq da_X4_counterIsOpen 17 rfl) (lv_at hl 0 rfl) ?_
  refine lv_if_eq (tgt := 56) hx hb (dq da_X4_counterIsOpen 18 rfl) (by decide) (fun c3 => ?_) (fun c3 => ?_)
  · have h := it c3 h
    exact b_X4_counterIsOpen_b56 E hr hlk h (lv_sub hl [] rfl) w
  · have h := ie c3 h
    refine lv_iload_n hx hb (dq da_X4_counterIsOpen 19 rfl) rfl (lv_at hl 3 rfl) ?_
    refine lv_iconst (v := 1) hx hb (dq da_X4_counterIsOpen 20 rfl) rfl ?_
    refine lv_icmp_eq (tgt := 52) hx hb (dq da_X4_counterIsOpen 21 rfl) (by decide) (fun c4 => ?_) (fun c4 => ?_)
    · have h := it c4 h
      exact b_X4_counterIsOpen_b52 E hr hlk h (lv_sub hl [] rfl) w
    · have h := ie c4 h
      refine lv_aload_n hx hb (dq da_X4_counterIsOpen 22 rfl) rfl (lv_at hl 1 rfl) ?_
      refine gt_wC_15_supervisor E w w_198 (dq da_X4_counterIsOpen 23 rfl) ?_
      refine gtN_wC_17_counters E w n_17 (dq da_X4_counterIsOpen 24 rfl) ?_
      refine lv_lload_n hx hb (dq da_X4_counterIsOpen 25 rfl) rfl (lv_at hl 2 rfl) ?_
      refine lv_land hx hb (dq da_X4_counterIsOpen 26 rfl) ?_
      refine lv_lconst (v := 0) hx hb (dq da_X4_counterIsOpen 27 rfl) rfl ?_
      refine lc_eq (tgt := 56) hx hb (dq da_X4_counterIsOpen 28 rfl) (dq da_X4_counterIsOpen 29 rfl) (by decide) (fun c5 => ?_) (fun c5 => ?_)
      · have h := it c5 h
        exact b_X4_counterIsOpen_b56 E hr hlk h (lv_sub hl [] rfl) w
      · have h := ie c5 h
        exact b_X4_counterIsOpen_b52 E hr hlk h (lv_sub hl [] rfl) w
def f_X4_counterIsOpen (x1 : Int64) (x3 : Int32) (u : St) : Int32 := if x3 = (3 : Int32) then (1 : Int32) else (if ((gL u 13) &&& x1) = (0 : Int64) then (f_X4_counterIsOpen_b26 x1 x3 (0 : Int32) u) else (f_X4_counterIsOpen_b26 x1 x3 (1 : Int32) u))
set_option maxRecDepth 100000 in
set_option maxHeartbeats 4000000 in
theorem c_X4_counterIsOpen (l : Launch) (D : va_G) (cy : ClassId × ClassId × ClassId) (ad : Nat → Nat) (x1 : Int64) (x3 : Int32) (u : St) : MX (wC cy ad) D cy l yX4_counterIsOpen cX4_counterIsOpen 5 (some .boolean) 0 0 0 [.ref (ad 15), .long x1, .int x3] u u (some (.int (f_X4_counterIsOpen x1 x3 u))) := by
  refine entX (by decide +kernel) (Nat.le_of_ble_eq_true rfl) ?_
  intro p e s m args below meth c ls rr A E hr hlk hl w
  have hl : lv_has ls 5 [(0, .ref (ad 15)), (1, .long x1), (3, .int x3)] := hl
  generalize h : f_X4_counterIsOpen x1 x3 u = r
  skip
  have hx := E.1
  have hb := E.2.1
  have hown := E.2.2.2.1
  have hts := E.2.2.2.2
  refine lv_iload_n hx hb (dq da_X4_counterIsOpen 0 rfl) rfl (lv_at hl 2 rfl) ?_
  refine lv_iconst (v := 3) hx hb (dq da_X4_counterIsOpen 1 rfl) rfl ?_
  refine lv_icmp_ne (tgt := 7) hx hb (dq da_X4_counterIsOpen 2 rfl) (by decide) (fun c1 => ?_) (fun c1 => ?_)
  · have h := ie c1 h
    refine lv_aload_n hx hb (dq da_X4_counterIsOpen 5 rfl) rfl (lv_at hl 0 rfl) ?_
    refine gt_wC_15_machine E w w_196 (dq da_X4_counterIsOpen 6 rfl) ?_
    refine gtN_wC_16_counters E w n_17 (dq da_X4_counterIsOpen 7 rfl) ?_
    refine lv_lload_n hx hb (dq da_X4_counterIsOpen 8 rfl) rfl (lv_at hl 1 rfl) ?_
    refine lv_land hx hb (dq da_X4_counterIsOpen 9 rfl) ?_
    refine lv_lconst (v := 0) hx hb (dq da_X4_counterIsOpen 10 rfl) rfl ?_
    refine lc_eq (tgt := 25) hx hb (dq da_X4_counterIsOpen 11 rfl) (dq da_X4_counterIsOpen 12 rfl) (by decide) (fun c2 => ?_) (fun c2 => ?_)
    · have h := it c2 h
      refine lv_iconst (v := 0) hx hb (dq da_X4_counterIsOpen 15 rfl) rfl ?_
      exact b_X4_counterIsOpen_b26 E hr hlk h (lv_sub hl [0, 1, 2] rfl) w
    · have h := ie c2 h
      refine lv_iconst (v := 1) hx hb (dq da_X4_counterIsOpen 13 rfl) rfl ?_
      refine lv_goto (tgt := 26) hx hb (dq da_X4_counterIsOpen 14 rfl) (by decide) ?_
      exact b_X4_counterIsOpen_b26 E hr hlk h (lv_sub hl [0, 1, 2] rfl) w
  · have h := it c1 h
    refine lv_iconst (v := 1) hx hb (dq da_X4_counterIsOpen 3 rfl) rfl ?_
    exact xret_z E hr hlk rfl w (by decide) h rfl (dq da_X4_counterIsOpen 4 rfl)

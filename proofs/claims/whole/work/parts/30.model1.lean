theorem w_1088 : Cond.fieldLink RX12 62 "HartBoardModel" "thrown" "I" ∈ gw := gw_t5 128 rfl rfl
theorem w_1137 : Cond.fieldLink RX12 70 "HartBoardModel" "faultValue" "J" ∈ gw := gw_t5 177 rfl rfl
theorem w_1140 : Cond.fieldLink RX12 374 "HartBoardModel" "told" "J" ∈ gw := gw_t5 180 rfl rfl
theorem w_1454 : Cond.methodLink RX12 216 yX12_fail ∈ gw := gw_t7 14 rfl rfl
theorem w_1456 : Cond.instanceMethod yX12_fail ∈ gw := gw_t7 16 rfl rfl
theorem w_p63 : Cond.selects RX12 yX12_fail yX12_fail ∈ gw := gw_p 63 rfl rfl
theorem w_1457 : Cond.code yX12_fail cX12_fail 4 (none) ∈ gw := gw_t7 17 rfl rfl
theorem w_1113 : Cond.fieldLink RX12 67 "HartBoardModel" "status" "J" ∈ gw := gw_t5 153 rfl rfl
theorem w_1264 : Cond.constantLong RX12 75 (255) ∈ gw := gw_t6 64 rfl rfl
theorem w_1100 : Cond.fieldLink RX12 77 "HartBoardModel" "pending" "I" ∈ gw := gw_t5 140 rfl rfl
theorem w_1101 : Cond.fieldLink RX12 80 "HartBoardModel" "claimed" "I" ∈ gw := gw_t5 141 rfl rfl
theorem w_1286 : Cond.methodLink RX12 103 yX12_isRam ∈ gw := gw_t6 86 rfl rfl
theorem w_1288 : Cond.instanceMethod yX12_isRam ∈ gw := gw_t6 88 rfl rfl
theorem w_p44 : Cond.selects RX12 yX12_isRam yX12_isRam ∈ gw := gw_p 44 rfl rfl
theorem w_1289 : Cond.code yX12_isRam cX12_isRam 6 (some .boolean) ∈ gw := gw_t6 89 rfl rfl
theorem w_1543 : Cond.constantLong RX12 107 (33554432) ∈ gw := gw_t7 103 rfl rfl
theorem w_1544 : Cond.constantLong RX12 109 (16384) ∈ gw := gw_t7 104 rfl rfl
theorem w_1545 : Cond.constantLong RX12 111 (16392) ∈ gw := gw_t7 105 rfl rfl
theorem w_1546 : Cond.constantLong RX12 113 (49144) ∈ gw := gw_t7 106 rfl rfl
theorem w_1547 : Cond.constantLong RX12 115 (49152) ∈ gw := gw_t7 107 rfl rfl
theorem w_1560 : Cond.constantLong RX12 125 (268435456) ∈ gw := gw_t7 120 rfl rfl
theorem w_1393 : Cond.constantLong RX12 127 (7) ∈ gw := gw_t6 193 rfl rfl
theorem w_1548 : Cond.constantLong RX12 117 (201326592) ∈ gw := gw_t7 108 rfl rfl
theorem w_1549 : Cond.methodLink RX12 119 yX12_placeOf ∈ gw := gw_t7 109 rfl rfl
theorem w_1550 : Cond.static yX12_placeOf ∈ gw := gw_t7 110 rfl rfl
theorem w_1551 : Cond.code yX12_placeOf cX12_placeOf 2 (some .int) ∈ gw := gw_t7 111 rfl rfl
theorem w_1559 : Cond.constantLong RX12 123 (4194304) ∈ gw := gw_t7 119 rfl rfl
theorem w_1109 : Cond.fieldLink RX12 154 "HartBoardModel" "inputLeft" "I" ∈ gw := gw_t5 149 rfl rfl
theorem w_1108 : Cond.fieldLink RX12 161 "HartBoardModel" "inputFrom" "I" ∈ gw := gw_t5 148 rfl rfl
theorem w_1570 : Cond.constantLong RX12 159 (96) ∈ gw := gw_t7 130 rfl rfl
theorem w_1569 : Cond.constantLong RX12 157 (97) ∈ gw := gw_t7 129 rfl rfl
theorem w_1112 : Cond.fieldLink RX12 151 "HartBoardModel" "lineEnable" "I" ∈ gw := gw_t5 152 rfl rfl
theorem w_1571 : Cond.constantLong RX12 140 (16391) ∈ gw := gw_t7 131 rfl rfl
theorem w_1572 : Cond.constantLong RX12 142 (49151) ∈ gw := gw_t7 132 rfl rfl
theorem w_1573 : Cond.methodLink RX12 147 yX12_claim ∈ gw := gw_t7 133 rfl rfl
theorem w_1575 : Cond.instanceMethod yX12_claim ∈ gw := gw_t7 135 rfl rfl
theorem w_p73 : Cond.selects RX12 yX12_claim yX12_claim ∈ gw := gw_p 73 rfl rfl
theorem w_1576 : Cond.code yX12_claim cX12_claim 4 (some .int) ∈ gw := gw_t7 136 rfl rfl
theorem w_1098 : Cond.fieldLink RX12 144 "HartBoardModel" "time" "J" ∈ gw := gw_t5 138 rfl rfl
theorem w_1096 : Cond.fieldLink RX12 137 "HartBoardModel" "soft" "I" ∈ gw := gw_t5 136 rfl rfl
theorem w_1565 : Cond.methodLink RX12 133 yX12_lineAt ∈ gw := gw_t7 125 rfl rfl
theorem w_1567 : Cond.instanceMethod yX12_lineAt ∈ gw := gw_t7 127 rfl rfl
theorem w_p72 : Cond.selects RX12 yX12_lineAt yX12_lineAt ∈ gw := gw_p 72 rfl rfl
theorem w_1568 : Cond.code yX12_lineAt cX12_lineAt 4 (some .long) ∈ gw := gw_t7 128 rfl rfl
theorem w_1322 : Cond.methodLink RX12 129 yX12_ramAt ∈ gw := gw_t6 122 rfl rfl
theorem w_1324 : Cond.instanceMethod yX12_ramAt ∈ gw := gw_t6 124 rfl rfl
theorem w_p48 : Cond.selects RX12 yX12_ramAt yX12_ramAt ∈ gw := gw_p 48 rfl rfl
theorem w_1325 : Cond.code yX12_ramAt cX12_ramAt 7 (some .long) ∈ gw := gw_t6 125 rfl rfl
theorem w_1593 : Cond.constantLong RX12 187 (254) ∈ gw := gw_t7 153 rfl rfl
theorem w_1589 : Cond.methodLink RX12 183 yX12_places ∈ gw := gw_t7 149 rfl rfl
theorem w_1591 : Cond.instanceMethod yX12_places ∈ gw := gw_t7 151 rfl rfl
theorem w_p76 : Cond.selects RX12 yX12_places yX12_places ∈ gw := gw_p 76 rfl rfl
theorem w_1592 : Cond.code yX12_places cX12_places 4 (none) ∈ gw := gw_t7 152 rfl rfl
theorem w_1585 : Cond.methodLink RX12 179 yX12_mix ∈ gw := gw_t7 145 rfl rfl
theorem w_1586 : Cond.static yX12_mix ∈ gw := gw_t7 146 rfl rfl
theorem w_1587 : Cond.code yX12_mix cX12_mix 8 (some .long) ∈ gw := gw_t7 147 rfl rfl
theorem w_1111 : Cond.fieldLink RX12 176 "HartBoardModel" "sent" "I" ∈ gw := gw_t5 151 rfl rfl
theorem w_1314 : Cond.methodLink RX12 166 yX12_setRam ∈ gw := gw_t6 114 rfl rfl
theorem w_1316 : Cond.instanceMethod yX12_setRam ∈ gw := gw_t6 116 rfl rfl
theorem w_p47 : Cond.selects RX12 yX12_setRam yX12_setRam ∈ gw := gw_p 47 rfl rfl
theorem w_1317 : Cond.code yX12_setRam cX12_setRam 7 (none) ∈ gw := gw_t6 117 rfl rfl
theorem w_1095 : Cond.fieldLink RX12 170 "HartBoardModel" "heldSize" "I" ∈ gw := gw_t5 135 rfl rfl
theorem w_1094 : Cond.fieldLink RX12 173 "HartBoardModel" "held" "J" ∈ gw := gw_t5 134 rfl rfl
theorem w_1104 : Cond.fieldLink RX12 189 "HartBoardModel" "levels" "I" ∈ gw := gw_t5 144 rfl rfl
theorem w_1132 : Cond.fieldLink RX12 200 "HartBoardModel" "satp" "J" ∈ gw := gw_t5 172 rfl rfl
theorem w_1443 : Cond.methodLink RX12 208 yX12_pageFault ∈ gw := gw_t7 3 rfl rfl
theorem w_1444 : Cond.static yX12_pageFault ∈ gw := gw_t7 4 rfl rfl
theorem w_1445 : Cond.code yX12_pageFault cX12_pageFault 1 (some .int) ∈ gw := gw_t7 5 rfl rfl
theorem w_1414 : Cond.methodLink RX12 192 yX12_is ∈ gw := gw_t6 214 rfl rfl
theorem w_1416 : Cond.instanceMethod yX12_is ∈ gw := gw_t6 216 rfl rfl
theorem w_p56 : Cond.selects RX12 yX12_is yX12_is ∈ gw := gw_p 56 rfl rfl
theorem w_1417 : Cond.code yX12_is cX12_is 2 (some .boolean) ∈ gw := gw_t6 217 rfl rfl
theorem w_1449 : Cond.constantLong RX12 214 (208) ∈ gw := gw_t7 9 rfl rfl
theorem w_1446 : Cond.methodLink RX12 211 yX12_accessFault ∈ gw := gw_t7 6 rfl rfl
theorem w_1447 : Cond.static yX12_accessFault ∈ gw := gw_t7 7 rfl rfl
theorem w_1448 : Cond.code yX12_accessFault cX12_accessFault 1 (some .int) ∈ gw := gw_t7 8 rfl rfl
theorem w_1436 : Cond.methodLink RX12 219 yX12_translated ∈ gw := gw_t6 236 rfl rfl
theorem w_1438 : Cond.instanceMethod yX12_translated ∈ gw := gw_t6 238 rfl rfl
theorem w_p61 : Cond.selects RX12 yX12_translated yX12_translated ∈ gw := gw_p 61 rfl rfl
theorem w_1439 : Cond.code yX12_translated cX12_translated 19 (some .long) ∈ gw := gw_t6 239 rfl rfl
theorem w_1450 : Cond.methodLink RX12 222 yX12_translates ∈ gw := gw_t7 10 rfl rfl
theorem w_1452 : Cond.instanceMethod yX12_translates ∈ gw := gw_t7 12 rfl rfl
theorem w_p62 : Cond.selects RX12 yX12_translates yX12_translates ∈ gw := gw_p 62 rfl rfl
theorem w_1453 : Cond.code yX12_translates cX12_translates 3 (some .boolean) ∈ gw := gw_t7 13 rfl rfl
theorem w_1539 : Cond.methodLink RX12 225 yX12_isThere ∈ gw := gw_t7 99 rfl rfl
theorem w_1541 : Cond.instanceMethod yX12_isThere ∈ gw := gw_t7 101 rfl rfl
theorem w_p70 : Cond.selects RX12 yX12_isThere yX12_isThere ∈ gw := gw_p 70 rfl rfl
theorem w_1542 : Cond.code yX12_isThere cX12_isThere 6 (some .boolean) ∈ gw := gw_t7 102 rfl rfl
theorem w_1123 : Cond.fieldLink RX12 228 "HartBoardModel" "waiting" "J" ∈ gw := gw_t5 163 rfl rfl
theorem w_1362 : Cond.constantLong RX12 235 (128) ∈ gw := gw_t6 162 rfl rfl
theorem w_1363 : Cond.methodLink RX12 237 yX12_asks ∈ gw := gw_t6 163 rfl rfl
theorem w_1365 : Cond.instanceMethod yX12_asks ∈ gw := gw_t6 165 rfl rfl
theorem w_p51 : Cond.selects RX12 yX12_asks yX12_asks ∈ gw := gw_p 51 rfl rfl
theorem w_1366 : Cond.code yX12_asks cX12_asks 4 (some .boolean) ∈ gw := gw_t6 166 rfl rfl
theorem w_1368 : Cond.constantLong RX12 242 (512) ∈ gw := gw_t6 168 rfl rfl
theorem w_1367 : Cond.constantLong RX12 240 (2048) ∈ gw := gw_t6 167 rfl rfl
def dl_X12_fails : List (Nat × Instr × Nat) := [(0, .aload_n 0, 1), (1, .iload_n 1, 1), (2, .ifCond .eq 7, 3), (5, .iload_n 2, 1), (6, .goto 4, 3), (9, .iconst 0, 1), (10, .putfield 62, 3), (13, .iload_n 1, 1), (14, .ireturn, 1)]
theorem da_X12_fails : dkL cX12_fails dl_X12_fails = true := by decide +kernel
def f_X12_fails_b10 (x1 : Int32) (s0 : Int32) (u : St) : Option (Int32 × St) := if x1 &&& 1 = x1 then some (x1, (sI u 0 s0)) else none
set_option maxRecDepth 100000 in
set_option maxHeartbeats 4000000 in
theorem b_X12_fails_b10 {p : Program} {l : Launch} {e : Env} {s : State} {m : MethodId} {args : Array Value} {below : List Frame} {meth : Method} {c : Code} {D : va_G} {cy : ClassId × ClassId × ClassId} {ad : Nat → Nat} {A : Nat → Prop} (E : CallFix p m c cX12_fails 3 s args gw RX12) (hr : meth.sig.returnType = some .boolean) (hlk : meth.locks = false) {x1 : Int32} {s0 : Int32} {u : St} {r : Int32} {u' : St} (h : f_X12_fails_b10 x1 s0 u = some (r, u')) {ls : Array Slot} {H : Heap} {locs : List Loc} {rr : Nat → Nat} (hl : lv_has ls 3 [(1, .int x1)]) (w : WX (wM cy ad) D cy rr u A s H locs) : Wx (wM cy ad) D p l e 0 0 0 s m args below meth c A u' (some (.int r)) H locs 0 10 ls [.int s0, .ref (ad 0)] := by
  have hx := E.1
  have hb := E.2.1
  have hown := E.2.2.2.1
  have hts := E.2.2.2.2
  refine pt_wM_0_thrown E w w_1088 (dq da_X12_fails 6 rfl) (fun H locs w => ?_)
  refine lv_iload_n hx hb (dq da_X12_fails 7 rfl) rfl (lv_at hl 0 rfl) ?_
  obtain ⟨hz2, h⟩ := oi h
  exact xret_z E hr hlk (by show Value.int _ = _; rw [hz2]) w (by decide) (congrArg Prod.fst (os h)) (congrArg Prod.snd (os h)) (dq da_X12_fails 8 rfl)
def f_X12_fails (x1 : Int32) (x2 : Int32) (u : St) : Option (Int32 × St) := if x1 = (0 : Int32) then (f_X12_fails_b10 x1 (0 : Int32) u) else (f_X12_fails_b10 x1 x2 u)
set_option maxRecDepth 100000 in
set_option maxHeartbeats 4000000 in
theorem c_X12_fails (l : Launch) (D : va_G) (cy : ClassId × ClassId × ClassId) (ad : Nat → Nat) (x1 : Int32) (x2 : Int32) (u : St) {r : Int32} {u' : St} (h : f_X12_fails x1 x2 u = some (r, u')) : MX (wM cy ad) D cy l yX12_fails cX12_fails 3 (some .boolean) 0 0 0 [.ref (ad 0), .int x1, .int x2] u u' (some (.int (r))) := by
  refine entX (by decide +kernel) (Nat.le_of_ble_eq_true rfl) ?_
  intro p e s m args below meth c ls rr A E hr hlk hl w
  have hl : lv_has ls 3 [(0, .ref (ad 0)), (1, .int x1), (2, .int x2)] := hl
  have hx := E.1
  have hb := E.2.1
  have hown := E.2.2.2.1
  have hts := E.2.2.2.2
  refine lv_aload_n hx hb (dq da_X12_fails 0 rfl) rfl (lv_at hl 0 rfl) ?_
  refine lv_iload_n hx hb (dq da_X12_fails 1 rfl) rfl (lv_at hl 1 rfl) ?_
  refine lv_if_eq (tgt := 9) hx hb (dq da_X12_fails 2 rfl) (by decide) (fun c1 => ?_) (fun c1 => ?_)
  · have h := it c1 h
    refine lv_iconst (v := 0) hx hb (dq da_X12_fails 5 rfl) rfl ?_
    exact b_X12_fails_b10 E hr hlk h (lv_sub hl [1] rfl) w
  · have h := ie c1 h
    refine lv_iload_n hx hb (dq da_X12_fails 3 rfl) rfl (lv_at hl 2 rfl) ?_
    refine lv_goto (tgt := 10) hx hb (dq da_X12_fails 4 rfl) (by decide) ?_
    exact b_X12_fails_b10 E hr hlk h (lv_sub hl [1] rfl) w
def dl_X12_fail : List (Nat × Instr × Nat) := [(0, .aload_n 0, 1), (1, .iload_n 1, 1), (2, .putfield 56, 3), (5, .aload_n 0, 1), (6, .lload_n 2, 1), (7, .putfield 70, 3), (10, .return_, 1)]
theorem da_X12_fail : dkL cX12_fail dl_X12_fail = true := by decide +kernel
def f_X12_fail (x1 : Int32) (x2 : Int64) (u : St) : St := (sL (sI u 16 x1) 24 x2)
set_option maxRecDepth 100000 in
set_option maxHeartbeats 4000000 in
theorem c_X12_fail (l : Launch) (D : va_G) (cy : ClassId × ClassId × ClassId) (ad : Nat → Nat) (x1 : Int32) (x2 : Int64) (u : St) : MX (wM cy ad) D cy l yX12_fail cX12_fail 4 (none) 0 0 0 [.ref (ad 0), .int x1, .long x2] u (f_X12_fail x1 x2 u) none := by
  refine entX (by decide +kernel) (Nat.le_of_ble_eq_true rfl) ?_
  intro p e s m args below meth c ls rr A E hr hlk hl w
  have hl : lv_has ls 4 [(0, .ref (ad 0)), (1, .int x1), (2, .long x2)] := hl
  generalize h : f_X12_fail x1 x2 u = u'
  have hx := E.1
  have hb := E.2.1
  have hown := E.2.2.2.1
  have hts := E.2.2.2.2
  refine lv_aload_n hx hb (dq da_X12_fail 0 rfl) rfl (lv_at hl 0 rfl) ?_
  refine lv_iload_n hx hb (dq da_X12_fail 1 rfl) rfl (lv_at hl 1 rfl) ?_
  refine pt_wM_0_fault E w w_1136 (dq da_X12_fail 2 rfl) (fun H locs w => ?_)
  refine lv_aload_n hx hb (dq da_X12_fail 3 rfl) rfl (lv_at hl 0 rfl) ?_
  refine lv_lload_n hx hb (dq da_X12_fail 4 rfl) rfl (lv_at hl 2 rfl) ?_
  refine pt_wM_0_faultValue E w w_1137 (dq da_X12_fail 5 rfl) (fun H locs w => ?_)
  exact xret_v E hr hlk w (by decide) h (dq da_X12_fail 6 rfl)
def dl_X12_illegal : List (Nat × Instr × Nat) := [(0, .aload_n 0, 1), (1, .iconst 2, 1), (2, .aload_n 0, 1), (3, .getfield 374, 3), (6, .invokevirtual 216, 3), (9, .return_, 1)]
theorem da_X12_illegal : dkL cX12_illegal dl_X12_illegal = true := by decide +kernel
def f_X12_illegal (u : St) : St := (f_X12_fail (2 : Int32) (gL u 26) u)
set_option maxRecDepth 100000 in
set_option maxHeartbeats 4000000 in
theorem c_X12_illegal (l : Launch) (D : va_G) (cy : ClassId × ClassId × ClassId) (ad : Nat → Nat) (u : St) : MX (wM cy ad) D cy l yX12_illegal cX12_illegal 1 (none) 1 23 0 [.ref (ad 0)] u (f_X12_illegal u) none := by
  refine entX (by decide +kernel) (Nat.le_of_ble_eq_true rfl) ?_
  intro p e s m args below meth c ls rr A E hr hlk hl w
  have hl : lv_has ls 1 [(0, .ref (ad 0))] := hl
  generalize h : f_X12_illegal u = u'
  have hx := E.1
  have hb := E.2.1
  have hown := E.2.2.2.1
  have hts := E.2.2.2.2
  refine lv_aload_n hx hb (dq da_X12_illegal 0 rfl) rfl (lv_at hl 0 rfl) ?_
  refine lv_iconst (v := 2) hx hb (dq da_X12_illegal 1 rfl) rfl ?_
  refine lv_aload_n hx hb (dq da_X12_illegal 2 rfl) rfl (lv_at hl 0 rfl) ?_
  refine gt_wM_0_told E w w_1140 (dq da_X12_illegal 3 rfl) ?_
  refine cV0 E (c_X12_fail l D cy ad _ _ _ ) w_1454 w_1456 w_p63 w_10 w_1457 rfl hd_X12_fail rfl hl.1 rfl (Nat.le_of_ble_eq_true rfl) ⟨Nat.le_of_ble_eq_true rfl, Nat.le_of_ble_eq_true rfl⟩ (by decide) w (rc_wM_0 w) (dq da_X12_illegal 4 rfl) (fun H locs rr w => ?_)
  exact xret_v E hr hlk w (by decide) h (dq da_X12_illegal 5 rfl)
def dl_X12_is : List (Nat × Instr × Nat) := [(0, .aload_n 0, 1), (1, .getfield 67, 3), (4, .iload_n 1, 1), (5, .lshr, 1), (6, .lconst 1, 1), (7, .land, 1), (8, .lconst 1, 1), (9, .lcmp, 1), (10, .ifCond .ne 7, 3), (13, .iconst 1, 1), (14, .goto 4, 3), (17, .iconst 0, 1), (18, .ireturn, 1)]
theorem da_X12_is : dkL cX12_is dl_X12_is = true := by decide +kernel
def f_X12_is (x1 : Int32) (u : St) : Int32 := if ((j_lshr (gL u 4) x1) &&& (1 : Int64)) = (1 : Int64) then (1 : Int32) else (0 : Int32)
set_option maxRecDepth 100000 in
set_option maxHeartbeats 4000000 in
theorem c_X12_is (l : Launch) (D : va_G) (cy : ClassId × ClassId × ClassId) (ad : Nat → Nat) (x1 : Int32) (u : St) : MX (wM cy ad) D cy l yX12_is cX12_is 2 (some .boolean) 0 0 0 [.ref (ad 0), .int x1] u u (some (.int (f_X12_is x1 u))) := by
  refine entX (by decide +kernel) (Nat.le_of_ble_eq_true rfl) ?_
  intro p e s m args below meth c ls rr A E hr hlk hl w
  have hl : lv_has ls 2 [(0, .ref (ad 0)), (1, .int x1)] := hl
  generalize h : f_X12_is x1 u = r
  have hx := E.1
  have hb := E.2.1
  have hown := E.2.2.2.1
  have hts := E.2.2.2.2
  refine lv_aload_n hx hb (dq da_X12_is 0 rfl) rfl (lv_at hl 0 rfl) ?_
  refine gt_wM_0_status E w w_1113 (dq da_X12_is 1 rfl) ?_
  refine lv_iload_n hx hb (dq da_X12_is 2 rfl) rfl (lv_at hl 1 rfl) ?_
  refine lv_lshr (v := (j_lshr (gL u 4) x1)) hx hb (dq da_X12_is 3 rfl) rfl ?_
  refine lv_lconst (v := 1) hx hb (dq da_X12_is 4 rfl) rfl ?_
  refine lv_land hx hb (dq da_X12_is 5 rfl) ?_
  refine lv_lconst (v := 1) hx hb (dq da_X12_is 6 rfl) rfl ?_
  refine lc_ne (tgt := 17) hx hb (dq da_X12_is 7 rfl) (dq da_X12_is 8 rfl) (by decide) (fun c1 => ?_) (fun c1 => ?_)
  · have h := ie c1 h
    refine lv_iconst (v := 0) hx hb (dq da_X12_is 11 rfl) rfl ?_
    exact xret_z E hr hlk rfl w (by decide) h rfl (dq da_X12_is 12 rfl)
  · have h := it c1 h
    refine lv_iconst (v := 1) hx hb (dq da_X12_is 9 rfl) rfl ?_
    refine lv_goto (tgt := 18) hx hb (dq da_X12_is 10 rfl) (by decide) ?_
    exact xret_z E hr hlk rfl w (by decide) h rfl (dq da_X12_is 12 rfl)
def dl_X12_turn : List (Nat × Instr × Nat) := [(0, .aload_n 0, 1), (1, .iload_n 2, 1), (2, .ifCond .eq 14, 3), (5, .aload_n 0, 1), (6, .getfield 67, 3), (9, .lconst 1, 1), (10, .iload_n 1, 1), (11, .lshl, 1), (12, .lor, 1), (13, .goto 15, 3), (16, .aload_n 0, 1), (17, .getfield 67, 3), (20, .lconst 1, 1), (21, .iload_n 1, 1), (22, .lshl, 1), (23, .ldc2_w 28, 3), (26, .lxor, 1), (27, .land, 1), (28, .putfield 67, 3), (31, .return_, 1)]
theorem da_X12_turn : dkL cX12_turn dl_X12_turn = true := by decide +kernel
def f_X12_turn_b28 (s0 : Int64) (u : St) : St := (sL u 4 s0)
set_option maxRecDepth 100000 in
set_option maxHeartbeats 4000000 in
theorem b_X12_turn_b28 {p : Program} {l : Launch} {e : Env} {s : State} {m : MethodId} {args : Array Value} {below : List Frame} {meth : Method} {c : Code} {D : va_G} {cy : ClassId × ClassId × ClassId} {ad : Nat → Nat} {A : Nat → Prop} (E : CallFix p m c cX12_turn 3 s args gw RX12) (hr : meth.sig.returnType = none) (hlk : meth.locks = false) {s0 : Int64} {u : St} {u' : St} (h : f_X12_turn_b28 s0 u = u') {ls : Array Slot} {H : Heap} {locs : List Loc} {rr : Nat → Nat} (hl : lv_has ls 3 []) (w : WX (wM cy ad) D cy rr u A s H locs) : Wx (wM cy ad) D p l e 0 0 0 s m args below meth c A u' none H locs 0 28 ls [.long s0, .ref (ad 0)] := by
  have hx := E.1
  have hb := E.2.1
  have hown := E.2.2.2.1
  have hts := E.2.2.2.2
  refine pt_wM_0_status E w w_1113 (dq da_X12_turn 18 rfl) (fun H locs w => ?_)
  exact xret_v E hr hlk w (by decide) h (dq da_X12_turn 19 rfl)
def f_X12_turn (x1 : Int32) (x2 : Int32) (u : St) : St := if x2 = (0 : Int32) then (f_X12_turn_b28 ((gL u 4) &&& ((j_lshl (1 : Int64) x1) ^^^ (-1 : Int64))) u) else (f_X12_turn_b28 ((gL u 4) ||| (j_lshl (1 : Int64) x1)) u)
set_option maxRecDepth 100000 in
set_option maxHeartbeats 4000000 in
theorem c_X12_turn (l : Launch) (D : va_G) (cy : ClassId × ClassId × ClassId) (ad : Nat → Nat) (x1 : Int32) (x2 : Int32) (u : St) : MX (wM cy ad) D cy l yX12_turn cX12_turn 3 (none) 0 0 0 [.ref (ad 0), .int x1, .int x2] u (f_X12_turn x1 x2 u) none := by
  refine entX (by decide +kernel) (Nat.le_of_ble_eq_true rfl) ?_
  intro p e s m args below meth c ls rr A E hr hlk hl w
  have hl : lv_has ls 3 [(0, .ref (ad 0)), (1, .int x1), (2, .int x2)] := hl
  generalize h : f_X12_turn x1 x2 u = u'
  have hx := E.1
  have hb := E.2.1
  have hown := E.2.2.2.1
  have hts := E.2.2.2.2
  refine lv_aload_n hx hb (dq da_X12_turn 0 rfl) rfl (lv_at hl 0 rfl) ?_
  refine lv_iload_n hx hb (dq da_X12_turn 1 rfl) rfl (lv_at hl 2 rfl) ?_
  refine lv_if_eq (tgt := 16) hx hb (dq da_X12_turn 2 rfl) (by decide) (fun c1 => ?_) (fun c1 => ?_)
  · have h := it c1 h
    refine lv_aload_n hx hb (dq da_X12_turn 10 rfl) rfl (lv_at hl 0 rfl) ?_
    refine gt_wM_0_status E w w_1113 (dq da_X12_turn 11 rfl) ?_
    refine lv_lconst (v := 1) hx hb (dq da_X12_turn 12 rfl) rfl ?_
    refine lv_iload_n hx hb (dq da_X12_turn 13 rfl) rfl (lv_at hl 1 rfl) ?_
    refine lv_lshl (v := (j_lshl (1 : Int64) x1)) hx hb (dq da_X12_turn 14 rfl) rfl ?_
    refine lv_ldc2 hx hb hown (hts _ w_1086) (dq da_X12_turn 15 rfl) ?_
    refine lv_lxor hx hb (dq da_X12_turn 16 rfl) ?_
    refine lv_land hx hb (dq da_X12_turn 17 rfl) ?_
    exact b_X12_turn_b28 E hr hlk h (lv_sub hl [] rfl) w
  · have h := ie c1 h
    refine lv_aload_n hx hb (dq da_X12_turn 3 rfl) rfl (lv_at hl 0 rfl) ?_
    refine gt_wM_0_status E w w_1113 (dq da_X12_turn 4 rfl) ?_
    refine lv_lconst (v := 1) hx hb (dq da_X12_turn 5 rfl) rfl ?_
    refine lv_iload_n hx hb (dq da_X12_turn 6 rfl) rfl (lv_at hl 1 rfl) ?_
    refine lv_lshl (v := (j_lshl (1 : Int64) x1)) hx hb (dq da_X12_turn 7 rfl) rfl ?_
    refine lv_lor hx hb (dq da_X12_turn 8 rfl) ?_
    refine lv_goto (tgt := 28) hx hb (dq da_X12_turn 9 rfl) (by decide) ?_
    exact b_X12_turn_b28 E hr hlk h (lv_sub hl [] rfl) w
def dl_X12_isRam : List (Nat × Instr × Nat) := [(0, .lload_n 1, 1), (1, .ldc2_w 18, 3), (4, .lsub, 1), (5, .lstore 4, 2), (7, .lload 4, 2), (9, .lconst 0, 1), (10, .lcmp, 1), (11, .ifCond .lt 25, 3), (14, .lload 4, 2), (16, .ldc2_w 73, 3), (19, .aload_n 0, 1), (20, .getfield 59, 3), (23, .i2l, 1), (24, .lmul, 1), (25, .iload_n 3, 1), (26, .i2l, 1), (27, .lsub, 1), (28, .lcmp, 1), (29, .ifCond .gt 7, 3), (32, .iconst 1, 1), (33, .goto 4, 3), (36, .iconst 0, 1), (37, .ireturn, 1)]
theorem da_X12_isRam : dkL cX12_isRam dl_X12_isRam = true := by decide +kernel
def f_X12_isRam_b36 (u : St) : Int32 := (0 : Int32)
set_option maxRecDepth 100000 in
set_option maxHeartbeats 4000000 in
theorem b_X12_isRam_b36 {p : Program} {l : Launch} {e : Env} {s : State} {m : MethodId} {args : Array Value} {below : List Frame} {meth : Method} {c : Code} {D : va_G} {cy : ClassId × ClassId × ClassId} {ad : Nat → Nat} {A : Nat → Prop} (E : CallFix p m c cX12_isRam 6 s args gw RX12) (hr : meth.sig.returnType = some .boolean) (hlk : meth.locks = false) {u : St} {r : Int32} (h : f_X12_isRam_b36 u = r) {ls : Array Slot} {H : Heap} {locs : List Loc} {rr : Nat → Nat} (hl : lv_has ls 6 []) (w : WX (wM cy ad) D cy rr u A s H locs) : Wx (wM cy ad) D p l e 0 0 0 s m args below meth c A u (some (.int r)) H locs 0 36 ls [] := by
  have hx := E.1
  have hb := E.2.1
  have hown := E.2.2.2.1
  have hts := E.2.2.2.2
  refine lv_iconst (v := 0) hx hb (dq da_X12_isRam 21 rfl) rfl ?_
  exact xret_z E hr hlk rfl w (by decide) h rfl (dq da_X12_isRam 22 rfl)
def f_X12_isRam (x1 : Int64) (x3 : Int32) (u : St) : Int32 := if (x1 - (2147483648 : Int64)) < (0 : Int64) then (f_X12_isRam_b36 u) else (if (((4096 : Int64) * (gI u 1).toInt64) - x3.toInt64) < (x1 - (2147483648 : Int64)) then (f_X12_isRam_b36 u) else (1 : Int32))
set_option maxRecDepth 100000 in
set_option maxHeartbeats 4000000 in
theorem c_X12_isRam (l : Launch) (D : va_G) (cy : ClassId × ClassId × ClassId) (ad : Nat → Nat) (x1 : Int64) (x3 : Int32) (u : St) : MX (wM cy ad) D cy l yX12_isRam cX12_isRam 6 (some .boolean) 0 0 0 [.ref (ad 0), .long x1, .int x3] u u (some (.int (f_X12_isRam x1 x3 u))) := by
  refine entX (by decide +kernel) (Nat.le_of_ble_eq_true rfl) ?_
  intro p e s m args below meth c ls rr A E hr hlk hl w
  have hl : lv_has ls 6 [(0, .ref (ad 0)), (1, .long x1), (3, .int x3)] := hl
  generalize h : f_X12_isRam x1 x3 u = r
  have hx := E.1
  have hb := E.2.1
  have hown := E.2.2.2.1
  have hts := E.2.2.2.2
  refine lv_lload_n hx hb (dq da_X12_isRam 0 rfl) rfl (lv_at hl 1 rfl) ?_
  refine lv_ldc2 hx hb hown (hts _ w_1085) (dq da_X12_isRam 1 rfl) ?_
  refine lv_lsub hx hb (dq da_X12_isRam 2 rfl) ?_
  refine lv_lstore (lv' := [(4, .long (x1 - (2147483648 : Int64))), (0, .ref (ad 0)), (1, .long x1), (3, .int x3)]) hx hb (dq da_X12_isRam 3 rfl) hl (by decide) rfl (fun ls hl => ?_)
  refine lv_lload hx hb (dq da_X12_isRam 4 rfl) (lv_at hl 0 rfl) ?_
  refine lv_lconst (v := 0) hx hb (dq da_X12_isRam 5 rfl) rfl ?_
  refine lc_lt (tgt := 36) hx hb (dq da_X12_isRam 6 rfl) (dq da_X12_isRam 7 rfl) (by decide) (fun c1 => ?_) (fun c1 => ?_)
  · have h := it c1 h
    exact b_X12_isRam_b36 E hr hlk h (lv_sub hl [] rfl) w
  · have h := ie c1 h
    refine lv_lload hx hb (dq da_X12_isRam 8 rfl) (lv_at hl 0 rfl) ?_
    refine lv_ldc2 hx hb hown (hts _ w_1285) (dq da_X12_isRam 9 rfl) ?_
    refine lv_aload_n hx hb (dq da_X12_isRam 10 rfl) rfl (lv_at hl 1 rfl) ?_
    refine gt_wM_0_pages E w w_1089 (dq da_X12_isRam 11 rfl) ?_
    refine lv_i2l (v := (gI u 1).toInt64) hx hb (dq da_X12_isRam 12 rfl) rfl ?_
    refine lv_lmul hx hb (dq da_X12_isRam 13 rfl) ?_
    refine lv_iload_n hx hb (dq da_X12_isRam 14 rfl) rfl (lv_at hl 3 rfl) ?_
    refine lv_i2l (v := x3.toInt64) hx hb (dq da_X12_isRam 15 rfl) rfl ?_
    refine lv_lsub hx hb (dq da_X12_isRam 16 rfl) ?_
    refine lc_gt (tgt := 36) hx hb (dq da_X12_isRam 17 rfl) (dq da_X12_isRam 18 rfl) (by decide) (fun c2 => ?_) (fun c2 => ?_)
    · have h := it c2 h
      exact b_X12_isRam_b36 E hr hlk h (lv_sub hl [] rfl) w
    · have h := ie c2 h
      refine lv_iconst (v := 1) hx hb (dq da_X12_isRam 19 rfl) rfl ?_
      refine lv_goto (tgt := 37) hx hb (dq da_X12_isRam 20 rfl) (by decide) ?_
      exact xret_z E hr hlk rfl w (by decide) h rfl (dq da_X12_isRam 22 rfl)
def dl_X12_ramAt : List (Nat × Instr × Nat) := [(0, .lconst 0, 1), (1, .lstore 4, 2), (3, .iload_n 3, 1), (4, .iconst 1, 1), (5, .isub, 1), (6, .istore 6, 2), (8, .iload 6, 2), (10, .ifCond .lt 36, 3), (13, .lload 4, 2), (15, .bipush 8, 2), (17, .lshl, 1), (18, .aload_n 0, 1), (19, .getfield 8, 3), (22, .lload_n 1, 1), (23, .ldc2_w 18, 3), (26, .lsub, 1), (27, .l2i, 1), (28, .iload 6, 2), (30, .iadd, 1), (31, .baload, 1), (32, .i2l, 1), (33, .ldc2_w 75, 3), (36, .land, 1), (37, .lor, 1), (38, .lstore 4, 2), (40, .iinc 6 (-1), 3), (43, .goto (-35), 3), (46, .lload 4, 2), (48, .lreturn, 1)]
theorem da_X12_ramAt : dkL cX12_ramAt dl_X12_ramAt = true := by decide +kernel
def f_X12_ramAt_b8_s (k8 : Int64 → Int64 → Int32 → St → Option (Int64)) (x1 : Int64) (x4 : Int64) (x6 : Int32) (u : St) : Option (Int64) := if x6 < (0 : Int32) then (some x4) else (if inB ((x1 - (2147483648 : Int64)).toInt32 + x6) (gN u 0) then (k8 x1 ((j_lshl x4 (8 : Int32)) ||| ((gA u 0 ((x1 - (2147483648 : Int64)).toInt32 + x6).toNatClampNeg).toInt64 &&& (255 : Int64))) (x6 + (-1 : Int32)) u) else none)
set_option maxRecDepth 100000 in
set_option maxHeartbeats 4000000 in
theorem b_X12_ramAt_b8_s {p : Program} {l : Launch} {e : Env} {s : State} {m : MethodId} {args : Array Value} {below : List Frame} {meth : Method} {c : Code} {D : va_G} {cy : ClassId × ClassId × ClassId} {ad : Nat → Nat} {A : Nat → Prop} (E : CallFix p m c cX12_ramAt 7 s args gw RX12) (hr : meth.sig.returnType = some .long) (hlk : meth.locks = false) {k8 : Int64 → Int64 → Int32 → St → Option (Int64)} (hk8 : ∀ (x1 : Int64) (x4 : Int64) (x6 : Int32) (u : St) (r : Int64), k8 x1 x4 x6 u = some r → ∀ (ls : Array Slot) (H : Heap) (locs : List Loc) (rr : Nat → Nat), lv_has ls 7 [(0, .ref (ad 0)), (1, .long x1), (4, .long x4), (6, .int x6)] → WX (wM cy ad) D cy rr u A s H locs → Wx (wM cy ad) D p l e 0 0 0 s m args below meth c A u (some (.long r)) H locs 0 8 ls []) {x1 : Int64} {x4 : Int64} {x6 : Int32} {u : St} {r : Int64} (h : f_X12_ramAt_b8_s k8 x1 x4 x6 u = some r) {ls : Array Slot} {H : Heap} {locs : List Loc} {rr : Nat → Nat} (hl : lv_has ls 7 [(0, .ref (ad 0)), (1, .long x1), (4, .long x4), (6, .int x6)]) (w : WX (wM cy ad) D cy rr u A s H locs) : Wx (wM cy ad) D p l e 0 0 0 s m args below meth c A u (some (.long r)) H locs 0 8 ls [] := by
  have hx := E.1
  have hb := E.2.1
  have hown := E.2.2.2.1
  have hts := E.2.2.2.2
  refine lv_iload hx hb (dq da_X12_ramAt 6 rfl) (lv_at hl 3 rfl) ?_
  refine lv_if_lt (tgt := 46) hx hb (dq da_X12_ramAt 7 rfl) (by decide) (fun c1 => ?_) (fun c1 => ?_)
  · have h := it c1 h
    refine lv_lload hx hb (dq da_X12_ramAt 27 rfl) (lv_at hl 2 rfl) ?_
    exact xret_l E hr hlk w (by decide) (os h) rfl (dq da_X12_ramAt 28 rfl)
  · have h := ie c1 h
    refine lv_lload hx hb (dq da_X12_ramAt 8 rfl) (lv_at hl 2 rfl) ?_
    refine lv_bipush (v := 8) hx hb (dq da_X12_ramAt 9 rfl) rfl ?_
    refine lv_lshl (v := (j_lshl x4 (8 : Int32))) hx hb (dq da_X12_ramAt 10 rfl) rfl ?_
    refine lv_aload_n hx hb (dq da_X12_ramAt 11 rfl) rfl (lv_at hl 0 rfl) ?_
    refine gt_wM_0_ram E w w_1090 (dq da_X12_ramAt 12 rfl) ?_
    refine lv_lload_n hx hb (dq da_X12_ramAt 13 rfl) rfl (lv_at hl 1 rfl) ?_
    refine lv_ldc2 hx hb hown (hts _ w_1085) (dq da_X12_ramAt 14 rfl) ?_
    refine lv_lsub hx hb (dq da_X12_ramAt 15 rfl) ?_
    refine lv_l2i (v := (x1 - (2147483648 : Int64)).toInt32) hx hb (dq da_X12_ramAt 16 rfl) rfl ?_
    refine lv_iload hx hb (dq da_X12_ramAt 17 rfl) (lv_at hl 3 rfl) ?_
    refine lv_iadd hx hb (dq da_X12_ramAt 18 rfl) ?_
    obtain ⟨hi2, h⟩ := oi h
    refine ald_wM_1 E w hi2 (dq da_X12_ramAt 19 rfl) ?_
    refine lv_i2l (v := (gA u 0 ((x1 - (2147483648 : Int64)).toInt32 + x6).toNatClampNeg).toInt64) hx hb (dq da_X12_ramAt 20 rfl) rfl ?_
    refine lv_ldc2 hx hb hown (hts _ w_1264) (dq da_X12_ramAt 21 rfl) ?_
    refine lv_land hx hb (dq da_X12_ramAt 22 rfl) ?_
    refine lv_lor hx hb (dq da_X12_ramAt 23 rfl) ?_
    refine lv_lstore (lv' := [(4, .long ((j_lshl x4 (8 : Int32)) ||| ((gA u 0 ((x1 - (2147483648 : Int64)).toInt32 + x6).toNatClampNeg).toInt64 &&& (255 : Int64)))), (0, .ref (ad 0)), (1, .long x1), (6, .int x6)]) hx hb (dq da_X12_ramAt 24 rfl) hl (by decide) rfl (fun ls hl => ?_)
    refine lv_iinc (v := (x6 + (-1 : Int32))) (lv' := [(6, .int (x6 + (-1 : Int32))), (4, .long ((j_lshl x4 (8 : Int32)) ||| ((gA u 0 ((x1 - (2147483648 : Int64)).toInt32 + x6).toNatClampNeg).toInt64 &&& (255 : Int64)))), (0, .ref (ad 0)), (1, .long x1)]) hx hb (dq da_X12_ramAt 25 rfl) hl (k := 3) rfl rfl (by decide) rfl (fun ls hl => ?_)
    refine lv_goto (tgt := 8) hx hb (dq da_X12_ramAt 26 rfl) (by decide) ?_
    exact hk8 _ _ _ _ _ h ls _ _ _ (lv_sub hl [2, 3, 1, 0] rfl) w
def f_X12_ramAt_b8 : Nat → Int64 → Int64 → Int32 → St → Option (Int64)
  | 0 => fun _ _ _ _ => none
  | n + 1 => f_X12_ramAt_b8_s (f_X12_ramAt_b8 n)
theorem b_X12_ramAt_b8 {p : Program} {l : Launch} {e : Env} {s : State} {m : MethodId} {args : Array Value} {below : List Frame} {meth : Method} {c : Code} {D : va_G} {cy : ClassId × ClassId × ClassId} {ad : Nat → Nat} {A : Nat → Prop} (E : CallFix p m c cX12_ramAt 7 s args gw RX12) (hr : meth.sig.returnType = some .long) (hlk : meth.locks = false) : ∀ n : Nat, ∀ (x1 : Int64) (x4 : Int64) (x6 : Int32) (u : St) (r : Int64), f_X12_ramAt_b8 n x1 x4 x6 u = some r → ∀ (ls : Array Slot) (H : Heap) (locs : List Loc) (rr : Nat → Nat), lv_has ls 7 [(0, .ref (ad 0)), (1, .long x1), (4, .long x4), (6, .int x6)] → WX (wM cy ad) D cy rr u A s H locs → Wx (wM cy ad) D p l e 0 0 0 s m args below meth c A u (some (.long r)) H locs 0 8 ls [] := by
  intro n
  induction n with
  | zero => intro x1 x4 x6 u r h; cases h
  | succ n ih => intro x1 x4 x6 u r h ls H locs rr hl w; exact b_X12_ramAt_b8_s E hr hlk ih h hl w
def f_X12_ramAt (x1 : Int64) (x3 : Int32) (u : St) : Option (Int64) := f_X12_ramAt_b8 FU x1 (0 : Int64) (x3 - (1 : Int32)) u
set_option maxRecDepth 100000 in
set_option maxHeartbeats 4000000 in
theorem c_X12_ramAt (l : Launch) (D : va_G) (cy : ClassId × ClassId × ClassId) (ad : Nat → Nat) (x1 : Int64) (x3 : Int32) (u : St) {r : Int64} (h : f_X12_ramAt x1 x3 u = some r) : MX (wM cy ad) D cy l yX12_ramAt cX12_ramAt 7 (some .long) 0 0 0 [.ref (ad 0), .long x1, .int x3] u u (some (.long (r))) := by
  refine entX (by decide +kernel) (Nat.le_of_ble_eq_true rfl) ?_
  intro p e s m args below meth c ls rr A E hr hlk hl w
  have hl : lv_has ls 7 [(0, .ref (ad 0)), (1, .long x1), (3, .int x3)] := hl
  have hx := E.1
  have hb := E.2.1
  have hown := E.2.2.2.1
  have hts := E.2.2.2.2
  refine lv_lconst (v := 0) hx hb (dq da_X12_ramAt 0 rfl) rfl ?_
  refine lv_lstore (lv' := [(4, .long (0 : Int64)), (0, .ref (ad 0)), (1, .long x1), (3, .int x3)]) hx hb (dq da_X12_ramAt 1 rfl) hl (by decide) rfl (fun ls hl => ?_)
  refine lv_iload_n hx hb (dq da_X12_ramAt 2 rfl) rfl (lv_at hl 3 rfl) ?_
  refine lv_iconst (v := 1) hx hb (dq da_X12_ramAt 3 rfl) rfl ?_
  refine lv_isub hx hb (dq da_X12_ramAt 4 rfl) ?_
  refine lv_istore (lv' := [(6, .int (x3 - (1 : Int32))), (4, .long (0 : Int64)), (0, .ref (ad 0)), (1, .long x1), (3, .int x3)]) hx hb (dq da_X12_ramAt 5 rfl) hl (by decide) rfl (fun ls hl => ?_)
  exact b_X12_ramAt_b8 E hr hlk FU _ _ _ _ _ h ls _ _ _ (lv_sub hl [2, 3, 1, 0] rfl) w
def dl_X12_setRam : List (Nat × Instr × Nat) := [(0, .iconst 0, 1), (1, .istore 6, 2), (3, .iload 6, 2), (5, .iload_n 3, 1), (6, .if_icmp .ge 33, 3), (9, .aload_n 0, 1), (10, .getfield 8, 3), (13, .lload_n 1, 1), (14, .ldc2_w 18, 3), (17, .lsub, 1), (18, .l2i, 1), (19, .iload 6, 2), (21, .iadd, 1), (22, .lload 4, 2), (24, .bipush 8, 2), (26, .iload 6, 2), (28, .imul, 1), (29, .lshr, 1), (30, .l2i, 1), (31, .i2b, 1), (32, .bastore, 1), (33, .iinc 6 1, 3), (36, .goto (-33), 3), (39, .return_, 1)]
theorem da_X12_setRam : dkL cX12_setRam dl_X12_setRam = true := by decide +kernel
def f_X12_setRam_b3_s (k3 : Int64 → Int32 → Int64 → Int32 → St → Option (St)) (x1 : Int64) (x3 : Int32) (x4 : Int64) (x6 : Int32) (u : St) : Option (St) := if x3 ≤ x6 then (some u) else (if inB ((x1 - (2147483648 : Int64)).toInt32 + x6) (gN u 0) then (k3 x1 x3 x4 (x6 + (1 : Int32)) (sA u 0 ((x1 - (2147483648 : Int64)).toInt32 + x6).toNatClampNeg (vp_nar .byte (((j_lshr x4 ((8 : Int32) * x6)).toInt32).toInt8.toInt32)))) else none)
set_option maxRecDepth 100000 in
set_option maxHeartbeats 4000000 in
theorem b_X12_setRam_b3_s {p : Program} {l : Launch} {e : Env} {s : State} {m : MethodId} {args : Array Value} {below : List Frame} {meth : Method} {c : Code} {D : va_G} {cy : ClassId × ClassId × ClassId} {ad : Nat → Nat} {A : Nat → Prop} (E : CallFix p m c cX12_setRam 7 s args gw RX12) (hr : meth.sig.returnType = none) (hlk : meth.locks = false) {k3 : Int64 → Int32 → Int64 → Int32 → St → Option (St)} (hk3 : ∀ (x1 : Int64) (x3 : Int32) (x4 : Int64) (x6 : Int32) (u : St) (u' : St), k3 x1 x3 x4 x6 u = some u' → ∀ (ls : Array Slot) (H : Heap) (locs : List Loc) (rr : Nat → Nat), lv_has ls 7 [(0, .ref (ad 0)), (1, .long x1), (3, .int x3), (4, .long x4), (6, .int x6)] → WX (wM cy ad) D cy rr u A s H locs → Wx (wM cy ad) D p l e 0 0 0 s m args below meth c A u' none H locs 0 3 ls []) {x1 : Int64} {x3 : Int32} {x4 : Int64} {x6 : Int32} {u : St} {u' : St} (h : f_X12_setRam_b3_s k3 x1 x3 x4 x6 u = some u') {ls : Array Slot} {H : Heap} {locs : List Loc} {rr : Nat → Nat} (hl : lv_has ls 7 [(0, .ref (ad 0)), (1, .long x1), (3, .int x3), (4, .long x4), (6, .int x6)]) (w : WX (wM cy ad) D cy rr u A s H locs) : Wx (wM cy ad) D p l e 0 0 0 s m args below meth c A u' none H locs 0 3 ls [] := by
  have hx := E.1
  have hb := E.2.1
  have hown := E.2.2.2.1
  have hts := E.2.2.2.2
  refine lv_iload hx hb (dq da_X12_setRam 2 rfl) (lv_at hl 4 rfl) ?_
  refine lv_iload_n hx hb (dq da_X12_setRam 3 rfl) rfl (lv_at hl 2 rfl) ?_
  refine lv_icmp_ge (tgt := 39) hx hb (dq da_X12_setRam 4 rfl) (by decide) (fun c1 => ?_) (fun c1 => ?_)
  · have h := it c1 h
    exact xret_v E hr hlk w (by decide) (os h) (dq da_X12_setRam 23 rfl)
  · have h := ie c1 h
    refine lv_aload_n hx hb (dq da_X12_setRam 5 rfl) rfl (lv_at hl 0 rfl) ?_
    refine gt_wM_0_ram E w w_1090 (dq da_X12_setRam 6 rfl) ?_
    refine lv_lload_n hx hb (dq da_X12_setRam 7 rfl) rfl (lv_at hl 1 rfl) ?_
    refine lv_ldc2 hx hb hown (hts _ w_1085) (dq da_X12_setRam 8 rfl) ?_
    refine lv_lsub hx hb (dq da_X12_setRam 9 rfl) ?_
    refine lv_l2i (v := (x1 - (2147483648 : Int64)).toInt32) hx hb (dq da_X12_setRam 10 rfl) rfl ?_
    refine lv_iload hx hb (dq da_X12_setRam 11 rfl) (lv_at hl 4 rfl) ?_
    refine lv_iadd hx hb (dq da_X12_setRam 12 rfl) ?_
    refine lv_lload hx hb (dq da_X12_setRam 13 rfl) (lv_at hl 3 rfl) ?_
    refine lv_bipush (v := 8) hx hb (dq da_X12_setRam 14 rfl) rfl ?_
    refine lv_iload hx hb (dq da_X12_setRam 15 rfl) (lv_at hl 4 rfl) ?_
    refine lv_imul hx hb (dq da_X12_setRam 16 rfl) ?_
    refine lv_lshr (v := (j_lshr x4 ((8 : Int32) * x6))) hx hb (dq da_X12_setRam 17 rfl) rfl ?_
    refine lv_l2i (v := (j_lshr x4 ((8 : Int32) * x6)).toInt32) hx hb (dq da_X12_setRam 18 rfl) rfl ?_
    refine lv_i2b (v := ((j_lshr x4 ((8 : Int32) * x6)).toInt32).toInt8.toInt32) hx hb (dq da_X12_setRam 19 rfl) rfl ?_
    obtain ⟨hi2, h⟩ := oi h
    refine ast_wM_1 E w hi2 (dq da_X12_setRam 20 rfl) (fun H locs w => ?_)
    refine lv_iinc (v := (x6 + (1 : Int32))) (lv' := [(6, .int (x6 + (1 : Int32))), (0, .ref (ad 0)), (1, .long x1), (3, .int x3), (4, .long x4)]) hx hb (dq da_X12_setRam 21 rfl) hl (k := 4) rfl rfl (by decide) rfl (fun ls hl => ?_)
    refine lv_goto (tgt := 3) hx hb (dq da_X12_setRam 22 rfl) (by decide) ?_
    exact hk3 _ _ _ _ _ _ h ls _ _ _ (lv_sub hl [1, 2, 3, 4, 0] rfl) w
def f_X12_setRam_b3 : Nat → Int64 → Int32 → Int64 → Int32 → St → Option (St)
  | 0 => fun _ _ _ _ _ => none
  | n + 1 => f_X12_setRam_b3_s (f_X12_setRam_b3 n)
theorem b_X12_setRam_b3 {p : Program} {l : Launch} {e : Env} {s : State} {m : MethodId} {args : Array Value} {below : List Frame} {meth : Method} {c : Code} {D : va_G} {cy : ClassId × ClassId × ClassId} {ad : Nat → Nat} {A : Nat → Prop} (E : CallFix p m c cX12_setRam 7 s args gw RX12) (hr : meth.sig.returnType = none) (hlk : meth.locks = false) : ∀ n : Nat, ∀ (x1 : Int64) (x3 : Int32) (x4 : Int64) (x6 : Int32) (u : St) (u' : St), f_X12_setRam_b3 n x1 x3 x4 x6 u = some u' → ∀ (ls : Array Slot) (H : Heap) (locs : List Loc) (rr : Nat → Nat), lv_has ls 7 [(0, .ref (ad 0)), (1, .long x1), (3, .int x3), (4, .long x4), (6, .int x6)] → WX (wM cy ad) D cy rr u A s H locs → Wx (wM cy ad) D p l e 0 0 0 s m args below meth c A u' none H locs 0 3 ls [] := by
  intro n
  induction n with
  | zero => intro x1 x3 x4 x6 u u' h; cases h
  | succ n ih => intro x1 x3 x4 x6 u u' h ls H locs rr hl w; exact b_X12_setRam_b3_s E hr hlk ih h hl w
def f_X12_setRam (x1 : Int64) (x3 : Int32) (x4 : Int64) (u : St) : Option (St) := f_X12_setRam_b3 FU x1 x3 x4 (0 : Int32) u
set_option maxRecDepth 100000 in
set_option maxHeartbeats 4000000 in
theorem c_X12_setRam (l : Launch) (D : va_G) (cy : ClassId × ClassId × ClassId) (ad : Nat → Nat) (x1 : Int64) (x3 : Int32) (x4 : Int64) (u : St) {u' : St} (h : f_X12_setRam x1 x3 x4 u = some u') : MX (wM cy ad) D cy l yX12_setRam cX12_setRam 7 (none) 0 0 0 [.ref (ad 0), .long x1, .int x3, .long x4] u u' none := by
  refine entX (by decide +kernel) (Nat.le_of_ble_eq_true rfl) ?_
  intro p e s m args below meth c ls rr A E hr hlk hl w
  have hl : lv_has ls 7 [(0, .ref (ad 0)), (1, .long x1), (3, .int x3), (4, .long x4)] := hl
  have hx := E.1
  have hb := E.2.1
  have hown := E.2.2.2.1
  have hts := E.2.2.2.2
  refine lv_iconst (v := 0) hx hb (dq da_X12_setRam 0 rfl) rfl ?_
  refine lv_istore (lv' := [(6, .int (0 : Int32)), (0, .ref (ad 0)), (1, .long x1), (3, .int x3), (4, .long x4)]) hx hb (dq da_X12_setRam 1 rfl) hl (by decide) rfl (fun ls hl => ?_)
  exact b_X12_setRam_b3 E hr hlk FU _ _ _ _ _ _ h ls _ _ _ (lv_sub hl [1, 2, 3, 4, 0] rfl) w
def dl_X12_asks : List (Nat × Instr × Nat) := [(0, .iconst 0, 1), (1, .istore_n 2, 1), (2, .iconst 1, 1), (3, .istore_n 3, 1), (4, .iload_n 3, 1), (5, .bipush 8, 2), (7, .if_icmp .ge 53, 3), (10, .iload_n 2, 1), (11, .ifCond .ne 37, 3), (14, .aload_n 0, 1), (15, .getfield 77, 3), (18, .aload_n 0, 1), (19, .getfield 37, 3), (22, .iload_n 1, 1), (23, .iaload, 1), (24, .iand, 1), (25, .iload_n 3, 1), (26, .ishr, 1), (27, .iconst 1, 1), (28, .iand, 1), (29, .iconst 1, 1), (30, .if_icmp .ne 22, 3), (33, .aload_n 0, 1), (34, .getfield 33, 3), (37, .iload_n 3, 1), (38, .iaload, 1), (39, .aload_n 0, 1), (40, .getfield 40, 3), (43, .iload_n 1, 1), (44, .iaload, 1), (45, .if_icmp .le 7, 3), (48, .iconst 1, 1), (49, .goto 4, 3), (52, .iconst 0, 1), (53, .istore_n 2, 1), (54, .iinc 3 1, 3), (57, .goto (-53), 3), (60, .iload_n 2, 1), (61, .ireturn, 1)]
theorem da_X12_asks : dkL cX12_asks dl_X12_asks = true := by decide +kernel
def f_X12_asks_b53 (k4 : Int32 → Int32 → Int32 → St → Option (Int32)) (x1 : Int32) (x3 : Int32) (s0 : Int32) (u : St) : Option (Int32) := k4 x1 s0 (x3 + (1 : Int32)) u
set_option maxRecDepth 100000 in
set_option maxHeartbeats 4000000 in
theorem b_X12_asks_b53 {p : Program} {l : Launch} {e : Env} {s : State} {m : MethodId} {args : Array Value} {below : List Frame} {meth : Method} {c : Code} {D : va_G} {cy : ClassId × ClassId × ClassId} {ad : Nat → Nat} {A : Nat → Prop} (E : CallFix p m c cX12_asks 4 s args gw RX12) (hr : meth.sig.returnType = some .boolean) (hlk : meth.locks = false) {k4 : Int32 → Int32 → Int32 → St → Option (Int32)} (hk4 : ∀ (x1 : Int32) (x2 : Int32) (x3 : Int32) (u : St) (r : Int32), k4 x1 x2 x3 u = some r → ∀ (ls : Array Slot) (H : Heap) (locs : List Loc) (rr : Nat → Nat), lv_has ls 4 [(0, .ref (ad 0)), (1, .int x1), (2, .int x2), (3, .int x3)] → WX (wM cy ad) D cy rr u A s H locs → Wx (wM cy ad) D p l e 0 0 0 s m args below meth c A u (some (.int r)) H locs 0 4 ls []) {x1 : Int32} {x3 : Int32} {s0 : Int32} {u : St} {r : Int32} (h : f_X12_asks_b53 k4 x1 x3 s0 u = some r) {ls : Array Slot} {H : Heap} {locs : List Loc} {rr : Nat → Nat} (hl : lv_has ls 4 [(0, .ref (ad 0)), (1, .int x1), (3, .int x3)]) (w : WX (wM cy ad) D cy rr u A s H locs) : Wx (wM cy ad) D p l e 0 0 0 s m args below meth c A u (some (.int r)) H locs 0 53 ls [.int s0] := by
  have hx := E.1
  have hb := E.2.1
  have hown := E.2.2.2.1
  have hts := E.2.2.2.2
  refine lv_istore_n (lv' := [(2, .int s0), (0, .ref (ad 0)), (1, .int x1), (3, .int x3)]) hx hb (dq da_X12_asks 34 rfl) rfl hl (by decide) rfl (fun ls hl => ?_)
  refine lv_iinc (v := (x3 + (1 : Int32))) (lv' := [(3, .int (x3 + (1 : Int32))), (2, .int s0), (0, .ref (ad 0)), (1, .int x1)]) hx hb (dq da_X12_asks 35 rfl) hl (k := 3) rfl rfl (by decide) rfl (fun ls hl => ?_)
  refine lv_goto (tgt := 4) hx hb (dq da_X12_asks 36 rfl) (by decide) ?_
  exact hk4 _ _ _ _ _ h ls _ _ _ (lv_sub hl [2, 3, 1, 0] rfl) w
def f_X12_asks_b48 (k4 : Int32 → Int32 → Int32 → St → Option (Int32)) (x1 : Int32) (x3 : Int32) (u : St) : Option (Int32) := f_X12_asks_b53 k4 x1 x3 (1 : Int32) u
set_option maxRecDepth 100000 in
set_option maxHeartbeats 4000000 in
theorem b_X12_asks_b48 {p : Program} {l : Launch} {e : Env} {s : State} {m : MethodId} {args : Array Value} {below : List Frame} {meth : Method} {c : Code} {D : va_G} {cy : ClassId × ClassId × ClassId} {ad : Nat → Nat} {A : Nat → Prop} (E : CallFix p m c cX12_asks 4 s args gw RX12) (hr : meth.sig.returnType = some .boolean) (hlk : meth.locks = false) {k4 : Int32 → Int32 → Int32 → St → Option (Int32)} (hk4 : ∀ (x1 : Int32) (x2 : Int32) (x3 : Int32) (u : St) (r : Int32), k4 x1 x2 x3 u = some r → ∀ (ls : Array Slot) (H : Heap) (locs : List Loc) (rr : Nat → Nat), lv_has ls 4 [(0, .ref (ad 0)), (1, .int x1), (2, .int x2), (3, .int x3)] → WX (wM cy ad) D cy rr u A s H locs → Wx (wM cy ad) D p l e 0 0 0 s m args below meth c A u (some (.int r)) H locs 0 4 ls []) {x1 : Int32} {x3 : Int32} {u : St} {r : Int32} (h : f_X12_asks_b48 k4 x1 x3 u = some r) {ls : Array Slot} {H : Heap} {locs : List Loc} {rr : Nat → Nat} (hl : lv_has ls 4 [(0, .ref (ad 0)), (1, .int x1), (3, .int x3)]) (w : WX (wM cy ad) D cy rr u A s H locs) : Wx (wM cy ad) D p l e 0 0 0 s m args below meth c A u (some (.int r)) H locs 0 48 ls [] := by
  have hx := E.1
  have hb := E.2.1
  have hown := E.2.2.2.1
  have hts := E.2.2.2.2
  refine lv_iconst (v := 1) hx hb (dq da_X12_asks 31 rfl) rfl ?_
  refine lv_goto (tgt := 53) hx hb (dq da_X12_asks 32 rfl) (by decide) ?_
  exact b_X12_asks_b53 E hr hlk hk4 h (lv_sub hl [0, 1, 2] rfl) w
def f_X12_asks_b52 (k4 : Int32 → Int32 → Int32 → St → Option (Int32)) (x1 : Int32) (x3 : Int32) (u : St) : Option (Int32) := f_X12_asks_b53 k4 x1 x3 (0 : Int32) u
set_option maxRecDepth 100000 in
set_option maxHeartbeats 4000000 in
theorem b_X12_asks_b52 {p : Program} {l : Launch} {e : Env} {s : State} {m : MethodId} {args : Array Value} {below : List Frame} {meth : Method} {c : Code} {D : va_G} {cy : ClassId × ClassId × ClassId} {ad : Nat → Nat} {A : Nat → Prop} (E : CallFix p m c cX12_asks 4 s args gw RX12) (hr : meth.sig.returnType = some .boolean) (hlk : meth.locks = false) {k4 : Int32 → Int32 → Int32 → St → Option (Int32)} (hk4 : ∀ (x1 : Int32) (x2 : Int32) (x3 : Int32) (u : St) (r : Int32), k4 x1 x2 x3 u = some r → ∀ (ls : Array Slot) (H : Heap) (locs : List Loc) (rr : Nat → Nat), lv_has ls 4 [(0, .ref (ad 0)), (1, .int x1), (2, .int x2), (3, .int x3)] → WX (wM cy ad) D cy rr u A s H locs → Wx (wM cy ad) D p l e 0 0 0 s m args below meth c A u (some (.int r)) H locs 0 4 ls []) {x1 : Int32} {x3 : Int32} {u : St} {r : Int32} (h : f_X12_asks_b52 k4 x1 x3 u = some r) {ls : Array Slot} {H : Heap} {locs : List Loc} {rr : Nat → Nat} (hl : lv_has ls 4 [(0, .ref (ad 0)), (1, .int x1), (3, .int x3)]) (w : WX (wM cy ad) D cy rr u A s H locs) : Wx (wM cy ad) D p l e 0 0 0 s m args below meth c A u (some (.int r)) H locs 0 52 ls [] := by
  have hx := E.1
  have hb := E.2.1
  have hown := E.2.2.2.1
  have hts := E.2.2.2.2
  refine lv_iconst (v := 0) hx hb (dq da_X12_asks 33 rfl) rfl ?_
  exact b_X12_asks_b53 E hr hlk hk4 h (lv_sub hl [0, 1, 2] rfl) w
def f_X12_asks_b4_s (k4 : Int32 → Int32 → Int32 → St → Option (Int32)) (x1 : Int32) (x2 : Int32) (x3 : Int32) (u : St) : Option (Int32) := if (8 : Int32) ≤ x3 then (if x2 &&& 1 = x2 then some x2 else none) else (if x2 = (0 : Int32) then (if inB x1 (gN u 3) then (if ((((gI u 5) &&& (gA u 2 x1.toNatClampNeg)) >>> (x3 &&& 31)) &&& (1 : Int32)) = (1 : Int32) then (if inB x3 (gN u 2) then (if inB x1 (gN u 4) then (if (gA u 1 x3.toNatClampNeg) ≤ (gA u 3 x1.toNatClampNeg) then (f_X12_asks_b52 k4 x1 x3 u) else (f_X12_asks_b48 k4 x1 x3 u)) else none) else none) else (f_X12_asks_b52 k4 x1 x3 u)) else none) else (f_X12_asks_b48 k4 x1 x3 u))
set_option maxRecDepth 100000 in
set_option maxHeartbeats 4000000 in
theorem b_X12_asks_b4_s {p : Program} {l : Launch} {e : Env} {s : State} {m : MethodId} {args : Array Value} {below : List Frame} {meth : Method} {c : Code} {D : va_G} {cy : ClassId × ClassId × ClassId} {ad : Nat → Nat} {A : Nat → Prop} (E : CallFix p m c cX12_asks 4 s args gw RX12) (hr : meth.sig.returnType = some .boolean) (hlk : meth.locks = false) {k4 : Int32 → Int32 → Int32 → St → Option (Int32)} (hk4 : ∀ (x1 : Int32) (x2 : Int32) (x3 : Int32) (u : St) (r : Int32), k4 x1 x2 x3 u = some r → ∀ (ls : Array Slot) (H : Heap) (locs : List Loc) (rr : Nat → Nat), lv_has ls 4 [(0, .ref (ad 0)), (1, .int x1), (2, .int x2), (3, .int x3)] → WX (wM cy ad) D cy rr u A s H locs → Wx (wM cy ad) D p l e 0 0 0 s m args below meth c A u (some (.int r)) H locs 0 4 ls []) {x1 : Int32} {x2 : Int32} {x3 : Int32} {u : St} {r : Int32} (h : f_X12_asks_b4_s k4 x1 x2 x3 u = some r) {ls : Array Slot} {H : Heap} {locs : List Loc} {rr : Nat → Nat} (hl : lv_has ls 4 [(0, .ref (ad 0)), (1, .int x1), (2, .int x2), (3, .int x3)]) (w : WX (wM cy ad) D cy rr u A s H locs) : Wx (wM cy ad) D p l e 0 0 0 s m args below meth c A u (some (.int r)) H locs 0 4 ls [] := by
  have hx := E.1
  have hb := E.2.1
  have hown := E.2.2.2.1
  have hts := E.2.2.2.2
  refine lv_iload_n hx hb (dq da_X12_asks 4 rfl) rfl (lv_at hl 3 rfl) ?_
  refine lv_bipush (v := 8) hx hb (dq da_X12_asks 5 rfl) rfl ?_
  refine lv_icmp_ge (tgt := 60) hx hb (dq da_X12_asks 6 rfl) (by decide) (fun c1 => ?_) (fun c1 => ?_)
  · have h := it c1 h
    refine lv_iload_n hx hb (dq da_X12_asks 37 rfl) rfl (lv_at hl 2 rfl) ?_
    obtain ⟨hz2, h⟩ := oi h
    exact xret_z E hr hlk (by show Value.int _ = _; rw [hz2]) w (by decide) (os h) rfl (dq da_X12_asks 38 rfl)
  · have h := ie c1 h
    refine lv_iload_n hx hb (dq da_X12_asks 7 rfl) rfl (lv_at hl 2 rfl) ?_
    refine lv_if_ne (tgt := 48) hx hb (dq da_X12_asks 8 rfl) (by decide) (fun c3 => ?_) (fun c3 => ?_)
    · have h := ie c3 h
      exact b_X12_asks_b48 E hr hlk hk4 h (lv_sub hl [0, 1, 3] rfl) w
    · have h := it c3 h
      refine lv_aload_n hx hb (dq da_X12_asks 9 rfl) rfl (lv_at hl 0 rfl) ?_
      refine gt_wM_0_pending E w w_1100 (dq da_X12_asks 10 rfl) ?_
      refine lv_aload_n hx hb (dq da_X12_asks 11 rfl) rfl (lv_at hl 0 rfl) ?_
      refine gt_wM_0_enable E w w_1102 (dq da_X12_asks 12 rfl) ?_
      refine lv_iload_n hx hb (dq da_X12_asks 13 rfl) rfl (lv_at hl 1 rfl) ?_
      obtain ⟨hi4, h⟩ := oi h
      refine ald_wM_4 E w hi4 (dq da_X12_asks 14 rfl) ?_
      refine lv_iand hx hb (dq da_X12_asks 15 rfl) ?_
      refine lv_iload_n hx hb (dq da_X12_asks 16 rfl) rfl (lv_at hl 3 rfl) ?_
      refine lv_ishr hx hb (dq da_X12_asks 17 rfl) ?_
      refine lv_iconst (v := 1) hx hb (dq da_X12_asks 18 rfl) rfl ?_
      refine lv_iand hx hb (dq da_X12_asks 19 rfl) ?_
      refine lv_iconst (v := 1) hx hb (dq da_X12_asks 20 rfl) rfl ?_
      refine lv_icmp_ne (tgt := 52) hx hb (dq da_X12_asks 21 rfl) (by decide) (fun c5 => ?_) (fun c5 => ?_)
      · have h := ie c5 h
        exact b_X12_asks_b52 E hr hlk hk4 h (lv_sub hl [0, 1, 3] rfl) w
      · have h := it c5 h
        refine lv_aload_n hx hb (dq da_X12_asks 22 rfl) rfl (lv_at hl 0 rfl) ?_
        refine gt_wM_0_priority E w w_1099 (dq da_X12_asks 23 rfl) ?_
        refine lv_iload_n hx hb (dq da_X12_asks 24 rfl) rfl (lv_at hl 3 rfl) ?_
        obtain ⟨hi6, h⟩ := oi h
        refine ald_wM_3 E w hi6 (dq da_X12_asks 25 rfl) ?_
        refine lv_aload_n hx hb (dq da_X12_asks 26 rfl) rfl (lv_at hl 0 rfl) ?_
        refine gt_wM_0_threshold E w w_1103 (dq da_X12_asks 27 rfl) ?_
        refine lv_iload_n hx hb (dq da_X12_asks 28 rfl) rfl (lv_at hl 1 rfl) ?_
        obtain ⟨hi7, h⟩ := oi h
        refine ald_wM_5 E w hi7 (dq da_X12_asks 29 rfl) ?_
        refine lv_icmp_le (tgt := 52) hx hb (dq da_X12_asks 30 rfl) (by decide) (fun c8 => ?_) (fun c8 => ?_)
        · have h := it c8 h
          exact b_X12_asks_b52 E hr hlk hk4 h (lv_sub hl [0, 1, 3] rfl) w
        · have h := ie c8 h
          exact b_X12_asks_b48 E hr hlk hk4 h (lv_sub hl [0, 1, 3] rfl) w
def f_X12_asks_b4 : Nat → Int32 → Int32 → Int32 → St → Option (Int32)
  | 0 => fun _ _ _ _ => none
  | n + 1 => f_X12_asks_b4_s (f_X12_asks_b4 n)
theorem b_X12_asks_b4 {p : Program} {l : Launch} {e : Env} {s : State} {m : MethodId} {args : Array Value} {below : List Frame} {meth : Method} {c : Code} {D : va_G} {cy : ClassId × ClassId × ClassId} {ad : Nat → Nat} {A : Nat → Prop} (E : CallFix p m c cX12_asks 4 s args gw RX12) (hr : meth.sig.returnType = some .boolean) (hlk : meth.locks = false) : ∀ n : Nat, ∀ (x1 : Int32) (x2 : Int32) (x3 : Int32) (u : St) (r : Int32), f_X12_asks_b4 n x1 x2 x3 u = some r → ∀ (ls : Array Slot) (H : Heap) (locs : List Loc) (rr : Nat → Nat), lv_has ls 4 [(0, .ref (ad 0)), (1, .int x1), (2, .int x2), (3, .int x3)] → WX (wM cy ad) D cy rr u A s H locs → Wx (wM cy ad) D p l e 0 0 0 s m args below meth c A u (some (.int r)) H locs 0 4 ls [] := by
  intro n
  induction n with
  | zero => intro x1 x2 x3 u r h; cases h
  | succ n ih => intro x1 x2 x3 u r h ls H locs rr hl w; exact b_X12_asks_b4_s E hr hlk ih h hl w
def f_X12_asks (x1 : Int32) (u : St) : Option (Int32) := f_X12_asks_b4 FU x1 (0 : Int32) (1 : Int32) u
set_option maxRecDepth 100000 in
set_option maxHeartbeats 4000000 in
theorem c_X12_asks (l : Launch) (D : va_G) (cy : ClassId × ClassId × ClassId) (ad : Nat → Nat) (x1 : Int32) (u : St) {r : Int32} (h : f_X12_asks x1 u = some r) : MX (wM cy ad) D cy l yX12_asks cX12_asks 4 (some .boolean) 0 0 0 [.ref (ad 0), .int x1] u u (some (.int (r))) := by
  refine entX (by decide +kernel) (Nat.le_of_ble_eq_true rfl) ?_
  intro p e s m args below meth c ls rr A E hr hlk hl w
  have hl : lv_has ls 4 [(0, .ref (ad 0)), (1, .int x1)] := hl
  have hx := E.1
  have hb := E.2.1
  have hown := E.2.2.2.1
  have hts := E.2.2.2.2
  refine lv_iconst (v := 0) hx hb (dq da_X12_asks 0 rfl) rfl ?_
  refine lv_istore_n (lv' := [(2, .int (0 : Int32)), (0, .ref (ad 0)), (1, .int x1)]) hx hb (dq da_X12_asks 1 rfl) rfl hl (by decide) rfl (fun ls hl => ?_)
  refine lv_iconst (v := 1) hx hb (dq da_X12_asks 2 rfl) rfl ?_
  refine lv_istore_n (lv' := [(3, .int (1 : Int32)), (2, .int (0 : Int32)), (0, .ref (ad 0)), (1, .int x1)]) hx hb (dq da_X12_asks 3 rfl) rfl hl (by decide) rfl (fun ls hl => ?_)
  exact b_X12_asks_b4 E hr hlk FU _ _ _ _ _ h ls _ _ _ (lv_sub hl [2, 3, 1, 0] rfl) w
def dl_X12_claim : List (Nat × Instr × Nat) := [(0, .iconst 0, 1), (1, .istore_n 2, 1), (2, .iconst 1, 1), (3, .istore_n 3, 1), (4, .iload_n 3, 1), (5, .bipush 8, 2), (7, .if_icmp .ge 58, 3), (10, .aload_n 0, 1), (11, .getfield 77, 3), (14, .aload_n 0, 1), (15, .getfield 37, 3), (18, .iload_n 1, 1), (19, .iaload, 1), (20, .iand, 1), (21, .iload_n 3, 1), (22, .ishr, 1), (23, .iconst 1, 1), (24, .iand, 1), (25, .iconst 1, 1), (26, .if_icmp .ne 33, 3), (29, .aload_n 0, 1), (30, .getfield 33, 3), (33, .iload_n 3, 1), (34, .iaload, 1), (35, .ifCond .le 24, 3), (38, .iload_n 2, 1), (39, .ifCond .eq 18, 3), (42, .aload_n 0, 1), (43, .getfield 33, 3), (46, .iload_n 3, 1), (47, .iaload, 1), (48, .aload_n 0, 1), (49, .getfield 33, 3), (52, .iload_n 2, 1), (53, .iaload, 1), (54, .if_icmp .le 5, 3), (57, .iload_n 3, 1), (58, .istore_n 2, 1), (59, .iinc 3 1, 3), (62, .goto (-58), 3), (65, .iload_n 2, 1), (66, .ifCond .ne 5, 3), (69, .iconst 0, 1), (70, .ireturn, 1), (71, .aload_n 0, 1), (72, .dup, 1), (73, .getfield 77, 3), (76, .iconst 1, 1), (77, .iload_n 2, 1), (78, .ishl, 1), (79, .iconst (-1), 1), (80, .ixor, 1), (81, .iand, 1), (82, .putfield 77, 3), (85, .aload_n 0, 1), (86, .dup, 1), (87, .getfield 80, 3), (90, .iconst 1, 1), (91, .iload_n 2, 1), (92, .ishl, 1), (93, .ior, 1), (94, .putfield 80, 3), (97, .iload_n 2, 1), (98, .ireturn, 1)]
theorem da_X12_claim : dkL cX12_claim dl_X12_claim = true := by decide +kernel
def f_X12_claim_b59 (k4 : Int32 → Int32 → Int32 → St → Option (Int32 × St)) (x1 : Int32) (x2 : Int32) (x3 : Int32) (u : St) : Option (Int32 × St) := k4 x1 x2 (x3 + (1 : Int32)) u
set_option maxRecDepth 100000 in
set_option maxHeartbeats 4000000 in
theorem b_X12_claim_b59 {p : Program} {l : Launch} {e : Env} {s : State} {m : MethodId} {args : Array Value} {below : List Frame} {meth : Method} {c : Code} {D : va_G} {cy : ClassId × ClassId × ClassId} {ad : Nat → Nat} {A : Nat → Prop} (E : CallFix p m c cX12_claim 4 s args gw RX12) (hr : meth.sig.returnType = some .int) (hlk : meth.locks = false) {k4 : Int32 → Int32 → Int32 → St → Option (Int32 × St)} (hk4 : ∀ (x1 : Int32) (x2 : Int32) (x3 : Int32) (u : St) (r : Int32) (u' : St), k4 x1 x2 x3 u = some (r, u') → ∀ (ls : Array Slot) (H : Heap) (locs : List Loc) (rr : Nat → Nat), lv_has ls 4 [(0, .ref (ad 0)), (1, .int x1), (2, .int x2), (3, .int x3)] → WX (wM cy ad) D cy rr u A s H locs → Wx (wM cy ad) D p l e 0 0 0 s m args below meth c A u' (some (.int r)) H locs 0 4 ls []) {x1 : Int32} {x2 : Int32} {x3 : Int32} {u : St} {r : Int32} {u' : St} (h : f_X12_claim_b59 k4 x1 x2 x3 u = some (r, u')) {ls : Array Slot} {H : Heap} {locs : List Loc} {rr : Nat → Nat} (hl : lv_has ls 4 [(0, .ref (ad 0)), (1, .int x1), (2, .int x2), (3, .int x3)]) (w : WX (wM cy ad) D cy rr u A s H locs) : Wx (wM cy ad) D p l e 0 0 0 s m args below meth c A u' (some (.int r)) H locs 0 59 ls [] := by
  have hx := E.1
  have hb := E.2.1
  have hown := E.2.2.2.1
  have hts := E.2.2.2.2
  refine lv_iinc (v := (x3 + (1 : Int32))) (lv' := [(3, .int (x3 + (1 : Int32))), (0, .ref (ad 0)), (1, .int x1), (2, .int x2)]) hx hb (dq da_X12_claim 38 rfl) hl (k := 3) rfl rfl (by decide) rfl (fun ls hl => ?_)
  refine lv_goto (tgt := 4) hx hb (dq da_X12_claim 39 rfl) (by decide) ?_
  exact hk4 _ _ _ _ _ _ h ls _ _ _ (lv_sub hl [1, 2, 3, 0] rfl) w
def f_X12_claim_b57 (k4 : Int32 → Int32 → Int32 → St → Option (Int32 × St)) (x1 : Int32) (x3 : Int32) (u : St) : Option (Int32 × St) := f_X12_claim_b59 k4 x1 x3 x3 u
set_option maxRecDepth 100000 in
set_option maxHeartbeats 4000000 in
theorem b_X12_claim_b57 {p : Program} {l : Launch} {e : Env} {s : State} {m : MethodId} {args : Array Value} {below : List Frame} {meth : Method} {c : Code} {D : va_G} {cy : ClassId × ClassId × ClassId} {ad : Nat → Nat} {A : Nat → Prop} (E : CallFix p m c cX12_claim 4 s args gw RX12) (hr : meth.sig.returnType = some .int) (hlk : meth.locks = false) {k4 : Int32 → Int32 → Int32 → St → Option (Int32 × St)} (hk4 : ∀ (x1 : Int32) (x2 : Int32) (x3 : Int32) (u : St) (r : Int32) (u' : St), k4 x1 x2 x3 u = some (r, u') → ∀ (ls : Array Slot) (H : Heap) (locs : List Loc) (rr : Nat → Nat), lv_has ls 4 [(0, .ref (ad 0)), (1, .int x1), (2, .int x2), (3, .int x3)] → WX (wM cy ad) D cy rr u A s H locs → Wx (wM cy ad) D p l e 0 0 0 s m args below meth c A u' (some (.int r)) H locs 0 4 ls []) {x1 : Int32} {x3 : Int32} {u : St} {r : Int32} {u' : St} (h : f_X12_claim_b57 k4 x1 x3 u = some (r, u')) {ls : Array Slot} {H : Heap} {locs : List Loc} {rr : Nat → Nat} (hl : lv_has ls 4 [(0, .ref (ad 0)), (1, .int x1), (3, .int x3)]) (w : WX (wM cy ad) D cy rr u A s H locs) : Wx (wM cy ad) D p l e 0 0 0 s m args below meth c A u' (some (.int r)) H locs 0 57 ls [] := by
  have hx := E.1
  have hb := E.2.1
  have hown := E.2.2.2.1
  have hts := E.2.2.2.2
  refine lv_iload_n hx hb (dq da_X12_claim 36 rfl) rfl (lv_at hl 2 rfl) ?_
  refine lv_istore_n (lv' := [(2, .int x3), (0, .ref (ad 0)), (1, .int x1), (3, .int x3)]) hx hb (dq da_X12_claim 37 rfl) rfl hl (by decide) rfl (fun ls hl => ?_)
  exact b_X12_claim_b59 E hr hlk hk4 h (lv_sub hl [1, 2, 0, 3] rfl) w
def f_X12_claim_b4_s (k4 : Int32 → Int32 → Int32 → St → Option (Int32 × St)) (x1 : Int32) (x2 : Int32) (x3 : Int32) (u : St) : Option (Int32 × St) := if (8 : Int32) ≤ x3 then (if x2 = (0 : Int32) then (some ((0 : Int32), u)) else (some (x2, (sI (sI u 5 ((gI u 5) &&& (((1 : Int32) <<< (x2 &&& 31)) ^^^ (-1 : Int32)))) 6 ((gI (sI u 5 ((gI u 5) &&& (((1 : Int32) <<< (x2 &&& 31)) ^^^ (-1 : Int32)))) 6) ||| ((1 : Int32) <<< (x2 &&& 31))))))) else (if inB x1 (gN u 3) then (if ((((gI u 5) &&& (gA u 2 x1.toNatClampNeg)) >>> (x3 &&& 31)) &&& (1 : Int32)) = (1 : Int32) then (if inB x3 (gN u 2) then (if (gA u 1 x3.toNatClampNeg) ≤ (0 : Int32) then (f_X12_claim_b59 k4 x1 x2 x3 u) else (if x2 = (0 : Int32) then (f_X12_claim_b57 k4 x1 x3 u) else (if inB x3 (gN u 2) then (if inB x2 (gN u 2) then (if (gA u 1 x3.toNatClampNeg) ≤ (gA u 1 x2.toNatClampNeg) then (f_X12_claim_b59 k4 x1 x2 x3 u) else (f_X12_claim_b57 k4 x1 x3 u)) else none) else none))) else none) else (f_X12_claim_b59 k4 x1 x2 x3 u)) else none)
set_option maxRecDepth 100000 in
set_option maxHeartbeats 4000000 in
theorem b_X12_claim_b4_s {p : Program} {l : Launch} {e : Env} {s : State} {m : MethodId} {args : Array Value} {below : List Frame} {meth : Method} {c : Code} {D : va_G} {cy : ClassId × ClassId × ClassId} {ad : Nat → Nat} {A : Nat → Prop} (E : CallFix p m c cX12_claim 4 s args gw RX12) (hr : meth.sig.returnType = some .int) (hlk : meth.locks = false) {k4 : Int32 → Int32 → Int32 → St → Option (Int32 × St)} (hk4 : ∀ (x1 : Int32) (x2 : Int32) (x3 : Int32) (u : St) (r : Int32) (u' : St), k4 x1 x2 x3 u = some (r, u') → ∀ (ls : Array Slot) (H : Heap) (locs : List Loc) (rr : Nat → Nat), lv_has ls 4 [(0, .ref (ad 0)), (1, .int x1), (2, .int x2), (3, .int x3)] → WX (wM cy ad) D cy rr u A s H locs → Wx (wM cy ad) D p l e 0 0 0 s m args below meth c A u' (some (.int r)) H locs 0 4 ls []) {x1 : Int32} {x2 : Int32} {x3 : Int32} {u : St} {r : Int32} {u' : St} (h : f_X12_claim_b4_s k4 x1 x2 x3 u = some (r, u')) {ls : Array Slot} {H : Heap} {locs : List Loc} {rr : Nat → Nat} (hl : lv_has ls 4 [(0, .ref (ad 0)), (1, .int x1), (2, .int x2), (3, .int x3)]) (w : WX (wM cy ad) D cy rr u A s H locs) : Wx (wM cy ad) D p l e 0 0 0 s m args below meth c A u' (some (.int r)) H locs 0 4 ls [] := by
  have hx := E.1
  have hb := E.2.1
  have hown := E.2.2.2.1
  have hts := E.2.2.2.2
  refine lv_iload_n hx hb (dq da_X12_claim 4 rfl) rfl (lv_at hl 3 rfl) ?_
  refine lv_bipush (v := 8) hx hb (dq da_X12_claim 5 rfl) rfl ?_
  refine lv_icmp_ge (tgt := 65) hx hb (dq da_X12_claim 6 rfl) (by decide) (fun c1 => ?_) (fun c1 => ?_)
  · have h := it c1 h
    refine lv_iload_n hx hb (dq da_X12_claim 40 rfl) rfl (lv_at hl 2 rfl) ?_
    refine lv_if_ne (tgt := 71) hx hb (dq da_X12_claim 41 rfl) (by decide) (fun c2 => ?_) (fun c2 => ?_)
    · have h := ie c2 h
      refine lv_aload_n hx hb (dq da_X12_claim 44 rfl) rfl (lv_at hl 0 rfl) ?_
      refine lv_dup hx hb (dq da_X12_claim 45 rfl) rfl ?_
      refine gt_wM_0_pending E w w_1100 (dq da_X12_claim 46 rfl) ?_
      refine lv_iconst (v := 1) hx hb (dq da_X12_claim 47 rfl) rfl ?_
      refine lv_iload_n hx hb (dq da_X12_claim 48 rfl) rfl (lv_at hl 2 rfl) ?_
      refine lv_ishl hx hb (dq da_X12_claim 49 rfl) ?_
      refine lv_iconst (v := (-1)) hx hb (dq da_X12_claim 50 rfl) rfl ?_
      refine lv_ixor hx hb (dq da_X12_claim 51 rfl) ?_
      refine lv_iand hx hb (dq da_X12_claim 52 rfl) ?_
      refine pt_wM_0_pending E w w_1100 (dq da_X12_claim 53 rfl) (fun H locs w => ?_)
      refine lv_aload_n hx hb (dq da_X12_claim 54 rfl) rfl (lv_at hl 0 rfl) ?_
      refine lv_dup hx hb (dq da_X12_claim 55 rfl) rfl ?_
      refine gt_wM_0_claimed E w w_1101 (dq da_X12_claim 56 rfl) ?_
      refine lv_iconst (v := 1) hx hb (dq da_X12_claim 57 rfl) rfl ?_
      refine lv_iload_n hx hb (dq da_X12_claim 58 rfl) rfl (lv_at hl 2 rfl) ?_
      refine lv_ishl hx hb (dq da_X12_claim 59 rfl) ?_
      refine lv_ior hx hb (dq da_X12_claim 60 rfl) ?_
      refine pt_wM_0_claimed E w w_1101 (dq da_X12_claim 61 rfl) (fun H locs w => ?_)
      refine lv_iload_n hx hb (dq da_X12_claim 62 rfl) rfl (lv_at hl 2 rfl) ?_
      exact xret_i E hr hlk w (by decide) (congrArg Prod.fst (os h)) (congrArg Prod.snd (os h)) (dq da_X12_claim 63 rfl)
    · have h := it c2 h
      refine lv_iconst (v := 0) hx hb (dq da_X12_claim 42 rfl) rfl ?_
      exact xret_i E hr hlk w (by decide) (congrArg Prod.fst (os h)) (congrArg Prod.snd (os h)) (dq da_X12_claim 43 rfl)
  · have h := ie c1 h
    refine lv_aload_n hx hb (dq da_X12_claim 7 rfl) rfl (lv_at hl 0 rfl) ?_
    refine gt_wM_0_pending E w w_1100 (dq da_X12_claim 8 rfl) ?_
    refine lv_aload_n hx hb (dq da_X12_claim 9 rfl) rfl (lv_at hl 0 rfl) ?_
    refine gt_wM_0_enable E w w_1102 (dq da_X12_claim 10 rfl) ?_
    refine lv_iload_n hx hb (dq da_X12_claim 11 rfl) rfl (lv_at hl 1 rfl) ?_
    obtain ⟨hi3, h⟩ := oi h
    refine ald_wM_4 E w hi3 (dq da_X12_claim 12 rfl) ?_
    refine lv_iand hx hb (dq da_X12_claim 13 rfl) ?_
    refine lv_iload_n hx hb (dq da_X12_claim 14 rfl) rfl (lv_at hl 3 rfl) ?_
    refine lv_ishr hx hb (dq da_X12_claim 15 rfl) ?_
    refine lv_iconst (v := 1) hx hb (dq da_X12_claim 16 rfl) rfl ?_
    refine lv_iand hx hb (dq da_X12_claim 17 rfl) ?_
    refine lv_iconst (v := 1) hx hb (dq da_X12_claim 18 rfl) rfl ?_
    refine lv_icmp_ne (tgt := 59) hx hb (dq da_X12_claim 19 rfl) (by decide) (fun c4 => ?_) (fun c4 => ?_)
    · have h := ie c4 h
      exact b_X12_claim_b59 E hr hlk hk4 h (lv_sub hl [0, 1, 2, 3] rfl) w
    · have h := it c4 h
      refine lv_aload_n hx hb (dq da_X12_claim 20 rfl) rfl (lv_at hl 0 rfl) ?_
      refine gt_wM_0_priority E w w_1099 (dq da_X12_claim 21 rfl) ?_
      refine lv_iload_n hx hb (dq da_X12_claim 22 rfl) rfl (lv_at hl 3 rfl) ?_
      obtain ⟨hi5, h⟩ := oi h
      refine ald_wM_3 E w hi5 (dq da_X12_claim 23 rfl) ?_
      refine lv_if_le (tgt := 59) hx hb (dq da_X12_claim 24 rfl) (by decide) (fun c6 => ?_) (fun c6 => ?_)
      · have h := it c6 h
        exact b_X12_claim_b59 E hr hlk hk4 h (lv_sub hl [0, 1, 2, 3] rfl) w
      · have h := ie c6 h
        refine lv_iload_n hx hb (dq da_X12_claim 25 rfl) rfl (lv_at hl 2 rfl) ?_
        refine lv_if_eq (tgt := 57) hx hb (dq da_X12_claim 26 rfl) (by decide) (fun c7 => ?_) (fun c7 => ?_)
        · have h := it c7 h
          exact b_X12_claim_b57 E hr hlk hk4 h (lv_sub hl [0, 1, 3] rfl) w
        · have h := ie c7 h
          refine lv_aload_n hx hb (dq da_X12_claim 27 rfl) rfl (lv_at hl 0 rfl) ?_
          refine gt_wM_0_priority E w w_1099 (dq da_X12_claim 28 rfl) ?_
          refine lv_iload_n hx hb (dq da_X12_claim 29 rfl) rfl (lv_at hl 3 rfl) ?_
          obtain ⟨hi8, h⟩ := oi h
          refine ald_wM_3 E w hi8 (dq da_X12_claim 30 rfl) ?_
          refine lv_aload_n hx hb (dq da_X12_claim 31 rfl) rfl (lv_at hl 0 rfl) ?_
          refine gt_wM_0_priority E w w_1099 (dq da_X12_claim 32 rfl) ?_
          refine lv_iload_n hx hb (dq da_X12_claim 33 rfl) rfl (lv_at hl 2 rfl) ?_
          obtain ⟨hi9, h⟩ := oi h
          refine ald_wM_3 E w hi9 (dq da_X12_claim 34 rfl) ?_
          refine lv_icmp_le (tgt := 59) hx hb (dq da_X12_claim 35 rfl) (by decide) (fun c10 => ?_) (fun c10 => ?_)
          · have h := it c10 h
            exact b_X12_claim_b59 E hr hlk hk4 h (lv_sub hl [0, 1, 2, 3] rfl) w
          · have h := ie c10 h
            exact b_X12_claim_b57 E hr hlk hk4 h (lv_sub hl [0, 1, 3] rfl) w
def f_X12_claim_b4 : Nat → Int32 → Int32 → Int32 → St → Option (Int32 × St)
  | 0 => fun _ _ _ _ => none
  | n + 1 => f_X12_claim_b4_s (f_X12_claim_b4 n)
theorem b_X12_claim_b4 {p : Program} {l : Launch} {e : Env} {s : State} {m : MethodId} {args : Array Value} {below : List Frame} {meth : Method} {c : Code} {D : va_G} {cy : ClassId × ClassId × ClassId} {ad : Nat → Nat} {A : Nat → Prop} (E : CallFix p m c cX12_claim 4 s args gw RX12) (hr : meth.sig.returnType = some .int) (hlk : meth.locks = false) : ∀ n : Nat, ∀ (x1 : Int32) (x2 : Int32) (x3 : Int32) (u : St) (r : Int32) (u' : St), f_X12_claim_b4 n x1 x2 x3 u = some (r, u') → ∀ (ls : Array Slot) (H : Heap) (locs : List Loc) (rr : Nat → Nat), lv_has ls 4 [(0, .ref (ad 0)), (1, .int x1), (2, .int x2), (3, .int x3)] → WX (wM cy ad) D cy rr u A s H locs → Wx (wM cy ad) D p l e 0 0 0 s m args below meth c A u' (some (.int r)) H locs 0 4 ls [] := by
  intro n
  induction n with
  | zero => intro x1 x2 x3 u r u' h; cases h
  | succ n ih => intro x1 x2 x3 u r u' h ls H locs rr hl w; exact b_X12_claim_b4_s E hr hlk ih h hl w
def f_X12_claim (x1 : Int32) (u : St) : Option (Int32 × St) := f_X12_claim_b4 FU x1 (0 : Int32) (1 : Int32) u
set_option maxRecDepth 100000 in
set_option maxHeartbeats 4000000 in
theorem c_X12_claim (l : Launch) (D : va_G) (cy : ClassId × ClassId × ClassId) (ad : Nat → Nat) (x1 : Int32) (u : St) {r : Int32} {u' : St} (h : f_X12_claim x1 u = some (r, u')) : MX (wM cy ad) D cy l yX12_claim cX12_claim 4 (some .int) 0 0 0 [.ref (ad 0), .int x1] u u' (some (.int (r))) := by
  refine entX (by decide +kernel) (Nat.le_of_ble_eq_true rfl) ?_
  intro p e s m args below meth c ls rr A E hr hlk hl w
  have hl : lv_has ls 4 [(0, .ref (ad 0)), (1, .int x1)] := hl
  have hx := E.1
  have hb := E.2.1
  have hown := E.2.2.2.1
  have hts := E.2.2.2.2
  refine lv_iconst (v := 0) hx hb (dq da_X12_claim 0 rfl) rfl ?_
  refine lv_istore_n (lv' := [(2, .int (0 : Int32)), (0, .ref (ad 0)), (1, .int x1)]) hx hb (dq da_X12_claim 1 rfl) rfl hl (by decide) rfl (fun ls hl => ?_)
  refine lv_iconst (v := 1) hx hb (dq da_X12_claim 2 rfl) rfl ?_
  refine lv_istore_n (lv' := [(3, .int (1 : Int32)), (2, .int (0 : Int32)), (0, .ref (ad 0)), (1, .int x1)]) hx hb (dq da_X12_claim 3 rfl) rfl hl (by decide) rfl (fun ls hl => ?_)
  exact b_X12_claim_b4 E hr hlk FU _ _ _ _ _ _ h ls _ _ _ (lv_sub hl [2, 3, 1, 0] rfl) w
def dl_X12_isThere : List (Nat × Instr × Nat) := [(0, .aload_n 0, 1), (1, .lload_n 1, 1), (2, .iload_n 3, 1), (3, .invokevirtual 103, 3), (6, .ifCond .eq 5, 3), (9, .iconst 1, 1), (10, .ireturn, 1), (11, .lload_n 1, 1), (12, .ldc2_w 107, 3), (15, .lsub, 1), (16, .lstore 4, 2), (18, .iload_n 3, 1), (19, .iconst 4, 1), (20, .if_icmp .eq 9, 3), (23, .iload_n 3, 1), (24, .bipush 8, 2), (26, .if_icmp .ne 51, 3), (29, .lload 4, 2), (31, .lconst 0, 1), (32, .lcmp, 1), (33, .ifCond .ne 8, 3), (36, .iload_n 3, 1), (37, .iconst 4, 1), (38, .if_icmp .eq 37, 3), (41, .lload 4, 2), (43, .ldc2_w 109, 3), (46, .ldc2_w 111, 3), (49, .iload_n 3, 1), (50, .i2l, 1), (51, .lsub, 1), (52, .invokestatic 87, 3), (55, .ifCond .ne 20, 3), (58, .lload 4, 2), (60, .ldc2_w 113, 3), (63, .ldc2_w 115, 3), (66, .iload_n 3, 1), (67, .i2l, 1), (68, .lsub, 1), (69, .invokestatic 87, 3), (72, .ifCond .eq 5, 3), (75, .iconst 1, 1), (76, .ireturn, 1), (77, .iload_n 3, 1), (78, .iconst 4, 1), (79, .if_icmp .ne 31, 3), (82, .lload_n 1, 1), (83, .ldc2_w 117, 3), (86, .lsub, 1), (87, .invokestatic 119, 3), (90, .ifCond .le 20, 3), (93, .lload_n 1, 1), (94, .ldc2_w 117, 3), (97, .lsub, 1), (98, .lconst 0, 1), (99, .ldc2_w 123, 3), (102, .invokestatic 87, 3), (105, .ifCond .eq 5, 3), (108, .iconst 1, 1), (109, .ireturn, 1), (110, .iload_n 3, 1), (111, .iconst 1, 1), (112, .if_icmp .ne 22, 3), (115, .lload_n 1, 1), (116, .ldc2_w 125, 3), (119, .lsub, 1), (120, .lconst 0, 1), (121, .ldc2_w 127, 3), (124, .invokestatic 87, 3), (127, .ifCond .eq 7, 3), (130, .iconst 1, 1), (131, .goto 4, 3), (134, .iconst 0, 1), (135, .ireturn, 1)]
theorem da_X12_isThere : dkL cX12_isThere dl_X12_isThere = true := by decide +kernel
def f_X12_isThere_b75 (u : St) : Int32 := (1 : Int32)
set_option maxRecDepth 100000 in
set_option maxHeartbeats 4000000 in
theorem b_X12_isThere_b75 {p : Program} {l : Launch} {e : Env} {s : State} {m : MethodId} {args : Array Value} {below : List Frame} {meth : Method} {c : Code} {D : va_G} {cy : ClassId × ClassId × ClassId} {ad : Nat → Nat} {A : Nat → Prop} (E : CallFix p m c cX12_isThere 6 s args gw RX12) (hr : meth.sig.returnType = some .boolean) (hlk : meth.locks = false) {u : St} {r : Int32} (h : f_X12_isThere_b75 u = r) {ls : Array Slot} {H : Heap} {locs : List Loc} {rr : Nat → Nat} (hl : lv_has ls 6 []) (w : WX (wM cy ad) D cy rr u A s H locs) : Wx (wM cy ad) D p l e 2 46 0 s m args below meth c A u (some (.int r)) H locs 0 75 ls [] := by
  have hx := E.1
  have hb := E.2.1
  have hown := E.2.2.2.1
  have hts := E.2.2.2.2
  refine lv_iconst (v := 1) hx hb (dq da_X12_isThere 40 rfl) rfl ?_
  exact xret_z E hr hlk rfl w (by decide) h rfl (dq da_X12_isThere 41 rfl)
def f_X12_isThere_b134 (u : St) : Int32 := (0 : Int32)
set_option maxRecDepth 100000 in
set_option maxHeartbeats 4000000 in
theorem b_X12_isThere_b134 {p : Program} {l : Launch} {e : Env} {s : State} {m : MethodId} {args : Array Value} {below : List Frame} {meth : Method} {c : Code} {D : va_G} {cy : ClassId × ClassId × ClassId} {ad : Nat → Nat} {A : Nat → Prop} (E : CallFix p m c cX12_isThere 6 s args gw RX12) (hr : meth.sig.returnType = some .boolean) (hlk : meth.locks = false) {u : St} {r : Int32} (h : f_X12_isThere_b134 u = r) {ls : Array Slot} {H : Heap} {locs : List Loc} {rr : Nat → Nat} (hl : lv_has ls 6 []) (w : WX (wM cy ad) D cy rr u A s H locs) : Wx (wM cy ad) D p l e 2 46 0 s m args below meth c A u (some (.int r)) H locs 0 134 ls [] := by
  have hx := E.1
  have hb := E.2.1
  have hown := E.2.2.2.1
  have hts := E.2.2.2.2
  refine lv_iconst (v := 0) hx hb (dq da_X12_isThere 71 rfl) rfl ?_
  exact xret_z E hr hlk rfl w (by decide) h rfl (dq da_X12_isThere 72 rfl)
def f_X12_isThere_b110 (x1 : Int64) (x3 : Int32) (u : St) : Int32 := if x3 = (1 : Int32) then (if (f_X12_in (x1 - (268435456 : Int64)) (0 : Int64) (7 : Int64)) = (0 : Int32) then (f_X12_isThere_b134 u) else (1 : Int32)) else (f_X12_isThere_b134 u)
set_option maxRecDepth 100000 in
set_option maxHeartbeats 4000000 in
theorem b_X12_isThere_b110 {p : Program} {l : Launch} {e : Env} {s : State} {m : MethodId} {args : Array Value} {below : List Frame} {meth : Method} {c : Code} {D : va_G} {cy : ClassId × ClassId × ClassId} {ad : Nat → Nat} {A : Nat → Prop} (E : CallFix p m c cX12_isThere 6 s args gw RX12) (hr : meth.sig.returnType = some .boolean) (hlk : meth.locks = false) {x1 : Int64} {x3 : Int32} {u : St} {r : Int32} (h : f_X12_isThere_b110 x1 x3 u = r) {ls : Array Slot} {H : Heap} {locs : List Loc} {rr : Nat → Nat} (hl : lv_has ls 6 [(1, .long x1), (3, .int x3)]) (w : WX (wM cy ad) D cy rr u A s H locs) : Wx (wM cy ad) D p l e 2 46 0 s m args below meth c A u (some (.int r)) H locs 0 110 ls [] := by
  have hx := E.1
  have hb := E.2.1
  have hown := E.2.2.2.1
  have hts := E.2.2.2.2
  refine lv_iload_n hx hb (dq da_X12_isThere 59 rfl) rfl (lv_at hl 1 rfl) ?_
  refine lv_iconst (v := 1) hx hb (dq da_X12_isThere 60 rfl) rfl ?_
  refine lv_icmp_ne (tgt := 134) hx hb (dq da_X12_isThere 61 rfl) (by decide) (fun c7 => ?_) (fun c7 => ?_)
  · have h := ie c7 h
    exact b_X12_isThere_b134 E hr hlk h (lv_sub hl [] rfl) w
  · have h := it c7 h
    refine lv_lload_n hx hb (dq da_X12_isThere 62 rfl) rfl (lv_at hl 0 rfl) ?_
    refine lv_ldc2 hx hb hown (hts _ w_1560) (dq da_X12_isThere 63 rfl) ?_
    refine lv_lsub hx hb (dq da_X12_isThere 64 rfl) ?_
    refine lv_lconst (v := 0) hx hb (dq da_X12_isThere 65 rfl) rfl ?_
    refine lv_ldc2 hx hb hown (hts _ w_1393) (dq da_X12_isThere 66 rfl) ?_
    refine callP E (c_X12_in l _ _ _ ) w_1275 w_1276 w_10 w_1277 hd_X12_in rfl hl.1 rfl (Nat.le_of_ble_eq_true rfl) ⟨Nat.le_of_ble_eq_true rfl, Nat.le_of_ble_eq_true rfl⟩ (by decide) (dq da_X12_isThere 67 rfl) ?_
    refine lv_if_eq (tgt := 134) hx hb (dq da_X12_isThere 68 rfl) (by decide) (fun c8 => ?_) (fun c8 => ?_)
    · have h := it c8 h
      exact b_X12_isThere_b134 E hr hlk h (lv_sub hl [] rfl) w
    · have h := ie c8 h
      refine lv_iconst (v := 1) hx hb (dq da_X12_isThere 69 rfl) rfl ?_
      refine lv_goto (tgt := 135) hx hb (dq da_X12_isThere 70 rfl) (by decide) ?_
      exact xret_z E hr hlk rfl w (by decide) h rfl (dq da_X12_isThere 72 rfl)
def f_X12_isThere_b77 (x1 : Int64) (x3 : Int32) (u : St) : Int32 := if x3 = (4 : Int32) then (if (f_X12_placeOf (x1 - (201326592 : Int64))) ≤ (0 : Int32) then (f_X12_isThere_b110 x1 x3 u) else (if (f_X12_in (x1 - (201326592 : Int64)) (0 : Int64) (4194304 : Int64)) = (0 : Int32) then (f_X12_isThere_b110 x1 x3 u) else (1 : Int32))) else (f_X12_isThere_b110 x1 x3 u)
set_option maxRecDepth 100000 in
set_option maxHeartbeats 4000000 in
theorem b_X12_isThere_b77 {p : Program} {l : Launch} {e : Env} {s : State} {m : MethodId} {args : Array Value} {below : List Frame} {meth : Method} {c : Code} {D : va_G} {cy : ClassId × ClassId × ClassId} {ad : Nat → Nat} {A : Nat → Prop} (E : CallFix p m c cX12_isThere 6 s args gw RX12) (hr : meth.sig.returnType = some .boolean) (hlk : meth.locks = false) {x1 : Int64} {x3 : Int32} {u : St} {r : Int32} (h : f_X12_isThere_b77 x1 x3 u = r) {ls : Array Slot} {H : Heap} {locs : List Loc} {rr : Nat → Nat} (hl : lv_has ls 6 [(1, .long x1), (3, .int x3)]) (w : WX (wM cy ad) D cy rr u A s H locs) : Wx (wM cy ad) D p l e 2 46 0 s m args below meth c A u (some (.int r)) H locs 0 77 ls [] := by
  have hx := E.1
  have hb := E.2.1
  have hown := E.2.2.2.1
  have hts := E.2.2.2.2
  refine lv_iload_n hx hb (dq da_X12_isThere 42 rfl) rfl (lv_at hl 1 rfl) ?_
  refine lv_iconst (v := 4) hx hb (dq da_X12_isThere 43 rfl) rfl ?_
  refine lv_icmp_ne (tgt := 110) hx hb (dq da_X12_isThere 44 rfl) (by decide) (fun c6 => ?_) (fun c6 => ?_)
  · have h := ie c6 h
    exact b_X12_isThere_b110 E hr hlk h (lv_sub hl [0, 1] rfl) w
  · have h := it c6 h
    refine lv_lload_n hx hb (dq da_X12_isThere 45 rfl) rfl (lv_at hl 0 rfl) ?_
    refine lv_ldc2 hx hb hown (hts _ w_1548) (dq da_X12_isThere 46 rfl) ?_
    refine lv_lsub hx hb (dq da_X12_isThere 47 rfl) ?_
    refine callP E (c_X12_placeOf l _ ) w_1549 w_1550 w_10 w_1551 hd_X12_placeOf rfl hl.1 rfl (Nat.le_of_ble_eq_true rfl) ⟨Nat.le_of_ble_eq_true rfl, Nat.le_of_ble_eq_true rfl⟩ (by decide) (dq da_X12_isThere 48 rfl) ?_
    refine lv_if_le (tgt := 110) hx hb (dq da_X12_isThere 49 rfl) (by decide) (fun c9 => ?_) (fun c9 => ?_)
    · have h := it c9 h
      exact b_X12_isThere_b110 E hr hlk h (lv_sub hl [0, 1] rfl) w
    · have h := ie c9 h
      refine lv_lload_n hx hb (dq da_X12_isThere 50 rfl) rfl (lv_at hl 0 rfl) ?_
      refine lv_ldc2 hx hb hown (hts _ w_1548) (dq da_X12_isThere 51 rfl) ?_
      refine lv_lsub hx hb (dq da_X12_isThere 52 rfl) ?_
      refine lv_lconst (v := 0) hx hb (dq da_X12_isThere 53 rfl) rfl ?_
      refine lv_ldc2 hx hb hown (hts _ w_1559) (dq da_X12_isThere 54 rfl) ?_
      refine callP E (c_X12_in l _ _ _ ) w_1275 w_1276 w_10 w_1277 hd_X12_in rfl hl.1 rfl (Nat.le_of_ble_eq_true rfl) ⟨Nat.le_of_ble_eq_true rfl, Nat.le_of_ble_eq_true rfl⟩ (by decide) (dq da_X12_isThere 55 rfl) ?_
      refine lv_if_eq (tgt := 110) hx hb (dq da_X12_isThere 56 rfl) (by decide) (fun c10 => ?_) (fun c10 => ?_)
      · have h := it c10 h
        exact b_X12_isThere_b110 E hr hlk h (lv_sub hl [0, 1] rfl) w
      · have h := ie c10 h
        refine lv_iconst (v := 1) hx hb (dq da_X12_isThere 57 rfl) rfl ?_
        exact xret_z E hr hlk rfl w (by decide) h rfl (dq da_X12_isThere 58 rfl)
def f_X12_isThere_b41 (x1 : Int64) (x3 : Int32) (x4 : Int64) (u : St) : Int32 := if (f_X12_in x4 (16384 : Int64) ((16392 : Int64) - x3.toInt64)) = (0 : Int32) then (if (f_X12_in x4 (49144 : Int64) ((49152 : Int64) - x3.toInt64)) = (0 : Int32) then (f_X12_isThere_b77 x1 x3 u) else (f_X12_isThere_b75 u)) else (f_X12_isThere_b75 u)
set_option maxRecDepth 100000 in
set_option maxHeartbeats 4000000 in
theorem b_X12_isThere_b41 {p : Program} {l : Launch} {e : Env} {s : State} {m : MethodId} {args : Array Value} {below : List Frame} {meth : Method} {c : Code} {D : va_G} {cy : ClassId × ClassId × ClassId} {ad : Nat → Nat} {A : Nat → Prop} (E : CallFix p m c cX12_isThere 6 s args gw RX12) (hr : meth.sig.returnType = some .boolean) (hlk : meth.locks = false) {x1 : Int64} {x3 : Int32} {x4 : Int64} {u : St} {r : Int32} (h : f_X12_isThere_b41 x1 x3 x4 u = r) {ls : Array Slot} {H : Heap} {locs : List Loc} {rr : Nat → Nat} (hl : lv_has ls 6 [(1, .long x1), (3, .int x3), (4, .long x4)]) (w : WX (wM cy ad) D cy rr u A s H locs) : Wx (wM cy ad) D p l e 2 46 0 s m args below meth c A u (some (.int r)) H locs 0 41 ls [] := by
  have hx := E.1
  have hb := E.2.1
  have hown := E.2.2.2.1
  have hts := E.2.2.2.2
  refine lv_lload hx hb (dq da_X12_isThere 24 rfl) (lv_at hl 2 rfl) ?_
  refine lv_ldc2 hx hb hown (hts _ w_1544) (dq da_X12_isThere 25 rfl) ?_
  refine lv_ldc2 hx hb hown (hts _ w_1545) (dq da_X12_isThere 26 rfl) ?_
  refine lv_iload_n hx hb (dq da_X12_isThere 27 rfl) rfl (lv_at hl 1 rfl) ?_
  refine lv_i2l (v := x3.toInt64) hx hb (dq da_X12_isThere 28 rfl) rfl ?_
  refine lv_lsub hx hb (dq da_X12_isThere 29 rfl) ?_
  refine callP E (c_X12_in l _ _ _ ) w_1275 w_1276 w_10 w_1277 hd_X12_in rfl hl.1 rfl (Nat.le_of_ble_eq_true rfl) ⟨Nat.le_of_ble_eq_true rfl, Nat.le_of_ble_eq_true rfl⟩ (by decide) (dq da_X12_isThere 30 rfl) ?_
  refine lv_if_ne (tgt := 75) hx hb (dq da_X12_isThere 31 rfl) (by decide) (fun c4 => ?_) (fun c4 => ?_)
  · have h := ie c4 h
    exact b_X12_isThere_b75 E hr hlk h (lv_sub hl [] rfl) w
  · have h := it c4 h
    refine lv_lload hx hb (dq da_X12_isThere 32 rfl) (lv_at hl 2 rfl) ?_
    refine lv_ldc2 hx hb hown (hts _ w_1546) (dq da_X12_isThere 33 rfl) ?_
    refine lv_ldc2 hx hb hown (hts _ w_1547) (dq da_X12_isThere 34 rfl) ?_
    refine lv_iload_n hx hb (dq da_X12_isThere 35 rfl) rfl (lv_at hl 1 rfl) ?_
    refine lv_i2l (v := x3.toInt64) hx hb (dq da_X12_isThere 36 rfl) rfl ?_
    refine lv_lsub hx hb (dq da_X12_isThere 37 rfl) ?_
    refine callP E (c_X12_in l _ _ _ ) w_1275 w_1276 w_10 w_1277 hd_X12_in rfl hl.1 rfl (Nat.le_of_ble_eq_true rfl) ⟨Nat.le_of_ble_eq_true rfl, Nat.le_of_ble_eq_true rfl⟩ (by decide) (dq da_X12_isThere 38 rfl) ?_
    refine lv_if_eq (tgt := 77) hx hb (dq da_X12_isThere 39 rfl) (by decide) (fun c5 => ?_) (fun c5 => ?_)
    · have h := it c5 h
      exact b_X12_isThere_b77 E hr hlk h (lv_sub hl [0, 1] rfl) w
    · have h := ie c5 h
      exact b_X12_isThere_b75 E hr hlk h (lv_sub hl [] rfl) w
def f_X12_isThere_b29 (x1 : Int64) (x3 : Int32) (x4 : Int64) (u : St) : Int32 := if x4 = (0 : Int64) then (if x3 = (4 : Int32) then (f_X12_isThere_b75 u) else (f_X12_isThere_b41 x1 x3 x4 u)) else (f_X12_isThere_b41 x1 x3 x4 u)
set_option maxRecDepth 100000 in
set_option maxHeartbeats 4000000 in
theorem b_X12_isThere_b29 {p : Program} {l : Launch} {e : Env} {s : State} {m : MethodId} {args : Array Value} {below : List Frame} {meth : Method} {c : Code} {D : va_G} {cy : ClassId × ClassId × ClassId} {ad : Nat → Nat} {A : Nat → Prop} (E : CallFix p m c cX12_isThere 6 s args gw RX12) (hr : meth.sig.returnType = some .boolean) (hlk : meth.locks = false) {x1 : Int64} {x3 : Int32} {x4 : Int64} {u : St} {r : Int32} (h : f_X12_isThere_b29 x1 x3 x4 u = r) {ls : Array Slot} {H : Heap} {locs : List Loc} {rr : Nat → Nat} (hl : lv_has ls 6 [(1, .long x1), (3, .int x3), (4, .long x4)]) (w : WX (wM cy ad) D cy rr u A s H locs) : Wx (wM cy ad) D p l e 2 46 0 s m args below meth c A u (some (.int r)) H locs 0 29 ls [] := by
  have hx := E.1
  have hb := E.2.1
  have hown := E.2.2.2.1
  have hts := E.2.2.2.2
  refine lv_lload hx hb (dq da_X12_isThere 17 rfl) (lv_at hl 2 rfl) ?_
  refine lv_lconst (v := 0) hx hb (dq da_X12_isThere 18 rfl) rfl ?_
  refine lc_ne (tgt := 41) hx hb (dq da_X12_isThere 19 rfl) (dq da_X12_isThere 20 rfl) (by decide) (fun c3 => ?_) (fun c3 => ?_)
  · have h := ie c3 h
    exact b_X12_isThere_b41 E hr hlk h (lv_sub hl [0, 1, 2] rfl) w
  · have h := it c3 h
    refine lv_iload_n hx hb (dq da_X12_isThere 21 rfl) rfl (lv_at hl 1 rfl) ?_
    refine lv_iconst (v := 4) hx hb (dq da_X12_isThere 22 rfl) rfl ?_
    refine lv_icmp_eq (tgt := 75) hx hb (dq da_X12_isThere 23 rfl) (by decide) (fun c11 => ?_) (fun c11 => ?_)
    · have h := it c11 h
      exact b_X12_isThere_b75 E hr hlk h (lv_sub hl [] rfl) w
    · have h := ie c11 h
      exact b_X12_isThere_b41 E hr hlk h (lv_sub hl [0, 1, 2] rfl) w
def f_X12_isThere (x1 : Int64) (x3 : Int32) (u : St) : Int32 := if (f_X12_isRam x1 x3 u) = (0 : Int32) then (if x3 = (4 : Int32) then (f_X12_isThere_b29 x1 x3 (x1 - (33554432 : Int64)) u) else (if x3 = (8 : Int32) then (f_X12_isThere_b29 x1 x3 (x1 - (33554432 : Int64)) u) else (f_X12_isThere_b77 x1 x3 u))) else (1 : Int32)
set_option maxRecDepth 100000 in
set_option maxHeartbeats 4000000 in
theorem c_X12_isThere (l : Launch) (D : va_G) (cy : ClassId × ClassId × ClassId) (ad : Nat → Nat) (x1 : Int64) (x3 : Int32) (u : St) : MX (wM cy ad) D cy l yX12_isThere cX12_isThere 6 (some .boolean) 2 46 0 [.ref (ad 0), .long x1, .int x3] u u (some (.int (f_X12_isThere x1 x3 u))) := by
  refine entX (by decide +kernel) (Nat.le_of_ble_eq_true rfl) ?_
  intro p e s m args below meth c ls rr A E hr hlk hl w
  have hl : lv_has ls 6 [(0, .ref (ad 0)), (1, .long x1), (3, .int x3)] := hl
  generalize h : f_X12_isThere x1 x3 u = r
  have hx := E.1
  have hb := E.2.1
  have hown := E.2.2.2.1
  have hts := E.2.2.2.2
  refine lv_aload_n hx hb (dq da_X12_isThere 0 rfl) rfl (lv_at hl 0 rfl) ?_
  refine lv_lload_n hx hb (dq da_X12_isThere 1 rfl) rfl (lv_at hl 1 rfl) ?_
  refine lv_iload_n hx hb (dq da_X12_isThere 2 rfl) rfl (lv_at hl 2 rfl) ?_
  refine cV1 E (c_X12_isRam l D cy ad _ _ _ ) w_1286 w_1288 w_p44 w_10 w_1289 rfl hd_X12_isRam rfl hl.1 rfl (Nat.le_of_ble_eq_true rfl) ⟨Nat.le_of_ble_eq_true rfl, Nat.le_of_ble_eq_true rfl⟩ (by decide) w (rc_wM_0 w) (dq da_X12_isThere 3 rfl) (fun H locs rr w => ?_)
  refine lv_if_eq (tgt := 11) hx hb (dq da_X12_isThere 4 rfl) (by decide) (fun c1 => ?_) (fun c1 => ?_)
  · have h := it c1 h
    refine lv_lload_n hx hb (dq da_X12_isThere 7 rfl) rfl (lv_at hl 1 rfl) ?_
    refine lv_ldc2 hx hb hown (hts _ w_1543) (dq da_X12_isThere 8 rfl) ?_
    refine lv_lsub hx hb (dq da_X12_isThere 9 rfl) ?_
    refine lv_lstore (lv' := [(4, .long (x1 - (33554432 : Int64))), (0, .ref (ad 0)), (1, .long x1), (3, .int x3)]) hx hb (dq da_X12_isThere 10 rfl) hl (by decide) rfl (fun ls hl => ?_)
    refine lv_iload_n hx hb (dq da_X12_isThere 11 rfl) rfl (lv_at hl 3 rfl) ?_
    refine lv_iconst (v := 4) hx hb (dq da_X12_isThere 12 rfl) rfl ?_
    refine lv_icmp_eq (tgt := 29) hx hb (dq da_X12_isThere 13 rfl) (by decide) (fun c2 => ?_) (fun c2 => ?_)
    · have h := it c2 h
      exact b_X12_isThere_b29 E hr hlk h (lv_sub hl [2, 3, 0] rfl) w
    · have h := ie c2 h
      refine lv_iload_n hx hb (dq da_X12_isThere 14 rfl) rfl (lv_at hl 3 rfl) ?_
      refine lv_bipush (v := 8) hx hb (dq da_X12_isThere 15 rfl) rfl ?_
      refine lv_icmp_ne (tgt := 77) hx hb (dq da_X12_isThere 16 rfl) (by decide) (fun c12 => ?_) (fun c12 => ?_)
      · have h := ie c12 h
        exact b_X12_isThere_b77 E hr hlk h (lv_sub hl [2, 3] rfl) w
      · have h := it c12 h
        exact b_X12_isThere_b29 E hr hlk h (lv_sub hl [2, 3, 0] rfl) w
  · have h := ie c1 h
    refine lv_iconst (v := 1) hx hb (dq da_X12_isThere 5 rfl) rfl ?_
    exact xret_z E hr hlk rfl w (by decide) h rfl (dq da_X12_isThere 6 rfl)
def dl_X12_lineAt : List (Nat × Instr × Nat) := [(0, .iload_n 1, 1), (1, .iconst 1, 1), (2, .if_icmp .ne 9, 3), (5, .aload_n 0, 1), (6, .getfield 151, 3), (9, .i2l, 1), (10, .lreturn, 1), (11, .iload_n 1, 1), (12, .iconst 5, 1), (13, .if_icmp .ne 20, 3), (16, .aload_n 0, 1), (17, .getfield 154, 3), (20, .ifCond .le 9, 3), (23, .ldc2_w 157, 3), (26, .goto 6, 3), (29, .ldc2_w 159, 3), (32, .lreturn, 1), (33, .iload_n 1, 1), (34, .ifCond .gt 10, 3), (37, .aload_n 0, 1), (38, .getfield 154, 3), (41, .ifCond .ne 5, 3), (44, .lconst 0, 1), (45, .lreturn, 1), (46, .aload_n 0, 1), (47, .getfield 47, 3), (50, .aload_n 0, 1), (51, .getfield 161, 3), (54, .baload, 1), (55, .i2l, 1), (56, .ldc2_w 75, 3), (59, .land, 1), (60, .lstore_n 2, 1), (61, .aload_n 0, 1), (62, .aload_n 0, 1), (63, .getfield 161, 3), (66, .iconst 1, 1), (67, .iadd, 1), (68, .ldc 43, 2), (70, .irem, 1), (71, .putfield 161, 3), (74, .aload_n 0, 1), (75, .dup, 1), (76, .getfield 154, 3), (79, .iconst 1, 1), (80, .isub, 1), (81, .putfield 154, 3), (84, .lload_n 2, 1), (85, .lreturn, 1)]
theorem da_X12_lineAt : dkL cX12_lineAt dl_X12_lineAt = true := by decide +kernel
def f_X12_lineAt_b44 (u : St) : Option (Int64 × St) := some ((0 : Int64), u)
set_option maxRecDepth 100000 in
set_option maxHeartbeats 4000000 in
theorem b_X12_lineAt_b44 {p : Program} {l : Launch} {e : Env} {s : State} {m : MethodId} {args : Array Value} {below : List Frame} {meth : Method} {c : Code} {D : va_G} {cy : ClassId × ClassId × ClassId} {ad : Nat → Nat} {A : Nat → Prop} (E : CallFix p m c cX12_lineAt 4 s args gw RX12) (hr : meth.sig.returnType = some .long) (hlk : meth.locks = false) {u : St} {r : Int64} {u' : St} (h : f_X12_lineAt_b44 u = some (r, u')) {ls : Array Slot} {H : Heap} {locs : List Loc} {rr : Nat → Nat} (hl : lv_has ls 4 []) (w : WX (wM cy ad) D cy rr u A s H locs) : Wx (wM cy ad) D p l e 0 0 0 s m args below meth c A u' (some (.long r)) H locs 0 44 ls [] := by
  have hx := E.1
  have hb := E.2.1
  have hown := E.2.2.2.1
  have hts := E.2.2.2.2
  refine lv_lconst (v := 0) hx hb (dq da_X12_lineAt 22 rfl) rfl ?_
  exact xret_l E hr hlk w (by decide) (congrArg Prod.fst (os h)) (congrArg Prod.snd (os h)) (dq da_X12_lineAt 23 rfl)
def f_X12_lineAt (x1 : Int32) (u : St) : Option (Int64 × St) := if x1 = (1 : Int32) then (some ((gI u 12).toInt64, u)) else (if x1 = (5 : Int32) then (if (gI u 10) ≤ (0 : Int32) then (some ((96 : Int64), u)) else (some ((97 : Int64), u))) else (if (0 : Int32) < x1 then (f_X12_lineAt_b44 u) else (if (gI u 10) = (0 : Int32) then (f_X12_lineAt_b44 u) else (if inB (gI u 9) (gN u 6) then (some (((gA u 5 (gI u 9).toNatClampNeg).toInt64 &&& (255 : Int64)), (sI (sI u 9 (((gI u 9) + (1 : Int32)) - ((gI u 9) + (1 : Int32)) / (65536 : Int32) * (65536 : Int32))) 10 ((gI (sI u 9 (((gI u 9) + (1 : Int32)) - ((gI u 9) + (1 : Int32)) / (65536 : Int32) * (65536 : Int32))) 10) - (1 : Int32))))) else none))))
set_option maxRecDepth 100000 in
set_option maxHeartbeats 4000000 in
theorem c_X12_lineAt (l : Launch) (D : va_G) (cy : ClassId × ClassId × ClassId) (ad : Nat → Nat) (x1 : Int32) (u : St) {r : Int64} {u' : St} (h : f_X12_lineAt x1 u = some (r, u')) : MX (wM cy ad) D cy l yX12_lineAt cX12_lineAt 4 (some .long) 0 0 0 [.ref (ad 0), .int x1] u u' (some (.long (r))) := by
  refine entX (by decide +kernel) (Nat.le_of_ble_eq_true rfl) ?_
  intro p e s m args below meth c ls rr A E hr hlk hl w
  have hl : lv_has ls 4 [(0, .ref (ad 0)), (1, .int x1)] := hl
  have hx := E.1
  have hb := E.2.1
  have hown := E.2.2.2.1
  have hts := E.2.2.2.2
  refine lv_iload_n hx hb (dq da_X12_lineAt 0 rfl) rfl (lv_at hl 1 rfl) ?_
  refine lv_iconst (v := 1) hx hb (dq da_X12_lineAt 1 rfl) rfl ?_
  refine lv_icmp_ne (tgt := 11) hx hb (dq da_X12_lineAt 2 rfl) (by decide) (fun c1 => ?_) (fun c1 => ?_)
  · have h := ie c1 h
    refine lv_iload_n hx hb (dq da_X12_lineAt 7 rfl) rfl (lv_at hl 1 rfl) ?_
    refine lv_iconst (v := 5) hx hb (dq da_X12_lineAt 8 rfl) rfl ?_
    refine lv_icmp_ne (tgt := 33) hx hb (dq da_X12_lineAt 9 rfl) (by decide) (fun c2 => ?_) (fun c2 => ?_)
    · have h := ie c2 h
      refine lv_iload_n hx hb (dq da_X12_lineAt 17 rfl) rfl (lv_at hl 1 rfl) ?_
      refine lv_if_gt (tgt := 44) hx hb (dq da_X12_lineAt 18 rfl) (by decide) (fun c3 => ?_) (fun c3 => ?_)
      · have h := it c3 h
        exact b_X12_lineAt_b44 E hr hlk h (lv_sub hl [] rfl) w
      · have h := ie c3 h
        refine lv_aload_n hx hb (dq da_X12_lineAt 19 rfl) rfl (lv_at hl 0 rfl) ?_
        refine gt_wM_0_inputLeft E w w_1109 (dq da_X12_lineAt 20 rfl) ?_
        refine lv_if_ne (tgt := 46) hx hb (dq da_X12_lineAt 21 rfl) (by decide) (fun c4 => ?_) (fun c4 => ?_)
        · have h := ie c4 h
          refine lv_aload_n hx hb (dq da_X12_lineAt 24 rfl) rfl (lv_at hl 0 rfl) ?_
          refine gt_wM_0_input E w w_1107 (dq da_X12_lineAt 25 rfl) ?_
          refine lv_aload_n hx hb (dq da_X12_lineAt 26 rfl) rfl (lv_at hl 0 rfl) ?_
          refine gt_wM_0_inputFrom E w w_1108 (dq da_X12_lineAt 27 rfl) ?_
          obtain ⟨hi5, h⟩ := oi h
          refine ald_wM_7 E w hi5 (dq da_X12_lineAt 28 rfl) ?_
          refine lv_i2l (v := (gA u 5 (gI u 9).toNatClampNeg).toInt64) hx hb (dq da_X12_lineAt 29 rfl) rfl ?_
          refine lv_ldc2 hx hb hown (hts _ w_1264) (dq da_X12_lineAt 30 rfl) ?_
          refine lv_land hx hb (dq da_X12_lineAt 31 rfl) ?_
          refine lv_lstore_n (lv' := [(2, .long ((gA u 5 (gI u 9).toNatClampNeg).toInt64 &&& (255 : Int64))), (0, .ref (ad 0)), (1, .int x1)]) hx hb (dq da_X12_lineAt 32 rfl) rfl hl (by decide) rfl (fun ls hl => ?_)
          refine lv_aload_n hx hb (dq da_X12_lineAt 33 rfl) rfl (lv_at hl 1 rfl) ?_
          refine lv_aload_n hx hb (dq da_X12_lineAt 34 rfl) rfl (lv_at hl 1 rfl) ?_
          refine gt_wM_0_inputFrom E w w_1108 (dq da_X12_lineAt 35 rfl) ?_
          refine lv_iconst (v := 1) hx hb (dq da_X12_lineAt 36 rfl) rfl ?_
          refine lv_iadd hx hb (dq da_X12_lineAt 37 rfl) ?_
          refine lv_ldc hx hb hown (hts _ w_1087) (dq da_X12_lineAt 38 rfl) ?_
          refine lv_irem hx hb (dq da_X12_lineAt 39 rfl) (by decide) ?_
          refine pt_wM_0_inputFrom E w w_1108 (dq da_X12_lineAt 40 rfl) (fun H locs w => ?_)
          refine lv_aload_n hx hb (dq da_X12_lineAt 41 rfl) rfl (lv_at hl 1 rfl) ?_
          refine lv_dup hx hb (dq da_X12_lineAt 42 rfl) rfl ?_
          refine gt_wM_0_inputLeft E w w_1109 (dq da_X12_lineAt 43 rfl) ?_
          refine lv_iconst (v := 1) hx hb (dq da_X12_lineAt 44 rfl) rfl ?_
          refine lv_isub hx hb (dq da_X12_lineAt 45 rfl) ?_
          refine pt_wM_0_inputLeft E w w_1109 (dq da_X12_lineAt 46 rfl) (fun H locs w => ?_)
          refine lv_lload_n hx hb (dq da_X12_lineAt 47 rfl) rfl (lv_at hl 0 rfl) ?_
          exact xret_l E hr hlk w (by decide) (congrArg Prod.fst (os h)) (congrArg Prod.snd (os h)) (dq da_X12_lineAt 48 rfl)
        · have h := it c4 h
          exact b_X12_lineAt_b44 E hr hlk h (lv_sub hl [] rfl) w
    · have h := it c2 h
      refine lv_aload_n hx hb (dq da_X12_lineAt 10 rfl) rfl (lv_at hl 0 rfl) ?_
      refine gt_wM_0_inputLeft E w w_1109 (dq da_X12_lineAt 11 rfl) ?_
      refine lv_if_le (tgt := 29) hx hb (dq da_X12_lineAt 12 rfl) (by decide) (fun c6 => ?_) (fun c6 => ?_)
      · have h := it c6 h
        refine lv_ldc2 hx hb hown (hts _ w_1570) (dq da_X12_lineAt 15 rfl) ?_
        exact xret_l E hr hlk w (by decide) (congrArg Prod.fst (os h)) (congrArg Prod.snd (os h)) (dq da_X12_lineAt 16 rfl)
      · have h := ie c6 h
        refine lv_ldc2 hx hb hown (hts _ w_1569) (dq da_X12_lineAt 13 rfl) ?_
        refine lv_goto (tgt := 32) hx hb (dq da_X12_lineAt 14 rfl) (by decide) ?_
        exact xret_l E hr hlk w (by decide) (congrArg Prod.fst (os h)) (congrArg Prod.snd (os h)) (dq da_X12_lineAt 16 rfl)
  · have h := it c1 h
    refine lv_aload_n hx hb (dq da_X12_lineAt 3 rfl) rfl (lv_at hl 0 rfl) ?_
    refine gt_wM_0_lineEnable E w w_1112 (dq da_X12_lineAt 4 rfl) ?_
    refine lv_i2l (v := (gI u 12).toInt64) hx hb (dq da_X12_lineAt 5 rfl) rfl ?_
    exact xret_l E hr hlk w (by decide) (congrArg Prod.fst (os h)) (congrArg Prod.snd (os h)) (dq da_X12_lineAt 6 rfl)
def dl_X12_readAt : List (Nat × Instr × Nat) := [(0, .aload_n 0, 1), (1, .lload_n 1, 1), (2, .iload_n 3, 1), (3, .invokevirtual 103, 3), (6, .ifCond .eq 10, 3), (9, .aload_n 0, 1), (10, .lload_n 1, 1), (11, .iload_n 3, 1), (12, .invokevirtual 129, 3), (15, .lreturn, 1), (16, .iload_n 3, 1), (17, .iconst 1, 1), (18, .if_icmp .ne 14, 3), (21, .aload_n 0, 1), (22, .lload_n 1, 1), (23, .ldc2_w 125, 3), (26, .lsub, 1), (27, .l2i, 1), (28, .invokevirtual 133, 3), (31, .lreturn, 1), (32, .lload_n 1, 1), (33, .ldc2_w 107, 3), (36, .lsub, 1), (37, .lstore 4, 2), (39, .lload 4, 2), (41, .lconst 0, 1), (42, .lcmp, 1), (43, .ifCond .ne 9, 3), (46, .aload_n 0, 1), (47, .getfield 137, 3), (50, .i2l, 1), (51, .lreturn, 1), (52, .lload 4, 2), (54, .ldc2_w 109, 3), (57, .ldc2_w 140, 3), (60, .invokestatic 87, 3), (63, .ifCond .eq 19, 3), (66, .aload_n 0, 1), (67, .getfield 30, 3), (70, .bipush 8, 2), (72, .lload 4, 2), (74, .ldc2_w 109, 3), (77, .lsub, 1), (78, .l2i, 1), (79, .imul, 1), (80, .lushr, 1), (81, .lreturn, 1), (82, .lload 4, 2), (84, .ldc2_w 113, 3), (87, .ldc2_w 142, 3), (90, .invokestatic 87, 3), (93, .ifCond .eq 19, 3), (96, .aload_n 0, 1), (97, .getfield 144, 3), (100, .bipush 8, 2), (102, .lload 4, 2), (104, .ldc2_w 113, 3), (107, .lsub, 1), (108, .l2i, 1), (109, .imul, 1), (110, .lushr, 1), (111, .lreturn, 1), (112, .lload_n 1, 1), (113, .ldc2_w 117, 3), (116, .lsub, 1), (117, .invokestatic 119, 3), (120, .istore 6, 2), (122, .iload 6, 2), (124, .bipush 8, 2), (126, .if_icmp .ge 12, 3), (129, .aload_n 0, 1), (130, .getfield 33, 3), (133, .iload 6, 2), (135, .iaload, 1), (136, .i2l, 1), (137, .lreturn, 1), (138, .iload 6, 2), (140, .bipush 8, 2), (142, .if_icmp .ne 9, 3), (145, .aload_n 0, 1), (146, .getfield 77, 3), (149, .i2l, 1), (150, .lreturn, 1), (151, .iload 6, 2), (153, .bipush 11, 2), (155, .if_icmp .ge 17, 3), (158, .aload_n 0, 1), (159, .getfield 37, 3), (162, .iload 6, 2), (164, .bipush 9, 2), (166, .isub, 1), (167, .iaload, 1), (168, .i2l, 1), (169, .goto 34, 3), (172, .iload 6, 2), (174, .bipush 13, 2), (176, .if_icmp .ge 17, 3), (179, .aload_n 0, 1), (180, .getfield 40, 3), (183, .iload 6, 2), (185, .bipush 11, 2), (187, .isub, 1), (188, .iaload, 1), (189, .i2l, 1), (190, .goto 13, 3), (193, .aload_n 0, 1), (194, .iload 6, 2), (196, .bipush 13, 2), (198, .isub, 1), (199, .invokevirtual 147, 3), (202, .i2l, 1), (203, .lreturn, 1)]
theorem da_X12_readAt : dkL cX12_readAt dl_X12_readAt = true := by decide +kernel
def f_X12_readAt (x1 : Int64) (x3 : Int32) (u : St) : Option (Int64 × St) := if (f_X12_isRam x1 x3 u) = (0 : Int32) then (if x3 = (1 : Int32) then ((f_X12_lineAt ((x1 - (268435456 : Int64)).toInt32) u).bind (fun y15 => some (y15.1, y15.2))) else (if (x1 - (33554432 : Int64)) = (0 : Int64) then (some ((gI u 4).toInt64, u)) else (if (f_X12_in (x1 - (33554432 : Int64)) (16384 : Int64) (16391 : Int64)) = (0 : Int32) then (if (f_X12_in (x1 - (33554432 : Int64)) (49144 : Int64) (49151 : Int64)) = (0 : Int32) then (if (8 : Int32) ≤ (f_X12_placeOf (x1 - (201326592 : Int64))) then (if (f_X12_placeOf (x1 - (201326592 : Int64))) = (8 : Int32) then (some ((gI u 5).toInt64, u)) else (if (11 : Int32) ≤ (f_X12_placeOf (x1 - (201326592 : Int64))) then (if (13 : Int32) ≤ (f_X12_placeOf (x1 - (201326592 : Int64))) then ((f_X12_claim ((f_X12_placeOf (x1 - (201326592 : Int64))) - (13 : Int32)) u).bind (fun y10 => some (y10.1.toInt64, y10.2))) else (if inB ((f_X12_placeOf (x1 - (201326592 : Int64))) - (11 : Int32)) (gN u 4) then (some ((gA u 3 ((f_X12_placeOf (x1 - (201326592 : Int64))) - (11 : Int32)).toNatClampNeg).toInt64, u)) else none)) else (if inB ((f_X12_placeOf (x1 - (201326592 : Int64))) - (9 : Int32)) (gN u 3) then (some ((gA u 2 ((f_X12_placeOf (x1 - (201326592 : Int64))) - (9 : Int32)).toNatClampNeg).toInt64, u)) else none))) else (if inB (f_X12_placeOf (x1 - (201326592 : Int64))) (gN u 2) then (some ((gA u 1 (f_X12_placeOf (x1 - (201326592 : Int64))).toNatClampNeg).toInt64, u)) else none)) else (some ((j_lushr (gL u 3) ((8 : Int32) * ((x1 - (33554432 : Int64)) - (49144 : Int64)).toInt32)), u))) else (some ((j_lushr (gL u 2) ((8 : Int32) * ((x1 - (33554432 : Int64)) - (16384 : Int64)).toInt32)), u))))) else ((f_X12_ramAt x1 x3 u).bind (fun y17 => some (y17, u)))
set_option maxRecDepth 100000 in
set_option maxHeartbeats 4000000 in
theorem c_X12_readAt (l : Launch) (D : va_G) (cy : ClassId × ClassId × ClassId) (ad : Nat → Nat) (x1 : Int64) (x3 : Int32) (u : St) {r : Int64} {u' : St} (h : f_X12_readAt x1 x3 u = some (r, u')) : MX (wM cy ad) D cy l yX12_readAt cX12_readAt 7 (some .long) 2 46 0 [.ref (ad 0), .long x1, .int x3] u u' (some (.long (r))) := by
  refine entX (by decide +kernel) (Nat.le_of_ble_eq_true rfl) ?_
  intro p e s m args below meth c ls rr A E hr hlk hl w
  have hl : lv_has ls 7 [(0, .ref (ad 0)), (1, .long x1), (3, .int x3)] := hl
  have hx := E.1
  have hb := E.2.1
  have hown := E.2.2.2.1
  have hts := E.2.2.2.2
  refine lv_aload_n hx hb (dq da_X12_readAt 0 rfl) rfl (lv_at hl 0 rfl) ?_
  refine lv_lload_n hx hb (dq da_X12_readAt 1 rfl) rfl (lv_at hl 1 rfl) ?_
  refine lv_iload_n hx hb (dq da_X12_readAt 2 rfl) rfl (lv_at hl 2 rfl) ?_
  refine cV1 E (c_X12_isRam l D cy ad _ _ _ ) w_1286 w_1288 w_p44 w_10 w_1289 rfl hd_X12_isRam rfl hl.1 rfl (Nat.le_of_ble_eq_true rfl) ⟨Nat.le_of_ble_eq_true rfl, Nat.le_of_ble_eq_true rfl⟩ (by decide) w (rc_wM_0 w) (dq da_X12_readAt 3 rfl) (fun H locs rr w => ?_)
  refine lv_if_eq (tgt := 16) hx hb (dq da_X12_readAt 4 rfl) (by decide) (fun c1 => ?_) (fun c1 => ?_)
  · have h := it c1 h
    refine lv_iload_n hx hb (dq da_X12_readAt 10 rfl) rfl (lv_at hl 2 rfl) ?_
    refine lv_iconst (v := 1) hx hb (dq da_X12_readAt 11 rfl) rfl ?_
    refine lv_icmp_ne (tgt := 32) hx hb (dq da_X12_readAt 12 rfl) (by decide) (fun c2 => ?_) (fun c2 => ?_)
    · have h := ie c2 h
      refine lv_lload_n hx hb (dq da_X12_readAt 20 rfl) rfl (lv_at hl 1 rfl) ?_
      refine lv_ldc2 hx hb hown (hts _ w_1543) (dq da_X12_readAt 21 rfl) ?_
      refine lv_lsub hx hb (dq da_X12_readAt 22 rfl) ?_
      refine lv_lstore (lv' := [(4, .long (x1 - (33554432 : Int64))), (0, .ref (ad 0)), (1, .long x1), (3, .int x3)]) hx hb (dq da_X12_readAt 23 rfl) hl (by decide) rfl (fun ls hl => ?_)
      refine lv_lload hx hb (dq da_X12_readAt 24 rfl) (lv_at hl 0 rfl) ?_
      refine lv_lconst (v := 0) hx hb (dq da_X12_readAt 25 rfl) rfl ?_
      refine lc_ne (tgt := 52) hx hb (dq da_X12_readAt 26 rfl) (dq da_X12_readAt 27 rfl) (by decide) (fun c3 => ?_) (fun c3 => ?_)
      · have h := ie c3 h
        refine lv_lload hx hb (dq da_X12_readAt 32 rfl) (lv_at hl 0 rfl) ?_
        refine lv_ldc2 hx hb hown (hts _ w_1544) (dq da_X12_readAt 33 rfl) ?_
        refine lv_ldc2 hx hb hown (hts _ w_1571) (dq da_X12_readAt 34 rfl) ?_
        refine callP E (c_X12_in l _ _ _ ) w_1275 w_1276 w_10 w_1277 hd_X12_in rfl hl.1 rfl (Nat.le_of_ble_eq_true rfl) ⟨Nat.le_of_ble_eq_true rfl, Nat.le_of_ble_eq_true rfl⟩ (by decide) (dq da_X12_readAt 35 rfl) ?_
        refine lv_if_eq (tgt := 82) hx hb (dq da_X12_readAt 36 rfl) (by decide) (fun c4 => ?_) (fun c4 => ?_)
        · have h := it c4 h
          refine lv_lload hx hb (dq da_X12_readAt 47 rfl) (lv_at hl 0 rfl) ?_
          refine lv_ldc2 hx hb hown (hts _ w_1546) (dq da_X12_readAt 48 rfl) ?_
          refine lv_ldc2 hx hb hown (hts _ w_1572) (dq da_X12_readAt 49 rfl) ?_
          refine callP E (c_X12_in l _ _ _ ) w_1275 w_1276 w_10 w_1277 hd_X12_in rfl hl.1 rfl (Nat.le_of_ble_eq_true rfl) ⟨Nat.le_of_ble_eq_true rfl, Nat.le_of_ble_eq_true rfl⟩ (by decide) (dq da_X12_readAt 50 rfl) ?_
          refine lv_if_eq (tgt := 112) hx hb (dq da_X12_readAt 51 rfl) (by decide) (fun c5 => ?_) (fun c5 => ?_)
          · have h := it c5 h
            refine lv_lload_n hx hb (dq da_X12_readAt 62 rfl) rfl (lv_at hl 2 rfl) ?_
            refine lv_ldc2 hx hb hown (hts _ w_1548) (dq da_X12_readAt 63 rfl) ?_
            refine lv_lsub hx hb (dq da_X12_readAt 64 rfl) ?_
            refine callP E (c_X12_placeOf l _ ) w_1549 w_1550 w_10 w_1551 hd_X12_placeOf rfl hl.1 rfl (Nat.le_of_ble_eq_true rfl) ⟨Nat.le_of_ble_eq_true rfl, Nat.le_of_ble_eq_true rfl⟩ (by decide) (dq da_X12_readAt 65 rfl) ?_
            refine lv_istore (lv' := [(6, .int (f_X12_placeOf (x1 - (201326592 : Int64)))), (4, .long (x1 - (33554432 : Int64))), (0, .ref (ad 0)), (1, .long x1), (3, .int x3)]) hx hb (dq da_X12_readAt 66 rfl) hl (by decide) rfl (fun ls hl => ?_)
            refine lv_iload hx hb (dq da_X12_readAt 67 rfl) (lv_at hl 0 rfl) ?_
            refine lv_bipush (v := 8) hx hb (dq da_X12_readAt 68 rfl) rfl ?_
            refine lv_icmp_ge (tgt := 138) hx hb (dq da_X12_readAt 69 rfl) (by decide) (fun c6 => ?_) (fun c6 => ?_)
            · have h := it c6 h
              refine lv_iload hx hb (dq da_X12_readAt 76 rfl) (lv_at hl 0 rfl) ?_
              refine lv_bipush (v := 8) hx hb (dq da_X12_readAt 77 rfl) rfl ?_
              refine lv_icmp_ne (tgt := 151) hx hb (dq da_X12_readAt 78 rfl) (by decide) (fun c7 => ?_) (fun c7 => ?_)
              · have h := ie c7 h
                refine lv_iload hx hb (dq da_X12_readAt 83 rfl) (lv_at hl 0 rfl) ?_
                refine lv_bipush (v := 11) hx hb (dq da_X12_readAt 84 rfl) rfl ?_
                refine lv_icmp_ge (tgt := 172) hx hb (dq da_X12_readAt 85 rfl) (by decide) (fun c8 => ?_) (fun c8 => ?_)
                · have h := it c8 h
                  refine lv_iload hx hb (dq da_X12_readAt 94 rfl) (lv_at hl 0 rfl) ?_
                  refine lv_bipush (v := 13) hx hb (dq da_X12_readAt 95 rfl) rfl ?_
                  refine lv_icmp_ge (tgt := 193) hx hb (dq da_X12_readAt 96 rfl) (by decide) (fun c9 => ?_) (fun c9 => ?_)
                  · have h := it c9 h
                    refine lv_aload_n hx hb (dq da_X12_readAt 105 rfl) rfl (lv_at hl 2 rfl) ?_
                    refine lv_iload hx hb (dq da_X12_readAt 106 rfl) (lv_at hl 0 rfl) ?_
                    refine lv_bipush (v := 13) hx hb (dq da_X12_readAt 107 rfl) rfl ?_
                    refine lv_isub hx hb (dq da_X12_readAt 108 rfl) ?_
                    obtain ⟨y10, hy11, h⟩ := ob h
                    refine cV1 E (c_X12_claim l D cy ad _ _ hy11) w_1573 w_1575 w_p73 w_10 w_1576 rfl hd_X12_claim rfl hl.1 rfl (Nat.le_of_ble_eq_true rfl) ⟨Nat.le_of_ble_eq_true rfl, Nat.le_of_ble_eq_true rfl⟩ (by decide) w (rc_wM_0 w) (dq da_X12_readAt 109 rfl) (fun H locs rr w => ?_)
                    refine lv_i2l (v := y10.1.toInt64) hx hb (dq da_X12_readAt 110 rfl) rfl ?_
                    exact xret_l E hr hlk w (by decide) (congrArg Prod.fst (os h)) (congrArg Prod.snd (os h)) (dq da_X12_readAt 111 rfl)
                  · have h := ie c9 h
                    refine lv_aload_n hx hb (dq da_X12_readAt 97 rfl) rfl (lv_at hl 2 rfl) ?_
                    refine gt_wM_0_threshold E w w_1103 (dq da_X12_readAt 98 rfl) ?_
                    refine lv_iload hx hb (dq da_X12_readAt 99 rfl) (lv_at hl 0 rfl) ?_
                    refine lv_bipush (v := 11) hx hb (dq da_X12_readAt 100 rfl) rfl ?_
                    refine lv_isub hx hb (dq da_X12_readAt 101 rfl) ?_
                    obtain ⟨hi12, h⟩ := oi h
                    refine ald_wM_5 E w hi12 (dq da_X12_readAt 102 rfl) ?_
                    refine lv_i2l (v := (gA u 3 ((f_X12_placeOf (x1 - (201326592 : Int64))) - (11 : Int32)).toNatClampNeg).toInt64) hx hb (dq da_X12_readAt 103 rfl) rfl ?_
                    refine lv_goto (tgt := 203) hx hb (dq da_X12_readAt 104 rfl) (by decide) ?_
                    exact xret_l E hr hlk w (by decide) (congrArg Prod.fst (os h)) (congrArg Prod.snd (os h)) (dq da_X12_readAt 111 rfl)
                · have h := ie c8 h
                  refine lv_aload_n hx hb (dq da_X12_readAt 86 rfl) rfl (lv_at hl 2 rfl) ?_
                  refine gt_wM_0_enable E w w_1102 (dq da_X12_readAt 87 rfl) ?_
                  refine lv_iload hx hb (dq da_X12_readAt 88 rfl) (lv_at hl 0 rfl) ?_
                  refine lv_bipush (v := 9) hx hb (dq da_X12_readAt 89 rfl) rfl ?_
                  refine lv_isub hx hb (dq da_X12_readAt 90 rfl) ?_
                  obtain ⟨hi13, h⟩ := oi h
                  refine ald_wM_4 E w hi13 (dq da_X12_readAt 91 rfl) ?_
                  refine lv_i2l (v := (gA u 2 ((f_X12_placeOf (x1 - (201326592 : Int64))) - (9 : Int32)).toNatClampNeg).toInt64) hx hb (dq da_X12_readAt 92 rfl) rfl ?_
                  refine lv_goto (tgt := 203) hx hb (dq da_X12_readAt 93 rfl) (by decide) ?_
                  exact xret_l E hr hlk w (by decide) (congrArg Prod.fst (os h)) (congrArg Prod.snd (os h)) (dq da_X12_readAt 111 rfl)
              · have h := it c7 h
                refine lv_aload_n hx hb (dq da_X12_readAt 79 rfl) rfl (lv_at hl 2 rfl) ?_
                refine gt_wM_0_pending E w w_1100 (dq da_X12_readAt 80 rfl) ?_
                refine lv_i2l (v := (gI u 5).toInt64) hx hb (dq da_X12_readAt 81 rfl) rfl ?_
                exact xret_l E hr hlk w (by decide) (congrArg Prod.fst (os h)) (congrArg Prod.snd (os h)) (dq da_X12_readAt 82 rfl)
            · have h := ie c6 h
              refine lv_aload_n hx hb (dq da_X12_readAt 70 rfl) rfl (lv_at hl 2 rfl) ?_
              refine gt_wM_0_priority E w w_1099 (dq da_X12_readAt 71 rfl) ?_
              refine lv_iload hx hb (dq da_X12_readAt 72 rfl) (lv_at hl 0 rfl) ?_
              obtain ⟨hi14, h⟩ := oi h
              refine ald_wM_3 E w hi14 (dq da_X12_readAt 73 rfl) ?_
              refine lv_i2l (v := (gA u 1 (f_X12_placeOf (x1 - (201326592 : Int64))).toNatClampNeg).toInt64) hx hb (dq da_X12_readAt 74 rfl) rfl ?_
              exact xret_l E hr hlk w (by decide) (congrArg Prod.fst (os h)) (congrArg Prod.snd (os h)) (dq da_X12_readAt 75 rfl)
          · have h := ie c5 h
            refine lv_aload_n hx hb (dq da_X12_readAt 52 rfl) rfl (lv_at hl 1 rfl) ?_
            refine gt_wM_0_time E w w_1098 (dq da_X12_readAt 53 rfl) ?_
            refine lv_bipush (v := 8) hx hb (dq da_X12_readAt 54 rfl) rfl ?_
            refine lv_lload hx hb (dq da_X12_readAt 55 rfl) (lv_at hl 0 rfl) ?_
            refine lv_ldc2 hx hb hown (hts _ w_1546) (dq da_X12_readAt 56 rfl) ?_
            refine lv_lsub hx hb (dq da_X12_readAt 57 rfl) ?_
            refine lv_l2i (v := ((x1 - (33554432 : Int64)) - (49144 : Int64)).toInt32) hx hb (dq da_X12_readAt 58 rfl) rfl ?_
            refine lv_imul hx hb (dq da_X12_readAt 59 rfl) ?_
            refine lv_lushr (v := (j_lushr (gL u 3) ((8 : Int32) * ((x1 - (33554432 : Int64)) - (49144 : Int64)).toInt32))) hx hb (dq da_X12_readAt 60 rfl) rfl ?_
            exact xret_l E hr hlk w (by decide) (congrArg Prod.fst (os h)) (congrArg Prod.snd (os h)) (dq da_X12_readAt 61 rfl)
        · have h := ie c4 h
          refine lv_aload_n hx hb (dq da_X12_readAt 37 rfl) rfl (lv_at hl 1 rfl) ?_
          refine gt_wM_0_compare E w w_1097 (dq da_X12_readAt 38 rfl) ?_
          refine lv_bipush (v := 8) hx hb (dq da_X12_readAt 39 rfl) rfl ?_
          refine lv_lload hx hb (dq da_X12_readAt 40 rfl) (lv_at hl 0 rfl) ?_
          refine lv_ldc2 hx hb hown (hts _ w_1544) (dq da_X12_readAt 41 rfl) ?_
          refine lv_lsub hx hb (dq da_X12_readAt 42 rfl) ?_
          refine lv_l2i (v := ((x1 - (33554432 : Int64)) - (16384 : Int64)).toInt32) hx hb (dq da_X12_readAt 43 rfl) rfl ?_
          refine lv_imul hx hb (dq da_X12_readAt 44 rfl) ?_
          refine lv_lushr (v := (j_lushr (gL u 2) ((8 : Int32) * ((x1 - (33554432 : Int64)) - (16384 : Int64)).toInt32))) hx hb (dq da_X12_readAt 45 rfl) rfl ?_
          exact xret_l E hr hlk w (by decide) (congrArg Prod.fst (os h)) (congrArg Prod.snd (os h)) (dq da_X12_readAt 46 rfl)
      · have h := it c3 h
        refine lv_aload_n hx hb (dq da_X12_readAt 28 rfl) rfl (lv_at hl 1 rfl) ?_
        refine gt_wM_0_soft E w w_1096 (dq da_X12_readAt 29 rfl) ?_
        refine lv_i2l (v := (gI u 4).toInt64) hx hb (dq da_X12_readAt 30 rfl) rfl ?_
        exact xret_l E hr hlk w (by decide) (congrArg Prod.fst (os h)) (congrArg Prod.snd (os h)) (dq da_X12_readAt 31 rfl)
    · have h := it c2 h
      refine lv_aload_n hx hb (dq da_X12_readAt 13 rfl) rfl (lv_at hl 0 rfl) ?_
      refine lv_lload_n hx hb (dq da_X12_readAt 14 rfl) rfl (lv_at hl 1 rfl) ?_
      refine lv_ldc2 hx hb hown (hts _ w_1560) (dq da_X12_readAt 15 rfl) ?_
      refine lv_lsub hx hb (dq da_X12_readAt 16 rfl) ?_
      refine lv_l2i (v := (x1 - (268435456 : Int64)).toInt32) hx hb (dq da_X12_readAt 17 rfl) rfl ?_
      obtain ⟨y15, hy16, h⟩ := ob h
      refine cV1 E (c_X12_lineAt l D cy ad _ _ hy16) w_1565 w_1567 w_p72 w_10 w_1568 rfl hd_X12_lineAt rfl hl.1 rfl (Nat.le_of_ble_eq_true rfl) ⟨Nat.le_of_ble_eq_true rfl, Nat.le_of_ble_eq_true rfl⟩ (by decide) w (rc_wM_0 w) (dq da_X12_readAt 18 rfl) (fun H locs rr w => ?_)
      exact xret_l E hr hlk w (by decide) (congrArg Prod.fst (os h)) (congrArg Prod.snd (os h)) (dq da_X12_readAt 19 rfl)
  · have h := ie c1 h
    refine lv_aload_n hx hb (dq da_X12_readAt 5 rfl) rfl (lv_at hl 0 rfl) ?_
    refine lv_lload_n hx hb (dq da_X12_readAt 6 rfl) rfl (lv_at hl 1 rfl) ?_
    refine lv_iload_n hx hb (dq da_X12_readAt 7 rfl) rfl (lv_at hl 2 rfl) ?_
    obtain ⟨y17, hy18, h⟩ := ob h
    refine cV1 E (c_X12_ramAt l D cy ad _ _ _ hy18) w_1322 w_1324 w_p48 w_10 w_1325 rfl hd_X12_ramAt rfl hl.1 rfl (Nat.le_of_ble_eq_true rfl) ⟨Nat.le_of_ble_eq_true rfl, Nat.le_of_ble_eq_true rfl⟩ (by decide) w (rc_wM_0 w) (dq da_X12_readAt 8 rfl) (fun H locs rr w => ?_)
    exact xret_l E hr hlk w (by decide) (congrArg Prod.fst (os h)) (congrArg Prod.snd (os h)) (dq da_X12_readAt 9 rfl)
def dl_X12_places : List (Nat × Instr × Nat) := [(0, .iload_n 1, 1), (1, .bipush 8, 2), (3, .if_icmp .ge 18, 3), (6, .aload_n 0, 1), (7, .getfield 33, 3), (10, .iload_n 1, 1), (11, .lload_n 2, 1), (12, .ldc2_w 127, 3), (15, .land, 1), (16, .l2i, 1), (17, .iastore, 1), (18, .goto 113, 3), (21, .iload_n 1, 1), (22, .bipush 9, 2), (24, .if_icmp .eq 9, 3), (27, .iload_n 1, 1), (28, .bipush 10, 2), (30, .if_icmp .ne 21, 3), (33, .aload_n 0, 1), (34, .getfield 37, 3), (37, .iload_n 1, 1), (38, .bipush 9, 2), (40, .isub, 1), (41, .lload_n 2, 1), (42, .ldc2_w 187, 3), (45, .land, 1), (46, .l2i, 1), (47, .iastore, 1), (48, .goto 83, 3), (51, .iload_n 1, 1), (52, .bipush 11, 2), (54, .if_icmp .eq 9, 3), (57, .iload_n 1, 1), (58, .bipush 12, 2), (60, .if_icmp .ne 21, 3), (63, .aload_n 0, 1), (64, .getfield 40, 3), (67, .iload_n 1, 1), (68, .bipush 11, 2), (70, .isub, 1), (71, .lload_n 2, 1), (72, .ldc2_w 127, 3), (75, .land, 1), (76, .l2i, 1), (77, .iastore, 1), (78, .goto 53, 3), (81, .iload_n 1, 1), (82, .bipush 12, 2), (84, .if_icmp .le 47, 3), (87, .lload_n 2, 1), (88, .lconst 1, 1), (89, .ldc2_w 127, 3), (92, .invokestatic 87, 3), (95, .ifCond .eq 36, 3), (98, .aload_n 0, 1), (99, .getfield 37, 3), (102, .iload_n 1, 1), (103, .bipush 13, 2), (105, .isub, 1), (106, .iaload, 1), (107, .lload_n 2, 1), (108, .l2i, 1), (109, .ishr, 1), (110, .iconst 1, 1), (111, .iand, 1), (112, .iconst 1, 1), (113, .if_icmp .ne 18, 3), (116, .aload_n 0, 1), (117, .dup, 1), (118, .getfield 80, 3), (121, .iconst 1, 1), (122, .lload_n 2, 1), (123, .l2i, 1), (124, .ishl, 1), (125, .iconst (-1), 1), (126, .ixor, 1), (127, .iand, 1), (128, .putfield 80, 3), (131, .return_, 1)]
theorem da_X12_places : dkL cX12_places dl_X12_places = true := by decide +kernel
def f_X12_places_b33 (x1 : Int32) (x2 : Int64) (u : St) : Option (St) := if inB (x1 - (9 : Int32)) (gN u 3) then (some (sA u 2 (x1 - (9 : Int32)).toNatClampNeg ((x2 &&& (254 : Int64)).toInt32))) else none
set_option maxRecDepth 100000 in
set_option maxHeartbeats 4000000 in
theorem b_X12_places_b33 {p : Program} {l : Launch} {e : Env} {s : State} {m : MethodId} {args : Array Value} {below : List Frame} {meth : Method} {c : Code} {D : va_G} {cy : ClassId × ClassId × ClassId} {ad : Nat → Nat} {A : Nat → Prop} (E : CallFix p m c cX12_places 4 s args gw RX12) (hr : meth.sig.returnType = none) (hlk : meth.locks = false) {x1 : Int32} {x2 : Int64} {u : St} {u' : St} (h : f_X12_places_b33 x1 x2 u = some u') {ls : Array Slot} {H : Heap} {locs : List Loc} {rr : Nat → Nat} (hl : lv_has ls 4 [(0, .ref (ad 0)), (1, .int x1), (2, .long x2)]) (w : WX (wM cy ad) D cy rr u A s H locs) : Wx (wM cy ad) D p l e 1 25 0 s m args below meth c A u' none H locs 0 33 ls [] := by
  have hx := E.1
  have hb := E.2.1
  have hown := E.2.2.2.1
  have hts := E.2.2.2.2
  refine lv_aload_n hx hb (dq da_X12_places 18 rfl) rfl (lv_at hl 0 rfl) ?_
  refine gt_wM_0_enable E w w_1102 (dq da_X12_places 19 rfl) ?_
  refine lv_iload_n hx hb (dq da_X12_places 20 rfl) rfl (lv_at hl 1 rfl) ?_
  refine lv_bipush (v := 9) hx hb (dq da_X12_places 21 rfl) rfl ?_
  refine lv_isub hx hb (dq da_X12_places 22 rfl) ?_
  refine lv_lload_n hx hb (dq da_X12_places 23 rfl) rfl (lv_at hl 2 rfl) ?_
  refine lv_ldc2 hx hb hown (hts _ w_1593) (dq da_X12_places 24 rfl) ?_
  refine lv_land hx hb (dq da_X12_places 25 rfl) ?_
  refine lv_l2i (v := (x2 &&& (254 : Int64)).toInt32) hx hb (dq da_X12_places 26 rfl) rfl ?_
  obtain ⟨hi3, h⟩ := oi h
  refine ast_wM_4 E w hi3 (dq da_X12_places 27 rfl) (fun H locs w => ?_)
  refine lv_goto (tgt := 131) hx hb (dq da_X12_places 28 rfl) (by decide) ?_
  exact xret_v E hr hlk w (by decide) (os h) (dq da_X12_places 78 rfl)
def f_X12_places_b63 (x1 : Int32) (x2 : Int64) (u : St) : Option (St) := if inB (x1 - (11 : Int32)) (gN u 4) then (some (sA u 3 (x1 - (11 : Int32)).toNatClampNeg ((x2 &&& (7 : Int64)).toInt32))) else none
set_option maxRecDepth 100000 in
set_option maxHeartbeats 4000000 in
theorem b_X12_places_b63 {p : Program} {l : Launch} {e : Env} {s : State} {m : MethodId} {args : Array Value} {below : List Frame} {meth : Method} {c : Code} {D : va_G} {cy : ClassId × ClassId × ClassId} {ad : Nat → Nat} {A : Nat → Prop} (E : CallFix p m c cX12_places 4 s args gw RX12) (hr : meth.sig.returnType = none) (hlk : meth.locks = false) {x1 : Int32} {x2 : Int64} {u : St} {u' : St} (h : f_X12_places_b63 x1 x2 u = some u') {ls : Array Slot} {H : Heap} {locs : List Loc} {rr : Nat → Nat} (hl : lv_has ls 4 [(0, .ref (ad 0)), (1, .int x1), (2, .long x2)]) (w : WX (wM cy ad) D cy rr u A s H locs) : Wx (wM cy ad) D p l e 1 25 0 s m args below meth c A u' none H locs 0 63 ls [] := by
  have hx := E.1
  have hb := E.2.1
  have hown := E.2.2.2.1
  have hts := E.2.2.2.2
  refine lv_aload_n hx hb (dq da_X12_places 35 rfl) rfl (lv_at hl 0 rfl) ?_
  refine gt_wM_0_threshold E w w_1103 (dq da_X12_places 36 rfl) ?_
  refine lv_iload_n hx hb (dq da_X12_places 37 rfl) rfl (lv_at hl 1 rfl) ?_
  refine lv_bipush (v := 11) hx hb (dq da_X12_places 38 rfl) rfl ?_
  refine lv_isub hx hb (dq da_X12_places 39 rfl) ?_
  refine lv_lload_n hx hb (dq da_X12_places 40 rfl) rfl (lv_at hl 2 rfl) ?_
  refine lv_ldc2 hx hb hown (hts _ w_1393) (dq da_X12_places 41 rfl) ?_
  refine lv_land hx hb (dq da_X12_places 42 rfl) ?_
  refine lv_l2i (v := (x2 &&& (7 : Int64)).toInt32) hx hb (dq da_X12_places 43 rfl) rfl ?_
  obtain ⟨hi6, h⟩ := oi h
  refine ast_wM_5 E w hi6 (dq da_X12_places 44 rfl) (fun H locs w => ?_)
  refine lv_goto (tgt := 131) hx hb (dq da_X12_places 45 rfl) (by decide) ?_
  exact xret_v E hr hlk w (by decide) (os h) (dq da_X12_places 78 rfl)
def f_X12_places (x1 : Int32) (x2 : Int64) (u : St) : Option (St) := if (8 : Int32) ≤ x1 then (if x1 = (9 : Int32) then (f_X12_places_b33 x1 x2 u) else (if x1 = (10 : Int32) then (f_X12_places_b33 x1 x2 u) else (if x1 = (11 : Int32) then (f_X12_places_b63 x1 x2 u) else (if x1 = (12 : Int32) then (f_X12_places_b63 x1 x2 u) else (if x1 ≤ (12 : Int32) then (some u) else (if (f_X12_in x2 (1 : Int64) (7 : Int64)) = (0 : Int32) then (some u) else (if inB (x1 - (13 : Int32)) (gN u 3) then (if (((gA u 2 (x1 - (13 : Int32)).toNatClampNeg) >>> (x2.toInt32 &&& 31)) &&& (1 : Int32)) = (1 : Int32) then (some (sI u 6 ((gI u 6) &&& (((1 : Int32) <<< (x2.toInt32 &&& 31)) ^^^ (-1 : Int32))))) else (some u)) else none))))))) else (if inB x1 (gN u 2) then (some (sA u 1 x1.toNatClampNeg ((x2 &&& (7 : Int64)).toInt32))) else none)
set_option maxRecDepth 100000 in
set_option maxHeartbeats 4000000 in
theorem c_X12_places (l : Launch) (D : va_G) (cy : ClassId × ClassId × ClassId) (ad : Nat → Nat) (x1 : Int32) (x2 : Int64) (u : St) {u' : St} (h : f_X12_places x1 x2 u = some u') : MX (wM cy ad) D cy l yX12_places cX12_places 4 (none) 1 25 0 [.ref (ad 0), .int x1, .long x2] u u' none := by
  refine entX (by decide +kernel) (Nat.le_of_ble_eq_true rfl) ?_
  intro p e s m args below meth c ls rr A E hr hlk hl w
  have hl : lv_has ls 4 [(0, .ref (ad 0)), (1, .int x1), (2, .long x2)] := hl
  have hx := E.1
  have hb := E.2.1
  have hown := E.2.2.2.1
  have hts := E.2.2.2.2
  refine lv_iload_n hx hb (dq da_X12_places 0 rfl) rfl (lv_at hl 1 rfl) ?_
  refine lv_bipush (v := 8) hx hb (dq da_X12_places 1 rfl) rfl ?_
  refine lv_icmp_ge (tgt := 21) hx hb (dq da_X12_places 2 rfl) (by decide) (fun c1 => ?_) (fun c1 => ?_)
  · have h := it c1 h
    refine lv_iload_n hx hb (dq da_X12_places 12 rfl) rfl (lv_at hl 1 rfl) ?_
    refine lv_bipush (v := 9) hx hb (dq da_X12_places 13 rfl) rfl ?_
    refine lv_icmp_eq (tgt := 33) hx hb (dq da_X12_places 14 rfl) (by decide) (fun c2 => ?_) (fun c2 => ?_)
    · have h := it c2 h
      exact b_X12_places_b33 E hr hlk h (lv_sub hl [0, 1, 2] rfl) w
    · have h := ie c2 h
      refine lv_iload_n hx hb (dq da_X12_places 15 rfl) rfl (lv_at hl 1 rfl) ?_
      refine lv_bipush (v := 10) hx hb (dq da_X12_places 16 rfl) rfl ?_
      refine lv_icmp_ne (tgt := 51) hx hb (dq da_X12_places 17 rfl) (by decide) (fun c4 => ?_) (fun c4 => ?_)
      · have h := ie c4 h
        refine lv_iload_n hx hb (dq da_X12_places 29 rfl) rfl (lv_at hl 1 rfl) ?_
        refine lv_bipush (v := 11) hx hb (dq da_X12_places 30 rfl) rfl ?_
        refine lv_icmp_eq (tgt := 63) hx hb (dq da_X12_places 31 rfl) (by decide) (fun c5 => ?_) (fun c5 => ?_)
        · have h := it c5 h
          exact b_X12_places_b63 E hr hlk h (lv_sub hl [0, 1, 2] rfl) w
        · have h := ie c5 h
          refine lv_iload_n hx hb (dq da_X12_places 32 rfl) rfl (lv_at hl 1 rfl) ?_
          refine lv_bipush (v := 12) hx hb (dq da_X12_places 33 rfl) rfl ?_
          refine lv_icmp_ne (tgt := 81) hx hb (dq da_X12_places 34 rfl) (by decide) (fun c7 => ?_) (fun c7 => ?_)
          · have h := ie c7 h
            refine lv_iload_n hx hb (dq da_X12_places 46 rfl) rfl (lv_at hl 1 rfl) ?_
            refine lv_bipush (v := 12) hx hb (dq da_X12_places 47 rfl) rfl ?_
            refine lv_icmp_le (tgt := 131) hx hb (dq da_X12_places 48 rfl) (by decide) (fun c8 => ?_) (fun c8 => ?_)
            · have h := it c8 h
              exact xret_v E hr hlk w (by decide) (os h) (dq da_X12_places 78 rfl)
            · have h := ie c8 h
              refine lv_lload_n hx hb (dq da_X12_places 49 rfl) rfl (lv_at hl 2 rfl) ?_
              refine lv_lconst (v := 1) hx hb (dq da_X12_places 50 rfl) rfl ?_
              refine lv_ldc2 hx hb hown (hts _ w_1393) (dq da_X12_places 51 rfl) ?_
              refine callP E (c_X12_in l _ _ _ ) w_1275 w_1276 w_10 w_1277 hd_X12_in rfl hl.1 rfl (Nat.le_of_ble_eq_true rfl) ⟨Nat.le_of_ble_eq_true rfl, Nat.le_of_ble_eq_true rfl⟩ (by decide) (dq da_X12_places 52 rfl) ?_
              refine lv_if_eq (tgt := 131) hx hb (dq da_X12_places 53 rfl) (by decide) (fun c9 => ?_) (fun c9 => ?_)
              · have h := it c9 h
                exact xret_v E hr hlk w (by decide) (os h) (dq da_X12_places 78 rfl)
              · have h := ie c9 h
                refine lv_aload_n hx hb (dq da_X12_places 54 rfl) rfl (lv_at hl 0 rfl) ?_
                refine gt_wM_0_enable E w w_1102 (dq da_X12_places 55 rfl) ?_
                refine lv_iload_n hx hb (dq da_X12_places 56 rfl) rfl (lv_at hl 1 rfl) ?_
                refine lv_bipush (v := 13) hx hb (dq da_X12_places 57 rfl) rfl ?_
                refine lv_isub hx hb (dq da_X12_places 58 rfl) ?_
                obtain ⟨hi10, h⟩ := oi h
                refine ald_wM_4 E w hi10 (dq da_X12_places 59 rfl) ?_
                refine lv_lload_n hx hb (dq da_X12_places 60 rfl) rfl (lv_at hl 2 rfl) ?_
                refine lv_l2i (v := x2.toInt32) hx hb (dq da_X12_places 61 rfl) rfl ?_
                refine lv_ishr hx hb (dq da_X12_places 62 rfl) ?_
                refine lv_iconst (v := 1) hx hb (dq da_X12_places 63 rfl) rfl ?_
                refine lv_iand hx hb (dq da_X12_places 64 rfl) ?_
                refine lv_iconst (v := 1) hx hb (dq da_X12_places 65 rfl) rfl ?_
                refine lv_icmp_ne (tgt := 131) hx hb (dq da_X12_places 66 rfl) (by decide) (fun c11 => ?_) (fun c11 => ?_)
                · have h := ie c11 h
                  exact xret_v E hr hlk w (by decide) (os h) (dq da_X12_places 78 rfl)
                · have h := it c11 h
                  refine lv_aload_n hx hb (dq da_X12_places 67 rfl) rfl (lv_at hl 0 rfl) ?_
                  refine lv_dup hx hb (dq da_X12_places 68 rfl) rfl ?_
                  refine gt_wM_0_claimed E w w_1101 (dq da_X12_places 69 rfl) ?_
                  refine lv_iconst (v := 1) hx hb (dq da_X12_places 70 rfl) rfl ?_
                  refine lv_lload_n hx hb (dq da_X12_places 71 rfl) rfl (lv_at hl 2 rfl) ?_
                  refine lv_l2i (v := x2.toInt32) hx hb (dq da_X12_places 72 rfl) rfl ?_
                  refine lv_ishl hx hb (dq da_X12_places 73 rfl) ?_
                  refine lv_iconst (v := (-1)) hx hb (dq da_X12_places 74 rfl) rfl ?_
                  refine lv_ixor hx hb (dq da_X12_places 75 rfl) ?_
                  refine lv_iand hx hb (dq da_X12_places 76 rfl) ?_
                  refine pt_wM_0_claimed E w w_1101 (dq da_X12_places 77 rfl) (fun H locs w => ?_)
                  exact xret_v E hr hlk w (by decide) (os h) (dq da_X12_places 78 rfl)
          · have h := it c7 h
            exact b_X12_places_b63 E hr hlk h (lv_sub hl [0, 1, 2] rfl) w
      · have h := it c4 h
        exact b_X12_places_b33 E hr hlk h (lv_sub hl [0, 1, 2] rfl) w
  · have h := ie c1 h
    refine lv_aload_n hx hb (dq da_X12_places 3 rfl) rfl (lv_at hl 0 rfl) ?_
    refine gt_wM_0_priority E w w_1099 (dq da_X12_places 4 rfl) ?_
    refine lv_iload_n hx hb (dq da_X12_places 5 rfl) rfl (lv_at hl 1 rfl) ?_
    refine lv_lload_n hx hb (dq da_X12_places 6 rfl) rfl (lv_at hl 2 rfl) ?_
    refine lv_ldc2 hx hb hown (hts _ w_1393) (dq da_X12_places 7 rfl) ?_
    refine lv_land hx hb (dq da_X12_places 8 rfl) ?_
    refine lv_l2i (v := (x2 &&& (7 : Int64)).toInt32) hx hb (dq da_X12_places 9 rfl) rfl ?_
    obtain ⟨hi12, h⟩ := oi h
    refine ast_wM_3 E w hi12 (dq da_X12_places 10 rfl) (fun H locs w => ?_)
    refine lv_goto (tgt := 131) hx hb (dq da_X12_places 11 rfl) (by decide) ?_
    exact xret_v E hr hlk w (by decide) (os h) (dq da_X12_places 78 rfl)
def dl_X12_writeAt : List (Nat × Instr × Nat) := [(0, .aload_n 0, 1), (1, .lload_n 1, 1), (2, .iload_n 3, 1), (3, .invokevirtual 103, 3), (6, .ifCond .eq 51, 3), (9, .aload_n 0, 1), (10, .lload_n 1, 1), (11, .iload_n 3, 1), (12, .lload 4, 2), (14, .invokevirtual 166, 3), (17, .aload_n 0, 1), (18, .getfield 170, 3), (21, .ifCond .le 35, 3), (24, .lload_n 1, 1), (25, .aload_n 0, 1), (26, .getfield 173, 3), (29, .aload_n 0, 1), (30, .getfield 170, 3), (33, .i2l, 1), (34, .ladd, 1), (35, .lcmp, 1), (36, .ifCond .ge 20, 3), (39, .aload_n 0, 1), (40, .getfield 173, 3), (43, .lload_n 1, 1), (44, .iload_n 3, 1), (45, .i2l, 1), (46, .ladd, 1), (47, .lcmp, 1), (48, .ifCond .ge 8, 3), (51, .aload_n 0, 1), (52, .iconst 0, 1), (53, .putfield 170, 3), (56, .return_, 1), (57, .iload_n 3, 1), (58, .iconst 1, 1), (59, .if_icmp .ne 67, 3), (62, .lload_n 1, 1), (63, .ldc2_w 125, 3), (66, .lsub, 1), (67, .l2i, 1), (68, .istore 6, 2), (70, .iload 6, 2), (72, .ifCond .ne 36, 3), (75, .aload_n 0, 1), (76, .getfield 176, 3), (79, .sipush 4096, 3), (82, .if_icmp .ge 26, 3), (85, .aload_n 0, 1), (86, .getfield 50, 3), (89, .aload_n 0, 1), (90, .getfield 176, 3), (93, .lload 4, 2), (95, .l2i, 1), (96, .i2b, 1), (97, .bastore, 1), (98, .aload_n 0, 1), (99, .dup, 1), (100, .getfield 176, 3), (103, .iconst 1, 1), (104, .iadd, 1), (105, .putfield 176, 3), (108, .iload 6, 2), (110, .iconst 1, 1), (111, .if_icmp .ne 14, 3), (114, .aload_n 0, 1), (115, .lload 4, 2), (117, .ldc2_w 75, 3), (120, .land, 1), (121, .l2i, 1), (122, .putfield 151, 3), (125, .return_, 1), (126, .lload_n 1, 1), (127, .ldc2_w 107, 3), (130, .lsub, 1), (131, .lstore 6, 2), (133, .lload 6, 2), (135, .lconst 0, 1), (136, .lcmp, 1), (137, .ifCond .ne 15, 3), (140, .aload_n 0, 1), (141, .lload 4, 2), (143, .lconst 1, 1), (144, .land, 1), (145, .l2i, 1), (146, .putfield 137, 3), (149, .goto 97, 3), (152, .lload 6, 2), (154, .ldc2_w 109, 3), (157, .ldc2_w 140, 3), (160, .invokestatic 87, 3), (163, .ifCond .eq 27, 3), (166, .aload_n 0, 1), (167, .aload_n 0, 1), (168, .getfield 30, 3), (171, .lload 4, 2), (173, .iload_n 3, 1), (174, .lload 6, 2), (176, .ldc2_w 109, 3), (179, .lsub, 1), (180, .l2i, 1), (181, .invokestatic 179, 3), (184, .putfield 30, 3), (187, .goto 59, 3), (190, .lload 6, 2), (192, .ldc2_w 113, 3), (195, .ldc2_w 142, 3), (198, .invokestatic 87, 3), (201, .ifCond .eq 27, 3), (204, .aload_n 0, 1), (205, .aload_n 0, 1), (206, .getfield 144, 3), (209, .lload 4, 2), (211, .iload_n 3, 1), (212, .lload 6, 2), (214, .ldc2_w 113, 3), (217, .lsub, 1), (218, .l2i, 1), (219, .invokestatic 179, 3), (222, .putfield 144, 3), (225, .goto 21, 3), (228, .aload_n 0, 1), (229, .lload_n 1, 1), (230, .ldc2_w 117, 3), (233, .lsub, 1), (234, .invokestatic 119, 3), (237, .lload 4, 2), (239, .ldc2_w 164, 3), (242, .land, 1), (243, .invokevirtual 183, 3), (246, .return_, 1)]
theorem da_X12_writeAt : dkL cX12_writeAt dl_X12_writeAt = true := by decide +kernel
def f_X12_writeAt_b108 (x4 : Int64) (x6 : Int32) (u : St) : Option (St) := if x6 = (1 : Int32) then (some (sI u 12 ((x4 &&& (255 : Int64)).toInt32))) else (some u)
set_option maxRecDepth 100000 in
set_option maxHeartbeats 4000000 in
theorem b_X12_writeAt_b108 {p : Program} {l : Launch} {e : Env} {s : State} {m : MethodId} {args : Array Value} {below : List Frame} {meth : Method} {c : Code} {D : va_G} {cy : ClassId × ClassId × ClassId} {ad : Nat → Nat} {A : Nat → Prop} (E : CallFix p m c cX12_writeAt 8 s args gw RX12) (hr : meth.sig.returnType = none) (hlk : meth.locks = false) {x4 : Int64} {x6 : Int32} {u : St} {u' : St} (h : f_X12_writeAt_b108 x4 x6 u = some u') {ls : Array Slot} {H : Heap} {locs : List Loc} {rr : Nat → Nat} (hl : lv_has ls 8 [(0, .ref (ad 0)), (4, .long x4), (6, .int x6)]) (w : WX (wM cy ad) D cy rr u A s H locs) : Wx (wM cy ad) D p l e 2 48 0 s m args below meth c A u' none H locs 0 108 ls [] := by
  have hx := E.1
  have hb := E.2.1
  have hown := E.2.2.2.1
  have hts := E.2.2.2.2
  refine lv_iload hx hb (dq da_X12_writeAt 62 rfl) (lv_at hl 2 rfl) ?_
  refine lv_iconst (v := 1) hx hb (dq da_X12_writeAt 63 rfl) rfl ?_
  refine lv_icmp_ne (tgt := 125) hx hb (dq da_X12_writeAt 64 rfl) (by decide) (fun c9 => ?_) (fun c9 => ?_)
  · have h := ie c9 h
    exact xret_v E hr hlk w (by decide) (os h) (dq da_X12_writeAt 71 rfl)
  · have h := it c9 h
    refine lv_aload_n hx hb (dq da_X12_writeAt 65 rfl) rfl (lv_at hl 0 rfl) ?_
    refine lv_lload hx hb (dq da_X12_writeAt 66 rfl) (lv_at hl 1 rfl) ?_
    refine lv_ldc2 hx hb hown (hts _ w_1264) (dq da_X12_writeAt 67 rfl) ?_
    refine lv_land hx hb (dq da_X12_writeAt 68 rfl) ?_
    refine lv_l2i (v := (x4 &&& (255 : Int64)).toInt32) hx hb (dq da_X12_writeAt 69 rfl) rfl ?_
    refine pt_wM_0_lineEnable E w w_1112 (dq da_X12_writeAt 70 rfl) (fun H locs w => ?_)
    exact xret_v E hr hlk w (by decide) (os h) (dq da_X12_writeAt 71 rfl)
def f_X12_writeAt (x1 : Int64) (x3 : Int32) (x4 : Int64) (u : St) : Option (St) := if (f_X12_isRam x1 x3 u) = (0 : Int32) then (if x3 = (1 : Int32) then (if (x1 - (268435456 : Int64)).toInt32 = (0 : Int32) then (if (4096 : Int32) ≤ (gI u 11) then (f_X12_writeAt_b108 x4 ((x1 - (268435456 : Int64)).toInt32) u) else (if inB (gI u 11) (gN u 7) then (f_X12_writeAt_b108 x4 ((x1 - (268435456 : Int64)).toInt32) (sI (sA u 6 (gI u 11).toNatClampNeg (vp_nar .byte x4.toInt32.toInt8.toInt32)) 11 ((gI (sA u 6 (gI u 11).toNatClampNeg (vp_nar .byte x4.toInt32.toInt8.toInt32)) 11) + (1 : Int32)))) else none)) else (f_X12_writeAt_b108 x4 ((x1 - (268435456 : Int64)).toInt32) u)) else (if (x1 - (33554432 : Int64)) = (0 : Int64) then (some (sI u 4 ((x4 &&& (1 : Int64)).toInt32))) else (if (f_X12_in (x1 - (33554432 : Int64)) (16384 : Int64) (16391 : Int64)) = (0 : Int32) then (if (f_X12_in (x1 - (33554432 : Int64)) (49144 : Int64) (49151 : Int64)) = (0 : Int32) then ((f_X12_places (f_X12_placeOf (x1 - (201326592 : Int64))) (x4 &&& (4294967295 : Int64)) u).bind (fun y6 => some y6)) else (some (sL u 3 (f_X12_mix (gL u 3) x4 x3 (((x1 - (33554432 : Int64)) - (49144 : Int64)).toInt32))))) else (some (sL u 2 (f_X12_mix (gL u 2) x4 x3 (((x1 - (33554432 : Int64)) - (16384 : Int64)).toInt32))))))) else ((f_X12_setRam x1 x3 x4 u).bind (fun y12 => if (gI y12 3) ≤ (0 : Int32) then (some y12) else (if ((gL y12 1) + (gI y12 3).toInt64) ≤ x1 then (some y12) else (if (x1 + x3.toInt64) ≤ (gL y12 1) then (some y12) else (some (sI y12 3 (0 : Int32)))))))
set_option maxRecDepth 100000 in
set_option maxHeartbeats 4000000 in
theorem c_X12_writeAt (l : Launch) (D : va_G) (cy : ClassId × ClassId × ClassId) (ad : Nat → Nat) (x1 : Int64) (x3 : Int32) (x4 : Int64) (u : St) {u' : St} (h : f_X12_writeAt x1 x3 x4 u = some u') : MX (wM cy ad) D cy l yX12_writeAt cX12_writeAt 8 (none) 2 48 0 [.ref (ad 0), .long x1, .int x3, .long x4] u u' none := by
  refine entX (by decide +kernel) (Nat.le_of_ble_eq_true rfl) ?_
  intro p e s m args below meth c ls rr A E hr hlk hl w
  have hl : lv_has ls 8 [(0, .ref (ad 0)), (1, .long x1), (3, .int x3), (4, .long x4)] := hl
  have hx := E.1
  have hb := E.2.1
  have hown := E.2.2.2.1
  have hts := E.2.2.2.2
  refine lv_aload_n hx hb (dq da_X12_writeAt 0 rfl) rfl (lv_at hl 0 rfl) ?_
  refine lv_lload_n hx hb (dq da_X12_writeAt 1 rfl) rfl (lv_at hl 1 rfl) ?_
  refine lv_iload_n hx hb (dq da_X12_writeAt 2 rfl) rfl (lv_at hl 2 rfl) ?_
  refine cV1 E (c_X12_isRam l D cy ad _ _ _ ) w_1286 w_1288 w_p44 w_10 w_1289 rfl hd_X12_isRam rfl hl.1 rfl (Nat.le_of_ble_eq_true rfl) ⟨Nat.le_of_ble_eq_true rfl, Nat.le_of_ble_eq_true rfl⟩ (by decide) w (rc_wM_0 w) (dq da_X12_writeAt 3 rfl) (fun H locs rr w => ?_)
  refine lv_if_eq (tgt := 57) hx hb (dq da_X12_writeAt 4 rfl) (by decide) (fun c1 => ?_) (fun c1 => ?_)
  · have h := it c1 h
    refine lv_iload_n hx hb (dq da_X12_writeAt 34 rfl) rfl (lv_at hl 2 rfl) ?_
    refine lv_iconst (v := 1) hx hb (dq da_X12_writeAt 35 rfl) rfl ?_
    refine lv_icmp_ne (tgt := 126) hx hb (dq da_X12_writeAt 36 rfl) (by decide) (fun c2 => ?_) (fun c2 => ?_)
    · have h := ie c2 h
      refine lv_lload_n hx hb (dq da_X12_writeAt 72 rfl) rfl (lv_at hl 1 rfl) ?_
      refine lv_ldc2 hx hb hown (hts _ w_1543) (dq da_X12_writeAt 73 rfl) ?_
      refine lv_lsub hx hb (dq da_X12_writeAt 74 rfl) ?_
      refine lv_lstore (lv' := [(6, .long (x1 - (33554432 : Int64))), (0, .ref (ad 0)), (1, .long x1), (3, .int x3), (4, .long x4)]) hx hb (dq da_X12_writeAt 75 rfl) hl (by decide) rfl (fun ls hl => ?_)
      refine lv_lload hx hb (dq da_X12_writeAt 76 rfl) (lv_at hl 0 rfl) ?_
      refine lv_lconst (v := 0) hx hb (dq da_X12_writeAt 77 rfl) rfl ?_
      refine lc_ne (tgt := 152) hx hb (dq da_X12_writeAt 78 rfl) (dq da_X12_writeAt 79 rfl) (by decide) (fun c3 => ?_) (fun c3 => ?_)
      · have h := ie c3 h
        refine lv_lload hx hb (dq da_X12_writeAt 87 rfl) (lv_at hl 0 rfl) ?_
        refine lv_ldc2 hx hb hown (hts _ w_1544) (dq da_X12_writeAt 88 rfl) ?_
        refine lv_ldc2 hx hb hown (hts _ w_1571) (dq da_X12_writeAt 89 rfl) ?_
        refine callP E (c_X12_in l _ _ _ ) w_1275 w_1276 w_10 w_1277 hd_X12_in rfl hl.1 rfl (Nat.le_of_ble_eq_true rfl) ⟨Nat.le_of_ble_eq_true rfl, Nat.le_of_ble_eq_true rfl⟩ (by decide) (dq da_X12_writeAt 90 rfl) ?_
        refine lv_if_eq (tgt := 190) hx hb (dq da_X12_writeAt 91 rfl) (by decide) (fun c4 => ?_) (fun c4 => ?_)
        · have h := it c4 h
          refine lv_lload hx hb (dq da_X12_writeAt 104 rfl) (lv_at hl 0 rfl) ?_
          refine lv_ldc2 hx hb hown (hts _ w_1546) (dq da_X12_writeAt 105 rfl) ?_
          refine lv_ldc2 hx hb hown (hts _ w_1572) (dq da_X12_writeAt 106 rfl) ?_
          refine callP E (c_X12_in l _ _ _ ) w_1275 w_1276 w_10 w_1277 hd_X12_in rfl hl.1 rfl (Nat.le_of_ble_eq_true rfl) ⟨Nat.le_of_ble_eq_true rfl, Nat.le_of_ble_eq_true rfl⟩ (by decide) (dq da_X12_writeAt 107 rfl) ?_
          refine lv_if_eq (tgt := 228) hx hb (dq da_X12_writeAt 108 rfl) (by decide) (fun c5 => ?_) (fun c5 => ?_)
          · have h := it c5 h
            refine lv_aload_n hx hb (dq da_X12_writeAt 121 rfl) rfl (lv_at hl 1 rfl) ?_
            refine lv_lload_n hx hb (dq da_X12_writeAt 122 rfl) rfl (lv_at hl 2 rfl) ?_
            refine lv_ldc2 hx hb hown (hts _ w_1548) (dq da_X12_writeAt 123 rfl) ?_
            refine lv_lsub hx hb (dq da_X12_writeAt 124 rfl) ?_
            refine callP E (c_X12_placeOf l _ ) w_1549 w_1550 w_10 w_1551 hd_X12_placeOf rfl hl.1 rfl (Nat.le_of_ble_eq_true rfl) ⟨Nat.le_of_ble_eq_true rfl, Nat.le_of_ble_eq_true rfl⟩ (by decide) (dq da_X12_writeAt 125 rfl) ?_
            refine lv_lload hx hb (dq da_X12_writeAt 126 rfl) (lv_at hl 4 rfl) ?_
            refine lv_ldc2 hx hb hown (hts _ w_1588) (dq da_X12_writeAt 127 rfl) ?_
            refine lv_land hx hb (dq da_X12_writeAt 128 rfl) ?_
            obtain ⟨y6, hy7, h⟩ := ob h
            refine cV0 E (c_X12_places l D cy ad _ _ _ hy7) w_1589 w_1591 w_p76 w_10 w_1592 rfl hd_X12_places rfl hl.1 rfl (Nat.le_of_ble_eq_true rfl) ⟨Nat.le_of_ble_eq_true rfl, Nat.le_of_ble_eq_true rfl⟩ (by decide) w (rc_wM_0 w) (dq da_X12_writeAt 129 rfl) (fun H locs rr w => ?_)
            exact xret_v E hr hlk w (by decide) (os h) (dq da_X12_writeAt 130 rfl)
          · have h := ie c5 h
            refine lv_aload_n hx hb (dq da_X12_writeAt 109 rfl) rfl (lv_at hl 1 rfl) ?_
            refine lv_aload_n hx hb (dq da_X12_writeAt 110 rfl) rfl (lv_at hl 1 rfl) ?_
            refine gt_wM_0_time E w w_1098 (dq da_X12_writeAt 111 rfl) ?_
            refine lv_lload hx hb (dq da_X12_writeAt 112 rfl) (lv_at hl 4 rfl) ?_
            refine lv_iload_n hx hb (dq da_X12_writeAt 113 rfl) rfl (lv_at hl 3 rfl) ?_
            refine lv_lload hx hb (dq da_X12_writeAt 114 rfl) (lv_at hl 0 rfl) ?_
            refine lv_ldc2 hx hb hown (hts _ w_1546) (dq da_X12_writeAt 115 rfl) ?_
            refine lv_lsub hx hb (dq da_X12_writeAt 116 rfl) ?_
            refine lv_l2i (v := ((x1 - (33554432 : Int64)) - (49144 : Int64)).toInt32) hx hb (dq da_X12_writeAt 117 rfl) rfl ?_
            refine callP E (c_X12_mix l _ _ _ _ ) w_1585 w_1586 w_10 w_1587 hd_X12_mix rfl hl.1 rfl (Nat.le_of_ble_eq_true rfl) ⟨Nat.le_of_ble_eq_true rfl, Nat.le_of_ble_eq_true rfl⟩ (by decide) (dq da_X12_writeAt 118 rfl) ?_
            refine pt_wM_0_time E w w_1098 (dq da_X12_writeAt 119 rfl) (fun H locs w => ?_)
            refine lv_goto (tgt := 246) hx hb (dq da_X12_writeAt 120 rfl) (by decide) ?_
            exact xret_v E hr hlk w (by decide) (os h) (dq da_X12_writeAt 130 rfl)
        · have h := ie c4 h
          refine lv_aload_n hx hb (dq da_X12_writeAt 92 rfl) rfl (lv_at hl 1 rfl) ?_
          refine lv_aload_n hx hb (dq da_X12_writeAt 93 rfl) rfl (lv_at hl 1 rfl) ?_
          refine gt_wM_0_compare E w w_1097 (dq da_X12_writeAt 94 rfl) ?_
          refine lv_lload hx hb (dq da_X12_writeAt 95 rfl) (lv_at hl 4 rfl) ?_
          refine lv_iload_n hx hb (dq da_X12_writeAt 96 rfl) rfl (lv_at hl 3 rfl) ?_
          refine lv_lload hx hb (dq da_X12_writeAt 97 rfl) (lv_at hl 0 rfl) ?_
          refine lv_ldc2 hx hb hown (hts _ w_1544) (dq da_X12_writeAt 98 rfl) ?_
          refine lv_lsub hx hb (dq da_X12_writeAt 99 rfl) ?_
          refine lv_l2i (v := ((x1 - (33554432 : Int64)) - (16384 : Int64)).toInt32) hx hb (dq da_X12_writeAt 100 rfl) rfl ?_
          refine callP E (c_X12_mix l _ _ _ _ ) w_1585 w_1586 w_10 w_1587 hd_X12_mix rfl hl.1 rfl (Nat.le_of_ble_eq_true rfl) ⟨Nat.le_of_ble_eq_true rfl, Nat.le_of_ble_eq_true rfl⟩ (by decide) (dq da_X12_writeAt 101 rfl) ?_
          refine pt_wM_0_compare E w w_1097 (dq da_X12_writeAt 102 rfl) (fun H locs w => ?_)
          refine lv_goto (tgt := 246) hx hb (dq da_X12_writeAt 103 rfl) (by decide) ?_
          exact xret_v E hr hlk w (by decide) (os h) (dq da_X12_writeAt 130 rfl)
      · have h := it c3 h
        refine lv_aload_n hx hb (dq da_X12_writeAt 80 rfl) rfl (lv_at hl 1 rfl) ?_
        refine lv_lload hx hb (dq da_X12_writeAt 81 rfl) (lv_at hl 4 rfl) ?_
        refine lv_lconst (v := 1) hx hb (dq da_X12_writeAt 82 rfl) rfl ?_
        refine lv_land hx hb (dq da_X12_writeAt 83 rfl) ?_
        refine lv_l2i (v := (x4 &&& (1 : Int64)).toInt32) hx hb (dq da_X12_writeAt 84 rfl) rfl ?_
        refine pt_wM_0_soft E w w_1096 (dq da_X12_writeAt 85 rfl) (fun H locs w => ?_)
        refine lv_goto (tgt := 246) hx hb (dq da_X12_writeAt 86 rfl) (by decide) ?_
        exact xret_v E hr hlk w (by decide) (os h) (dq da_X12_writeAt 130 rfl)
    · have h := it c2 h
      refine lv_lload_n hx hb (dq da_X12_writeAt 37 rfl) rfl (lv_at hl 1 rfl) ?_
      refine lv_ldc2 hx hb hown (hts _ w_1560) (dq da_X12_writeAt 38 rfl) ?_
      refine lv_lsub hx hb (dq da_X12_writeAt 39 rfl) ?_
      refine lv_l2i (v := (x1 - (268435456 : Int64)).toInt32) hx hb (dq da_X12_writeAt 40 rfl) rfl ?_
      refine lv_istore (lv' := [(6, .int ((x1 - (268435456 : Int64)).toInt32)), (0, .ref (ad 0)), (1, .long x1), (3, .int x3), (4, .long x4)]) hx hb (dq da_X12_writeAt 41 rfl) hl (by decide) rfl (fun ls hl => ?_)
      refine lv_iload hx hb (dq da_X12_writeAt 42 rfl) (lv_at hl 0 rfl) ?_
      refine lv_if_ne (tgt := 108) hx hb (dq da_X12_writeAt 43 rfl) (by decide) (fun c8 => ?_) (fun c8 => ?_)
      · have h := ie c8 h
        exact b_X12_writeAt_b108 E hr hlk h (lv_sub hl [1, 4, 0] rfl) w
      · have h := it c8 h
        refine lv_aload_n hx hb (dq da_X12_writeAt 44 rfl) rfl (lv_at hl 1 rfl) ?_
        refine gt_wM_0_sent E w w_1111 (dq da_X12_writeAt 45 rfl) ?_
        refine lv_sipush (v := 4096) hx hb (dq da_X12_writeAt 46 rfl) rfl ?_
        refine lv_icmp_ge (tgt := 108) hx hb (dq da_X12_writeAt 47 rfl) (by decide) (fun c10 => ?_) (fun c10 => ?_)
        · have h := it c10 h
          exact b_X12_writeAt_b108 E hr hlk h (lv_sub hl [1, 4, 0] rfl) w
        · have h := ie c10 h
          refine lv_aload_n hx hb (dq da_X12_writeAt 48 rfl) rfl (lv_at hl 1 rfl) ?_
          refine gt_wM_0_output E w w_1110 (dq da_X12_writeAt 49 rfl) ?_
          refine lv_aload_n hx hb (dq da_X12_writeAt 50 rfl) rfl (lv_at hl 1 rfl) ?_
          refine gt_wM_0_sent E w w_1111 (dq da_X12_writeAt 51 rfl) ?_
          refine lv_lload hx hb (dq da_X12_writeAt 52 rfl) (lv_at hl 4 rfl) ?_
          refine lv_l2i (v := x4.toInt32) hx hb (dq da_X12_writeAt 53 rfl) rfl ?_
          refine lv_i2b (v := x4.toInt32.toInt8.toInt32) hx hb (dq da_X12_writeAt 54 rfl) rfl ?_
          obtain ⟨hi11, h⟩ := oi h
          refine ast_wM_8 E w hi11 (dq da_X12_writeAt 55 rfl) (fun H locs w => ?_)
          refine lv_aload_n hx hb (dq da_X12_writeAt 56 rfl) rfl (lv_at hl 1 rfl) ?_
          refine lv_dup hx hb (dq da_X12_writeAt 57 rfl) rfl ?_
          refine gt_wM_0_sent E w w_1111 (dq da_X12_writeAt 58 rfl) ?_
          refine lv_iconst (v := 1) hx hb (dq da_X12_writeAt 59 rfl) rfl ?_
          refine lv_iadd hx hb (dq da_X12_writeAt 60 rfl) ?_
          refine pt_wM_0_sent E w w_1111 (dq da_X12_writeAt 61 rfl) (fun H locs w => ?_)
          exact b_X12_writeAt_b108 E hr hlk h (lv_sub hl [1, 4, 0] rfl) w
  · have h := ie c1 h
    refine lv_aload_n hx hb (dq da_X12_writeAt 5 rfl) rfl (lv_at hl 0 rfl) ?_
    refine lv_lload_n hx hb (dq da_X12_writeAt 6 rfl) rfl (lv_at hl 1 rfl) ?_
    refine lv_iload_n hx hb (dq da_X12_writeAt 7 rfl) rfl (lv_at hl 2 rfl) ?_
    refine lv_lload hx hb (dq da_X12_writeAt 8 rfl) (lv_at hl 3 rfl) ?_
    obtain ⟨y12, hy13, h⟩ := ob h
    refine cV0 E (c_X12_setRam l D cy ad _ _ _ _ hy13) w_1314 w_1316 w_p47 w_10 w_1317 rfl hd_X12_setRam rfl hl.1 rfl (Nat.le_of_ble_eq_true rfl) ⟨Nat.le_of_ble_eq_true rfl, Nat.le_of_ble_eq_true rfl⟩ (by decide) w (rc_wM_0 w) (dq da_X12_writeAt 9 rfl) (fun H locs rr w => ?_)
    refine lv_aload_n hx hb (dq da_X12_writeAt 10 rfl) rfl (lv_at hl 0 rfl) ?_
    refine gt_wM_0_heldSize E w w_1095 (dq da_X12_writeAt 11 rfl) ?_
    refine lv_if_le (tgt := 56) hx hb (dq da_X12_writeAt 12 rfl) (by decide) (fun c14 => ?_) (fun c14 => ?_)
    · have h := it c14 h
      exact xret_v E hr hlk w (by decide) (os h) (dq da_X12_writeAt 33 rfl)
    · have h := ie c14 h
      refine lv_lload_n hx hb (dq da_X12_writeAt 13 rfl) rfl (lv_at hl 1 rfl) ?_
      refine lv_aload_n hx hb (dq da_X12_writeAt 14 rfl) rfl (lv_at hl 0 rfl) ?_
      refine gt_wM_0_held E w w_1094 (dq da_X12_writeAt 15 rfl) ?_
      refine lv_aload_n hx hb (dq da_X12_writeAt 16 rfl) rfl (lv_at hl 0 rfl) ?_
      refine gt_wM_0_heldSize E w w_1095 (dq da_X12_writeAt 17 rfl) ?_
      refine lv_i2l (v := (gI y12 3).toInt64) hx hb (dq da_X12_writeAt 18 rfl) rfl ?_
      refine lv_ladd hx hb (dq da_X12_writeAt 19 rfl) ?_
      refine lc_ge (tgt := 56) hx hb (dq da_X12_writeAt 20 rfl) (dq da_X12_writeAt 21 rfl) (by decide) (fun c15 => ?_) (fun c15 => ?_)
      · have h := it c15 h
        exact xret_v E hr hlk w (by decide) (os h) (dq da_X12_writeAt 33 rfl)
      · have h := ie c15 h
        refine lv_aload_n hx hb (dq da_X12_writeAt 22 rfl) rfl (lv_at hl 0 rfl) ?_
        refine gt_wM_0_held E w w_1094 (dq da_X12_writeAt 23 rfl) ?_
        refine lv_lload_n hx hb (dq da_X12_writeAt 24 rfl) rfl (lv_at hl 1 rfl) ?_
        refine lv_iload_n hx hb (dq da_X12_writeAt 25 rfl) rfl (lv_at hl 2 rfl) ?_
        refine lv_i2l (v := x3.toInt64) hx hb (dq da_X12_writeAt 26 rfl) rfl ?_
        refine lv_ladd hx hb (dq da_X12_writeAt 27 rfl) ?_
        refine lc_ge (tgt := 56) hx hb (dq da_X12_writeAt 28 rfl) (dq da_X12_writeAt 29 rfl) (by decide) (fun c16 => ?_) (fun c16 => ?_)
        · have h := it c16 h
          exact xret_v E hr hlk w (by decide) (os h) (dq da_X12_writeAt 33 rfl)
        · have h := ie c16 h
          refine lv_aload_n hx hb (dq da_X12_writeAt 30 rfl) rfl (lv_at hl 0 rfl) ?_
          refine lv_iconst (v := 0) hx hb (dq da_X12_writeAt 31 rfl) rfl ?_
          refine pt_wM_0_heldSize E w w_1095 (dq da_X12_writeAt 32 rfl) (fun H locs w => ?_)
          exact xret_v E hr hlk w (by decide) (os h) (dq da_X12_writeAt 33 rfl)
def dl_X12_gather : List (Nat × Instr × Nat) := [(0, .aload_n 0, 1), (1, .getfield 189, 3), (4, .aload_n 0, 1), (5, .getfield 154, 3), (8, .ifCond .le 17, 3), (11, .aload_n 0, 1), (12, .getfield 151, 3), (15, .iconst 1, 1), (16, .iand, 1), (17, .iconst 1, 1), (18, .if_icmp .ne 7, 3), (21, .iconst 2, 1), (22, .goto 4, 3), (25, .iconst 0, 1), (26, .ior, 1), (27, .istore_n 1, 1), (28, .aload_n 0, 1), (29, .dup, 1), (30, .getfield 77, 3), (33, .iload_n 1, 1), (34, .aload_n 0, 1), (35, .getfield 80, 3), (38, .iconst (-1), 1), (39, .ixor, 1), (40, .iand, 1), (41, .ior, 1), (42, .putfield 77, 3), (45, .return_, 1)]
theorem da_X12_gather : dkL cX12_gather dl_X12_gather = true := by decide +kernel
def f_X12_gather_b26 (s0 : Int32) (s1 : Int32) (u : St) : St := (sI u 5 ((gI u 5) ||| ((s1 ||| s0) &&& ((gI u 6) ^^^ (-1 : Int32)))))
set_option maxRecDepth 100000 in
set_option maxHeartbeats 4000000 in
theorem b_X12_gather_b26 {p : Program} {l : Launch} {e : Env} {s : State} {m : MethodId} {args : Array Value} {below : List Frame} {meth : Method} {c : Code} {D : va_G} {cy : ClassId × ClassId × ClassId} {ad : Nat → Nat} {A : Nat → Prop} (E : CallFix p m c cX12_gather 2 s args gw RX12) (hr : meth.sig.returnType = none) (hlk : meth.locks = false) {s0 : Int32} {s1 : Int32} {u : St} {u' : St} (h : f_X12_gather_b26 s0 s1 u = u') {ls : Array Slot} {H : Heap} {locs : List Loc} {rr : Nat → Nat} (hl : lv_has ls 2 [(0, .ref (ad 0))]) (w : WX (wM cy ad) D cy rr u A s H locs) : Wx (wM cy ad) D p l e 0 0 0 s m args below meth c A u' none H locs 0 26 ls [.int s0, .int s1] := by
  have hx := E.1
  have hb := E.2.1
  have hown := E.2.2.2.1
  have hts := E.2.2.2.2
  refine lv_ior hx hb (dq da_X12_gather 14 rfl) ?_
  refine lv_istore_n (lv' := [(1, .int (s1 ||| s0)), (0, .ref (ad 0))]) hx hb (dq da_X12_gather 15 rfl) rfl hl (by decide) rfl (fun ls hl => ?_)
  refine lv_aload_n hx hb (dq da_X12_gather 16 rfl) rfl (lv_at hl 1 rfl) ?_
  refine lv_dup hx hb (dq da_X12_gather 17 rfl) rfl ?_
  refine gt_wM_0_pending E w w_1100 (dq da_X12_gather 18 rfl) ?_
  refine lv_iload_n hx hb (dq da_X12_gather 19 rfl) rfl (lv_at hl 0 rfl) ?_
  refine lv_aload_n hx hb (dq da_X12_gather 20 rfl) rfl (lv_at hl 1 rfl) ?_
  refine gt_wM_0_claimed E w w_1101 (dq da_X12_gather 21 rfl) ?_
  refine lv_iconst (v := (-1)) hx hb (dq da_X12_gather 22 rfl) rfl ?_
  refine lv_ixor hx hb (dq da_X12_gather 23 rfl) ?_
  refine lv_iand hx hb (dq da_X12_gather 24 rfl) ?_
  refine lv_ior hx hb (dq da_X12_gather 25 rfl) ?_
  refine pt_wM_0_pending E w w_1100 (dq da_X12_gather 26 rfl) (fun H locs w => ?_)
  exact xret_v E hr hlk w (by decide) h (dq da_X12_gather 27 rfl)
def f_X12_gather_b25 (s0 : Int32) (u : St) : St := f_X12_gather_b26 (0 : Int32) s0 u
set_option maxRecDepth 100000 in
set_option maxHeartbeats 4000000 in
theorem b_X12_gather_b25 {p : Program} {l : Launch} {e : Env} {s : State} {m : MethodId} {args : Array Value} {below : List Frame} {meth : Method} {c : Code} {D : va_G} {cy : ClassId × ClassId × ClassId} {ad : Nat → Nat} {A : Nat → Prop} (E : CallFix p m c cX12_gather 2 s args gw RX12) (hr : meth.sig.returnType = none) (hlk : meth.locks = false) {s0 : Int32} {u : St} {u' : St} (h : f_X12_gather_b25 s0 u = u') {ls : Array Slot} {H : Heap} {locs : List Loc} {rr : Nat → Nat} (hl : lv_has ls 2 [(0, .ref (ad 0))]) (w : WX (wM cy ad) D cy rr u A s H locs) : Wx (wM cy ad) D p l e 0 0 0 s m args below meth c A u' none H locs 0 25 ls [.int s0] := by
  have hx := E.1
  have hb := E.2.1
  have hown := E.2.2.2.1
  have hts := E.2.2.2.2
  refine lv_iconst (v := 0) hx hb (dq da_X12_gather 13 rfl) rfl ?_
  exact b_X12_gather_b26 E hr hlk h (lv_sub hl [0] rfl) w
def f_X12_gather (u : St) : St := if (gI u 10) ≤ (0 : Int32) then (f_X12_gather_b25 (gI u 7) u) else (if ((gI u 12) &&& (1 : Int32)) = (1 : Int32) then (f_X12_gather_b26 (2 : Int32) (gI u 7) u) else (f_X12_gather_b25 (gI u 7) u))
set_option maxRecDepth 100000 in
set_option maxHeartbeats 4000000 in
theorem c_X12_gather (l : Launch) (D : va_G) (cy : ClassId × ClassId × ClassId) (ad : Nat → Nat) (u : St) : MX (wM cy ad) D cy l yX12_gather cX12_gather 2 (none) 0 0 0 [.ref (ad 0)] u (f_X12_gather u) none := by
  refine entX (by decide +kernel) (Nat.le_of_ble_eq_true rfl) ?_
  intro p e s m args below meth c ls rr A E hr hlk hl w
  have hl : lv_has ls 2 [(0, .ref (ad 0))] := hl
  generalize h : f_X12_gather u = u'
  have hx := E.1
  have hb := E.2.1
  have hown := E.2.2.2.1
  have hts := E.2.2.2.2
  refine lv_aload_n hx hb (dq da_X12_gather 0 rfl) rfl (lv_at hl 0 rfl) ?_
  refine gt_wM_0_levels E w w_1104 (dq da_X12_gather 1 rfl) ?_
  refine lv_aload_n hx hb (dq da_X12_gather 2 rfl) rfl (lv_at hl 0 rfl) ?_
  refine gt_wM_0_inputLeft E w w_1109 (dq da_X12_gather 3 rfl) ?_
  refine lv_if_le (tgt := 25) hx hb (dq da_X12_gather 4 rfl) (by decide) (fun c1 => ?_) (fun c1 => ?_)
  · have h := it c1 h
    exact b_X12_gather_b25 E hr hlk h (lv_sub hl [0] rfl) w
  · have h := ie c1 h
    refine lv_aload_n hx hb (dq da_X12_gather 5 rfl) rfl (lv_at hl 0 rfl) ?_
    refine gt_wM_0_lineEnable E w w_1112 (dq da_X12_gather 6 rfl) ?_
    refine lv_iconst (v := 1) hx hb (dq da_X12_gather 7 rfl) rfl ?_
    refine lv_iand hx hb (dq da_X12_gather 8 rfl) ?_
    refine lv_iconst (v := 1) hx hb (dq da_X12_gather 9 rfl) rfl ?_
    refine lv_icmp_ne (tgt := 25) hx hb (dq da_X12_gather 10 rfl) (by decide) (fun c2 => ?_) (fun c2 => ?_)
    · have h := ie c2 h
      exact b_X12_gather_b25 E hr hlk h (lv_sub hl [0] rfl) w
    · have h := it c2 h
      refine lv_iconst (v := 2) hx hb (dq da_X12_gather 11 rfl) rfl ?_
      refine lv_goto (tgt := 26) hx hb (dq da_X12_gather 12 rfl) (by decide) ?_
      exact b_X12_gather_b26 E hr hlk h (lv_sub hl [0] rfl) w
def dl_X12_translated : List (Nat × Instr × Nat) := [(0, .iload_n 3, 1), (1, .ifCond .le 27, 3), (4, .aload_n 0, 1), (5, .bipush 17, 2), (7, .invokevirtual 192, 3), (10, .ifCond .eq 18, 3), (13, .aload_n 0, 1), (14, .getfield 67, 3), (17, .bipush 12, 2), (19, .bipush 11, 2), (21, .invokestatic 196, 3), (24, .l2i, 1), (25, .goto 7, 3), (28, .aload_n 0, 1), (29, .getfield 24, 3), (32, .istore 4, 2), (34, .aload_n 0, 1), (35, .getfield 200, 3), (38, .bipush 63, 2), (40, .bipush 60, 2), (42, .invokestatic 196, 3), (45, .ldc2_w 203, 3), (48, .lcmp, 1), (49, .ifCond .ne 9, 3), (52, .iload 4, 2), (54, .iconst 3, 1), (55, .if_icmp .ne 5, 3), (58, .lload_n 1, 1), (59, .lreturn, 1), (60, .lload_n 1, 1), (61, .bipush 39, 2), (63, .invokestatic 205, 3), (66, .lload_n 1, 1), (67, .lcmp, 1), (68, .ifCond .eq 13, 3), (71, .ldc2_w 28, 3), (74, .iload_n 3, 1), (75, .invokestatic 208, 3), (78, .i2l, 1), (79, .lsub, 1), (80, .lreturn, 1), (81, .aload_n 0, 1), (82, .getfield 200, 3), (85, .bipush 43, 2), (87, .iconst 0, 1), (88, .invokestatic 196, 3), (91, .bipush 12, 2), (93, .lshl, 1), (94, .lstore 5, 2), (96, .iconst 2, 1), (97, .istore 7, 2), (99, .iload 7, 2), (101, .ifCond .lt 455, 3), (104, .lload 5, 2), (106, .ldc2_w 203, 3), (109, .lload_n 1, 1), (110, .bipush 20, 2), (112, .bipush 9, 2), (114, .iload 7, 2), (116, .imul, 1), (117, .iadd, 1), (118, .bipush 12, 2), (120, .bipush 9, 2), (122, .iload 7, 2), (124, .imul, 1), (125, .iadd, 1), (126, .invokestatic 196, 3), (129, .lmul, 1), (130, .ladd, 1), (131, .lstore 8, 2), (133, .aload_n 0, 1), (134, .lload 8, 2), (136, .bipush 8, 2), (138, .invokevirtual 103, 3), (141, .ifCond .ne 13, 3), (144, .ldc2_w 28, 3), (147, .iload_n 3, 1), (148, .invokestatic 211, 3), (151, .i2l, 1), (152, .lsub, 1), (153, .lreturn, 1), (154, .aload_n 0, 1), (155, .lload 8, 2), (157, .bipush 8, 2), (159, .invokevirtual 129, 3), (162, .lstore 10, 2), (164, .lload 10, 2), (166, .iconst 1, 1), (167, .lshr, 1), (168, .lconst 1, 1), (169, .land, 1), (170, .lconst 1, 1), (171, .lcmp, 1), (172, .ifCond .ne 7, 3), (175, .iconst 1, 1), (176, .goto 4, 3), (179, .iconst 0, 1), (180, .istore 12, 2), (182, .lload 10, 2), (184, .iconst 2, 1), (185, .lshr, 1), (186, .lconst 1, 1), (187, .land, 1), (188, .lconst 1, 1), (189, .lcmp, 1), (190, .ifCond .ne 7, 3), (193, .iconst 1, 1), (194, .goto 4, 3), (197, .iconst 0, 1), (198, .istore 13, 2), (200, .lload 10, 2), (202, .iconst 3, 1), (203, .lshr, 1), (204, .lconst 1, 1), (205, .land, 1), (206, .lconst 1, 1), (207, .lcmp, 1), (208, .ifCond .ne 7, 3), (211, .iconst 1, 1), (212, .goto 4, 3), (215, .iconst 0, 1), (216, .istore 14, 2), (218, .lload 10, 2), (220, .lconst 1, 1), (221, .land, 1), (222, .lconst 0, 1), (223, .lcmp, 1), (224, .ifCond .eq 27, 3), (227, .iload 12, 2), (229, .ifCond .ne 8, 3), (232, .iload 13, 2), (234, .ifCond .ne 17, 3), (237, .lload 10, 2), (239, .bipush 63, 2), (241, .bipush 54, 2), (243, .invokestatic 196, 3), (246, .lconst 0, 1), (247, .lcmp, 1), (248, .ifCond .eq 13, 3), (251, .ldc2_w 28, 3), (254, .iload_n 3, 1), (255, .invokestatic 208, 3), (258, .i2l, 1), (259, .lsub, 1), (260, .lreturn, 1), (261, .iload 12, 2), (263, .ifCond .ne 51, 3), (266, .iload 14, 2), (268, .ifCond .ne 46, 3), (271, .iload 7, 2), (273, .ifCond .eq 14, 3), (276, .lload 10, 2), (278, .ldc2_w 214, 3), (281, .land, 1), (282, .lconst 0, 1), (283, .lcmp, 1), (284, .ifCond .eq 13, 3), (287, .ldc2_w 28, 3), (290, .iload_n 3, 1), (291, .invokestatic 208, 3), (294, .i2l, 1), (295, .lsub, 1), (296, .lreturn, 1), (297, .lload 10, 2), (299, .bipush 53, 2), (301, .bipush 10, 2), (303, .invokestatic 196, 3), (306, .bipush 12, 2), (308, .lshl, 1), (309, .lstore 5, 2), (311, .goto 239, 3), (314, .lload 10, 2), (316, .iconst 4, 1), (317, .lshr, 1), (318, .lconst 1, 1), (319, .land, 1), (320, .lconst 1, 1), (321, .lcmp, 1), (322, .ifCond .ne 7, 3), (325, .iconst 1, 1), (326, .goto 4, 3), (329, .iconst 0, 1), (330, .istore 15, 2), (332, .iload 4, 2), (334, .ifCond .ne 16, 3), (337, .iload 15, 2), (339, .ifCond .ne 7, 3), (342, .iconst 1, 1), (343, .goto 30, 3), (346, .iconst 0, 1), (347, .goto 26, 3), (350, .iload 15, 2), (352, .ifCond .eq 20, 3), (355, .iload_n 3, 1), (356, .ifCond .eq 12, 3), (359, .aload_n 0, 1), (360, .bipush 18, 2), (362, .invokevirtual 192, 3), (365, .ifCond .ne 7, 3), (368, .iconst 1, 1), (369, .goto 4, 3), (372, .iconst 0, 1), (373, .istore 16, 2), (375, .iload 16, 2), (377, .ifCond .ne 46, 3), (380, .iload_n 3, 1), (381, .ifCond .ne 8, 3), (384, .iload 14, 2), (386, .ifCond .eq 37, 3), (389, .iload_n 3, 1), (390, .iconst 1, 1), (391, .if_icmp .ne 22, 3), (394, .iload 12, 2), (396, .ifCond .ne 17, 3), (399, .aload_n 0, 1), (400, .bipush 19, 2), (402, .invokevirtual 192, 3), (405, .ifCond .eq 18, 3), (408, .iload 14, 2), (410, .ifCond .eq 13, 3), (413, .iload_n 3, 1), (414, .iconst 2, 1), (415, .if_icmp .ne 12, 3), (418, .iload 13, 2), (420, .ifCond .ne 7, 3), (423, .iconst 1, 1), (424, .goto 4, 3), (427, .iconst 0, 1), (428, .istore 16, 2), (430, .iload 16, 2), (432, .ifCond .ne 57, 3), (435, .iload 7, 2), (437, .ifCond .le 23, 3), (440, .lload 10, 2), (442, .bipush 9, 2), (444, .bipush 9, 2), (446, .iload 7, 2), (448, .imul, 1), (449, .iadd, 1), (450, .bipush 10, 2), (452, .invokestatic 196, 3), (455, .lconst 0, 1), (456, .lcmp, 1), (457, .ifCond .ne 32, 3), (460, .lload 10, 2), (462, .bipush 6, 2), (464, .lshr, 1), (465, .lconst 1, 1), (466, .land, 1), (467, .lconst 0, 1), (468, .lcmp, 1), (469, .ifCond .eq 20, 3), (472, .iload_n 3, 1), (473, .iconst 2, 1), (474, .if_icmp .ne 19, 3), (477, .lload 10, 2), (479, .bipush 7, 2), (481, .lshr, 1), (482, .lconst 1, 1), (483, .land, 1), (484, .lconst 0, 1), (485, .lcmp, 1), (486, .ifCond .ne 7, 3), (489, .iconst 1, 1), (490, .goto 4, 3), (493, .iconst 0, 1), (494, .istore 16, 2), (496, .iload 16, 2), (498, .ifCond .eq 13, 3), (501, .ldc2_w 28, 3), (504, .iload_n 3, 1), (505, .invokestatic 208, 3), (508, .i2l, 1), (509, .lsub, 1), (510, .lreturn, 1), (511, .lconst 1, 1), (512, .bipush 12, 2), (514, .bipush 9, 2), (516, .iload 7, 2), (518, .imul, 1), (519, .iadd, 1), (520, .lshl, 1), (521, .lconst 1, 1), (522, .lsub, 1), (523, .lstore 17, 2), (525, .lload 10, 2), (527, .bipush 53, 2), (529, .bipush 10, 2), (531, .invokestatic 196, 3), (534, .bipush 12, 2), (536, .lshl, 1), (537, .lload 17, 2), (539, .ldc2_w 28, 3), (542, .lxor, 1), (543, .land, 1), (544, .lload_n 1, 1), (545, .lload 17, 2), (547, .land, 1), (548, .lor, 1), (549, .lreturn, 1), (550, .iinc 7 (-1), 3), (553, .goto (-454), 3), (556, .ldc2_w 28, 3), (559, .iload_n 3, 1), (560, .invokestatic 208, 3), (563, .i2l, 1), (564, .lsub, 1), (565, .lreturn, 1)]
theorem da_X12_translated : dkL cX12_translated dl_X12_translated = true := by decide +kernel
def f_X12_translated_b58 (x1 : Int64) (u : St) : Option (Int64) := some x1
set_option maxRecDepth 100000 in
set_option maxHeartbeats 4000000 in
theorem b_X12_translated_b58 {p : Program} {l : Launch} {e : Env} {s : State} {m : MethodId} {args : Array Value} {below : List Frame} {meth : Method} {c : Code} {D : va_G} {cy : ClassId × ClassId × ClassId} {ad : Nat → Nat} {A : Nat → Prop} (E : CallFix p m c cX12_translated 19 s args gw RX12) (hr : meth.sig.returnType = some .long) (hlk : meth.locks = false) {x1 : Int64} {u : St} {r : Int64} (h : f_X12_translated_b58 x1 u = some r) {ls : Array Slot} {H : Heap} {locs : List Loc} {rr : Nat → Nat} (hl : lv_has ls 19 [(1, .long x1)]) (w : WX (wM cy ad) D cy rr u A s H locs) : Wx (wM cy ad) D p l e 1 26 0 s m args below meth c A u (some (.long r)) H locs 0 58 ls [] := by
  have hx := E.1
  have hb := E.2.1
  have hown := E.2.2.2.1
  have hts := E.2.2.2.2
  refine lv_lload_n hx hb (dq da_X12_translated 27 rfl) rfl (lv_at hl 0 rfl) ?_
  exact xret_l E hr hlk w (by decide) (os h) rfl (dq da_X12_translated 28 rfl)
def f_X12_translated_b251 (x3 : Int32) (u : St) : Option (Int64) := some ((-1 : Int64) - (f_X12_pageFault x3).toInt64)
set_option maxRecDepth 100000 in
set_option maxHeartbeats 4000000 in
theorem b_X12_translated_b251 {p : Program} {l : Launch} {e : Env} {s : State} {m : MethodId} {args : Array Value} {below : List Frame} {meth : Method} {c : Code} {D : va_G} {cy : ClassId × ClassId × ClassId} {ad : Nat → Nat} {A : Nat → Prop} (E : CallFix p m c cX12_translated 19 s args gw RX12) (hr : meth.sig.returnType = some .long) (hlk : meth.locks = false) {x3 : Int32} {u : St} {r : Int64} (h : f_X12_translated_b251 x3 u = some r) {ls : Array Slot} {H : Heap} {locs : List Loc} {rr : Nat → Nat} (hl : lv_has ls 19 [(3, .int x3)]) (w : WX (wM cy ad) D cy rr u A s H locs) : Wx (wM cy ad) D p l e 1 26 0 s m args below meth c A u (some (.long r)) H locs 0 251 ls [] := by
  have hx := E.1
  have hb := E.2.1
  have hown := E.2.2.2.1
  have hts := E.2.2.2.2
  refine lv_ldc2 hx hb hown (hts _ w_1086) (dq da_X12_translated 139 rfl) ?_
  refine lv_iload_n hx hb (dq da_X12_translated 140 rfl) rfl (lv_at hl 0 rfl) ?_
  refine callP E (c_X12_pageFault l _ ) w_1443 w_1444 w_10 w_1445 hd_X12_pageFault rfl hl.1 rfl (Nat.le_of_ble_eq_true rfl) ⟨Nat.le_of_ble_eq_true rfl, Nat.le_of_ble_eq_true rfl⟩ (by decide) (dq da_X12_translated 141 rfl) ?_
  refine lv_i2l (v := (f_X12_pageFault x3).toInt64) hx hb (dq da_X12_translated 142 rfl) rfl ?_
  refine lv_lsub hx hb (dq da_X12_translated 143 rfl) ?_
  exact xret_l E hr hlk w (by decide) (os h) rfl (dq da_X12_translated 144 rfl)
def f_X12_translated_b494 (x1 : Int64) (x3 : Int32) (x7 : Int32) (x10 : Int64) (s0 : Int32) (u : St) : Option (Int64) := if s0 = (0 : Int32) then (some (((j_lshl (f_X12_cut x10 (53 : Int32) (10 : Int32)) (12 : Int32)) &&& (((j_lshl (1 : Int64) ((12 : Int32) + ((9 : Int32) * x7))) - (1 : Int64)) ^^^ (-1 : Int64))) ||| (x1 &&& ((j_lshl (1 : Int64) ((12 : Int32) + ((9 : Int32) * x7))) - (1 : Int64))))) else (some ((-1 : Int64) - (f_X12_pageFault x3).toInt64))
set_option maxRecDepth 100000 in
set_option maxHeartbeats 4000000 in
theorem b_X12_translated_b494 {p : Program} {l : Launch} {e : Env} {s : State} {m : MethodId} {args : Array Value} {below : List Frame} {meth : Method} {c : Code} {D : va_G} {cy : ClassId × ClassId × ClassId} {ad : Nat → Nat} {A : Nat → Prop} (E : CallFix p m c cX12_translated 19 s args gw RX12) (hr : meth.sig.returnType = some .long) (hlk : meth.locks = false) {x1 : Int64} {x3 : Int32} {x7 : Int32} {x10 : Int64} {s0 : Int32} {u : St} {r : Int64} (h : f_X12_translated_b494 x1 x3 x7 x10 s0 u = some r) {ls : Array Slot} {H : Heap} {locs : List Loc} {rr : Nat → Nat} (hl : lv_has ls 19 [(1, .long x1), (3, .int x3), (7, .int x7), (10, .long x10)]) (w : WX (wM cy ad) D cy rr u A s H locs) : Wx (wM cy ad) D p l e 1 26 0 s m args below meth c A u (some (.long r)) H locs 0 494 ls [.int s0] := by
  have hx := E.1
  have hb := E.2.1
  have hown := E.2.2.2.1
  have hts := E.2.2.2.2
  refine lv_istore (lv' := [(16, .int s0), (1, .long x1), (3, .int x3), (7, .int x7), (10, .long x10)]) hx hb (dq da_X12_translated 266 rfl) hl (by decide) rfl (fun ls hl => ?_)
  refine lv_iload hx hb (dq da_X12_translated 267 rfl) (lv_at hl 0 rfl) ?_
  refine lv_if_eq (tgt := 511) hx hb (dq da_X12_translated 268 rfl) (by decide) (fun c21 => ?_) (fun c21 => ?_)
  · have h := it c21 h
    refine lv_lconst (v := 1) hx hb (dq da_X12_translated 275 rfl) rfl ?_
    refine lv_bipush (v := 12) hx hb (dq da_X12_translated 276 rfl) rfl ?_
    refine lv_bipush (v := 9) hx hb (dq da_X12_translated 277 rfl) rfl ?_
    refine lv_iload hx hb (dq da_X12_translated 278 rfl) (lv_at hl 3 rfl) ?_
    refine lv_imul hx hb (dq da_X12_translated 279 rfl) ?_
    refine lv_iadd hx hb (dq da_X12_translated 280 rfl) ?_
    refine lv_lshl (v := (j_lshl (1 : Int64) ((12 : Int32) + ((9 : Int32) * x7)))) hx hb (dq da_X12_translated 281 rfl) rfl ?_
    refine lv_lconst (v := 1) hx hb (dq da_X12_translated 282 rfl) rfl ?_
    refine lv_lsub hx hb (dq da_X12_translated 283 rfl) ?_
    refine lv_lstore (lv' := [(17, .long ((j_lshl (1 : Int64) ((12 : Int32) + ((9 : Int32) * x7))) - (1 : Int64))), (16, .int s0), (1, .long x1), (3, .int x3), (7, .int x7), (10, .long x10)]) hx hb (dq da_X12_translated 284 rfl) hl (by decide) rfl (fun ls hl => ?_)
    refine lv_lload hx hb (dq da_X12_translated 285 rfl) (lv_at hl 5 rfl) ?_
    refine lv_bipush (v := 53) hx hb (dq da_X12_translated 286 rfl) rfl ?_
    refine lv_bipush (v := 10) hx hb (dq da_X12_translated 287 rfl) rfl ?_
    refine callP E (c_X12_cut l _ _ _ ) w_1384 w_1385 w_10 w_1386 hd_X12_cut rfl hl.1 rfl (Nat.le_of_ble_eq_true rfl) ⟨Nat.le_of_ble_eq_true rfl, Nat.le_of_ble_eq_true rfl⟩ (by decide) (dq da_X12_translated 288 rfl) ?_
    refine lv_bipush (v := 12) hx hb (dq da_X12_translated 289 rfl) rfl ?_
    refine lv_lshl (v := (j_lshl (f_X12_cut x10 (53 : Int32) (10 : Int32)) (12 : Int32))) hx hb (dq da_X12_translated 290 rfl) rfl ?_
    refine lv_lload hx hb (dq da_X12_translated 291 rfl) (lv_at hl 0 rfl) ?_
    refine lv_ldc2 hx hb hown (hts _ w_1086) (dq da_X12_translated 292 rfl) ?_
    refine lv_lxor hx hb (dq da_X12_translated 293 rfl) ?_
    refine lv_land hx hb (dq da_X12_translated 294 rfl) ?_
    refine lv_lload_n hx hb (dq da_X12_translated 295 rfl) rfl (lv_at hl 2 rfl) ?_
    refine lv_lload hx hb (dq da_X12_translated 296 rfl) (lv_at hl 0 rfl) ?_
    refine lv_land hx hb (dq da_X12_translated 297 rfl) ?_
    refine lv_lor hx hb (dq da_X12_translated 298 rfl) ?_
    exact xret_l E hr hlk w (by decide) (os h) rfl (dq da_X12_translated 299 rfl)
  · have h := ie c21 h
    refine lv_ldc2 hx hb hown (hts _ w_1086) (dq da_X12_translated 269 rfl) ?_
    refine lv_iload_n hx hb (dq da_X12_translated 270 rfl) rfl (lv_at hl 2 rfl) ?_
    refine callP E (c_X12_pageFault l _ ) w_1443 w_1444 w_10 w_1445 hd_X12_pageFault rfl hl.1 rfl (Nat.le_of_ble_eq_true rfl) ⟨Nat.le_of_ble_eq_true rfl, Nat.le_of_ble_eq_true rfl⟩ (by decide) (dq da_X12_translated 271 rfl) ?_
    refine lv_i2l (v := (f_X12_pageFault x3).toInt64) hx hb (dq da_X12_translated 272 rfl) rfl ?_
    refine lv_lsub hx hb (dq da_X12_translated 273 rfl) ?_
    exact xret_l E hr hlk w (by decide) (os h) rfl (dq da_X12_translated 274 rfl)
def f_X12_translated_b489 (x1 : Int64) (x3 : Int32) (x7 : Int32) (x10 : Int64) (u : St) : Option (Int64) := f_X12_translated_b494 x1 x3 x7 x10 (1 : Int32) u
set_option maxRecDepth 100000 in
set_option maxHeartbeats 4000000 in
theorem b_X12_translated_b489 {p : Program} {l : Launch} {e : Env} {s : State} {m : MethodId} {args : Array Value} {below : List Frame} {meth : Method} {c : Code} {D : va_G} {cy : ClassId × ClassId × ClassId} {ad : Nat → Nat} {A : Nat → Prop} (E : CallFix p m c cX12_translated 19 s args gw RX12) (hr : meth.sig.returnType = some .long) (hlk : meth.locks = false) {x1 : Int64} {x3 : Int32} {x7 : Int32} {x10 : Int64} {u : St} {r : Int64} (h : f_X12_translated_b489 x1 x3 x7 x10 u = some r) {ls : Array Slot} {H : Heap} {locs : List Loc} {rr : Nat → Nat} (hl : lv_has ls 19 [(1, .long x1), (3, .int x3), (7, .int x7), (10, .long x10)]) (w : WX (wM cy ad) D cy rr u A s H locs) : Wx (wM cy ad) D p l e 1 26 0 s m args below meth c A u (some (.long r)) H locs 0 489 ls [] := by
  have hx := E.1
  have hb := E.2.1
  have hown := E.2.2.2.1
  have hts := E.2.2.2.2
  refine lv_iconst (v := 1) hx hb (dq da_X12_translated 263 rfl) rfl ?_
  refine lv_goto (tgt := 494) hx hb (dq da_X12_translated 264 rfl) (by decide) ?_
  exact b_X12_translated_b494 E hr hlk h (lv_sub hl [0, 1, 2, 3] rfl) w
def f_X12_translated_b493 (x1 : Int64) (x3 : Int32) (x7 : Int32) (x10 : Int64) (u : St) : Option (Int64) := f_X12_translated_b494 x1 x3 x7 x10 (0 : Int32) u
set_option maxRecDepth 100000 in
set_option maxHeartbeats 4000000 in
theorem b_X12_translated_b493 {p : Program} {l : Launch} {e : Env} {s : State} {m : MethodId} {args : Array Value} {below : List Frame} {meth : Method} {c : Code} {D : va_G} {cy : ClassId × ClassId × ClassId} {ad : Nat → Nat} {A : Nat → Prop} (E : CallFix p m c cX12_translated 19 s args gw RX12) (hr : meth.sig.returnType = some .long) (hlk : meth.locks = false) {x1 : Int64} {x3 : Int32} {x7 : Int32} {x10 : Int64} {u : St} {r : Int64} (h : f_X12_translated_b493 x1 x3 x7 x10 u = some r) {ls : Array Slot} {H : Heap} {locs : List Loc} {rr : Nat → Nat} (hl : lv_has ls 19 [(1, .long x1), (3, .int x3), (7, .int x7), (10, .long x10)]) (w : WX (wM cy ad) D cy rr u A s H locs) : Wx (wM cy ad) D p l e 1 26 0 s m args below meth c A u (some (.long r)) H locs 0 493 ls [] := by
  have hx := E.1
  have hb := E.2.1
  have hown := E.2.2.2.1
  have hts := E.2.2.2.2
  refine lv_iconst (v := 0) hx hb (dq da_X12_translated 265 rfl) rfl ?_
  exact b_X12_translated_b494 E hr hlk h (lv_sub hl [0, 1, 2, 3] rfl) w
def f_X12_translated_b460 (x1 : Int64) (x3 : Int32) (x7 : Int32) (x10 : Int64) (u : St) : Option (Int64) := if ((j_lshr x10 (6 : Int32)) &&& (1 : Int64)) = (0 : Int64) then (f_X12_translated_b489 x1 x3 x7 x10 u) else (if x3 = (2 : Int32) then (if ((j_lshr x10 (7 : Int32)) &&& (1 : Int64)) = (0 : Int64) then (f_X12_translated_b489 x1 x3 x7 x10 u) else (f_X12_translated_b493 x1 x3 x7 x10 u)) else (f_X12_translated_b493 x1 x3 x7 x10 u))
set_option maxRecDepth 100000 in
set_option maxHeartbeats 4000000 in
theorem b_X12_translated_b460 {p : Program} {l : Launch} {e : Env} {s : State} {m : MethodId} {args : Array Value} {below : List Frame} {meth : Method} {c : Code} {D : va_G} {cy : ClassId × ClassId × ClassId} {ad : Nat → Nat} {A : Nat → Prop} (E : CallFix p m c cX12_translated 19 s args gw RX12) (hr : meth.sig.returnType = some .long) (hlk : meth.locks = false) {x1 : Int64} {x3 : Int32} {x7 : Int32} {x10 : Int64} {u : St} {r : Int64} (h : f_X12_translated_b460 x1 x3 x7 x10 u = some r) {ls : Array Slot} {H : Heap} {locs : List Loc} {rr : Nat → Nat} (hl : lv_has ls 19 [(1, .long x1), (3, .int x3), (7, .int x7), (10, .long x10)]) (w : WX (wM cy ad) D cy rr u A s H locs) : Wx (wM cy ad) D p l e 1 26 0 s m args below meth c A u (some (.long r)) H locs 0 460 ls [] := by
  have hx := E.1
  have hb := E.2.1
  have hown := E.2.2.2.1
  have hts := E.2.2.2.2
  refine lv_lload hx hb (dq da_X12_translated 244 rfl) (lv_at hl 3 rfl) ?_
  refine lv_bipush (v := 6) hx hb (dq da_X12_translated 245 rfl) rfl ?_
  refine lv_lshr (v := (j_lshr x10 (6 : Int32))) hx hb (dq da_X12_translated 246 rfl) rfl ?_
  refine lv_lconst (v := 1) hx hb (dq da_X12_translated 247 rfl) rfl ?_
  refine lv_land hx hb (dq da_X12_translated 248 rfl) ?_
  refine lv_lconst (v := 0) hx hb (dq da_X12_translated 249 rfl) rfl ?_
  refine lc_eq (tgt := 489) hx hb (dq da_X12_translated 250 rfl) (dq da_X12_translated 251 rfl) (by decide) (fun c23 => ?_) (fun c23 => ?_)
  · have h := it c23 h
    exact b_X12_translated_b489 E hr hlk h (lv_sub hl [0, 1, 2, 3] rfl) w
  · have h := ie c23 h
    refine lv_iload_n hx hb (dq da_X12_translated 252 rfl) rfl (lv_at hl 1 rfl) ?_
    refine lv_iconst (v := 2) hx hb (dq da_X12_translated 253 rfl) rfl ?_
    refine lv_icmp_ne (tgt := 493) hx hb (dq da_X12_translated 254 rfl) (by decide) (fun c24 => ?_) (fun c24 => ?_)
    · have h := ie c24 h
      exact b_X12_translated_b493 E hr hlk h (lv_sub hl [0, 1, 2, 3] rfl) w
    · have h := it c24 h
      refine lv_lload hx hb (dq da_X12_translated 255 rfl) (lv_at hl 3 rfl) ?_
      refine lv_bipush (v := 7) hx hb (dq da_X12_translated 256 rfl) rfl ?_
      refine lv_lshr (v := (j_lshr x10 (7 : Int32))) hx hb (dq da_X12_translated 257 rfl) rfl ?_
      refine lv_lconst (v := 1) hx hb (dq da_X12_translated 258 rfl) rfl ?_
      refine lv_land hx hb (dq da_X12_translated 259 rfl) ?_
      refine lv_lconst (v := 0) hx hb (dq da_X12_translated 260 rfl) rfl ?_
      refine lc_ne (tgt := 493) hx hb (dq da_X12_translated 261 rfl) (dq da_X12_translated 262 rfl) (by decide) (fun c25 => ?_) (fun c25 => ?_)
      · have h := ie c25 h
        exact b_X12_translated_b493 E hr hlk h (lv_sub hl [0, 1, 2, 3] rfl) w
      · have h := it c25 h
        exact b_X12_translated_b489 E hr hlk h (lv_sub hl [0, 1, 2, 3] rfl) w
def f_X12_translated_b428 (x1 : Int64) (x3 : Int32) (x7 : Int32) (x10 : Int64) (s0 : Int32) (u : St) : Option (Int64) := if s0 = (0 : Int32) then (if x7 ≤ (0 : Int32) then (f_X12_translated_b460 x1 x3 x7 x10 u) else (if (f_X12_cut x10 ((9 : Int32) + ((9 : Int32) * x7)) (10 : Int32)) = (0 : Int64) then (f_X12_translated_b460 x1 x3 x7 x10 u) else (f_X12_translated_b489 x1 x3 x7 x10 u))) else (f_X12_translated_b489 x1 x3 x7 x10 u)
set_option maxRecDepth 100000 in
set_option maxHeartbeats 4000000 in
theorem b_X12_translated_b428 {p : Program} {l : Launch} {e : Env} {s : State} {m : MethodId} {args : Array Value} {below : List Frame} {meth : Method} {c : Code} {D : va_G} {cy : ClassId × ClassId × ClassId} {ad : Nat → Nat} {A : Nat → Prop} (E : CallFix p m c cX12_translated 19 s args gw RX12) (hr : meth.sig.returnType = some .long) (hlk : meth.locks = false) {x1 : Int64} {x3 : Int32} {x7 : Int32} {x10 : Int64} {s0 : Int32} {u : St} {r : Int64} (h : f_X12_translated_b428 x1 x3 x7 x10 s0 u = some r) {ls : Array Slot} {H : Heap} {locs : List Loc} {rr : Nat → Nat} (hl : lv_has ls 19 [(1, .long x1), (3, .int x3), (7, .int x7), (10, .long x10)]) (w : WX (wM cy ad) D cy rr u A s H locs) : Wx (wM cy ad) D p l e 1 26 0 s m args below meth c A u (some (.long r)) H locs 0 428 ls [.int s0] := by
  have hx := E.1
  have hb := E.2.1
  have hown := E.2.2.2.1
  have hts := E.2.2.2.2
  refine lv_istore (lv' := [(16, .int s0), (1, .long x1), (3, .int x3), (7, .int x7), (10, .long x10)]) hx hb (dq da_X12_translated 228 rfl) hl (by decide) rfl (fun ls hl => ?_)
  refine lv_iload hx hb (dq da_X12_translated 229 rfl) (lv_at hl 0 rfl) ?_
  refine lv_if_ne (tgt := 489) hx hb (dq da_X12_translated 230 rfl) (by decide) (fun c20 => ?_) (fun c20 => ?_)
  · have h := ie c20 h
    exact b_X12_translated_b489 E hr hlk h (lv_sub hl [1, 2, 3, 4] rfl) w
  · have h := it c20 h
    refine lv_iload hx hb (dq da_X12_translated 231 rfl) (lv_at hl 3 rfl) ?_
    refine lv_if_le (tgt := 460) hx hb (dq da_X12_translated 232 rfl) (by decide) (fun c22 => ?_) (fun c22 => ?_)
    · have h := it c22 h
      exact b_X12_translated_b460 E hr hlk h (lv_sub hl [1, 2, 3, 4] rfl) w
    · have h := ie c22 h
      refine lv_lload hx hb (dq da_X12_translated 233 rfl) (lv_at hl 4 rfl) ?_
      refine lv_bipush (v := 9) hx hb (dq da_X12_translated 234 rfl) rfl ?_
      refine lv_bipush (v := 9) hx hb (dq da_X12_translated 235 rfl) rfl ?_
      refine lv_iload hx hb (dq da_X12_translated 236 rfl) (lv_at hl 3 rfl) ?_
      refine lv_imul hx hb (dq da_X12_translated 237 rfl) ?_
      refine lv_iadd hx hb (dq da_X12_translated 238 rfl) ?_
      refine lv_bipush (v := 10) hx hb (dq da_X12_translated 239 rfl) rfl ?_
      refine callP E (c_X12_cut l _ _ _ ) w_1384 w_1385 w_10 w_1386 hd_X12_cut rfl hl.1 rfl (Nat.le_of_ble_eq_true rfl) ⟨Nat.le_of_ble_eq_true rfl, Nat.le_of_ble_eq_true rfl⟩ (by decide) (dq da_X12_translated 240 rfl) ?_
      refine lv_lconst (v := 0) hx hb (dq da_X12_translated 241 rfl) rfl ?_
      refine lc_ne (tgt := 489) hx hb (dq da_X12_translated 242 rfl) (dq da_X12_translated 243 rfl) (by decide) (fun c26 => ?_) (fun c26 => ?_)
      · have h := ie c26 h
        exact b_X12_translated_b489 E hr hlk h (lv_sub hl [1, 2, 3, 4] rfl) w
      · have h := it c26 h
        exact b_X12_translated_b460 E hr hlk h (lv_sub hl [1, 2, 3, 4] rfl) w
def f_X12_translated_b423 (x1 : Int64) (x3 : Int32) (x7 : Int32) (x10 : Int64) (u : St) : Option (Int64) := f_X12_translated_b428 x1 x3 x7 x10 (1 : Int32) u
set_option maxRecDepth 100000 in
set_option maxHeartbeats 4000000 in
theorem b_X12_translated_b423 {p : Program} {l : Launch} {e : Env} {s : State} {m : MethodId} {args : Array Value} {below : List Frame} {meth : Method} {c : Code} {D : va_G} {cy : ClassId × ClassId × ClassId} {ad : Nat → Nat} {A : Nat → Prop} (E : CallFix p m c cX12_translated 19 s args gw RX12) (hr : meth.sig.returnType = some .long) (hlk : meth.locks = false) {x1 : Int64} {x3 : Int32} {x7 : Int32} {x10 : Int64} {u : St} {r : Int64} (h : f_X12_translated_b423 x1 x3 x7 x10 u = some r) {ls : Array Slot} {H : Heap} {locs : List Loc} {rr : Nat → Nat} (hl : lv_has ls 19 [(1, .long x1), (3, .int x3), (7, .int x7), (10, .long x10)]) (w : WX (wM cy ad) D cy rr u A s H locs) : Wx (wM cy ad) D p l e 1 26 0 s m args below meth c A u (some (.long r)) H locs 0 423 ls [] := by
  have hx := E.1
  have hb := E.2.1
  have hown := E.2.2.2.1
  have hts := E.2.2.2.2
  refine lv_iconst (v := 1) hx hb (dq da_X12_translated 225 rfl) rfl ?_
  refine lv_goto (tgt := 428) hx hb (dq da_X12_translated 226 rfl) (by decide) ?_
  exact b_X12_translated_b428 E hr hlk h (lv_sub hl [0, 1, 2, 3] rfl) w
def f_X12_translated_b427 (x1 : Int64) (x3 : Int32) (x7 : Int32) (x10 : Int64) (u : St) : Option (Int64) := f_X12_translated_b428 x1 x3 x7 x10 (0 : Int32) u
set_option maxRecDepth 100000 in
set_option maxHeartbeats 4000000 in
theorem b_X12_translated_b427 {p : Program} {l : Launch} {e : Env} {s : State} {m : MethodId} {args : Array Value} {below : List Frame} {meth : Method} {c : Code} {D : va_G} {cy : ClassId × ClassId × ClassId} {ad : Nat → Nat} {A : Nat → Prop} (E : CallFix p m c cX12_translated 19 s args gw RX12) (hr : meth.sig.returnType = some .long) (hlk : meth.locks = false) {x1 : Int64} {x3 : Int32} {x7 : Int32} {x10 : Int64} {u : St} {r : Int64} (h : f_X12_translated_b427 x1 x3 x7 x10 u = some r) {ls : Array Slot} {H : Heap} {locs : List Loc} {rr : Nat → Nat} (hl : lv_has ls 19 [(1, .long x1), (3, .int x3), (7, .int x7), (10, .long x10)]) (w : WX (wM cy ad) D cy rr u A s H locs) : Wx (wM cy ad) D p l e 1 26 0 s m args below meth c A u (some (.long r)) H locs 0 427 ls [] := by
  have hx := E.1
  have hb := E.2.1
  have hown := E.2.2.2.1
  have hts := E.2.2.2.2
  refine lv_iconst (v := 0) hx hb (dq da_X12_translated 227 rfl) rfl ?_
  exact b_X12_translated_b428 E hr hlk h (lv_sub hl [0, 1, 2, 3] rfl) w
def f_X12_translated_b413 (x1 : Int64) (x3 : Int32) (x7 : Int32) (x10 : Int64) (x13 : Int32) (u : St) : Option (Int64) := if x3 = (2 : Int32) then (if x13 = (0 : Int32) then (f_X12_translated_b423 x1 x3 x7 x10 u) else (f_X12_translated_b427 x1 x3 x7 x10 u)) else (f_X12_translated_b427 x1 x3 x7 x10 u)
set_option maxRecDepth 100000 in
set_option maxHeartbeats 4000000 in
theorem b_X12_translated_b413 {p : Program} {l : Launch} {e : Env} {s : State} {m : MethodId} {args : Array Value} {below : List Frame} {meth : Method} {c : Code} {D : va_G} {cy : ClassId × ClassId × ClassId} {ad : Nat → Nat} {A : Nat → Prop} (E : CallFix p m c cX12_translated 19 s args gw RX12) (hr : meth.sig.returnType = some .long) (hlk : meth.locks = false) {x1 : Int64} {x3 : Int32} {x7 : Int32} {x10 : Int64} {x13 : Int32} {u : St} {r : Int64} (h : f_X12_translated_b413 x1 x3 x7 x10 x13 u = some r) {ls : Array Slot} {H : Heap} {locs : List Loc} {rr : Nat → Nat} (hl : lv_has ls 19 [(1, .long x1), (3, .int x3), (7, .int x7), (10, .long x10), (13, .int x13)]) (w : WX (wM cy ad) D cy rr u A s H locs) : Wx (wM cy ad) D p l e 1 26 0 s m args below meth c A u (some (.long r)) H locs 0 413 ls [] := by
  have hx := E.1
  have hb := E.2.1
  have hown := E.2.2.2.1
  have hts := E.2.2.2.2
  refine lv_iload_n hx hb (dq da_X12_translated 220 rfl) rfl (lv_at hl 1 rfl) ?_
  refine lv_iconst (v := 2) hx hb (dq da_X12_translated 221 rfl) rfl ?_
  refine lv_icmp_ne (tgt := 427) hx hb (dq da_X12_translated 222 rfl) (by decide) (fun c29 => ?_) (fun c29 => ?_)
  · have h := ie c29 h
    exact b_X12_translated_b427 E hr hlk h (lv_sub hl [0, 1, 2, 3] rfl) w
  · have h := it c29 h
    refine lv_iload hx hb (dq da_X12_translated 223 rfl) (lv_at hl 4 rfl) ?_
    refine lv_if_ne (tgt := 427) hx hb (dq da_X12_translated 224 rfl) (by decide) (fun c30 => ?_) (fun c30 => ?_)
    · have h := ie c30 h
      exact b_X12_translated_b427 E hr hlk h (lv_sub hl [0, 1, 2, 3] rfl) w
    · have h := it c30 h
      exact b_X12_translated_b423 E hr hlk h (lv_sub hl [0, 1, 2, 3] rfl) w
def f_X12_translated_b389 (x1 : Int64) (x3 : Int32) (x7 : Int32) (x10 : Int64) (x12 : Int32) (x13 : Int32) (x14 : Int32) (u : St) : Option (Int64) := if x3 = (1 : Int32) then (if x12 = (0 : Int32) then (if (f_X12_is (19 : Int32) u) = (0 : Int32) then (f_X12_translated_b423 x1 x3 x7 x10 u) else (if x14 = (0 : Int32) then (f_X12_translated_b423 x1 x3 x7 x10 u) else (f_X12_translated_b413 x1 x3 x7 x10 x13 u))) else (f_X12_translated_b413 x1 x3 x7 x10 x13 u)) else (f_X12_translated_b413 x1 x3 x7 x10 x13 u)
set_option maxRecDepth 100000 in
set_option maxHeartbeats 4000000 in
theorem b_X12_translated_b389 {p : Program} {l : Launch} {e : Env} {s : State} {m : MethodId} {args : Array Value} {below : List Frame} {meth : Method} {c : Code} {D : va_G} {cy : ClassId × ClassId × ClassId} {ad : Nat → Nat} {A : Nat → Prop} (E : CallFix p m c cX12_translated 19 s args gw RX12) (hr : meth.sig.returnType = some .long) (hlk : meth.locks = false) {x1 : Int64} {x3 : Int32} {x7 : Int32} {x10 : Int64} {x12 : Int32} {x13 : Int32} {x14 : Int32} {u : St} {r : Int64} (h : f_X12_translated_b389 x1 x3 x7 x10 x12 x13 x14 u = some r) {ls : Array Slot} {H : Heap} {locs : List Loc} {rr : Nat → Nat} (hl : lv_has ls 19 [(0, .ref (ad 0)), (1, .long x1), (3, .int x3), (7, .int x7), (10, .long x10), (12, .int x12), (13, .int x13), (14, .int x14)]) (w : WX (wM cy ad) D cy rr u A s H locs) : Wx (wM cy ad) D p l e 1 26 0 s m args below meth c A u (some (.long r)) H locs 0 389 ls [] := by
  have hx := E.1
  have hb := E.2.1
  have hown := E.2.2.2.1
  have hts := E.2.2.2.2
  refine lv_iload_n hx hb (dq da_X12_translated 209 rfl) rfl (lv_at hl 2 rfl) ?_
  refine lv_iconst (v := 1) hx hb (dq da_X12_translated 210 rfl) rfl ?_
  refine lv_icmp_ne (tgt := 413) hx hb (dq da_X12_translated 211 rfl) (by decide) (fun c28 => ?_) (fun c28 => ?_)
  · have h := ie c28 h
    exact b_X12_translated_b413 E hr hlk h (lv_sub hl [1, 2, 3, 4, 6] rfl) w
  · have h := it c28 h
    refine lv_iload hx hb (dq da_X12_translated 212 rfl) (lv_at hl 5 rfl) ?_
    refine lv_if_ne (tgt := 413) hx hb (dq da_X12_translated 213 rfl) (by decide) (fun c31 => ?_) (fun c31 => ?_)
    · have h := ie c31 h
      exact b_X12_translated_b413 E hr hlk h (lv_sub hl [1, 2, 3, 4, 6] rfl) w
    · have h := it c31 h
      refine lv_aload_n hx hb (dq da_X12_translated 214 rfl) rfl (lv_at hl 0 rfl) ?_
      refine lv_bipush (v := 19) hx hb (dq da_X12_translated 215 rfl) rfl ?_
      refine cV1 E (c_X12_is l D cy ad _ _ ) w_1414 w_1416 w_p56 w_10 w_1417 rfl hd_X12_is rfl hl.1 rfl (Nat.le_of_ble_eq_true rfl) ⟨Nat.le_of_ble_eq_true rfl, Nat.le_of_ble_eq_true rfl⟩ (by decide) w (rc_wM_0 w) (dq da_X12_translated 216 rfl) (fun H locs rr w => ?_)
      refine lv_if_eq (tgt := 423) hx hb (dq da_X12_translated 217 rfl) (by decide) (fun c32 => ?_) (fun c32 => ?_)
      · have h := it c32 h
        exact b_X12_translated_b423 E hr hlk h (lv_sub hl [1, 2, 3, 4] rfl) w
      · have h := ie c32 h
        refine lv_iload hx hb (dq da_X12_translated 218 rfl) (lv_at hl 7 rfl) ?_
        refine lv_if_eq (tgt := 423) hx hb (dq da_X12_translated 219 rfl) (by decide) (fun c33 => ?_) (fun c33 => ?_)
        · have h := it c33 h
          exact b_X12_translated_b423 E hr hlk h (lv_sub hl [1, 2, 3, 4] rfl) w
        · have h := ie c33 h
          exact b_X12_translated_b413 E hr hlk h (lv_sub hl [1, 2, 3, 4, 6] rfl) w
def f_X12_translated_b373 (x1 : Int64) (x3 : Int32) (x7 : Int32) (x10 : Int64) (x12 : Int32) (x13 : Int32) (x14 : Int32) (s0 : Int32) (u : St) : Option (Int64) := if s0 = (0 : Int32) then (if x3 = (0 : Int32) then (if x14 = (0 : Int32) then (f_X12_translated_b423 x1 x3 x7 x10 u) else (f_X12_translated_b389 x1 x3 x7 x10 x12 x13 x14 u)) else (f_X12_translated_b389 x1 x3 x7 x10 x12 x13 x14 u)) else (f_X12_translated_b423 x1 x3 x7 x10 u)
set_option maxRecDepth 100000 in
set_option maxHeartbeats 4000000 in
theorem b_X12_translated_b373 {p : Program} {l : Launch} {e : Env} {s : State} {m : MethodId} {args : Array Value} {below : List Frame} {meth : Method} {c : Code} {D : va_G} {cy : ClassId × ClassId × ClassId} {ad : Nat → Nat} {A : Nat → Prop} (E : CallFix p m c cX12_translated 19 s args gw RX12) (hr : meth.sig.returnType = some .long) (hlk : meth.locks = false) {x1 : Int64} {x3 : Int32} {x7 : Int32} {x10 : Int64} {x12 : Int32} {x13 : Int32} {x14 : Int32} {s0 : Int32} {u : St} {r : Int64} (h : f_X12_translated_b373 x1 x3 x7 x10 x12 x13 x14 s0 u = some r) {ls : Array Slot} {H : Heap} {locs : List Loc} {rr : Nat → Nat} (hl : lv_has ls 19 [(0, .ref (ad 0)), (1, .long x1), (3, .int x3), (7, .int x7), (10, .long x10), (12, .int x12), (13, .int x13), (14, .int x14)]) (w : WX (wM cy ad) D cy rr u A s H locs) : Wx (wM cy ad) D p l e 1 26 0 s m args below meth c A u (some (.long r)) H locs 0 373 ls [.int s0] := by
  have hx := E.1
  have hb := E.2.1
  have hown := E.2.2.2.1
  have hts := E.2.2.2.2
  refine lv_istore (lv' := [(16, .int s0), (0, .ref (ad 0)), (1, .long x1), (3, .int x3), (7, .int x7), (10, .long x10), (12, .int x12), (13, .int x13), (14, .int x14)]) hx hb (dq da_X12_translated 202 rfl) hl (by decide) rfl (fun ls hl => ?_)
  refine lv_iload hx hb (dq da_X12_translated 203 rfl) (lv_at hl 0 rfl) ?_
  refine lv_if_ne (tgt := 423) hx hb (dq da_X12_translated 204 rfl) (by decide) (fun c19 => ?_) (fun c19 => ?_)
  · have h := ie c19 h
    exact b_X12_translated_b423 E hr hlk h (lv_sub hl [2, 3, 4, 5] rfl) w
  · have h := it c19 h
    refine lv_iload_n hx hb (dq da_X12_translated 205 rfl) rfl (lv_at hl 3 rfl) ?_
    refine lv_if_ne (tgt := 389) hx hb (dq da_X12_translated 206 rfl) (by decide) (fun c27 => ?_) (fun c27 => ?_)
    · have h := ie c27 h
      exact b_X12_translated_b389 E hr hlk h (lv_sub hl [1, 2, 3, 4, 5, 6, 7, 8] rfl) w
    · have h := it c27 h
      refine lv_iload hx hb (dq da_X12_translated 207 rfl) (lv_at hl 8 rfl) ?_
      refine lv_if_eq (tgt := 423) hx hb (dq da_X12_translated 208 rfl) (by decide) (fun c34 => ?_) (fun c34 => ?_)
      · have h := it c34 h
        exact b_X12_translated_b423 E hr hlk h (lv_sub hl [2, 3, 4, 5] rfl) w
      · have h := ie c34 h
        exact b_X12_translated_b389 E hr hlk h (lv_sub hl [1, 2, 3, 4, 5, 6, 7, 8] rfl) w
def f_X12_translated_b372 (x1 : Int64) (x3 : Int32) (x7 : Int32) (x10 : Int64) (x12 : Int32) (x13 : Int32) (x14 : Int32) (u : St) : Option (Int64) := f_X12_translated_b373 x1 x3 x7 x10 x12 x13 x14 (0 : Int32) u
set_option maxRecDepth 100000 in
set_option maxHeartbeats 4000000 in
theorem b_X12_translated_b372 {p : Program} {l : Launch} {e : Env} {s : State} {m : MethodId} {args : Array Value} {below : List Frame} {meth : Method} {c : Code} {D : va_G} {cy : ClassId × ClassId × ClassId} {ad : Nat → Nat} {A : Nat → Prop} (E : CallFix p m c cX12_translated 19 s args gw RX12) (hr : meth.sig.returnType = some .long) (hlk : meth.locks = false) {x1 : Int64} {x3 : Int32} {x7 : Int32} {x10 : Int64} {x12 : Int32} {x13 : Int32} {x14 : Int32} {u : St} {r : Int64} (h : f_X12_translated_b372 x1 x3 x7 x10 x12 x13 x14 u = some r) {ls : Array Slot} {H : Heap} {locs : List Loc} {rr : Nat → Nat} (hl : lv_has ls 19 [(0, .ref (ad 0)), (1, .long x1), (3, .int x3), (7, .int x7), (10, .long x10), (12, .int x12), (13, .int x13), (14, .int x14)]) (w : WX (wM cy ad) D cy rr u A s H locs) : Wx (wM cy ad) D p l e 1 26 0 s m args below meth c A u (some (.long r)) H locs 0 372 ls [] := by
  have hx := E.1
  have hb := E.2.1
  have hown := E.2.2.2.1
  have hts := E.2.2.2.2
  refine lv_iconst (v := 0) hx hb (dq da_X12_translated 201 rfl) rfl ?_
  exact b_X12_translated_b373 E hr hlk h (lv_sub hl [0, 1, 2, 3, 4, 5, 6, 7] rfl) w
def f_X12_translated_b368 (x1 : Int64) (x3 : Int32) (x7 : Int32) (x10 : Int64) (x12 : Int32) (x13 : Int32) (x14 : Int32) (u : St) : Option (Int64) := f_X12_translated_b373 x1 x3 x7 x10 x12 x13 x14 (1 : Int32) u
set_option maxRecDepth 100000 in
set_option maxHeartbeats 4000000 in
theorem b_X12_translated_b368 {p : Program} {l : Launch} {e : Env} {s : State} {m : MethodId} {args : Array Value} {below : List Frame} {meth : Method} {c : Code} {D : va_G} {cy : ClassId × ClassId × ClassId} {ad : Nat → Nat} {A : Nat → Prop} (E : CallFix p m c cX12_translated 19 s args gw RX12) (hr : meth.sig.returnType = some .long) (hlk : meth.locks = false) {x1 : Int64} {x3 : Int32} {x7 : Int32} {x10 : Int64} {x12 : Int32} {x13 : Int32} {x14 : Int32} {u : St} {r : Int64} (h : f_X12_translated_b368 x1 x3 x7 x10 x12 x13 x14 u = some r) {ls : Array Slot} {H : Heap} {locs : List Loc} {rr : Nat → Nat} (hl : lv_has ls 19 [(0, .ref (ad 0)), (1, .long x1), (3, .int x3), (7, .int x7), (10, .long x10), (12, .int x12), (13, .int x13), (14, .int x14)]) (w : WX (wM cy ad) D cy rr u A s H locs) : Wx (wM cy ad) D p l e 1 26 0 s m args below meth c A u (some (.long r)) H locs 0 368 ls [] := by
  have hx := E.1
  have hb := E.2.1
  have hown := E.2.2.2.1
  have hts := E.2.2.2.2
  refine lv_iconst (v := 1) hx hb (dq da_X12_translated 199 rfl) rfl ?_
  refine lv_goto (tgt := 373) hx hb (dq da_X12_translated 200 rfl) (by decide) ?_
  exact b_X12_translated_b373 E hr hlk h (lv_sub hl [0, 1, 2, 3, 4, 5, 6, 7] rfl) w
def f_X12_translated_b330 (x1 : Int64) (x3 : Int32) (x4 : Int32) (x7 : Int32) (x10 : Int64) (x12 : Int32) (x13 : Int32) (x14 : Int32) (s0 : Int32) (u : St) : Option (Int64) := if x4 = (0 : Int32) then (if s0 = (0 : Int32) then (f_X12_translated_b373 x1 x3 x7 x10 x12 x13 x14 (1 : Int32) u) else (f_X12_translated_b373 x1 x3 x7 x10 x12 x13 x14 (0 : Int32) u)) else (if s0 = (0 : Int32) then (f_X12_translated_b372 x1 x3 x7 x10 x12 x13 x14 u) else (if x3 = (0 : Int32) then (f_X12_translated_b368 x1 x3 x7 x10 x12 x13 x14 u) else (if (f_X12_is (18 : Int32) u) = (0 : Int32) then (f_X12_translated_b368 x1 x3 x7 x10 x12 x13 x14 u) else (f_X12_translated_b372 x1 x3 x7 x10 x12 x13 x14 u))))
set_option maxRecDepth 100000 in
set_option maxHeartbeats 4000000 in
theorem b_X12_translated_b330 {p : Program} {l : Launch} {e : Env} {s : State} {m : MethodId} {args : Array Value} {below : List Frame} {meth : Method} {c : Code} {D : va_G} {cy : ClassId × ClassId × ClassId} {ad : Nat → Nat} {A : Nat → Prop} (E : CallFix p m c cX12_translated 19 s args gw RX12) (hr : meth.sig.returnType = some .long) (hlk : meth.locks = false) {x1 : Int64} {x3 : Int32} {x4 : Int32} {x7 : Int32} {x10 : Int64} {x12 : Int32} {x13 : Int32} {x14 : Int32} {s0 : Int32} {u : St} {r : Int64} (h : f_X12_translated_b330 x1 x3 x4 x7 x10 x12 x13 x14 s0 u = some r) {ls : Array Slot} {H : Heap} {locs : List Loc} {rr : Nat → Nat} (hl : lv_has ls 19 [(0, .ref (ad 0)), (1, .long x1), (3, .int x3), (4, .int x4), (7, .int x7), (10, .long x10), (12, .int x12), (13, .int x13), (14, .int x14)]) (w : WX (wM cy ad) D cy rr u A s H locs) : Wx (wM cy ad) D p l e 1 26 0 s m args below meth c A u (some (.long r)) H locs 0 330 ls [.int s0] := by
  have hx := E.1
  have hb := E.2.1
  have hown := E.2.2.2.1
  have hts := E.2.2.2.2
  refine lv_istore (lv' := [(15, .int s0), (0, .ref (ad 0)), (1, .long x1), (3, .int x3), (4, .int x4), (7, .int x7), (10, .long x10), (12, .int x12), (13, .int x13), (14, .int x14)]) hx hb (dq da_X12_translated 182 rfl) hl (by decide) rfl (fun ls hl => ?_)
  refine lv_iload hx hb (dq da_X12_translated 183 rfl) (lv_at hl 4 rfl) ?_
  refine lv_if_ne (tgt := 350) hx hb (dq da_X12_translated 184 rfl) (by decide) (fun c17 => ?_) (fun c17 => ?_)
  · have h := ie c17 h
    refine lv_iload hx hb (dq da_X12_translated 191 rfl) (lv_at hl 0 rfl) ?_
    refine lv_if_eq (tgt := 372) hx hb (dq da_X12_translated 192 rfl) (by decide) (fun c18 => ?_) (fun c18 => ?_)
    · have h := it c18 h
      exact b_X12_translated_b372 E hr hlk h (lv_sub hl [1, 2, 3, 5, 6, 7, 8, 9] rfl) w
    · have h := ie c18 h
      refine lv_iload_n hx hb (dq da_X12_translated 193 rfl) rfl (lv_at hl 3 rfl) ?_
      refine lv_if_eq (tgt := 368) hx hb (dq da_X12_translated 194 rfl) (by decide) (fun c35 => ?_) (fun c35 => ?_)
      · have h := it c35 h
        exact b_X12_translated_b368 E hr hlk h (lv_sub hl [1, 2, 3, 5, 6, 7, 8, 9] rfl) w
      · have h := ie c35 h
        refine lv_aload_n hx hb (dq da_X12_translated 195 rfl) rfl (lv_at hl 1 rfl) ?_
        refine lv_bipush (v := 18) hx hb (dq da_X12_translated 196 rfl) rfl ?_
        refine cV1 E (c_X12_is l D cy ad _ _ ) w_1414 w_1416 w_p56 w_10 w_1417 rfl hd_X12_is rfl hl.1 rfl (Nat.le_of_ble_eq_true rfl) ⟨Nat.le_of_ble_eq_true rfl, Nat.le_of_ble_eq_true rfl⟩ (by decide) w (rc_wM_0 w) (dq da_X12_translated 197 rfl) (fun H locs rr w => ?_)
        refine lv_if_ne (tgt := 372) hx hb (dq da_X12_translated 198 rfl) (by decide) (fun c36 => ?_) (fun c36 => ?_)
        · have h := ie c36 h
          exact b_X12_translated_b372 E hr hlk h (lv_sub hl [1, 2, 3, 5, 6, 7, 8, 9] rfl) w
        · have h := it c36 h
          exact b_X12_translated_b368 E hr hlk h (lv_sub hl [1, 2, 3, 5, 6, 7, 8, 9] rfl) w
  · have h := it c17 h
    refine lv_iload hx hb (dq da_X12_translated 185 rfl) (lv_at hl 0 rfl) ?_
    refine lv_if_ne (tgt := 346) hx hb (dq da_X12_translated 186 rfl) (by decide) (fun c37 => ?_) (fun c37 => ?_)
    · have h := ie c37 h
      refine lv_iconst (v := 0) hx hb (dq da_X12_translated 189 rfl) rfl ?_
      refine lv_goto (tgt := 373) hx hb (dq da_X12_translated 190 rfl) (by decide) ?_
      exact b_X12_translated_b373 E hr hlk h (lv_sub hl [1, 2, 3, 5, 6, 7, 8, 9] rfl) w
    · have h := it c37 h
      refine lv_iconst (v := 1) hx hb (dq da_X12_translated 187 rfl) rfl ?_
      refine lv_goto (tgt := 373) hx hb (dq da_X12_translated 188 rfl) (by decide) ?_
      exact b_X12_translated_b373 E hr hlk h (lv_sub hl [1, 2, 3, 5, 6, 7, 8, 9] rfl) w
def f_X12_translated_b314 (x1 : Int64) (x3 : Int32) (x4 : Int32) (x7 : Int32) (x10 : Int64) (x12 : Int32) (x13 : Int32) (x14 : Int32) (u : St) : Option (Int64) := if ((j_lshr x10 (4 : Int32)) &&& (1 : Int64)) = (1 : Int64) then (f_X12_translated_b330 x1 x3 x4 x7 x10 x12 x13 x14 (1 : Int32) u) else (f_X12_translated_b330 x1 x3 x4 x7 x10 x12 x13 x14 (0 : Int32) u)
set_option maxRecDepth 100000 in
set_option maxHeartbeats 4000000 in
theorem b_X12_translated_b314 {p : Program} {l : Launch} {e : Env} {s : State} {m : MethodId} {args : Array Value} {below : List Frame} {meth : Method} {c : Code} {D : va_G} {cy : ClassId × ClassId × ClassId} {ad : Nat → Nat} {A : Nat → Prop} (E : CallFix p m c cX12_translated 19 s args gw RX12) (hr : meth.sig.returnType = some .long) (hlk : meth.locks = false) {x1 : Int64} {x3 : Int32} {x4 : Int32} {x7 : Int32} {x10 : Int64} {x12 : Int32} {x13 : Int32} {x14 : Int32} {u : St} {r : Int64} (h : f_X12_translated_b314 x1 x3 x4 x7 x10 x12 x13 x14 u = some r) {ls : Array Slot} {H : Heap} {locs : List Loc} {rr : Nat → Nat} (hl : lv_has ls 19 [(0, .ref (ad 0)), (1, .long x1), (3, .int x3), (4, .int x4), (7, .int x7), (10, .long x10), (12, .int x12), (13, .int x13), (14, .int x14)]) (w : WX (wM cy ad) D cy rr u A s H locs) : Wx (wM cy ad) D p l e 1 26 0 s m args below meth c A u (some (.long r)) H locs 0 314 ls [] := by
  have hx := E.1
  have hb := E.2.1
  have hown := E.2.2.2.1
  have hts := E.2.2.2.2
  refine lv_lload hx hb (dq da_X12_translated 171 rfl) (lv_at hl 5 rfl) ?_
  refine lv_iconst (v := 4) hx hb (dq da_X12_translated 172 rfl) rfl ?_
  refine lv_lshr (v := (j_lshr x10 (4 : Int32))) hx hb (dq da_X12_translated 173 rfl) rfl ?_
  refine lv_lconst (v := 1) hx hb (dq da_X12_translated 174 rfl) rfl ?_
  refine lv_land hx hb (dq da_X12_translated 175 rfl) ?_
  refine lv_lconst (v := 1) hx hb (dq da_X12_translated 176 rfl) rfl ?_
  refine lc_ne (tgt := 329) hx hb (dq da_X12_translated 177 rfl) (dq da_X12_translated 178 rfl) (by decide) (fun c16 => ?_) (fun c16 => ?_)
  · have h := ie c16 h
    refine lv_iconst (v := 0) hx hb (dq da_X12_translated 181 rfl) rfl ?_
    exact b_X12_translated_b330 E hr hlk h (lv_sub hl [0, 1, 2, 3, 4, 5, 6, 7, 8] rfl) w
  · have h := it c16 h
    refine lv_iconst (v := 1) hx hb (dq da_X12_translated 179 rfl) rfl ?_
    refine lv_goto (tgt := 330) hx hb (dq da_X12_translated 180 rfl) (by decide) ?_
    exact b_X12_translated_b330 E hr hlk h (lv_sub hl [0, 1, 2, 3, 4, 5, 6, 7, 8] rfl) w
def f_X12_translated_b287 (x3 : Int32) (u : St) : Option (Int64) := some ((-1 : Int64) - (f_X12_pageFault x3).toInt64)
set_option maxRecDepth 100000 in
set_option maxHeartbeats 4000000 in
theorem b_X12_translated_b287 {p : Program} {l : Launch} {e : Env} {s : State} {m : MethodId} {args : Array Value} {below : List Frame} {meth : Method} {c : Code} {D : va_G} {cy : ClassId × ClassId × ClassId} {ad : Nat → Nat} {A : Nat → Prop} (E : CallFix p m c cX12_translated 19 s args gw RX12) (hr : meth.sig.returnType = some .long) (hlk : meth.locks = false) {x3 : Int32} {u : St} {r : Int64} (h : f_X12_translated_b287 x3 u = some r) {ls : Array Slot} {H : Heap} {locs : List Loc} {rr : Nat → Nat} (hl : lv_has ls 19 [(3, .int x3)]) (w : WX (wM cy ad) D cy rr u A s H locs) : Wx (wM cy ad) D p l e 1 26 0 s m args below meth c A u (some (.long r)) H locs 0 287 ls [] := by
  have hx := E.1
  have hb := E.2.1
  have hown := E.2.2.2.1
  have hts := E.2.2.2.2
  refine lv_ldc2 hx hb hown (hts _ w_1086) (dq da_X12_translated 157 rfl) ?_
  refine lv_iload_n hx hb (dq da_X12_translated 158 rfl) rfl (lv_at hl 0 rfl) ?_
  refine callP E (c_X12_pageFault l _ ) w_1443 w_1444 w_10 w_1445 hd_X12_pageFault rfl hl.1 rfl (Nat.le_of_ble_eq_true rfl) ⟨Nat.le_of_ble_eq_true rfl, Nat.le_of_ble_eq_true rfl⟩ (by decide) (dq da_X12_translated 159 rfl) ?_
  refine lv_i2l (v := (f_X12_pageFault x3).toInt64) hx hb (dq da_X12_translated 160 rfl) rfl ?_
  refine lv_lsub hx hb (dq da_X12_translated 161 rfl) ?_
  exact xret_l E hr hlk w (by decide) (os h) rfl (dq da_X12_translated 162 rfl)
def f_X12_translated_b237 (k99 : Int64 → Int32 → Int32 → Int64 → Int32 → St → Option (Int64)) (x1 : Int64) (x3 : Int32) (x4 : Int32) (x7 : Int32) (x10 : Int64) (x12 : Int32) (x13 : Int32) (x14 : Int32) (u : St) : Option (Int64) := if (f_X12_cut x10 (63 : Int32) (54 : Int32)) = (0 : Int64) then (if x12 = (0 : Int32) then (if x14 = (0 : Int32) then (if x7 = (0 : Int32) then (f_X12_translated_b287 x3 u) else (if (x10 &&& (208 : Int64)) = (0 : Int64) then (k99 x1 x3 x4 (j_lshl (f_X12_cut x10 (53 : Int32) (10 : Int32)) (12 : Int32)) (x7 + (-1 : Int32)) u) else (f_X12_translated_b287 x3 u))) else (f_X12_translated_b314 x1 x3 x4 x7 x10 x12 x13 x14 u)) else (f_X12_translated_b314 x1 x3 x4 x7 x10 x12 x13 x14 u)) else (f_X12_translated_b251 x3 u)
set_option maxRecDepth 100000 in
set_option maxHeartbeats 4000000 in
theorem b_X12_translated_b237 {p : Program} {l : Launch} {e : Env} {s : State} {m : MethodId} {args : Array Value} {below : List Frame} {meth : Method} {c : Code} {D : va_G} {cy : ClassId × ClassId × ClassId} {ad : Nat → Nat} {A : Nat → Prop} (E : CallFix p m c cX12_translated 19 s args gw RX12) (hr : meth.sig.returnType = some .long) (hlk : meth.locks = false) {k99 : Int64 → Int32 → Int32 → Int64 → Int32 → St → Option (Int64)} (hk99 : ∀ (x1 : Int64) (x3 : Int32) (x4 : Int32) (x5 : Int64) (x7 : Int32) (u : St) (r : Int64), k99 x1 x3 x4 x5 x7 u = some r → ∀ (ls : Array Slot) (H : Heap) (locs : List Loc) (rr : Nat → Nat), lv_has ls 19 [(0, .ref (ad 0)), (1, .long x1), (3, .int x3), (4, .int x4), (5, .long x5), (7, .int x7)] → WX (wM cy ad) D cy rr u A s H locs → Wx (wM cy ad) D p l e 1 26 0 s m args below meth c A u (some (.long r)) H locs 0 99 ls []) {x1 : Int64} {x3 : Int32} {x4 : Int32} {x7 : Int32} {x10 : Int64} {x12 : Int32} {x13 : Int32} {x14 : Int32} {u : St} {r : Int64} (h : f_X12_translated_b237 k99 x1 x3 x4 x7 x10 x12 x13 x14 u = some r) {ls : Array Slot} {H : Heap} {locs : List Loc} {rr : Nat → Nat} (hl : lv_has ls 19 [(0, .ref (ad 0)), (1, .long x1), (3, .int x3), (4, .int x4), (7, .int x7), (10, .long x10), (12, .int x12), (13, .int x13), (14, .int x14)]) (w : WX (wM cy ad) D cy rr u A s H locs) : Wx (wM cy ad) D p l e 1 26 0 s m args below meth c A u (some (.long r)) H locs 0 237 ls [] := by
  have hx := E.1
  have hb := E.2.1
  have hown := E.2.2.2.1
  have hts := E.2.2.2.2
  refine lv_lload hx hb (dq da_X12_translated 132 rfl) (lv_at hl 5 rfl) ?_
  refine lv_bipush (v := 63) hx hb (dq da_X12_translated 133 rfl) rfl ?_
  refine lv_bipush (v := 54) hx hb (dq da_X12_translated 134 rfl) rfl ?_
  refine callP E (c_X12_cut l _ _ _ ) w_1384 w_1385 w_10 w_1386 hd_X12_cut rfl hl.1 rfl (Nat.le_of_ble_eq_true rfl) ⟨Nat.le_of_ble_eq_true rfl, Nat.le_of_ble_eq_true rfl⟩ (by decide) (dq da_X12_translated 135 rfl) ?_
  refine lv_lconst (v := 0) hx hb (dq da_X12_translated 136 rfl) rfl ?_
  refine lc_eq (tgt := 261) hx hb (dq da_X12_translated 137 rfl) (dq da_X12_translated 138 rfl) (by decide) (fun c14 => ?_) (fun c14 => ?_)
  · have h := it c14 h
    refine lv_iload hx hb (dq da_X12_translated 145 rfl) (lv_at hl 6 rfl) ?_
    refine lv_if_ne (tgt := 314) hx hb (dq da_X12_translated 146 rfl) (by decide) (fun c15 => ?_) (fun c15 => ?_)
    · have h := ie c15 h
      exact b_X12_translated_b314 E hr hlk h (lv_sub hl [0, 1, 2, 3, 4, 5, 6, 7, 8] rfl) w
    · have h := it c15 h
      refine lv_iload hx hb (dq da_X12_translated 147 rfl) (lv_at hl 8 rfl) ?_
      refine lv_if_ne (tgt := 314) hx hb (dq da_X12_translated 148 rfl) (by decide) (fun c38 => ?_) (fun c38 => ?_)
      · have h := ie c38 h
        exact b_X12_translated_b314 E hr hlk h (lv_sub hl [0, 1, 2, 3, 4, 5, 6, 7, 8] rfl) w
      · have h := it c38 h
        refine lv_iload hx hb (dq da_X12_translated 149 rfl) (lv_at hl 4 rfl) ?_
        refine lv_if_eq (tgt := 287) hx hb (dq da_X12_translated 150 rfl) (by decide) (fun c39 => ?_) (fun c39 => ?_)
        · have h := it c39 h
          exact b_X12_translated_b287 E hr hlk h (lv_sub hl [2] rfl) w
        · have h := ie c39 h
          refine lv_lload hx hb (dq da_X12_translated 151 rfl) (lv_at hl 5 rfl) ?_
          refine lv_ldc2 hx hb hown (hts _ w_1449) (dq da_X12_translated 152 rfl) ?_
          refine lv_land hx hb (dq da_X12_translated 153 rfl) ?_
          refine lv_lconst (v := 0) hx hb (dq da_X12_translated 154 rfl) rfl ?_
          refine lc_eq (tgt := 297) hx hb (dq da_X12_translated 155 rfl) (dq da_X12_translated 156 rfl) (by decide) (fun c40 => ?_) (fun c40 => ?_)
          · have h := it c40 h
            refine lv_lload hx hb (dq da_X12_translated 163 rfl) (lv_at hl 5 rfl) ?_
            refine lv_bipush (v := 53) hx hb (dq da_X12_translated 164 rfl) rfl ?_
            refine lv_bipush (v := 10) hx hb (dq da_X12_translated 165 rfl) rfl ?_
            refine callP E (c_X12_cut l _ _ _ ) w_1384 w_1385 w_10 w_1386 hd_X12_cut rfl hl.1 rfl (Nat.le_of_ble_eq_true rfl) ⟨Nat.le_of_ble_eq_true rfl, Nat.le_of_ble_eq_true rfl⟩ (by decide) (dq da_X12_translated 166 rfl) ?_
            refine lv_bipush (v := 12) hx hb (dq da_X12_translated 167 rfl) rfl ?_
            refine lv_lshl (v := (j_lshl (f_X12_cut x10 (53 : Int32) (10 : Int32)) (12 : Int32))) hx hb (dq da_X12_translated 168 rfl) rfl ?_
            refine lv_lstore (lv' := [(5, .long (j_lshl (f_X12_cut x10 (53 : Int32) (10 : Int32)) (12 : Int32))), (0, .ref (ad 0)), (1, .long x1), (3, .int x3), (4, .int x4), (7, .int x7), (10, .long x10), (12, .int x12), (13, .int x13), (14, .int x14)]) hx hb (dq da_X12_translated 169 rfl) hl (by decide) rfl (fun ls hl => ?_)
            refine lv_goto (tgt := 550) hx hb (dq da_X12_translated 170 rfl) (by decide) ?_
            refine lv_iinc (v := (x7 + (-1 : Int32))) (lv' := [(7, .int (x7 + (-1 : Int32))), (5, .long (j_lshl (f_X12_cut x10 (53 : Int32) (10 : Int32)) (12 : Int32))), (0, .ref (ad 0)), (1, .long x1), (3, .int x3), (4, .int x4), (10, .long x10), (12, .int x12), (13, .int x13), (14, .int x14)]) hx hb (dq da_X12_translated 300 rfl) hl (k := 5) rfl rfl (by decide) rfl (fun ls hl => ?_)
            refine lv_goto (tgt := 99) hx hb (dq da_X12_translated 301 rfl) (by decide) ?_
            exact hk99 _ _ _ _ _ _ _ h ls _ _ _ (lv_sub hl [2, 3, 4, 5, 1, 0] rfl) w
          · have h := ie c40 h
            exact b_X12_translated_b287 E hr hlk h (lv_sub hl [2] rfl) w
  · have h := ie c14 h
    exact b_X12_translated_b251 E hr hlk h (lv_sub hl [2] rfl) w
def f_X12_translated_b216 (k99 : Int64 → Int32 → Int32 → Int64 → Int32 → St → Option (Int64)) (x1 : Int64) (x3 : Int32) (x4 : Int32) (x7 : Int32) (x10 : Int64) (x12 : Int32) (x13 : Int32) (s0 : Int32) (u : St) : Option (Int64) := if (x10 &&& (1 : Int64)) = (0 : Int64) then (f_X12_translated_b251 x3 u) else (if x12 = (0 : Int32) then (if x13 = (0 : Int32) then (f_X12_translated_b237 k99 x1 x3 x4 x7 x10 x12 x13 s0 u) else (f_X12_translated_b251 x3 u)) else (f_X12_translated_b237 k99 x1 x3 x4 x7 x10 x12 x13 s0 u))
set_option maxRecDepth 100000 in
set_option maxHeartbeats 4000000 in
theorem b_X12_translated_b216 {p : Program} {l : Launch} {e : Env} {s : State} {m : MethodId} {args : Array Value} {below : List Frame} {meth : Method} {c : Code} {D : va_G} {cy : ClassId × ClassId × ClassId} {ad : Nat → Nat} {A : Nat → Prop} (E : CallFix p m c cX12_translated 19 s args gw RX12) (hr : meth.sig.returnType = some .long) (hlk : meth.locks = false) {k99 : Int64 → Int32 → Int32 → Int64 → Int32 → St → Option (Int64)} (hk99 : ∀ (x1 : Int64) (x3 : Int32) (x4 : Int32) (x5 : Int64) (x7 : Int32) (u : St) (r : Int64), k99 x1 x3 x4 x5 x7 u = some r → ∀ (ls : Array Slot) (H : Heap) (locs : List Loc) (rr : Nat → Nat), lv_has ls 19 [(0, .ref (ad 0)), (1, .long x1), (3, .int x3), (4, .int x4), (5, .long x5), (7, .int x7)] → WX (wM cy ad) D cy rr u A s H locs → Wx (wM cy ad) D p l e 1 26 0 s m args below meth c A u (some (.long r)) H locs 0 99 ls []) {x1 : Int64} {x3 : Int32} {x4 : Int32} {x7 : Int32} {x10 : Int64} {x12 : Int32} {x13 : Int32} {s0 : Int32} {u : St} {r : Int64} (h : f_X12_translated_b216 k99 x1 x3 x4 x7 x10 x12 x13 s0 u = some r) {ls : Array Slot} {H : Heap} {locs : List Loc} {rr : Nat → Nat} (hl : lv_has ls 19 [(0, .ref (ad 0)), (1, .long x1), (3, .int x3), (4, .int x4), (7, .int x7), (10, .long x10), (12, .int x12), (13, .int x13)]) (w : WX (wM cy ad) D cy rr u A s H locs) : Wx (wM cy ad) D p l e 1 26 0 s m args below meth c A u (some (.long r)) H locs 0 216 ls [.int s0] := by
  have hx := E.1
  have hb := E.2.1
  have hown := E.2.2.2.1
  have hts := E.2.2.2.2
  refine lv_istore (lv' := [(14, .int s0), (0, .ref (ad 0)), (1, .long x1), (3, .int x3), (4, .int x4), (7, .int x7), (10, .long x10), (12, .int x12), (13, .int x13)]) hx hb (dq da_X12_translated 121 rfl) hl (by decide) rfl (fun ls hl => ?_)
  refine lv_lload hx hb (dq da_X12_translated 122 rfl) (lv_at hl 6 rfl) ?_
  refine lv_lconst (v := 1) hx hb (dq da_X12_translated 123 rfl) rfl ?_
  refine lv_land hx hb (dq da_X12_translated 124 rfl) ?_
  refine lv_lconst (v := 0) hx hb (dq da_X12_translated 125 rfl) rfl ?_
  refine lc_eq (tgt := 251) hx hb (dq da_X12_translated 126 rfl) (dq da_X12_translated 127 rfl) (by decide) (fun c12 => ?_) (fun c12 => ?_)
  · have h := it c12 h
    exact b_X12_translated_b251 E hr hlk h (lv_sub hl [3] rfl) w
  · have h := ie c12 h
    refine lv_iload hx hb (dq da_X12_translated 128 rfl) (lv_at hl 7 rfl) ?_
    refine lv_if_ne (tgt := 237) hx hb (dq da_X12_translated 129 rfl) (by decide) (fun c13 => ?_) (fun c13 => ?_)
    · have h := ie c13 h
      exact b_X12_translated_b237 E hr hlk hk99 h (lv_sub hl [1, 2, 3, 4, 5, 6, 7, 8, 0] rfl) w
    · have h := it c13 h
      refine lv_iload hx hb (dq da_X12_translated 130 rfl) (lv_at hl 8 rfl) ?_
      refine lv_if_ne (tgt := 251) hx hb (dq da_X12_translated 131 rfl) (by decide) (fun c41 => ?_) (fun c41 => ?_)
      · have h := ie c41 h
        exact b_X12_translated_b251 E hr hlk h (lv_sub hl [3] rfl) w
      · have h := it c41 h
        exact b_X12_translated_b237 E hr hlk hk99 h (lv_sub hl [1, 2, 3, 4, 5, 6, 7, 8, 0] rfl) w
def f_X12_translated_b198 (k99 : Int64 → Int32 → Int32 → Int64 → Int32 → St → Option (Int64)) (x1 : Int64) (x3 : Int32) (x4 : Int32) (x7 : Int32) (x10 : Int64) (x12 : Int32) (s0 : Int32) (u : St) : Option (Int64) := if ((j_lshr x10 (3 : Int32)) &&& (1 : Int64)) = (1 : Int64) then (f_X12_translated_b216 k99 x1 x3 x4 x7 x10 x12 s0 (1 : Int32) u) else (f_X12_translated_b216 k99 x1 x3 x4 x7 x10 x12 s0 (0 : Int32) u)
set_option maxRecDepth 100000 in
set_option maxHeartbeats 4000000 in
theorem b_X12_translated_b198 {p : Program} {l : Launch} {e : Env} {s : State} {m : MethodId} {args : Array Value} {below : List Frame} {meth : Method} {c : Code} {D : va_G} {cy : ClassId × ClassId × ClassId} {ad : Nat → Nat} {A : Nat → Prop} (E : CallFix p m c cX12_translated 19 s args gw RX12) (hr : meth.sig.returnType = some .long) (hlk : meth.locks = false) {k99 : Int64 → Int32 → Int32 → Int64 → Int32 → St → Option (Int64)} (hk99 : ∀ (x1 : Int64) (x3 : Int32) (x4 : Int32) (x5 : Int64) (x7 : Int32) (u : St) (r : Int64), k99 x1 x3 x4 x5 x7 u = some r → ∀ (ls : Array Slot) (H : Heap) (locs : List Loc) (rr : Nat → Nat), lv_has ls 19 [(0, .ref (ad 0)), (1, .long x1), (3, .int x3), (4, .int x4), (5, .long x5), (7, .int x7)] → WX (wM cy ad) D cy rr u A s H locs → Wx (wM cy ad) D p l e 1 26 0 s m args below meth c A u (some (.long r)) H locs 0 99 ls []) {x1 : Int64} {x3 : Int32} {x4 : Int32} {x7 : Int32} {x10 : Int64} {x12 : Int32} {s0 : Int32} {u : St} {r : Int64} (h : f_X12_translated_b198 k99 x1 x3 x4 x7 x10 x12 s0 u = some r) {ls : Array Slot} {H : Heap} {locs : List Loc} {rr : Nat → Nat} (hl : lv_has ls 19 [(0, .ref (ad 0)), (1, .long x1), (3, .int x3), (4, .int x4), (7, .int x7), (10, .long x10), (12, .int x12)]) (w : WX (wM cy ad) D cy rr u A s H locs) : Wx (wM cy ad) D p l e 1 26 0 s m args below meth c A u (some (.long r)) H locs 0 198 ls [.int s0] := by
  have hx := E.1
  have hb := E.2.1
  have hown := E.2.2.2.1
  have hts := E.2.2.2.2
  refine lv_istore (lv' := [(13, .int s0), (0, .ref (ad 0)), (1, .long x1), (3, .int x3), (4, .int x4), (7, .int x7), (10, .long x10), (12, .int x12)]) hx hb (dq da_X12_translated 109 rfl) hl (by decide) rfl (fun ls hl => ?_)
  refine lv_lload hx hb (dq da_X12_translated 110 rfl) (lv_at hl 6 rfl) ?_
  refine lv_iconst (v := 3) hx hb (dq da_X12_translated 111 rfl) rfl ?_
  refine lv_lshr (v := (j_lshr x10 (3 : Int32))) hx hb (dq da_X12_translated 112 rfl) rfl ?_
  refine lv_lconst (v := 1) hx hb (dq da_X12_translated 113 rfl) rfl ?_
  refine lv_land hx hb (dq da_X12_translated 114 rfl) ?_
  refine lv_lconst (v := 1) hx hb (dq da_X12_translated 115 rfl) rfl ?_
  refine lc_ne (tgt := 215) hx hb (dq da_X12_translated 116 rfl) (dq da_X12_translated 117 rfl) (by decide) (fun c11 => ?_) (fun c11 => ?_)
  · have h := ie c11 h
    refine lv_iconst (v := 0) hx hb (dq da_X12_translated 120 rfl) rfl ?_
    exact b_X12_translated_b216 E hr hlk hk99 h (lv_sub hl [1, 2, 3, 4, 5, 6, 7, 0] rfl) w
  · have h := it c11 h
    refine lv_iconst (v := 1) hx hb (dq da_X12_translated 118 rfl) rfl ?_
    refine lv_goto (tgt := 216) hx hb (dq da_X12_translated 119 rfl) (by decide) ?_
    exact b_X12_translated_b216 E hr hlk hk99 h (lv_sub hl [1, 2, 3, 4, 5, 6, 7, 0] rfl) w
def f_X12_translated_b180 (k99 : Int64 → Int32 → Int32 → Int64 → Int32 → St → Option (Int64)) (x1 : Int64) (x3 : Int32) (x4 : Int32) (x7 : Int32) (x10 : Int64) (s0 : Int32) (u : St) : Option (Int64) := if ((j_lshr x10 (2 : Int32)) &&& (1 : Int64)) = (1 : Int64) then (f_X12_translated_b198 k99 x1 x3 x4 x7 x10 s0 (1 : Int32) u) else (f_X12_translated_b198 k99 x1 x3 x4 x7 x10 s0 (0 : Int32) u)
set_option maxRecDepth 100000 in
set_option maxHeartbeats 4000000 in
theorem b_X12_translated_b180 {p : Program} {l : Launch} {e : Env} {s : State} {m : MethodId} {args : Array Value} {below : List Frame} {meth : Method} {c : Code} {D : va_G} {cy : ClassId × ClassId × ClassId} {ad : Nat → Nat} {A : Nat → Prop} (E : CallFix p m c cX12_translated 19 s args gw RX12) (hr : meth.sig.returnType = some .long) (hlk : meth.locks = false) {k99 : Int64 → Int32 → Int32 → Int64 → Int32 → St → Option (Int64)} (hk99 : ∀ (x1 : Int64) (x3 : Int32) (x4 : Int32) (x5 : Int64) (x7 : Int32) (u : St) (r : Int64), k99 x1 x3 x4 x5 x7 u = some r → ∀ (ls : Array Slot) (H : Heap) (locs : List Loc) (rr : Nat → Nat), lv_has ls 19 [(0, .ref (ad 0)), (1, .long x1), (3, .int x3), (4, .int x4), (5, .long x5), (7, .int x7)] → WX (wM cy ad) D cy rr u A s H locs → Wx (wM cy ad) D p l e 1 26 0 s m args below meth c A u (some (.long r)) H locs 0 99 ls []) {x1 : Int64} {x3 : Int32} {x4 : Int32} {x7 : Int32} {x10 : Int64} {s0 : Int32} {u : St} {r : Int64} (h : f_X12_translated_b180 k99 x1 x3 x4 x7 x10 s0 u = some r) {ls : Array Slot} {H : Heap} {locs : List Loc} {rr : Nat → Nat} (hl : lv_has ls 19 [(0, .ref (ad 0)), (1, .long x1), (3, .int x3), (4, .int x4), (7, .int x7), (10, .long x10)]) (w : WX (wM cy ad) D cy rr u A s H locs) : Wx (wM cy ad) D p l e 1 26 0 s m args below meth c A u (some (.long r)) H locs 0 180 ls [.int s0] := by
  have hx := E.1
  have hb := E.2.1
  have hown := E.2.2.2.1
  have hts := E.2.2.2.2
  refine lv_istore (lv' := [(12, .int s0), (0, .ref (ad 0)), (1, .long x1), (3, .int x3), (4, .int x4), (7, .int x7), (10, .long x10)]) hx hb (dq da_X12_translated 97 rfl) hl (by decide) rfl (fun ls hl => ?_)
  refine lv_lload hx hb (dq da_X12_translated 98 rfl) (lv_at hl 6 rfl) ?_
  refine lv_iconst (v := 2) hx hb (dq da_X12_translated 99 rfl) rfl ?_
  refine lv_lshr (v := (j_lshr x10 (2 : Int32))) hx hb (dq da_X12_translated 100 rfl) rfl ?_
  refine lv_lconst (v := 1) hx hb (dq da_X12_translated 101 rfl) rfl ?_
  refine lv_land hx hb (dq da_X12_translated 102 rfl) ?_
  refine lv_lconst (v := 1) hx hb (dq da_X12_translated 103 rfl) rfl ?_
  refine lc_ne (tgt := 197) hx hb (dq da_X12_translated 104 rfl) (dq da_X12_translated 105 rfl) (by decide) (fun c10 => ?_) (fun c10 => ?_)
  · have h := ie c10 h
    refine lv_iconst (v := 0) hx hb (dq da_X12_translated 108 rfl) rfl ?_
    exact b_X12_translated_b198 E hr hlk hk99 h (lv_sub hl [1, 2, 3, 4, 5, 6, 0] rfl) w
  · have h := it c10 h
    refine lv_iconst (v := 1) hx hb (dq da_X12_translated 106 rfl) rfl ?_
    refine lv_goto (tgt := 198) hx hb (dq da_X12_translated 107 rfl) (by decide) ?_
    exact b_X12_translated_b198 E hr hlk hk99 h (lv_sub hl [1, 2, 3, 4, 5, 6, 0] rfl) w
def f_X12_translated_b99_s (k99 : Int64 → Int32 → Int32 → Int64 → Int32 → St → Option (Int64)) (x1 : Int64) (x3 : Int32) (x4 : Int32) (x5 : Int64) (x7 : Int32) (u : St) : Option (Int64) := if x7 < (0 : Int32) then (some ((-1 : Int64) - (f_X12_pageFault x3).toInt64)) else (if (f_X12_isRam (x5 + ((8 : Int64) * (f_X12_cut x1 ((20 : Int32) + ((9 : Int32) * x7)) ((12 : Int32) + ((9 : Int32) * x7))))) (8 : Int32) u) = (0 : Int32) then (some ((-1 : Int64) - (f_X12_accessFault x3).toInt64)) else ((f_X12_ramAt (x5 + ((8 : Int64) * (f_X12_cut x1 ((20 : Int32) + ((9 : Int32) * x7)) ((12 : Int32) + ((9 : Int32) * x7))))) (8 : Int32) u).bind (fun y7 => if ((j_lshr y7 (1 : Int32)) &&& (1 : Int64)) = (1 : Int64) then (f_X12_translated_b180 k99 x1 x3 x4 x7 y7 (1 : Int32) u) else (f_X12_translated_b180 k99 x1 x3 x4 x7 y7 (0 : Int32) u))))
set_option maxRecDepth 100000 in
set_option maxHeartbeats 4000000 in
theorem b_X12_translated_b99_s {p : Program} {l : Launch} {e : Env} {s : State} {m : MethodId} {args : Array Value} {below : List Frame} {meth : Method} {c : Code} {D : va_G} {cy : ClassId × ClassId × ClassId} {ad : Nat → Nat} {A : Nat → Prop} (E : CallFix p m c cX12_translated 19 s args gw RX12) (hr : meth.sig.returnType = some .long) (hlk : meth.locks = false) {k99 : Int64 → Int32 → Int32 → Int64 → Int32 → St → Option (Int64)} (hk99 : ∀ (x1 : Int64) (x3 : Int32) (x4 : Int32) (x5 : Int64) (x7 : Int32) (u : St) (r : Int64), k99 x1 x3 x4 x5 x7 u = some r → ∀ (ls : Array Slot) (H : Heap) (locs : List Loc) (rr : Nat → Nat), lv_has ls 19 [(0, .ref (ad 0)), (1, .long x1), (3, .int x3), (4, .int x4), (5, .long x5), (7, .int x7)] → WX (wM cy ad) D cy rr u A s H locs → Wx (wM cy ad) D p l e 1 26 0 s m args below meth c A u (some (.long r)) H locs 0 99 ls []) {x1 : Int64} {x3 : Int32} {x4 : Int32} {x5 : Int64} {x7 : Int32} {u : St} {r : Int64} (h : f_X12_translated_b99_s k99 x1 x3 x4 x5 x7 u = some r) {ls : Array Slot} {H : Heap} {locs : List Loc} {rr : Nat → Nat} (hl : lv_has ls 19 [(0, .ref (ad 0)), (1, .long x1), (3, .int x3), (4, .int x4), (5, .long x5), (7, .int x7)]) (w : WX (wM cy ad) D cy rr u A s H locs) : Wx (wM cy ad) D p l e 1 26 0 s m args below meth c A u (some (.long r)) H locs 0 99 ls [] := by
  have hx := E.1
  have hb := E.2.1
  have hown := E.2.2.2.1
  have hts := E.2.2.2.2
  refine lv_iload hx hb (dq da_X12_translated 51 rfl) (lv_at hl 5 rfl) ?_
  refine lv_if_lt (tgt := 556) hx hb (dq da_X12_translated 52 rfl) (by decide) (fun c5 => ?_) (fun c5 => ?_)
  · have h := it c5 h
    refine lv_ldc2 hx hb hown (hts _ w_1086) (dq da_X12_translated 302 rfl) ?_
    refine lv_iload_n hx hb (dq da_X12_translated 303 rfl) rfl (lv_at hl 2 rfl) ?_
    refine callP E (c_X12_pageFault l _ ) w_1443 w_1444 w_10 w_1445 hd_X12_pageFault rfl hl.1 rfl (Nat.le_of_ble_eq_true rfl) ⟨Nat.le_of_ble_eq_true rfl, Nat.le_of_ble_eq_true rfl⟩ (by decide) (dq da_X12_translated 304 rfl) ?_
    refine lv_i2l (v := (f_X12_pageFault x3).toInt64) hx hb (dq da_X12_translated 305 rfl) rfl ?_
    refine lv_lsub hx hb (dq da_X12_translated 306 rfl) ?_
    exact xret_l E hr hlk w (by decide) (os h) rfl (dq da_X12_translated 307 rfl)
  · have h := ie c5 h
    refine lv_lload hx hb (dq da_X12_translated 53 rfl) (lv_at hl 4 rfl) ?_
    refine lv_ldc2 hx hb hown (hts _ w_1283) (dq da_X12_translated 54 rfl) ?_
    refine lv_lload_n hx hb (dq da_X12_translated 55 rfl) rfl (lv_at hl 1 rfl) ?_
    refine lv_bipush (v := 20) hx hb (dq da_X12_translated 56 rfl) rfl ?_
    refine lv_bipush (v := 9) hx hb (dq da_X12_translated 57 rfl) rfl ?_
    refine lv_iload hx hb (dq da_X12_translated 58 rfl) (lv_at hl 5 rfl) ?_
    refine lv_imul hx hb (dq da_X12_translated 59 rfl) ?_
    refine lv_iadd hx hb (dq da_X12_translated 60 rfl) ?_
    refine lv_bipush (v := 12) hx hb (dq da_X12_translated 61 rfl) rfl ?_
    refine lv_bipush (v := 9) hx hb (dq da_X12_translated 62 rfl) rfl ?_
    refine lv_iload hx hb (dq da_X12_translated 63 rfl) (lv_at hl 5 rfl) ?_
    refine lv_imul hx hb (dq da_X12_translated 64 rfl) ?_
    refine lv_iadd hx hb (dq da_X12_translated 65 rfl) ?_
    refine callP E (c_X12_cut l _ _ _ ) w_1384 w_1385 w_10 w_1386 hd_X12_cut rfl hl.1 rfl (Nat.le_of_ble_eq_true rfl) ⟨Nat.le_of_ble_eq_true rfl, Nat.le_of_ble_eq_true rfl⟩ (by decide) (dq da_X12_translated 66 rfl) ?_
    refine lv_lmul hx hb (dq da_X12_translated 67 rfl) ?_
    refine lv_ladd hx hb (dq da_X12_translated 68 rfl) ?_
    refine lv_lstore (lv' := [(8, .long (x5 + ((8 : Int64) * (f_X12_cut x1 ((20 : Int32) + ((9 : Int32) * x7)) ((12 : Int32) + ((9 : Int32) * x7)))))), (0, .ref (ad 0)), (1, .long x1), (3, .int x3), (4, .int x4), (5, .long x5), (7, .int x7)]) hx hb (dq da_X12_translated 69 rfl) hl (by decide) rfl (fun ls hl => ?_)
    refine lv_aload_n hx hb (dq da_X12_translated 70 rfl) rfl (lv_at hl 1 rfl) ?_
    refine lv_lload hx hb (dq da_X12_translated 71 rfl) (lv_at hl 0 rfl) ?_
    refine lv_bipush (v := 8) hx hb (dq da_X12_translated 72 rfl) rfl ?_
    refine cV1 E (c_X12_isRam l D cy ad _ _ _ ) w_1286 w_1288 w_p44 w_10 w_1289 rfl hd_X12_isRam rfl hl.1 rfl (Nat.le_of_ble_eq_true rfl) ⟨Nat.le_of_ble_eq_true rfl, Nat.le_of_ble_eq_true rfl⟩ (by decide) w (rc_wM_0 w) (dq da_X12_translated 73 rfl) (fun H locs rr w => ?_)
    refine lv_if_ne (tgt := 154) hx hb (dq da_X12_translated 74 rfl) (by decide) (fun c6 => ?_) (fun c6 => ?_)
    · have h := ie c6 h
      refine lv_aload_n hx hb (dq da_X12_translated 81 rfl) rfl (lv_at hl 1 rfl) ?_
      refine lv_lload hx hb (dq da_X12_translated 82 rfl) (lv_at hl 0 rfl) ?_
      refine lv_bipush (v := 8) hx hb (dq da_X12_translated 83 rfl) rfl ?_
      obtain ⟨y7, hy8, h⟩ := ob h
      refine cV1 E (c_X12_ramAt l D cy ad _ _ _ hy8) w_1322 w_1324 w_p48 w_10 w_1325 rfl hd_X12_ramAt rfl hl.1 rfl (Nat.le_of_ble_eq_true rfl) ⟨Nat.le_of_ble_eq_true rfl, Nat.le_of_ble_eq_true rfl⟩ (by decide) w (rc_wM_0 w) (dq da_X12_translated 84 rfl) (fun H locs rr w => ?_)
      refine lv_lstore (lv' := [(10, .long y7), (8, .long (x5 + ((8 : Int64) * (f_X12_cut x1 ((20 : Int32) + ((9 : Int32) * x7)) ((12 : Int32) + ((9 : Int32) * x7)))))), (0, .ref (ad 0)), (1, .long x1), (3, .int x3), (4, .int x4), (5, .long x5), (7, .int x7)]) hx hb (dq da_X12_translated 85 rfl) hl (by decide) rfl (fun ls hl => ?_)
      refine lv_lload hx hb (dq da_X12_translated 86 rfl) (lv_at hl 0 rfl) ?_
      refine lv_iconst (v := 1) hx hb (dq da_X12_translated 87 rfl) rfl ?_
      refine lv_lshr (v := (j_lshr y7 (1 : Int32))) hx hb (dq da_X12_translated 88 rfl) rfl ?_
      refine lv_lconst (v := 1) hx hb (dq da_X12_translated 89 rfl) rfl ?_
      refine lv_land hx hb (dq da_X12_translated 90 rfl) ?_
      refine lv_lconst (v := 1) hx hb (dq da_X12_translated 91 rfl) rfl ?_
      refine lc_ne (tgt := 179) hx hb (dq da_X12_translated 92 rfl) (dq da_X12_translated 93 rfl) (by decide) (fun c9 => ?_) (fun c9 => ?_)
      · have h := ie c9 h
        refine lv_iconst (v := 0) hx hb (dq da_X12_translated 96 rfl) rfl ?_
        exact b_X12_translated_b180 E hr hlk hk99 h (lv_sub hl [2, 3, 4, 5, 7, 0] rfl) w
      · have h := it c9 h
        refine lv_iconst (v := 1) hx hb (dq da_X12_translated 94 rfl) rfl ?_
        refine lv_goto (tgt := 180) hx hb (dq da_X12_translated 95 rfl) (by decide) ?_
        exact b_X12_translated_b180 E hr hlk hk99 h (lv_sub hl [2, 3, 4, 5, 7, 0] rfl) w
    · have h := it c6 h
      refine lv_ldc2 hx hb hown (hts _ w_1086) (dq da_X12_translated 75 rfl) ?_
      refine lv_iload_n hx hb (dq da_X12_translated 76 rfl) rfl (lv_at hl 3 rfl) ?_
      refine callP E (c_X12_accessFault l _ ) w_1446 w_1447 w_10 w_1448 hd_X12_accessFault rfl hl.1 rfl (Nat.le_of_ble_eq_true rfl) ⟨Nat.le_of_ble_eq_true rfl, Nat.le_of_ble_eq_true rfl⟩ (by decide) (dq da_X12_translated 77 rfl) ?_
      refine lv_i2l (v := (f_X12_accessFault x3).toInt64) hx hb (dq da_X12_translated 78 rfl) rfl ?_
      refine lv_lsub hx hb (dq da_X12_translated 79 rfl) ?_
      exact xret_l E hr hlk w (by decide) (os h) rfl (dq da_X12_translated 80 rfl)
def f_X12_translated_b99 : Nat → Int64 → Int32 → Int32 → Int64 → Int32 → St → Option (Int64)
  | 0 => fun _ _ _ _ _ _ => none
  | n + 1 => f_X12_translated_b99_s (f_X12_translated_b99 n)
theorem b_X12_translated_b99 {p : Program} {l : Launch} {e : Env} {s : State} {m : MethodId} {args : Array Value} {below : List Frame} {meth : Method} {c : Code} {D : va_G} {cy : ClassId × ClassId × ClassId} {ad : Nat → Nat} {A : Nat → Prop} (E : CallFix p m c cX12_translated 19 s args gw RX12) (hr : meth.sig.returnType = some .long) (hlk : meth.locks = false) : ∀ n : Nat, ∀ (x1 : Int64) (x3 : Int32) (x4 : Int32) (x5 : Int64) (x7 : Int32) (u : St) (r : Int64), f_X12_translated_b99 n x1 x3 x4 x5 x7 u = some r → ∀ (ls : Array Slot) (H : Heap) (locs : List Loc) (rr : Nat → Nat), lv_has ls 19 [(0, .ref (ad 0)), (1, .long x1), (3, .int x3), (4, .int x4), (5, .long x5), (7, .int x7)] → WX (wM cy ad) D cy rr u A s H locs → Wx (wM cy ad) D p l e 1 26 0 s m args below meth c A u (some (.long r)) H locs 0 99 ls [] := by
  intro n
  induction n with
  | zero => intro x1 x3 x4 x5 x7 u r h; cases h
  | succ n ih => intro x1 x3 x4 x5 x7 u r h ls H locs rr hl w; exact b_X12_translated_b99_s E hr hlk ih h hl w
def f_X12_translated_b32 (x1 : Int64) (x3 : Int32) (s0 : Int32) (u : St) : Option (Int64) := if (f_X12_cut (gL u 23) (63 : Int32) (60 : Int32)) = (8 : Int64) then (if s0 = (3 : Int32) then (f_X12_translated_b58 x1 u) else (if (f_X12_signed x1 (39 : Int32)) = x1 then (f_X12_translated_b99 FU x1 x3 s0 (j_lshl (f_X12_cut (gL u 23) (43 : Int32) (0 : Int32)) (12 : Int32)) (2 : Int32) u) else (some ((-1 : Int64) - (f_X12_pageFault x3).toInt64)))) else (f_X12_translated_b58 x1 u)
set_option maxRecDepth 100000 in
set_option maxHeartbeats 4000000 in
theorem b_X12_translated_b32 {p : Program} {l : Launch} {e : Env} {s : State} {m : MethodId} {args : Array Value} {below : List Frame} {meth : Method} {c : Code} {D : va_G} {cy : ClassId × ClassId × ClassId} {ad : Nat → Nat} {A : Nat → Prop} (E : CallFix p m c cX12_translated 19 s args gw RX12) (hr : meth.sig.returnType = some .long) (hlk : meth.locks = false) {x1 : Int64} {x3 : Int32} {s0 : Int32} {u : St} {r : Int64} (h : f_X12_translated_b32 x1 x3 s0 u = some r) {ls : Array Slot} {H : Heap} {locs : List Loc} {rr : Nat → Nat} (hl : lv_has ls 19 [(0, .ref (ad 0)), (1, .long x1), (3, .int x3)]) (w : WX (wM cy ad) D cy rr u A s H locs) : Wx (wM cy ad) D p l e 1 26 0 s m args below meth c A u (some (.long r)) H locs 0 32 ls [.int s0] := by
  have hx := E.1
  have hb := E.2.1
  have hown := E.2.2.2.1
  have hts := E.2.2.2.2
  refine lv_istore (lv' := [(4, .int s0), (0, .ref (ad 0)), (1, .long x1), (3, .int x3)]) hx hb (dq da_X12_translated 15 rfl) hl (by decide) rfl (fun ls hl => ?_)
  refine lv_aload_n hx hb (dq da_X12_translated 16 rfl) rfl (lv_at hl 1 rfl) ?_
  refine gt_wM_0_satp E w w_1132 (dq da_X12_translated 17 rfl) ?_
  refine lv_bipush (v := 63) hx hb (dq da_X12_translated 18 rfl) rfl ?_
  refine lv_bipush (v := 60) hx hb (dq da_X12_translated 19 rfl) rfl ?_
  refine callP E (c_X12_cut l _ _ _ ) w_1384 w_1385 w_10 w_1386 hd_X12_cut rfl hl.1 rfl (Nat.le_of_ble_eq_true rfl) ⟨Nat.le_of_ble_eq_true rfl, Nat.le_of_ble_eq_true rfl⟩ (by decide) (dq da_X12_translated 20 rfl) ?_
  refine lv_ldc2 hx hb hown (hts _ w_1283) (dq da_X12_translated 21 rfl) ?_
  refine lc_ne (tgt := 58) hx hb (dq da_X12_translated 22 rfl) (dq da_X12_translated 23 rfl) (by decide) (fun c2 => ?_) (fun c2 => ?_)
  · have h := ie c2 h
    exact b_X12_translated_b58 E hr hlk h (lv_sub hl [2] rfl) w
  · have h := it c2 h
    refine lv_iload hx hb (dq da_X12_translated 24 rfl) (lv_at hl 0 rfl) ?_
    refine lv_iconst (v := 3) hx hb (dq da_X12_translated 25 rfl) rfl ?_
    refine lv_icmp_ne (tgt := 60) hx hb (dq da_X12_translated 26 rfl) (by decide) (fun c3 => ?_) (fun c3 => ?_)
    · have h := ie c3 h
      refine lv_lload_n hx hb (dq da_X12_translated 29 rfl) rfl (lv_at hl 2 rfl) ?_
      refine lv_bipush (v := 39) hx hb (dq da_X12_translated 30 rfl) rfl ?_
      refine callP E (c_X12_signed l _ _ ) w_1440 w_1441 w_10 w_1442 hd_X12_signed rfl hl.1 rfl (Nat.le_of_ble_eq_true rfl) ⟨Nat.le_of_ble_eq_true rfl, Nat.le_of_ble_eq_true rfl⟩ (by decide) (dq da_X12_translated 31 rfl) ?_
      refine lv_lload_n hx hb (dq da_X12_translated 32 rfl) rfl (lv_at hl 2 rfl) ?_
      refine lc_eq (tgt := 81) hx hb (dq da_X12_translated 33 rfl) (dq da_X12_translated 34 rfl) (by decide) (fun c4 => ?_) (fun c4 => ?_)
      · have h := it c4 h
        refine lv_aload_n hx hb (dq da_X12_translated 41 rfl) rfl (lv_at hl 1 rfl) ?_
        refine gt_wM_0_satp E w w_1132 (dq da_X12_translated 42 rfl) ?_
        refine lv_bipush (v := 43) hx hb (dq da_X12_translated 43 rfl) rfl ?_
        refine lv_iconst (v := 0) hx hb (dq da_X12_translated 44 rfl) rfl ?_
        refine callP E (c_X12_cut l _ _ _ ) w_1384 w_1385 w_10 w_1386 hd_X12_cut rfl hl.1 rfl (Nat.le_of_ble_eq_true rfl) ⟨Nat.le_of_ble_eq_true rfl, Nat.le_of_ble_eq_true rfl⟩ (by decide) (dq da_X12_translated 45 rfl) ?_
        refine lv_bipush (v := 12) hx hb (dq da_X12_translated 46 rfl) rfl ?_
        refine lv_lshl (v := (j_lshl (f_X12_cut (gL u 23) (43 : Int32) (0 : Int32)) (12 : Int32))) hx hb (dq da_X12_translated 47 rfl) rfl ?_
        refine lv_lstore (lv' := [(5, .long (j_lshl (f_X12_cut (gL u 23) (43 : Int32) (0 : Int32)) (12 : Int32))), (4, .int s0), (0, .ref (ad 0)), (1, .long x1), (3, .int x3)]) hx hb (dq da_X12_translated 48 rfl) hl (by decide) rfl (fun ls hl => ?_)
        refine lv_iconst (v := 2) hx hb (dq da_X12_translated 49 rfl) rfl ?_
        refine lv_istore (lv' := [(7, .int (2 : Int32)), (5, .long (j_lshl (f_X12_cut (gL u 23) (43 : Int32) (0 : Int32)) (12 : Int32))), (4, .int s0), (0, .ref (ad 0)), (1, .long x1), (3, .int x3)]) hx hb (dq da_X12_translated 50 rfl) hl (by decide) rfl (fun ls hl => ?_)
        exact b_X12_translated_b99 E hr hlk FU _ _ _ _ _ _ _ h ls _ _ _ (lv_sub hl [3, 4, 5, 2, 1, 0] rfl) w
      · have h := ie c4 h
        refine lv_ldc2 hx hb hown (hts _ w_1086) (dq da_X12_translated 35 rfl) ?_
        refine lv_iload_n hx hb (dq da_X12_translated 36 rfl) rfl (lv_at hl 3 rfl) ?_
        refine callP E (c_X12_pageFault l _ ) w_1443 w_1444 w_10 w_1445 hd_X12_pageFault rfl hl.1 rfl (Nat.le_of_ble_eq_true rfl) ⟨Nat.le_of_ble_eq_true rfl, Nat.le_of_ble_eq_true rfl⟩ (by decide) (dq da_X12_translated 37 rfl) ?_
        refine lv_i2l (v := (f_X12_pageFault x3).toInt64) hx hb (dq da_X12_translated 38 rfl) rfl ?_
        refine lv_lsub hx hb (dq da_X12_translated 39 rfl) ?_
        exact xret_l E hr hlk w (by decide) (os h) rfl (dq da_X12_translated 40 rfl)
    · have h := it c3 h
      exact b_X12_translated_b58 E hr hlk h (lv_sub hl [2] rfl) w
def f_X12_translated_b28 (x1 : Int64) (x3 : Int32) (u : St) : Option (Int64) := f_X12_translated_b32 x1 x3 (gI u 2) u
set_option maxRecDepth 100000 in
set_option maxHeartbeats 4000000 in
theorem b_X12_translated_b28 {p : Program} {l : Launch} {e : Env} {s : State} {m : MethodId} {args : Array Value} {below : List Frame} {meth : Method} {c : Code} {D : va_G} {cy : ClassId × ClassId × ClassId} {ad : Nat → Nat} {A : Nat → Prop} (E : CallFix p m c cX12_translated 19 s args gw RX12) (hr : meth.sig.returnType = some .long) (hlk : meth.locks = false) {x1 : Int64} {x3 : Int32} {u : St} {r : Int64} (h : f_X12_translated_b28 x1 x3 u = some r) {ls : Array Slot} {H : Heap} {locs : List Loc} {rr : Nat → Nat} (hl : lv_has ls 19 [(0, .ref (ad 0)), (1, .long x1), (3, .int x3)]) (w : WX (wM cy ad) D cy rr u A s H locs) : Wx (wM cy ad) D p l e 1 26 0 s m args below meth c A u (some (.long r)) H locs 0 28 ls [] := by
  have hx := E.1
  have hb := E.2.1
  have hown := E.2.2.2.1
  have hts := E.2.2.2.2
  refine lv_aload_n hx hb (dq da_X12_translated 13 rfl) rfl (lv_at hl 0 rfl) ?_
  refine gt_wM_0_privilege E w w_1093 (dq da_X12_translated 14 rfl) ?_
  exact b_X12_translated_b32 E hr hlk h (lv_sub hl [0, 1, 2] rfl) w
def f_X12_translated (x1 : Int64) (x3 : Int32) (u : St) : Option (Int64) := if x3 ≤ (0 : Int32) then (f_X12_translated_b28 x1 x3 u) else (if (f_X12_is (17 : Int32) u) = (0 : Int32) then (f_X12_translated_b28 x1 x3 u) else (f_X12_translated_b32 x1 x3 ((f_X12_cut (gL u 4) (12 : Int32) (11 : Int32)).toInt32) u))
set_option maxRecDepth 100000 in
set_option maxHeartbeats 4000000 in
theorem c_X12_translated (l : Launch) (D : va_G) (cy : ClassId × ClassId × ClassId) (ad : Nat → Nat) (x1 : Int64) (x3 : Int32) (u : St) {r : Int64} (h : f_X12_translated x1 x3 u = some r) : MX (wM cy ad) D cy l yX12_translated cX12_translated 19 (some .long) 1 26 0 [.ref (ad 0), .long x1, .int x3] u u (some (.long (r))) := by
  refine entX (by decide +kernel) (Nat.le_of_ble_eq_true rfl) ?_
  intro p e s m args below meth c ls rr A E hr hlk hl w
  have hl : lv_has ls 19 [(0, .ref (ad 0)), (1, .long x1), (3, .int x3)] := hl
  have hx := E.1
  have hb := E.2.1
  have hown := E.2.2.2.1
  have hts := E.2.2.2.2
  refine lv_iload_n hx hb (dq da_X12_translated 0 rfl) rfl (lv_at hl 2 rfl) ?_
  refine lv_if_le (tgt := 28) hx hb (dq da_X12_translated 1 rfl) (by decide) (fun c1 => ?_) (fun c1 => ?_)
  · have h := it c1 h
    exact b_X12_translated_b28 E hr hlk h (lv_sub hl [0, 1, 2] rfl) w
  · have h := ie c1 h
    refine lv_aload_n hx hb (dq da_X12_translated 2 rfl) rfl (lv_at hl 0 rfl) ?_
    refine lv_bipush (v := 17) hx hb (dq da_X12_translated 3 rfl) rfl ?_
    refine cV1 E (c_X12_is l D cy ad _ _ ) w_1414 w_1416 w_p56 w_10 w_1417 rfl hd_X12_is rfl hl.1 rfl (Nat.le_of_ble_eq_true rfl) ⟨Nat.le_of_ble_eq_true rfl, Nat.le_of_ble_eq_true rfl⟩ (by decide) w (rc_wM_0 w) (dq da_X12_translated 4 rfl) (fun H locs rr w => ?_)
    refine lv_if_eq (tgt := 28) hx hb (dq da_X12_translated 5 rfl) (by decide) (fun c42 => ?_) (fun c42 => ?_)
    · have h := it c42 h
      exact b_X12_translated_b28 E hr hlk h (lv_sub hl [0, 1, 2] rfl) w
    · have h := ie c42 h
      refine lv_aload_n hx hb (dq da_X12_translated 6 rfl) rfl (lv_at hl 0 rfl) ?_
      refine gt_wM_0_status E w w_1113 (dq da_X12_translated 7 rfl) ?_
      refine lv_bipush (v := 12) hx hb (dq da_X12_translated 8 rfl) rfl ?_
      refine lv_bipush (v := 11) hx hb (dq da_X12_translated 9 rfl) rfl ?_
      refine callP E (c_X12_cut l _ _ _ ) w_1384 w_1385 w_10 w_1386 hd_X12_cut rfl hl.1 rfl (Nat.le_of_ble_eq_true rfl) ⟨Nat.le_of_ble_eq_true rfl, Nat.le_of_ble_eq_true rfl⟩ (by decide) (dq da_X12_translated 10 rfl) ?_
      refine lv_l2i (v := (f_X12_cut (gL u 4) (12 : Int32) (11 : Int32)).toInt32) hx hb (dq da_X12_translated 11 rfl) rfl ?_
      refine lv_goto (tgt := 32) hx hb (dq da_X12_translated 12 rfl) (by decide) ?_
      exact b_X12_translated_b32 E hr hlk h (lv_sub hl [0, 1, 2] rfl) w
def dl_X12_translates : List (Nat × Instr × Nat) := [(0, .iload_n 1, 1), (1, .ifCond .le 27, 3), (4, .aload_n 0, 1), (5, .bipush 17, 2), (7, .invokevirtual 192, 3), (10, .ifCond .eq 18, 3), (13, .aload_n 0, 1), (14, .getfield 67, 3), (17, .bipush 12, 2), (19, .bipush 11, 2), (21, .invokestatic 196, 3), (24, .l2i, 1), (25, .goto 7, 3), (28, .aload_n 0, 1), (29, .getfield 24, 3), (32, .istore_n 2, 1), (33, .aload_n 0, 1), (34, .getfield 200, 3), (37, .bipush 63, 2), (39, .bipush 60, 2), (41, .invokestatic 196, 3), (44, .ldc2_w 203, 3), (47, .lcmp, 1), (48, .ifCond .ne 12, 3), (51, .iload_n 2, 1), (52, .iconst 3, 1), (53, .if_icmp .ge 7, 3), (56, .iconst 1, 1), (57, .goto 4, 3), (60, .iconst 0, 1), (61, .ireturn, 1)]
theorem da_X12_translates : dkL cX12_translates dl_X12_translates = true := by decide +kernel
def f_X12_translates_b60 (u : St) : Int32 := (0 : Int32)
set_option maxRecDepth 100000 in
set_option maxHeartbeats 4000000 in
theorem b_X12_translates_b60 {p : Program} {l : Launch} {e : Env} {s : State} {m : MethodId} {args : Array Value} {below : List Frame} {meth : Method} {c : Code} {D : va_G} {cy : ClassId × ClassId × ClassId} {ad : Nat → Nat} {A : Nat → Prop} (E : CallFix p m c cX12_translates 3 s args gw RX12) (hr : meth.sig.returnType = some .boolean) (hlk : meth.locks = false) {u : St} {r : Int32} (h : f_X12_translates_b60 u = r) {ls : Array Slot} {H : Heap} {locs : List Loc} {rr : Nat → Nat} (hl : lv_has ls 3 []) (w : WX (wM cy ad) D cy rr u A s H locs) : Wx (wM cy ad) D p l e 1 23 0 s m args below meth c A u (some (.int r)) H locs 0 60 ls [] := by
  have hx := E.1
  have hb := E.2.1
  have hown := E.2.2.2.1
  have hts := E.2.2.2.2
  refine lv_iconst (v := 0) hx hb (dq da_X12_translates 29 rfl) rfl ?_
  exact xret_z E hr hlk rfl w (by decide) h rfl (dq da_X12_translates 30 rfl)
def f_X12_translates_b32 (s0 : Int32) (u : St) : Int32 := if (f_X12_cut (gL u 23) (63 : Int32) (60 : Int32)) = (8 : Int64) then (if (3 : Int32) ≤ s0 then (f_X12_translates_b60 u) else (1 : Int32)) else (f_X12_translates_b60 u)
set_option maxRecDepth 100000 in
set_option maxHeartbeats 4000000 in
theorem b_X12_translates_b32 {p : Program} {l : Launch} {e : Env} {s : State} {m : MethodId} {args : Array Value} {below : List Frame} {meth : Method} {c : Code} {D : va_G} {cy : ClassId × ClassId × ClassId} {ad : Nat → Nat} {A : Nat → Prop} (E : CallFix p m c cX12_translates 3 s args gw RX12) (hr : meth.sig.returnType = some .boolean) (hlk : meth.locks = false) {s0 : Int32} {u : St} {r : Int32} (h : f_X12_translates_b32 s0 u = r) {ls : Array Slot} {H : Heap} {locs : List Loc} {rr : Nat → Nat} (hl : lv_has ls 3 [(0, .ref (ad 0))]) (w : WX (wM cy ad) D cy rr u A s H locs) : Wx (wM cy ad) D p l e 1 23 0 s m args below meth c A u (some (.int r)) H locs 0 32 ls [.int s0] := by
  have hx := E.1
  have hb := E.2.1
  have hown := E.2.2.2.1
  have hts := E.2.2.2.2
  refine lv_istore_n (lv' := [(2, .int s0), (0, .ref (ad 0))]) hx hb (dq da_X12_translates 15 rfl) rfl hl (by decide) rfl (fun ls hl => ?_)
  refine lv_aload_n hx hb (dq da_X12_translates 16 rfl) rfl (lv_at hl 1 rfl) ?_
  refine gt_wM_0_satp E w w_1132 (dq da_X12_translates 17 rfl) ?_
  refine lv_bipush (v := 63) hx hb (dq da_X12_translates 18 rfl) rfl ?_
  refine lv_bipush (v := 60) hx hb (dq da_X12_translates 19 rfl) rfl ?_
  refine callP E (c_X12_cut l _ _ _ ) w_1384 w_1385 w_10 w_1386 hd_X12_cut rfl hl.1 rfl (Nat.le_of_ble_eq_true rfl) ⟨Nat.le_of_ble_eq_true rfl, Nat.le_of_ble_eq_true rfl⟩ (by decide) (dq da_X12_translates 20 rfl) ?_
  refine lv_ldc2 hx hb hown (hts _ w_1283) (dq da_X12_translates 21 rfl) ?_
  refine lc_ne (tgt := 60) hx hb (dq da_X12_translates 22 rfl) (dq da_X12_translates 23 rfl) (by decide) (fun c2 => ?_) (fun c2 => ?_)
  · have h := ie c2 h
    exact b_X12_translates_b60 E hr hlk h (lv_sub hl [] rfl) w
  · have h := it c2 h
    refine lv_iload_n hx hb (dq da_X12_translates 24 rfl) rfl (lv_at hl 0 rfl) ?_
    refine lv_iconst (v := 3) hx hb (dq da_X12_translates 25 rfl) rfl ?_
    refine lv_icmp_ge (tgt := 60) hx hb (dq da_X12_translates 26 rfl) (by decide) (fun c3 => ?_) (fun c3 => ?_)
    · have h := it c3 h
      exact b_X12_translates_b60 E hr hlk h (lv_sub hl [] rfl) w
    · have h := ie c3 h
      refine lv_iconst (v := 1) hx hb (dq da_X12_translates 27 rfl) rfl ?_
      refine lv_goto (tgt := 61) hx hb (dq da_X12_translates 28 rfl) (by decide) ?_
      exact xret_z E hr hlk rfl w (by decide) h rfl (dq da_X12_translates 30 rfl)
def f_X12_translates_b28 (u : St) : Int32 := f_X12_translates_b32 (gI u 2) u
set_option maxRecDepth 100000 in
set_option maxHeartbeats 4000000 in
theorem b_X12_translates_b28 {p : Program} {l : Launch} {e : Env} {s : State} {m : MethodId} {args : Array Value} {below : List Frame} {meth : Method} {c : Code} {D : va_G} {cy : ClassId × ClassId × ClassId} {ad : Nat → Nat} {A : Nat → Prop} (E : CallFix p m c cX12_translates 3 s args gw RX12) (hr : meth.sig.returnType = some .boolean) (hlk : meth.locks = false) {u : St} {r : Int32} (h : f_X12_translates_b28 u = r) {ls : Array Slot} {H : Heap} {locs : List Loc} {rr : Nat → Nat} (hl : lv_has ls 3 [(0, .ref (ad 0))]) (w : WX (wM cy ad) D cy rr u A s H locs) : Wx (wM cy ad) D p l e 1 23 0 s m args below meth c A u (some (.int r)) H locs 0 28 ls [] := by
  have hx := E.1
  have hb := E.2.1
  have hown := E.2.2.2.1
  have hts := E.2.2.2.2
  refine lv_aload_n hx hb (dq da_X12_translates 13 rfl) rfl (lv_at hl 0 rfl) ?_
  refine gt_wM_0_privilege E w w_1093 (dq da_X12_translates 14 rfl) ?_
  exact b_X12_translates_b32 E hr hlk h (lv_sub hl [0] rfl) w
def f_X12_translates (x1 : Int32) (u : St) : Int32 := if x1 ≤ (0 : Int32) then (f_X12_translates_b28 u) else (if (f_X12_is (17 : Int32) u) = (0 : Int32) then (f_X12_translates_b28 u) else (f_X12_translates_b32 ((f_X12_cut (gL u 4) (12 : Int32) (11 : Int32)).toInt32) u))
set_option maxRecDepth 100000 in
set_option maxHeartbeats 4000000 in
theorem c_X12_translates (l : Launch) (D : va_G) (cy : ClassId × ClassId × ClassId) (ad : Nat → Nat) (x1 : Int32) (u : St) : MX (wM cy ad) D cy l yX12_translates cX12_translates 3 (some .boolean) 1 23 0 [.ref (ad 0), .int x1] u u (some (.int (f_X12_translates x1 u))) := by
  refine entX (by decide +kernel) (Nat.le_of_ble_eq_true rfl) ?_
  intro p e s m args below meth c ls rr A E hr hlk hl w
  have hl : lv_has ls 3 [(0, .ref (ad 0)), (1, .int x1)] := hl
  generalize h : f_X12_translates x1 u = r
  have hx := E.1
  have hb := E.2.1
  have hown := E.2.2.2.1
  have hts := E.2.2.2.2
  refine lv_iload_n hx hb (dq da_X12_translates 0 rfl) rfl (lv_at hl 1 rfl) ?_
  refine lv_if_le (tgt := 28) hx hb (dq da_X12_translates 1 rfl) (by decide) (fun c1 => ?_) (fun c1 => ?_)
  · have h := it c1 h
    exact b_X12_translates_b28 E hr hlk h (lv_sub hl [0] rfl) w
  · have h := ie c1 h
    refine lv_aload_n hx hb (dq da_X12_translates 2 rfl) rfl (lv_at hl 0 rfl) ?_
    refine lv_bipush (v := 17) hx hb (dq da_X12_translates 3 rfl) rfl ?_
    refine cV1 E (c_X12_is l D cy ad _ _ ) w_1414 w_1416 w_p56 w_10 w_1417 rfl hd_X12_is rfl hl.1 rfl (Nat.le_of_ble_eq_true rfl) ⟨Nat.le_of_ble_eq_true rfl, Nat.le_of_ble_eq_true rfl⟩ (by decide) w (rc_wM_0 w) (dq da_X12_translates 4 rfl) (fun H locs rr w => ?_)
    refine lv_if_eq (tgt := 28) hx hb (dq da_X12_translates 5 rfl) (by decide) (fun c4 => ?_) (fun c4 => ?_)
    · have h := it c4 h
      exact b_X12_translates_b28 E hr hlk h (lv_sub hl [0] rfl) w
    · have h := ie c4 h
      refine lv_aload_n hx hb (dq da_X12_translates 6 rfl) rfl (lv_at hl 0 rfl) ?_
      refine gt_wM_0_status E w w_1113 (dq da_X12_translates 7 rfl) ?_
      refine lv_bipush (v := 12) hx hb (dq da_X12_translates 8 rfl) rfl ?_
      refine lv_bipush (v := 11) hx hb (dq da_X12_translates 9 rfl) rfl ?_
      refine callP E (c_X12_cut l _ _ _ ) w_1384 w_1385 w_10 w_1386 hd_X12_cut rfl hl.1 rfl (Nat.le_of_ble_eq_true rfl) ⟨Nat.le_of_ble_eq_true rfl, Nat.le_of_ble_eq_true rfl⟩ (by decide) (dq da_X12_translates 10 rfl) ?_
      refine lv_l2i (v := (f_X12_cut (gL u 4) (12 : Int32) (11 : Int32)).toInt32) hx hb (dq da_X12_translates 11 rfl) rfl ?_
      refine lv_goto (tgt := 32) hx hb (dq da_X12_translates 12 rfl) (by decide) ?_
      exact b_X12_translates_b32 E hr hlk h (lv_sub hl [0] rfl) w
def dl_X12_reach : List (Nat × Instr × Nat) := [(0, .lload_n 1, 1), (1, .iload_n 3, 1), (2, .i2l, 1), (3, .lrem, 1), (4, .lconst 0, 1), (5, .lcmp, 1), (6, .ifCond .eq 22, 3), (9, .aload_n 0, 1), (10, .iload 4, 2), (12, .iconst 1, 1), (13, .if_icmp .ne 7, 3), (16, .iconst 4, 1), (17, .goto 5, 3), (20, .bipush 6, 2), (22, .lload_n 1, 1), (23, .invokevirtual 216, 3), (26, .lconst 0, 1), (27, .lreturn, 1), (28, .aload_n 0, 1), (29, .lload_n 1, 1), (30, .iload 4, 2), (32, .invokevirtual 219, 3), (35, .lstore 6, 2), (37, .aload_n 0, 1), (38, .iload 4, 2), (40, .invokevirtual 222, 3), (43, .ifCond .eq 24, 3), (46, .lload 6, 2), (48, .lconst 0, 1), (49, .lcmp, 1), (50, .ifCond .ge 17, 3), (53, .aload_n 0, 1), (54, .ldc2_w 28, 3), (57, .lload 6, 2), (59, .lsub, 1), (60, .l2i, 1), (61, .lload_n 1, 1), (62, .invokevirtual 216, 3), (65, .lconst 0, 1), (66, .lreturn, 1), (67, .iload 5, 2), (69, .ifCond .eq 16, 3), (72, .aload_n 0, 1), (73, .lload 6, 2), (75, .iload_n 3, 1), (76, .invokevirtual 103, 3), (79, .ifCond .ne 26, 3), (82, .goto 13, 3), (85, .aload_n 0, 1), (86, .lload 6, 2), (88, .iload_n 3, 1), (89, .invokevirtual 225, 3), (92, .ifCond .ne 13, 3), (95, .aload_n 0, 1), (96, .iload 4, 2), (98, .invokestatic 211, 3), (101, .lload_n 1, 1), (102, .invokevirtual 216, 3), (105, .lload 6, 2), (107, .lreturn, 1)]
theorem da_X12_reach : dkL cX12_reach dl_X12_reach = true := by decide +kernel
def f_X12_reach_b105 (x6 : Int64) (u : St) : Option (Int64 × St) := some (x6, u)
set_option maxRecDepth 100000 in
set_option maxHeartbeats 4000000 in
theorem b_X12_reach_b105 {p : Program} {l : Launch} {e : Env} {s : State} {m : MethodId} {args : Array Value} {below : List Frame} {meth : Method} {c : Code} {D : va_G} {cy : ClassId × ClassId × ClassId} {ad : Nat → Nat} {A : Nat → Prop} (E : CallFix p m c cX12_reach 8 s args gw RX12) (hr : meth.sig.returnType = some .long) (hlk : meth.locks = false) {x6 : Int64} {u : St} {r : Int64} {u' : St} (h : f_X12_reach_b105 x6 u = some (r, u')) {ls : Array Slot} {H : Heap} {locs : List Loc} {rr : Nat → Nat} (hl : lv_has ls 8 [(6, .long x6)]) (w : WX (wM cy ad) D cy rr u A s H locs) : Wx (wM cy ad) D p l e 3 71 0 s m args below meth c A u' (some (.long r)) H locs 0 105 ls [] := by
  have hx := E.1
  have hb := E.2.1
  have hown := E.2.2.2.1
  have hts := E.2.2.2.2
  refine lv_lload hx hb (dq da_X12_reach 58 rfl) (lv_at hl 0 rfl) ?_
  exact xret_l E hr hlk w (by decide) (congrArg Prod.fst (os h)) (congrArg Prod.snd (os h)) (dq da_X12_reach 59 rfl)
def f_X12_reach_b95 (x1 : Int64) (x4 : Int32) (x6 : Int64) (u : St) : Option (Int64 × St) := f_X12_reach_b105 x6 (f_X12_fail (f_X12_accessFault x4) x1 u)
set_option maxRecDepth 100000 in
set_option maxHeartbeats 4000000 in
theorem b_X12_reach_b95 {p : Program} {l : Launch} {e : Env} {s : State} {m : MethodId} {args : Array Value} {below : List Frame} {meth : Method} {c : Code} {D : va_G} {cy : ClassId × ClassId × ClassId} {ad : Nat → Nat} {A : Nat → Prop} (E : CallFix p m c cX12_reach 8 s args gw RX12) (hr : meth.sig.returnType = some .long) (hlk : meth.locks = false) {x1 : Int64} {x4 : Int32} {x6 : Int64} {u : St} {r : Int64} {u' : St} (h : f_X12_reach_b95 x1 x4 x6 u = some (r, u')) {ls : Array Slot} {H : Heap} {locs : List Loc} {rr : Nat → Nat} (hl : lv_has ls 8 [(0, .ref (ad 0)), (1, .long x1), (4, .int x4), (6, .long x6)]) (w : WX (wM cy ad) D cy rr u A s H locs) : Wx (wM cy ad) D p l e 3 71 0 s m args below meth c A u' (some (.long r)) H locs 0 95 ls [] := by
  have hx := E.1
  have hb := E.2.1
  have hown := E.2.2.2.1
  have hts := E.2.2.2.2
  refine lv_aload_n hx hb (dq da_X12_reach 53 rfl) rfl (lv_at hl 0 rfl) ?_
  refine lv_iload hx hb (dq da_X12_reach 54 rfl) (lv_at hl 2 rfl) ?_
  refine callP E (c_X12_accessFault l _ ) w_1446 w_1447 w_10 w_1448 hd_X12_accessFault rfl hl.1 rfl (Nat.le_of_ble_eq_true rfl) ⟨Nat.le_of_ble_eq_true rfl, Nat.le_of_ble_eq_true rfl⟩ (by decide) (dq da_X12_reach 55 rfl) ?_
  refine lv_lload_n hx hb (dq da_X12_reach 56 rfl) rfl (lv_at hl 1 rfl) ?_
  refine cV0 E (c_X12_fail l D cy ad _ _ _ ) w_1454 w_1456 w_p63 w_10 w_1457 rfl hd_X12_fail rfl hl.1 rfl (Nat.le_of_ble_eq_true rfl) ⟨Nat.le_of_ble_eq_true rfl, Nat.le_of_ble_eq_true rfl⟩ (by decide) w (rc_wM_0 w) (dq da_X12_reach 57 rfl) (fun H locs rr w => ?_)
  exact b_X12_reach_b105 E hr hlk h (lv_sub hl [3] rfl) w
def f_X12_reach_b67 (x1 : Int64) (x3 : Int32) (x4 : Int32) (x5 : Int32) (x6 : Int64) (u : St) : Option (Int64 × St) := if x5 = (0 : Int32) then (if (f_X12_isThere x6 x3 u) = (0 : Int32) then (f_X12_reach_b95 x1 x4 x6 u) else (f_X12_reach_b105 x6 u)) else (if (f_X12_isRam x6 x3 u) = (0 : Int32) then (f_X12_reach_b95 x1 x4 x6 u) else (f_X12_reach_b105 x6 u))
set_option maxRecDepth 100000 in
set_option maxHeartbeats 4000000 in
theorem b_X12_reach_b67 {p : Program} {l : Launch} {e : Env} {s : State} {m : MethodId} {args : Array Value} {below : List Frame} {meth : Method} {c : Code} {D : va_G} {cy : ClassId × ClassId × ClassId} {ad : Nat → Nat} {A : Nat → Prop} (E : CallFix p m c cX12_reach 8 s args gw RX12) (hr : meth.sig.returnType = some .long) (hlk : meth.locks = false) {x1 : Int64} {x3 : Int32} {x4 : Int32} {x5 : Int32} {x6 : Int64} {u : St} {r : Int64} {u' : St} (h : f_X12_reach_b67 x1 x3 x4 x5 x6 u = some (r, u')) {ls : Array Slot} {H : Heap} {locs : List Loc} {rr : Nat → Nat} (hl : lv_has ls 8 [(0, .ref (ad 0)), (1, .long x1), (3, .int x3), (4, .int x4), (5, .int x5), (6, .long x6)]) (w : WX (wM cy ad) D cy rr u A s H locs) : Wx (wM cy ad) D p l e 3 71 0 s m args below meth c A u' (some (.long r)) H locs 0 67 ls [] := by
  have hx := E.1
  have hb := E.2.1
  have hown := E.2.2.2.1
  have hts := E.2.2.2.2
  refine lv_iload hx hb (dq da_X12_reach 40 rfl) (lv_at hl 4 rfl) ?_
  refine lv_if_eq (tgt := 85) hx hb (dq da_X12_reach 41 rfl) (by decide) (fun c6 => ?_) (fun c6 => ?_)
  · have h := it c6 h
    refine lv_aload_n hx hb (dq da_X12_reach 48 rfl) rfl (lv_at hl 0 rfl) ?_
    refine lv_lload hx hb (dq da_X12_reach 49 rfl) (lv_at hl 5 rfl) ?_
    refine lv_iload_n hx hb (dq da_X12_reach 50 rfl) rfl (lv_at hl 2 rfl) ?_
    refine cV1 E (c_X12_isThere l D cy ad _ _ _ ) w_1539 w_1541 w_p70 w_10 w_1542 rfl hd_X12_isThere rfl hl.1 rfl (Nat.le_of_ble_eq_true rfl) ⟨Nat.le_of_ble_eq_true rfl, Nat.le_of_ble_eq_true rfl⟩ (by decide) w (rc_wM_0 w) (dq da_X12_reach 51 rfl) (fun H locs rr w => ?_)
    refine lv_if_ne (tgt := 105) hx hb (dq da_X12_reach 52 rfl) (by decide) (fun c7 => ?_) (fun c7 => ?_)
    · have h := ie c7 h
      exact b_X12_reach_b105 E hr hlk h (lv_sub hl [5] rfl) w
    · have h := it c7 h
      exact b_X12_reach_b95 E hr hlk h (lv_sub hl [0, 1, 3, 5] rfl) w
  · have h := ie c6 h
    refine lv_aload_n hx hb (dq da_X12_reach 42 rfl) rfl (lv_at hl 0 rfl) ?_
    refine lv_lload hx hb (dq da_X12_reach 43 rfl) (lv_at hl 5 rfl) ?_
    refine lv_iload_n hx hb (dq da_X12_reach 44 rfl) rfl (lv_at hl 2 rfl) ?_
    refine cV1 E (c_X12_isRam l D cy ad _ _ _ ) w_1286 w_1288 w_p44 w_10 w_1289 rfl hd_X12_isRam rfl hl.1 rfl (Nat.le_of_ble_eq_true rfl) ⟨Nat.le_of_ble_eq_true rfl, Nat.le_of_ble_eq_true rfl⟩ (by decide) w (rc_wM_0 w) (dq da_X12_reach 45 rfl) (fun H locs rr w => ?_)
    refine lv_if_ne (tgt := 105) hx hb (dq da_X12_reach 46 rfl) (by decide) (fun c8 => ?_) (fun c8 => ?_)
    · have h := ie c8 h
      exact b_X12_reach_b105 E hr hlk h (lv_sub hl [5] rfl) w
    · have h := it c8 h
      refine lv_goto (tgt := 95) hx hb (dq da_X12_reach 47 rfl) (by decide) ?_
      exact b_X12_reach_b95 E hr hlk h (lv_sub hl [0, 1, 3, 5] rfl) w
def f_X12_reach_b22 (x1 : Int64) (s0 : Int32) (u : St) : Option (Int64 × St) := some ((0 : Int64), (f_X12_fail s0 x1 u))
set_option maxRecDepth 100000 in
set_option maxHeartbeats 4000000 in
theorem b_X12_reach_b22 {p : Program} {l : Launch} {e : Env} {s : State} {m : MethodId} {args : Array Value} {below : List Frame} {meth : Method} {c : Code} {D : va_G} {cy : ClassId × ClassId × ClassId} {ad : Nat → Nat} {A : Nat → Prop} (E : CallFix p m c cX12_reach 8 s args gw RX12) (hr : meth.sig.returnType = some .long) (hlk : meth.locks = false) {x1 : Int64} {s0 : Int32} {u : St} {r : Int64} {u' : St} (h : f_X12_reach_b22 x1 s0 u = some (r, u')) {ls : Array Slot} {H : Heap} {locs : List Loc} {rr : Nat → Nat} (hl : lv_has ls 8 [(1, .long x1)]) (w : WX (wM cy ad) D cy rr u A s H locs) : Wx (wM cy ad) D p l e 3 71 0 s m args below meth c A u' (some (.long r)) H locs 0 22 ls [.int s0, .ref (ad 0)] := by
  have hx := E.1
  have hb := E.2.1
  have hown := E.2.2.2.1
  have hts := E.2.2.2.2
  refine lv_lload_n hx hb (dq da_X12_reach 14 rfl) rfl (lv_at hl 0 rfl) ?_
  refine cV0 E (c_X12_fail l D cy ad _ _ _ ) w_1454 w_1456 w_p63 w_10 w_1457 rfl hd_X12_fail rfl hl.1 rfl (Nat.le_of_ble_eq_true rfl) ⟨Nat.le_of_ble_eq_true rfl, Nat.le_of_ble_eq_true rfl⟩ (by decide) w (rc_wM_0 w) (dq da_X12_reach 15 rfl) (fun H locs rr w => ?_)
  refine lv_lconst (v := 0) hx hb (dq da_X12_reach 16 rfl) rfl ?_
  exact xret_l E hr hlk w (by decide) (congrArg Prod.fst (os h)) (congrArg Prod.snd (os h)) (dq da_X12_reach 17 rfl)
def f_X12_reach (x1 : Int64) (x3 : Int32) (x4 : Int32) (x5 : Int32) (u : St) : Option (Int64 × St) := if ¬ x3.toInt64 = (0 : Int64) then if (x1 - x1 / x3.toInt64 * x3.toInt64) = (0 : Int64) then ((f_X12_translated x1 x4 u).bind (fun y3 => if (f_X12_translates x4 u) = (0 : Int32) then (f_X12_reach_b67 x1 x3 x4 x5 y3 u) else (if (0 : Int64) ≤ y3 then (f_X12_reach_b67 x1 x3 x4 x5 y3 u) else (some ((0 : Int64), (f_X12_fail (((-1 : Int64) - y3).toInt32) x1 u)))))) else (if x4 = (1 : Int32) then (f_X12_reach_b22 x1 (4 : Int32) u) else (f_X12_reach_b22 x1 (6 : Int32) u)) else none
set_option maxRecDepth 100000 in
set_option maxHeartbeats 4000000 in
theorem c_X12_reach (l : Launch) (D : va_G) (cy : ClassId × ClassId × ClassId) (ad : Nat → Nat) (x1 : Int64) (x3 : Int32) (x4 : Int32) (x5 : Int32) (u : St) {r : Int64} {u' : St} (h : f_X12_reach x1 x3 x4 x5 u = some (r, u')) : MX (wM cy ad) D cy l yX12_reach cX12_reach 8 (some .long) 3 71 0 [.ref (ad 0), .long x1, .int x3, .int x4, .int x5] u u' (some (.long (r))) := by
  refine entX (by decide +kernel) (Nat.le_of_ble_eq_true rfl) ?_
  intro p e s m args below meth c ls rr A E hr hlk hl w
  have hl : lv_has ls 8 [(0, .ref (ad 0)), (1, .long x1), (3, .int x3), (4, .int x4), (5, .int x5)] := hl
  have hx := E.1
  have hb := E.2.1
  have hown := E.2.2.2.1
  have hts := E.2.2.2.2
  refine lv_lload_n hx hb (dq da_X12_reach 0 rfl) rfl (lv_at hl 1 rfl) ?_
  refine lv_iload_n hx hb (dq da_X12_reach 1 rfl) rfl (lv_at hl 2 rfl) ?_
  refine lv_i2l (v := x3.toInt64) hx hb (dq da_X12_reach 2 rfl) rfl ?_
  obtain ⟨hz1, h⟩ := oi h
  refine lv_lrem hx hb (dq da_X12_reach 3 rfl) hz1 ?_
  refine lv_lconst (v := 0) hx hb (dq da_X12_reach 4 rfl) rfl ?_
  refine lc_eq (tgt := 28) hx hb (dq da_X12_reach 5 rfl) (dq da_X12_reach 6 rfl) (by decide) (fun c2 => ?_) (fun c2 => ?_)
  · have h := it c2 h
    refine lv_aload_n hx hb (dq da_X12_reach 18 rfl) rfl (lv_at hl 0 rfl) ?_
    refine lv_lload_n hx hb (dq da_X12_reach 19 rfl) rfl (lv_at hl 1 rfl) ?_
    refine lv_iload hx hb (dq da_X12_reach 20 rfl) (lv_at hl 3 rfl) ?_
    obtain ⟨y3, hy4, h⟩ := ob h
    refine cV1 E (c_X12_translated l D cy ad _ _ _ hy4) w_1436 w_1438 w_p61 w_10 w_1439 rfl hd_X12_translated rfl hl.1 rfl (Nat.le_of_ble_eq_true rfl) ⟨Nat.le_of_ble_eq_true rfl, Nat.le_of_ble_eq_true rfl⟩ (by decide) w (rc_wM_0 w) (dq da_X12_reach 21 rfl) (fun H locs rr w => ?_)
    refine lv_lstore (lv' := [(6, .long y3), (0, .ref (ad 0)), (1, .long x1), (3, .int x3), (4, .int x4), (5, .int x5)]) hx hb (dq da_X12_reach 22 rfl) hl (by decide) rfl (fun ls hl => ?_)
    refine lv_aload_n hx hb (dq da_X12_reach 23 rfl) rfl (lv_at hl 1 rfl) ?_
    refine lv_iload hx hb (dq da_X12_reach 24 rfl) (lv_at hl 4 rfl) ?_
    refine cV1 E (c_X12_translates l D cy ad _ _ ) w_1450 w_1452 w_p62 w_10 w_1453 rfl hd_X12_translates rfl hl.1 rfl (Nat.le_of_ble_eq_true rfl) ⟨Nat.le_of_ble_eq_true rfl, Nat.le_of_ble_eq_true rfl⟩ (by decide) w (rc_wM_0 w) (dq da_X12_reach 25 rfl) (fun H locs rr w => ?_)
    refine lv_if_eq (tgt := 67) hx hb (dq da_X12_reach 26 rfl) (by decide) (fun c5 => ?_) (fun c5 => ?_)
    · have h := it c5 h
      exact b_X12_reach_b67 E hr hlk h (lv_sub hl [1, 2, 3, 4, 5, 0] rfl) w
    · have h := ie c5 h
      refine lv_lload hx hb (dq da_X12_reach 27 rfl) (lv_at hl 0 rfl) ?_
      refine lv_lconst (v := 0) hx hb (dq da_X12_reach 28 rfl) rfl ?_
      refine lc_ge (tgt := 67) hx hb (dq da_X12_reach 29 rfl) (dq da_X12_reach 30 rfl) (by decide) (fun c9 => ?_) (fun c9 => ?_)
      · have h := it c9 h
        exact b_X12_reach_b67 E hr hlk h (lv_sub hl [1, 2, 3, 4, 5, 0] rfl) w
      · have h := ie c9 h
        refine lv_aload_n hx hb (dq da_X12_reach 31 rfl) rfl (lv_at hl 1 rfl) ?_
        refine lv_ldc2 hx hb hown (hts _ w_1086) (dq da_X12_reach 32 rfl) ?_
        refine lv_lload hx hb (dq da_X12_reach 33 rfl) (lv_at hl 0 rfl) ?_
        refine lv_lsub hx hb (dq da_X12_reach 34 rfl) ?_
        refine lv_l2i (v := ((-1 : Int64) - y3).toInt32) hx hb (dq da_X12_reach 35 rfl) rfl ?_
        refine lv_lload_n hx hb (dq da_X12_reach 36 rfl) rfl (lv_at hl 2 rfl) ?_
        refine cV0 E (c_X12_fail l D cy ad _ _ _ ) w_1454 w_1456 w_p63 w_10 w_1457 rfl hd_X12_fail rfl hl.1 rfl (Nat.le_of_ble_eq_true rfl) ⟨Nat.le_of_ble_eq_true rfl, Nat.le_of_ble_eq_true rfl⟩ (by decide) w (rc_wM_0 w) (dq da_X12_reach 37 rfl) (fun H locs rr w => ?_)
        refine lv_lconst (v := 0) hx hb (dq da_X12_reach 38 rfl) rfl ?_
        exact xret_l E hr hlk w (by decide) (congrArg Prod.fst (os h)) (congrArg Prod.snd (os h)) (dq da_X12_reach 39 rfl)
  · have h := ie c2 h
    refine lv_aload_n hx hb (dq da_X12_reach 7 rfl) rfl (lv_at hl 0 rfl) ?_
    refine lv_iload hx hb (dq da_X12_reach 8 rfl) (lv_at hl 3 rfl) ?_
    refine lv_iconst (v := 1) hx hb (dq da_X12_reach 9 rfl) rfl ?_
    refine lv_icmp_ne (tgt := 20) hx hb (dq da_X12_reach 10 rfl) (by decide) (fun c10 => ?_) (fun c10 => ?_)
    · have h := ie c10 h
      refine lv_bipush (v := 6) hx hb (dq da_X12_reach 13 rfl) rfl ?_
      exact b_X12_reach_b22 E hr hlk h (lv_sub hl [1] rfl) w
    · have h := it c10 h
      refine lv_iconst (v := 4) hx hb (dq da_X12_reach 11 rfl) rfl ?_
      refine lv_goto (tgt := 22) hx hb (dq da_X12_reach 12 rfl) (by decide) ?_
      exact b_X12_reach_b22 E hr hlk h (lv_sub hl [1] rfl) w
def dl_X12_half : List (Nat × Instr × Nat) := [(0, .aload_n 0, 1), (1, .lload_n 1, 1), (2, .iconst 0, 1), (3, .invokevirtual 219, 3), (6, .lstore_n 3, 1), (7, .aload_n 0, 1), (8, .iconst 0, 1), (9, .invokevirtual 222, 3), (12, .ifCond .eq 22, 3), (15, .lload_n 3, 1), (16, .lconst 0, 1), (17, .lcmp, 1), (18, .ifCond .ge 16, 3), (21, .aload_n 0, 1), (22, .ldc2_w 28, 3), (25, .lload_n 3, 1), (26, .lsub, 1), (27, .l2i, 1), (28, .lload_n 1, 1), (29, .invokevirtual 216, 3), (32, .lconst 0, 1), (33, .lreturn, 1), (34, .aload_n 0, 1), (35, .lload_n 3, 1), (36, .iconst 2, 1), (37, .invokevirtual 103, 3), (40, .ifCond .ne 11, 3), (43, .aload_n 0, 1), (44, .iconst 1, 1), (45, .lload_n 1, 1), (46, .invokevirtual 216, 3), (49, .lconst 0, 1), (50, .lreturn, 1), (51, .aload_n 0, 1), (52, .lload_n 3, 1), (53, .iconst 2, 1), (54, .invokevirtual 129, 3), (57, .lreturn, 1)]
theorem da_X12_half : dkL cX12_half dl_X12_half = true := by decide +kernel
def f_X12_half_b34 (x1 : Int64) (x3 : Int64) (u : St) : Option (Int64 × St) := if (f_X12_isRam x3 (2 : Int32) u) = (0 : Int32) then (some ((0 : Int64), (f_X12_fail (1 : Int32) x1 u))) else ((f_X12_ramAt x3 (2 : Int32) u).bind (fun y5 => some (y5, u)))
set_option maxRecDepth 100000 in
set_option maxHeartbeats 4000000 in
theorem b_X12_half_b34 {p : Program} {l : Launch} {e : Env} {s : State} {m : MethodId} {args : Array Value} {below : List Frame} {meth : Method} {c : Code} {D : va_G} {cy : ClassId × ClassId × ClassId} {ad : Nat → Nat} {A : Nat → Prop} (E : CallFix p m c cX12_half 5 s args gw RX12) (hr : meth.sig.returnType = some .long) (hlk : meth.locks = false) {x1 : Int64} {x3 : Int64} {u : St} {r : Int64} {u' : St} (h : f_X12_half_b34 x1 x3 u = some (r, u')) {ls : Array Slot} {H : Heap} {locs : List Loc} {rr : Nat → Nat} (hl : lv_has ls 5 [(0, .ref (ad 0)), (1, .long x1), (3, .long x3)]) (w : WX (wM cy ad) D cy rr u A s H locs) : Wx (wM cy ad) D p l e 2 64 0 s m args below meth c A u' (some (.long r)) H locs 0 34 ls [] := by
  have hx := E.1
  have hb := E.2.1
  have hown := E.2.2.2.1
  have hts := E.2.2.2.2
  refine lv_aload_n hx hb (dq da_X12_half 22 rfl) rfl (lv_at hl 0 rfl) ?_
  refine lv_lload_n hx hb (dq da_X12_half 23 rfl) rfl (lv_at hl 2 rfl) ?_
  refine lv_iconst (v := 2) hx hb (dq da_X12_half 24 rfl) rfl ?_
  refine cV1 E (c_X12_isRam l D cy ad _ _ _ ) w_1286 w_1288 w_p44 w_10 w_1289 rfl hd_X12_isRam rfl hl.1 rfl (Nat.le_of_ble_eq_true rfl) ⟨Nat.le_of_ble_eq_true rfl, Nat.le_of_ble_eq_true rfl⟩ (by decide) w (rc_wM_0 w) (dq da_X12_half 25 rfl) (fun H locs rr w => ?_)
  refine lv_if_ne (tgt := 51) hx hb (dq da_X12_half 26 rfl) (by decide) (fun c4 => ?_) (fun c4 => ?_)
  · have h := ie c4 h
    refine lv_aload_n hx hb (dq da_X12_half 33 rfl) rfl (lv_at hl 0 rfl) ?_
    refine lv_lload_n hx hb (dq da_X12_half 34 rfl) rfl (lv_at hl 2 rfl) ?_
    refine lv_iconst (v := 2) hx hb (dq da_X12_half 35 rfl) rfl ?_
    obtain ⟨y5, hy6, h⟩ := ob h
    refine cV1 E (c_X12_ramAt l D cy ad _ _ _ hy6) w_1322 w_1324 w_p48 w_10 w_1325 rfl hd_X12_ramAt rfl hl.1 rfl (Nat.le_of_ble_eq_true rfl) ⟨Nat.le_of_ble_eq_true rfl, Nat.le_of_ble_eq_true rfl⟩ (by decide) w (rc_wM_0 w) (dq da_X12_half 36 rfl) (fun H locs rr w => ?_)
    exact xret_l E hr hlk w (by decide) (congrArg Prod.fst (os h)) (congrArg Prod.snd (os h)) (dq da_X12_half 37 rfl)
  · have h := it c4 h
    refine lv_aload_n hx hb (dq da_X12_half 27 rfl) rfl (lv_at hl 0 rfl) ?_
    refine lv_iconst (v := 1) hx hb (dq da_X12_half 28 rfl) rfl ?_
    refine lv_lload_n hx hb (dq da_X12_half 29 rfl) rfl (lv_at hl 1 rfl) ?_
    refine cV0 E (c_X12_fail l D cy ad _ _ _ ) w_1454 w_1456 w_p63 w_10 w_1457 rfl hd_X12_fail rfl hl.1 rfl (Nat.le_of_ble_eq_true rfl) ⟨Nat.le_of_ble_eq_true rfl, Nat.le_of_ble_eq_true rfl⟩ (by decide) w (rc_wM_0 w) (dq da_X12_half 30 rfl) (fun H locs rr w => ?_)
    refine lv_lconst (v := 0) hx hb (dq da_X12_half 31 rfl) rfl ?_
    exact xret_l E hr hlk w (by decide) (congrArg Prod.fst (os h)) (congrArg Prod.snd (os h)) (dq da_X12_half 32 rfl)
def f_X12_half (x1 : Int64) (u : St) : Option (Int64 × St) := (f_X12_translated x1 (0 : Int32) u).bind (fun y1 => if (f_X12_translates (0 : Int32) u) = (0 : Int32) then (f_X12_half_b34 x1 y1 u) else (if (0 : Int64) ≤ y1 then (f_X12_half_b34 x1 y1 u) else (some ((0 : Int64), (f_X12_fail (((-1 : Int64) - y1).toInt32) x1 u)))))
set_option maxRecDepth 100000 in
set_option maxHeartbeats 4000000 in
theorem c_X12_half (l : Launch) (D : va_G) (cy : ClassId × ClassId × ClassId) (ad : Nat → Nat) (x1 : Int64) (u : St) {r : Int64} {u' : St} (h : f_X12_half x1 u = some (r, u')) : MX (wM cy ad) D cy l yX12_half cX12_half 5 (some .long) 2 64 0 [.ref (ad 0), .long x1] u u' (some (.long (r))) := by
  refine entX (by decide +kernel) (Nat.le_of_ble_eq_true rfl) ?_
  intro p e s m args below meth c ls rr A E hr hlk hl w
  have hl : lv_has ls 5 [(0, .ref (ad 0)), (1, .long x1)] := hl
  have hx := E.1
  have hb := E.2.1
  have hown := E.2.2.2.1
  have hts := E.2.2.2.2
  refine lv_aload_n hx hb (dq da_X12_half 0 rfl) rfl (lv_at hl 0 rfl) ?_
  refine lv_lload_n hx hb (dq da_X12_half 1 rfl) rfl (lv_at hl 1 rfl) ?_
  refine lv_iconst (v := 0) hx hb (dq da_X12_half 2 rfl) rfl ?_
  obtain ⟨y1, hy2, h⟩ := ob h
  refine cV1 E (c_X12_translated l D cy ad _ _ _ hy2) w_1436 w_1438 w_p61 w_10 w_1439 rfl hd_X12_translated rfl hl.1 rfl (Nat.le_of_ble_eq_true rfl) ⟨Nat.le_of_ble_eq_true rfl, Nat.le_of_ble_eq_true rfl⟩ (by decide) w (rc_wM_0 w) (dq da_X12_half 3 rfl) (fun H locs rr w => ?_)
  refine lv_lstore_n (lv' := [(3, .long y1), (0, .ref (ad 0)), (1, .long x1)]) hx hb (dq da_X12_half 4 rfl) rfl hl (by decide) rfl (fun ls hl => ?_)
  refine lv_aload_n hx hb (dq da_X12_half 5 rfl) rfl (lv_at hl 1 rfl) ?_
  refine lv_iconst (v := 0) hx hb (dq da_X12_half 6 rfl) rfl ?_
  refine cV1 E (c_X12_translates l D cy ad _ _ ) w_1450 w_1452 w_p62 w_10 w_1453 rfl hd_X12_translates rfl hl.1 rfl (Nat.le_of_ble_eq_true rfl) ⟨Nat.le_of_ble_eq_true rfl, Nat.le_of_ble_eq_true rfl⟩ (by decide) w (rc_wM_0 w) (dq da_X12_half 7 rfl) (fun H locs rr w => ?_)
  refine lv_if_eq (tgt := 34) hx hb (dq da_X12_half 8 rfl) (by decide) (fun c3 => ?_) (fun c3 => ?_)
  · have h := it c3 h
    exact b_X12_half_b34 E hr hlk h (lv_sub hl [1, 2, 0] rfl) w
  · have h := ie c3 h
    refine lv_lload_n hx hb (dq da_X12_half 9 rfl) rfl (lv_at hl 0 rfl) ?_
    refine lv_lconst (v := 0) hx hb (dq da_X12_half 10 rfl) rfl ?_
    refine lc_ge (tgt := 34) hx hb (dq da_X12_half 11 rfl) (dq da_X12_half 12 rfl) (by decide) (fun c7 => ?_) (fun c7 => ?_)
    · have h := it c7 h
      exact b_X12_half_b34 E hr hlk h (lv_sub hl [1, 2, 0] rfl) w
    · have h := ie c7 h
      refine lv_aload_n hx hb (dq da_X12_half 13 rfl) rfl (lv_at hl 1 rfl) ?_
      refine lv_ldc2 hx hb hown (hts _ w_1086) (dq da_X12_half 14 rfl) ?_
      refine lv_lload_n hx hb (dq da_X12_half 15 rfl) rfl (lv_at hl 0 rfl) ?_
      refine lv_lsub hx hb (dq da_X12_half 16 rfl) ?_
      refine lv_l2i (v := ((-1 : Int64) - y1).toInt32) hx hb (dq da_X12_half 17 rfl) rfl ?_
      refine lv_lload_n hx hb (dq da_X12_half 18 rfl) rfl (lv_at hl 2 rfl) ?_
      refine cV0 E (c_X12_fail l D cy ad _ _ _ ) w_1454 w_1456 w_p63 w_10 w_1457 rfl hd_X12_fail rfl hl.1 rfl (Nat.le_of_ble_eq_true rfl) ⟨Nat.le_of_ble_eq_true rfl, Nat.le_of_ble_eq_true rfl⟩ (by decide) w (rc_wM_0 w) (dq da_X12_half 19 rfl) (fun H locs rr w => ?_)
      refine lv_lconst (v := 0) hx hb (dq da_X12_half 20 rfl) rfl ?_
      exact xret_l E hr hlk w (by decide) (congrArg Prod.fst (os h)) (congrArg Prod.snd (os h)) (dq da_X12_half 21 rfl)
def dl_X12_pendings : List (Nat × Instr × Nat) := [(0, .aload_n 0, 1), (1, .getfield 228, 3), (4, .aload_n 0, 1), (5, .getfield 137, 3), (8, .i2l, 1), (9, .iconst 3, 1), (10, .lshl, 1), (11, .lor, 1), (12, .aload_n 0, 1), (13, .getfield 144, 3), (16, .aload_n 0, 1), (17, .getfield 30, 3), (20, .invokestatic 231, 3), (23, .ifCond .eq 7, 3), (26, .lconst 0, 1), (27, .goto 6, 3), (30, .ldc2_w 235, 3), (33, .lor, 1), (34, .aload_n 0, 1), (35, .iconst 0, 1), (36, .invokevirtual 237, 3), (39, .ifCond .eq 9, 3), (42, .ldc2_w 240, 3), (45, .goto 4, 3), (48, .lconst 0, 1), (49, .lor, 1), (50, .aload_n 0, 1), (51, .iconst 1, 1), (52, .invokevirtual 237, 3), (55, .ifCond .eq 9, 3), (58, .ldc2_w 242, 3), (61, .goto 4, 3), (64, .lconst 0, 1), (65, .lor, 1), (66, .lreturn, 1)]
theorem da_X12_pendings : dkL cX12_pendings dl_X12_pendings = true := by decide +kernel
def f_X12_pendings_b65 (s0 : Int64) (s1 : Int64) (u : St) : Option (Int64) := some (s1 ||| s0)
set_option maxRecDepth 100000 in
set_option maxHeartbeats 4000000 in
theorem b_X12_pendings_b65 {p : Program} {l : Launch} {e : Env} {s : State} {m : MethodId} {args : Array Value} {below : List Frame} {meth : Method} {c : Code} {D : va_G} {cy : ClassId × ClassId × ClassId} {ad : Nat → Nat} {A : Nat → Prop} (E : CallFix p m c cX12_pendings 1 s args gw RX12) (hr : meth.sig.returnType = some .long) (hlk : meth.locks = false) {s0 : Int64} {s1 : Int64} {u : St} {r : Int64} (h : f_X12_pendings_b65 s0 s1 u = some r) {ls : Array Slot} {H : Heap} {locs : List Loc} {rr : Nat → Nat} (hl : lv_has ls 1 []) (w : WX (wM cy ad) D cy rr u A s H locs) : Wx (wM cy ad) D p l e 1 23 0 s m args below meth c A u (some (.long r)) H locs 0 65 ls [.long s0, .long s1] := by
  have hx := E.1
  have hb := E.2.1
  have hown := E.2.2.2.1
  have hts := E.2.2.2.2
  refine lv_lor hx hb (dq da_X12_pendings 33 rfl) ?_
  exact xret_l E hr hlk w (by decide) (os h) rfl (dq da_X12_pendings 34 rfl)
def f_X12_pendings_b49 (s0 : Int64) (s1 : Int64) (u : St) : Option (Int64) := (f_X12_asks (1 : Int32) u).bind (fun y5 => if y5 = (0 : Int32) then (f_X12_pendings_b65 (0 : Int64) (s1 ||| s0) u) else (f_X12_pendings_b65 (512 : Int64) (s1 ||| s0) u))
set_option maxRecDepth 100000 in
set_option maxHeartbeats 4000000 in
theorem b_X12_pendings_b49 {p : Program} {l : Launch} {e : Env} {s : State} {m : MethodId} {args : Array Value} {below : List Frame} {meth : Method} {c : Code} {D : va_G} {cy : ClassId × ClassId × ClassId} {ad : Nat → Nat} {A : Nat → Prop} (E : CallFix p m c cX12_pendings 1 s args gw RX12) (hr : meth.sig.returnType = some .long) (hlk : meth.locks = false) {s0 : Int64} {s1 : Int64} {u : St} {r : Int64} (h : f_X12_pendings_b49 s0 s1 u = some r) {ls : Array Slot} {H : Heap} {locs : List Loc} {rr : Nat → Nat} (hl : lv_has ls 1 [(0, .ref (ad 0))]) (w : WX (wM cy ad) D cy rr u A s H locs) : Wx (wM cy ad) D p l e 1 23 0 s m args below meth c A u (some (.long r)) H locs 0 49 ls [.long s0, .long s1] := by
  have hx := E.1
  have hb := E.2.1
  have hown := E.2.2.2.1
  have hts := E.2.2.2.2
  refine lv_lor hx hb (dq da_X12_pendings 25 rfl) ?_
  refine lv_aload_n hx hb (dq da_X12_pendings 26 rfl) rfl (lv_at hl 0 rfl) ?_
  refine lv_iconst (v := 1) hx hb (dq da_X12_pendings 27 rfl) rfl ?_
  obtain ⟨y5, hy6, h⟩ := ob h
  refine cV1 E (c_X12_asks l D cy ad _ _ hy6) w_1363 w_1365 w_p51 w_10 w_1366 rfl hd_X12_asks rfl hl.1 rfl (Nat.le_of_ble_eq_true rfl) ⟨Nat.le_of_ble_eq_true rfl, Nat.le_of_ble_eq_true rfl⟩ (by decide) w (rc_wM_0 w) (dq da_X12_pendings 28 rfl) (fun H locs rr w => ?_)
  refine lv_if_eq (tgt := 64) hx hb (dq da_X12_pendings 29 rfl) (by decide) (fun c7 => ?_) (fun c7 => ?_)
  · have h := it c7 h
    refine lv_lconst (v := 0) hx hb (dq da_X12_pendings 32 rfl) rfl ?_
    exact b_X12_pendings_b65 E hr hlk h (lv_sub hl [] rfl) w
  · have h := ie c7 h
    refine lv_ldc2 hx hb hown (hts _ w_1368) (dq da_X12_pendings 30 rfl) ?_
    refine lv_goto (tgt := 65) hx hb (dq da_X12_pendings 31 rfl) (by decide) ?_
    exact b_X12_pendings_b65 E hr hlk h (lv_sub hl [] rfl) w
def f_X12_pendings_b33 (s0 : Int64) (s1 : Int64) (u : St) : Option (Int64) := (f_X12_asks (0 : Int32) u).bind (fun y2 => if y2 = (0 : Int32) then (f_X12_pendings_b49 (0 : Int64) (s1 ||| s0) u) else (f_X12_pendings_b49 (2048 : Int64) (s1 ||| s0) u))
set_option maxRecDepth 100000 in
set_option maxHeartbeats 4000000 in
theorem b_X12_pendings_b33 {p : Program} {l : Launch} {e : Env} {s : State} {m : MethodId} {args : Array Value} {below : List Frame} {meth : Method} {c : Code} {D : va_G} {cy : ClassId × ClassId × ClassId} {ad : Nat → Nat} {A : Nat → Prop} (E : CallFix p m c cX12_pendings 1 s args gw RX12) (hr : meth.sig.returnType = some .long) (hlk : meth.locks = false) {s0 : Int64} {s1 : Int64} {u : St} {r : Int64} (h : f_X12_pendings_b33 s0 s1 u = some r) {ls : Array Slot} {H : Heap} {locs : List Loc} {rr : Nat → Nat} (hl : lv_has ls 1 [(0, .ref (ad 0))]) (w : WX (wM cy ad) D cy rr u A s H locs) : Wx (wM cy ad) D p l e 1 23 0 s m args below meth c A u (some (.long r)) H locs 0 33 ls [.long s0, .long s1] := by
  have hx := E.1
  have hb := E.2.1
  have hown := E.2.2.2.1
  have hts := E.2.2.2.2
  refine lv_lor hx hb (dq da_X12_pendings 17 rfl) ?_
  refine lv_aload_n hx hb (dq da_X12_pendings 18 rfl) rfl (lv_at hl 0 rfl) ?_
  refine lv_iconst (v := 0) hx hb (dq da_X12_pendings 19 rfl) rfl ?_
  obtain ⟨y2, hy3, h⟩ := ob h
  refine cV1 E (c_X12_asks l D cy ad _ _ hy3) w_1363 w_1365 w_p51 w_10 w_1366 rfl hd_X12_asks rfl hl.1 rfl (Nat.le_of_ble_eq_true rfl) ⟨Nat.le_of_ble_eq_true rfl, Nat.le_of_ble_eq_true rfl⟩ (by decide) w (rc_wM_0 w) (dq da_X12_pendings 20 rfl) (fun H locs rr w => ?_)
  refine lv_if_eq (tgt := 48) hx hb (dq da_X12_pendings 21 rfl) (by decide) (fun c4 => ?_) (fun c4 => ?_)
  · have h := it c4 h
    refine lv_lconst (v := 0) hx hb (dq da_X12_pendings 24 rfl) rfl ?_
    exact b_X12_pendings_b49 E hr hlk h (lv_sub hl [0] rfl) w
  · have h := ie c4 h
    refine lv_ldc2 hx hb hown (hts _ w_1367) (dq da_X12_pendings 22 rfl) ?_
    refine lv_goto (tgt := 49) hx hb (dq da_X12_pendings 23 rfl) (by decide) ?_
    exact b_X12_pendings_b49 E hr hlk h (lv_sub hl [0] rfl) w
def f_X12_pendings (u : St) : Option (Int64) := if (f_X12_isLess (gL u 3) (gL u 2)) = (0 : Int32) then (f_X12_pendings_b33 (128 : Int64) ((gL u 14) ||| (j_lshl ((gI u 4).toInt64) (3 : Int32))) u) else (f_X12_pendings_b33 (0 : Int64) ((gL u 14) ||| (j_lshl ((gI u 4).toInt64) (3 : Int32))) u)
set_option maxRecDepth 100000 in
set_option maxHeartbeats 4000000 in
theorem c_X12_pendings (l : Launch) (D : va_G) (cy : ClassId × ClassId × ClassId) (ad : Nat → Nat) (u : St) {r : Int64} (h : f_X12_pendings u = some r) : MX (wM cy ad) D cy l yX12_pendings cX12_pendings 1 (some .long) 1 23 0 [.ref (ad 0)] u u (some (.long (r))) := by
  refine entX (by decide +kernel) (Nat.le_of_ble_eq_true rfl) ?_
  intro p e s m args below meth c ls rr A E hr hlk hl w
  have hl : lv_has ls 1 [(0, .ref (ad 0))] := hl
  have hx := E.1
  have hb := E.2.1
  have hown := E.2.2.2.1
  have hts := E.2.2.2.2
  refine lv_aload_n hx hb (dq da_X12_pendings 0 rfl) rfl (lv_at hl 0 rfl) ?_
  refine gt_wM_0_waiting E w w_1123 (dq da_X12_pendings 1 rfl) ?_
  refine lv_aload_n hx hb (dq da_X12_pendings 2 rfl) rfl (lv_at hl 0 rfl) ?_
  refine gt_wM_0_soft E w w_1096 (dq da_X12_pendings 3 rfl) ?_
  refine lv_i2l (v := (gI u 4).toInt64) hx hb (dq da_X12_pendings 4 rfl) rfl ?_
  refine lv_iconst (v := 3) hx hb (dq da_X12_pendings 5 rfl) rfl ?_
  refine lv_lshl (v := (j_lshl ((gI u 4).toInt64) (3 : Int32))) hx hb (dq da_X12_pendings 6 rfl) rfl ?_
  refine lv_lor hx hb (dq da_X12_pendings 7 rfl) ?_
  refine lv_aload_n hx hb (dq da_X12_pendings 8 rfl) rfl (lv_at hl 0 rfl) ?_
  refine gt_wM_0_time E w w_1098 (dq da_X12_pendings 9 rfl) ?_
  refine lv_aload_n hx hb (dq da_X12_pendings 10 rfl) rfl (lv_at hl 0 rfl) ?_
  refine gt_wM_0_compare E w w_1097 (dq da_X12_pendings 11 rfl) ?_
  refine callP E (c_X12_isLess l _ _ ) w_1358 w_1359 w_10 w_1360 hd_X12_isLess rfl hl.1 rfl (Nat.le_of_ble_eq_true rfl) ⟨Nat.le_of_ble_eq_true rfl, Nat.le_of_ble_eq_true rfl⟩ (by decide) (dq da_X12_pendings 12 rfl) ?_
  refine lv_if_eq (tgt := 30) hx hb (dq da_X12_pendings 13 rfl) (by decide) (fun c1 => ?_) (fun c1 => ?_)
  · have h := it c1 h
    refine lv_ldc2 hx hb hown (hts _ w_1362) (dq da_X12_pendings 16 rfl) ?_
    exact b_X12_pendings_b33 E hr hlk h (lv_sub hl [0] rfl) w
  · have h := ie c1 h
    refine lv_lconst (v := 0) hx hb (dq da_X12_pendings 14 rfl) rfl ?_
    refine lv_goto (tgt := 33) hx hb (dq da_X12_pendings 15 rfl) (by decide) ?_
    exact b_X12_pendings_b33 E hr hlk h (lv_sub hl [0] rfl) w

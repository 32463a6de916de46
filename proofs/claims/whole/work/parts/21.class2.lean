theorem w_750 : Cond.constantLong RX9 68 (64) ∈ gw := gw_t4 30 rfl rfl
theorem w_735 : Cond.constantLong RX9 25 (8) ∈ gw := gw_t4 15 rfl rfl
theorem n_23 : Cond.fieldLinkNest RX9 70 "HartBoard$Controls" "status" "J" "HartBoard" ∈ nl := List.mem_append_left _ (List.mem_of_getElem? (i := 23) rfl)
theorem w_751 : Cond.constantLong RX9 73 (524288) ∈ gw := gw_t4 31 rfl rfl
theorem w_752 : Cond.constantLong RX9 75 (2) ∈ gw := gw_t4 32 rfl rfl
theorem w_746 : Cond.constantLong RX9 44 (10) ∈ gw := gw_t4 26 rfl rfl
theorem w_753 : Cond.constantLong RX9 77 (128) ∈ gw := gw_t4 33 rfl rfl
theorem w_757 : Cond.constantLong RX9 79 (16) ∈ gw := gw_t4 37 rfl rfl
theorem w_758 : Cond.constantLong RX9 81 (262144) ∈ gw := gw_t4 38 rfl rfl
theorem n_27 : Cond.fieldLinkNest RX9 15 "HartBoard$Controls" "satp" "J" "HartBoard" ∈ nl := List.mem_append_left _ (List.mem_of_getElem? (i := 27) rfl)
theorem w_730 : Cond.methodLink RX9 9 yX9_pageFault ∈ gw := gw_t4 10 rfl rfl
theorem w_731 : Cond.static yX9_pageFault ∈ gw := gw_t4 11 rfl rfl
theorem w_18 : Cond.initialized RX9 ∈ gw := gw_t1 18 rfl rfl
theorem w_732 : Cond.code yX9_pageFault cX9_pageFault 1 (some .int) ∈ gw := gw_t4 12 rfl rfl
theorem w_734 : Cond.constantLong RX9 23 (511) ∈ gw := gw_t4 14 rfl rfl
theorem w_736 : Cond.methodLink RX9 27 yX10_place ∈ gw := gw_t4 16 rfl rfl
theorem w_346 : Cond.instanceMethod yX10_place ∈ gw := gw_t2 106 rfl rfl
theorem w_135 : Cond.fieldLink RX1 35 "HartBoard$Bus" "failed" "Z" ∈ gw := gw_t1 135 rfl rfl
theorem w_120 : Cond.fieldLink RX1 31 "HartBoard$Bus" "ram" "LHartBoard$Ram;" ∈ gw := gw_t1 120 rfl rfl
theorem w_869 : Cond.methodLink RX1 39 yX10_place ∈ gw := gw_t4 149 rfl rfl
theorem w_137 : Cond.fieldLink RX1 83 "HartBoard$Bus" "reservedAt" "J" ∈ gw := gw_t1 137 rfl rfl
theorem w_138 : Cond.fieldLink RX1 86 "HartBoard$Bus" "reservedSize" "I" ∈ gw := gw_t1 138 rfl rfl
theorem w_123 : Cond.fieldLink RX1 12 "HartBoard$Bus" "controller" "LHartBoard$Controller;" ∈ gw := gw_t1 123 rfl rfl
theorem w_126 : Cond.fieldLink RX1 21 "HartBoard$Bus" "line" "LHartBoard$Line;" ∈ gw := gw_t1 126 rfl rfl
theorem w_671 : Cond.fieldLink RX6 106 "HartBoard$Hart" "RANKS" "[I" ∈ gw := gw_t3 191 rfl rfl
theorem w_246 : Cond.fieldLink RX6 35 "HartBoard$Hart" "controls" "LHartBoard$Controls;" ∈ gw := gw_t2 6 rfl rfl
theorem n_26 : Cond.fieldLinkNest RX6 82 "HartBoard$Controls" "mie" "J" "HartBoard" ∈ nl := List.mem_append_left _ (List.mem_of_getElem? (i := 26) rfl)
theorem n_24 : Cond.fieldLinkNest RX6 110 "HartBoard$Controls" "medeleg" "J" "HartBoard" ∈ nl := List.mem_append_left _ (List.mem_of_getElem? (i := 24) rfl)
theorem w_251 : Cond.fieldLink RX6 21 "HartBoard$Hart" "privilege" "I" ∈ gw := gw_t2 11 rfl rfl
theorem n_21 : Cond.fieldLinkNest RX6 117 "HartBoard$Controls" "machine" "LHartBoard$Level;" "HartBoard" ∈ nl := List.mem_append_left _ (List.mem_of_getElem? (i := 21) rfl)
theorem w_249 : Cond.fieldLink RX6 17 "HartBoard$Hart" "pc" "J" ∈ gw := gw_t2 9 rfl rfl
theorem n_18 : Cond.fieldLinkNest RX6 120 "HartBoard$Level" "epc" "J" "HartBoard" ∈ nl := List.mem_append_left _ (List.mem_of_getElem? (i := 18) rfl)
theorem n_19 : Cond.fieldLinkNest RX6 129 "HartBoard$Level" "cause" "J" "HartBoard" ∈ nl := List.mem_append_left _ (List.mem_of_getElem? (i := 19) rfl)
theorem n_20 : Cond.fieldLinkNest RX6 131 "HartBoard$Level" "tval" "J" "HartBoard" ∈ nl := List.mem_append_left _ (List.mem_of_getElem? (i := 20) rfl)
theorem w_255 : Cond.fieldLink RX6 25 "HartBoard$Hart" "cause" "I" ∈ gw := gw_t2 15 rfl rfl
theorem w_256 : Cond.fieldLink RX6 68 "HartBoard$Hart" "value" "J" ∈ gw := gw_t2 16 rfl rfl
theorem w_253 : Cond.fieldLink RX6 150 "HartBoard$Hart" "raw" "I" ∈ gw := gw_t2 13 rfl rfl
theorem w_848 : Cond.constantLong RX6 153 (4294967295) ∈ gw := gw_t4 128 rfl rfl
theorem w_710 : Cond.methodLink RX6 155 yX6_fail ∈ gw := gw_t3 230 rfl rfl
theorem w_712 : Cond.instanceMethod yX6_fail ∈ gw := gw_t3 232 rfl rfl
theorem w_p16 : Cond.selects RX6 yX6_fail yX6_fail ∈ gw := gw_p 16 rfl rfl
theorem w_9 : Cond.initialized RX6 ∈ gw := gw_t1 9 rfl rfl
theorem w_713 : Cond.code yX6_fail cX6_fail 4 (none) ∈ gw := gw_t3 233 rfl rfl
theorem w_718 : Cond.constantLong RX6 191 (131072) ∈ gw := gw_t3 238 rfl rfl
theorem w_664 : Cond.methodLink RX6 96 yX4_has ∈ gw := gw_t3 184 rfl rfl
theorem w_247 : Cond.fieldLink RX6 9 "HartBoard$Hart" "registers" "[J" ∈ gw := gw_t2 7 rfl rfl
theorem w_254 : Cond.fieldLink RX6 57 "HartBoard$Hart" "next" "J" ∈ gw := gw_t2 14 rfl rfl
theorem w_820 : Cond.methodLink RX6 207 yX6_putRd ∈ gw := gw_t4 100 rfl rfl
theorem w_822 : Cond.instanceMethod yX6_putRd ∈ gw := gw_t4 102 rfl rfl
theorem w_p18 : Cond.selects RX6 yX6_putRd yX6_putRd ∈ gw := gw_p 18 rfl rfl
theorem w_823 : Cond.code yX6_putRd cX6_putRd 5 (none) ∈ gw := gw_t4 103 rfl rfl
theorem w_836 : Cond.methodLink RX6 246 yX6_f ∈ gw := gw_t4 116 rfl rfl
theorem w_837 : Cond.static yX6_f ∈ gw := gw_t4 117 rfl rfl
theorem w_838 : Cond.code yX6_f cX6_f 1 (some .int) ∈ gw := gw_t4 118 rfl rfl
theorem w_844 : Cond.methodLink RX6 255 yX6_illegal ∈ gw := gw_t4 124 rfl rfl
theorem w_846 : Cond.instanceMethod yX6_illegal ∈ gw := gw_t4 126 rfl rfl
theorem w_p22 : Cond.selects RX6 yX6_illegal yX6_illegal ∈ gw := gw_p 22 rfl rfl
theorem w_847 : Cond.code yX6_illegal cX6_illegal 1 (none) ∈ gw := gw_t4 127 rfl rfl
theorem w_839 : Cond.methodLink RX6 259 yX6_a ∈ gw := gw_t4 119 rfl rfl
theorem w_841 : Cond.instanceMethod yX6_a ∈ gw := gw_t4 121 rfl rfl
theorem w_p21 : Cond.selects RX6 yX6_a yX6_a ∈ gw := gw_p 21 rfl rfl
theorem w_842 : Cond.code yX6_a cX6_a 2 (some .long) ∈ gw := gw_t4 122 rfl rfl
theorem w_843 : Cond.constantLong RX6 263 (-2) ∈ gw := gw_t4 123 rfl rfl
theorem w_828 : Cond.methodLink RX6 213 yX6_jump ∈ gw := gw_t4 108 rfl rfl
theorem w_830 : Cond.instanceMethod yX6_jump ∈ gw := gw_t4 110 rfl rfl
theorem w_p19 : Cond.selects RX6 yX6_jump yX6_jump ∈ gw := gw_p 19 rfl rfl
theorem w_831 : Cond.code yX6_jump cX6_jump 4 (none) ∈ gw := gw_t4 111 rfl rfl
theorem w_853 : Cond.methodLink RX6 265 yX6_b ∈ gw := gw_t4 133 rfl rfl
theorem w_855 : Cond.instanceMethod yX6_b ∈ gw := gw_t4 135 rfl rfl
theorem w_p24 : Cond.selects RX6 yX6_b yX6_b ∈ gw := gw_p 24 rfl rfl
theorem w_856 : Cond.code yX6_b cX6_b 2 (some .long) ∈ gw := gw_t4 136 rfl rfl
theorem w_857 : Cond.methodLink RX6 268 yX0_below ∈ gw := gw_t4 137 rfl rfl
theorem w_858 : Cond.methodLink RX6 274 yX6_branchOffset ∈ gw := gw_t4 138 rfl rfl
theorem w_859 : Cond.static yX6_branchOffset ∈ gw := gw_t4 139 rfl rfl
theorem w_860 : Cond.code yX6_branchOffset cX6_branchOffset 1 (some .int) ∈ gw := gw_t4 140 rfl rfl
theorem w_945 : Cond.methodLink RX6 291 yX0_plain ∈ gw := gw_t4 225 rfl rfl
theorem w_946 : Cond.static yX0_plain ∈ gw := gw_t4 226 rfl rfl
theorem w_947 : Cond.code yX0_plain cX0_plain 6 (some .long) ∈ gw := gw_t4 227 rfl rfl
theorem w_954 : Cond.methodLink RX6 295 yX0_narrow ∈ gw := gw_t4 234 rfl rfl
theorem w_955 : Cond.static yX0_narrow ∈ gw := gw_t4 235 rfl rfl
theorem w_956 : Cond.code yX0_narrow cX0_narrow 4 (some .long) ∈ gw := gw_t4 236 rfl rfl
theorem w_961 : Cond.methodLink RX6 299 yX0_product ∈ gw := gw_t5 1 rfl rfl
theorem w_962 : Cond.static yX0_product ∈ gw := gw_t5 2 rfl rfl
theorem w_963 : Cond.code yX0_product cX0_product 5 (some .long) ∈ gw := gw_t5 3 rfl rfl
theorem w_976 : Cond.methodLink RX6 303 yX0_narrowProduct ∈ gw := gw_t5 16 rfl rfl
theorem w_977 : Cond.static yX0_narrowProduct ∈ gw := gw_t5 17 rfl rfl
theorem w_978 : Cond.code yX0_narrowProduct cX0_narrowProduct 7 (some .long) ∈ gw := gw_t5 18 rfl rfl
theorem n_22 : Cond.fieldLinkNest RX6 113 "HartBoard$Controls" "supervisor" "LHartBoard$Level;" "HartBoard" ∈ nl := List.mem_append_left _ (List.mem_of_getElem? (i := 22) rfl)
theorem w_288 : Cond.fieldLink RX11 15 "HartBoard" "tape" "LHartBoard$Bytes;" ∈ gw := gw_t2 48 rfl rfl
theorem w_305 : Cond.methodLink RX11 56 yX2_size ∈ gw := gw_t2 65 rfl rfl
def dl_X9_opens : List (Nat × Instr × Nat) := [(0, .lload_n 0, 1), (1, .ldc2_w 68, 3), (4, .land, 1), (5, .lconst 0, 1), (6, .lcmp, 1), (7, .ifCond .ne 5, 3), (10, .iconst 0, 1), (11, .ireturn, 1), (12, .iload_n 2, 1), (13, .lookupswitch 90 #[(0, 27), (1, 43)], 27), (40, .lload_n 0, 1), (41, .ldc2_w 25, 3), (44, .land, 1), (45, .lconst 0, 1), (46, .lcmp, 1), (47, .ifCond .eq 7, 3), (50, .iconst 1, 1), (51, .goto 4, 3), (54, .iconst 0, 1), (55, .ireturn, 1), (56, .aload_n 3, 1), (57, .getfield 70, 3), (60, .ldc2_w 73, 3), (63, .land, 1), (64, .lconst 0, 1), (65, .lcmp, 1), (66, .ifCond .eq 7, 3), (69, .iconst 1, 1), (70, .goto 4, 3), (73, .iconst 0, 1), (74, .istore 4, 2), (76, .lload_n 0, 1), (77, .iload 4, 2), (79, .ifCond .eq 9, 3), (82, .ldc2_w 44, 3), (85, .goto 6, 3), (88, .ldc2_w 75, 3), (91, .land, 1), (92, .lconst 0, 1), (93, .lcmp, 1), (94, .ifCond .eq 7, 3), (97, .iconst 1, 1), (98, .goto 4, 3), (101, .iconst 0, 1), (102, .ireturn, 1), (103, .lload_n 0, 1), (104, .ldc2_w 66, 3), (107, .land, 1), (108, .lconst 0, 1), (109, .lcmp, 1), (110, .ifCond .eq 17, 3), (113, .lload_n 0, 1), (114, .ldc2_w 77, 3), (117, .land, 1), (118, .lconst 0, 1), (119, .lcmp, 1), (120, .ifCond .eq 7, 3), (123, .iconst 1, 1), (124, .goto 4, 3), (127, .iconst 0, 1), (128, .ireturn, 1)]
theorem da_X9_opens : dkL cX9_opens dl_X9_opens = true := by decide +kernel
def f_X9_opens_b91 (s0 : Int64) (s1 : Int64) (u : St) : Int32 := if (s1 &&& s0) = (0 : Int64) then (0 : Int32) else (1 : Int32)
set_option maxRecDepth 100000 in
set_option maxHeartbeats 4000000 in
theorem b_X9_opens_b91 {p : Program} {l : Launch} {e : Env} {s : State} {m : MethodId} {args : Array Value} {below : List Frame} {meth : Method} {c : Code} {D : va_G} {cy : ClassId × ClassId × ClassId} {ad : Nat → Nat} {A : Nat → Prop} (E : CallFix p m c cX9_opens 5 s args gw RX9) (hr : meth.sig.returnType = some .boolean) (hlk : meth.locks = false) {s0 : Int64} {s1 : Int64} {u : St} {r : Int32} (h : f_X9_opens_b91 s0 s1 u = r) {ls : Array Slot} {H : Heap} {locs : List Loc} {rr : Nat → Nat} (hl : lv_has ls 5 []) (w : WX (wC cy ad) D cy rr u A s H locs) : Wx (wC cy ad) D p l e 0 0 0 s m args below meth c A u (some (.int r)) H locs 0 91 ls [.long s0, .long s1] := by
  have hx := E.1
  have hb := E.2.1
  have hown := E.2.2.2.1
  have hts := E.2.2.2.2
  refine lv_land hx hb (dq da_X9_opens 37 rfl) ?_
  refine lv_lconst (v := 0) hx hb (dq da_X9_opens 38 rfl) rfl ?_
  refine lc_eq (tgt := 101) hx hb (dq da_X9_opens 39 rfl) (dq da_X9_opens 40 rfl) (by decide) (fun c7 => ?_) (fun c7 => ?_)
  · have h := it c7 h
    refine lv_iconst (v := 0) hx hb (dq da_X9_opens 43 rfl) rfl ?_
    exact xret_z E hr hlk rfl w (by decide) h rfl (dq da_X9_opens 44 rfl)
  · have h := ie c7 h
    refine lv_iconst (v := 1) hx hb (dq da_X9_opens 41 rfl) rfl ?_
    refine lv_goto (tgt := 102) hx hb (dq da_X9_opens 42 rfl) (by decide) ?_
    exact xret_z E hr hlk rfl w (by decide) h rfl (dq da_X9_opens 44 rfl)
def f_X9_opens_b74 (x0 : Int64) (s0 : Int32) (u : St) : Int32 := if s0 = (0 : Int32) then (f_X9_opens_b91 (2 : Int64) x0 u) else (f_X9_opens_b91 (10 : Int64) x0 u)
set_option maxRecDepth 100000 in
set_option maxHeartbeats 4000000 in
theorem b_X9_opens_b74 {p : Program} {l : Launch} {e : Env} {s : State} {m : MethodId} {args : Array Value} {below : List Frame} {meth : Method} {c : Code} {D : va_G} {cy : ClassId × ClassId × ClassId} {ad : Nat → Nat} {A : Nat → Prop} (E : CallFix p m c cX9_opens 5 s args gw RX9) (hr : meth.sig.returnType = some .boolean) (hlk : meth.locks = false) {x0 : Int64} {s0 : Int32} {u : St} {r : Int32} (h : f_X9_opens_b74 x0 s0 u = r) {ls : Array Slot} {H : Heap} {locs : List Loc} {rr : Nat → Nat} (hl : lv_has ls 5 [(0, .long x0)]) (w : WX (wC cy ad) D cy rr u A s H locs) : Wx (wC cy ad) D p l e 0 0 0 s m args below meth c A u (some (.int r)) H locs 0 74 ls [.int s0] := by
  have hx := E.1
  have hb := E.2.1
  have hown := E.2.2.2.1
  have hts := E.2.2.2.2
  refine lv_istore (lv' := [(4, .int s0), (0, .long x0)]) hx hb (dq da_X9_opens 30 rfl) hl (by decide) rfl (fun ls hl => ?_)
  refine lv_lload_n hx hb (dq da_X9_opens 31 rfl) rfl (lv_at hl 1 rfl) ?_
  refine lv_iload hx hb (dq da_X9_opens 32 rfl) (lv_at hl 0 rfl) ?_
  refine lv_if_eq (tgt := 88) hx hb (dq da_X9_opens 33 rfl) (by decide) (fun c6 => ?_) (fun c6 => ?_)
  · have h := it c6 h
    refine lv_ldc2 hx hb hown (hts _ w_752) (dq da_X9_opens 36 rfl) ?_
    exact b_X9_opens_b91 E hr hlk h (lv_sub hl [] rfl) w
  · have h := ie c6 h
    refine lv_ldc2 hx hb hown (hts _ w_746) (dq da_X9_opens 34 rfl) ?_
    refine lv_goto (tgt := 91) hx hb (dq da_X9_opens 35 rfl) (by decide) ?_
    exact b_X9_opens_b91 E hr hlk h (lv_sub hl [] rfl) w
def f_X9_opens_b127 (u : St) : Int32 := (0 : Int32)
set_option maxRecDepth 100000 in
set_option maxHeartbeats 4000000 in
theorem b_X9_opens_b127 {p : Program} {l : Launch} {e : Env} {s : State} {m : MethodId} {args : Array Value} {below : List Frame} {meth : Method} {c : Code} {D : va_G} {cy : ClassId × ClassId × ClassId} {ad : Nat → Nat} {A : Nat → Prop} (E : CallFix p m c cX9_opens 5 s args gw RX9) (hr : meth.sig.returnType = some .boolean) (hlk : meth.locks = false) {u : St} {r : Int32} (h : f_X9_opens_b127 u = r) {ls : Array Slot} {H : Heap} {locs : List Loc} {rr : Nat → Nat} (hl : lv_has ls 5 []) (w : WX (wC cy ad) D cy rr u A s H locs) : Wx (wC cy ad) D p l e 0 0 0 s m args below meth c A u (some (.int r)) H locs 0 127 ls [] := by
  have hx := E.1
  have hb := E.2.1
  have hown := E.2.2.2.1
  have hts := E.2.2.2.2
  refine lv_iconst (v := 0) hx hb (dq da_X9_opens 59 rfl) rfl ?_
  exact xret_z E hr hlk rfl w (by decide) h rfl (dq da_X9_opens 60 rfl)
def f_X9_opens (x0 : Int64) (x2 : Int32) (u : St) : Int32 := if (x0 &&& (64 : Int64)) = (0 : Int64) then (0 : Int32) else (if x2 = (0 : Int32) then (if (x0 &&& (8 : Int64)) = (0 : Int64) then (0 : Int32) else (1 : Int32)) else if x2 = (1 : Int32) then (if ((gL u 4) &&& (524288 : Int64)) = (0 : Int64) then (f_X9_opens_b74 x0 (0 : Int32) u) else (f_X9_opens_b74 x0 (1 : Int32) u)) else (if (x0 &&& (4 : Int64)) = (0 : Int64) then (f_X9_opens_b127 u) else (if (x0 &&& (128 : Int64)) = (0 : Int64) then (f_X9_opens_b127 u) else (1 : Int32))))
set_option maxRecDepth 100000 in
set_option maxHeartbeats 4000000 in
theorem c_X9_opens (l : Launch) (D : va_G) (cy : ClassId × ClassId × ClassId) (ad : Nat → Nat) (x0 : Int64) (x2 : Int32) (u : St) : MX (wC cy ad) D cy l yX9_opens cX9_opens 5 (some .boolean) 0 0 0 [.long x0, .int x2, .ref (ad 15)] u u (some (.int (f_X9_opens x0 x2 u))) := by
  refine entX (by decide +kernel) (Nat.le_of_ble_eq_true rfl) ?_
  intro p e s m args below meth c ls rr A E hr hlk hl w
  have hl : lv_has ls 5 [(0, .long x0), (2, .int x2), (3, .ref (ad 15))] := hl
  generalize h : f_X9_opens x0 x2 u = r
  skip
  have hx := E.1
  have hb := E.2.1
  have hown := E.2.2.2.1
  have hts := E.2.2.2.2
  refine lv_lload_n hx hb (dq da_X9_opens 0 rfl) rfl (lv_at hl 0 rfl) ?_
  refine lv_ldc2 hx hb hown (hts _ w_750) (dq da_X9_opens 1 rfl) ?_
  refine lv_land hx hb (dq da_X9_opens 2 rfl) ?_
  refine lv_lconst (v := 0) hx hb (dq da_X9_opens 3 rfl) rfl ?_
  refine lc_ne (tgt := 12) hx hb (dq da_X9_opens 4 rfl) (dq da_X9_opens 5 rfl) (by decide) (fun c1 => ?_) (fun c1 => ?_)
  · have h := ie c1 h
    refine lv_iload_n hx hb (dq da_X9_opens 8 rfl) rfl (lv_at hl 1 rfl) ?_
    by_cases c2 : x2 = (0 : Int32)
    · have h := it c2 h
      refine lv_lookup (off := 27) (tgt := 40) hx hb (dq da_X9_opens 9 rfl) (by decide +kernel) (by rw [c2]; decide +kernel) (by decide) ?_
      refine lv_lload_n hx hb (dq da_X9_opens 10 rfl) rfl (lv_at hl 0 rfl) ?_
      refine lv_ldc2 hx hb hown (hts _ w_735) (dq da_X9_opens 11 rfl) ?_
      refine lv_land hx hb (dq da_X9_opens 12 rfl) ?_
      refine lv_lconst (v := 0) hx hb (dq da_X9_opens 13 rfl) rfl ?_
      refine lc_eq (tgt := 54) hx hb (dq da_X9_opens 14 rfl) (dq da_X9_opens 15 rfl) (by decide) (fun c3 => ?_) (fun c3 => ?_)
      · have h := it c3 h
        refine lv_iconst (v := 0) hx hb (dq da_X9_opens 18 rfl) rfl ?_
        exact xret_z E hr hlk rfl w (by decide) h rfl (dq da_X9_opens 19 rfl)
      · have h := ie c3 h
        refine lv_iconst (v := 1) hx hb (dq da_X9_opens 16 rfl) rfl ?_
        refine lv_goto (tgt := 55) hx hb (dq da_X9_opens 17 rfl) (by decide) ?_
        exact xret_z E hr hlk rfl w (by decide) h rfl (dq da_X9_opens 19 rfl)
    · have h := ie c2 h
      by_cases c4 : x2 = (1 : Int32)
      · have h := it c4 h
        refine lv_lookup (off := 43) (tgt := 56) hx hb (dq da_X9_opens 9 rfl) (by decide +kernel) (by rw [c4]; decide +kernel) (by decide) ?_
        refine lv_aload_n hx hb (dq da_X9_opens 20 rfl) rfl (lv_at hl 2 rfl) ?_
        refine gtN_wC_15_status E w n_23 (dq da_X9_opens 21 rfl) ?_
        refine lv_ldc2 hx hb hown (hts _ w_751) (dq da_X9_opens 22 rfl) ?_
        refine lv_land hx hb (dq da_X9_opens 23 rfl) ?_
        refine lv_lconst (v := 0) hx hb (dq da_X9_opens 24 rfl) rfl ?_
        refine lc_eq (tgt := 73) hx hb (dq da_X9_opens 25 rfl) (dq da_X9_opens 26 rfl) (by decide) (fun c5 => ?_) (fun c5 => ?_)
        · have h := it c5 h
          refine lv_iconst (v := 0) hx hb (dq da_X9_opens 29 rfl) rfl ?_
          exact b_X9_opens_b74 E hr hlk h (lv_sub hl [0] rfl) w
        · have h := ie c5 h
          refine lv_iconst (v := 1) hx hb (dq da_X9_opens 27 rfl) rfl ?_
          refine lv_goto (tgt := 74) hx hb (dq da_X9_opens 28 rfl) (by decide) ?_
          exact b_X9_opens_b74 E hr hlk h (lv_sub hl [0] rfl) w
      · have h := ie c4 h
        refine lv_lookup (off := 90) (tgt := 103) hx hb (dq da_X9_opens 9 rfl) (by decide +kernel) (by show Op.lookupswitch.offset [(0, 27), (1, 43)] (90) _ = _; rw [lv_osw (k := (0 : Int32)) (a := 0) c2 rfl, lv_osw (k := (1 : Int32)) (a := 1) c4 rfl]; rfl) (by decide) ?_
        refine lv_lload_n hx hb (dq da_X9_opens 45 rfl) rfl (lv_at hl 0 rfl) ?_
        refine lv_ldc2 hx hb hown (hts _ w_745) (dq da_X9_opens 46 rfl) ?_
        refine lv_land hx hb (dq da_X9_opens 47 rfl) ?_
        refine lv_lconst (v := 0) hx hb (dq da_X9_opens 48 rfl) rfl ?_
        refine lc_eq (tgt := 127) hx hb (dq da_X9_opens 49 rfl) (dq da_X9_opens 50 rfl) (by decide) (fun c8 => ?_) (fun c8 => ?_)
        · have h := it c8 h
          exact b_X9_opens_b127 E hr hlk h (lv_sub hl [] rfl) w
        · have h := ie c8 h
          refine lv_lload_n hx hb (dq da_X9_opens 51 rfl) rfl (lv_at hl 0 rfl) ?_
          refine lv_ldc2 hx hb hown (hts _ w_753) (dq da_X9_opens 52 rfl) ?_
          refine lv_land hx hb (dq da_X9_opens 53 rfl) ?_
          refine lv_lconst (v := 0) hx hb (dq da_X9_opens 54 rfl) rfl ?_
          refine lc_eq (tgt := 127) hx hb (dq da_X9_opens 55 rfl) (dq da_X9_opens 56 rfl) (by decide) (fun c9 => ?_) (fun c9 => ?_)
          · have h := it c9 h
            exact b_X9_opens_b127 E hr hlk h (lv_sub hl [] rfl) w
          · have h := ie c9 h
            refine lv_iconst (v := 1) hx hb (dq da_X9_opens 57 rfl) rfl ?_
            refine lv_goto (tgt := 128) hx hb (dq da_X9_opens 58 rfl) (by decide) ?_
            exact xret_z E hr hlk rfl w (by decide) h rfl (dq da_X9_opens 60 rfl)
  · have h := it c1 h
    refine lv_iconst (v := 0) hx hb (dq da_X9_opens 6 rfl) rfl ?_
    exact xret_z E hr hlk rfl w (by decide) h rfl (dq da_X9_opens 7 rfl)
def dl_X9_admits : List (Nat × Instr × Nat) := [(0, .lload_n 0, 1), (1, .ldc2_w 79, 3), (4, .land, 1), (5, .lconst 0, 1), (6, .lcmp, 1), (7, .ifCond .eq 7, 3), (10, .iconst 1, 1), (11, .goto 4, 3), (14, .iconst 0, 1), (15, .istore 5, 2), (17, .iload_n 3, 1), (18, .ifCond .ne 6, 3), (21, .iload 5, 2), (23, .ireturn, 1), (24, .iload 5, 2), (26, .ifCond .eq 21, 3), (29, .iload_n 2, 1), (30, .ifCond .eq 21, 3), (33, .aload 4, 2), (35, .getfield 70, 3), (38, .ldc2_w 81, 3), (41, .land, 1), (42, .lconst 0, 1), (43, .lcmp, 1), (44, .ifCond .eq 7, 3), (47, .iconst 1, 1), (48, .goto 4, 3), (51, .iconst 0, 1), (52, .ireturn, 1)]
theorem da_X9_admits : dkL cX9_admits dl_X9_admits = true := by decide +kernel
def f_X9_admits_b47 (u : St) : Option (Int32) := some (1 : Int32)
set_option maxRecDepth 100000 in
set_option maxHeartbeats 4000000 in
theorem b_X9_admits_b47 {p : Program} {l : Launch} {e : Env} {s : State} {m : MethodId} {args : Array Value} {below : List Frame} {meth : Method} {c : Code} {D : va_G} {cy : ClassId × ClassId × ClassId} {ad : Nat → Nat} {A : Nat → Prop} (E : CallFix p m c cX9_admits 6 s args gw RX9) (hr : meth.sig.returnType = some .boolean) (hlk : meth.locks = false) {u : St} {r : Int32} (h : f_X9_admits_b47 u = some r) {ls : Array Slot} {H : Heap} {locs : List Loc} {rr : Nat → Nat} (hl : lv_has ls 6 []) (w : WX (wC cy ad) D cy rr u A s H locs) : Wx (wC cy ad) D p l e 0 0 0 s m args below meth c A u (some (.int r)) H locs 0 47 ls [] := by
  have hx := E.1
  have hb := E.2.1
  have hown := E.2.2.2.1
  have hts := E.2.2.2.2
  refine lv_iconst (v := 1) hx hb (dq da_X9_admits 25 rfl) rfl ?_
  refine lv_goto (tgt := 52) hx hb (dq da_X9_admits 26 rfl) (by decide) ?_
  exact xret_z E hr hlk rfl w (by decide) (os h) rfl (dq da_X9_admits 28 rfl)
def f_X9_admits_b51 (u : St) : Option (Int32) := some (0 : Int32)
set_option maxRecDepth 100000 in
set_option maxHeartbeats 4000000 in
theorem b_X9_admits_b51 {p : Program} {l : Launch} {e : Env} {s : State} {m : MethodId} {args : Array Value} {below : List Frame} {meth : Method} {c : Code} {D : va_G} {cy : ClassId × ClassId × ClassId} {ad : Nat → Nat} {A : Nat → Prop} (E : CallFix p m c cX9_admits 6 s args gw RX9) (hr : meth.sig.returnType = some .boolean) (hlk : meth.locks = false) {u : St} {r : Int32} (h : f_X9_admits_b51 u = some r) {ls : Array Slot} {H : Heap} {locs : List Loc} {rr : Nat → Nat} (hl : lv_has ls 6 []) (w : WX (wC cy ad) D cy rr u A s H locs) : Wx (wC cy ad) D p l e 0 0 0 s m args below meth c A u (some (.int r)) H locs 0 51 ls [] := by
  have hx := E.1
  have hb := E.2.1
  have hown := E.2.2.2.1
  have hts := E.2.2.2.2
  refine lv_iconst (v := 0) hx hb (dq da_X9_admits 27 rfl) rfl ?_
  exact xret_z E hr hlk rfl w (by decide) (os h) rfl (dq da_X9_admits 28 rfl)
def f_X9_admits_b15 (x2 : Int32) (x3 : Int32) (s0 : Int32) (u : St) : Option (Int32) := if x3 = (0 : Int32) then (if s0 &&& 1 = s0 then some s0 else none) else (if s0 = (0 : Int32) then (f_X9_admits_b47 u) else (if x2 = (0 : Int32) then (f_X9_admits_b51 u) else (if ((gL u 4) &&& (262144 : Int64)) = (0 : Int64) then (f_X9_admits_b51 u) else (f_X9_admits_b47 u))))
set_option maxRecDepth 100000 in
set_option maxHeartbeats 4000000 in
theorem b_X9_admits_b15 {p : Program} {l : Launch} {e : Env} {s : State} {m : MethodId} {args : Array Value} {below : List Frame} {meth : Method} {c : Code} {D : va_G} {cy : ClassId × ClassId × ClassId} {ad : Nat → Nat} {A : Nat → Prop} (E : CallFix p m c cX9_admits 6 s args gw RX9) (hr : meth.sig.returnType = some .boolean) (hlk : meth.locks = false) {x2 : Int32} {x3 : Int32} {s0 : Int32} {u : St} {r : Int32} (h : f_X9_admits_b15 x2 x3 s0 u = some r) {ls : Array Slot} {H : Heap} {locs : List Loc} {rr : Nat → Nat} (hl : lv_has ls 6 [(2, .int x2), (3, .int x3), (4, .ref (ad 15))]) (w : WX (wC cy ad) D cy rr u A s H locs) : Wx (wC cy ad) D p l e 0 0 0 s m args below meth c A u (some (.int r)) H locs 0 15 ls [.int s0] := by
  have hx := E.1
  have hb := E.2.1
  have hown := E.2.2.2.1
  have hts := E.2.2.2.2
  refine lv_istore (lv' := [(5, .int s0), (2, .int x2), (3, .int x3), (4, .ref (ad 15))]) hx hb (dq da_X9_admits 9 rfl) hl (by decide) rfl (fun ls hl => ?_)
  refine lv_iload_n hx hb (dq da_X9_admits 10 rfl) rfl (lv_at hl 2 rfl) ?_
  refine lv_if_ne (tgt := 24) hx hb (dq da_X9_admits 11 rfl) (by decide) (fun c2 => ?_) (fun c2 => ?_)
  · have h := ie c2 h
    refine lv_iload hx hb (dq da_X9_admits 14 rfl) (lv_at hl 0 rfl) ?_
    refine lv_if_eq (tgt := 47) hx hb (dq da_X9_admits 15 rfl) (by decide) (fun c3 => ?_) (fun c3 => ?_)
    · have h := it c3 h
      exact b_X9_admits_b47 E hr hlk h (lv_sub hl [] rfl) w
    · have h := ie c3 h
      refine lv_iload_n hx hb (dq da_X9_admits 16 rfl) rfl (lv_at hl 1 rfl) ?_
      refine lv_if_eq (tgt := 51) hx hb (dq da_X9_admits 17 rfl) (by decide) (fun c4 => ?_) (fun c4 => ?_)
      · have h := it c4 h
        exact b_X9_admits_b51 E hr hlk h (lv_sub hl [] rfl) w
      · have h := ie c4 h
        refine lv_aload hx hb (dq da_X9_admits 18 rfl) (lv_at hl 3 rfl) ?_
        refine gtN_wC_15_status E w n_23 (dq da_X9_admits 19 rfl) ?_
        refine lv_ldc2 hx hb hown (hts _ w_758) (dq da_X9_admits 20 rfl) ?_
        refine lv_land hx hb (dq da_X9_admits 21 rfl) ?_
        refine lv_lconst (v := 0) hx hb (dq da_X9_admits 22 rfl) rfl ?_
        refine lc_eq (tgt := 51) hx hb (dq da_X9_admits 23 rfl) (dq da_X9_admits 24 rfl) (by decide) (fun c5 => ?_) (fun c5 => ?_)
        · have h := it c5 h
          exact b_X9_admits_b51 E hr hlk h (lv_sub hl [] rfl) w
        · have h := ie c5 h
          exact b_X9_admits_b47 E hr hlk h (lv_sub hl [] rfl) w
  · have h := it c2 h
    refine lv_iload hx hb (dq da_X9_admits 12 rfl) (lv_at hl 0 rfl) ?_
    obtain ⟨hz6, h⟩ := oi h
    exact xret_z E hr hlk (by show Value.int _ = _; rw [hz6]) w (by decide) (os h) rfl (dq da_X9_admits 13 rfl)
def f_X9_admits (x0 : Int64) (x2 : Int32) (x3 : Int32) (u : St) : Option (Int32) := if (x0 &&& (16 : Int64)) = (0 : Int64) then (f_X9_admits_b15 x2 x3 (0 : Int32) u) else (f_X9_admits_b15 x2 x3 (1 : Int32) u)
set_option maxRecDepth 100000 in
set_option maxHeartbeats 4000000 in
theorem c_X9_admits (l : Launch) (D : va_G) (cy : ClassId × ClassId × ClassId) (ad : Nat → Nat) (x0 : Int64) (x2 : Int32) (x3 : Int32) (u : St) {r : Int32} (h : f_X9_admits x0 x2 x3 u = some r) : MX (wC cy ad) D cy l yX9_admits cX9_admits 6 (some .boolean) 0 0 0 [.long x0, .int x2, .int x3, .ref (ad 15)] u u (some (.int (r))) := by
  refine entX (by decide +kernel) (Nat.le_of_ble_eq_true rfl) ?_
  intro p e s m args below meth c ls rr A E hr hlk hl w
  have hl : lv_has ls 6 [(0, .long x0), (2, .int x2), (3, .int x3), (4, .ref (ad 15))] := hl
  skip
  have hx := E.1
  have hb := E.2.1
  have hown := E.2.2.2.1
  have hts := E.2.2.2.2
  refine lv_lload_n hx hb (dq da_X9_admits 0 rfl) rfl (lv_at hl 0 rfl) ?_
  refine lv_ldc2 hx hb hown (hts _ w_757) (dq da_X9_admits 1 rfl) ?_
  refine lv_land hx hb (dq da_X9_admits 2 rfl) ?_
  refine lv_lconst (v := 0) hx hb (dq da_X9_admits 3 rfl) rfl ?_
  refine lc_eq (tgt := 14) hx hb (dq da_X9_admits 4 rfl) (dq da_X9_admits 5 rfl) (by decide) (fun c1 => ?_) (fun c1 => ?_)
  · have h := it c1 h
    refine lv_iconst (v := 0) hx hb (dq da_X9_admits 8 rfl) rfl ?_
    exact b_X9_admits_b15 E hr hlk h (lv_sub hl [1, 2, 3] rfl) w
  · have h := ie c1 h
    refine lv_iconst (v := 1) hx hb (dq da_X9_admits 6 rfl) rfl ?_
    refine lv_goto (tgt := 15) hx hb (dq da_X9_admits 7 rfl) (by decide) ?_
    exact b_X9_admits_b15 E hr hlk h (lv_sub hl [1, 2, 3] rfl) w
def dl_X1_reserve : List (Nat × Instr × Nat) := [(0, .aload_n 0, 1), (1, .lload_n 1, 1), (2, .putfield 83, 3), (5, .aload_n 0, 1), (6, .iload_n 3, 1), (7, .putfield 86, 3), (10, .return_, 1)]
theorem da_X1_reserve : dkL cX1_reserve dl_X1_reserve = true := by decide +kernel
def f_X1_reserve (x1 : Int64) (x3 : Int32) (u : St) : St := (sI (sL u 3 x1) 4 x3)
set_option maxRecDepth 100000 in
set_option maxHeartbeats 4000000 in
theorem c_X1_reserve (l : Launch) (D : va_G) (cy : ClassId × ClassId × ClassId) (ad : Nat → Nat) (x1 : Int64) (x3 : Int32) (u : St) : MX (wC cy ad) D cy l yX1_reserve cX1_reserve 4 (none) 0 0 0 [.ref (ad 3), .long x1, .int x3] u (f_X1_reserve x1 x3 u) none := by
  refine entX (by decide +kernel) (Nat.le_of_ble_eq_true rfl) ?_
  intro p e s m args below meth c ls rr A E hr hlk hl w
  have hl : lv_has ls 4 [(0, .ref (ad 3)), (1, .long x1), (3, .int x3)] := hl
  generalize h : f_X1_reserve x1 x3 u = u'
  skip
  have hx := E.1
  have hb := E.2.1
  have hown := E.2.2.2.1
  have hts := E.2.2.2.2
  refine lv_aload_n hx hb (dq da_X1_reserve 0 rfl) rfl (lv_at hl 0 rfl) ?_
  refine lv_lload_n hx hb (dq da_X1_reserve 1 rfl) rfl (lv_at hl 1 rfl) ?_
  refine pt_wC_3_reservedAt E w w_137 (dq da_X1_reserve 2 rfl) (fun H locs w => ?_)
  refine lv_aload_n hx hb (dq da_X1_reserve 3 rfl) rfl (lv_at hl 0 rfl) ?_
  refine lv_iload_n hx hb (dq da_X1_reserve 4 rfl) rfl (lv_at hl 2 rfl) ?_
  refine pt_wC_3_reservedSize E w w_138 (dq da_X1_reserve 5 rfl) (fun H locs w => ?_)
  exact xret_v E hr hlk w (by decide) h (dq da_X1_reserve 6 rfl)
def dl_X1_reserves : List (Nat × Instr × Nat) := [(0, .aload_n 0, 1), (1, .getfield 86, 3), (4, .iload_n 3, 1), (5, .if_icmp .ne 16, 3), (8, .aload_n 0, 1), (9, .getfield 83, 3), (12, .lload_n 1, 1), (13, .lcmp, 1), (14, .ifCond .ne 7, 3), (17, .iconst 1, 1), (18, .goto 4, 3), (21, .iconst 0, 1), (22, .ireturn, 1)]
theorem da_X1_reserves : dkL cX1_reserves dl_X1_reserves = true := by decide +kernel
def f_X1_reserves_b21 (u : St) : Int32 := (0 : Int32)
set_option maxRecDepth 100000 in
set_option maxHeartbeats 4000000 in
theorem b_X1_reserves_b21 {p : Program} {l : Launch} {e : Env} {s : State} {m : MethodId} {args : Array Value} {below : List Frame} {meth : Method} {c : Code} {D : va_G} {cy : ClassId × ClassId × ClassId} {ad : Nat → Nat} {A : Nat → Prop} (E : CallFix p m c cX1_reserves 4 s args gw RX1) (hr : meth.sig.returnType = some .boolean) (hlk : meth.locks = false) {u : St} {r : Int32} (h : f_X1_reserves_b21 u = r) {ls : Array Slot} {H : Heap} {locs : List Loc} {rr : Nat → Nat} (hl : lv_has ls 4 []) (w : WX (wC cy ad) D cy rr u A s H locs) : Wx (wC cy ad) D p l e 0 0 0 s m args below meth c A u (some (.int r)) H locs 0 21 ls [] := by
  have hx := E.1
  have hb := E.2.1
  have hown := E.2.2.2.1
  have hts := E.2.2.2.2
  refine lv_iconst (v := 0) hx hb (dq da_X1_reserves 11 rfl) rfl ?_
  exact xret_z E hr hlk rfl w (by decide) h rfl (dq da_X1_reserves 12 rfl)
def f_X1_reserves (x1 : Int64) (x3 : Int32) (u : St) : Int32 := if (gI u 4) = x3 then (if (gL u 3) = x1 then (1 : Int32) else (f_X1_reserves_b21 u)) else (f_X1_reserves_b21 u)
set_option maxRecDepth 100000 in
set_option maxHeartbeats 4000000 in
theorem c_X1_reserves (l : Launch) (D : va_G) (cy : ClassId × ClassId × ClassId) (ad : Nat → Nat) (x1 : Int64) (x3 : Int32) (u : St) : MX (wC cy ad) D cy l yX1_reserves cX1_reserves 4 (some .boolean) 0 0 0 [.ref (ad 3), .long x1, .int x3] u u (some (.int (f_X1_reserves x1 x3 u))) := by
  refine entX (by decide +kernel) (Nat.le_of_ble_eq_true rfl) ?_
  intro p e s m args below meth c ls rr A E hr hlk hl w
  have hl : lv_has ls 4 [(0, .ref (ad 3)), (1, .long x1), (3, .int x3)] := hl
  generalize h : f_X1_reserves x1 x3 u = r
  skip
  have hx := E.1
  have hb := E.2.1
  have hown := E.2.2.2.1
  have hts := E.2.2.2.2
  refine lv_aload_n hx hb (dq da_X1_reserves 0 rfl) rfl (lv_at hl 0 rfl) ?_
  refine gt_wC_3_reservedSize E w w_138 (dq da_X1_reserves 1 rfl) ?_
  refine lv_iload_n hx hb (dq da_X1_reserves 2 rfl) rfl (lv_at hl 2 rfl) ?_
  refine lv_icmp_ne (tgt := 21) hx hb (dq da_X1_reserves 3 rfl) (by decide) (fun c1 => ?_) (fun c1 => ?_)
  · have h := ie c1 h
    exact b_X1_reserves_b21 E hr hlk h (lv_sub hl [] rfl) w
  · have h := it c1 h
    refine lv_aload_n hx hb (dq da_X1_reserves 4 rfl) rfl (lv_at hl 0 rfl) ?_
    refine gt_wC_3_reservedAt E w w_137 (dq da_X1_reserves 5 rfl) ?_
    refine lv_lload_n hx hb (dq da_X1_reserves 6 rfl) rfl (lv_at hl 1 rfl) ?_
    refine lc_ne (tgt := 21) hx hb (dq da_X1_reserves 7 rfl) (dq da_X1_reserves 8 rfl) (by decide) (fun c2 => ?_) (fun c2 => ?_)
    · have h := ie c2 h
      exact b_X1_reserves_b21 E hr hlk h (lv_sub hl [] rfl) w
    · have h := it c2 h
      refine lv_iconst (v := 1) hx hb (dq da_X1_reserves 9 rfl) rfl ?_
      refine lv_goto (tgt := 22) hx hb (dq da_X1_reserves 10 rfl) (by decide) ?_
      exact xret_z E hr hlk rfl w (by decide) h rfl (dq da_X1_reserves 12 rfl)
def dl_X1_endReservation : List (Nat × Instr × Nat) := [(0, .aload_n 0, 1), (1, .lconst 0, 1), (2, .putfield 83, 3), (5, .aload_n 0, 1), (6, .iconst 0, 1), (7, .putfield 86, 3), (10, .return_, 1)]
theorem da_X1_endReservation : dkL cX1_endReservation dl_X1_endReservation = true := by decide +kernel
def f_X1_endReservation (u : St) : St := (sI (sL u 3 (0 : Int64)) 4 (0 : Int32))
set_option maxRecDepth 100000 in
set_option maxHeartbeats 4000000 in
theorem c_X1_endReservation (l : Launch) (D : va_G) (cy : ClassId × ClassId × ClassId) (ad : Nat → Nat) (u : St) : MX (wC cy ad) D cy l yX1_endReservation cX1_endReservation 1 (none) 0 0 0 [.ref (ad 3)] u (f_X1_endReservation u) none := by
  refine entX (by decide +kernel) (Nat.le_of_ble_eq_true rfl) ?_
  intro p e s m args below meth c ls rr A E hr hlk hl w
  have hl : lv_has ls 1 [(0, .ref (ad 3))] := hl
  generalize h : f_X1_endReservation u = u'
  skip
  have hx := E.1
  have hb := E.2.1
  have hown := E.2.2.2.1
  have hts := E.2.2.2.2
  refine lv_aload_n hx hb (dq da_X1_endReservation 0 rfl) rfl (lv_at hl 0 rfl) ?_
  refine lv_lconst (v := 0) hx hb (dq da_X1_endReservation 1 rfl) rfl ?_
  refine pt_wC_3_reservedAt E w w_137 (dq da_X1_endReservation 2 rfl) (fun H locs w => ?_)
  refine lv_aload_n hx hb (dq da_X1_endReservation 3 rfl) rfl (lv_at hl 0 rfl) ?_
  refine lv_iconst (v := 0) hx hb (dq da_X1_endReservation 4 rfl) rfl ?_
  refine pt_wC_3_reservedSize E w w_138 (dq da_X1_endReservation 5 rfl) (fun H locs w => ?_)
  exact xret_v E hr hlk w (by decide) h (dq da_X1_endReservation 6 rfl)
def dl_X6_foremost : List (Nat × Instr × Nat) := [(0, .getstatic 106, 3), (3, .astore_n 2, 1), (4, .aload_n 2, 1), (5, .arraylength, 1), (6, .istore_n 3, 1), (7, .iconst 0, 1), (8, .istore 4, 2), (10, .iload 4, 2), (12, .iload_n 3, 1), (13, .if_icmp .ge 29, 3), (16, .aload_n 2, 1), (17, .iload 4, 2), (19, .iaload, 1), (20, .istore 5, 2), (22, .lload_n 0, 1), (23, .iload 5, 2), (25, .lshr, 1), (26, .lconst 1, 1), (27, .land, 1), (28, .lconst 0, 1), (29, .lcmp, 1), (30, .ifCond .eq 6, 3), (33, .iload 5, 2), (35, .ireturn, 1), (36, .iinc 4 1, 3), (39, .goto (-29), 3), (42, .iconst (-1), 1), (43, .ireturn, 1)]
theorem da_X6_foremost : dkL cX6_foremost dl_X6_foremost = true := by decide +kernel
def f_X6_foremost_b10_s (k10 : Int64 → Int32 → Int32 → St → Option (Int32)) (x0 : Int64) (x3 : Int32) (x4 : Int32) (u : St) : Option (Int32) := if x3 ≤ x4 then (some (-1 : Int32)) else (if inB x4 6 then (if ((j_lshr x0 (rkn x4.toNatClampNeg)) &&& (1 : Int64)) = (0 : Int64) then (k10 x0 x3 (x4 + (1 : Int32)) u) else (some (rkn x4.toNatClampNeg))) else none)
set_option maxRecDepth 100000 in
set_option maxHeartbeats 4000000 in
theorem b_X6_foremost_b10_s {p : Program} {l : Launch} {e : Env} {s : State} {m : MethodId} {args : Array Value} {below : List Frame} {meth : Method} {c : Code} {D : va_G} {cy : ClassId × ClassId × ClassId} {ad : Nat → Nat} {A : Nat → Prop} (E : CallFix p m c cX6_foremost 6 s args gw RX6) (hr : meth.sig.returnType = some .int) (hlk : meth.locks = false) {tk : Nat} (hT : va_T .int tk 6 (fun j => .int (rkn j)) A s s.heap) {k10 : Int64 → Int32 → Int32 → St → Option (Int32)} (hk10 : ∀ (x0 : Int64) (x3 : Int32) (x4 : Int32) (u : St) (r : Int32), k10 x0 x3 x4 u = some r → ∀ (ls : Array Slot) (H : Heap) (locs : List Loc) (rr : Nat → Nat), lv_has ls 6 [(0, .long x0), (2, .ref tk), (3, .int x3), (4, .int x4)] → WX (wC cy ad) D cy rr u A s H locs → Wx (wC cy ad) D p l e 0 0 0 s m args below meth c A u (some (.int r)) H locs 0 10 ls []) {x0 : Int64} {x3 : Int32} {x4 : Int32} {u : St} {r : Int32} (h : f_X6_foremost_b10_s k10 x0 x3 x4 u = some r) {ls : Array Slot} {H : Heap} {locs : List Loc} {rr : Nat → Nat} (hl : lv_has ls 6 [(0, .long x0), (2, .ref tk), (3, .int x3), (4, .int x4)]) (w : WX (wC cy ad) D cy rr u A s H locs) : Wx (wC cy ad) D p l e 0 0 0 s m args below meth c A u (some (.int r)) H locs 0 10 ls [] := by
  have hx := E.1
  have hb := E.2.1
  have hown := E.2.2.2.1
  have hts := E.2.2.2.2
  refine lv_iload hx hb (dq da_X6_foremost 7 rfl) (lv_at hl 3 rfl) ?_
  refine lv_iload_n hx hb (dq da_X6_foremost 8 rfl) rfl (lv_at hl 2 rfl) ?_
  refine lv_icmp_ge (tgt := 42) hx hb (dq da_X6_foremost 9 rfl) (by decide) (fun c1 => ?_) (fun c1 => ?_)
  · have h := it c1 h
    refine lv_iconst (v := (-1)) hx hb (dq da_X6_foremost 26 rfl) rfl ?_
    exact xret_i E hr hlk w (by decide) (os h) rfl (dq da_X6_foremost 27 rfl)
  · have h := ie c1 h
    refine lv_aload_n hx hb (dq da_X6_foremost 10 rfl) rfl (lv_at hl 1 rfl) ?_
    refine lv_iload hx hb (dq da_X6_foremost 11 rfl) (lv_at hl 3 rfl) ?_
    obtain ⟨hi2, h⟩ := oi h
    refine va_ti hx hb hT w.2.2.1 hi2 rfl (dq da_X6_foremost 12 rfl) ?_
    refine lv_istore (lv' := [(5, .int (rkn x4.toNatClampNeg)), (0, .long x0), (2, .ref tk), (3, .int x3), (4, .int x4)]) hx hb (dq da_X6_foremost 13 rfl) hl (by decide) rfl (fun ls hl => ?_)
    refine lv_lload_n hx hb (dq da_X6_foremost 14 rfl) rfl (lv_at hl 1 rfl) ?_
    refine lv_iload hx hb (dq da_X6_foremost 15 rfl) (lv_at hl 0 rfl) ?_
    refine lv_lshr (v := (j_lshr x0 (rkn x4.toNatClampNeg))) hx hb (dq da_X6_foremost 16 rfl) rfl ?_
    refine lv_lconst (v := 1) hx hb (dq da_X6_foremost 17 rfl) rfl ?_
    refine lv_land hx hb (dq da_X6_foremost 18 rfl) ?_
    refine lv_lconst (v := 0) hx hb (dq da_X6_foremost 19 rfl) rfl ?_
    refine lc_eq (tgt := 36) hx hb (dq da_X6_foremost 20 rfl) (dq da_X6_foremost 21 rfl) (by decide) (fun c3 => ?_) (fun c3 => ?_)
    · have h := it c3 h
      refine lv_iinc (v := (x4 + (1 : Int32))) (lv' := [(4, .int (x4 + (1 : Int32))), (5, .int (rkn x4.toNatClampNeg)), (0, .long x0), (2, .ref tk), (3, .int x3)]) hx hb (dq da_X6_foremost 24 rfl) hl (k := 4) rfl rfl (by decide) rfl (fun ls hl => ?_)
      refine lv_goto (tgt := 10) hx hb (dq da_X6_foremost 25 rfl) (by decide) ?_
      exact hk10 _ _ _ _ _ h ls _ _ _ (lv_sub hl [2, 3, 4, 0] rfl) w
    · have h := ie c3 h
      refine lv_iload hx hb (dq da_X6_foremost 22 rfl) (lv_at hl 0 rfl) ?_
      exact xret_i E hr hlk w (by decide) (os h) rfl (dq da_X6_foremost 23 rfl)
def f_X6_foremost_b10 : Nat → Int64 → Int32 → Int32 → St → Option (Int32)
  | 0 => fun _ _ _ _ => none
  | n + 1 => f_X6_foremost_b10_s (f_X6_foremost_b10 n)
theorem b_X6_foremost_b10 {p : Program} {l : Launch} {e : Env} {s : State} {m : MethodId} {args : Array Value} {below : List Frame} {meth : Method} {c : Code} {D : va_G} {cy : ClassId × ClassId × ClassId} {ad : Nat → Nat} {A : Nat → Prop} (E : CallFix p m c cX6_foremost 6 s args gw RX6) (hr : meth.sig.returnType = some .int) (hlk : meth.locks = false) {tk : Nat} (hT : va_T .int tk 6 (fun j => .int (rkn j)) A s s.heap) : ∀ n : Nat, ∀ (x0 : Int64) (x3 : Int32) (x4 : Int32) (u : St) (r : Int32), f_X6_foremost_b10 n x0 x3 x4 u = some r → ∀ (ls : Array Slot) (H : Heap) (locs : List Loc) (rr : Nat → Nat), lv_has ls 6 [(0, .long x0), (2, .ref tk), (3, .int x3), (4, .int x4)] → WX (wC cy ad) D cy rr u A s H locs → Wx (wC cy ad) D p l e 0 0 0 s m args below meth c A u (some (.int r)) H locs 0 10 ls [] := by
  intro n
  induction n with
  | zero => intro x0 x3 x4 u r h; cases h
  | succ n ih => intro x0 x3 x4 u r h ls H locs rr hl w; exact b_X6_foremost_b10_s E hr hlk hT ih h hl w
def f_X6_foremost (x0 : Int64) (u : St) : Option (Int32) := f_X6_foremost_b10 FU x0 (6 : Int32) (0 : Int32) u
set_option maxRecDepth 100000 in
set_option maxHeartbeats 4000000 in
theorem c_X6_foremost (l : Launch) (D : va_G) (cy : ClassId × ClassId × ClassId) (ad : Nat → Nat) (x0 : Int64) (u : St) {r : Int32} (h : f_X6_foremost x0 u = some r) : MX (wC cy ad) D cy l yX6_foremost cX6_foremost 6 (some .int) 0 0 0 [.long x0] u u (some (.int (r))) := by
  refine entX (by decide +kernel) (Nat.le_of_ble_eq_true rfl) ?_
  intro p e s m args below meth c ls rr A E hr hlk hl w
  have hl : lv_has ls 6 [(0, .long x0)] := hl
  skip
  have hx := E.1
  have hb := E.2.1
  have hown := E.2.2.2.1
  have hts := E.2.2.2.2
  obtain ⟨tk, hZ, hT⟩ := w.2.2.2.2.2
  refine va_gets hx hb hZ w.2.2.1 hown (hts _ w_671) (fun _ h9 => h9) (dq da_X6_foremost 0 rfl) ?_
  refine lv_astore_n (lv' := [(2, .ref tk), (0, .long x0)]) hx hb (dq da_X6_foremost 1 rfl) rfl hl (by decide) rfl (fun ls hl => ?_)
  refine lv_aload_n hx hb (dq da_X6_foremost 2 rfl) rfl (lv_at hl 0 rfl) ?_
  refine va_tlen (v := 6) hx hb hT w.2.2.1 rfl (dq da_X6_foremost 3 rfl) ?_
  refine lv_istore_n (lv' := [(3, .int (6 : Int32)), (2, .ref tk), (0, .long x0)]) hx hb (dq da_X6_foremost 4 rfl) rfl hl (by decide) rfl (fun ls hl => ?_)
  refine lv_iconst (v := 0) hx hb (dq da_X6_foremost 5 rfl) rfl ?_
  refine lv_istore (lv' := [(4, .int (0 : Int32)), (3, .int (6 : Int32)), (2, .ref tk), (0, .long x0)]) hx hb (dq da_X6_foremost 6 rfl) hl (by decide) rfl (fun ls hl => ?_)
  exact b_X6_foremost_b10 E hr hlk hT FU _ _ _ _ _ h ls _ _ _ (lv_sub hl [3, 2, 1, 0] rfl) w
def dl_X6_fail : List (Nat × Instr × Nat) := [(0, .aload_n 0, 1), (1, .iload_n 1, 1), (2, .putfield 25, 3), (5, .aload_n 0, 1), (6, .lload_n 2, 1), (7, .putfield 68, 3), (10, .return_, 1)]
theorem da_X6_fail : dkL cX6_fail dl_X6_fail = true := by decide +kernel
def f_X6_fail (x1 : Int32) (x2 : Int64) (u : St) : St := (sL (sI u 18 x1) 26 x2)
set_option maxRecDepth 100000 in
set_option maxHeartbeats 4000000 in
theorem c_X6_fail (l : Launch) (D : va_G) (cy : ClassId × ClassId × ClassId) (ad : Nat → Nat) (x1 : Int32) (x2 : Int64) (u : St) : MX (wC cy ad) D cy l yX6_fail cX6_fail 4 (none) 0 0 0 [.ref (ad 18), .int x1, .long x2] u (f_X6_fail x1 x2 u) none := by
  refine entX (by decide +kernel) (Nat.le_of_ble_eq_true rfl) ?_
  intro p e s m args below meth c ls rr A E hr hlk hl w
  have hl : lv_has ls 4 [(0, .ref (ad 18)), (1, .int x1), (2, .long x2)] := hl
  generalize h : f_X6_fail x1 x2 u = u'
  skip
  have hx := E.1
  have hb := E.2.1
  have hown := E.2.2.2.1
  have hts := E.2.2.2.2
  refine lv_aload_n hx hb (dq da_X6_fail 0 rfl) rfl (lv_at hl 0 rfl) ?_
  refine lv_iload_n hx hb (dq da_X6_fail 1 rfl) rfl (lv_at hl 1 rfl) ?_
  refine pt_wC_18_cause E w w_255 (dq da_X6_fail 2 rfl) (fun H locs w => ?_)
  refine lv_aload_n hx hb (dq da_X6_fail 3 rfl) rfl (lv_at hl 0 rfl) ?_
  refine lv_lload_n hx hb (dq da_X6_fail 4 rfl) rfl (lv_at hl 2 rfl) ?_
  refine pt_wC_18_value E w w_256 (dq da_X6_fail 5 rfl) (fun H locs w => ?_)
  exact xret_v E hr hlk w (by decide) h (dq da_X6_fail 6 rfl)
def dl_X6_illegal : List (Nat × Instr × Nat) := [(0, .aload_n 0, 1), (1, .iconst 2, 1), (2, .aload_n 0, 1), (3, .getfield 150, 3), (6, .i2l, 1), (7, .ldc2_w 153, 3), (10, .land, 1), (11, .invokevirtual 155, 3), (14, .return_, 1)]
theorem da_X6_illegal : dkL cX6_illegal dl_X6_illegal = true := by decide +kernel
def f_X6_illegal (u : St) : St := (f_X6_fail (2 : Int32) ((gI u 17).toInt64 &&& (4294967295 : Int64)) u)
set_option maxRecDepth 100000 in
set_option maxHeartbeats 4000000 in
theorem c_X6_illegal (l : Launch) (D : va_G) (cy : ClassId × ClassId × ClassId) (ad : Nat → Nat) (u : St) : MX (wC cy ad) D cy l yX6_illegal cX6_illegal 1 (none) 1 23 0 [.ref (ad 18)] u (f_X6_illegal u) none := by
  refine entX (by decide +kernel) (Nat.le_of_ble_eq_true rfl) ?_
  intro p e s m args below meth c ls rr A E hr hlk hl w
  have hl : lv_has ls 1 [(0, .ref (ad 18))] := hl
  generalize h : f_X6_illegal u = u'
  skip
  have hx := E.1
  have hb := E.2.1
  have hown := E.2.2.2.1
  have hts := E.2.2.2.2
  refine lv_aload_n hx hb (dq da_X6_illegal 0 rfl) rfl (lv_at hl 0 rfl) ?_
  refine lv_iconst (v := 2) hx hb (dq da_X6_illegal 1 rfl) rfl ?_
  refine lv_aload_n hx hb (dq da_X6_illegal 2 rfl) rfl (lv_at hl 0 rfl) ?_
  refine gt_wC_18_raw E w w_253 (dq da_X6_illegal 3 rfl) ?_
  refine lv_i2l (v := (gI u 17).toInt64) hx hb (dq da_X6_illegal 4 rfl) rfl ?_
  refine lv_ldc2 hx hb hown (hts _ w_848) (dq da_X6_illegal 5 rfl) ?_
  refine lv_land hx hb (dq da_X6_illegal 6 rfl) ?_
  refine cV0 E (c_X6_fail l D cy ad _ _ _ ) w_710 w_712 w_p16 w_9 w_713 rfl hd_X6_fail rfl hl.1 rfl (Nat.le_of_ble_eq_true rfl) (by decide) (by decide) w (rc_wC_18 w) (dq da_X6_illegal 7 rfl) (fun H locs rr w => ?_)
  exact xret_v E hr hlk w (by decide) h (dq da_X6_illegal 8 rfl)
def dl_X6_a : List (Nat × Instr × Nat) := [(0, .aload_n 0, 1), (1, .getfield 9, 3), (4, .iload_n 1, 1), (5, .bipush 15, 2), (7, .ishr, 1), (8, .bipush 31, 2), (10, .iand, 1), (11, .laload, 1), (12, .lreturn, 1)]
theorem da_X6_a : dkL cX6_a dl_X6_a = true := by decide +kernel
def f_X6_a (x1 : Int32) (u : St) : Option (Int64) := if inB ((x1 >>> ((15 : Int32) &&& 31)) &&& (31 : Int32)) (gN u 7) then (some (gB u 1 ((x1 >>> ((15 : Int32) &&& 31)) &&& (31 : Int32)).toNatClampNeg)) else none
set_option maxRecDepth 100000 in
set_option maxHeartbeats 4000000 in
theorem c_X6_a (l : Launch) (D : va_G) (cy : ClassId × ClassId × ClassId) (ad : Nat → Nat) (x1 : Int32) (u : St) {r : Int64} (h : f_X6_a x1 u = some r) : MX (wC cy ad) D cy l yX6_a cX6_a 2 (some .long) 0 0 0 [.ref (ad 18), .int x1] u u (some (.long (r))) := by
  refine entX (by decide +kernel) (Nat.le_of_ble_eq_true rfl) ?_
  intro p e s m args below meth c ls rr A E hr hlk hl w
  have hl : lv_has ls 2 [(0, .ref (ad 18)), (1, .int x1)] := hl
  skip
  have hx := E.1
  have hb := E.2.1
  have hown := E.2.2.2.1
  have hts := E.2.2.2.2
  refine lv_aload_n hx hb (dq da_X6_a 0 rfl) rfl (lv_at hl 0 rfl) ?_
  refine gt_wC_18_registers E w w_247 (dq da_X6_a 1 rfl) ?_
  refine lv_iload_n hx hb (dq da_X6_a 2 rfl) rfl (lv_at hl 1 rfl) ?_
  refine lv_bipush (v := 15) hx hb (dq da_X6_a 3 rfl) rfl ?_
  refine lv_ishr hx hb (dq da_X6_a 4 rfl) ?_
  refine lv_bipush (v := 31) hx hb (dq da_X6_a 5 rfl) rfl ?_
  refine lv_iand hx hb (dq da_X6_a 6 rfl) ?_
  obtain ⟨hi1, h⟩ := oi h
  refine ald_wC_19 E w hi1 (dq da_X6_a 7 rfl) ?_
  exact xret_l E hr hlk w (by decide) (os h) rfl (dq da_X6_a 8 rfl)
def dl_X6_b : List (Nat × Instr × Nat) := [(0, .aload_n 0, 1), (1, .getfield 9, 3), (4, .iload_n 1, 1), (5, .bipush 20, 2), (7, .ishr, 1), (8, .bipush 31, 2), (10, .iand, 1), (11, .laload, 1), (12, .lreturn, 1)]
theorem da_X6_b : dkL cX6_b dl_X6_b = true := by decide +kernel
def f_X6_b (x1 : Int32) (u : St) : Option (Int64) := if inB ((x1 >>> ((20 : Int32) &&& 31)) &&& (31 : Int32)) (gN u 7) then (some (gB u 1 ((x1 >>> ((20 : Int32) &&& 31)) &&& (31 : Int32)).toNatClampNeg)) else none
set_option maxRecDepth 100000 in
set_option maxHeartbeats 4000000 in
theorem c_X6_b (l : Launch) (D : va_G) (cy : ClassId × ClassId × ClassId) (ad : Nat → Nat) (x1 : Int32) (u : St) {r : Int64} (h : f_X6_b x1 u = some r) : MX (wC cy ad) D cy l yX6_b cX6_b 2 (some .long) 0 0 0 [.ref (ad 18), .int x1] u u (some (.long (r))) := by
  refine entX (by decide +kernel) (Nat.le_of_ble_eq_true rfl) ?_
  intro p e s m args below meth c ls rr A E hr hlk hl w
  have hl : lv_has ls 2 [(0, .ref (ad 18)), (1, .int x1)] := hl
  skip
  have hx := E.1
  have hb := E.2.1
  have hown := E.2.2.2.1
  have hts := E.2.2.2.2
  refine lv_aload_n hx hb (dq da_X6_b 0 rfl) rfl (lv_at hl 0 rfl) ?_
  refine gt_wC_18_registers E w w_247 (dq da_X6_b 1 rfl) ?_
  refine lv_iload_n hx hb (dq da_X6_b 2 rfl) rfl (lv_at hl 1 rfl) ?_
  refine lv_bipush (v := 20) hx hb (dq da_X6_b 3 rfl) rfl ?_
  refine lv_ishr hx hb (dq da_X6_b 4 rfl) ?_
  refine lv_bipush (v := 31) hx hb (dq da_X6_b 5 rfl) rfl ?_
  refine lv_iand hx hb (dq da_X6_b 6 rfl) ?_
  obtain ⟨hi1, h⟩ := oi h
  refine ald_wC_19 E w hi1 (dq da_X6_b 7 rfl) ?_
  exact xret_l E hr hlk w (by decide) (os h) rfl (dq da_X6_b 8 rfl)
def dl_X6_putRd : List (Nat × Instr × Nat) := [(0, .iload_n 1, 1), (1, .bipush 7, 2), (3, .ishr, 1), (4, .bipush 31, 2), (6, .iand, 1), (7, .istore 4, 2), (9, .iload 4, 2), (11, .ifCond .eq 11, 3), (14, .aload_n 0, 1), (15, .getfield 9, 3), (18, .iload 4, 2), (20, .lload_n 2, 1), (21, .lastore, 1), (22, .return_, 1)]
theorem da_X6_putRd : dkL cX6_putRd dl_X6_putRd = true := by decide +kernel
def f_X6_putRd (x1 : Int32) (x2 : Int64) (u : St) : Option (St) := if ((x1 >>> ((7 : Int32) &&& 31)) &&& (31 : Int32)) = (0 : Int32) then (some u) else (if inB ((x1 >>> ((7 : Int32) &&& 31)) &&& (31 : Int32)) (gN u 7) then (some (sB u 1 ((x1 >>> ((7 : Int32) &&& 31)) &&& (31 : Int32)).toNatClampNeg x2)) else none)
set_option maxRecDepth 100000 in
set_option maxHeartbeats 4000000 in
theorem c_X6_putRd (l : Launch) (D : va_G) (cy : ClassId × ClassId × ClassId) (ad : Nat → Nat) (x1 : Int32) (x2 : Int64) (u : St) {u' : St} (h : f_X6_putRd x1 x2 u = some u') : MX (wC cy ad) D cy l yX6_putRd cX6_putRd 5 (none) 0 0 0 [.ref (ad 18), .int x1, .long x2] u u' none := by
  refine entX (by decide +kernel) (Nat.le_of_ble_eq_true rfl) ?_
  intro p e s m args below meth c ls rr A E hr hlk hl w
  have hl : lv_has ls 5 [(0, .ref (ad 18)), (1, .int x1), (2, .long x2)] := hl
  skip
  have hx := E.1
  have hb := E.2.1
  have hown := E.2.2.2.1
  have hts := E.2.2.2.2
  refine lv_iload_n hx hb (dq da_X6_putRd 0 rfl) rfl (lv_at hl 1 rfl) ?_
  refine lv_bipush (v := 7) hx hb (dq da_X6_putRd 1 rfl) rfl ?_
  refine lv_ishr hx hb (dq da_X6_putRd 2 rfl) ?_
  refine lv_bipush (v := 31) hx hb (dq da_X6_putRd 3 rfl) rfl ?_
  refine lv_iand hx hb (dq da_X6_putRd 4 rfl) ?_
  refine lv_istore (lv' := [(4, .int ((x1 >>> ((7 : Int32) &&& 31)) &&& (31 : Int32))), (0, .ref (ad 18)), (1, .int x1), (2, .long x2)]) hx hb (dq da_X6_putRd 5 rfl) hl (by decide) rfl (fun ls hl => ?_)
  refine lv_iload hx hb (dq da_X6_putRd 6 rfl) (lv_at hl 0 rfl) ?_
  refine lv_if_eq (tgt := 22) hx hb (dq da_X6_putRd 7 rfl) (by decide) (fun c1 => ?_) (fun c1 => ?_)
  · have h := it c1 h
    exact xret_v E hr hlk w (by decide) (os h) (dq da_X6_putRd 13 rfl)
  · have h := ie c1 h
    refine lv_aload_n hx hb (dq da_X6_putRd 8 rfl) rfl (lv_at hl 1 rfl) ?_
    refine gt_wC_18_registers E w w_247 (dq da_X6_putRd 9 rfl) ?_
    refine lv_iload hx hb (dq da_X6_putRd 10 rfl) (lv_at hl 0 rfl) ?_
    refine lv_lload_n hx hb (dq da_X6_putRd 11 rfl) rfl (lv_at hl 3 rfl) ?_
    obtain ⟨hi2, h⟩ := oi h
    refine ast_wC_19 E w hi2 (dq da_X6_putRd 12 rfl) (fun H locs w => ?_)
    exact xret_v E hr hlk w (by decide) (os h) (dq da_X6_putRd 13 rfl)
def dl_X6_jump : List (Nat × Instr × Nat) := [(0, .aload_n 0, 1), (1, .iload_n 1, 1), (2, .aload_n 0, 1), (3, .getfield 57, 3), (6, .invokevirtual 207, 3), (9, .aload_n 0, 1), (10, .lload_n 2, 1), (11, .putfield 57, 3), (14, .return_, 1)]
theorem da_X6_jump : dkL cX6_jump dl_X6_jump = true := by decide +kernel
def f_X6_jump (x1 : Int32) (x2 : Int64) (u : St) : Option (St) := (f_X6_putRd x1 (gL u 25) u).bind (fun y1 => some (sL y1 25 x2))
set_option maxRecDepth 100000 in
set_option maxHeartbeats 4000000 in
theorem c_X6_jump (l : Launch) (D : va_G) (cy : ClassId × ClassId × ClassId) (ad : Nat → Nat) (x1 : Int32) (x2 : Int64) (u : St) {u' : St} (h : f_X6_jump x1 x2 u = some u') : MX (wC cy ad) D cy l yX6_jump cX6_jump 4 (none) 1 24 0 [.ref (ad 18), .int x1, .long x2] u u' none := by
  refine entX (by decide +kernel) (Nat.le_of_ble_eq_true rfl) ?_
  intro p e s m args below meth c ls rr A E hr hlk hl w
  have hl : lv_has ls 4 [(0, .ref (ad 18)), (1, .int x1), (2, .long x2)] := hl
  skip
  have hx := E.1
  have hb := E.2.1
  have hown := E.2.2.2.1
  have hts := E.2.2.2.2
  refine lv_aload_n hx hb (dq da_X6_jump 0 rfl) rfl (lv_at hl 0 rfl) ?_
  refine lv_iload_n hx hb (dq da_X6_jump 1 rfl) rfl (lv_at hl 1 rfl) ?_
  refine lv_aload_n hx hb (dq da_X6_jump 2 rfl) rfl (lv_at hl 0 rfl) ?_
  refine gt_wC_18_next E w w_254 (dq da_X6_jump 3 rfl) ?_
  obtain ⟨y1, hy2, h⟩ := ob h
  refine cV0 E (c_X6_putRd l D cy ad _ _ _ hy2) w_820 w_822 w_p18 w_9 w_823 rfl hd_X6_putRd rfl hl.1 rfl (Nat.le_of_ble_eq_true rfl) (by decide) (by decide) w (rc_wC_18 w) (dq da_X6_jump 4 rfl) (fun H locs rr w => ?_)
  refine lv_aload_n hx hb (dq da_X6_jump 5 rfl) rfl (lv_at hl 0 rfl) ?_
  refine lv_lload_n hx hb (dq da_X6_jump 6 rfl) rfl (lv_at hl 2 rfl) ?_
  refine pt_wC_18_next E w w_254 (dq da_X6_jump 7 rfl) (fun H locs w => ?_)
  exact xret_v E hr hlk w (by decide) (os h) (dq da_X6_jump 8 rfl)
def dl_X6_jumpByRegister : List (Nat × Instr × Nat) := [(0, .iload_n 1, 1), (1, .invokestatic 246, 3), (4, .ifCond .ne 26, 3), (7, .aload_n 0, 1), (8, .iload_n 1, 1), (9, .aload_n 0, 1), (10, .iload_n 1, 1), (11, .invokevirtual 259, 3), (14, .iload_n 1, 1), (15, .bipush 20, 2), (17, .ishr, 1), (18, .i2l, 1), (19, .ladd, 1), (20, .ldc2_w 263, 3), (23, .land, 1), (24, .invokevirtual 213, 3), (27, .goto 7, 3), (30, .aload_n 0, 1), (31, .invokevirtual 255, 3), (34, .return_, 1)]
theorem da_X6_jumpByRegister : dkL cX6_jumpByRegister dl_X6_jumpByRegister = true := by decide +kernel
def f_X6_jumpByRegister (x1 : Int32) (u : St) : Option (St) := if (f_X6_f x1) = (0 : Int32) then ((f_X6_a x1 u).bind (fun y2 => (f_X6_jump x1 ((y2 + (x1 >>> ((20 : Int32) &&& 31)).toInt64) &&& (-2 : Int64)) u).bind (fun y4 => some y4))) else (some (f_X6_illegal u))
set_option maxRecDepth 100000 in
set_option maxHeartbeats 4000000 in
theorem c_X6_jumpByRegister (l : Launch) (D : va_G) (cy : ClassId × ClassId × ClassId) (ad : Nat → Nat) (x1 : Int32) (u : St) {u' : St} (h : f_X6_jumpByRegister x1 u = some u') : MX (wC cy ad) D cy l yX6_jumpByRegister cX6_jumpByRegister 2 (none) 2 47 0 [.ref (ad 18), .int x1] u u' none := by
  refine entX (by decide +kernel) (Nat.le_of_ble_eq_true rfl) ?_
  intro p e s m args below meth c ls rr A E hr hlk hl w
  have hl : lv_has ls 2 [(0, .ref (ad 18)), (1, .int x1)] := hl
  skip
  have hx := E.1
  have hb := E.2.1
  have hown := E.2.2.2.1
  have hts := E.2.2.2.2
  refine lv_iload_n hx hb (dq da_X6_jumpByRegister 0 rfl) rfl (lv_at hl 1 rfl) ?_
  refine callP E (c_X6_f l _ ) w_836 w_837 w_9 w_838 hd_X6_f rfl hl.1 rfl (Nat.le_of_ble_eq_true rfl) (by decide) (by decide) (dq da_X6_jumpByRegister 1 rfl) ?_
  refine lv_if_ne (tgt := 30) hx hb (dq da_X6_jumpByRegister 2 rfl) (by decide) (fun c1 => ?_) (fun c1 => ?_)
  · have h := ie c1 h
    refine lv_aload_n hx hb (dq da_X6_jumpByRegister 17 rfl) rfl (lv_at hl 0 rfl) ?_
    refine cV0 E (c_X6_illegal l D cy ad _ ) w_844 w_846 w_p22 w_9 w_847 rfl hd_X6_illegal rfl hl.1 rfl (Nat.le_of_ble_eq_true rfl) (by decide) (by decide) w (rc_wC_18 w) (dq da_X6_jumpByRegister 18 rfl) (fun H locs rr w => ?_)
    exact xret_v E hr hlk w (by decide) (os h) (dq da_X6_jumpByRegister 19 rfl)
  · have h := it c1 h
    refine lv_aload_n hx hb (dq da_X6_jumpByRegister 3 rfl) rfl (lv_at hl 0 rfl) ?_
    refine lv_iload_n hx hb (dq da_X6_jumpByRegister 4 rfl) rfl (lv_at hl 1 rfl) ?_
    refine lv_aload_n hx hb (dq da_X6_jumpByRegister 5 rfl) rfl (lv_at hl 0 rfl) ?_
    refine lv_iload_n hx hb (dq da_X6_jumpByRegister 6 rfl) rfl (lv_at hl 1 rfl) ?_
    obtain ⟨y2, hy3, h⟩ := ob h
    refine cV1 E (c_X6_a l D cy ad _ _ hy3) w_839 w_841 w_p21 w_9 w_842 rfl hd_X6_a rfl hl.1 rfl (Nat.le_of_ble_eq_true rfl) (by decide) (by decide) w (rc_wC_18 w) (dq da_X6_jumpByRegister 7 rfl) (fun H locs rr w => ?_)
    refine lv_iload_n hx hb (dq da_X6_jumpByRegister 8 rfl) rfl (lv_at hl 1 rfl) ?_
    refine lv_bipush (v := 20) hx hb (dq da_X6_jumpByRegister 9 rfl) rfl ?_
    refine lv_ishr hx hb (dq da_X6_jumpByRegister 10 rfl) ?_
    refine lv_i2l (v := (x1 >>> ((20 : Int32) &&& 31)).toInt64) hx hb (dq da_X6_jumpByRegister 11 rfl) rfl ?_
    refine lv_ladd hx hb (dq da_X6_jumpByRegister 12 rfl) ?_
    refine lv_ldc2 hx hb hown (hts _ w_843) (dq da_X6_jumpByRegister 13 rfl) ?_
    refine lv_land hx hb (dq da_X6_jumpByRegister 14 rfl) ?_
    obtain ⟨y4, hy5, h⟩ := ob h
    refine cV0 E (c_X6_jump l D cy ad _ _ _ hy5) w_828 w_830 w_p19 w_9 w_831 rfl hd_X6_jump rfl hl.1 rfl (Nat.le_of_ble_eq_true rfl) (by decide) (by decide) w (rc_wC_18 w) (dq da_X6_jumpByRegister 15 rfl) (fun H locs rr w => ?_)
    refine lv_goto (tgt := 34) hx hb (dq da_X6_jumpByRegister 16 rfl) (by decide) ?_
    exact xret_v E hr hlk w (by decide) (os h) (dq da_X6_jumpByRegister 19 rfl)
def dl_X6_branch : List (Nat × Instr × Nat) := [(0, .iload_n 1, 1), (1, .invokestatic 246, 3), (4, .istore_n 2, 1), (5, .iload_n 2, 1), (6, .iconst 2, 1), (7, .if_icmp .eq 8, 3), (10, .iload_n 2, 1), (11, .iconst 3, 1), (12, .if_icmp .ne 8, 3), (15, .aload_n 0, 1), (16, .invokevirtual 255, 3), (19, .return_, 1), (20, .aload_n 0, 1), (21, .iload_n 1, 1), (22, .invokevirtual 259, 3), (25, .lstore_n 3, 1), (26, .aload_n 0, 1), (27, .iload_n 1, 1), (28, .invokevirtual 265, 3), (31, .lstore 5, 2), (33, .iload_n 2, 1), (34, .iconst 2, 1), (35, .if_icmp .ge 18, 3), (38, .lload_n 3, 1), (39, .lload 5, 2), (41, .lcmp, 1), (42, .ifCond .ne 7, 3), (45, .iconst 1, 1), (46, .goto 34, 3), (49, .iconst 0, 1), (50, .goto 30, 3), (53, .iload_n 2, 1), (54, .bipush 6, 2), (56, .if_icmp .ge 18, 3), (59, .lload_n 3, 1), (60, .lload 5, 2), (62, .lcmp, 1), (63, .ifCond .ge 7, 3), (66, .iconst 1, 1), (67, .goto 13, 3), (70, .iconst 0, 1), (71, .goto 9, 3), (74, .lload_n 3, 1), (75, .lload 5, 2), (77, .invokestatic 268, 3), (80, .istore 7, 2), (82, .iload 7, 2), (84, .iload_n 2, 1), (85, .iconst 1, 1), (86, .iand, 1), (87, .ifCond .ne 7, 3), (90, .iconst 1, 1), (91, .goto 4, 3), (94, .iconst 0, 1), (95, .if_icmp .ne 17, 3), (98, .aload_n 0, 1), (99, .aload_n 0, 1), (100, .getfield 17, 3), (103, .iload_n 1, 1), (104, .invokestatic 274, 3), (107, .i2l, 1), (108, .ladd, 1), (109, .putfield 57, 3), (112, .return_, 1)]
theorem da_X6_branch : dkL cX6_branch dl_X6_branch = true := by decide +kernel
def f_X6_branch_b15 (u : St) : Option (St) := some (f_X6_illegal u)
set_option maxRecDepth 100000 in
set_option maxHeartbeats 4000000 in
theorem b_X6_branch_b15 {p : Program} {l : Launch} {e : Env} {s : State} {m : MethodId} {args : Array Value} {below : List Frame} {meth : Method} {c : Code} {D : va_G} {cy : ClassId × ClassId × ClassId} {ad : Nat → Nat} {A : Nat → Prop} (E : CallFix p m c cX6_branch 8 s args gw RX6) (hr : meth.sig.returnType = none) (hlk : meth.locks = false) {u : St} {u' : St} (h : f_X6_branch_b15 u = some u') {ls : Array Slot} {H : Heap} {locs : List Loc} {rr : Nat → Nat} (hl : lv_has ls 8 [(0, .ref (ad 18))]) (w : WX (wC cy ad) D cy rr u A s H locs) : Wx (wC cy ad) D p l e 2 43 0 s m args below meth c A u' none H locs 0 15 ls [] := by
  have hx := E.1
  have hb := E.2.1
  have hown := E.2.2.2.1
  have hts := E.2.2.2.2
  refine lv_aload_n hx hb (dq da_X6_branch 9 rfl) rfl (lv_at hl 0 rfl) ?_
  refine cV0 E (c_X6_illegal l D cy ad _ ) w_844 w_846 w_p22 w_9 w_847 rfl hd_X6_illegal rfl hl.1 rfl (Nat.le_of_ble_eq_true rfl) (by decide) (by decide) w (rc_wC_18 w) (dq da_X6_branch 10 rfl) (fun H locs rr w => ?_)
  exact xret_v E hr hlk w (by decide) (os h) (dq da_X6_branch 11 rfl)
def f_X6_branch_b95 (x1 : Int32) (s0 : Int32) (s1 : Int32) (u : St) : Option (St) := if s1 = s0 then (some (sL u 25 ((gL u 24) + (f_X6_branchOffset x1).toInt64))) else (some u)
set_option maxRecDepth 100000 in
set_option maxHeartbeats 4000000 in
theorem b_X6_branch_b95 {p : Program} {l : Launch} {e : Env} {s : State} {m : MethodId} {args : Array Value} {below : List Frame} {meth : Method} {c : Code} {D : va_G} {cy : ClassId × ClassId × ClassId} {ad : Nat → Nat} {A : Nat → Prop} (E : CallFix p m c cX6_branch 8 s args gw RX6) (hr : meth.sig.returnType = none) (hlk : meth.locks = false) {x1 : Int32} {s0 : Int32} {s1 : Int32} {u : St} {u' : St} (h : f_X6_branch_b95 x1 s0 s1 u = some u') {ls : Array Slot} {H : Heap} {locs : List Loc} {rr : Nat → Nat} (hl : lv_has ls 8 [(0, .ref (ad 18)), (1, .int x1)]) (w : WX (wC cy ad) D cy rr u A s H locs) : Wx (wC cy ad) D p l e 2 43 0 s m args below meth c A u' none H locs 0 95 ls [.int s0, .int s1] := by
  have hx := E.1
  have hb := E.2.1
  have hown := E.2.2.2.1
  have hts := E.2.2.2.2
  refine lv_icmp_ne (tgt := 112) hx hb (dq da_X6_branch 54 rfl) (by decide) (fun c10 => ?_) (fun c10 => ?_)
  · have h := ie c10 h
    exact xret_v E hr hlk w (by decide) (os h) (dq da_X6_branch 63 rfl)
  · have h := it c10 h
    refine lv_aload_n hx hb (dq da_X6_branch 55 rfl) rfl (lv_at hl 0 rfl) ?_
    refine lv_aload_n hx hb (dq da_X6_branch 56 rfl) rfl (lv_at hl 0 rfl) ?_
    refine gt_wC_18_pc E w w_249 (dq da_X6_branch 57 rfl) ?_
    refine lv_iload_n hx hb (dq da_X6_branch 58 rfl) rfl (lv_at hl 1 rfl) ?_
    refine callP E (c_X6_branchOffset l _ ) w_858 w_859 w_9 w_860 hd_X6_branchOffset rfl hl.1 rfl (Nat.le_of_ble_eq_true rfl) (by decide) (by decide) (dq da_X6_branch 59 rfl) ?_
    refine lv_i2l (v := (f_X6_branchOffset x1).toInt64) hx hb (dq da_X6_branch 60 rfl) rfl ?_
    refine lv_ladd hx hb (dq da_X6_branch 61 rfl) ?_
    refine pt_wC_18_next E w w_254 (dq da_X6_branch 62 rfl) (fun H locs w => ?_)
    exact xret_v E hr hlk w (by decide) (os h) (dq da_X6_branch 63 rfl)
def f_X6_branch_b80 (x1 : Int32) (x2 : Int32) (s0 : Int32) (u : St) : Option (St) := if (x2 &&& (1 : Int32)) = (0 : Int32) then (f_X6_branch_b95 x1 (1 : Int32) s0 u) else (f_X6_branch_b95 x1 (0 : Int32) s0 u)
set_option maxRecDepth 100000 in
set_option maxHeartbeats 4000000 in
theorem b_X6_branch_b80 {p : Program} {l : Launch} {e : Env} {s : State} {m : MethodId} {args : Array Value} {below : List Frame} {meth : Method} {c : Code} {D : va_G} {cy : ClassId × ClassId × ClassId} {ad : Nat → Nat} {A : Nat → Prop} (E : CallFix p m c cX6_branch 8 s args gw RX6) (hr : meth.sig.returnType = none) (hlk : meth.locks = false) {x1 : Int32} {x2 : Int32} {s0 : Int32} {u : St} {u' : St} (h : f_X6_branch_b80 x1 x2 s0 u = some u') {ls : Array Slot} {H : Heap} {locs : List Loc} {rr : Nat → Nat} (hl : lv_has ls 8 [(0, .ref (ad 18)), (1, .int x1), (2, .int x2)]) (w : WX (wC cy ad) D cy rr u A s H locs) : Wx (wC cy ad) D p l e 2 43 0 s m args below meth c A u' none H locs 0 80 ls [.int s0] := by
  have hx := E.1
  have hb := E.2.1
  have hown := E.2.2.2.1
  have hts := E.2.2.2.2
  refine lv_istore (lv' := [(7, .int s0), (0, .ref (ad 18)), (1, .int x1), (2, .int x2)]) hx hb (dq da_X6_branch 45 rfl) hl (by decide) rfl (fun ls hl => ?_)
  refine lv_iload hx hb (dq da_X6_branch 46 rfl) (lv_at hl 0 rfl) ?_
  refine lv_iload_n hx hb (dq da_X6_branch 47 rfl) rfl (lv_at hl 3 rfl) ?_
  refine lv_iconst (v := 1) hx hb (dq da_X6_branch 48 rfl) rfl ?_
  refine lv_iand hx hb (dq da_X6_branch 49 rfl) ?_
  refine lv_if_ne (tgt := 94) hx hb (dq da_X6_branch 50 rfl) (by decide) (fun c9 => ?_) (fun c9 => ?_)
  · have h := ie c9 h
    refine lv_iconst (v := 0) hx hb (dq da_X6_branch 53 rfl) rfl ?_
    exact b_X6_branch_b95 E hr hlk h (lv_sub hl [1, 2] rfl) w
  · have h := it c9 h
    refine lv_iconst (v := 1) hx hb (dq da_X6_branch 51 rfl) rfl ?_
    refine lv_goto (tgt := 95) hx hb (dq da_X6_branch 52 rfl) (by decide) ?_
    exact b_X6_branch_b95 E hr hlk h (lv_sub hl [1, 2] rfl) w
def f_X6_branch (x1 : Int32) (u : St) : Option (St) := if (f_X6_f x1) = (2 : Int32) then (f_X6_branch_b15 u) else (if (f_X6_f x1) = (3 : Int32) then (f_X6_branch_b15 u) else ((f_X6_a x1 u).bind (fun y3 => (f_X6_b x1 u).bind (fun y5 => if (2 : Int32) ≤ (f_X6_f x1) then (if (6 : Int32) ≤ (f_X6_f x1) then (f_X6_branch_b80 x1 (f_X6_f x1) (f_X0_below y3 y5) u) else (if y5 ≤ y3 then (f_X6_branch_b80 x1 (f_X6_f x1) (0 : Int32) u) else (f_X6_branch_b80 x1 (f_X6_f x1) (1 : Int32) u))) else (if y3 = y5 then (f_X6_branch_b80 x1 (f_X6_f x1) (1 : Int32) u) else (f_X6_branch_b80 x1 (f_X6_f x1) (0 : Int32) u))))))
set_option maxRecDepth 100000 in
set_option maxHeartbeats 4000000 in
theorem c_X6_branch (l : Launch) (D : va_G) (cy : ClassId × ClassId × ClassId) (ad : Nat → Nat) (x1 : Int32) (u : St) {u' : St} (h : f_X6_branch x1 u = some u') : MX (wC cy ad) D cy l yX6_branch cX6_branch 8 (none) 2 43 0 [.ref (ad 18), .int x1] u u' none := by
  refine entX (by decide +kernel) (Nat.le_of_ble_eq_true rfl) ?_
  intro p e s m args below meth c ls rr A E hr hlk hl w
  have hl : lv_has ls 8 [(0, .ref (ad 18)), (1, .int x1)] := hl
  skip
  have hx := E.1
  have hb := E.2.1
  have hown := E.2.2.2.1
  have hts := E.2.2.2.2
  refine lv_iload_n hx hb (dq da_X6_branch 0 rfl) rfl (lv_at hl 1 rfl) ?_
  refine callP E (c_X6_f l _ ) w_836 w_837 w_9 w_838 hd_X6_f rfl hl.1 rfl (Nat.le_of_ble_eq_true rfl) (by decide) (by decide) (dq da_X6_branch 1 rfl) ?_
  refine lv_istore_n (lv' := [(2, .int (f_X6_f x1)), (0, .ref (ad 18)), (1, .int x1)]) hx hb (dq da_X6_branch 2 rfl) rfl hl (by decide) rfl (fun ls hl => ?_)
  refine lv_iload_n hx hb (dq da_X6_branch 3 rfl) rfl (lv_at hl 0 rfl) ?_
  refine lv_iconst (v := 2) hx hb (dq da_X6_branch 4 rfl) rfl ?_
  refine lv_icmp_eq (tgt := 15) hx hb (dq da_X6_branch 5 rfl) (by decide) (fun c1 => ?_) (fun c1 => ?_)
  · have h := it c1 h
    exact b_X6_branch_b15 E hr hlk h (lv_sub hl [1] rfl) w
  · have h := ie c1 h
    refine lv_iload_n hx hb (dq da_X6_branch 6 rfl) rfl (lv_at hl 0 rfl) ?_
    refine lv_iconst (v := 3) hx hb (dq da_X6_branch 7 rfl) rfl ?_
    refine lv_icmp_ne (tgt := 20) hx hb (dq da_X6_branch 8 rfl) (by decide) (fun c2 => ?_) (fun c2 => ?_)
    · have h := ie c2 h
      refine lv_aload_n hx hb (dq da_X6_branch 12 rfl) rfl (lv_at hl 1 rfl) ?_
      refine lv_iload_n hx hb (dq da_X6_branch 13 rfl) rfl (lv_at hl 2 rfl) ?_
      obtain ⟨y3, hy4, h⟩ := ob h
      refine cV1 E (c_X6_a l D cy ad _ _ hy4) w_839 w_841 w_p21 w_9 w_842 rfl hd_X6_a rfl hl.1 rfl (Nat.le_of_ble_eq_true rfl) (by decide) (by decide) w (rc_wC_18 w) (dq da_X6_branch 14 rfl) (fun H locs rr w => ?_)
      refine lv_lstore_n (lv' := [(3, .long y3), (2, .int (f_X6_f x1)), (0, .ref (ad 18)), (1, .int x1)]) hx hb (dq da_X6_branch 15 rfl) rfl hl (by decide) rfl (fun ls hl => ?_)
      refine lv_aload_n hx hb (dq da_X6_branch 16 rfl) rfl (lv_at hl 2 rfl) ?_
      refine lv_iload_n hx hb (dq da_X6_branch 17 rfl) rfl (lv_at hl 3 rfl) ?_
      obtain ⟨y5, hy6, h⟩ := ob h
      refine cV1 E (c_X6_b l D cy ad _ _ hy6) w_853 w_855 w_p24 w_9 w_856 rfl hd_X6_b rfl hl.1 rfl (Nat.le_of_ble_eq_true rfl) (by decide) (by decide) w (rc_wC_18 w) (dq da_X6_branch 18 rfl) (fun H locs rr w => ?_)
      refine lv_lstore (lv' := [(5, .long y5), (3, .long y3), (2, .int (f_X6_f x1)), (0, .ref (ad 18)), (1, .int x1)]) hx hb (dq da_X6_branch 19 rfl) hl (by decide) rfl (fun ls hl => ?_)
      refine lv_iload_n hx hb (dq da_X6_branch 20 rfl) rfl (lv_at hl 2 rfl) ?_
      refine lv_iconst (v := 2) hx hb (dq da_X6_branch 21 rfl) rfl ?_
      refine lv_icmp_ge (tgt := 53) hx hb (dq da_X6_branch 22 rfl) (by decide) (fun c7 => ?_) (fun c7 => ?_)
      · have h := it c7 h
        refine lv_iload_n hx hb (dq da_X6_branch 31 rfl) rfl (lv_at hl 2 rfl) ?_
        refine lv_bipush (v := 6) hx hb (dq da_X6_branch 32 rfl) rfl ?_
        refine lv_icmp_ge (tgt := 74) hx hb (dq da_X6_branch 33 rfl) (by decide) (fun c8 => ?_) (fun c8 => ?_)
        · have h := it c8 h
          refine lv_lload_n hx hb (dq da_X6_branch 42 rfl) rfl (lv_at hl 1 rfl) ?_
          refine lv_lload hx hb (dq da_X6_branch 43 rfl) (lv_at hl 0 rfl) ?_
          refine callP E (c_X0_below l _ _ ) w_857 w_574 w_17 w_575 hd_X0_below rfl hl.1 rfl (Nat.le_of_ble_eq_true rfl) (by decide) (by decide) (dq da_X6_branch 44 rfl) ?_
          exact b_X6_branch_b80 E hr hlk h (lv_sub hl [3, 4, 2] rfl) w
        · have h := ie c8 h
          refine lv_lload_n hx hb (dq da_X6_branch 34 rfl) rfl (lv_at hl 1 rfl) ?_
          refine lv_lload hx hb (dq da_X6_branch 35 rfl) (lv_at hl 0 rfl) ?_
          refine lc_ge (tgt := 70) hx hb (dq da_X6_branch 36 rfl) (dq da_X6_branch 37 rfl) (by decide) (fun c11 => ?_) (fun c11 => ?_)
          · have h := it c11 h
            refine lv_iconst (v := 0) hx hb (dq da_X6_branch 40 rfl) rfl ?_
            refine lv_goto (tgt := 80) hx hb (dq da_X6_branch 41 rfl) (by decide) ?_
            exact b_X6_branch_b80 E hr hlk h (lv_sub hl [3, 4, 2] rfl) w
          · have h := ie c11 h
            refine lv_iconst (v := 1) hx hb (dq da_X6_branch 38 rfl) rfl ?_
            refine lv_goto (tgt := 80) hx hb (dq da_X6_branch 39 rfl) (by decide) ?_
            exact b_X6_branch_b80 E hr hlk h (lv_sub hl [3, 4, 2] rfl) w
      · have h := ie c7 h
        refine lv_lload_n hx hb (dq da_X6_branch 23 rfl) rfl (lv_at hl 1 rfl) ?_
        refine lv_lload hx hb (dq da_X6_branch 24 rfl) (lv_at hl 0 rfl) ?_
        refine lc_ne (tgt := 49) hx hb (dq da_X6_branch 25 rfl) (dq da_X6_branch 26 rfl) (by decide) (fun c12 => ?_) (fun c12 => ?_)
        · have h := ie c12 h
          refine lv_iconst (v := 0) hx hb (dq da_X6_branch 29 rfl) rfl ?_
          refine lv_goto (tgt := 80) hx hb (dq da_X6_branch 30 rfl) (by decide) ?_
          exact b_X6_branch_b80 E hr hlk h (lv_sub hl [3, 4, 2] rfl) w
        · have h := it c12 h
          refine lv_iconst (v := 1) hx hb (dq da_X6_branch 27 rfl) rfl ?_
          refine lv_goto (tgt := 80) hx hb (dq da_X6_branch 28 rfl) (by decide) ?_
          exact b_X6_branch_b80 E hr hlk h (lv_sub hl [3, 4, 2] rfl) w
    · have h := it c2 h
      exact b_X6_branch_b15 E hr hlk h (lv_sub hl [1] rfl) w
def dl_X6_computeWithConstant : List (Nat × Instr × Nat) := [(0, .iload_n 1, 1), (1, .invokestatic 246, 3), (4, .istore_n 2, 1), (5, .iload_n 1, 1), (6, .bipush 26, 2), (8, .iushr, 1), (9, .istore_n 3, 1), (10, .iload_n 2, 1), (11, .iconst 1, 1), (12, .if_icmp .eq 8, 3), (15, .iload_n 2, 1), (16, .iconst 5, 1), (17, .if_icmp .ne 7, 3), (20, .iconst 1, 1), (21, .goto 4, 3), (24, .iconst 0, 1), (25, .istore 4, 2), (27, .iload 4, 2), (29, .ifCond .eq 23, 3), (32, .iload_n 3, 1), (33, .ifCond .eq 19, 3), (36, .iload_n 2, 1), (37, .iconst 5, 1), (38, .if_icmp .ne 9, 3), (41, .iload_n 3, 1), (42, .bipush 16, 2), (44, .if_icmp .eq 8, 3), (47, .aload_n 0, 1), (48, .invokevirtual 255, 3), (51, .return_, 1), (52, .aload_n 0, 1), (53, .iload_n 1, 1), (54, .iload_n 2, 1), (55, .aload_n 0, 1), (56, .iload_n 1, 1), (57, .invokevirtual 259, 3), (60, .iload_n 1, 1), (61, .bipush 20, 2), (63, .ishr, 1), (64, .i2l, 1), (65, .iload 4, 2), (67, .ifCond .eq 13, 3), (70, .iload_n 3, 1), (71, .bipush 16, 2), (73, .if_icmp .ne 7, 3), (76, .iconst 1, 1), (77, .goto 4, 3), (80, .iconst 0, 1), (81, .invokestatic 291, 3), (84, .invokevirtual 207, 3), (87, .return_, 1)]
theorem da_X6_computeWithConstant : dkL cX6_computeWithConstant dl_X6_computeWithConstant = true := by decide +kernel
def f_X6_computeWithConstant_b81 (s0 : Int32) (s1 : Int64) (s2 : Int64) (s3 : Int32) (s4 : Int32) (u : St) : Option (St) := (f_X6_putRd s4 (f_X0_plain s3 s2 s1 s0) u).bind (fun y6 => some y6)
set_option maxRecDepth 100000 in
set_option maxHeartbeats 4000000 in
theorem b_X6_computeWithConstant_b81 {p : Program} {l : Launch} {e : Env} {s : State} {m : MethodId} {args : Array Value} {below : List Frame} {meth : Method} {c : Code} {D : va_G} {cy : ClassId × ClassId × ClassId} {ad : Nat → Nat} {A : Nat → Prop} (E : CallFix p m c cX6_computeWithConstant 5 s args gw RX6) (hr : meth.sig.returnType = none) (hlk : meth.locks = false) {s0 : Int32} {s1 : Int64} {s2 : Int64} {s3 : Int32} {s4 : Int32} {u : St} {u' : St} (h : f_X6_computeWithConstant_b81 s0 s1 s2 s3 s4 u = some u') {ls : Array Slot} {H : Heap} {locs : List Loc} {rr : Nat → Nat} (hl : lv_has ls 5 []) (w : WX (wC cy ad) D cy rr u A s H locs) : Wx (wC cy ad) D p l e 2 48 0 s m args below meth c A u' none H locs 0 81 ls [.int s0, .long s1, .long s2, .int s3, .int s4, .ref (ad 18)] := by
  have hx := E.1
  have hb := E.2.1
  have hown := E.2.2.2.1
  have hts := E.2.2.2.2
  refine callP E (c_X0_plain l _ _ _ _ ) w_945 w_946 w_17 w_947 hd_X0_plain rfl hl.1 rfl (Nat.le_of_ble_eq_true rfl) (by decide) (by decide) (dq da_X6_computeWithConstant 48 rfl) ?_
  obtain ⟨y6, hy7, h⟩ := ob h
  refine cV0 E (c_X6_putRd l D cy ad _ _ _ hy7) w_820 w_822 w_p18 w_9 w_823 rfl hd_X6_putRd rfl hl.1 rfl (Nat.le_of_ble_eq_true rfl) (by decide) (by decide) w (rc_wC_18 w) (dq da_X6_computeWithConstant 49 rfl) (fun H locs rr w => ?_)
  exact xret_v E hr hlk w (by decide) (os h) (dq da_X6_computeWithConstant 50 rfl)
def f_X6_computeWithConstant_b80 (s0 : Int64) (s1 : Int64) (s2 : Int32) (s3 : Int32) (u : St) : Option (St) := f_X6_computeWithConstant_b81 (0 : Int32) s0 s1 s2 s3 u
set_option maxRecDepth 100000 in
set_option maxHeartbeats 4000000 in
theorem b_X6_computeWithConstant_b80 {p : Program} {l : Launch} {e : Env} {s : State} {m : MethodId} {args : Array Value} {below : List Frame} {meth : Method} {c : Code} {D : va_G} {cy : ClassId × ClassId × ClassId} {ad : Nat → Nat} {A : Nat → Prop} (E : CallFix p m c cX6_computeWithConstant 5 s args gw RX6) (hr : meth.sig.returnType = none) (hlk : meth.locks = false) {s0 : Int64} {s1 : Int64} {s2 : Int32} {s3 : Int32} {u : St} {u' : St} (h : f_X6_computeWithConstant_b80 s0 s1 s2 s3 u = some u') {ls : Array Slot} {H : Heap} {locs : List Loc} {rr : Nat → Nat} (hl : lv_has ls 5 []) (w : WX (wC cy ad) D cy rr u A s H locs) : Wx (wC cy ad) D p l e 2 48 0 s m args below meth c A u' none H locs 0 80 ls [.long s0, .long s1, .int s2, .int s3, .ref (ad 18)] := by
  have hx := E.1
  have hb := E.2.1
  have hown := E.2.2.2.1
  have hts := E.2.2.2.2
  refine lv_iconst (v := 0) hx hb (dq da_X6_computeWithConstant 47 rfl) rfl ?_
  exact b_X6_computeWithConstant_b81 E hr hlk h (lv_sub hl [] rfl) w
def f_X6_computeWithConstant_b52 (x1 : Int32) (x2 : Int32) (x3 : Int32) (x4 : Int32) (u : St) : Option (St) := (f_X6_a x1 u).bind (fun y3 => if x4 = (0 : Int32) then (f_X6_computeWithConstant_b80 ((x1 >>> ((20 : Int32) &&& 31)).toInt64) y3 x2 x1 u) else (if x3 = (16 : Int32) then (f_X6_computeWithConstant_b81 (1 : Int32) ((x1 >>> ((20 : Int32) &&& 31)).toInt64) y3 x2 x1 u) else (f_X6_computeWithConstant_b80 ((x1 >>> ((20 : Int32) &&& 31)).toInt64) y3 x2 x1 u)))
set_option maxRecDepth 100000 in
set_option maxHeartbeats 4000000 in
theorem b_X6_computeWithConstant_b52 {p : Program} {l : Launch} {e : Env} {s : State} {m : MethodId} {args : Array Value} {below : List Frame} {meth : Method} {c : Code} {D : va_G} {cy : ClassId × ClassId × ClassId} {ad : Nat → Nat} {A : Nat → Prop} (E : CallFix p m c cX6_computeWithConstant 5 s args gw RX6) (hr : meth.sig.returnType = none) (hlk : meth.locks = false) {x1 : Int32} {x2 : Int32} {x3 : Int32} {x4 : Int32} {u : St} {u' : St} (h : f_X6_computeWithConstant_b52 x1 x2 x3 x4 u = some u') {ls : Array Slot} {H : Heap} {locs : List Loc} {rr : Nat → Nat} (hl : lv_has ls 5 [(0, .ref (ad 18)), (1, .int x1), (2, .int x2), (3, .int x3), (4, .int x4)]) (w : WX (wC cy ad) D cy rr u A s H locs) : Wx (wC cy ad) D p l e 2 48 0 s m args below meth c A u' none H locs 0 52 ls [] := by
  have hx := E.1
  have hb := E.2.1
  have hown := E.2.2.2.1
  have hts := E.2.2.2.2
  refine lv_aload_n hx hb (dq da_X6_computeWithConstant 30 rfl) rfl (lv_at hl 0 rfl) ?_
  refine lv_iload_n hx hb (dq da_X6_computeWithConstant 31 rfl) rfl (lv_at hl 1 rfl) ?_
  refine lv_iload_n hx hb (dq da_X6_computeWithConstant 32 rfl) rfl (lv_at hl 2 rfl) ?_
  refine lv_aload_n hx hb (dq da_X6_computeWithConstant 33 rfl) rfl (lv_at hl 0 rfl) ?_
  refine lv_iload_n hx hb (dq da_X6_computeWithConstant 34 rfl) rfl (lv_at hl 1 rfl) ?_
  obtain ⟨y3, hy4, h⟩ := ob h
  refine cV1 E (c_X6_a l D cy ad _ _ hy4) w_839 w_841 w_p21 w_9 w_842 rfl hd_X6_a rfl hl.1 rfl (Nat.le_of_ble_eq_true rfl) (by decide) (by decide) w (rc_wC_18 w) (dq da_X6_computeWithConstant 35 rfl) (fun H locs rr w => ?_)
  refine lv_iload_n hx hb (dq da_X6_computeWithConstant 36 rfl) rfl (lv_at hl 1 rfl) ?_
  refine lv_bipush (v := 20) hx hb (dq da_X6_computeWithConstant 37 rfl) rfl ?_
  refine lv_ishr hx hb (dq da_X6_computeWithConstant 38 rfl) ?_
  refine lv_i2l (v := (x1 >>> ((20 : Int32) &&& 31)).toInt64) hx hb (dq da_X6_computeWithConstant 39 rfl) rfl ?_
  refine lv_iload hx hb (dq da_X6_computeWithConstant 40 rfl) (lv_at hl 4 rfl) ?_
  refine lv_if_eq (tgt := 80) hx hb (dq da_X6_computeWithConstant 41 rfl) (by decide) (fun c5 => ?_) (fun c5 => ?_)
  · have h := it c5 h
    exact b_X6_computeWithConstant_b80 E hr hlk h (lv_sub hl [] rfl) w
  · have h := ie c5 h
    refine lv_iload_n hx hb (dq da_X6_computeWithConstant 42 rfl) rfl (lv_at hl 3 rfl) ?_
    refine lv_bipush (v := 16) hx hb (dq da_X6_computeWithConstant 43 rfl) rfl ?_
    refine lv_icmp_ne (tgt := 80) hx hb (dq da_X6_computeWithConstant 44 rfl) (by decide) (fun c8 => ?_) (fun c8 => ?_)
    · have h := ie c8 h
      exact b_X6_computeWithConstant_b80 E hr hlk h (lv_sub hl [] rfl) w
    · have h := it c8 h
      refine lv_iconst (v := 1) hx hb (dq da_X6_computeWithConstant 45 rfl) rfl ?_
      refine lv_goto (tgt := 81) hx hb (dq da_X6_computeWithConstant 46 rfl) (by decide) ?_
      exact b_X6_computeWithConstant_b81 E hr hlk h (lv_sub hl [] rfl) w
def f_X6_computeWithConstant_b47 (u : St) : Option (St) := some (f_X6_illegal u)
set_option maxRecDepth 100000 in
set_option maxHeartbeats 4000000 in
theorem b_X6_computeWithConstant_b47 {p : Program} {l : Launch} {e : Env} {s : State} {m : MethodId} {args : Array Value} {below : List Frame} {meth : Method} {c : Code} {D : va_G} {cy : ClassId × ClassId × ClassId} {ad : Nat → Nat} {A : Nat → Prop} (E : CallFix p m c cX6_computeWithConstant 5 s args gw RX6) (hr : meth.sig.returnType = none) (hlk : meth.locks = false) {u : St} {u' : St} (h : f_X6_computeWithConstant_b47 u = some u') {ls : Array Slot} {H : Heap} {locs : List Loc} {rr : Nat → Nat} (hl : lv_has ls 5 [(0, .ref (ad 18))]) (w : WX (wC cy ad) D cy rr u A s H locs) : Wx (wC cy ad) D p l e 2 48 0 s m args below meth c A u' none H locs 0 47 ls [] := by
  have hx := E.1
  have hb := E.2.1
  have hown := E.2.2.2.1
  have hts := E.2.2.2.2
  refine lv_aload_n hx hb (dq da_X6_computeWithConstant 27 rfl) rfl (lv_at hl 0 rfl) ?_
  refine cV0 E (c_X6_illegal l D cy ad _ ) w_844 w_846 w_p22 w_9 w_847 rfl hd_X6_illegal rfl hl.1 rfl (Nat.le_of_ble_eq_true rfl) (by decide) (by decide) w (rc_wC_18 w) (dq da_X6_computeWithConstant 28 rfl) (fun H locs rr w => ?_)
  exact xret_v E hr hlk w (by decide) (os h) (dq da_X6_computeWithConstant 29 rfl)
def f_X6_computeWithConstant_b25 (x1 : Int32) (x2 : Int32) (x3 : Int32) (s0 : Int32) (u : St) : Option (St) := if s0 = (0 : Int32) then (f_X6_computeWithConstant_b52 x1 x2 x3 s0 u) else (if x3 = (0 : Int32) then (f_X6_computeWithConstant_b52 x1 x2 x3 s0 u) else (if x2 = (5 : Int32) then (if x3 = (16 : Int32) then (f_X6_computeWithConstant_b52 x1 x2 x3 s0 u) else (f_X6_computeWithConstant_b47 u)) else (f_X6_computeWithConstant_b47 u)))
set_option maxRecDepth 100000 in
set_option maxHeartbeats 4000000 in
theorem b_X6_computeWithConstant_b25 {p : Program} {l : Launch} {e : Env} {s : State} {m : MethodId} {args : Array Value} {below : List Frame} {meth : Method} {c : Code} {D : va_G} {cy : ClassId × ClassId × ClassId} {ad : Nat → Nat} {A : Nat → Prop} (E : CallFix p m c cX6_computeWithConstant 5 s args gw RX6) (hr : meth.sig.returnType = none) (hlk : meth.locks = false) {x1 : Int32} {x2 : Int32} {x3 : Int32} {s0 : Int32} {u : St} {u' : St} (h : f_X6_computeWithConstant_b25 x1 x2 x3 s0 u = some u') {ls : Array Slot} {H : Heap} {locs : List Loc} {rr : Nat → Nat} (hl : lv_has ls 5 [(0, .ref (ad 18)), (1, .int x1), (2, .int x2), (3, .int x3)]) (w : WX (wC cy ad) D cy rr u A s H locs) : Wx (wC cy ad) D p l e 2 48 0 s m args below meth c A u' none H locs 0 25 ls [.int s0] := by
  have hx := E.1
  have hb := E.2.1
  have hown := E.2.2.2.1
  have hts := E.2.2.2.2
  refine lv_istore (lv' := [(4, .int s0), (0, .ref (ad 18)), (1, .int x1), (2, .int x2), (3, .int x3)]) hx hb (dq da_X6_computeWithConstant 16 rfl) hl (by decide) rfl (fun ls hl => ?_)
  refine lv_iload hx hb (dq da_X6_computeWithConstant 17 rfl) (lv_at hl 0 rfl) ?_
  refine lv_if_eq (tgt := 52) hx hb (dq da_X6_computeWithConstant 18 rfl) (by decide) (fun c2 => ?_) (fun c2 => ?_)
  · have h := it c2 h
    exact b_X6_computeWithConstant_b52 E hr hlk h (lv_sub hl [1, 2, 3, 4, 0] rfl) w
  · have h := ie c2 h
    refine lv_iload_n hx hb (dq da_X6_computeWithConstant 19 rfl) rfl (lv_at hl 4 rfl) ?_
    refine lv_if_eq (tgt := 52) hx hb (dq da_X6_computeWithConstant 20 rfl) (by decide) (fun c9 => ?_) (fun c9 => ?_)
    · have h := it c9 h
      exact b_X6_computeWithConstant_b52 E hr hlk h (lv_sub hl [1, 2, 3, 4, 0] rfl) w
    · have h := ie c9 h
      refine lv_iload_n hx hb (dq da_X6_computeWithConstant 21 rfl) rfl (lv_at hl 3 rfl) ?_
      refine lv_iconst (v := 5) hx hb (dq da_X6_computeWithConstant 22 rfl) rfl ?_
      refine lv_icmp_ne (tgt := 47) hx hb (dq da_X6_computeWithConstant 23 rfl) (by decide) (fun c10 => ?_) (fun c10 => ?_)
      · have h := ie c10 h
        exact b_X6_computeWithConstant_b47 E hr hlk h (lv_sub hl [1] rfl) w
      · have h := it c10 h
        refine lv_iload_n hx hb (dq da_X6_computeWithConstant 24 rfl) rfl (lv_at hl 4 rfl) ?_
        refine lv_bipush (v := 16) hx hb (dq da_X6_computeWithConstant 25 rfl) rfl ?_
        refine lv_icmp_eq (tgt := 52) hx hb (dq da_X6_computeWithConstant 26 rfl) (by decide) (fun c11 => ?_) (fun c11 => ?_)
        · have h := it c11 h
          exact b_X6_computeWithConstant_b52 E hr hlk h (lv_sub hl [1, 2, 3, 4, 0] rfl) w
        · have h := ie c11 h
          exact b_X6_computeWithConstant_b47 E hr hlk h (lv_sub hl [1] rfl) w
def f_X6_computeWithConstant_b20 (x1 : Int32) (x2 : Int32) (x3 : Int32) (u : St) : Option (St) := f_X6_computeWithConstant_b25 x1 x2 x3 (1 : Int32) u
set_option maxRecDepth 100000 in
set_option maxHeartbeats 4000000 in
theorem b_X6_computeWithConstant_b20 {p : Program} {l : Launch} {e : Env} {s : State} {m : MethodId} {args : Array Value} {below : List Frame} {meth : Method} {c : Code} {D : va_G} {cy : ClassId × ClassId × ClassId} {ad : Nat → Nat} {A : Nat → Prop} (E : CallFix p m c cX6_computeWithConstant 5 s args gw RX6) (hr : meth.sig.returnType = none) (hlk : meth.locks = false) {x1 : Int32} {x2 : Int32} {x3 : Int32} {u : St} {u' : St} (h : f_X6_computeWithConstant_b20 x1 x2 x3 u = some u') {ls : Array Slot} {H : Heap} {locs : List Loc} {rr : Nat → Nat} (hl : lv_has ls 5 [(0, .ref (ad 18)), (1, .int x1), (2, .int x2), (3, .int x3)]) (w : WX (wC cy ad) D cy rr u A s H locs) : Wx (wC cy ad) D p l e 2 48 0 s m args below meth c A u' none H locs 0 20 ls [] := by
  have hx := E.1
  have hb := E.2.1
  have hown := E.2.2.2.1
  have hts := E.2.2.2.2
  refine lv_iconst (v := 1) hx hb (dq da_X6_computeWithConstant 13 rfl) rfl ?_
  refine lv_goto (tgt := 25) hx hb (dq da_X6_computeWithConstant 14 rfl) (by decide) ?_
  exact b_X6_computeWithConstant_b25 E hr hlk h (lv_sub hl [0, 1, 2, 3] rfl) w
def f_X6_computeWithConstant (x1 : Int32) (u : St) : Option (St) := if (f_X6_f x1) = (1 : Int32) then (f_X6_computeWithConstant_b20 x1 (f_X6_f x1) (j_iushr x1 (26 : Int32)) u) else (if (f_X6_f x1) = (5 : Int32) then (f_X6_computeWithConstant_b20 x1 (f_X6_f x1) (j_iushr x1 (26 : Int32)) u) else (f_X6_computeWithConstant_b25 x1 (f_X6_f x1) (j_iushr x1 (26 : Int32)) (0 : Int32) u))
set_option maxRecDepth 100000 in
set_option maxHeartbeats 4000000 in
theorem c_X6_computeWithConstant (l : Launch) (D : va_G) (cy : ClassId × ClassId × ClassId) (ad : Nat → Nat) (x1 : Int32) (u : St) {u' : St} (h : f_X6_computeWithConstant x1 u = some u') : MX (wC cy ad) D cy l yX6_computeWithConstant cX6_computeWithConstant 5 (none) 2 48 0 [.ref (ad 18), .int x1] u u' none := by
  refine entX (by decide +kernel) (Nat.le_of_ble_eq_true rfl) ?_
  intro p e s m args below meth c ls rr A E hr hlk hl w
  have hl : lv_has ls 5 [(0, .ref (ad 18)), (1, .int x1)] := hl
  skip
  have hx := E.1
  have hb := E.2.1
  have hown := E.2.2.2.1
  have hts := E.2.2.2.2
  refine lv_iload_n hx hb (dq da_X6_computeWithConstant 0 rfl) rfl (lv_at hl 1 rfl) ?_
  refine callP E (c_X6_f l _ ) w_836 w_837 w_9 w_838 hd_X6_f rfl hl.1 rfl (Nat.le_of_ble_eq_true rfl) (by decide) (by decide) (dq da_X6_computeWithConstant 1 rfl) ?_
  refine lv_istore_n (lv' := [(2, .int (f_X6_f x1)), (0, .ref (ad 18)), (1, .int x1)]) hx hb (dq da_X6_computeWithConstant 2 rfl) rfl hl (by decide) rfl (fun ls hl => ?_)
  refine lv_iload_n hx hb (dq da_X6_computeWithConstant 3 rfl) rfl (lv_at hl 2 rfl) ?_
  refine lv_bipush (v := 26) hx hb (dq da_X6_computeWithConstant 4 rfl) rfl ?_
  refine lv_iushr (v := (j_iushr x1 (26 : Int32))) hx hb (dq da_X6_computeWithConstant 5 rfl) rfl ?_
  refine lv_istore_n (lv' := [(3, .int (j_iushr x1 (26 : Int32))), (2, .int (f_X6_f x1)), (0, .ref (ad 18)), (1, .int x1)]) hx hb (dq da_X6_computeWithConstant 6 rfl) rfl hl (by decide) rfl (fun ls hl => ?_)
  refine lv_iload_n hx hb (dq da_X6_computeWithConstant 7 rfl) rfl (lv_at hl 1 rfl) ?_
  refine lv_iconst (v := 1) hx hb (dq da_X6_computeWithConstant 8 rfl) rfl ?_
  refine lv_icmp_eq (tgt := 20) hx hb (dq da_X6_computeWithConstant 9 rfl) (by decide) (fun c1 => ?_) (fun c1 => ?_)
  · have h := it c1 h
    exact b_X6_computeWithConstant_b20 E hr hlk h (lv_sub hl [2, 3, 1, 0] rfl) w
  · have h := ie c1 h
    refine lv_iload_n hx hb (dq da_X6_computeWithConstant 10 rfl) rfl (lv_at hl 1 rfl) ?_
    refine lv_iconst (v := 5) hx hb (dq da_X6_computeWithConstant 11 rfl) rfl ?_
    refine lv_icmp_ne (tgt := 24) hx hb (dq da_X6_computeWithConstant 12 rfl) (by decide) (fun c12 => ?_) (fun c12 => ?_)
    · have h := ie c12 h
      refine lv_iconst (v := 0) hx hb (dq da_X6_computeWithConstant 15 rfl) rfl ?_
      exact b_X6_computeWithConstant_b25 E hr hlk h (lv_sub hl [2, 3, 1, 0] rfl) w
    · have h := it c12 h
      exact b_X6_computeWithConstant_b20 E hr hlk h (lv_sub hl [2, 3, 1, 0] rfl) w
def dl_X6_computeNarrowWithConstant : List (Nat × Instr × Nat) := [(0, .iload_n 1, 1), (1, .invokestatic 246, 3), (4, .istore_n 2, 1), (5, .iload_n 1, 1), (6, .bipush 25, 2), (8, .iushr, 1), (9, .istore_n 3, 1), (10, .iload_n 2, 1), (11, .ifCond .eq 27, 3), (14, .iload_n 2, 1), (15, .iconst 1, 1), (16, .if_icmp .ne 7, 3), (19, .iload_n 3, 1), (20, .ifCond .eq 18, 3), (23, .iload_n 2, 1), (24, .iconst 5, 1), (25, .if_icmp .ne 17, 3), (28, .iload_n 3, 1), (29, .ifCond .eq 9, 3), (32, .iload_n 3, 1), (33, .bipush 32, 2), (35, .if_icmp .ne 7, 3), (38, .iconst 1, 1), (39, .goto 4, 3), (42, .iconst 0, 1), (43, .istore 4, 2), (45, .iload 4, 2), (47, .ifCond .ne 8, 3), (50, .aload_n 0, 1), (51, .invokevirtual 255, 3), (54, .return_, 1), (55, .aload_n 0, 1), (56, .iload_n 1, 1), (57, .iload_n 2, 1), (58, .aload_n 0, 1), (59, .iload_n 1, 1), (60, .invokevirtual 259, 3), (63, .l2i, 1), (64, .iload_n 1, 1), (65, .bipush 20, 2), (67, .ishr, 1), (68, .iload_n 2, 1), (69, .iconst 5, 1), (70, .if_icmp .ne 13, 3), (73, .iload_n 3, 1), (74, .bipush 32, 2), (76, .if_icmp .ne 7, 3), (79, .iconst 1, 1), (80, .goto 4, 3), (83, .iconst 0, 1), (84, .invokestatic 295, 3), (87, .invokevirtual 207, 3), (90, .return_, 1)]
theorem da_X6_computeNarrowWithConstant : dkL cX6_computeNarrowWithConstant dl_X6_computeNarrowWithConstant = true := by decide +kernel
def f_X6_computeNarrowWithConstant_b84 (s0 : Int32) (s1 : Int32) (s2 : Int32) (s3 : Int32) (s4 : Int32) (u : St) : Option (St) := (f_X6_putRd s4 (f_X0_narrow s3 s2 s1 s0) u).bind (fun y6 => some y6)
set_option maxRecDepth 100000 in
set_option maxHeartbeats 4000000 in
theorem b_X6_computeNarrowWithConstant_b84 {p : Program} {l : Launch} {e : Env} {s : State} {m : MethodId} {args : Array Value} {below : List Frame} {meth : Method} {c : Code} {D : va_G} {cy : ClassId × ClassId × ClassId} {ad : Nat → Nat} {A : Nat → Prop} (E : CallFix p m c cX6_computeNarrowWithConstant 5 s args gw RX6) (hr : meth.sig.returnType = none) (hlk : meth.locks = false) {s0 : Int32} {s1 : Int32} {s2 : Int32} {s3 : Int32} {s4 : Int32} {u : St} {u' : St} (h : f_X6_computeNarrowWithConstant_b84 s0 s1 s2 s3 s4 u = some u') {ls : Array Slot} {H : Heap} {locs : List Loc} {rr : Nat → Nat} (hl : lv_has ls 5 []) (w : WX (wC cy ad) D cy rr u A s H locs) : Wx (wC cy ad) D p l e 2 43 0 s m args below meth c A u' none H locs 0 84 ls [.int s0, .int s1, .int s2, .int s3, .int s4, .ref (ad 18)] := by
  have hx := E.1
  have hb := E.2.1
  have hown := E.2.2.2.1
  have hts := E.2.2.2.2
  refine callP E (c_X0_narrow l _ _ _ _ ) w_954 w_955 w_17 w_956 hd_X0_narrow rfl hl.1 rfl (Nat.le_of_ble_eq_true rfl) (by decide) (by decide) (dq da_X6_computeNarrowWithConstant 50 rfl) ?_
  obtain ⟨y6, hy7, h⟩ := ob h
  refine cV0 E (c_X6_putRd l D cy ad _ _ _ hy7) w_820 w_822 w_p18 w_9 w_823 rfl hd_X6_putRd rfl hl.1 rfl (Nat.le_of_ble_eq_true rfl) (by decide) (by decide) w (rc_wC_18 w) (dq da_X6_computeNarrowWithConstant 51 rfl) (fun H locs rr w => ?_)
  exact xret_v E hr hlk w (by decide) (os h) (dq da_X6_computeNarrowWithConstant 52 rfl)
def f_X6_computeNarrowWithConstant_b83 (s0 : Int32) (s1 : Int32) (s2 : Int32) (s3 : Int32) (u : St) : Option (St) := f_X6_computeNarrowWithConstant_b84 (0 : Int32) s0 s1 s2 s3 u
set_option maxRecDepth 100000 in
set_option maxHeartbeats 4000000 in
theorem b_X6_computeNarrowWithConstant_b83 {p : Program} {l : Launch} {e : Env} {s : State} {m : MethodId} {args : Array Value} {below : List Frame} {meth : Method} {c : Code} {D : va_G} {cy : ClassId × ClassId × ClassId} {ad : Nat → Nat} {A : Nat → Prop} (E : CallFix p m c cX6_computeNarrowWithConstant 5 s args gw RX6) (hr : meth.sig.returnType = none) (hlk : meth.locks = false) {s0 : Int32} {s1 : Int32} {s2 : Int32} {s3 : Int32} {u : St} {u' : St} (h : f_X6_computeNarrowWithConstant_b83 s0 s1 s2 s3 u = some u') {ls : Array Slot} {H : Heap} {locs : List Loc} {rr : Nat → Nat} (hl : lv_has ls 5 []) (w : WX (wC cy ad) D cy rr u A s H locs) : Wx (wC cy ad) D p l e 2 43 0 s m args below meth c A u' none H locs 0 83 ls [.int s0, .int s1, .int s2, .int s3, .ref (ad 18)] := by
  have hx := E.1
  have hb := E.2.1
  have hown := E.2.2.2.1
  have hts := E.2.2.2.2
  refine lv_iconst (v := 0) hx hb (dq da_X6_computeNarrowWithConstant 49 rfl) rfl ?_
  exact b_X6_computeNarrowWithConstant_b84 E hr hlk h (lv_sub hl [] rfl) w
def f_X6_computeNarrowWithConstant_b43 (x1 : Int32) (x2 : Int32) (x3 : Int32) (s0 : Int32) (u : St) : Option (St) := if s0 = (0 : Int32) then (some (f_X6_illegal u)) else ((f_X6_a x1 u).bind (fun y3 => if x2 = (5 : Int32) then (if x3 = (32 : Int32) then (f_X6_computeNarrowWithConstant_b84 (1 : Int32) (x1 >>> ((20 : Int32) &&& 31)) y3.toInt32 x2 x1 u) else (f_X6_computeNarrowWithConstant_b83 (x1 >>> ((20 : Int32) &&& 31)) y3.toInt32 x2 x1 u)) else (f_X6_computeNarrowWithConstant_b83 (x1 >>> ((20 : Int32) &&& 31)) y3.toInt32 x2 x1 u)))
set_option maxRecDepth 100000 in
set_option maxHeartbeats 4000000 in
theorem b_X6_computeNarrowWithConstant_b43 {p : Program} {l : Launch} {e : Env} {s : State} {m : MethodId} {args : Array Value} {below : List Frame} {meth : Method} {c : Code} {D : va_G} {cy : ClassId × ClassId × ClassId} {ad : Nat → Nat} {A : Nat → Prop} (E : CallFix p m c cX6_computeNarrowWithConstant 5 s args gw RX6) (hr : meth.sig.returnType = none) (hlk : meth.locks = false) {x1 : Int32} {x2 : Int32} {x3 : Int32} {s0 : Int32} {u : St} {u' : St} (h : f_X6_computeNarrowWithConstant_b43 x1 x2 x3 s0 u = some u') {ls : Array Slot} {H : Heap} {locs : List Loc} {rr : Nat → Nat} (hl : lv_has ls 5 [(0, .ref (ad 18)), (1, .int x1), (2, .int x2), (3, .int x3)]) (w : WX (wC cy ad) D cy rr u A s H locs) : Wx (wC cy ad) D p l e 2 43 0 s m args below meth c A u' none H locs 0 43 ls [.int s0] := by
  have hx := E.1
  have hb := E.2.1
  have hown := E.2.2.2.1
  have hts := E.2.2.2.2
  refine lv_istore (lv' := [(4, .int s0), (0, .ref (ad 18)), (1, .int x1), (2, .int x2), (3, .int x3)]) hx hb (dq da_X6_computeNarrowWithConstant 25 rfl) hl (by decide) rfl (fun ls hl => ?_)
  refine lv_iload hx hb (dq da_X6_computeNarrowWithConstant 26 rfl) (lv_at hl 0 rfl) ?_
  refine lv_if_ne (tgt := 55) hx hb (dq da_X6_computeNarrowWithConstant 27 rfl) (by decide) (fun c2 => ?_) (fun c2 => ?_)
  · have h := ie c2 h
    refine lv_aload_n hx hb (dq da_X6_computeNarrowWithConstant 31 rfl) rfl (lv_at hl 1 rfl) ?_
    refine lv_iload_n hx hb (dq da_X6_computeNarrowWithConstant 32 rfl) rfl (lv_at hl 2 rfl) ?_
    refine lv_iload_n hx hb (dq da_X6_computeNarrowWithConstant 33 rfl) rfl (lv_at hl 3 rfl) ?_
    refine lv_aload_n hx hb (dq da_X6_computeNarrowWithConstant 34 rfl) rfl (lv_at hl 1 rfl) ?_
    refine lv_iload_n hx hb (dq da_X6_computeNarrowWithConstant 35 rfl) rfl (lv_at hl 2 rfl) ?_
    obtain ⟨y3, hy4, h⟩ := ob h
    refine cV1 E (c_X6_a l D cy ad _ _ hy4) w_839 w_841 w_p21 w_9 w_842 rfl hd_X6_a rfl hl.1 rfl (Nat.le_of_ble_eq_true rfl) (by decide) (by decide) w (rc_wC_18 w) (dq da_X6_computeNarrowWithConstant 36 rfl) (fun H locs rr w => ?_)
    refine lv_l2i (v := y3.toInt32) hx hb (dq da_X6_computeNarrowWithConstant 37 rfl) rfl ?_
    refine lv_iload_n hx hb (dq da_X6_computeNarrowWithConstant 38 rfl) rfl (lv_at hl 2 rfl) ?_
    refine lv_bipush (v := 20) hx hb (dq da_X6_computeNarrowWithConstant 39 rfl) rfl ?_
    refine lv_ishr hx hb (dq da_X6_computeNarrowWithConstant 40 rfl) ?_
    refine lv_iload_n hx hb (dq da_X6_computeNarrowWithConstant 41 rfl) rfl (lv_at hl 3 rfl) ?_
    refine lv_iconst (v := 5) hx hb (dq da_X6_computeNarrowWithConstant 42 rfl) rfl ?_
    refine lv_icmp_ne (tgt := 83) hx hb (dq da_X6_computeNarrowWithConstant 43 rfl) (by decide) (fun c5 => ?_) (fun c5 => ?_)
    · have h := ie c5 h
      exact b_X6_computeNarrowWithConstant_b83 E hr hlk h (lv_sub hl [] rfl) w
    · have h := it c5 h
      refine lv_iload_n hx hb (dq da_X6_computeNarrowWithConstant 44 rfl) rfl (lv_at hl 4 rfl) ?_
      refine lv_bipush (v := 32) hx hb (dq da_X6_computeNarrowWithConstant 45 rfl) rfl ?_
      refine lv_icmp_ne (tgt := 83) hx hb (dq da_X6_computeNarrowWithConstant 46 rfl) (by decide) (fun c8 => ?_) (fun c8 => ?_)
      · have h := ie c8 h
        exact b_X6_computeNarrowWithConstant_b83 E hr hlk h (lv_sub hl [] rfl) w
      · have h := it c8 h
        refine lv_iconst (v := 1) hx hb (dq da_X6_computeNarrowWithConstant 47 rfl) rfl ?_
        refine lv_goto (tgt := 84) hx hb (dq da_X6_computeNarrowWithConstant 48 rfl) (by decide) ?_
        exact b_X6_computeNarrowWithConstant_b84 E hr hlk h (lv_sub hl [] rfl) w
  · have h := it c2 h
    refine lv_aload_n hx hb (dq da_X6_computeNarrowWithConstant 28 rfl) rfl (lv_at hl 1 rfl) ?_
    refine cV0 E (c_X6_illegal l D cy ad _ ) w_844 w_846 w_p22 w_9 w_847 rfl hd_X6_illegal rfl hl.1 rfl (Nat.le_of_ble_eq_true rfl) (by decide) (by decide) w (rc_wC_18 w) (dq da_X6_computeNarrowWithConstant 29 rfl) (fun H locs rr w => ?_)
    exact xret_v E hr hlk w (by decide) (os h) (dq da_X6_computeNarrowWithConstant 30 rfl)
def f_X6_computeNarrowWithConstant_b38 (x1 : Int32) (x2 : Int32) (x3 : Int32) (u : St) : Option (St) := f_X6_computeNarrowWithConstant_b43 x1 x2 x3 (1 : Int32) u
set_option maxRecDepth 100000 in
set_option maxHeartbeats 4000000 in
theorem b_X6_computeNarrowWithConstant_b38 {p : Program} {l : Launch} {e : Env} {s : State} {m : MethodId} {args : Array Value} {below : List Frame} {meth : Method} {c : Code} {D : va_G} {cy : ClassId × ClassId × ClassId} {ad : Nat → Nat} {A : Nat → Prop} (E : CallFix p m c cX6_computeNarrowWithConstant 5 s args gw RX6) (hr : meth.sig.returnType = none) (hlk : meth.locks = false) {x1 : Int32} {x2 : Int32} {x3 : Int32} {u : St} {u' : St} (h : f_X6_computeNarrowWithConstant_b38 x1 x2 x3 u = some u') {ls : Array Slot} {H : Heap} {locs : List Loc} {rr : Nat → Nat} (hl : lv_has ls 5 [(0, .ref (ad 18)), (1, .int x1), (2, .int x2), (3, .int x3)]) (w : WX (wC cy ad) D cy rr u A s H locs) : Wx (wC cy ad) D p l e 2 43 0 s m args below meth c A u' none H locs 0 38 ls [] := by
  have hx := E.1
  have hb := E.2.1
  have hown := E.2.2.2.1
  have hts := E.2.2.2.2
  refine lv_iconst (v := 1) hx hb (dq da_X6_computeNarrowWithConstant 22 rfl) rfl ?_
  refine lv_goto (tgt := 43) hx hb (dq da_X6_computeNarrowWithConstant 23 rfl) (by decide) ?_
  exact b_X6_computeNarrowWithConstant_b43 E hr hlk h (lv_sub hl [0, 1, 2, 3] rfl) w
def f_X6_computeNarrowWithConstant_b42 (x1 : Int32) (x2 : Int32) (x3 : Int32) (u : St) : Option (St) := f_X6_computeNarrowWithConstant_b43 x1 x2 x3 (0 : Int32) u
set_option maxRecDepth 100000 in
set_option maxHeartbeats 4000000 in
theorem b_X6_computeNarrowWithConstant_b42 {p : Program} {l : Launch} {e : Env} {s : State} {m : MethodId} {args : Array Value} {below : List Frame} {meth : Method} {c : Code} {D : va_G} {cy : ClassId × ClassId × ClassId} {ad : Nat → Nat} {A : Nat → Prop} (E : CallFix p m c cX6_computeNarrowWithConstant 5 s args gw RX6) (hr : meth.sig.returnType = none) (hlk : meth.locks = false) {x1 : Int32} {x2 : Int32} {x3 : Int32} {u : St} {u' : St} (h : f_X6_computeNarrowWithConstant_b42 x1 x2 x3 u = some u') {ls : Array Slot} {H : Heap} {locs : List Loc} {rr : Nat → Nat} (hl : lv_has ls 5 [(0, .ref (ad 18)), (1, .int x1), (2, .int x2), (3, .int x3)]) (w : WX (wC cy ad) D cy rr u A s H locs) : Wx (wC cy ad) D p l e 2 43 0 s m args below meth c A u' none H locs 0 42 ls [] := by
  have hx := E.1
  have hb := E.2.1
  have hown := E.2.2.2.1
  have hts := E.2.2.2.2
  refine lv_iconst (v := 0) hx hb (dq da_X6_computeNarrowWithConstant 24 rfl) rfl ?_
  exact b_X6_computeNarrowWithConstant_b43 E hr hlk h (lv_sub hl [0, 1, 2, 3] rfl) w
def f_X6_computeNarrowWithConstant_b23 (x1 : Int32) (x2 : Int32) (x3 : Int32) (u : St) : Option (St) := if x2 = (5 : Int32) then (if x3 = (0 : Int32) then (f_X6_computeNarrowWithConstant_b38 x1 x2 x3 u) else (if x3 = (32 : Int32) then (f_X6_computeNarrowWithConstant_b38 x1 x2 x3 u) else (f_X6_computeNarrowWithConstant_b42 x1 x2 x3 u))) else (f_X6_computeNarrowWithConstant_b42 x1 x2 x3 u)
set_option maxRecDepth 100000 in
set_option maxHeartbeats 4000000 in
theorem b_X6_computeNarrowWithConstant_b23 {p : Program} {l : Launch} {e : Env} {s : State} {m : MethodId} {args : Array Value} {below : List Frame} {meth : Method} {c : Code} {D : va_G} {cy : ClassId × ClassId × ClassId} {ad : Nat → Nat} {A : Nat → Prop} (E : CallFix p m c cX6_computeNarrowWithConstant 5 s args gw RX6) (hr : meth.sig.returnType = none) (hlk : meth.locks = false) {x1 : Int32} {x2 : Int32} {x3 : Int32} {u : St} {u' : St} (h : f_X6_computeNarrowWithConstant_b23 x1 x2 x3 u = some u') {ls : Array Slot} {H : Heap} {locs : List Loc} {rr : Nat → Nat} (hl : lv_has ls 5 [(0, .ref (ad 18)), (1, .int x1), (2, .int x2), (3, .int x3)]) (w : WX (wC cy ad) D cy rr u A s H locs) : Wx (wC cy ad) D p l e 2 43 0 s m args below meth c A u' none H locs 0 23 ls [] := by
  have hx := E.1
  have hb := E.2.1
  have hown := E.2.2.2.1
  have hts := E.2.2.2.2
  refine lv_iload_n hx hb (dq da_X6_computeNarrowWithConstant 14 rfl) rfl (lv_at hl 2 rfl) ?_
  refine lv_iconst (v := 5) hx hb (dq da_X6_computeNarrowWithConstant 15 rfl) rfl ?_
  refine lv_icmp_ne (tgt := 42) hx hb (dq da_X6_computeNarrowWithConstant 16 rfl) (by decide) (fun c10 => ?_) (fun c10 => ?_)
  · have h := ie c10 h
    exact b_X6_computeNarrowWithConstant_b42 E hr hlk h (lv_sub hl [0, 1, 2, 3] rfl) w
  · have h := it c10 h
    refine lv_iload_n hx hb (dq da_X6_computeNarrowWithConstant 17 rfl) rfl (lv_at hl 3 rfl) ?_
    refine lv_if_eq (tgt := 38) hx hb (dq da_X6_computeNarrowWithConstant 18 rfl) (by decide) (fun c11 => ?_) (fun c11 => ?_)
    · have h := it c11 h
      exact b_X6_computeNarrowWithConstant_b38 E hr hlk h (lv_sub hl [0, 1, 2, 3] rfl) w
    · have h := ie c11 h
      refine lv_iload_n hx hb (dq da_X6_computeNarrowWithConstant 19 rfl) rfl (lv_at hl 3 rfl) ?_
      refine lv_bipush (v := 32) hx hb (dq da_X6_computeNarrowWithConstant 20 rfl) rfl ?_
      refine lv_icmp_ne (tgt := 42) hx hb (dq da_X6_computeNarrowWithConstant 21 rfl) (by decide) (fun c12 => ?_) (fun c12 => ?_)
      · have h := ie c12 h
        exact b_X6_computeNarrowWithConstant_b42 E hr hlk h (lv_sub hl [0, 1, 2, 3] rfl) w
      · have h := it c12 h
        exact b_X6_computeNarrowWithConstant_b38 E hr hlk h (lv_sub hl [0, 1, 2, 3] rfl) w
def f_X6_computeNarrowWithConstant (x1 : Int32) (u : St) : Option (St) := if (f_X6_f x1) = (0 : Int32) then (f_X6_computeNarrowWithConstant_b38 x1 (f_X6_f x1) (j_iushr x1 (25 : Int32)) u) else (if (f_X6_f x1) = (1 : Int32) then (if (j_iushr x1 (25 : Int32)) = (0 : Int32) then (f_X6_computeNarrowWithConstant_b38 x1 (f_X6_f x1) (j_iushr x1 (25 : Int32)) u) else (f_X6_computeNarrowWithConstant_b23 x1 (f_X6_f x1) (j_iushr x1 (25 : Int32)) u)) else (f_X6_computeNarrowWithConstant_b23 x1 (f_X6_f x1) (j_iushr x1 (25 : Int32)) u))
set_option maxRecDepth 100000 in
set_option maxHeartbeats 4000000 in
theorem c_X6_computeNarrowWithConstant (l : Launch) (D : va_G) (cy : ClassId × ClassId × ClassId) (ad : Nat → Nat) (x1 : Int32) (u : St) {u' : St} (h : f_X6_computeNarrowWithConstant x1 u = some u') : MX (wC cy ad) D cy l yX6_computeNarrowWithConstant cX6_computeNarrowWithConstant 5 (none) 2 43 0 [.ref (ad 18), .int x1] u u' none := by
  refine entX (by decide +kernel) (Nat.le_of_ble_eq_true rfl) ?_
  intro p e s m args below meth c ls rr A E hr hlk hl w
  have hl : lv_has ls 5 [(0, .ref (ad 18)), (1, .int x1)] := hl
  skip
  have hx := E.1
  have hb := E.2.1
  have hown := E.2.2.2.1
  have hts := E.2.2.2.2
  refine lv_iload_n hx hb (dq da_X6_computeNarrowWithConstant 0 rfl) rfl (lv_at hl 1 rfl) ?_
  refine callP E (c_X6_f l _ ) w_836 w_837 w_9 w_838 hd_X6_f rfl hl.1 rfl (Nat.le_of_ble_eq_true rfl) (by decide) (by decide) (dq da_X6_computeNarrowWithConstant 1 rfl) ?_
  refine lv_istore_n (lv' := [(2, .int (f_X6_f x1)), (0, .ref (ad 18)), (1, .int x1)]) hx hb (dq da_X6_computeNarrowWithConstant 2 rfl) rfl hl (by decide) rfl (fun ls hl => ?_)
  refine lv_iload_n hx hb (dq da_X6_computeNarrowWithConstant 3 rfl) rfl (lv_at hl 2 rfl) ?_
  refine lv_bipush (v := 25) hx hb (dq da_X6_computeNarrowWithConstant 4 rfl) rfl ?_
  refine lv_iushr (v := (j_iushr x1 (25 : Int32))) hx hb (dq da_X6_computeNarrowWithConstant 5 rfl) rfl ?_
  refine lv_istore_n (lv' := [(3, .int (j_iushr x1 (25 : Int32))), (2, .int (f_X6_f x1)), (0, .ref (ad 18)), (1, .int x1)]) hx hb (dq da_X6_computeNarrowWithConstant 6 rfl) rfl hl (by decide) rfl (fun ls hl => ?_)
  refine lv_iload_n hx hb (dq da_X6_computeNarrowWithConstant 7 rfl) rfl (lv_at hl 1 rfl) ?_
  refine lv_if_eq (tgt := 38) hx hb (dq da_X6_computeNarrowWithConstant 8 rfl) (by decide) (fun c1 => ?_) (fun c1 => ?_)
  · have h := it c1 h
    exact b_X6_computeNarrowWithConstant_b38 E hr hlk h (lv_sub hl [2, 3, 1, 0] rfl) w
  · have h := ie c1 h
    refine lv_iload_n hx hb (dq da_X6_computeNarrowWithConstant 9 rfl) rfl (lv_at hl 1 rfl) ?_
    refine lv_iconst (v := 1) hx hb (dq da_X6_computeNarrowWithConstant 10 rfl) rfl ?_
    refine lv_icmp_ne (tgt := 23) hx hb (dq da_X6_computeNarrowWithConstant 11 rfl) (by decide) (fun c9 => ?_) (fun c9 => ?_)
    · have h := ie c9 h
      exact b_X6_computeNarrowWithConstant_b23 E hr hlk h (lv_sub hl [2, 3, 1, 0] rfl) w
    · have h := it c9 h
      refine lv_iload_n hx hb (dq da_X6_computeNarrowWithConstant 12 rfl) rfl (lv_at hl 0 rfl) ?_
      refine lv_if_eq (tgt := 38) hx hb (dq da_X6_computeNarrowWithConstant 13 rfl) (by decide) (fun c13 => ?_) (fun c13 => ?_)
      · have h := it c13 h
        exact b_X6_computeNarrowWithConstant_b38 E hr hlk h (lv_sub hl [2, 3, 1, 0] rfl) w
      · have h := ie c13 h
        exact b_X6_computeNarrowWithConstant_b23 E hr hlk h (lv_sub hl [2, 3, 1, 0] rfl) w
def dl_X6_compute : List (Nat × Instr × Nat) := [(0, .iload_n 1, 1), (1, .invokestatic 246, 3), (4, .istore_n 2, 1), (5, .iload_n 1, 1), (6, .bipush 25, 2), (8, .iushr, 1), (9, .istore_n 3, 1), (10, .iload_n 3, 1), (11, .iconst 1, 1), (12, .if_icmp .ne 25, 3), (15, .aload_n 0, 1), (16, .iload_n 1, 1), (17, .iload_n 2, 1), (18, .aload_n 0, 1), (19, .iload_n 1, 1), (20, .invokevirtual 259, 3), (23, .aload_n 0, 1), (24, .iload_n 1, 1), (25, .invokevirtual 265, 3), (28, .invokestatic 299, 3), (31, .invokevirtual 207, 3), (34, .goto 59, 3), (37, .iload_n 3, 1), (38, .ifCond .eq 18, 3), (41, .iload_n 3, 1), (42, .bipush 32, 2), (44, .if_icmp .ne 45, 3), (47, .iload_n 2, 1), (48, .ifCond .eq 8, 3), (51, .iload_n 2, 1), (52, .iconst 5, 1), (53, .if_icmp .ne 36, 3), (56, .aload_n 0, 1), (57, .iload_n 1, 1), (58, .iload_n 2, 1), (59, .aload_n 0, 1), (60, .iload_n 1, 1), (61, .invokevirtual 259, 3), (64, .aload_n 0, 1), (65, .iload_n 1, 1), (66, .invokevirtual 265, 3), (69, .iload_n 3, 1), (70, .bipush 32, 2), (72, .if_icmp .ne 7, 3), (75, .iconst 1, 1), (76, .goto 4, 3), (79, .iconst 0, 1), (80, .invokestatic 291, 3), (83, .invokevirtual 207, 3), (86, .goto 7, 3), (89, .aload_n 0, 1), (90, .invokevirtual 255, 3), (93, .return_, 1)]
theorem da_X6_compute : dkL cX6_compute dl_X6_compute = true := by decide +kernel
def f_X6_compute_b80 (s0 : Int32) (s1 : Int64) (s2 : Int64) (s3 : Int32) (s4 : Int32) (u : St) : Option (St) := (f_X6_putRd s4 (f_X0_plain s3 s2 s1 s0) u).bind (fun y8 => some y8)
set_option maxRecDepth 100000 in
set_option maxHeartbeats 4000000 in
theorem b_X6_compute_b80 {p : Program} {l : Launch} {e : Env} {s : State} {m : MethodId} {args : Array Value} {below : List Frame} {meth : Method} {c : Code} {D : va_G} {cy : ClassId × ClassId × ClassId} {ad : Nat → Nat} {A : Nat → Prop} (E : CallFix p m c cX6_compute 4 s args gw RX6) (hr : meth.sig.returnType = none) (hlk : meth.locks = false) {s0 : Int32} {s1 : Int64} {s2 : Int64} {s3 : Int32} {s4 : Int32} {u : St} {u' : St} (h : f_X6_compute_b80 s0 s1 s2 s3 s4 u = some u') {ls : Array Slot} {H : Heap} {locs : List Loc} {rr : Nat → Nat} (hl : lv_has ls 4 []) (w : WX (wC cy ad) D cy rr u A s H locs) : Wx (wC cy ad) D p l e 3 72 0 s m args below meth c A u' none H locs 0 80 ls [.int s0, .long s1, .long s2, .int s3, .int s4, .ref (ad 18)] := by
  have hx := E.1
  have hb := E.2.1
  have hown := E.2.2.2.1
  have hts := E.2.2.2.2
  refine callP E (c_X0_plain l _ _ _ _ ) w_945 w_946 w_17 w_947 hd_X0_plain rfl hl.1 rfl (Nat.le_of_ble_eq_true rfl) (by decide) (by decide) (dq da_X6_compute 47 rfl) ?_
  obtain ⟨y8, hy9, h⟩ := ob h
  refine cV0 E (c_X6_putRd l D cy ad _ _ _ hy9) w_820 w_822 w_p18 w_9 w_823 rfl hd_X6_putRd rfl hl.1 rfl (Nat.le_of_ble_eq_true rfl) (by decide) (by decide) w (rc_wC_18 w) (dq da_X6_compute 48 rfl) (fun H locs rr w => ?_)
  refine lv_goto (tgt := 93) hx hb (dq da_X6_compute 49 rfl) (by decide) ?_
  exact xret_v E hr hlk w (by decide) (os h) (dq da_X6_compute 52 rfl)
def f_X6_compute_b56 (x1 : Int32) (x2 : Int32) (x3 : Int32) (u : St) : Option (St) := (f_X6_a x1 u).bind (fun y3 => (f_X6_b x1 u).bind (fun y5 => if x3 = (32 : Int32) then (f_X6_compute_b80 (1 : Int32) y5 y3 x2 x1 u) else (f_X6_compute_b80 (0 : Int32) y5 y3 x2 x1 u)))
set_option maxRecDepth 100000 in
set_option maxHeartbeats 4000000 in
theorem b_X6_compute_b56 {p : Program} {l : Launch} {e : Env} {s : State} {m : MethodId} {args : Array Value} {below : List Frame} {meth : Method} {c : Code} {D : va_G} {cy : ClassId × ClassId × ClassId} {ad : Nat → Nat} {A : Nat → Prop} (E : CallFix p m c cX6_compute 4 s args gw RX6) (hr : meth.sig.returnType = none) (hlk : meth.locks = false) {x1 : Int32} {x2 : Int32} {x3 : Int32} {u : St} {u' : St} (h : f_X6_compute_b56 x1 x2 x3 u = some u') {ls : Array Slot} {H : Heap} {locs : List Loc} {rr : Nat → Nat} (hl : lv_has ls 4 [(0, .ref (ad 18)), (1, .int x1), (2, .int x2), (3, .int x3)]) (w : WX (wC cy ad) D cy rr u A s H locs) : Wx (wC cy ad) D p l e 3 72 0 s m args below meth c A u' none H locs 0 56 ls [] := by
  have hx := E.1
  have hb := E.2.1
  have hown := E.2.2.2.1
  have hts := E.2.2.2.2
  refine lv_aload_n hx hb (dq da_X6_compute 32 rfl) rfl (lv_at hl 0 rfl) ?_
  refine lv_iload_n hx hb (dq da_X6_compute 33 rfl) rfl (lv_at hl 1 rfl) ?_
  refine lv_iload_n hx hb (dq da_X6_compute 34 rfl) rfl (lv_at hl 2 rfl) ?_
  refine lv_aload_n hx hb (dq da_X6_compute 35 rfl) rfl (lv_at hl 0 rfl) ?_
  refine lv_iload_n hx hb (dq da_X6_compute 36 rfl) rfl (lv_at hl 1 rfl) ?_
  obtain ⟨y3, hy4, h⟩ := ob h
  refine cV1 E (c_X6_a l D cy ad _ _ hy4) w_839 w_841 w_p21 w_9 w_842 rfl hd_X6_a rfl hl.1 rfl (Nat.le_of_ble_eq_true rfl) (by decide) (by decide) w (rc_wC_18 w) (dq da_X6_compute 37 rfl) (fun H locs rr w => ?_)
  refine lv_aload_n hx hb (dq da_X6_compute 38 rfl) rfl (lv_at hl 0 rfl) ?_
  refine lv_iload_n hx hb (dq da_X6_compute 39 rfl) rfl (lv_at hl 1 rfl) ?_
  obtain ⟨y5, hy6, h⟩ := ob h
  refine cV1 E (c_X6_b l D cy ad _ _ hy6) w_853 w_855 w_p24 w_9 w_856 rfl hd_X6_b rfl hl.1 rfl (Nat.le_of_ble_eq_true rfl) (by decide) (by decide) w (rc_wC_18 w) (dq da_X6_compute 40 rfl) (fun H locs rr w => ?_)
  refine lv_iload_n hx hb (dq da_X6_compute 41 rfl) rfl (lv_at hl 3 rfl) ?_
  refine lv_bipush (v := 32) hx hb (dq da_X6_compute 42 rfl) rfl ?_
  refine lv_icmp_ne (tgt := 79) hx hb (dq da_X6_compute 43 rfl) (by decide) (fun c7 => ?_) (fun c7 => ?_)
  · have h := ie c7 h
    refine lv_iconst (v := 0) hx hb (dq da_X6_compute 46 rfl) rfl ?_
    exact b_X6_compute_b80 E hr hlk h (lv_sub hl [] rfl) w
  · have h := it c7 h
    refine lv_iconst (v := 1) hx hb (dq da_X6_compute 44 rfl) rfl ?_
    refine lv_goto (tgt := 80) hx hb (dq da_X6_compute 45 rfl) (by decide) ?_
    exact b_X6_compute_b80 E hr hlk h (lv_sub hl [] rfl) w
def f_X6_compute_b89 (u : St) : Option (St) := some (f_X6_illegal u)
set_option maxRecDepth 100000 in
set_option maxHeartbeats 4000000 in
theorem b_X6_compute_b89 {p : Program} {l : Launch} {e : Env} {s : State} {m : MethodId} {args : Array Value} {below : List Frame} {meth : Method} {c : Code} {D : va_G} {cy : ClassId × ClassId × ClassId} {ad : Nat → Nat} {A : Nat → Prop} (E : CallFix p m c cX6_compute 4 s args gw RX6) (hr : meth.sig.returnType = none) (hlk : meth.locks = false) {u : St} {u' : St} (h : f_X6_compute_b89 u = some u') {ls : Array Slot} {H : Heap} {locs : List Loc} {rr : Nat → Nat} (hl : lv_has ls 4 [(0, .ref (ad 18))]) (w : WX (wC cy ad) D cy rr u A s H locs) : Wx (wC cy ad) D p l e 3 72 0 s m args below meth c A u' none H locs 0 89 ls [] := by
  have hx := E.1
  have hb := E.2.1
  have hown := E.2.2.2.1
  have hts := E.2.2.2.2
  refine lv_aload_n hx hb (dq da_X6_compute 50 rfl) rfl (lv_at hl 0 rfl) ?_
  refine cV0 E (c_X6_illegal l D cy ad _ ) w_844 w_846 w_p22 w_9 w_847 rfl hd_X6_illegal rfl hl.1 rfl (Nat.le_of_ble_eq_true rfl) (by decide) (by decide) w (rc_wC_18 w) (dq da_X6_compute 51 rfl) (fun H locs rr w => ?_)
  exact xret_v E hr hlk w (by decide) (os h) (dq da_X6_compute 52 rfl)
def f_X6_compute (x1 : Int32) (u : St) : Option (St) := if (j_iushr x1 (25 : Int32)) = (1 : Int32) then ((f_X6_a x1 u).bind (fun y13 => (f_X6_b x1 u).bind (fun y15 => (f_X0_product (f_X6_f x1) y13 y15).bind (fun y17 => (f_X6_putRd x1 y17 u).bind (fun y19 => some y19))))) else (if (j_iushr x1 (25 : Int32)) = (0 : Int32) then (f_X6_compute_b56 x1 (f_X6_f x1) (j_iushr x1 (25 : Int32)) u) else (if (j_iushr x1 (25 : Int32)) = (32 : Int32) then (if (f_X6_f x1) = (0 : Int32) then (f_X6_compute_b56 x1 (f_X6_f x1) (j_iushr x1 (25 : Int32)) u) else (if (f_X6_f x1) = (5 : Int32) then (f_X6_compute_b56 x1 (f_X6_f x1) (j_iushr x1 (25 : Int32)) u) else (f_X6_compute_b89 u))) else (f_X6_compute_b89 u)))
set_option maxRecDepth 100000 in
set_option maxHeartbeats 4000000 in
theorem c_X6_compute (l : Launch) (D : va_G) (cy : ClassId × ClassId × ClassId) (ad : Nat → Nat) (x1 : Int32) (u : St) {u' : St} (h : f_X6_compute x1 u = some u') : MX (wC cy ad) D cy l yX6_compute cX6_compute 4 (none) 3 72 0 [.ref (ad 18), .int x1] u u' none := by
  refine entX (by decide +kernel) (Nat.le_of_ble_eq_true rfl) ?_
  intro p e s m args below meth c ls rr A E hr hlk hl w
  have hl : lv_has ls 4 [(0, .ref (ad 18)), (1, .int x1)] := hl
  skip
  have hx := E.1
  have hb := E.2.1
  have hown := E.2.2.2.1
  have hts := E.2.2.2.2
  refine lv_iload_n hx hb (dq da_X6_compute 0 rfl) rfl (lv_at hl 1 rfl) ?_
  refine callP E (c_X6_f l _ ) w_836 w_837 w_9 w_838 hd_X6_f rfl hl.1 rfl (Nat.le_of_ble_eq_true rfl) (by decide) (by decide) (dq da_X6_compute 1 rfl) ?_
  refine lv_istore_n (lv' := [(2, .int (f_X6_f x1)), (0, .ref (ad 18)), (1, .int x1)]) hx hb (dq da_X6_compute 2 rfl) rfl hl (by decide) rfl (fun ls hl => ?_)
  refine lv_iload_n hx hb (dq da_X6_compute 3 rfl) rfl (lv_at hl 2 rfl) ?_
  refine lv_bipush (v := 25) hx hb (dq da_X6_compute 4 rfl) rfl ?_
  refine lv_iushr (v := (j_iushr x1 (25 : Int32))) hx hb (dq da_X6_compute 5 rfl) rfl ?_
  refine lv_istore_n (lv' := [(3, .int (j_iushr x1 (25 : Int32))), (2, .int (f_X6_f x1)), (0, .ref (ad 18)), (1, .int x1)]) hx hb (dq da_X6_compute 6 rfl) rfl hl (by decide) rfl (fun ls hl => ?_)
  refine lv_iload_n hx hb (dq da_X6_compute 7 rfl) rfl (lv_at hl 0 rfl) ?_
  refine lv_iconst (v := 1) hx hb (dq da_X6_compute 8 rfl) rfl ?_
  refine lv_icmp_ne (tgt := 37) hx hb (dq da_X6_compute 9 rfl) (by decide) (fun c1 => ?_) (fun c1 => ?_)
  · have h := ie c1 h
    refine lv_iload_n hx hb (dq da_X6_compute 22 rfl) rfl (lv_at hl 0 rfl) ?_
    refine lv_if_eq (tgt := 56) hx hb (dq da_X6_compute 23 rfl) (by decide) (fun c2 => ?_) (fun c2 => ?_)
    · have h := it c2 h
      exact b_X6_compute_b56 E hr hlk h (lv_sub hl [2, 3, 1, 0] rfl) w
    · have h := ie c2 h
      refine lv_iload_n hx hb (dq da_X6_compute 24 rfl) rfl (lv_at hl 0 rfl) ?_
      refine lv_bipush (v := 32) hx hb (dq da_X6_compute 25 rfl) rfl ?_
      refine lv_icmp_ne (tgt := 89) hx hb (dq da_X6_compute 26 rfl) (by decide) (fun c10 => ?_) (fun c10 => ?_)
      · have h := ie c10 h
        exact b_X6_compute_b89 E hr hlk h (lv_sub hl [2] rfl) w
      · have h := it c10 h
        refine lv_iload_n hx hb (dq da_X6_compute 27 rfl) rfl (lv_at hl 1 rfl) ?_
        refine lv_if_eq (tgt := 56) hx hb (dq da_X6_compute 28 rfl) (by decide) (fun c11 => ?_) (fun c11 => ?_)
        · have h := it c11 h
          exact b_X6_compute_b56 E hr hlk h (lv_sub hl [2, 3, 1, 0] rfl) w
        · have h := ie c11 h
          refine lv_iload_n hx hb (dq da_X6_compute 29 rfl) rfl (lv_at hl 1 rfl) ?_
          refine lv_iconst (v := 5) hx hb (dq da_X6_compute 30 rfl) rfl ?_
          refine lv_icmp_ne (tgt := 89) hx hb (dq da_X6_compute 31 rfl) (by decide) (fun c12 => ?_) (fun c12 => ?_)
          · have h := ie c12 h
            exact b_X6_compute_b89 E hr hlk h (lv_sub hl [2] rfl) w
          · have h := it c12 h
            exact b_X6_compute_b56 E hr hlk h (lv_sub hl [2, 3, 1, 0] rfl) w
  · have h := it c1 h
    refine lv_aload_n hx hb (dq da_X6_compute 10 rfl) rfl (lv_at hl 2 rfl) ?_
    refine lv_iload_n hx hb (dq da_X6_compute 11 rfl) rfl (lv_at hl 3 rfl) ?_
    refine lv_iload_n hx hb (dq da_X6_compute 12 rfl) rfl (lv_at hl 1 rfl) ?_
    refine lv_aload_n hx hb (dq da_X6_compute 13 rfl) rfl (lv_at hl 2 rfl) ?_
    refine lv_iload_n hx hb (dq da_X6_compute 14 rfl) rfl (lv_at hl 3 rfl) ?_
    obtain ⟨y13, hy14, h⟩ := ob h
    refine cV1 E (c_X6_a l D cy ad _ _ hy14) w_839 w_841 w_p21 w_9 w_842 rfl hd_X6_a rfl hl.1 rfl (Nat.le_of_ble_eq_true rfl) (by decide) (by decide) w (rc_wC_18 w) (dq da_X6_compute 15 rfl) (fun H locs rr w => ?_)
    refine lv_aload_n hx hb (dq da_X6_compute 16 rfl) rfl (lv_at hl 2 rfl) ?_
    refine lv_iload_n hx hb (dq da_X6_compute 17 rfl) rfl (lv_at hl 3 rfl) ?_
    obtain ⟨y15, hy16, h⟩ := ob h
    refine cV1 E (c_X6_b l D cy ad _ _ hy16) w_853 w_855 w_p24 w_9 w_856 rfl hd_X6_b rfl hl.1 rfl (Nat.le_of_ble_eq_true rfl) (by decide) (by decide) w (rc_wC_18 w) (dq da_X6_compute 18 rfl) (fun H locs rr w => ?_)
    obtain ⟨y17, hy18, h⟩ := ob h
    refine callP E (c_X0_product l _ _ _ hy18) w_961 w_962 w_17 w_963 hd_X0_product rfl hl.1 rfl (Nat.le_of_ble_eq_true rfl) (by decide) (by decide) (dq da_X6_compute 19 rfl) ?_
    obtain ⟨y19, hy20, h⟩ := ob h
    refine cV0 E (c_X6_putRd l D cy ad _ _ _ hy20) w_820 w_822 w_p18 w_9 w_823 rfl hd_X6_putRd rfl hl.1 rfl (Nat.le_of_ble_eq_true rfl) (by decide) (by decide) w (rc_wC_18 w) (dq da_X6_compute 20 rfl) (fun H locs rr w => ?_)
    refine lv_goto (tgt := 93) hx hb (dq da_X6_compute 21 rfl) (by decide) ?_
    exact xret_v E hr hlk w (by decide) (os h) (dq da_X6_compute 52 rfl)
def dl_X6_computeNarrow : List (Nat × Instr × Nat) := [(0, .iload_n 1, 1), (1, .invokestatic 246, 3), (4, .istore_n 2, 1), (5, .iload_n 1, 1), (6, .bipush 25, 2), (8, .iushr, 1), (9, .istore_n 3, 1), (10, .iload_n 3, 1), (11, .iconst 1, 1), (12, .if_icmp .ne 36, 3), (15, .iload_n 2, 1), (16, .ifCond .eq 8, 3), (19, .iload_n 2, 1), (20, .iconst 3, 1), (21, .if_icmp .le 27, 3), (24, .aload_n 0, 1), (25, .iload_n 1, 1), (26, .iload_n 2, 1), (27, .aload_n 0, 1), (28, .iload_n 1, 1), (29, .invokevirtual 259, 3), (32, .l2i, 1), (33, .aload_n 0, 1), (34, .iload_n 1, 1), (35, .invokevirtual 265, 3), (38, .l2i, 1), (39, .invokestatic 303, 3), (42, .invokevirtual 207, 3), (45, .goto 75, 3), (48, .iload_n 3, 1), (49, .ifCond .ne 17, 3), (52, .iload_n 2, 1), (53, .ifCond .eq 28, 3), (56, .iload_n 2, 1), (57, .iconst 1, 1), (58, .if_icmp .eq 23, 3), (61, .iload_n 2, 1), (62, .iconst 5, 1), (63, .if_icmp .eq 18, 3), (66, .iload_n 3, 1), (67, .bipush 32, 2), (69, .if_icmp .ne 47, 3), (72, .iload_n 2, 1), (73, .ifCond .eq 8, 3), (76, .iload_n 2, 1), (77, .iconst 5, 1), (78, .if_icmp .ne 38, 3), (81, .aload_n 0, 1), (82, .iload_n 1, 1), (83, .iload_n 2, 1), (84, .aload_n 0, 1), (85, .iload_n 1, 1), (86, .invokevirtual 259, 3), (89, .l2i, 1), (90, .aload_n 0, 1), (91, .iload_n 1, 1), (92, .invokevirtual 265, 3), (95, .l2i, 1), (96, .iload_n 3, 1), (97, .bipush 32, 2), (99, .if_icmp .ne 7, 3), (102, .iconst 1, 1), (103, .goto 4, 3), (106, .iconst 0, 1), (107, .invokestatic 295, 3), (110, .invokevirtual 207, 3), (113, .goto 7, 3), (116, .aload_n 0, 1), (117, .invokevirtual 255, 3), (120, .return_, 1)]
theorem da_X6_computeNarrow : dkL cX6_computeNarrow dl_X6_computeNarrow = true := by decide +kernel
def f_X6_computeNarrow_b116 (u : St) : Option (St) := some (f_X6_illegal u)
set_option maxRecDepth 100000 in
set_option maxHeartbeats 4000000 in
theorem b_X6_computeNarrow_b116 {p : Program} {l : Launch} {e : Env} {s : State} {m : MethodId} {args : Array Value} {below : List Frame} {meth : Method} {c : Code} {D : va_G} {cy : ClassId × ClassId × ClassId} {ad : Nat → Nat} {A : Nat → Prop} (E : CallFix p m c cX6_computeNarrow 4 s args gw RX6) (hr : meth.sig.returnType = none) (hlk : meth.locks = false) {u : St} {u' : St} (h : f_X6_computeNarrow_b116 u = some u') {ls : Array Slot} {H : Heap} {locs : List Loc} {rr : Nat → Nat} (hl : lv_has ls 4 [(0, .ref (ad 18))]) (w : WX (wC cy ad) D cy rr u A s H locs) : Wx (wC cy ad) D p l e 2 43 0 s m args below meth c A u' none H locs 0 116 ls [] := by
  have hx := E.1
  have hb := E.2.1
  have hown := E.2.2.2.1
  have hts := E.2.2.2.2
  refine lv_aload_n hx hb (dq da_X6_computeNarrow 67 rfl) rfl (lv_at hl 0 rfl) ?_
  refine cV0 E (c_X6_illegal l D cy ad _ ) w_844 w_846 w_p22 w_9 w_847 rfl hd_X6_illegal rfl hl.1 rfl (Nat.le_of_ble_eq_true rfl) (by decide) (by decide) w (rc_wC_18 w) (dq da_X6_computeNarrow 68 rfl) (fun H locs rr w => ?_)
  exact xret_v E hr hlk w (by decide) (os h) (dq da_X6_computeNarrow 69 rfl)
def f_X6_computeNarrow_b107 (s0 : Int32) (s1 : Int32) (s2 : Int32) (s3 : Int32) (s4 : Int32) (u : St) : Option (St) := (f_X6_putRd s4 (f_X0_narrow s3 s2 s1 s0) u).bind (fun y10 => some y10)
set_option maxRecDepth 100000 in
set_option maxHeartbeats 4000000 in
theorem b_X6_computeNarrow_b107 {p : Program} {l : Launch} {e : Env} {s : State} {m : MethodId} {args : Array Value} {below : List Frame} {meth : Method} {c : Code} {D : va_G} {cy : ClassId × ClassId × ClassId} {ad : Nat → Nat} {A : Nat → Prop} (E : CallFix p m c cX6_computeNarrow 4 s args gw RX6) (hr : meth.sig.returnType = none) (hlk : meth.locks = false) {s0 : Int32} {s1 : Int32} {s2 : Int32} {s3 : Int32} {s4 : Int32} {u : St} {u' : St} (h : f_X6_computeNarrow_b107 s0 s1 s2 s3 s4 u = some u') {ls : Array Slot} {H : Heap} {locs : List Loc} {rr : Nat → Nat} (hl : lv_has ls 4 []) (w : WX (wC cy ad) D cy rr u A s H locs) : Wx (wC cy ad) D p l e 2 43 0 s m args below meth c A u' none H locs 0 107 ls [.int s0, .int s1, .int s2, .int s3, .int s4, .ref (ad 18)] := by
  have hx := E.1
  have hb := E.2.1
  have hown := E.2.2.2.1
  have hts := E.2.2.2.2
  refine callP E (c_X0_narrow l _ _ _ _ ) w_954 w_955 w_17 w_956 hd_X0_narrow rfl hl.1 rfl (Nat.le_of_ble_eq_true rfl) (by decide) (by decide) (dq da_X6_computeNarrow 64 rfl) ?_
  obtain ⟨y10, hy11, h⟩ := ob h
  refine cV0 E (c_X6_putRd l D cy ad _ _ _ hy11) w_820 w_822 w_p18 w_9 w_823 rfl hd_X6_putRd rfl hl.1 rfl (Nat.le_of_ble_eq_true rfl) (by decide) (by decide) w (rc_wC_18 w) (dq da_X6_computeNarrow 65 rfl) (fun H locs rr w => ?_)
  refine lv_goto (tgt := 120) hx hb (dq da_X6_computeNarrow 66 rfl) (by decide) ?_
  exact xret_v E hr hlk w (by decide) (os h) (dq da_X6_computeNarrow 69 rfl)
def f_X6_computeNarrow_b81 (x1 : Int32) (x2 : Int32) (x3 : Int32) (u : St) : Option (St) := (f_X6_a x1 u).bind (fun y5 => (f_X6_b x1 u).bind (fun y7 => if x3 = (32 : Int32) then (f_X6_computeNarrow_b107 (1 : Int32) y7.toInt32 y5.toInt32 x2 x1 u) else (f_X6_computeNarrow_b107 (0 : Int32) y7.toInt32 y5.toInt32 x2 x1 u)))
set_option maxRecDepth 100000 in
set_option maxHeartbeats 4000000 in
theorem b_X6_computeNarrow_b81 {p : Program} {l : Launch} {e : Env} {s : State} {m : MethodId} {args : Array Value} {below : List Frame} {meth : Method} {c : Code} {D : va_G} {cy : ClassId × ClassId × ClassId} {ad : Nat → Nat} {A : Nat → Prop} (E : CallFix p m c cX6_computeNarrow 4 s args gw RX6) (hr : meth.sig.returnType = none) (hlk : meth.locks = false) {x1 : Int32} {x2 : Int32} {x3 : Int32} {u : St} {u' : St} (h : f_X6_computeNarrow_b81 x1 x2 x3 u = some u') {ls : Array Slot} {H : Heap} {locs : List Loc} {rr : Nat → Nat} (hl : lv_has ls 4 [(0, .ref (ad 18)), (1, .int x1), (2, .int x2), (3, .int x3)]) (w : WX (wC cy ad) D cy rr u A s H locs) : Wx (wC cy ad) D p l e 2 43 0 s m args below meth c A u' none H locs 0 81 ls [] := by
  have hx := E.1
  have hb := E.2.1
  have hown := E.2.2.2.1
  have hts := E.2.2.2.2
  refine lv_aload_n hx hb (dq da_X6_computeNarrow 47 rfl) rfl (lv_at hl 0 rfl) ?_
  refine lv_iload_n hx hb (dq da_X6_computeNarrow 48 rfl) rfl (lv_at hl 1 rfl) ?_
  refine lv_iload_n hx hb (dq da_X6_computeNarrow 49 rfl) rfl (lv_at hl 2 rfl) ?_
  refine lv_aload_n hx hb (dq da_X6_computeNarrow 50 rfl) rfl (lv_at hl 0 rfl) ?_
  refine lv_iload_n hx hb (dq da_X6_computeNarrow 51 rfl) rfl (lv_at hl 1 rfl) ?_
  obtain ⟨y5, hy6, h⟩ := ob h
  refine cV1 E (c_X6_a l D cy ad _ _ hy6) w_839 w_841 w_p21 w_9 w_842 rfl hd_X6_a rfl hl.1 rfl (Nat.le_of_ble_eq_true rfl) (by decide) (by decide) w (rc_wC_18 w) (dq da_X6_computeNarrow 52 rfl) (fun H locs rr w => ?_)
  refine lv_l2i (v := y5.toInt32) hx hb (dq da_X6_computeNarrow 53 rfl) rfl ?_
  refine lv_aload_n hx hb (dq da_X6_computeNarrow 54 rfl) rfl (lv_at hl 0 rfl) ?_
  refine lv_iload_n hx hb (dq da_X6_computeNarrow 55 rfl) rfl (lv_at hl 1 rfl) ?_
  obtain ⟨y7, hy8, h⟩ := ob h
  refine cV1 E (c_X6_b l D cy ad _ _ hy8) w_853 w_855 w_p24 w_9 w_856 rfl hd_X6_b rfl hl.1 rfl (Nat.le_of_ble_eq_true rfl) (by decide) (by decide) w (rc_wC_18 w) (dq da_X6_computeNarrow 56 rfl) (fun H locs rr w => ?_)
  refine lv_l2i (v := y7.toInt32) hx hb (dq da_X6_computeNarrow 57 rfl) rfl ?_
  refine lv_iload_n hx hb (dq da_X6_computeNarrow 58 rfl) rfl (lv_at hl 3 rfl) ?_
  refine lv_bipush (v := 32) hx hb (dq da_X6_computeNarrow 59 rfl) rfl ?_
  refine lv_icmp_ne (tgt := 106) hx hb (dq da_X6_computeNarrow 60 rfl) (by decide) (fun c9 => ?_) (fun c9 => ?_)
  · have h := ie c9 h
    refine lv_iconst (v := 0) hx hb (dq da_X6_computeNarrow 63 rfl) rfl ?_
    exact b_X6_computeNarrow_b107 E hr hlk h (lv_sub hl [] rfl) w
  · have h := it c9 h
    refine lv_iconst (v := 1) hx hb (dq da_X6_computeNarrow 61 rfl) rfl ?_
    refine lv_goto (tgt := 107) hx hb (dq da_X6_computeNarrow 62 rfl) (by decide) ?_
    exact b_X6_computeNarrow_b107 E hr hlk h (lv_sub hl [] rfl) w
def f_X6_computeNarrow_b66 (x1 : Int32) (x2 : Int32) (x3 : Int32) (u : St) : Option (St) := if x3 = (32 : Int32) then (if x2 = (0 : Int32) then (f_X6_computeNarrow_b81 x1 x2 x3 u) else (if x2 = (5 : Int32) then (f_X6_computeNarrow_b81 x1 x2 x3 u) else (f_X6_computeNarrow_b116 u))) else (f_X6_computeNarrow_b116 u)
set_option maxRecDepth 100000 in
set_option maxHeartbeats 4000000 in
theorem b_X6_computeNarrow_b66 {p : Program} {l : Launch} {e : Env} {s : State} {m : MethodId} {args : Array Value} {below : List Frame} {meth : Method} {c : Code} {D : va_G} {cy : ClassId × ClassId × ClassId} {ad : Nat → Nat} {A : Nat → Prop} (E : CallFix p m c cX6_computeNarrow 4 s args gw RX6) (hr : meth.sig.returnType = none) (hlk : meth.locks = false) {x1 : Int32} {x2 : Int32} {x3 : Int32} {u : St} {u' : St} (h : f_X6_computeNarrow_b66 x1 x2 x3 u = some u') {ls : Array Slot} {H : Heap} {locs : List Loc} {rr : Nat → Nat} (hl : lv_has ls 4 [(0, .ref (ad 18)), (1, .int x1), (2, .int x2), (3, .int x3)]) (w : WX (wC cy ad) D cy rr u A s H locs) : Wx (wC cy ad) D p l e 2 43 0 s m args below meth c A u' none H locs 0 66 ls [] := by
  have hx := E.1
  have hb := E.2.1
  have hown := E.2.2.2.1
  have hts := E.2.2.2.2
  refine lv_iload_n hx hb (dq da_X6_computeNarrow 39 rfl) rfl (lv_at hl 3 rfl) ?_
  refine lv_bipush (v := 32) hx hb (dq da_X6_computeNarrow 40 rfl) rfl ?_
  refine lv_icmp_ne (tgt := 116) hx hb (dq da_X6_computeNarrow 41 rfl) (by decide) (fun c3 => ?_) (fun c3 => ?_)
  · have h := ie c3 h
    exact b_X6_computeNarrow_b116 E hr hlk h (lv_sub hl [0] rfl) w
  · have h := it c3 h
    refine lv_iload_n hx hb (dq da_X6_computeNarrow 42 rfl) rfl (lv_at hl 2 rfl) ?_
    refine lv_if_eq (tgt := 81) hx hb (dq da_X6_computeNarrow 43 rfl) (by decide) (fun c4 => ?_) (fun c4 => ?_)
    · have h := it c4 h
      exact b_X6_computeNarrow_b81 E hr hlk h (lv_sub hl [0, 1, 2, 3] rfl) w
    · have h := ie c4 h
      refine lv_iload_n hx hb (dq da_X6_computeNarrow 44 rfl) rfl (lv_at hl 2 rfl) ?_
      refine lv_iconst (v := 5) hx hb (dq da_X6_computeNarrow 45 rfl) rfl ?_
      refine lv_icmp_ne (tgt := 116) hx hb (dq da_X6_computeNarrow 46 rfl) (by decide) (fun c12 => ?_) (fun c12 => ?_)
      · have h := ie c12 h
        exact b_X6_computeNarrow_b116 E hr hlk h (lv_sub hl [0] rfl) w
      · have h := it c12 h
        exact b_X6_computeNarrow_b81 E hr hlk h (lv_sub hl [0, 1, 2, 3] rfl) w
def f_X6_computeNarrow_b48 (x1 : Int32) (x2 : Int32) (x3 : Int32) (u : St) : Option (St) := if x3 = (0 : Int32) then (if x2 = (0 : Int32) then (f_X6_computeNarrow_b81 x1 x2 x3 u) else (if x2 = (1 : Int32) then (f_X6_computeNarrow_b81 x1 x2 x3 u) else (if x2 = (5 : Int32) then (f_X6_computeNarrow_b81 x1 x2 x3 u) else (f_X6_computeNarrow_b66 x1 x2 x3 u)))) else (f_X6_computeNarrow_b66 x1 x2 x3 u)
set_option maxRecDepth 100000 in
set_option maxHeartbeats 4000000 in
theorem b_X6_computeNarrow_b48 {p : Program} {l : Launch} {e : Env} {s : State} {m : MethodId} {args : Array Value} {below : List Frame} {meth : Method} {c : Code} {D : va_G} {cy : ClassId × ClassId × ClassId} {ad : Nat → Nat} {A : Nat → Prop} (E : CallFix p m c cX6_computeNarrow 4 s args gw RX6) (hr : meth.sig.returnType = none) (hlk : meth.locks = false) {x1 : Int32} {x2 : Int32} {x3 : Int32} {u : St} {u' : St} (h : f_X6_computeNarrow_b48 x1 x2 x3 u = some u') {ls : Array Slot} {H : Heap} {locs : List Loc} {rr : Nat → Nat} (hl : lv_has ls 4 [(0, .ref (ad 18)), (1, .int x1), (2, .int x2), (3, .int x3)]) (w : WX (wC cy ad) D cy rr u A s H locs) : Wx (wC cy ad) D p l e 2 43 0 s m args below meth c A u' none H locs 0 48 ls [] := by
  have hx := E.1
  have hb := E.2.1
  have hown := E.2.2.2.1
  have hts := E.2.2.2.2
  refine lv_iload_n hx hb (dq da_X6_computeNarrow 29 rfl) rfl (lv_at hl 3 rfl) ?_
  refine lv_if_ne (tgt := 66) hx hb (dq da_X6_computeNarrow 30 rfl) (by decide) (fun c2 => ?_) (fun c2 => ?_)
  · have h := ie c2 h
    exact b_X6_computeNarrow_b66 E hr hlk h (lv_sub hl [0, 1, 2, 3] rfl) w
  · have h := it c2 h
    refine lv_iload_n hx hb (dq da_X6_computeNarrow 31 rfl) rfl (lv_at hl 2 rfl) ?_
    refine lv_if_eq (tgt := 81) hx hb (dq da_X6_computeNarrow 32 rfl) (by decide) (fun c13 => ?_) (fun c13 => ?_)
    · have h := it c13 h
      exact b_X6_computeNarrow_b81 E hr hlk h (lv_sub hl [0, 1, 2, 3] rfl) w
    · have h := ie c13 h
      refine lv_iload_n hx hb (dq da_X6_computeNarrow 33 rfl) rfl (lv_at hl 2 rfl) ?_
      refine lv_iconst (v := 1) hx hb (dq da_X6_computeNarrow 34 rfl) rfl ?_
      refine lv_icmp_eq (tgt := 81) hx hb (dq da_X6_computeNarrow 35 rfl) (by decide) (fun c14 => ?_) (fun c14 => ?_)
      · have h := it c14 h
        exact b_X6_computeNarrow_b81 E hr hlk h (lv_sub hl [0, 1, 2, 3] rfl) w
      · have h := ie c14 h
        refine lv_iload_n hx hb (dq da_X6_computeNarrow 36 rfl) rfl (lv_at hl 2 rfl) ?_
        refine lv_iconst (v := 5) hx hb (dq da_X6_computeNarrow 37 rfl) rfl ?_
        refine lv_icmp_eq (tgt := 81) hx hb (dq da_X6_computeNarrow 38 rfl) (by decide) (fun c15 => ?_) (fun c15 => ?_)
        · have h := it c15 h
          exact b_X6_computeNarrow_b81 E hr hlk h (lv_sub hl [0, 1, 2, 3] rfl) w
        · have h := ie c15 h
          exact b_X6_computeNarrow_b66 E hr hlk h (lv_sub hl [0, 1, 2, 3] rfl) w
def f_X6_computeNarrow_b24 (x1 : Int32) (x2 : Int32) (u : St) : Option (St) := (f_X6_a x1 u).bind (fun y17 => (f_X6_b x1 u).bind (fun y19 => (f_X6_putRd x1 (f_X0_narrowProduct x2 y17.toInt32 y19.toInt32) u).bind (fun y21 => some y21)))
set_option maxRecDepth 100000 in
set_option maxHeartbeats 4000000 in
theorem b_X6_computeNarrow_b24 {p : Program} {l : Launch} {e : Env} {s : State} {m : MethodId} {args : Array Value} {below : List Frame} {meth : Method} {c : Code} {D : va_G} {cy : ClassId × ClassId × ClassId} {ad : Nat → Nat} {A : Nat → Prop} (E : CallFix p m c cX6_computeNarrow 4 s args gw RX6) (hr : meth.sig.returnType = none) (hlk : meth.locks = false) {x1 : Int32} {x2 : Int32} {u : St} {u' : St} (h : f_X6_computeNarrow_b24 x1 x2 u = some u') {ls : Array Slot} {H : Heap} {locs : List Loc} {rr : Nat → Nat} (hl : lv_has ls 4 [(0, .ref (ad 18)), (1, .int x1), (2, .int x2)]) (w : WX (wC cy ad) D cy rr u A s H locs) : Wx (wC cy ad) D p l e 2 43 0 s m args below meth c A u' none H locs 0 24 ls [] := by
  have hx := E.1
  have hb := E.2.1
  have hown := E.2.2.2.1
  have hts := E.2.2.2.2
  refine lv_aload_n hx hb (dq da_X6_computeNarrow 15 rfl) rfl (lv_at hl 0 rfl) ?_
  refine lv_iload_n hx hb (dq da_X6_computeNarrow 16 rfl) rfl (lv_at hl 1 rfl) ?_
  refine lv_iload_n hx hb (dq da_X6_computeNarrow 17 rfl) rfl (lv_at hl 2 rfl) ?_
  refine lv_aload_n hx hb (dq da_X6_computeNarrow 18 rfl) rfl (lv_at hl 0 rfl) ?_
  refine lv_iload_n hx hb (dq da_X6_computeNarrow 19 rfl) rfl (lv_at hl 1 rfl) ?_
  obtain ⟨y17, hy18, h⟩ := ob h
  refine cV1 E (c_X6_a l D cy ad _ _ hy18) w_839 w_841 w_p21 w_9 w_842 rfl hd_X6_a rfl hl.1 rfl (Nat.le_of_ble_eq_true rfl) (by decide) (by decide) w (rc_wC_18 w) (dq da_X6_computeNarrow 20 rfl) (fun H locs rr w => ?_)
  refine lv_l2i (v := y17.toInt32) hx hb (dq da_X6_computeNarrow 21 rfl) rfl ?_
  refine lv_aload_n hx hb (dq da_X6_computeNarrow 22 rfl) rfl (lv_at hl 0 rfl) ?_
  refine lv_iload_n hx hb (dq da_X6_computeNarrow 23 rfl) rfl (lv_at hl 1 rfl) ?_
  obtain ⟨y19, hy20, h⟩ := ob h
  refine cV1 E (c_X6_b l D cy ad _ _ hy20) w_853 w_855 w_p24 w_9 w_856 rfl hd_X6_b rfl hl.1 rfl (Nat.le_of_ble_eq_true rfl) (by decide) (by decide) w (rc_wC_18 w) (dq da_X6_computeNarrow 24 rfl) (fun H locs rr w => ?_)
  refine lv_l2i (v := y19.toInt32) hx hb (dq da_X6_computeNarrow 25 rfl) rfl ?_
  refine callP E (c_X0_narrowProduct l _ _ _ ) w_976 w_977 w_17 w_978 hd_X0_narrowProduct rfl hl.1 rfl (Nat.le_of_ble_eq_true rfl) (by decide) (by decide) (dq da_X6_computeNarrow 26 rfl) ?_
  obtain ⟨y21, hy22, h⟩ := ob h
  refine cV0 E (c_X6_putRd l D cy ad _ _ _ hy22) w_820 w_822 w_p18 w_9 w_823 rfl hd_X6_putRd rfl hl.1 rfl (Nat.le_of_ble_eq_true rfl) (by decide) (by decide) w (rc_wC_18 w) (dq da_X6_computeNarrow 27 rfl) (fun H locs rr w => ?_)
  refine lv_goto (tgt := 120) hx hb (dq da_X6_computeNarrow 28 rfl) (by decide) ?_
  exact xret_v E hr hlk w (by decide) (os h) (dq da_X6_computeNarrow 69 rfl)
def f_X6_computeNarrow (x1 : Int32) (u : St) : Option (St) := if (j_iushr x1 (25 : Int32)) = (1 : Int32) then (if (f_X6_f x1) = (0 : Int32) then (f_X6_computeNarrow_b24 x1 (f_X6_f x1) u) else (if (f_X6_f x1) ≤ (3 : Int32) then (f_X6_computeNarrow_b48 x1 (f_X6_f x1) (j_iushr x1 (25 : Int32)) u) else (f_X6_computeNarrow_b24 x1 (f_X6_f x1) u))) else (f_X6_computeNarrow_b48 x1 (f_X6_f x1) (j_iushr x1 (25 : Int32)) u)
set_option maxRecDepth 100000 in
set_option maxHeartbeats 4000000 in
theorem c_X6_computeNarrow (l : Launch) (D : va_G) (cy : ClassId × ClassId × ClassId) (ad : Nat → Nat) (x1 : Int32) (u : St) {u' : St} (h : f_X6_computeNarrow x1 u = some u') : MX (wC cy ad) D cy l yX6_computeNarrow cX6_computeNarrow 4 (none) 2 43 0 [.ref (ad 18), .int x1] u u' none := by
  refine entX (by decide +kernel) (Nat.le_of_ble_eq_true rfl) ?_
  intro p e s m args below meth c ls rr A E hr hlk hl w
  have hl : lv_has ls 4 [(0, .ref (ad 18)), (1, .int x1)] := hl
  skip
  have hx := E.1
  have hb := E.2.1
  have hown := E.2.2.2.1
  have hts := E.2.2.2.2
  refine lv_iload_n hx hb (dq da_X6_computeNarrow 0 rfl) rfl (lv_at hl 1 rfl) ?_
  refine callP E (c_X6_f l _ ) w_836 w_837 w_9 w_838 hd_X6_f rfl hl.1 rfl (Nat.le_of_ble_eq_true rfl) (by decide) (by decide) (dq da_X6_computeNarrow 1 rfl) ?_
  refine lv_istore_n (lv' := [(2, .int (f_X6_f x1)), (0, .ref (ad 18)), (1, .int x1)]) hx hb (dq da_X6_computeNarrow 2 rfl) rfl hl (by decide) rfl (fun ls hl => ?_)
  refine lv_iload_n hx hb (dq da_X6_computeNarrow 3 rfl) rfl (lv_at hl 2 rfl) ?_
  refine lv_bipush (v := 25) hx hb (dq da_X6_computeNarrow 4 rfl) rfl ?_
  refine lv_iushr (v := (j_iushr x1 (25 : Int32))) hx hb (dq da_X6_computeNarrow 5 rfl) rfl ?_
  refine lv_istore_n (lv' := [(3, .int (j_iushr x1 (25 : Int32))), (2, .int (f_X6_f x1)), (0, .ref (ad 18)), (1, .int x1)]) hx hb (dq da_X6_computeNarrow 6 rfl) rfl hl (by decide) rfl (fun ls hl => ?_)
  refine lv_iload_n hx hb (dq da_X6_computeNarrow 7 rfl) rfl (lv_at hl 0 rfl) ?_
  refine lv_iconst (v := 1) hx hb (dq da_X6_computeNarrow 8 rfl) rfl ?_
  refine lv_icmp_ne (tgt := 48) hx hb (dq da_X6_computeNarrow 9 rfl) (by decide) (fun c1 => ?_) (fun c1 => ?_)
  · have h := ie c1 h
    exact b_X6_computeNarrow_b48 E hr hlk h (lv_sub hl [2, 3, 1, 0] rfl) w
  · have h := it c1 h
    refine lv_iload_n hx hb (dq da_X6_computeNarrow 10 rfl) rfl (lv_at hl 1 rfl) ?_
    refine lv_if_eq (tgt := 24) hx hb (dq da_X6_computeNarrow 11 rfl) (by decide) (fun c16 => ?_) (fun c16 => ?_)
    · have h := it c16 h
      exact b_X6_computeNarrow_b24 E hr hlk h (lv_sub hl [2, 3, 1] rfl) w
    · have h := ie c16 h
      refine lv_iload_n hx hb (dq da_X6_computeNarrow 12 rfl) rfl (lv_at hl 1 rfl) ?_
      refine lv_iconst (v := 3) hx hb (dq da_X6_computeNarrow 13 rfl) rfl ?_
      refine lv_icmp_le (tgt := 48) hx hb (dq da_X6_computeNarrow 14 rfl) (by decide) (fun c23 => ?_) (fun c23 => ?_)
      · have h := it c23 h
        exact b_X6_computeNarrow_b48 E hr hlk h (lv_sub hl [2, 3, 1, 0] rfl) w
      · have h := ie c23 h
        exact b_X6_computeNarrow_b24 E hr hlk h (lv_sub hl [2, 3, 1] rfl) w
def dl_X6_fence : List (Nat × Instr × Nat) := [(0, .iload_n 1, 1), (1, .invokestatic 246, 3), (4, .iconst 1, 1), (5, .if_icmp .le 7, 3), (8, .aload_n 0, 1), (9, .invokevirtual 255, 3), (12, .return_, 1)]
theorem da_X6_fence : dkL cX6_fence dl_X6_fence = true := by decide +kernel
def f_X6_fence (x1 : Int32) (u : St) : St := if (f_X6_f x1) ≤ (1 : Int32) then u else (f_X6_illegal u)
set_option maxRecDepth 100000 in
set_option maxHeartbeats 4000000 in
theorem c_X6_fence (l : Launch) (D : va_G) (cy : ClassId × ClassId × ClassId) (ad : Nat → Nat) (x1 : Int32) (u : St) : MX (wC cy ad) D cy l yX6_fence cX6_fence 2 (none) 2 43 0 [.ref (ad 18), .int x1] u (f_X6_fence x1 u) none := by
  refine entX (by decide +kernel) (Nat.le_of_ble_eq_true rfl) ?_
  intro p e s m args below meth c ls rr A E hr hlk hl w
  have hl : lv_has ls 2 [(0, .ref (ad 18)), (1, .int x1)] := hl
  generalize h : f_X6_fence x1 u = u'
  skip
  have hx := E.1
  have hb := E.2.1
  have hown := E.2.2.2.1
  have hts := E.2.2.2.2
  refine lv_iload_n hx hb (dq da_X6_fence 0 rfl) rfl (lv_at hl 1 rfl) ?_
  refine callP E (c_X6_f l _ ) w_836 w_837 w_9 w_838 hd_X6_f rfl hl.1 rfl (Nat.le_of_ble_eq_true rfl) (by decide) (by decide) (dq da_X6_fence 1 rfl) ?_
  refine lv_iconst (v := 1) hx hb (dq da_X6_fence 2 rfl) rfl ?_
  refine lv_icmp_le (tgt := 12) hx hb (dq da_X6_fence 3 rfl) (by decide) (fun c1 => ?_) (fun c1 => ?_)
  · have h := it c1 h
    exact xret_v E hr hlk w (by decide) h (dq da_X6_fence 6 rfl)
  · have h := ie c1 h
    refine lv_aload_n hx hb (dq da_X6_fence 4 rfl) rfl (lv_at hl 0 rfl) ?_
    refine cV0 E (c_X6_illegal l D cy ad _ ) w_844 w_846 w_p22 w_9 w_847 rfl hd_X6_illegal rfl hl.1 rfl (Nat.le_of_ble_eq_true rfl) (by decide) (by decide) w (rc_wC_18 w) (dq da_X6_fence 5 rfl) (fun H locs rr w => ?_)
    exact xret_v E hr hlk w (by decide) h (dq da_X6_fence 6 rfl)

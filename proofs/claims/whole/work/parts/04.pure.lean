theorem w_arrB : Cond.arrayClass .byte ∈ gw := gw_t1 48 rfl rfl
theorem w_576 : Cond.constantLong RX0 9 (-9223372036854775808) ∈ gw := gw_t3 96 rfl rfl
theorem w_605 : Cond.constantLong RX4 108 (-1) ∈ gw := gw_t3 125 rfl rfl
theorem w_744 : Cond.constantLong RX9 64 (6) ∈ gw := gw_t4 24 rfl rfl
theorem w_745 : Cond.constantLong RX9 66 (4) ∈ gw := gw_t4 25 rfl rfl
theorem w_733 : Cond.constantLong RX9 21 (17592186044415) ∈ gw := gw_t4 13 rfl rfl
theorem w_765 : Cond.constantLong RX9 83 (-1) ∈ gw := gw_t4 45 rfl rfl
theorem w_776 : Cond.methodLink RX5 19 yX5_bits ∈ gw := gw_t4 56 rfl rfl
theorem w_777 : Cond.static yX5_bits ∈ gw := gw_t4 57 rfl rfl
theorem w_19 : Cond.initialized RX5 ∈ gw := gw_t1 19 rfl rfl
theorem w_778 : Cond.code yX5_bits cX5_bits 3 (some .int) ∈ gw := gw_t4 58 rfl rfl
theorem w_779 : Cond.methodLink RX5 23 yX5_withConstant ∈ gw := gw_t4 59 rfl rfl
theorem w_780 : Cond.static yX5_withConstant ∈ gw := gw_t4 60 rfl rfl
theorem w_781 : Cond.code yX5_withConstant cX5_withConstant 5 (some .int) ∈ gw := gw_t4 61 rfl rfl
theorem w_782 : Cond.methodLink RX5 27 yX5_storing ∈ gw := gw_t4 62 rfl rfl
theorem w_783 : Cond.static yX5_storing ∈ gw := gw_t4 63 rfl rfl
theorem w_784 : Cond.code yX5_storing cX5_storing 4 (some .int) ∈ gw := gw_t4 64 rfl rfl
theorem w_773 : Cond.methodLink RX5 7 yX5_ofFirstKind ∈ gw := gw_t4 53 rfl rfl
theorem w_774 : Cond.static yX5_ofFirstKind ∈ gw := gw_t4 54 rfl rfl
theorem w_775 : Cond.code yX5_ofFirstKind cX5_ofFirstKind 6 (some .int) ∈ gw := gw_t4 55 rfl rfl
theorem w_788 : Cond.methodLink RX5 31 yX5_highest ∈ gw := gw_t4 68 rfl rfl
theorem w_789 : Cond.static yX5_highest ∈ gw := gw_t4 69 rfl rfl
theorem w_790 : Cond.code yX5_highest cX5_highest 1 (some .int) ∈ gw := gw_t4 70 rfl rfl
theorem w_791 : Cond.methodLink RX5 34 yX5_ofStack ∈ gw := gw_t4 71 rfl rfl
theorem w_792 : Cond.static yX5_ofStack ∈ gw := gw_t4 72 rfl rfl
theorem w_793 : Cond.code yX5_ofStack cX5_ofStack 2 (some .int) ∈ gw := gw_t4 73 rfl rfl
theorem w_797 : Cond.methodLink RX5 53 yX5_withRegister ∈ gw := gw_t4 77 rfl rfl
theorem w_798 : Cond.static yX5_withRegister ∈ gw := gw_t4 78 rfl rfl
theorem w_799 : Cond.code yX5_withRegister cX5_withRegister 6 (some .int) ∈ gw := gw_t4 79 rfl rfl
theorem w_794 : Cond.methodLink RX5 37 yX5_computing ∈ gw := gw_t4 74 rfl rfl
theorem w_795 : Cond.static yX5_computing ∈ gw := gw_t4 75 rfl rfl
theorem w_796 : Cond.code yX5_computing cX5_computing 4 (some .int) ∈ gw := gw_t4 76 rfl rfl
theorem w_800 : Cond.methodLink RX5 41 yX5_jumping ∈ gw := gw_t4 80 rfl rfl
theorem w_801 : Cond.static yX5_jumping ∈ gw := gw_t4 81 rfl rfl
theorem w_802 : Cond.code yX5_jumping cX5_jumping 2 (some .int) ∈ gw := gw_t4 82 rfl rfl
theorem w_803 : Cond.methodLink RX5 44 yX5_branching ∈ gw := gw_t4 83 rfl rfl
theorem w_804 : Cond.static yX5_branching ∈ gw := gw_t4 84 rfl rfl
theorem w_805 : Cond.code yX5_branching cX5_branching 4 (some .int) ∈ gw := gw_t4 85 rfl rfl
theorem w_785 : Cond.methodLink RX5 13 yX5_ofSecondKind ∈ gw := gw_t4 65 rfl rfl
theorem w_786 : Cond.static yX5_ofSecondKind ∈ gw := gw_t4 66 rfl rfl
theorem w_787 : Cond.code yX5_ofSecondKind cX5_ofSecondKind 3 (some .int) ∈ gw := gw_t4 67 rfl rfl
theorem w_815 : Cond.constant RX5 57 (1048691) ∈ gw := gw_t4 95 rfl rfl
theorem w_812 : Cond.methodLink RX5 50 yX5_addingOrLinking ∈ gw := gw_t4 92 rfl rfl
theorem w_813 : Cond.static yX5_addingOrLinking ∈ gw := gw_t4 93 rfl rfl
theorem w_814 : Cond.code yX5_addingOrLinking cX5_addingOrLinking 2 (some .int) ∈ gw := gw_t4 94 rfl rfl
theorem w_809 : Cond.methodLink RX5 47 yX5_movingOrJumping ∈ gw := gw_t4 89 rfl rfl
theorem w_810 : Cond.static yX5_movingOrJumping ∈ gw := gw_t4 90 rfl rfl
theorem w_811 : Cond.code yX5_movingOrJumping cX5_movingOrJumping 2 (some .int) ∈ gw := gw_t4 91 rfl rfl
theorem w_806 : Cond.methodLink RX5 16 yX5_ofThirdKind ∈ gw := gw_t4 86 rfl rfl
theorem w_807 : Cond.static yX5_ofThirdKind ∈ gw := gw_t4 87 rfl rfl
theorem w_808 : Cond.code yX5_ofThirdKind cX5_ofThirdKind 7 (some .int) ∈ gw := gw_t4 88 rfl rfl
theorem w_827 : Cond.constant RX6 258 (1044480) ∈ gw := gw_t4 107 rfl rfl
theorem w_887 : Cond.constantLong RX3 19 (4096) ∈ gw := gw_t4 167 rfl rfl
theorem w_888 : Cond.constantLong RX3 21 (8192) ∈ gw := gw_t4 168 rfl rfl
theorem w_889 : Cond.constantLong RX3 23 (8320) ∈ gw := gw_t4 169 rfl rfl
theorem w_890 : Cond.constantLong RX3 25 (2097152) ∈ gw := gw_t4 170 rfl rfl
theorem w_891 : Cond.constantLong RX3 27 (2101248) ∈ gw := gw_t4 171 rfl rfl
theorem w_892 : Cond.constantLong RX3 29 (2097156) ∈ gw := gw_t4 172 rfl rfl
theorem w_893 : Cond.constantLong RX3 31 (2101252) ∈ gw := gw_t4 173 rfl rfl
theorem w_894 : Cond.constantLong RX3 33 (4) ∈ gw := gw_t4 174 rfl rfl
theorem w_895 : Cond.constantLong RX3 35 (28) ∈ gw := gw_t4 175 rfl rfl
theorem w_896 : Cond.constantLong RX3 37 (3) ∈ gw := gw_t4 176 rfl rfl
theorem w_910 : Cond.constantLong RX1 101 (4294967295) ∈ gw := gw_t4 190 rfl rfl
theorem w_119 : Cond.constantLong RX1 25 (-1) ∈ gw := gw_t1 119 rfl rfl
theorem w_948 : Cond.constantLong RX0 11 (63) ∈ gw := gw_t4 228 rfl rfl
theorem w_949 : Cond.methodLink RX0 13 yX0_below ∈ gw := gw_t4 229 rfl rfl
theorem w_574 : Cond.static yX0_below ∈ gw := gw_t3 94 rfl rfl
theorem w_17 : Cond.initialized RX0 ∈ gw := gw_t1 17 rfl rfl
theorem w_575 : Cond.code yX0_below cX0_below 4 (some .boolean) ∈ gw := gw_t3 95 rfl rfl
theorem w_967 : Cond.constantLong RX0 28 (4294967295) ∈ gw := gw_t5 7 rfl rfl
theorem w_964 : Cond.methodLink RX0 19 yX0_upperUnsigned ∈ gw := gw_t5 4 rfl rfl
theorem w_965 : Cond.static yX0_upperUnsigned ∈ gw := gw_t5 5 rfl rfl
theorem w_966 : Cond.code yX0_upperUnsigned cX0_upperUnsigned 18 (some .long) ∈ gw := gw_t5 6 rfl rfl
theorem w_968 : Cond.constantLong RX0 23 (-1) ∈ gw := gw_t5 8 rfl rfl
theorem w_969 : Cond.methodLink RX0 25 yX0_quotientUnsigned ∈ gw := gw_t5 9 rfl rfl
theorem w_970 : Cond.static yX0_quotientUnsigned ∈ gw := gw_t5 10 rfl rfl
theorem w_971 : Cond.code yX0_quotientUnsigned cX0_quotientUnsigned 6 (some .long) ∈ gw := gw_t5 11 rfl rfl
theorem w_1275 : Cond.methodLink RX12 87 yX12_in ∈ gw := gw_t6 75 rfl rfl
theorem w_1276 : Cond.static yX12_in ∈ gw := gw_t6 76 rfl rfl
theorem w_10 : Cond.initialized RX12 ∈ gw := gw_t1 10 rfl rfl
theorem w_1277 : Cond.code yX12_in cX12_in 6 (some .boolean) ∈ gw := gw_t6 77 rfl rfl
theorem w_1346 : Cond.constantLong RX12 244 (3072) ∈ gw := gw_t6 146 rfl rfl
theorem w_1347 : Cond.constantLong RX12 246 (3074) ∈ gw := gw_t6 147 rfl rfl
theorem w_1361 : Cond.constantLong RX12 65 (-9223372036854775808) ∈ gw := gw_t6 161 rfl rfl
theorem w_1458 : Cond.constantLong RX12 377 (3) ∈ gw := gw_t7 18 rfl rfl
theorem w_1384 : Cond.methodLink RX12 196 yX12_cut ∈ gw := gw_t6 184 rfl rfl
theorem w_1385 : Cond.static yX12_cut ∈ gw := gw_t6 185 rfl rfl
theorem w_1386 : Cond.code yX12_cut cX12_cut 4 (some .long) ∈ gw := gw_t6 186 rfl rfl
theorem w_1283 : Cond.constantLong RX12 203 (8) ∈ gw := gw_t6 83 rfl rfl
theorem w_1465 : Cond.constantLong RX12 510 (379814) ∈ gw := gw_t7 25 rfl rfl
theorem w_1469 : Cond.constantLong RX12 493 (15) ∈ gw := gw_t7 29 rfl rfl
theorem w_1466 : Cond.methodLink RX12 501 yX12_pick ∈ gw := gw_t7 26 rfl rfl
theorem w_1467 : Cond.static yX12_pick ∈ gw := gw_t7 27 rfl rfl
theorem w_1468 : Cond.code yX12_pick cX12_pick 9 (some .long) ∈ gw := gw_t7 28 rfl rfl
theorem w_1427 : Cond.constantLong RX12 83 (4) ∈ gw := gw_t6 227 rfl rfl
theorem w_1470 : Cond.constantLong RX12 512 (416954) ∈ gw := gw_t7 30 rfl rfl
theorem w_1471 : Cond.constantLong RX12 514 (2844248918) ∈ gw := gw_t7 31 rfl rfl
theorem w_1269 : Cond.constantLong RX12 313 (2) ∈ gw := gw_t6 69 rfl rfl
theorem w_1475 : Cond.constantLong RX12 485 (4095) ∈ gw := gw_t7 35 rfl rfl
theorem w_1472 : Cond.methodLink RX12 516 yX12_typeI ∈ gw := gw_t7 32 rfl rfl
theorem w_1473 : Cond.static yX12_typeI ∈ gw := gw_t7 33 rfl rfl
theorem w_1474 : Cond.code yX12_typeI cX12_typeI 8 (some .long) ∈ gw := gw_t7 34 rfl rfl
theorem w_1479 : Cond.constantLong RX12 487 (35) ∈ gw := gw_t7 39 rfl rfl
theorem w_1476 : Cond.methodLink RX12 520 yX12_typeS ∈ gw := gw_t7 36 rfl rfl
theorem w_1477 : Cond.static yX12_typeS ∈ gw := gw_t7 37 rfl rfl
theorem w_1478 : Cond.code yX12_typeS cX12_typeS 7 (some .long) ∈ gw := gw_t7 38 rfl rfl
theorem w_1462 : Cond.methodLink RX12 495 yX12_wideZero ∈ gw := gw_t7 22 rfl rfl
theorem w_1463 : Cond.static yX12_wideZero ∈ gw := gw_t7 23 rfl rfl
theorem w_1464 : Cond.code yX12_wideZero cX12_wideZero 13 (some .long) ∈ gw := gw_t7 24 rfl rfl
theorem w_1480 : Cond.constantLong RX12 499 (12997682) ∈ gw := gw_t7 40 rfl rfl
theorem w_1440 : Cond.methodLink RX12 205 yX12_signed ∈ gw := gw_t7 0 rfl rfl
theorem w_1441 : Cond.static yX12_signed ∈ gw := gw_t7 1 rfl rfl
theorem w_1442 : Cond.code yX12_signed cX12_signed 3 (some .long) ∈ gw := gw_t7 2 rfl rfl
theorem w_1486 : Cond.constantLong RX12 528 (12858662) ∈ gw := gw_t7 46 rfl rfl
theorem w_1268 : Cond.constantLong RX12 438 (16) ∈ gw := gw_t6 68 rfl rfl
theorem w_1484 : Cond.constantLong RX12 524 (1048575) ∈ gw := gw_t7 44 rfl rfl
theorem w_1485 : Cond.constantLong RX12 526 (55) ∈ gw := gw_t7 45 rfl rfl
theorem w_1492 : Cond.methodLink RX12 546 yX12_typeR ∈ gw := gw_t7 52 rfl rfl
theorem w_1493 : Cond.static yX12_typeR ∈ gw := gw_t7 53 rfl rfl
theorem w_1494 : Cond.code yX12_typeR cX12_typeR 10 (some .long) ∈ gw := gw_t7 54 rfl rfl
theorem w_1278 : Cond.constantLong RX12 440 (32) ∈ gw := gw_t6 78 rfl rfl
theorem w_1490 : Cond.constantLong RX12 446 (63) ∈ gw := gw_t7 50 rfl rfl
theorem w_1491 : Cond.constantLong RX12 544 (1024) ∈ gw := gw_t7 51 rfl rfl
theorem w_1487 : Cond.methodLink RX12 530 yX12_wideFour ∈ gw := gw_t7 47 rfl rfl
theorem w_1488 : Cond.static yX12_wideFour ∈ gw := gw_t7 48 rfl rfl
theorem w_1489 : Cond.code yX12_wideFour cX12_wideFour 10 (some .long) ∈ gw := gw_t7 49 rfl rfl
theorem w_1495 : Cond.constantLong RX12 534 (13789369120067) ∈ gw := gw_t7 55 rfl rfl
theorem w_1499 : Cond.constantLong RX12 491 (111) ∈ gw := gw_t7 59 rfl rfl
theorem w_1496 : Cond.methodLink RX12 536 yX12_typeJ ∈ gw := gw_t7 56 rfl rfl
theorem w_1497 : Cond.static yX12_typeJ ∈ gw := gw_t7 57 rfl rfl
theorem w_1498 : Cond.code yX12_typeJ cX12_typeJ 4 (some .long) ∈ gw := gw_t7 58 rfl rfl
theorem w_1500 : Cond.constantLong RX12 539 (3327310403) ∈ gw := gw_t7 60 rfl rfl
theorem w_1504 : Cond.constantLong RX12 489 (99) ∈ gw := gw_t7 64 rfl rfl
theorem w_1501 : Cond.methodLink RX12 541 yX12_typeB ∈ gw := gw_t7 61 rfl rfl
theorem w_1502 : Cond.static yX12_typeB ∈ gw := gw_t7 62 rfl rfl
theorem w_1503 : Cond.code yX12_typeB cX12_typeB 5 (some .long) ∈ gw := gw_t7 63 rfl rfl
theorem w_1481 : Cond.methodLink RX12 504 yX12_wideOne ∈ gw := gw_t7 41 rfl rfl
theorem w_1482 : Cond.static yX12_wideOne ∈ gw := gw_t7 42 rfl rfl
theorem w_1483 : Cond.code yX12_wideOne cX12_wideOne 11 (some .long) ∈ gw := gw_t7 43 rfl rfl
theorem w_1508 : Cond.constantLong RX12 550 (3327572) ∈ gw := gw_t7 68 rfl rfl
theorem w_1509 : Cond.constantLong RX12 552 (4402277) ∈ gw := gw_t7 69 rfl rfl
theorem w_1510 : Cond.constantLong RX12 477 (1048691) ∈ gw := gw_t7 70 rfl rfl
theorem w_1511 : Cond.constantLong RX12 554 (8899497) ∈ gw := gw_t7 71 rfl rfl
theorem w_1512 : Cond.constantLong RX12 556 (9993402) ∈ gw := gw_t7 72 rfl rfl
theorem w_1505 : Cond.methodLink RX12 507 yX12_wideTwo ∈ gw := gw_t7 65 rfl rfl
theorem w_1506 : Cond.static yX12_wideTwo ∈ gw := gw_t7 66 rfl rfl
theorem w_1507 : Cond.code yX12_wideTwo cX12_wideTwo 9 (some .long) ∈ gw := gw_t7 67 rfl rfl
theorem w_1552 : Cond.constantLong RX12 85 (28) ∈ gw := gw_t7 112 rfl rfl
theorem w_1285 : Cond.constantLong RX12 73 (4096) ∈ gw := gw_t6 85 rfl rfl
theorem w_1553 : Cond.constantLong RX12 91 (8192) ∈ gw := gw_t7 113 rfl rfl
theorem w_1554 : Cond.constantLong RX12 93 (8320) ∈ gw := gw_t7 114 rfl rfl
theorem w_1555 : Cond.constantLong RX12 95 (2097152) ∈ gw := gw_t7 115 rfl rfl
theorem w_1556 : Cond.constantLong RX12 97 (2101248) ∈ gw := gw_t7 116 rfl rfl
theorem w_1557 : Cond.constantLong RX12 99 (2097156) ∈ gw := gw_t7 117 rfl rfl
theorem w_1558 : Cond.constantLong RX12 101 (2101252) ∈ gw := gw_t7 118 rfl rfl
theorem w_1588 : Cond.constantLong RX12 164 (4294967295) ∈ gw := gw_t7 148 rfl rfl
theorem w_1086 : Cond.constantLong RX12 28 (-1) ∈ gw := gw_t5 126 rfl rfl
theorem w_1358 : Cond.methodLink RX12 231 yX12_isLess ∈ gw := gw_t6 158 rfl rfl
theorem w_1359 : Cond.static yX12_isLess ∈ gw := gw_t6 159 rfl rfl
theorem w_1360 : Cond.code yX12_isLess cX12_isLess 4 (some .boolean) ∈ gw := gw_t6 160 rfl rfl
theorem w_1609 : Cond.methodLink RX12 442 yX12_quotient ∈ gw := gw_t7 169 rfl rfl
theorem w_1610 : Cond.static yX12_quotient ∈ gw := gw_t7 170 rfl rfl
theorem w_1611 : Cond.code yX12_quotient cX12_quotient 11 (some .long) ∈ gw := gw_t7 171 rfl rfl
def dl_X11_lies : List (Nat × Instr × Nat) := [(0, .lload_n 0, 1), (1, .lconst 0, 1), (2, .lcmp, 1), (3, .ifCond .lt 31, 3), (6, .lload_n 0, 1), (7, .iload 4, 2), (9, .i2l, 1), (10, .lcmp, 1), (11, .ifCond .gt 23, 3), (14, .lload_n 2, 1), (15, .lconst 0, 1), (16, .lcmp, 1), (17, .ifCond .lt 17, 3), (20, .lload_n 2, 1), (21, .iload 4, 2), (23, .i2l, 1), (24, .lload_n 0, 1), (25, .lsub, 1), (26, .lcmp, 1), (27, .ifCond .gt 7, 3), (30, .iconst 1, 1), (31, .goto 4, 3), (34, .iconst 0, 1), (35, .ireturn, 1)]
theorem da_X11_lies : dkL cX11_lies dl_X11_lies = true := by decide +kernel
def f_X11_lies_b34  : Int32 := (0 : Int32)
set_option maxRecDepth 100000 in
set_option maxHeartbeats 4000000 in
theorem b_X11_lies_b34 {p : Program} {l : Launch} {e : Env} {s : State} {m : MethodId} {args : Array Value} {below : List Frame} {meth : Method} {c : Code} (E : CallFix p m c cX11_lies 5 s args gw RX11) (hr : meth.sig.returnType = some .boolean) (hlk : meth.locks = false)  {r : Int32} (h : f_X11_lies_b34  = r) {ls : Array Slot} (hl : lv_has ls 5 []) : Wp p l e 0 0 s m args below meth c (.int r) 34 ls [] := by
  have hx := E.1
  have hb := E.2.1
  have hown := E.2.2.2.1
  have hts := E.2.2.2.2
  refine lv_iconst (v := 0) hx hb (dq da_X11_lies 22 rfl) rfl ?_
  exact pret_z E hr hlk rfl h (dq da_X11_lies 23 rfl)
def f_X11_lies (x0 : Int64) (x2 : Int64) (x4 : Int32) : Int32 := if x0 < (0 : Int64) then (f_X11_lies_b34 ) else (if x4.toInt64 < x0 then (f_X11_lies_b34 ) else (if x2 < (0 : Int64) then (f_X11_lies_b34 ) else (if (x4.toInt64 - x0) < x2 then (f_X11_lies_b34 ) else (1 : Int32))))
set_option maxRecDepth 100000 in
set_option maxHeartbeats 4000000 in
theorem c_X11_lies (l : Launch) (x0 : Int64) (x2 : Int64) (x4 : Int32) : MP l yX11_lies cX11_lies 5 (some .boolean) 0 0 [.long x0, .long x2, .int x4] (.int (f_X11_lies x0 x2 x4)) := by
  refine entP (by decide +kernel) (Nat.le_of_ble_eq_true rfl) ?_
  intro p e s m args below meth c ls E hr hlk hl
  have hl : lv_has ls 5 [(0, .long x0), (2, .long x2), (4, .int x4)] := hl
  generalize h : f_X11_lies x0 x2 x4 = r
  have hx := E.1
  have hb := E.2.1
  have hown := E.2.2.2.1
  have hts := E.2.2.2.2
  refine lv_lload_n hx hb (dq da_X11_lies 0 rfl) rfl (lv_at hl 0 rfl) ?_
  refine lv_lconst (v := 0) hx hb (dq da_X11_lies 1 rfl) rfl ?_
  refine lc_lt (tgt := 34) hx hb (dq da_X11_lies 2 rfl) (dq da_X11_lies 3 rfl) (by decide) (fun c1 => ?_) (fun c1 => ?_)
  · have h := it c1 h
    exact b_X11_lies_b34 E hr hlk h (lv_sub hl [] rfl)
  · have h := ie c1 h
    refine lv_lload_n hx hb (dq da_X11_lies 4 rfl) rfl (lv_at hl 0 rfl) ?_
    refine lv_iload hx hb (dq da_X11_lies 5 rfl) (lv_at hl 2 rfl) ?_
    refine lv_i2l (v := x4.toInt64) hx hb (dq da_X11_lies 6 rfl) rfl ?_
    refine lc_gt (tgt := 34) hx hb (dq da_X11_lies 7 rfl) (dq da_X11_lies 8 rfl) (by decide) (fun c2 => ?_) (fun c2 => ?_)
    · have h := it c2 h
      exact b_X11_lies_b34 E hr hlk h (lv_sub hl [] rfl)
    · have h := ie c2 h
      refine lv_lload_n hx hb (dq da_X11_lies 9 rfl) rfl (lv_at hl 1 rfl) ?_
      refine lv_lconst (v := 0) hx hb (dq da_X11_lies 10 rfl) rfl ?_
      refine lc_lt (tgt := 34) hx hb (dq da_X11_lies 11 rfl) (dq da_X11_lies 12 rfl) (by decide) (fun c3 => ?_) (fun c3 => ?_)
      · have h := it c3 h
        exact b_X11_lies_b34 E hr hlk h (lv_sub hl [] rfl)
      · have h := ie c3 h
        refine lv_lload_n hx hb (dq da_X11_lies 13 rfl) rfl (lv_at hl 1 rfl) ?_
        refine lv_iload hx hb (dq da_X11_lies 14 rfl) (lv_at hl 2 rfl) ?_
        refine lv_i2l (v := x4.toInt64) hx hb (dq da_X11_lies 15 rfl) rfl ?_
        refine lv_lload_n hx hb (dq da_X11_lies 16 rfl) rfl (lv_at hl 0 rfl) ?_
        refine lv_lsub hx hb (dq da_X11_lies 17 rfl) ?_
        refine lc_gt (tgt := 34) hx hb (dq da_X11_lies 18 rfl) (dq da_X11_lies 19 rfl) (by decide) (fun c4 => ?_) (fun c4 => ?_)
        · have h := it c4 h
          exact b_X11_lies_b34 E hr hlk h (lv_sub hl [] rfl)
        · have h := ie c4 h
          refine lv_iconst (v := 1) hx hb (dq da_X11_lies 20 rfl) rfl ?_
          refine lv_goto (tgt := 35) hx hb (dq da_X11_lies 21 rfl) (by decide) ?_
          exact pret_z E hr hlk rfl h (dq da_X11_lies 23 rfl)
def dl_X4_knows : List (Nat × Instr × Nat) := [(0, .iload_n 0, 1), (1, .sipush 256, 3), (4, .if_icmp .eq 108, 3), (7, .iload_n 0, 1), (8, .sipush 260, 3), (11, .if_icmp .lt 10, 3), (14, .iload_n 0, 1), (15, .sipush 262, 3), (18, .if_icmp .le 94, 3), (21, .iload_n 0, 1), (22, .sipush 320, 3), (25, .if_icmp .lt 10, 3), (28, .iload_n 0, 1), (29, .sipush 324, 3), (32, .if_icmp .le 80, 3), (35, .iload_n 0, 1), (36, .sipush 384, 3), (39, .if_icmp .eq 73, 3), (42, .iload_n 0, 1), (43, .sipush 768, 3), (46, .if_icmp .lt 10, 3), (49, .iload_n 0, 1), (50, .sipush 774, 3), (53, .if_icmp .le 59, 3), (56, .iload_n 0, 1), (57, .sipush 832, 3), (60, .if_icmp .lt 10, 3), (63, .iload_n 0, 1), (64, .sipush 836, 3), (67, .if_icmp .le 45, 3), (70, .iload_n 0, 1), (71, .sipush 2816, 3), (74, .if_icmp .eq 38, 3), (77, .iload_n 0, 1), (78, .sipush 2818, 3), (81, .if_icmp .eq 31, 3), (84, .iload_n 0, 1), (85, .sipush 3072, 3), (88, .if_icmp .lt 10, 3), (91, .iload_n 0, 1), (92, .sipush 3074, 3), (95, .if_icmp .le 17, 3), (98, .iload_n 0, 1), (99, .sipush 3857, 3), (102, .if_icmp .lt 14, 3), (105, .iload_n 0, 1), (106, .sipush 3860, 3), (109, .if_icmp .gt 7, 3), (112, .iconst 1, 1), (113, .goto 4, 3), (116, .iconst 0, 1), (117, .ireturn, 1)]
theorem da_X4_knows : dkL cX4_knows dl_X4_knows = true := by decide +kernel
def f_X4_knows_b112  : Int32 := (1 : Int32)
set_option maxRecDepth 100000 in
set_option maxHeartbeats 4000000 in
theorem b_X4_knows_b112 {p : Program} {l : Launch} {e : Env} {s : State} {m : MethodId} {args : Array Value} {below : List Frame} {meth : Method} {c : Code} (E : CallFix p m c cX4_knows 1 s args gw RX4) (hr : meth.sig.returnType = some .boolean) (hlk : meth.locks = false)  {r : Int32} (h : f_X4_knows_b112  = r) {ls : Array Slot} (hl : lv_has ls 1 []) : Wp p l e 0 0 s m args below meth c (.int r) 112 ls [] := by
  have hx := E.1
  have hb := E.2.1
  have hown := E.2.2.2.1
  have hts := E.2.2.2.2
  refine lv_iconst (v := 1) hx hb (dq da_X4_knows 48 rfl) rfl ?_
  refine lv_goto (tgt := 117) hx hb (dq da_X4_knows 49 rfl) (by decide) ?_
  exact pret_z E hr hlk rfl h (dq da_X4_knows 51 rfl)
def f_X4_knows_b116  : Int32 := (0 : Int32)
set_option maxRecDepth 100000 in
set_option maxHeartbeats 4000000 in
theorem b_X4_knows_b116 {p : Program} {l : Launch} {e : Env} {s : State} {m : MethodId} {args : Array Value} {below : List Frame} {meth : Method} {c : Code} (E : CallFix p m c cX4_knows 1 s args gw RX4) (hr : meth.sig.returnType = some .boolean) (hlk : meth.locks = false)  {r : Int32} (h : f_X4_knows_b116  = r) {ls : Array Slot} (hl : lv_has ls 1 []) : Wp p l e 0 0 s m args below meth c (.int r) 116 ls [] := by
  have hx := E.1
  have hb := E.2.1
  have hown := E.2.2.2.1
  have hts := E.2.2.2.2
  refine lv_iconst (v := 0) hx hb (dq da_X4_knows 50 rfl) rfl ?_
  exact pret_z E hr hlk rfl h (dq da_X4_knows 51 rfl)
def f_X4_knows_b98 (x0 : Int32) : Int32 := if x0 < (3857 : Int32) then (f_X4_knows_b116 ) else (if (3860 : Int32) < x0 then (f_X4_knows_b116 ) else (f_X4_knows_b112 ))
set_option maxRecDepth 100000 in
set_option maxHeartbeats 4000000 in
theorem b_X4_knows_b98 {p : Program} {l : Launch} {e : Env} {s : State} {m : MethodId} {args : Array Value} {below : List Frame} {meth : Method} {c : Code} (E : CallFix p m c cX4_knows 1 s args gw RX4) (hr : meth.sig.returnType = some .boolean) (hlk : meth.locks = false) {x0 : Int32} {r : Int32} (h : f_X4_knows_b98 x0 = r) {ls : Array Slot} (hl : lv_has ls 1 [(0, .int x0)]) : Wp p l e 0 0 s m args below meth c (.int r) 98 ls [] := by
  have hx := E.1
  have hb := E.2.1
  have hown := E.2.2.2.1
  have hts := E.2.2.2.2
  refine lv_iload_n hx hb (dq da_X4_knows 42 rfl) rfl (lv_at hl 0 rfl) ?_
  refine lv_sipush (v := 3857) hx hb (dq da_X4_knows 43 rfl) rfl ?_
  refine lv_icmp_lt (tgt := 116) hx hb (dq da_X4_knows 44 rfl) (by decide) (fun c10 => ?_) (fun c10 => ?_)
  · have h := it c10 h
    exact b_X4_knows_b116 E hr hlk h (lv_sub hl [] rfl)
  · have h := ie c10 h
    refine lv_iload_n hx hb (dq da_X4_knows 45 rfl) rfl (lv_at hl 0 rfl) ?_
    refine lv_sipush (v := 3860) hx hb (dq da_X4_knows 46 rfl) rfl ?_
    refine lv_icmp_gt (tgt := 116) hx hb (dq da_X4_knows 47 rfl) (by decide) (fun c11 => ?_) (fun c11 => ?_)
    · have h := it c11 h
      exact b_X4_knows_b116 E hr hlk h (lv_sub hl [] rfl)
    · have h := ie c11 h
      exact b_X4_knows_b112 E hr hlk h (lv_sub hl [] rfl)
def f_X4_knows_b70 (x0 : Int32) : Int32 := if x0 = (2816 : Int32) then (f_X4_knows_b112 ) else (if x0 = (2818 : Int32) then (f_X4_knows_b112 ) else (if x0 < (3072 : Int32) then (f_X4_knows_b98 x0) else (if x0 ≤ (3074 : Int32) then (f_X4_knows_b112 ) else (f_X4_knows_b98 x0))))
set_option maxRecDepth 100000 in
set_option maxHeartbeats 4000000 in
theorem b_X4_knows_b70 {p : Program} {l : Launch} {e : Env} {s : State} {m : MethodId} {args : Array Value} {below : List Frame} {meth : Method} {c : Code} (E : CallFix p m c cX4_knows 1 s args gw RX4) (hr : meth.sig.returnType = some .boolean) (hlk : meth.locks = false) {x0 : Int32} {r : Int32} (h : f_X4_knows_b70 x0 = r) {ls : Array Slot} (hl : lv_has ls 1 [(0, .int x0)]) : Wp p l e 0 0 s m args below meth c (.int r) 70 ls [] := by
  have hx := E.1
  have hb := E.2.1
  have hown := E.2.2.2.1
  have hts := E.2.2.2.2
  refine lv_iload_n hx hb (dq da_X4_knows 30 rfl) rfl (lv_at hl 0 rfl) ?_
  refine lv_sipush (v := 2816) hx hb (dq da_X4_knows 31 rfl) rfl ?_
  refine lv_icmp_eq (tgt := 112) hx hb (dq da_X4_knows 32 rfl) (by decide) (fun c7 => ?_) (fun c7 => ?_)
  · have h := it c7 h
    exact b_X4_knows_b112 E hr hlk h (lv_sub hl [] rfl)
  · have h := ie c7 h
    refine lv_iload_n hx hb (dq da_X4_knows 33 rfl) rfl (lv_at hl 0 rfl) ?_
    refine lv_sipush (v := 2818) hx hb (dq da_X4_knows 34 rfl) rfl ?_
    refine lv_icmp_eq (tgt := 112) hx hb (dq da_X4_knows 35 rfl) (by decide) (fun c8 => ?_) (fun c8 => ?_)
    · have h := it c8 h
      exact b_X4_knows_b112 E hr hlk h (lv_sub hl [] rfl)
    · have h := ie c8 h
      refine lv_iload_n hx hb (dq da_X4_knows 36 rfl) rfl (lv_at hl 0 rfl) ?_
      refine lv_sipush (v := 3072) hx hb (dq da_X4_knows 37 rfl) rfl ?_
      refine lv_icmp_lt (tgt := 98) hx hb (dq da_X4_knows 38 rfl) (by decide) (fun c9 => ?_) (fun c9 => ?_)
      · have h := it c9 h
        exact b_X4_knows_b98 E hr hlk h (lv_sub hl [0] rfl)
      · have h := ie c9 h
        refine lv_iload_n hx hb (dq da_X4_knows 39 rfl) rfl (lv_at hl 0 rfl) ?_
        refine lv_sipush (v := 3074) hx hb (dq da_X4_knows 40 rfl) rfl ?_
        refine lv_icmp_le (tgt := 112) hx hb (dq da_X4_knows 41 rfl) (by decide) (fun c12 => ?_) (fun c12 => ?_)
        · have h := it c12 h
          exact b_X4_knows_b112 E hr hlk h (lv_sub hl [] rfl)
        · have h := ie c12 h
          exact b_X4_knows_b98 E hr hlk h (lv_sub hl [0] rfl)
def f_X4_knows_b56 (x0 : Int32) : Int32 := if x0 < (832 : Int32) then (f_X4_knows_b70 x0) else (if x0 ≤ (836 : Int32) then (f_X4_knows_b112 ) else (f_X4_knows_b70 x0))
set_option maxRecDepth 100000 in
set_option maxHeartbeats 4000000 in
theorem b_X4_knows_b56 {p : Program} {l : Launch} {e : Env} {s : State} {m : MethodId} {args : Array Value} {below : List Frame} {meth : Method} {c : Code} (E : CallFix p m c cX4_knows 1 s args gw RX4) (hr : meth.sig.returnType = some .boolean) (hlk : meth.locks = false) {x0 : Int32} {r : Int32} (h : f_X4_knows_b56 x0 = r) {ls : Array Slot} (hl : lv_has ls 1 [(0, .int x0)]) : Wp p l e 0 0 s m args below meth c (.int r) 56 ls [] := by
  have hx := E.1
  have hb := E.2.1
  have hown := E.2.2.2.1
  have hts := E.2.2.2.2
  refine lv_iload_n hx hb (dq da_X4_knows 24 rfl) rfl (lv_at hl 0 rfl) ?_
  refine lv_sipush (v := 832) hx hb (dq da_X4_knows 25 rfl) rfl ?_
  refine lv_icmp_lt (tgt := 70) hx hb (dq da_X4_knows 26 rfl) (by decide) (fun c6 => ?_) (fun c6 => ?_)
  · have h := it c6 h
    exact b_X4_knows_b70 E hr hlk h (lv_sub hl [0] rfl)
  · have h := ie c6 h
    refine lv_iload_n hx hb (dq da_X4_knows 27 rfl) rfl (lv_at hl 0 rfl) ?_
    refine lv_sipush (v := 836) hx hb (dq da_X4_knows 28 rfl) rfl ?_
    refine lv_icmp_le (tgt := 112) hx hb (dq da_X4_knows 29 rfl) (by decide) (fun c13 => ?_) (fun c13 => ?_)
    · have h := it c13 h
      exact b_X4_knows_b112 E hr hlk h (lv_sub hl [] rfl)
    · have h := ie c13 h
      exact b_X4_knows_b70 E hr hlk h (lv_sub hl [0] rfl)
def f_X4_knows_b35 (x0 : Int32) : Int32 := if x0 = (384 : Int32) then (f_X4_knows_b112 ) else (if x0 < (768 : Int32) then (f_X4_knows_b56 x0) else (if x0 ≤ (774 : Int32) then (f_X4_knows_b112 ) else (f_X4_knows_b56 x0)))
set_option maxRecDepth 100000 in
set_option maxHeartbeats 4000000 in
theorem b_X4_knows_b35 {p : Program} {l : Launch} {e : Env} {s : State} {m : MethodId} {args : Array Value} {below : List Frame} {meth : Method} {c : Code} (E : CallFix p m c cX4_knows 1 s args gw RX4) (hr : meth.sig.returnType = some .boolean) (hlk : meth.locks = false) {x0 : Int32} {r : Int32} (h : f_X4_knows_b35 x0 = r) {ls : Array Slot} (hl : lv_has ls 1 [(0, .int x0)]) : Wp p l e 0 0 s m args below meth c (.int r) 35 ls [] := by
  have hx := E.1
  have hb := E.2.1
  have hown := E.2.2.2.1
  have hts := E.2.2.2.2
  refine lv_iload_n hx hb (dq da_X4_knows 15 rfl) rfl (lv_at hl 0 rfl) ?_
  refine lv_sipush (v := 384) hx hb (dq da_X4_knows 16 rfl) rfl ?_
  refine lv_icmp_eq (tgt := 112) hx hb (dq da_X4_knows 17 rfl) (by decide) (fun c4 => ?_) (fun c4 => ?_)
  · have h := it c4 h
    exact b_X4_knows_b112 E hr hlk h (lv_sub hl [] rfl)
  · have h := ie c4 h
    refine lv_iload_n hx hb (dq da_X4_knows 18 rfl) rfl (lv_at hl 0 rfl) ?_
    refine lv_sipush (v := 768) hx hb (dq da_X4_knows 19 rfl) rfl ?_
    refine lv_icmp_lt (tgt := 56) hx hb (dq da_X4_knows 20 rfl) (by decide) (fun c5 => ?_) (fun c5 => ?_)
    · have h := it c5 h
      exact b_X4_knows_b56 E hr hlk h (lv_sub hl [0] rfl)
    · have h := ie c5 h
      refine lv_iload_n hx hb (dq da_X4_knows 21 rfl) rfl (lv_at hl 0 rfl) ?_
      refine lv_sipush (v := 774) hx hb (dq da_X4_knows 22 rfl) rfl ?_
      refine lv_icmp_le (tgt := 112) hx hb (dq da_X4_knows 23 rfl) (by decide) (fun c14 => ?_) (fun c14 => ?_)
      · have h := it c14 h
        exact b_X4_knows_b112 E hr hlk h (lv_sub hl [] rfl)
      · have h := ie c14 h
        exact b_X4_knows_b56 E hr hlk h (lv_sub hl [0] rfl)
def f_X4_knows_b21 (x0 : Int32) : Int32 := if x0 < (320 : Int32) then (f_X4_knows_b35 x0) else (if x0 ≤ (324 : Int32) then (f_X4_knows_b112 ) else (f_X4_knows_b35 x0))
set_option maxRecDepth 100000 in
set_option maxHeartbeats 4000000 in
theorem b_X4_knows_b21 {p : Program} {l : Launch} {e : Env} {s : State} {m : MethodId} {args : Array Value} {below : List Frame} {meth : Method} {c : Code} (E : CallFix p m c cX4_knows 1 s args gw RX4) (hr : meth.sig.returnType = some .boolean) (hlk : meth.locks = false) {x0 : Int32} {r : Int32} (h : f_X4_knows_b21 x0 = r) {ls : Array Slot} (hl : lv_has ls 1 [(0, .int x0)]) : Wp p l e 0 0 s m args below meth c (.int r) 21 ls [] := by
  have hx := E.1
  have hb := E.2.1
  have hown := E.2.2.2.1
  have hts := E.2.2.2.2
  refine lv_iload_n hx hb (dq da_X4_knows 9 rfl) rfl (lv_at hl 0 rfl) ?_
  refine lv_sipush (v := 320) hx hb (dq da_X4_knows 10 rfl) rfl ?_
  refine lv_icmp_lt (tgt := 35) hx hb (dq da_X4_knows 11 rfl) (by decide) (fun c3 => ?_) (fun c3 => ?_)
  · have h := it c3 h
    exact b_X4_knows_b35 E hr hlk h (lv_sub hl [0] rfl)
  · have h := ie c3 h
    refine lv_iload_n hx hb (dq da_X4_knows 12 rfl) rfl (lv_at hl 0 rfl) ?_
    refine lv_sipush (v := 324) hx hb (dq da_X4_knows 13 rfl) rfl ?_
    refine lv_icmp_le (tgt := 112) hx hb (dq da_X4_knows 14 rfl) (by decide) (fun c15 => ?_) (fun c15 => ?_)
    · have h := it c15 h
      exact b_X4_knows_b112 E hr hlk h (lv_sub hl [] rfl)
    · have h := ie c15 h
      exact b_X4_knows_b35 E hr hlk h (lv_sub hl [0] rfl)
def f_X4_knows (x0 : Int32) : Int32 := if x0 = (256 : Int32) then (f_X4_knows_b112 ) else (if x0 < (260 : Int32) then (f_X4_knows_b21 x0) else (if x0 ≤ (262 : Int32) then (f_X4_knows_b112 ) else (f_X4_knows_b21 x0)))
set_option maxRecDepth 100000 in
set_option maxHeartbeats 4000000 in
theorem c_X4_knows (l : Launch) (x0 : Int32) : MP l yX4_knows cX4_knows 1 (some .boolean) 0 0 [.int x0] (.int (f_X4_knows x0)) := by
  refine entP (by decide +kernel) (Nat.le_of_ble_eq_true rfl) ?_
  intro p e s m args below meth c ls E hr hlk hl
  have hl : lv_has ls 1 [(0, .int x0)] := hl
  generalize h : f_X4_knows x0 = r
  have hx := E.1
  have hb := E.2.1
  have hown := E.2.2.2.1
  have hts := E.2.2.2.2
  refine lv_iload_n hx hb (dq da_X4_knows 0 rfl) rfl (lv_at hl 0 rfl) ?_
  refine lv_sipush (v := 256) hx hb (dq da_X4_knows 1 rfl) rfl ?_
  refine lv_icmp_eq (tgt := 112) hx hb (dq da_X4_knows 2 rfl) (by decide) (fun c1 => ?_) (fun c1 => ?_)
  · have h := it c1 h
    exact b_X4_knows_b112 E hr hlk h (lv_sub hl [] rfl)
  · have h := ie c1 h
    refine lv_iload_n hx hb (dq da_X4_knows 3 rfl) rfl (lv_at hl 0 rfl) ?_
    refine lv_sipush (v := 260) hx hb (dq da_X4_knows 4 rfl) rfl ?_
    refine lv_icmp_lt (tgt := 21) hx hb (dq da_X4_knows 5 rfl) (by decide) (fun c2 => ?_) (fun c2 => ?_)
    · have h := it c2 h
      exact b_X4_knows_b21 E hr hlk h (lv_sub hl [0] rfl)
    · have h := ie c2 h
      refine lv_iload_n hx hb (dq da_X4_knows 6 rfl) rfl (lv_at hl 0 rfl) ?_
      refine lv_sipush (v := 262) hx hb (dq da_X4_knows 7 rfl) rfl ?_
      refine lv_icmp_le (tgt := 112) hx hb (dq da_X4_knows 8 rfl) (by decide) (fun c16 => ?_) (fun c16 => ?_)
      · have h := it c16 h
        exact b_X4_knows_b112 E hr hlk h (lv_sub hl [] rfl)
      · have h := ie c16 h
        exact b_X4_knows_b21 E hr hlk h (lv_sub hl [0] rfl)
def dl_X0_below : List (Nat × Instr × Nat) := [(0, .lload_n 0, 1), (1, .ldc2_w 9, 3), (4, .ladd, 1), (5, .lload_n 2, 1), (6, .ldc2_w 9, 3), (9, .ladd, 1), (10, .lcmp, 1), (11, .ifCond .ge 7, 3), (14, .iconst 1, 1), (15, .goto 4, 3), (18, .iconst 0, 1), (19, .ireturn, 1)]
theorem da_X0_below : dkL cX0_below dl_X0_below = true := by decide +kernel
def f_X0_below (x0 : Int64) (x2 : Int64) : Int32 := if (x2 + (-9223372036854775808 : Int64)) ≤ (x0 + (-9223372036854775808 : Int64)) then (0 : Int32) else (1 : Int32)
set_option maxRecDepth 100000 in
set_option maxHeartbeats 4000000 in
theorem c_X0_below (l : Launch) (x0 : Int64) (x2 : Int64) : MP l yX0_below cX0_below 4 (some .boolean) 0 0 [.long x0, .long x2] (.int (f_X0_below x0 x2)) := by
  refine entP (by decide +kernel) (Nat.le_of_ble_eq_true rfl) ?_
  intro p e s m args below meth c ls E hr hlk hl
  have hl : lv_has ls 4 [(0, .long x0), (2, .long x2)] := hl
  generalize h : f_X0_below x0 x2 = r
  have hx := E.1
  have hb := E.2.1
  have hown := E.2.2.2.1
  have hts := E.2.2.2.2
  refine lv_lload_n hx hb (dq da_X0_below 0 rfl) rfl (lv_at hl 0 rfl) ?_
  refine lv_ldc2 hx hb hown (hts _ w_576) (dq da_X0_below 1 rfl) ?_
  refine lv_ladd hx hb (dq da_X0_below 2 rfl) ?_
  refine lv_lload_n hx hb (dq da_X0_below 3 rfl) rfl (lv_at hl 1 rfl) ?_
  refine lv_ldc2 hx hb hown (hts _ w_576) (dq da_X0_below 4 rfl) ?_
  refine lv_ladd hx hb (dq da_X0_below 5 rfl) ?_
  refine lc_ge (tgt := 18) hx hb (dq da_X0_below 6 rfl) (dq da_X0_below 7 rfl) (by decide) (fun c1 => ?_) (fun c1 => ?_)
  · have h := it c1 h
    refine lv_iconst (v := 0) hx hb (dq da_X0_below 10 rfl) rfl ?_
    exact pret_z E hr hlk rfl h (dq da_X0_below 11 rfl)
  · have h := ie c1 h
    refine lv_iconst (v := 1) hx hb (dq da_X0_below 8 rfl) rfl ?_
    refine lv_goto (tgt := 19) hx hb (dq da_X0_below 9 rfl) (by decide) ?_
    exact pret_z E hr hlk rfl h (dq da_X0_below 11 rfl)
def dl_X4_mixed : List (Nat × Instr × Nat) := [(0, .lload_n 0, 1), (1, .lload 4, 2), (3, .ldc2_w 108, 3), (6, .lxor, 1), (7, .land, 1), (8, .lload_n 2, 1), (9, .lload 4, 2), (11, .land, 1), (12, .lor, 1), (13, .lreturn, 1)]
theorem da_X4_mixed : dkL cX4_mixed dl_X4_mixed = true := by decide +kernel
def f_X4_mixed (x0 : Int64) (x2 : Int64) (x4 : Int64) : Int64 := ((x0 &&& (x4 ^^^ (-1 : Int64))) ||| (x2 &&& x4))
set_option maxRecDepth 100000 in
set_option maxHeartbeats 4000000 in
theorem c_X4_mixed (l : Launch) (x0 : Int64) (x2 : Int64) (x4 : Int64) : MP l yX4_mixed cX4_mixed 6 (some .long) 0 0 [.long x0, .long x2, .long x4] (.long (f_X4_mixed x0 x2 x4)) := by
  refine entP (by decide +kernel) (Nat.le_of_ble_eq_true rfl) ?_
  intro p e s m args below meth c ls E hr hlk hl
  have hl : lv_has ls 6 [(0, .long x0), (2, .long x2), (4, .long x4)] := hl
  generalize h : f_X4_mixed x0 x2 x4 = r
  have hx := E.1
  have hb := E.2.1
  have hown := E.2.2.2.1
  have hts := E.2.2.2.2
  refine lv_lload_n hx hb (dq da_X4_mixed 0 rfl) rfl (lv_at hl 0 rfl) ?_
  refine lv_lload hx hb (dq da_X4_mixed 1 rfl) (lv_at hl 2 rfl) ?_
  refine lv_ldc2 hx hb hown (hts _ w_605) (dq da_X4_mixed 2 rfl) ?_
  refine lv_lxor hx hb (dq da_X4_mixed 3 rfl) ?_
  refine lv_land hx hb (dq da_X4_mixed 4 rfl) ?_
  refine lv_lload_n hx hb (dq da_X4_mixed 5 rfl) rfl (lv_at hl 1 rfl) ?_
  refine lv_lload hx hb (dq da_X4_mixed 6 rfl) (lv_at hl 2 rfl) ?_
  refine lv_land hx hb (dq da_X4_mixed 7 rfl) ?_
  refine lv_lor hx hb (dq da_X4_mixed 8 rfl) ?_
  exact pret_l E hr hlk h (dq da_X4_mixed 9 rfl)
def dl_X9_pageFault : List (Nat × Instr × Nat) := [(0, .iload_n 0, 1), (1, .lookupswitch 33 #[(0, 27), (1, 30)], 27), (28, .bipush 12, 2), (30, .ireturn, 1), (31, .bipush 13, 2), (33, .ireturn, 1), (34, .bipush 15, 2), (36, .ireturn, 1)]
theorem da_X9_pageFault : dkL cX9_pageFault dl_X9_pageFault = true := by decide +kernel
def f_X9_pageFault (x0 : Int32) : Int32 := if x0 = (0 : Int32) then (12 : Int32) else if x0 = (1 : Int32) then (13 : Int32) else (15 : Int32)
set_option maxRecDepth 100000 in
set_option maxHeartbeats 4000000 in
theorem c_X9_pageFault (l : Launch) (x0 : Int32) : MP l yX9_pageFault cX9_pageFault 1 (some .int) 0 0 [.int x0] (.int (f_X9_pageFault x0)) := by
  refine entP (by decide +kernel) (Nat.le_of_ble_eq_true rfl) ?_
  intro p e s m args below meth c ls E hr hlk hl
  have hl : lv_has ls 1 [(0, .int x0)] := hl
  generalize h : f_X9_pageFault x0 = r
  have hx := E.1
  have hb := E.2.1
  have hown := E.2.2.2.1
  have hts := E.2.2.2.2
  refine lv_iload_n hx hb (dq da_X9_pageFault 0 rfl) rfl (lv_at hl 0 rfl) ?_
  by_cases c1 : x0 = (0 : Int32)
  · have h := it c1 h
    refine lv_lookup (off := 27) (tgt := 28) hx hb (dq da_X9_pageFault 1 rfl) (by decide +kernel) (by rw [c1]; decide +kernel) (by decide) ?_
    refine lv_bipush (v := 12) hx hb (dq da_X9_pageFault 2 rfl) rfl ?_
    exact pret_i E hr hlk h (dq da_X9_pageFault 3 rfl)
  · have h := ie c1 h
    by_cases c2 : x0 = (1 : Int32)
    · have h := it c2 h
      refine lv_lookup (off := 30) (tgt := 31) hx hb (dq da_X9_pageFault 1 rfl) (by decide +kernel) (by rw [c2]; decide +kernel) (by decide) ?_
      refine lv_bipush (v := 13) hx hb (dq da_X9_pageFault 4 rfl) rfl ?_
      exact pret_i E hr hlk h (dq da_X9_pageFault 5 rfl)
    · have h := ie c2 h
      refine lv_lookup (off := 33) (tgt := 34) hx hb (dq da_X9_pageFault 1 rfl) (by decide +kernel) (by show Op.lookupswitch.offset [(0, 27), (1, 30)] (33) _ = _; rw [lv_osw (k := (0 : Int32)) (a := 0) c1 rfl, lv_osw (k := (1 : Int32)) (a := 1) c2 rfl]; rfl) (by decide) ?_
      refine lv_bipush (v := 15) hx hb (dq da_X9_pageFault 6 rfl) rfl ?_
      exact pret_i E hr hlk h (dq da_X9_pageFault 7 rfl)
def dl_X9_accessFault : List (Nat × Instr × Nat) := [(0, .iload_n 0, 1), (1, .lookupswitch 31 #[(0, 27), (1, 29)], 27), (28, .iconst 1, 1), (29, .ireturn, 1), (30, .iconst 5, 1), (31, .ireturn, 1), (32, .bipush 7, 2), (34, .ireturn, 1)]
theorem da_X9_accessFault : dkL cX9_accessFault dl_X9_accessFault = true := by decide +kernel
def f_X9_accessFault (x0 : Int32) : Int32 := if x0 = (0 : Int32) then (1 : Int32) else if x0 = (1 : Int32) then (5 : Int32) else (7 : Int32)
set_option maxRecDepth 100000 in
set_option maxHeartbeats 4000000 in
theorem c_X9_accessFault (l : Launch) (x0 : Int32) : MP l yX9_accessFault cX9_accessFault 1 (some .int) 0 0 [.int x0] (.int (f_X9_accessFault x0)) := by
  refine entP (by decide +kernel) (Nat.le_of_ble_eq_true rfl) ?_
  intro p e s m args below meth c ls E hr hlk hl
  have hl : lv_has ls 1 [(0, .int x0)] := hl
  generalize h : f_X9_accessFault x0 = r
  have hx := E.1
  have hb := E.2.1
  have hown := E.2.2.2.1
  have hts := E.2.2.2.2
  refine lv_iload_n hx hb (dq da_X9_accessFault 0 rfl) rfl (lv_at hl 0 rfl) ?_
  by_cases c1 : x0 = (0 : Int32)
  · have h := it c1 h
    refine lv_lookup (off := 27) (tgt := 28) hx hb (dq da_X9_accessFault 1 rfl) (by decide +kernel) (by rw [c1]; decide +kernel) (by decide) ?_
    refine lv_iconst (v := 1) hx hb (dq da_X9_accessFault 2 rfl) rfl ?_
    exact pret_i E hr hlk h (dq da_X9_accessFault 3 rfl)
  · have h := ie c1 h
    by_cases c2 : x0 = (1 : Int32)
    · have h := it c2 h
      refine lv_lookup (off := 29) (tgt := 30) hx hb (dq da_X9_accessFault 1 rfl) (by decide +kernel) (by rw [c2]; decide +kernel) (by decide) ?_
      refine lv_iconst (v := 5) hx hb (dq da_X9_accessFault 4 rfl) rfl ?_
      exact pret_i E hr hlk h (dq da_X9_accessFault 5 rfl)
    · have h := ie c2 h
      refine lv_lookup (off := 31) (tgt := 32) hx hb (dq da_X9_accessFault 1 rfl) (by decide +kernel) (by show Op.lookupswitch.offset [(0, 27), (1, 29)] (31) _ = _; rw [lv_osw (k := (0 : Int32)) (a := 0) c1 rfl, lv_osw (k := (1 : Int32)) (a := 1) c2 rfl]; rfl) (by decide) ?_
      refine lv_bipush (v := 7) hx hb (dq da_X9_accessFault 6 rfl) rfl ?_
      exact pret_i E hr hlk h (dq da_X9_accessFault 7 rfl)
def dl_X9_broken : List (Nat × Instr × Nat) := [(0, .lload_n 0, 1), (1, .lconst 1, 1), (2, .land, 1), (3, .lconst 0, 1), (4, .lcmp, 1), (5, .ifCond .eq 24, 3), (8, .lload_n 0, 1), (9, .ldc2_w 64, 3), (12, .land, 1), (13, .ldc2_w 66, 3), (16, .lcmp, 1), (17, .ifCond .eq 12, 3), (20, .lload_n 0, 1), (21, .bipush 54, 2), (23, .lushr, 1), (24, .lconst 0, 1), (25, .lcmp, 1), (26, .ifCond .eq 7, 3), (29, .iconst 1, 1), (30, .goto 4, 3), (33, .iconst 0, 1), (34, .ireturn, 1)]
theorem da_X9_broken : dkL cX9_broken dl_X9_broken = true := by decide +kernel
def f_X9_broken_b29  : Int32 := (1 : Int32)
set_option maxRecDepth 100000 in
set_option maxHeartbeats 4000000 in
theorem b_X9_broken_b29 {p : Program} {l : Launch} {e : Env} {s : State} {m : MethodId} {args : Array Value} {below : List Frame} {meth : Method} {c : Code} (E : CallFix p m c cX9_broken 2 s args gw RX9) (hr : meth.sig.returnType = some .boolean) (hlk : meth.locks = false)  {r : Int32} (h : f_X9_broken_b29  = r) {ls : Array Slot} (hl : lv_has ls 2 []) : Wp p l e 0 0 s m args below meth c (.int r) 29 ls [] := by
  have hx := E.1
  have hb := E.2.1
  have hown := E.2.2.2.1
  have hts := E.2.2.2.2
  refine lv_iconst (v := 1) hx hb (dq da_X9_broken 18 rfl) rfl ?_
  refine lv_goto (tgt := 34) hx hb (dq da_X9_broken 19 rfl) (by decide) ?_
  exact pret_z E hr hlk rfl h (dq da_X9_broken 21 rfl)
def f_X9_broken (x0 : Int64) : Int32 := if (x0 &&& (1 : Int64)) = (0 : Int64) then (f_X9_broken_b29 ) else (if (x0 &&& (6 : Int64)) = (4 : Int64) then (f_X9_broken_b29 ) else (if (j_lushr x0 (54 : Int32)) = (0 : Int64) then (0 : Int32) else (f_X9_broken_b29 )))
set_option maxRecDepth 100000 in
set_option maxHeartbeats 4000000 in
theorem c_X9_broken (l : Launch) (x0 : Int64) : MP l yX9_broken cX9_broken 2 (some .boolean) 0 0 [.long x0] (.int (f_X9_broken x0)) := by
  refine entP (by decide +kernel) (Nat.le_of_ble_eq_true rfl) ?_
  intro p e s m args below meth c ls E hr hlk hl
  have hl : lv_has ls 2 [(0, .long x0)] := hl
  generalize h : f_X9_broken x0 = r
  have hx := E.1
  have hb := E.2.1
  have hown := E.2.2.2.1
  have hts := E.2.2.2.2
  refine lv_lload_n hx hb (dq da_X9_broken 0 rfl) rfl (lv_at hl 0 rfl) ?_
  refine lv_lconst (v := 1) hx hb (dq da_X9_broken 1 rfl) rfl ?_
  refine lv_land hx hb (dq da_X9_broken 2 rfl) ?_
  refine lv_lconst (v := 0) hx hb (dq da_X9_broken 3 rfl) rfl ?_
  refine lc_eq (tgt := 29) hx hb (dq da_X9_broken 4 rfl) (dq da_X9_broken 5 rfl) (by decide) (fun c1 => ?_) (fun c1 => ?_)
  · have h := it c1 h
    exact b_X9_broken_b29 E hr hlk h (lv_sub hl [] rfl)
  · have h := ie c1 h
    refine lv_lload_n hx hb (dq da_X9_broken 6 rfl) rfl (lv_at hl 0 rfl) ?_
    refine lv_ldc2 hx hb hown (hts _ w_744) (dq da_X9_broken 7 rfl) ?_
    refine lv_land hx hb (dq da_X9_broken 8 rfl) ?_
    refine lv_ldc2 hx hb hown (hts _ w_745) (dq da_X9_broken 9 rfl) ?_
    refine lc_eq (tgt := 29) hx hb (dq da_X9_broken 10 rfl) (dq da_X9_broken 11 rfl) (by decide) (fun c2 => ?_) (fun c2 => ?_)
    · have h := it c2 h
      exact b_X9_broken_b29 E hr hlk h (lv_sub hl [] rfl)
    · have h := ie c2 h
      refine lv_lload_n hx hb (dq da_X9_broken 12 rfl) rfl (lv_at hl 0 rfl) ?_
      refine lv_bipush (v := 54) hx hb (dq da_X9_broken 13 rfl) rfl ?_
      refine lv_lushr (v := (j_lushr x0 (54 : Int32))) hx hb (dq da_X9_broken 14 rfl) rfl ?_
      refine lv_lconst (v := 0) hx hb (dq da_X9_broken 15 rfl) rfl ?_
      refine lc_eq (tgt := 33) hx hb (dq da_X9_broken 16 rfl) (dq da_X9_broken 17 rfl) (by decide) (fun c3 => ?_) (fun c3 => ?_)
      · have h := it c3 h
        refine lv_iconst (v := 0) hx hb (dq da_X9_broken 20 rfl) rfl ?_
        exact pret_z E hr hlk rfl h (dq da_X9_broken 21 rfl)
      · have h := ie c3 h
        exact b_X9_broken_b29 E hr hlk h (lv_sub hl [] rfl)
def dl_X9_aligned : List (Nat × Instr × Nat) := [(0, .lload_n 0, 1), (1, .bipush 10, 2), (3, .lushr, 1), (4, .lconst 1, 1), (5, .bipush 9, 2), (7, .iload_n 2, 1), (8, .imul, 1), (9, .lshl, 1), (10, .lconst 1, 1), (11, .lsub, 1), (12, .land, 1), (13, .lconst 0, 1), (14, .lcmp, 1), (15, .ifCond .ne 7, 3), (18, .iconst 1, 1), (19, .goto 4, 3), (22, .iconst 0, 1), (23, .ireturn, 1)]
theorem da_X9_aligned : dkL cX9_aligned dl_X9_aligned = true := by decide +kernel
def f_X9_aligned (x0 : Int64) (x2 : Int32) : Int32 := if ((j_lushr x0 (10 : Int32)) &&& ((j_lshl (1 : Int64) ((9 : Int32) * x2)) - (1 : Int64))) = (0 : Int64) then (1 : Int32) else (0 : Int32)
set_option maxRecDepth 100000 in
set_option maxHeartbeats 4000000 in
theorem c_X9_aligned (l : Launch) (x0 : Int64) (x2 : Int32) : MP l yX9_aligned cX9_aligned 3 (some .boolean) 0 0 [.long x0, .int x2] (.int (f_X9_aligned x0 x2)) := by
  refine entP (by decide +kernel) (Nat.le_of_ble_eq_true rfl) ?_
  intro p e s m args below meth c ls E hr hlk hl
  have hl : lv_has ls 3 [(0, .long x0), (2, .int x2)] := hl
  generalize h : f_X9_aligned x0 x2 = r
  have hx := E.1
  have hb := E.2.1
  have hown := E.2.2.2.1
  have hts := E.2.2.2.2
  refine lv_lload_n hx hb (dq da_X9_aligned 0 rfl) rfl (lv_at hl 0 rfl) ?_
  refine lv_bipush (v := 10) hx hb (dq da_X9_aligned 1 rfl) rfl ?_
  refine lv_lushr (v := (j_lushr x0 (10 : Int32))) hx hb (dq da_X9_aligned 2 rfl) rfl ?_
  refine lv_lconst (v := 1) hx hb (dq da_X9_aligned 3 rfl) rfl ?_
  refine lv_bipush (v := 9) hx hb (dq da_X9_aligned 4 rfl) rfl ?_
  refine lv_iload_n hx hb (dq da_X9_aligned 5 rfl) rfl (lv_at hl 1 rfl) ?_
  refine lv_imul hx hb (dq da_X9_aligned 6 rfl) ?_
  refine lv_lshl (v := (j_lshl (1 : Int64) ((9 : Int32) * x2))) hx hb (dq da_X9_aligned 7 rfl) rfl ?_
  refine lv_lconst (v := 1) hx hb (dq da_X9_aligned 8 rfl) rfl ?_
  refine lv_lsub hx hb (dq da_X9_aligned 9 rfl) ?_
  refine lv_land hx hb (dq da_X9_aligned 10 rfl) ?_
  refine lv_lconst (v := 0) hx hb (dq da_X9_aligned 11 rfl) rfl ?_
  refine lc_ne (tgt := 22) hx hb (dq da_X9_aligned 12 rfl) (dq da_X9_aligned 13 rfl) (by decide) (fun c1 => ?_) (fun c1 => ?_)
  · have h := ie c1 h
    refine lv_iconst (v := 0) hx hb (dq da_X9_aligned 16 rfl) rfl ?_
    exact pret_z E hr hlk rfl h (dq da_X9_aligned 17 rfl)
  · have h := it c1 h
    refine lv_iconst (v := 1) hx hb (dq da_X9_aligned 14 rfl) rfl ?_
    refine lv_goto (tgt := 23) hx hb (dq da_X9_aligned 15 rfl) (by decide) ?_
    exact pret_z E hr hlk rfl h (dq da_X9_aligned 17 rfl)
def dl_X9_joined : List (Nat × Instr × Nat) := [(0, .lconst 1, 1), (1, .bipush 12, 2), (3, .bipush 9, 2), (5, .iload 4, 2), (7, .imul, 1), (8, .iadd, 1), (9, .lshl, 1), (10, .lconst 1, 1), (11, .lsub, 1), (12, .lstore 5, 2), (14, .lload_n 0, 1), (15, .bipush 10, 2), (17, .lushr, 1), (18, .ldc2_w 21, 3), (21, .land, 1), (22, .bipush 12, 2), (24, .lshl, 1), (25, .lload 5, 2), (27, .ldc2_w 83, 3), (30, .lxor, 1), (31, .land, 1), (32, .lload_n 2, 1), (33, .lload 5, 2), (35, .land, 1), (36, .lor, 1), (37, .lreturn, 1)]
theorem da_X9_joined : dkL cX9_joined dl_X9_joined = true := by decide +kernel
def f_X9_joined (x0 : Int64) (x2 : Int64) (x4 : Int32) : Int64 := (((j_lshl ((j_lushr x0 (10 : Int32)) &&& (17592186044415 : Int64)) (12 : Int32)) &&& (((j_lshl (1 : Int64) ((12 : Int32) + ((9 : Int32) * x4))) - (1 : Int64)) ^^^ (-1 : Int64))) ||| (x2 &&& ((j_lshl (1 : Int64) ((12 : Int32) + ((9 : Int32) * x4))) - (1 : Int64))))
set_option maxRecDepth 100000 in
set_option maxHeartbeats 4000000 in
theorem c_X9_joined (l : Launch) (x0 : Int64) (x2 : Int64) (x4 : Int32) : MP l yX9_joined cX9_joined 7 (some .long) 0 0 [.long x0, .long x2, .int x4] (.long (f_X9_joined x0 x2 x4)) := by
  refine entP (by decide +kernel) (Nat.le_of_ble_eq_true rfl) ?_
  intro p e s m args below meth c ls E hr hlk hl
  have hl : lv_has ls 7 [(0, .long x0), (2, .long x2), (4, .int x4)] := hl
  generalize h : f_X9_joined x0 x2 x4 = r
  have hx := E.1
  have hb := E.2.1
  have hown := E.2.2.2.1
  have hts := E.2.2.2.2
  refine lv_lconst (v := 1) hx hb (dq da_X9_joined 0 rfl) rfl ?_
  refine lv_bipush (v := 12) hx hb (dq da_X9_joined 1 rfl) rfl ?_
  refine lv_bipush (v := 9) hx hb (dq da_X9_joined 2 rfl) rfl ?_
  refine lv_iload hx hb (dq da_X9_joined 3 rfl) (lv_at hl 2 rfl) ?_
  refine lv_imul hx hb (dq da_X9_joined 4 rfl) ?_
  refine lv_iadd hx hb (dq da_X9_joined 5 rfl) ?_
  refine lv_lshl (v := (j_lshl (1 : Int64) ((12 : Int32) + ((9 : Int32) * x4)))) hx hb (dq da_X9_joined 6 rfl) rfl ?_
  refine lv_lconst (v := 1) hx hb (dq da_X9_joined 7 rfl) rfl ?_
  refine lv_lsub hx hb (dq da_X9_joined 8 rfl) ?_
  refine lv_lstore (lv' := [(5, .long ((j_lshl (1 : Int64) ((12 : Int32) + ((9 : Int32) * x4))) - (1 : Int64))), (0, .long x0), (2, .long x2), (4, .int x4)]) hx hb (dq da_X9_joined 9 rfl) hl (by decide) rfl (fun ls hl => ?_)
  refine lv_lload_n hx hb (dq da_X9_joined 10 rfl) rfl (lv_at hl 1 rfl) ?_
  refine lv_bipush (v := 10) hx hb (dq da_X9_joined 11 rfl) rfl ?_
  refine lv_lushr (v := (j_lushr x0 (10 : Int32))) hx hb (dq da_X9_joined 12 rfl) rfl ?_
  refine lv_ldc2 hx hb hown (hts _ w_733) (dq da_X9_joined 13 rfl) ?_
  refine lv_land hx hb (dq da_X9_joined 14 rfl) ?_
  refine lv_bipush (v := 12) hx hb (dq da_X9_joined 15 rfl) rfl ?_
  refine lv_lshl (v := (j_lshl ((j_lushr x0 (10 : Int32)) &&& (17592186044415 : Int64)) (12 : Int32))) hx hb (dq da_X9_joined 16 rfl) rfl ?_
  refine lv_lload hx hb (dq da_X9_joined 17 rfl) (lv_at hl 0 rfl) ?_
  refine lv_ldc2 hx hb hown (hts _ w_765) (dq da_X9_joined 18 rfl) ?_
  refine lv_lxor hx hb (dq da_X9_joined 19 rfl) ?_
  refine lv_land hx hb (dq da_X9_joined 20 rfl) ?_
  refine lv_lload_n hx hb (dq da_X9_joined 21 rfl) rfl (lv_at hl 2 rfl) ?_
  refine lv_lload hx hb (dq da_X9_joined 22 rfl) (lv_at hl 0 rfl) ?_
  refine lv_land hx hb (dq da_X9_joined 23 rfl) ?_
  refine lv_lor hx hb (dq da_X9_joined 24 rfl) ?_
  exact pret_l E hr hlk h (dq da_X9_joined 25 rfl)
def dl_X5_bits : List (Nat × Instr × Nat) := [(0, .iload_n 0, 1), (1, .iload_n 1, 1), (2, .ishr, 1), (3, .iload_n 2, 1), (4, .iand, 1), (5, .ireturn, 1)]
theorem da_X5_bits : dkL cX5_bits dl_X5_bits = true := by decide +kernel
def f_X5_bits (x0 : Int32) (x1 : Int32) (x2 : Int32) : Int32 := ((x0 >>> (x1 &&& 31)) &&& x2)
set_option maxRecDepth 100000 in
set_option maxHeartbeats 4000000 in
theorem c_X5_bits (l : Launch) (x0 : Int32) (x1 : Int32) (x2 : Int32) : MP l yX5_bits cX5_bits 3 (some .int) 0 0 [.int x0, .int x1, .int x2] (.int (f_X5_bits x0 x1 x2)) := by
  refine entP (by decide +kernel) (Nat.le_of_ble_eq_true rfl) ?_
  intro p e s m args below meth c ls E hr hlk hl
  have hl : lv_has ls 3 [(0, .int x0), (1, .int x1), (2, .int x2)] := hl
  generalize h : f_X5_bits x0 x1 x2 = r
  have hx := E.1
  have hb := E.2.1
  have hown := E.2.2.2.1
  have hts := E.2.2.2.2
  refine lv_iload_n hx hb (dq da_X5_bits 0 rfl) rfl (lv_at hl 0 rfl) ?_
  refine lv_iload_n hx hb (dq da_X5_bits 1 rfl) rfl (lv_at hl 1 rfl) ?_
  refine lv_ishr hx hb (dq da_X5_bits 2 rfl) ?_
  refine lv_iload_n hx hb (dq da_X5_bits 3 rfl) rfl (lv_at hl 2 rfl) ?_
  refine lv_iand hx hb (dq da_X5_bits 4 rfl) ?_
  exact pret_i E hr hlk h (dq da_X5_bits 5 rfl)
def dl_X5_withConstant : List (Nat × Instr × Nat) := [(0, .iload 4, 2), (2, .bipush 20, 2), (4, .ishl, 1), (5, .iload_n 3, 1), (6, .bipush 15, 2), (8, .ishl, 1), (9, .ior, 1), (10, .iload_n 1, 1), (11, .bipush 12, 2), (13, .ishl, 1), (14, .ior, 1), (15, .iload_n 2, 1), (16, .bipush 7, 2), (18, .ishl, 1), (19, .ior, 1), (20, .iload_n 0, 1), (21, .ior, 1), (22, .ireturn, 1)]
theorem da_X5_withConstant : dkL cX5_withConstant dl_X5_withConstant = true := by decide +kernel
def f_X5_withConstant (x0 : Int32) (x1 : Int32) (x2 : Int32) (x3 : Int32) (x4 : Int32) : Int32 := (((((x4 <<< ((20 : Int32) &&& 31)) ||| (x3 <<< ((15 : Int32) &&& 31))) ||| (x1 <<< ((12 : Int32) &&& 31))) ||| (x2 <<< ((7 : Int32) &&& 31))) ||| x0)
set_option maxRecDepth 100000 in
set_option maxHeartbeats 4000000 in
theorem c_X5_withConstant (l : Launch) (x0 : Int32) (x1 : Int32) (x2 : Int32) (x3 : Int32) (x4 : Int32) : MP l yX5_withConstant cX5_withConstant 5 (some .int) 0 0 [.int x0, .int x1, .int x2, .int x3, .int x4] (.int (f_X5_withConstant x0 x1 x2 x3 x4)) := by
  refine entP (by decide +kernel) (Nat.le_of_ble_eq_true rfl) ?_
  intro p e s m args below meth c ls E hr hlk hl
  have hl : lv_has ls 5 [(0, .int x0), (1, .int x1), (2, .int x2), (3, .int x3), (4, .int x4)] := hl
  generalize h : f_X5_withConstant x0 x1 x2 x3 x4 = r
  have hx := E.1
  have hb := E.2.1
  have hown := E.2.2.2.1
  have hts := E.2.2.2.2
  refine lv_iload hx hb (dq da_X5_withConstant 0 rfl) (lv_at hl 4 rfl) ?_
  refine lv_bipush (v := 20) hx hb (dq da_X5_withConstant 1 rfl) rfl ?_
  refine lv_ishl hx hb (dq da_X5_withConstant 2 rfl) ?_
  refine lv_iload_n hx hb (dq da_X5_withConstant 3 rfl) rfl (lv_at hl 3 rfl) ?_
  refine lv_bipush (v := 15) hx hb (dq da_X5_withConstant 4 rfl) rfl ?_
  refine lv_ishl hx hb (dq da_X5_withConstant 5 rfl) ?_
  refine lv_ior hx hb (dq da_X5_withConstant 6 rfl) ?_
  refine lv_iload_n hx hb (dq da_X5_withConstant 7 rfl) rfl (lv_at hl 1 rfl) ?_
  refine lv_bipush (v := 12) hx hb (dq da_X5_withConstant 8 rfl) rfl ?_
  refine lv_ishl hx hb (dq da_X5_withConstant 9 rfl) ?_
  refine lv_ior hx hb (dq da_X5_withConstant 10 rfl) ?_
  refine lv_iload_n hx hb (dq da_X5_withConstant 11 rfl) rfl (lv_at hl 2 rfl) ?_
  refine lv_bipush (v := 7) hx hb (dq da_X5_withConstant 12 rfl) rfl ?_
  refine lv_ishl hx hb (dq da_X5_withConstant 13 rfl) ?_
  refine lv_ior hx hb (dq da_X5_withConstant 14 rfl) ?_
  refine lv_iload_n hx hb (dq da_X5_withConstant 15 rfl) rfl (lv_at hl 0 rfl) ?_
  refine lv_ior hx hb (dq da_X5_withConstant 16 rfl) ?_
  exact pret_i E hr hlk h (dq da_X5_withConstant 17 rfl)
def dl_X5_storing : List (Nat × Instr × Nat) := [(0, .iload_n 3, 1), (1, .iconst 5, 1), (2, .bipush 127, 2), (4, .invokestatic 19, 3), (7, .bipush 25, 2), (9, .ishl, 1), (10, .iload_n 2, 1), (11, .bipush 20, 2), (13, .ishl, 1), (14, .ior, 1), (15, .iload_n 1, 1), (16, .bipush 15, 2), (18, .ishl, 1), (19, .ior, 1), (20, .iload_n 0, 1), (21, .bipush 12, 2), (23, .ishl, 1), (24, .ior, 1), (25, .iload_n 3, 1), (26, .iconst 0, 1), (27, .bipush 31, 2), (29, .invokestatic 19, 3), (32, .bipush 7, 2), (34, .ishl, 1), (35, .ior, 1), (36, .bipush 35, 2), (38, .ior, 1), (39, .ireturn, 1)]
theorem da_X5_storing : dkL cX5_storing dl_X5_storing = true := by decide +kernel
def f_X5_storing (x0 : Int32) (x1 : Int32) (x2 : Int32) (x3 : Int32) : Int32 := (((((((f_X5_bits x3 (5 : Int32) (127 : Int32)) <<< ((25 : Int32) &&& 31)) ||| (x2 <<< ((20 : Int32) &&& 31))) ||| (x1 <<< ((15 : Int32) &&& 31))) ||| (x0 <<< ((12 : Int32) &&& 31))) ||| ((f_X5_bits x3 (0 : Int32) (31 : Int32)) <<< ((7 : Int32) &&& 31))) ||| (35 : Int32))
set_option maxRecDepth 100000 in
set_option maxHeartbeats 4000000 in
theorem c_X5_storing (l : Launch) (x0 : Int32) (x1 : Int32) (x2 : Int32) (x3 : Int32) : MP l yX5_storing cX5_storing 4 (some .int) 1 22 [.int x0, .int x1, .int x2, .int x3] (.int (f_X5_storing x0 x1 x2 x3)) := by
  refine entP (by decide +kernel) (Nat.le_of_ble_eq_true rfl) ?_
  intro p e s m args below meth c ls E hr hlk hl
  have hl : lv_has ls 4 [(0, .int x0), (1, .int x1), (2, .int x2), (3, .int x3)] := hl
  generalize h : f_X5_storing x0 x1 x2 x3 = r
  have hx := E.1
  have hb := E.2.1
  have hown := E.2.2.2.1
  have hts := E.2.2.2.2
  refine lv_iload_n hx hb (dq da_X5_storing 0 rfl) rfl (lv_at hl 3 rfl) ?_
  refine lv_iconst (v := 5) hx hb (dq da_X5_storing 1 rfl) rfl ?_
  refine lv_bipush (v := 127) hx hb (dq da_X5_storing 2 rfl) rfl ?_
  refine callP E (c_X5_bits l _ _ _ ) w_776 w_777 w_19 w_778 hd_X5_bits rfl hl.1 rfl (Nat.le_of_ble_eq_true rfl) ⟨Nat.le_of_ble_eq_true rfl, Nat.le_of_ble_eq_true rfl⟩ (by decide) (dq da_X5_storing 3 rfl) ?_
  refine lv_bipush (v := 25) hx hb (dq da_X5_storing 4 rfl) rfl ?_
  refine lv_ishl hx hb (dq da_X5_storing 5 rfl) ?_
  refine lv_iload_n hx hb (dq da_X5_storing 6 rfl) rfl (lv_at hl 2 rfl) ?_
  refine lv_bipush (v := 20) hx hb (dq da_X5_storing 7 rfl) rfl ?_
  refine lv_ishl hx hb (dq da_X5_storing 8 rfl) ?_
  refine lv_ior hx hb (dq da_X5_storing 9 rfl) ?_
  refine lv_iload_n hx hb (dq da_X5_storing 10 rfl) rfl (lv_at hl 1 rfl) ?_
  refine lv_bipush (v := 15) hx hb (dq da_X5_storing 11 rfl) rfl ?_
  refine lv_ishl hx hb (dq da_X5_storing 12 rfl) ?_
  refine lv_ior hx hb (dq da_X5_storing 13 rfl) ?_
  refine lv_iload_n hx hb (dq da_X5_storing 14 rfl) rfl (lv_at hl 0 rfl) ?_
  refine lv_bipush (v := 12) hx hb (dq da_X5_storing 15 rfl) rfl ?_
  refine lv_ishl hx hb (dq da_X5_storing 16 rfl) ?_
  refine lv_ior hx hb (dq da_X5_storing 17 rfl) ?_
  refine lv_iload_n hx hb (dq da_X5_storing 18 rfl) rfl (lv_at hl 3 rfl) ?_
  refine lv_iconst (v := 0) hx hb (dq da_X5_storing 19 rfl) rfl ?_
  refine lv_bipush (v := 31) hx hb (dq da_X5_storing 20 rfl) rfl ?_
  refine callP E (c_X5_bits l _ _ _ ) w_776 w_777 w_19 w_778 hd_X5_bits rfl hl.1 rfl (Nat.le_of_ble_eq_true rfl) ⟨Nat.le_of_ble_eq_true rfl, Nat.le_of_ble_eq_true rfl⟩ (by decide) (dq da_X5_storing 21 rfl) ?_
  refine lv_bipush (v := 7) hx hb (dq da_X5_storing 22 rfl) rfl ?_
  refine lv_ishl hx hb (dq da_X5_storing 23 rfl) ?_
  refine lv_ior hx hb (dq da_X5_storing 24 rfl) ?_
  refine lv_bipush (v := 35) hx hb (dq da_X5_storing 25 rfl) rfl ?_
  refine lv_ior hx hb (dq da_X5_storing 26 rfl) ?_
  exact pret_i E hr hlk h (dq da_X5_storing 27 rfl)
def dl_X5_ofFirstKind : List (Nat × Instr × Nat) := [(0, .bipush 8, 2), (2, .iload_n 0, 1), (3, .bipush 7, 2), (5, .bipush 7, 2), (7, .invokestatic 19, 3), (10, .iadd, 1), (11, .istore_n 1, 1), (12, .bipush 8, 2), (14, .iload_n 0, 1), (15, .iconst 2, 1), (16, .bipush 7, 2), (18, .invokestatic 19, 3), (21, .iadd, 1), (22, .istore_n 2, 1), (23, .iload_n 0, 1), (24, .iconst 5, 1), (25, .iconst 1, 1), (26, .invokestatic 19, 3), (29, .bipush 6, 2), (31, .ishl, 1), (32, .iload_n 0, 1), (33, .bipush 10, 2), (35, .bipush 7, 2), (37, .invokestatic 19, 3), (40, .iconst 3, 1), (41, .ishl, 1), (42, .ior, 1), (43, .iload_n 0, 1), (44, .bipush 6, 2), (46, .iconst 1, 1), (47, .invokestatic 19, 3), (50, .iconst 2, 1), (51, .ishl, 1), (52, .ior, 1), (53, .istore_n 3, 1), (54, .iload_n 0, 1), (55, .iconst 5, 1), (56, .iconst 3, 1), (57, .invokestatic 19, 3), (60, .bipush 6, 2), (62, .ishl, 1), (63, .iload_n 0, 1), (64, .bipush 10, 2), (66, .bipush 7, 2), (68, .invokestatic 19, 3), (71, .iconst 3, 1), (72, .ishl, 1), (73, .ior, 1), (74, .istore 4, 2), (76, .iload_n 0, 1), (77, .bipush 13, 2), (79, .ishr, 1), (80, .tableswitch 146 0 7 #[48, 146, 110, 119, 146, 146, 129, 137], 48), (128, .iload_n 0, 1), (129, .bipush 7, 2), (131, .bipush 15, 2), (133, .invokestatic 19, 3), (136, .bipush 6, 2), (138, .ishl, 1), (139, .iload_n 0, 1), (140, .bipush 11, 2), (142, .iconst 3, 1), (143, .invokestatic 19, 3), (146, .iconst 4, 1), (147, .ishl, 1), (148, .ior, 1), (149, .iload_n 0, 1), (150, .iconst 5, 1), (151, .iconst 1, 1), (152, .invokestatic 19, 3), (155, .iconst 3, 1), (156, .ishl, 1), (157, .ior, 1), (158, .iload_n 0, 1), (159, .bipush 6, 2), (161, .iconst 1, 1), (162, .invokestatic 19, 3), (165, .iconst 2, 1), (166, .ishl, 1), (167, .ior, 1), (168, .istore 5, 2), (170, .iload 5, 2), (172, .ifCond .ne 7, 3), (175, .iconst 0, 1), (176, .goto 13, 3), (179, .bipush 19, 2), (181, .iconst 0, 1), (182, .iload_n 2, 1), (183, .iconst 2, 1), (184, .iload 5, 2), (186, .invokestatic 23, 3), (189, .ireturn, 1), (190, .iconst 3, 1), (191, .iconst 2, 1), (192, .iload_n 2, 1), (193, .iload_n 1, 1), (194, .iload_n 3, 1), (195, .invokestatic 23, 3), (198, .ireturn, 1), (199, .iconst 3, 1), (200, .iconst 3, 1), (201, .iload_n 2, 1), (202, .iload_n 1, 1), (203, .iload 4, 2), (205, .invokestatic 23, 3), (208, .ireturn, 1), (209, .iconst 2, 1), (210, .iload_n 1, 1), (211, .iload_n 2, 1), (212, .iload_n 3, 1), (213, .invokestatic 27, 3), (216, .ireturn, 1), (217, .iconst 3, 1), (218, .iload_n 1, 1), (219, .iload_n 2, 1), (220, .iload 4, 2), (222, .invokestatic 27, 3), (225, .ireturn, 1), (226, .iconst 0, 1), (227, .ireturn, 1)]
theorem da_X5_ofFirstKind : dkL cX5_ofFirstKind dl_X5_ofFirstKind = true := by decide +kernel
def f_X5_ofFirstKind_b226  : Int32 := (0 : Int32)
set_option maxRecDepth 100000 in
set_option maxHeartbeats 4000000 in
theorem b_X5_ofFirstKind_b226 {p : Program} {l : Launch} {e : Env} {s : State} {m : MethodId} {args : Array Value} {below : List Frame} {meth : Method} {c : Code} (E : CallFix p m c cX5_ofFirstKind 6 s args gw RX5) (hr : meth.sig.returnType = some .int) (hlk : meth.locks = false)  {r : Int32} (h : f_X5_ofFirstKind_b226  = r) {ls : Array Slot} (hl : lv_has ls 6 []) : Wp p l e 2 45 s m args below meth c (.int r) 226 ls [] := by
  have hx := E.1
  have hb := E.2.1
  have hown := E.2.2.2.1
  have hts := E.2.2.2.2
  refine lv_iconst (v := 0) hx hb (dq da_X5_ofFirstKind 118 rfl) rfl ?_
  exact pret_i E hr hlk h (dq da_X5_ofFirstKind 119 rfl)
def f_X5_ofFirstKind (x0 : Int32) : Int32 := if (x0 >>> ((13 : Int32) &&& 31)) = (0 : Int32) then (if (((((f_X5_bits x0 (7 : Int32) (15 : Int32)) <<< ((6 : Int32) &&& 31)) ||| ((f_X5_bits x0 (11 : Int32) (3 : Int32)) <<< ((4 : Int32) &&& 31))) ||| ((f_X5_bits x0 (5 : Int32) (1 : Int32)) <<< ((3 : Int32) &&& 31))) ||| ((f_X5_bits x0 (6 : Int32) (1 : Int32)) <<< ((2 : Int32) &&& 31))) = (0 : Int32) then (0 : Int32) else (f_X5_withConstant (19 : Int32) (0 : Int32) ((8 : Int32) + (f_X5_bits x0 (2 : Int32) (7 : Int32))) (2 : Int32) (((((f_X5_bits x0 (7 : Int32) (15 : Int32)) <<< ((6 : Int32) &&& 31)) ||| ((f_X5_bits x0 (11 : Int32) (3 : Int32)) <<< ((4 : Int32) &&& 31))) ||| ((f_X5_bits x0 (5 : Int32) (1 : Int32)) <<< ((3 : Int32) &&& 31))) ||| ((f_X5_bits x0 (6 : Int32) (1 : Int32)) <<< ((2 : Int32) &&& 31))))) else if (x0 >>> ((13 : Int32) &&& 31)) = (1 : Int32) then (f_X5_ofFirstKind_b226 ) else if (x0 >>> ((13 : Int32) &&& 31)) = (2 : Int32) then (f_X5_withConstant (3 : Int32) (2 : Int32) ((8 : Int32) + (f_X5_bits x0 (2 : Int32) (7 : Int32))) ((8 : Int32) + (f_X5_bits x0 (7 : Int32) (7 : Int32))) ((((f_X5_bits x0 (5 : Int32) (1 : Int32)) <<< ((6 : Int32) &&& 31)) ||| ((f_X5_bits x0 (10 : Int32) (7 : Int32)) <<< ((3 : Int32) &&& 31))) ||| ((f_X5_bits x0 (6 : Int32) (1 : Int32)) <<< ((2 : Int32) &&& 31)))) else if (x0 >>> ((13 : Int32) &&& 31)) = (3 : Int32) then (f_X5_withConstant (3 : Int32) (3 : Int32) ((8 : Int32) + (f_X5_bits x0 (2 : Int32) (7 : Int32))) ((8 : Int32) + (f_X5_bits x0 (7 : Int32) (7 : Int32))) (((f_X5_bits x0 (5 : Int32) (3 : Int32)) <<< ((6 : Int32) &&& 31)) ||| ((f_X5_bits x0 (10 : Int32) (7 : Int32)) <<< ((3 : Int32) &&& 31)))) else if (x0 >>> ((13 : Int32) &&& 31)) = (4 : Int32) then (f_X5_ofFirstKind_b226 ) else if (x0 >>> ((13 : Int32) &&& 31)) = (5 : Int32) then (f_X5_ofFirstKind_b226 ) else if (x0 >>> ((13 : Int32) &&& 31)) = (6 : Int32) then (f_X5_storing (2 : Int32) ((8 : Int32) + (f_X5_bits x0 (7 : Int32) (7 : Int32))) ((8 : Int32) + (f_X5_bits x0 (2 : Int32) (7 : Int32))) ((((f_X5_bits x0 (5 : Int32) (1 : Int32)) <<< ((6 : Int32) &&& 31)) ||| ((f_X5_bits x0 (10 : Int32) (7 : Int32)) <<< ((3 : Int32) &&& 31))) ||| ((f_X5_bits x0 (6 : Int32) (1 : Int32)) <<< ((2 : Int32) &&& 31)))) else if (x0 >>> ((13 : Int32) &&& 31)) = (7 : Int32) then (f_X5_storing (3 : Int32) ((8 : Int32) + (f_X5_bits x0 (7 : Int32) (7 : Int32))) ((8 : Int32) + (f_X5_bits x0 (2 : Int32) (7 : Int32))) (((f_X5_bits x0 (5 : Int32) (3 : Int32)) <<< ((6 : Int32) &&& 31)) ||| ((f_X5_bits x0 (10 : Int32) (7 : Int32)) <<< ((3 : Int32) &&& 31)))) else (f_X5_ofFirstKind_b226 )
set_option maxRecDepth 100000 in
set_option maxHeartbeats 4000000 in
theorem c_X5_ofFirstKind (l : Launch) (x0 : Int32) : MP l yX5_ofFirstKind cX5_ofFirstKind 6 (some .int) 2 45 [.int x0] (.int (f_X5_ofFirstKind x0)) := by
  refine entP (by decide +kernel) (Nat.le_of_ble_eq_true rfl) ?_
  intro p e s m args below meth c ls E hr hlk hl
  have hl : lv_has ls 6 [(0, .int x0)] := hl
  generalize h : f_X5_ofFirstKind x0 = r
  have hx := E.1
  have hb := E.2.1
  have hown := E.2.2.2.1
  have hts := E.2.2.2.2
  refine lv_bipush (v := 8) hx hb (dq da_X5_ofFirstKind 0 rfl) rfl ?_
  refine lv_iload_n hx hb (dq da_X5_ofFirstKind 1 rfl) rfl (lv_at hl 0 rfl) ?_
  refine lv_bipush (v := 7) hx hb (dq da_X5_ofFirstKind 2 rfl) rfl ?_
  refine lv_bipush (v := 7) hx hb (dq da_X5_ofFirstKind 3 rfl) rfl ?_
  refine callP E (c_X5_bits l _ _ _ ) w_776 w_777 w_19 w_778 hd_X5_bits rfl hl.1 rfl (Nat.le_of_ble_eq_true rfl) ⟨Nat.le_of_ble_eq_true rfl, Nat.le_of_ble_eq_true rfl⟩ (by decide) (dq da_X5_ofFirstKind 4 rfl) ?_
  refine lv_iadd hx hb (dq da_X5_ofFirstKind 5 rfl) ?_
  refine lv_istore_n (lv' := [(1, .int ((8 : Int32) + (f_X5_bits x0 (7 : Int32) (7 : Int32)))), (0, .int x0)]) hx hb (dq da_X5_ofFirstKind 6 rfl) rfl hl (by decide) rfl (fun ls hl => ?_)
  refine lv_bipush (v := 8) hx hb (dq da_X5_ofFirstKind 7 rfl) rfl ?_
  refine lv_iload_n hx hb (dq da_X5_ofFirstKind 8 rfl) rfl (lv_at hl 1 rfl) ?_
  refine lv_iconst (v := 2) hx hb (dq da_X5_ofFirstKind 9 rfl) rfl ?_
  refine lv_bipush (v := 7) hx hb (dq da_X5_ofFirstKind 10 rfl) rfl ?_
  refine callP E (c_X5_bits l _ _ _ ) w_776 w_777 w_19 w_778 hd_X5_bits rfl hl.1 rfl (Nat.le_of_ble_eq_true rfl) ⟨Nat.le_of_ble_eq_true rfl, Nat.le_of_ble_eq_true rfl⟩ (by decide) (dq da_X5_ofFirstKind 11 rfl) ?_
  refine lv_iadd hx hb (dq da_X5_ofFirstKind 12 rfl) ?_
  refine lv_istore_n (lv' := [(2, .int ((8 : Int32) + (f_X5_bits x0 (2 : Int32) (7 : Int32)))), (1, .int ((8 : Int32) + (f_X5_bits x0 (7 : Int32) (7 : Int32)))), (0, .int x0)]) hx hb (dq da_X5_ofFirstKind 13 rfl) rfl hl (by decide) rfl (fun ls hl => ?_)
  refine lv_iload_n hx hb (dq da_X5_ofFirstKind 14 rfl) rfl (lv_at hl 2 rfl) ?_
  refine lv_iconst (v := 5) hx hb (dq da_X5_ofFirstKind 15 rfl) rfl ?_
  refine lv_iconst (v := 1) hx hb (dq da_X5_ofFirstKind 16 rfl) rfl ?_
  refine callP E (c_X5_bits l _ _ _ ) w_776 w_777 w_19 w_778 hd_X5_bits rfl hl.1 rfl (Nat.le_of_ble_eq_true rfl) ⟨Nat.le_of_ble_eq_true rfl, Nat.le_of_ble_eq_true rfl⟩ (by decide) (dq da_X5_ofFirstKind 17 rfl) ?_
  refine lv_bipush (v := 6) hx hb (dq da_X5_ofFirstKind 18 rfl) rfl ?_
  refine lv_ishl hx hb (dq da_X5_ofFirstKind 19 rfl) ?_
  refine lv_iload_n hx hb (dq da_X5_ofFirstKind 20 rfl) rfl (lv_at hl 2 rfl) ?_
  refine lv_bipush (v := 10) hx hb (dq da_X5_ofFirstKind 21 rfl) rfl ?_
  refine lv_bipush (v := 7) hx hb (dq da_X5_ofFirstKind 22 rfl) rfl ?_
  refine callP E (c_X5_bits l _ _ _ ) w_776 w_777 w_19 w_778 hd_X5_bits rfl hl.1 rfl (Nat.le_of_ble_eq_true rfl) ⟨Nat.le_of_ble_eq_true rfl, Nat.le_of_ble_eq_true rfl⟩ (by decide) (dq da_X5_ofFirstKind 23 rfl) ?_
  refine lv_iconst (v := 3) hx hb (dq da_X5_ofFirstKind 24 rfl) rfl ?_
  refine lv_ishl hx hb (dq da_X5_ofFirstKind 25 rfl) ?_
  refine lv_ior hx hb (dq da_X5_ofFirstKind 26 rfl) ?_
  refine lv_iload_n hx hb (dq da_X5_ofFirstKind 27 rfl) rfl (lv_at hl 2 rfl) ?_
  refine lv_bipush (v := 6) hx hb (dq da_X5_ofFirstKind 28 rfl) rfl ?_
  refine lv_iconst (v := 1) hx hb (dq da_X5_ofFirstKind 29 rfl) rfl ?_
  refine callP E (c_X5_bits l _ _ _ ) w_776 w_777 w_19 w_778 hd_X5_bits rfl hl.1 rfl (Nat.le_of_ble_eq_true rfl) ⟨Nat.le_of_ble_eq_true rfl, Nat.le_of_ble_eq_true rfl⟩ (by decide) (dq da_X5_ofFirstKind 30 rfl) ?_
  refine lv_iconst (v := 2) hx hb (dq da_X5_ofFirstKind 31 rfl) rfl ?_
  refine lv_ishl hx hb (dq da_X5_ofFirstKind 32 rfl) ?_
  refine lv_ior hx hb (dq da_X5_ofFirstKind 33 rfl) ?_
  refine lv_istore_n (lv' := [(3, .int ((((f_X5_bits x0 (5 : Int32) (1 : Int32)) <<< ((6 : Int32) &&& 31)) ||| ((f_X5_bits x0 (10 : Int32) (7 : Int32)) <<< ((3 : Int32) &&& 31))) ||| ((f_X5_bits x0 (6 : Int32) (1 : Int32)) <<< ((2 : Int32) &&& 31)))), (2, .int ((8 : Int32) + (f_X5_bits x0 (2 : Int32) (7 : Int32)))), (1, .int ((8 : Int32) + (f_X5_bits x0 (7 : Int32) (7 : Int32)))), (0, .int x0)]) hx hb (dq da_X5_ofFirstKind 34 rfl) rfl hl (by decide) rfl (fun ls hl => ?_)
  refine lv_iload_n hx hb (dq da_X5_ofFirstKind 35 rfl) rfl (lv_at hl 3 rfl) ?_
  refine lv_iconst (v := 5) hx hb (dq da_X5_ofFirstKind 36 rfl) rfl ?_
  refine lv_iconst (v := 3) hx hb (dq da_X5_ofFirstKind 37 rfl) rfl ?_
  refine callP E (c_X5_bits l _ _ _ ) w_776 w_777 w_19 w_778 hd_X5_bits rfl hl.1 rfl (Nat.le_of_ble_eq_true rfl) ⟨Nat.le_of_ble_eq_true rfl, Nat.le_of_ble_eq_true rfl⟩ (by decide) (dq da_X5_ofFirstKind 38 rfl) ?_
  refine lv_bipush (v := 6) hx hb (dq da_X5_ofFirstKind 39 rfl) rfl ?_
  refine lv_ishl hx hb (dq da_X5_ofFirstKind 40 rfl) ?_
  refine lv_iload_n hx hb (dq da_X5_ofFirstKind 41 rfl) rfl (lv_at hl 3 rfl) ?_
  refine lv_bipush (v := 10) hx hb (dq da_X5_ofFirstKind 42 rfl) rfl ?_
  refine lv_bipush (v := 7) hx hb (dq da_X5_ofFirstKind 43 rfl) rfl ?_
  refine callP E (c_X5_bits l _ _ _ ) w_776 w_777 w_19 w_778 hd_X5_bits rfl hl.1 rfl (Nat.le_of_ble_eq_true rfl) ⟨Nat.le_of_ble_eq_true rfl, Nat.le_of_ble_eq_true rfl⟩ (by decide) (dq da_X5_ofFirstKind 44 rfl) ?_
  refine lv_iconst (v := 3) hx hb (dq da_X5_ofFirstKind 45 rfl) rfl ?_
  refine lv_ishl hx hb (dq da_X5_ofFirstKind 46 rfl) ?_
  refine lv_ior hx hb (dq da_X5_ofFirstKind 47 rfl) ?_
  refine lv_istore (lv' := [(4, .int (((f_X5_bits x0 (5 : Int32) (3 : Int32)) <<< ((6 : Int32) &&& 31)) ||| ((f_X5_bits x0 (10 : Int32) (7 : Int32)) <<< ((3 : Int32) &&& 31)))), (3, .int ((((f_X5_bits x0 (5 : Int32) (1 : Int32)) <<< ((6 : Int32) &&& 31)) ||| ((f_X5_bits x0 (10 : Int32) (7 : Int32)) <<< ((3 : Int32) &&& 31))) ||| ((f_X5_bits x0 (6 : Int32) (1 : Int32)) <<< ((2 : Int32) &&& 31)))), (2, .int ((8 : Int32) + (f_X5_bits x0 (2 : Int32) (7 : Int32)))), (1, .int ((8 : Int32) + (f_X5_bits x0 (7 : Int32) (7 : Int32)))), (0, .int x0)]) hx hb (dq da_X5_ofFirstKind 48 rfl) hl (by decide) rfl (fun ls hl => ?_)
  refine lv_iload_n hx hb (dq da_X5_ofFirstKind 49 rfl) rfl (lv_at hl 4 rfl) ?_
  refine lv_bipush (v := 13) hx hb (dq da_X5_ofFirstKind 50 rfl) rfl ?_
  refine lv_ishr hx hb (dq da_X5_ofFirstKind 51 rfl) ?_
  by_cases c1 : (x0 >>> ((13 : Int32) &&& 31)) = (0 : Int32)
  · have h := it c1 h
    refine lv_tableIn (off := 48) (tgt := 128) hx hb (dq da_X5_ofFirstKind 52 rfl) (by rw [c1]; decide +kernel) (by rw [c1]; decide +kernel) (by rw [c1]; decide +kernel) (by decide) ?_
    refine lv_iload_n hx hb (dq da_X5_ofFirstKind 53 rfl) rfl (lv_at hl 4 rfl) ?_
    refine lv_bipush (v := 7) hx hb (dq da_X5_ofFirstKind 54 rfl) rfl ?_
    refine lv_bipush (v := 15) hx hb (dq da_X5_ofFirstKind 55 rfl) rfl ?_
    refine callP E (c_X5_bits l _ _ _ ) w_776 w_777 w_19 w_778 hd_X5_bits rfl hl.1 rfl (Nat.le_of_ble_eq_true rfl) ⟨Nat.le_of_ble_eq_true rfl, Nat.le_of_ble_eq_true rfl⟩ (by decide) (dq da_X5_ofFirstKind 56 rfl) ?_
    refine lv_bipush (v := 6) hx hb (dq da_X5_ofFirstKind 57 rfl) rfl ?_
    refine lv_ishl hx hb (dq da_X5_ofFirstKind 58 rfl) ?_
    refine lv_iload_n hx hb (dq da_X5_ofFirstKind 59 rfl) rfl (lv_at hl 4 rfl) ?_
    refine lv_bipush (v := 11) hx hb (dq da_X5_ofFirstKind 60 rfl) rfl ?_
    refine lv_iconst (v := 3) hx hb (dq da_X5_ofFirstKind 61 rfl) rfl ?_
    refine callP E (c_X5_bits l _ _ _ ) w_776 w_777 w_19 w_778 hd_X5_bits rfl hl.1 rfl (Nat.le_of_ble_eq_true rfl) ⟨Nat.le_of_ble_eq_true rfl, Nat.le_of_ble_eq_true rfl⟩ (by decide) (dq da_X5_ofFirstKind 62 rfl) ?_
    refine lv_iconst (v := 4) hx hb (dq da_X5_ofFirstKind 63 rfl) rfl ?_
    refine lv_ishl hx hb (dq da_X5_ofFirstKind 64 rfl) ?_
    refine lv_ior hx hb (dq da_X5_ofFirstKind 65 rfl) ?_
    refine lv_iload_n hx hb (dq da_X5_ofFirstKind 66 rfl) rfl (lv_at hl 4 rfl) ?_
    refine lv_iconst (v := 5) hx hb (dq da_X5_ofFirstKind 67 rfl) rfl ?_
    refine lv_iconst (v := 1) hx hb (dq da_X5_ofFirstKind 68 rfl) rfl ?_
    refine callP E (c_X5_bits l _ _ _ ) w_776 w_777 w_19 w_778 hd_X5_bits rfl hl.1 rfl (Nat.le_of_ble_eq_true rfl) ⟨Nat.le_of_ble_eq_true rfl, Nat.le_of_ble_eq_true rfl⟩ (by decide) (dq da_X5_ofFirstKind 69 rfl) ?_
    refine lv_iconst (v := 3) hx hb (dq da_X5_ofFirstKind 70 rfl) rfl ?_
    refine lv_ishl hx hb (dq da_X5_ofFirstKind 71 rfl) ?_
    refine lv_ior hx hb (dq da_X5_ofFirstKind 72 rfl) ?_
    refine lv_iload_n hx hb (dq da_X5_ofFirstKind 73 rfl) rfl (lv_at hl 4 rfl) ?_
    refine lv_bipush (v := 6) hx hb (dq da_X5_ofFirstKind 74 rfl) rfl ?_
    refine lv_iconst (v := 1) hx hb (dq da_X5_ofFirstKind 75 rfl) rfl ?_
    refine callP E (c_X5_bits l _ _ _ ) w_776 w_777 w_19 w_778 hd_X5_bits rfl hl.1 rfl (Nat.le_of_ble_eq_true rfl) ⟨Nat.le_of_ble_eq_true rfl, Nat.le_of_ble_eq_true rfl⟩ (by decide) (dq da_X5_ofFirstKind 76 rfl) ?_
    refine lv_iconst (v := 2) hx hb (dq da_X5_ofFirstKind 77 rfl) rfl ?_
    refine lv_ishl hx hb (dq da_X5_ofFirstKind 78 rfl) ?_
    refine lv_ior hx hb (dq da_X5_ofFirstKind 79 rfl) ?_
    refine lv_istore (lv' := [(5, .int (((((f_X5_bits x0 (7 : Int32) (15 : Int32)) <<< ((6 : Int32) &&& 31)) ||| ((f_X5_bits x0 (11 : Int32) (3 : Int32)) <<< ((4 : Int32) &&& 31))) ||| ((f_X5_bits x0 (5 : Int32) (1 : Int32)) <<< ((3 : Int32) &&& 31))) ||| ((f_X5_bits x0 (6 : Int32) (1 : Int32)) <<< ((2 : Int32) &&& 31)))), (4, .int (((f_X5_bits x0 (5 : Int32) (3 : Int32)) <<< ((6 : Int32) &&& 31)) ||| ((f_X5_bits x0 (10 : Int32) (7 : Int32)) <<< ((3 : Int32) &&& 31)))), (3, .int ((((f_X5_bits x0 (5 : Int32) (1 : Int32)) <<< ((6 : Int32) &&& 31)) ||| ((f_X5_bits x0 (10 : Int32) (7 : Int32)) <<< ((3 : Int32) &&& 31))) ||| ((f_X5_bits x0 (6 : Int32) (1 : Int32)) <<< ((2 : Int32) &&& 31)))), (2, .int ((8 : Int32) + (f_X5_bits x0 (2 : Int32) (7 : Int32)))), (1, .int ((8 : Int32) + (f_X5_bits x0 (7 : Int32) (7 : Int32)))), (0, .int x0)]) hx hb (dq da_X5_ofFirstKind 80 rfl) hl (by decide) rfl (fun ls hl => ?_)
    refine lv_iload hx hb (dq da_X5_ofFirstKind 81 rfl) (lv_at hl 0 rfl) ?_
    refine lv_if_ne (tgt := 179) hx hb (dq da_X5_ofFirstKind 82 rfl) (by decide) (fun c2 => ?_) (fun c2 => ?_)
    · have h := ie c2 h
      refine lv_bipush (v := 19) hx hb (dq da_X5_ofFirstKind 85 rfl) rfl ?_
      refine lv_iconst (v := 0) hx hb (dq da_X5_ofFirstKind 86 rfl) rfl ?_
      refine lv_iload_n hx hb (dq da_X5_ofFirstKind 87 rfl) rfl (lv_at hl 3 rfl) ?_
      refine lv_iconst (v := 2) hx hb (dq da_X5_ofFirstKind 88 rfl) rfl ?_
      refine lv_iload hx hb (dq da_X5_ofFirstKind 89 rfl) (lv_at hl 0 rfl) ?_
      refine callP E (c_X5_withConstant l _ _ _ _ _ ) w_779 w_780 w_19 w_781 hd_X5_withConstant rfl hl.1 rfl (Nat.le_of_ble_eq_true rfl) ⟨Nat.le_of_ble_eq_true rfl, Nat.le_of_ble_eq_true rfl⟩ (by decide) (dq da_X5_ofFirstKind 90 rfl) ?_
      exact pret_i E hr hlk h (dq da_X5_ofFirstKind 91 rfl)
    · have h := it c2 h
      refine lv_iconst (v := 0) hx hb (dq da_X5_ofFirstKind 83 rfl) rfl ?_
      refine lv_goto (tgt := 189) hx hb (dq da_X5_ofFirstKind 84 rfl) (by decide) ?_
      exact pret_i E hr hlk h (dq da_X5_ofFirstKind 91 rfl)
  · have h := ie c1 h
    by_cases c3 : (x0 >>> ((13 : Int32) &&& 31)) = (1 : Int32)
    · have h := it c3 h
      refine lv_tableIn (off := 146) (tgt := 226) hx hb (dq da_X5_ofFirstKind 52 rfl) (by rw [c3]; decide +kernel) (by rw [c3]; decide +kernel) (by rw [c3]; decide +kernel) (by decide) ?_
      exact b_X5_ofFirstKind_b226 E hr hlk h (lv_sub hl [] rfl)
    · have h := ie c3 h
      by_cases c4 : (x0 >>> ((13 : Int32) &&& 31)) = (2 : Int32)
      · have h := it c4 h
        refine lv_tableIn (off := 110) (tgt := 190) hx hb (dq da_X5_ofFirstKind 52 rfl) (by rw [c4]; decide +kernel) (by rw [c4]; decide +kernel) (by rw [c4]; decide +kernel) (by decide) ?_
        refine lv_iconst (v := 3) hx hb (dq da_X5_ofFirstKind 92 rfl) rfl ?_
        refine lv_iconst (v := 2) hx hb (dq da_X5_ofFirstKind 93 rfl) rfl ?_
        refine lv_iload_n hx hb (dq da_X5_ofFirstKind 94 rfl) rfl (lv_at hl 2 rfl) ?_
        refine lv_iload_n hx hb (dq da_X5_ofFirstKind 95 rfl) rfl (lv_at hl 3 rfl) ?_
        refine lv_iload_n hx hb (dq da_X5_ofFirstKind 96 rfl) rfl (lv_at hl 1 rfl) ?_
        refine callP E (c_X5_withConstant l _ _ _ _ _ ) w_779 w_780 w_19 w_781 hd_X5_withConstant rfl hl.1 rfl (Nat.le_of_ble_eq_true rfl) ⟨Nat.le_of_ble_eq_true rfl, Nat.le_of_ble_eq_true rfl⟩ (by decide) (dq da_X5_ofFirstKind 97 rfl) ?_
        exact pret_i E hr hlk h (dq da_X5_ofFirstKind 98 rfl)
      · have h := ie c4 h
        by_cases c5 : (x0 >>> ((13 : Int32) &&& 31)) = (3 : Int32)
        · have h := it c5 h
          refine lv_tableIn (off := 119) (tgt := 199) hx hb (dq da_X5_ofFirstKind 52 rfl) (by rw [c5]; decide +kernel) (by rw [c5]; decide +kernel) (by rw [c5]; decide +kernel) (by decide) ?_
          refine lv_iconst (v := 3) hx hb (dq da_X5_ofFirstKind 99 rfl) rfl ?_
          refine lv_iconst (v := 3) hx hb (dq da_X5_ofFirstKind 100 rfl) rfl ?_
          refine lv_iload_n hx hb (dq da_X5_ofFirstKind 101 rfl) rfl (lv_at hl 2 rfl) ?_
          refine lv_iload_n hx hb (dq da_X5_ofFirstKind 102 rfl) rfl (lv_at hl 3 rfl) ?_
          refine lv_iload hx hb (dq da_X5_ofFirstKind 103 rfl) (lv_at hl 0 rfl) ?_
          refine callP E (c_X5_withConstant l _ _ _ _ _ ) w_779 w_780 w_19 w_781 hd_X5_withConstant rfl hl.1 rfl (Nat.le_of_ble_eq_true rfl) ⟨Nat.le_of_ble_eq_true rfl, Nat.le_of_ble_eq_true rfl⟩ (by decide) (dq da_X5_ofFirstKind 104 rfl) ?_
          exact pret_i E hr hlk h (dq da_X5_ofFirstKind 105 rfl)
        · have h := ie c5 h
          by_cases c6 : (x0 >>> ((13 : Int32) &&& 31)) = (4 : Int32)
          · have h := it c6 h
            refine lv_tableIn (off := 146) (tgt := 226) hx hb (dq da_X5_ofFirstKind 52 rfl) (by rw [c6]; decide +kernel) (by rw [c6]; decide +kernel) (by rw [c6]; decide +kernel) (by decide) ?_
            exact b_X5_ofFirstKind_b226 E hr hlk h (lv_sub hl [] rfl)
          · have h := ie c6 h
            by_cases c7 : (x0 >>> ((13 : Int32) &&& 31)) = (5 : Int32)
            · have h := it c7 h
              refine lv_tableIn (off := 146) (tgt := 226) hx hb (dq da_X5_ofFirstKind 52 rfl) (by rw [c7]; decide +kernel) (by rw [c7]; decide +kernel) (by rw [c7]; decide +kernel) (by decide) ?_
              exact b_X5_ofFirstKind_b226 E hr hlk h (lv_sub hl [] rfl)
            · have h := ie c7 h
              by_cases c8 : (x0 >>> ((13 : Int32) &&& 31)) = (6 : Int32)
              · have h := it c8 h
                refine lv_tableIn (off := 129) (tgt := 209) hx hb (dq da_X5_ofFirstKind 52 rfl) (by rw [c8]; decide +kernel) (by rw [c8]; decide +kernel) (by rw [c8]; decide +kernel) (by decide) ?_
                refine lv_iconst (v := 2) hx hb (dq da_X5_ofFirstKind 106 rfl) rfl ?_
                refine lv_iload_n hx hb (dq da_X5_ofFirstKind 107 rfl) rfl (lv_at hl 3 rfl) ?_
                refine lv_iload_n hx hb (dq da_X5_ofFirstKind 108 rfl) rfl (lv_at hl 2 rfl) ?_
                refine lv_iload_n hx hb (dq da_X5_ofFirstKind 109 rfl) rfl (lv_at hl 1 rfl) ?_
                refine callP E (c_X5_storing l _ _ _ _ ) w_782 w_783 w_19 w_784 hd_X5_storing rfl hl.1 rfl (Nat.le_of_ble_eq_true rfl) ⟨Nat.le_of_ble_eq_true rfl, Nat.le_of_ble_eq_true rfl⟩ (by decide) (dq da_X5_ofFirstKind 110 rfl) ?_
                exact pret_i E hr hlk h (dq da_X5_ofFirstKind 111 rfl)
              · have h := ie c8 h
                by_cases c9 : (x0 >>> ((13 : Int32) &&& 31)) = (7 : Int32)
                · have h := it c9 h
                  refine lv_tableIn (off := 137) (tgt := 217) hx hb (dq da_X5_ofFirstKind 52 rfl) (by rw [c9]; decide +kernel) (by rw [c9]; decide +kernel) (by rw [c9]; decide +kernel) (by decide) ?_
                  refine lv_iconst (v := 3) hx hb (dq da_X5_ofFirstKind 112 rfl) rfl ?_
                  refine lv_iload_n hx hb (dq da_X5_ofFirstKind 113 rfl) rfl (lv_at hl 3 rfl) ?_
                  refine lv_iload_n hx hb (dq da_X5_ofFirstKind 114 rfl) rfl (lv_at hl 2 rfl) ?_
                  refine lv_iload hx hb (dq da_X5_ofFirstKind 115 rfl) (lv_at hl 0 rfl) ?_
                  refine callP E (c_X5_storing l _ _ _ _ ) w_782 w_783 w_19 w_784 hd_X5_storing rfl hl.1 rfl (Nat.le_of_ble_eq_true rfl) ⟨Nat.le_of_ble_eq_true rfl, Nat.le_of_ble_eq_true rfl⟩ (by decide) (dq da_X5_ofFirstKind 116 rfl) ?_
                  exact pret_i E hr hlk h (dq da_X5_ofFirstKind 117 rfl)
                · have h := ie c9 h
                  refine lv_tableOut (tgt := 226) hx hb (dq da_X5_ofFirstKind 52 rfl) (by have := lv_neT (k := (0 : Int32)) (a := 0) c1 rfl; have := lv_neT (k := (1 : Int32)) (a := 1) c3 rfl; have := lv_neT (k := (2 : Int32)) (a := 2) c4 rfl; have := lv_neT (k := (3 : Int32)) (a := 3) c5 rfl; have := lv_neT (k := (4 : Int32)) (a := 4) c6 rfl; have := lv_neT (k := (5 : Int32)) (a := 5) c7 rfl; have := lv_neT (k := (6 : Int32)) (a := 6) c8 rfl; have := lv_neT (k := (7 : Int32)) (a := 7) c9 rfl; omega) (by decide) ?_
                  exact b_X5_ofFirstKind_b226 E hr hlk h (lv_sub hl [] rfl)
def dl_X5_highest : List (Nat × Instr × Nat) := [(0, .iload_n 0, 1), (1, .bipush 12, 2), (3, .ishr, 1), (4, .iconst 1, 1), (5, .iand, 1), (6, .ineg, 1), (7, .ireturn, 1)]
theorem da_X5_highest : dkL cX5_highest dl_X5_highest = true := by decide +kernel
def f_X5_highest (x0 : Int32) : Int32 := (-((x0 >>> ((12 : Int32) &&& 31)) &&& (1 : Int32)))
set_option maxRecDepth 100000 in
set_option maxHeartbeats 4000000 in
theorem c_X5_highest (l : Launch) (x0 : Int32) : MP l yX5_highest cX5_highest 1 (some .int) 0 0 [.int x0] (.int (f_X5_highest x0)) := by
  refine entP (by decide +kernel) (Nat.le_of_ble_eq_true rfl) ?_
  intro p e s m args below meth c ls E hr hlk hl
  have hl : lv_has ls 1 [(0, .int x0)] := hl
  generalize h : f_X5_highest x0 = r
  have hx := E.1
  have hb := E.2.1
  have hown := E.2.2.2.1
  have hts := E.2.2.2.2
  refine lv_iload_n hx hb (dq da_X5_highest 0 rfl) rfl (lv_at hl 0 rfl) ?_
  refine lv_bipush (v := 12) hx hb (dq da_X5_highest 1 rfl) rfl ?_
  refine lv_ishr hx hb (dq da_X5_highest 2 rfl) ?_
  refine lv_iconst (v := 1) hx hb (dq da_X5_highest 3 rfl) rfl ?_
  refine lv_iand hx hb (dq da_X5_highest 4 rfl) ?_
  refine lv_ineg hx hb (dq da_X5_highest 5 rfl) ?_
  exact pret_i E hr hlk h (dq da_X5_highest 6 rfl)
def dl_X5_ofStack : List (Nat × Instr × Nat) := [(0, .iload_n 0, 1), (1, .invokestatic 31, 3), (4, .bipush 9, 2), (6, .ishl, 1), (7, .iload_n 0, 1), (8, .iconst 3, 1), (9, .iconst 3, 1), (10, .invokestatic 19, 3), (13, .bipush 7, 2), (15, .ishl, 1), (16, .ior, 1), (17, .iload_n 0, 1), (18, .iconst 5, 1), (19, .iconst 1, 1), (20, .invokestatic 19, 3), (23, .bipush 6, 2), (25, .ishl, 1), (26, .ior, 1), (27, .iload_n 0, 1), (28, .iconst 2, 1), (29, .iconst 1, 1), (30, .invokestatic 19, 3), (33, .iconst 5, 1), (34, .ishl, 1), (35, .ior, 1), (36, .iload_n 0, 1), (37, .bipush 6, 2), (39, .iconst 1, 1), (40, .invokestatic 19, 3), (43, .iconst 4, 1), (44, .ishl, 1), (45, .ior, 1), (46, .istore_n 1, 1), (47, .iload_n 1, 1), (48, .ifCond .ne 7, 3), (51, .iconst 0, 1), (52, .goto 12, 3), (55, .bipush 19, 2), (57, .iconst 0, 1), (58, .iconst 2, 1), (59, .iconst 2, 1), (60, .iload_n 1, 1), (61, .invokestatic 23, 3), (64, .ireturn, 1)]
theorem da_X5_ofStack : dkL cX5_ofStack dl_X5_ofStack = true := by decide +kernel
def f_X5_ofStack (x0 : Int32) : Int32 := if ((((((f_X5_highest x0) <<< ((9 : Int32) &&& 31)) ||| ((f_X5_bits x0 (3 : Int32) (3 : Int32)) <<< ((7 : Int32) &&& 31))) ||| ((f_X5_bits x0 (5 : Int32) (1 : Int32)) <<< ((6 : Int32) &&& 31))) ||| ((f_X5_bits x0 (2 : Int32) (1 : Int32)) <<< ((5 : Int32) &&& 31))) ||| ((f_X5_bits x0 (6 : Int32) (1 : Int32)) <<< ((4 : Int32) &&& 31))) = (0 : Int32) then (0 : Int32) else (f_X5_withConstant (19 : Int32) (0 : Int32) (2 : Int32) (2 : Int32) ((((((f_X5_highest x0) <<< ((9 : Int32) &&& 31)) ||| ((f_X5_bits x0 (3 : Int32) (3 : Int32)) <<< ((7 : Int32) &&& 31))) ||| ((f_X5_bits x0 (5 : Int32) (1 : Int32)) <<< ((6 : Int32) &&& 31))) ||| ((f_X5_bits x0 (2 : Int32) (1 : Int32)) <<< ((5 : Int32) &&& 31))) ||| ((f_X5_bits x0 (6 : Int32) (1 : Int32)) <<< ((4 : Int32) &&& 31))))
set_option maxRecDepth 100000 in
set_option maxHeartbeats 4000000 in
theorem c_X5_ofStack (l : Launch) (x0 : Int32) : MP l yX5_ofStack cX5_ofStack 2 (some .int) 1 24 [.int x0] (.int (f_X5_ofStack x0)) := by
  refine entP (by decide +kernel) (Nat.le_of_ble_eq_true rfl) ?_
  intro p e s m args below meth c ls E hr hlk hl
  have hl : lv_has ls 2 [(0, .int x0)] := hl
  generalize h : f_X5_ofStack x0 = r
  have hx := E.1
  have hb := E.2.1
  have hown := E.2.2.2.1
  have hts := E.2.2.2.2
  refine lv_iload_n hx hb (dq da_X5_ofStack 0 rfl) rfl (lv_at hl 0 rfl) ?_
  refine callP E (c_X5_highest l _ ) w_788 w_789 w_19 w_790 hd_X5_highest rfl hl.1 rfl (Nat.le_of_ble_eq_true rfl) ⟨Nat.le_of_ble_eq_true rfl, Nat.le_of_ble_eq_true rfl⟩ (by decide) (dq da_X5_ofStack 1 rfl) ?_
  refine lv_bipush (v := 9) hx hb (dq da_X5_ofStack 2 rfl) rfl ?_
  refine lv_ishl hx hb (dq da_X5_ofStack 3 rfl) ?_
  refine lv_iload_n hx hb (dq da_X5_ofStack 4 rfl) rfl (lv_at hl 0 rfl) ?_
  refine lv_iconst (v := 3) hx hb (dq da_X5_ofStack 5 rfl) rfl ?_
  refine lv_iconst (v := 3) hx hb (dq da_X5_ofStack 6 rfl) rfl ?_
  refine callP E (c_X5_bits l _ _ _ ) w_776 w_777 w_19 w_778 hd_X5_bits rfl hl.1 rfl (Nat.le_of_ble_eq_true rfl) ⟨Nat.le_of_ble_eq_true rfl, Nat.le_of_ble_eq_true rfl⟩ (by decide) (dq da_X5_ofStack 7 rfl) ?_
  refine lv_bipush (v := 7) hx hb (dq da_X5_ofStack 8 rfl) rfl ?_
  refine lv_ishl hx hb (dq da_X5_ofStack 9 rfl) ?_
  refine lv_ior hx hb (dq da_X5_ofStack 10 rfl) ?_
  refine lv_iload_n hx hb (dq da_X5_ofStack 11 rfl) rfl (lv_at hl 0 rfl) ?_
  refine lv_iconst (v := 5) hx hb (dq da_X5_ofStack 12 rfl) rfl ?_
  refine lv_iconst (v := 1) hx hb (dq da_X5_ofStack 13 rfl) rfl ?_
  refine callP E (c_X5_bits l _ _ _ ) w_776 w_777 w_19 w_778 hd_X5_bits rfl hl.1 rfl (Nat.le_of_ble_eq_true rfl) ⟨Nat.le_of_ble_eq_true rfl, Nat.le_of_ble_eq_true rfl⟩ (by decide) (dq da_X5_ofStack 14 rfl) ?_
  refine lv_bipush (v := 6) hx hb (dq da_X5_ofStack 15 rfl) rfl ?_
  refine lv_ishl hx hb (dq da_X5_ofStack 16 rfl) ?_
  refine lv_ior hx hb (dq da_X5_ofStack 17 rfl) ?_
  refine lv_iload_n hx hb (dq da_X5_ofStack 18 rfl) rfl (lv_at hl 0 rfl) ?_
  refine lv_iconst (v := 2) hx hb (dq da_X5_ofStack 19 rfl) rfl ?_
  refine lv_iconst (v := 1) hx hb (dq da_X5_ofStack 20 rfl) rfl ?_
  refine callP E (c_X5_bits l _ _ _ ) w_776 w_777 w_19 w_778 hd_X5_bits rfl hl.1 rfl (Nat.le_of_ble_eq_true rfl) ⟨Nat.le_of_ble_eq_true rfl, Nat.le_of_ble_eq_true rfl⟩ (by decide) (dq da_X5_ofStack 21 rfl) ?_
  refine lv_iconst (v := 5) hx hb (dq da_X5_ofStack 22 rfl) rfl ?_
  refine lv_ishl hx hb (dq da_X5_ofStack 23 rfl) ?_
  refine lv_ior hx hb (dq da_X5_ofStack 24 rfl) ?_
  refine lv_iload_n hx hb (dq da_X5_ofStack 25 rfl) rfl (lv_at hl 0 rfl) ?_
  refine lv_bipush (v := 6) hx hb (dq da_X5_ofStack 26 rfl) rfl ?_
  refine lv_iconst (v := 1) hx hb (dq da_X5_ofStack 27 rfl) rfl ?_
  refine callP E (c_X5_bits l _ _ _ ) w_776 w_777 w_19 w_778 hd_X5_bits rfl hl.1 rfl (Nat.le_of_ble_eq_true rfl) ⟨Nat.le_of_ble_eq_true rfl, Nat.le_of_ble_eq_true rfl⟩ (by decide) (dq da_X5_ofStack 28 rfl) ?_
  refine lv_iconst (v := 4) hx hb (dq da_X5_ofStack 29 rfl) rfl ?_
  refine lv_ishl hx hb (dq da_X5_ofStack 30 rfl) ?_
  refine lv_ior hx hb (dq da_X5_ofStack 31 rfl) ?_
  refine lv_istore_n (lv' := [(1, .int ((((((f_X5_highest x0) <<< ((9 : Int32) &&& 31)) ||| ((f_X5_bits x0 (3 : Int32) (3 : Int32)) <<< ((7 : Int32) &&& 31))) ||| ((f_X5_bits x0 (5 : Int32) (1 : Int32)) <<< ((6 : Int32) &&& 31))) ||| ((f_X5_bits x0 (2 : Int32) (1 : Int32)) <<< ((5 : Int32) &&& 31))) ||| ((f_X5_bits x0 (6 : Int32) (1 : Int32)) <<< ((4 : Int32) &&& 31)))), (0, .int x0)]) hx hb (dq da_X5_ofStack 32 rfl) rfl hl (by decide) rfl (fun ls hl => ?_)
  refine lv_iload_n hx hb (dq da_X5_ofStack 33 rfl) rfl (lv_at hl 0 rfl) ?_
  refine lv_if_ne (tgt := 55) hx hb (dq da_X5_ofStack 34 rfl) (by decide) (fun c1 => ?_) (fun c1 => ?_)
  · have h := ie c1 h
    refine lv_bipush (v := 19) hx hb (dq da_X5_ofStack 37 rfl) rfl ?_
    refine lv_iconst (v := 0) hx hb (dq da_X5_ofStack 38 rfl) rfl ?_
    refine lv_iconst (v := 2) hx hb (dq da_X5_ofStack 39 rfl) rfl ?_
    refine lv_iconst (v := 2) hx hb (dq da_X5_ofStack 40 rfl) rfl ?_
    refine lv_iload_n hx hb (dq da_X5_ofStack 41 rfl) rfl (lv_at hl 0 rfl) ?_
    refine callP E (c_X5_withConstant l _ _ _ _ _ ) w_779 w_780 w_19 w_781 hd_X5_withConstant rfl hl.1 rfl (Nat.le_of_ble_eq_true rfl) ⟨Nat.le_of_ble_eq_true rfl, Nat.le_of_ble_eq_true rfl⟩ (by decide) (dq da_X5_ofStack 42 rfl) ?_
    exact pret_i E hr hlk h (dq da_X5_ofStack 43 rfl)
  · have h := it c1 h
    refine lv_iconst (v := 0) hx hb (dq da_X5_ofStack 35 rfl) rfl ?_
    refine lv_goto (tgt := 64) hx hb (dq da_X5_ofStack 36 rfl) (by decide) ?_
    exact pret_i E hr hlk h (dq da_X5_ofStack 43 rfl)
def dl_X5_withRegister : List (Nat × Instr × Nat) := [(0, .iload_n 2, 1), (1, .bipush 25, 2), (3, .ishl, 1), (4, .iload 5, 2), (6, .bipush 20, 2), (8, .ishl, 1), (9, .ior, 1), (10, .iload 4, 2), (12, .bipush 15, 2), (14, .ishl, 1), (15, .ior, 1), (16, .iload_n 1, 1), (17, .bipush 12, 2), (19, .ishl, 1), (20, .ior, 1), (21, .iload_n 3, 1), (22, .bipush 7, 2), (24, .ishl, 1), (25, .ior, 1), (26, .iload_n 0, 1), (27, .ior, 1), (28, .ireturn, 1)]
theorem da_X5_withRegister : dkL cX5_withRegister dl_X5_withRegister = true := by decide +kernel
def f_X5_withRegister (x0 : Int32) (x1 : Int32) (x2 : Int32) (x3 : Int32) (x4 : Int32) (x5 : Int32) : Int32 := ((((((x2 <<< ((25 : Int32) &&& 31)) ||| (x5 <<< ((20 : Int32) &&& 31))) ||| (x4 <<< ((15 : Int32) &&& 31))) ||| (x1 <<< ((12 : Int32) &&& 31))) ||| (x3 <<< ((7 : Int32) &&& 31))) ||| x0)
set_option maxRecDepth 100000 in
set_option maxHeartbeats 4000000 in
theorem c_X5_withRegister (l : Launch) (x0 : Int32) (x1 : Int32) (x2 : Int32) (x3 : Int32) (x4 : Int32) (x5 : Int32) : MP l yX5_withRegister cX5_withRegister 6 (some .int) 0 0 [.int x0, .int x1, .int x2, .int x3, .int x4, .int x5] (.int (f_X5_withRegister x0 x1 x2 x3 x4 x5)) := by
  refine entP (by decide +kernel) (Nat.le_of_ble_eq_true rfl) ?_
  intro p e s m args below meth c ls E hr hlk hl
  have hl : lv_has ls 6 [(0, .int x0), (1, .int x1), (2, .int x2), (3, .int x3), (4, .int x4), (5, .int x5)] := hl
  generalize h : f_X5_withRegister x0 x1 x2 x3 x4 x5 = r
  have hx := E.1
  have hb := E.2.1
  have hown := E.2.2.2.1
  have hts := E.2.2.2.2
  refine lv_iload_n hx hb (dq da_X5_withRegister 0 rfl) rfl (lv_at hl 2 rfl) ?_
  refine lv_bipush (v := 25) hx hb (dq da_X5_withRegister 1 rfl) rfl ?_
  refine lv_ishl hx hb (dq da_X5_withRegister 2 rfl) ?_
  refine lv_iload hx hb (dq da_X5_withRegister 3 rfl) (lv_at hl 5 rfl) ?_
  refine lv_bipush (v := 20) hx hb (dq da_X5_withRegister 4 rfl) rfl ?_
  refine lv_ishl hx hb (dq da_X5_withRegister 5 rfl) ?_
  refine lv_ior hx hb (dq da_X5_withRegister 6 rfl) ?_
  refine lv_iload hx hb (dq da_X5_withRegister 7 rfl) (lv_at hl 4 rfl) ?_
  refine lv_bipush (v := 15) hx hb (dq da_X5_withRegister 8 rfl) rfl ?_
  refine lv_ishl hx hb (dq da_X5_withRegister 9 rfl) ?_
  refine lv_ior hx hb (dq da_X5_withRegister 10 rfl) ?_
  refine lv_iload_n hx hb (dq da_X5_withRegister 11 rfl) rfl (lv_at hl 1 rfl) ?_
  refine lv_bipush (v := 12) hx hb (dq da_X5_withRegister 12 rfl) rfl ?_
  refine lv_ishl hx hb (dq da_X5_withRegister 13 rfl) ?_
  refine lv_ior hx hb (dq da_X5_withRegister 14 rfl) ?_
  refine lv_iload_n hx hb (dq da_X5_withRegister 15 rfl) rfl (lv_at hl 3 rfl) ?_
  refine lv_bipush (v := 7) hx hb (dq da_X5_withRegister 16 rfl) rfl ?_
  refine lv_ishl hx hb (dq da_X5_withRegister 17 rfl) ?_
  refine lv_ior hx hb (dq da_X5_withRegister 18 rfl) ?_
  refine lv_iload_n hx hb (dq da_X5_withRegister 19 rfl) rfl (lv_at hl 0 rfl) ?_
  refine lv_ior hx hb (dq da_X5_withRegister 20 rfl) ?_
  exact pret_i E hr hlk h (dq da_X5_withRegister 21 rfl)
def dl_X5_computing : List (Nat × Instr × Nat) := [(0, .bipush 8, 2), (2, .iload_n 0, 1), (3, .bipush 7, 2), (5, .bipush 7, 2), (7, .invokestatic 19, 3), (10, .iadd, 1), (11, .istore_n 2, 1), (12, .bipush 8, 2), (14, .iload_n 0, 1), (15, .iconst 2, 1), (16, .bipush 7, 2), (18, .invokestatic 19, 3), (21, .iadd, 1), (22, .istore_n 3, 1), (23, .iload_n 0, 1), (24, .bipush 10, 2), (26, .iconst 3, 1), (27, .invokestatic 19, 3), (30, .tableswitch 67 0 2 #[26, 39, 56], 26), (56, .bipush 19, 2), (58, .iconst 5, 1), (59, .iload_n 2, 1), (60, .iload_n 2, 1), (61, .iload_n 1, 1), (62, .bipush 63, 2), (64, .iand, 1), (65, .invokestatic 23, 3), (68, .ireturn, 1), (69, .bipush 19, 2), (71, .iconst 5, 1), (72, .iload_n 2, 1), (73, .iload_n 2, 1), (74, .sipush 1024, 3), (77, .iload_n 1, 1), (78, .bipush 63, 2), (80, .iand, 1), (81, .ior, 1), (82, .invokestatic 23, 3), (85, .ireturn, 1), (86, .bipush 19, 2), (88, .bipush 7, 2), (90, .iload_n 2, 1), (91, .iload_n 2, 1), (92, .iload_n 1, 1), (93, .invokestatic 23, 3), (96, .ireturn, 1), (97, .iload_n 0, 1), (98, .bipush 12, 2), (100, .iconst 1, 1), (101, .invokestatic 19, 3), (104, .iconst 2, 1), (105, .ishl, 1), (106, .iload_n 0, 1), (107, .iconst 5, 1), (108, .iconst 3, 1), (109, .invokestatic 19, 3), (112, .ior, 1), (113, .tableswitch 109 0 5 #[39, 51, 62, 74, 86, 98], 39), (152, .bipush 51, 2), (154, .iconst 0, 1), (155, .bipush 32, 2), (157, .iload_n 2, 1), (158, .iload_n 2, 1), (159, .iload_n 3, 1), (160, .invokestatic 53, 3), (163, .ireturn, 1), (164, .bipush 51, 2), (166, .iconst 4, 1), (167, .iconst 0, 1), (168, .iload_n 2, 1), (169, .iload_n 2, 1), (170, .iload_n 3, 1), (171, .invokestatic 53, 3), (174, .ireturn, 1), (175, .bipush 51, 2), (177, .bipush 6, 2), (179, .iconst 0, 1), (180, .iload_n 2, 1), (181, .iload_n 2, 1), (182, .iload_n 3, 1), (183, .invokestatic 53, 3), (186, .ireturn, 1), (187, .bipush 51, 2), (189, .bipush 7, 2), (191, .iconst 0, 1), (192, .iload_n 2, 1), (193, .iload_n 2, 1), (194, .iload_n 3, 1), (195, .invokestatic 53, 3), (198, .ireturn, 1), (199, .bipush 59, 2), (201, .iconst 0, 1), (202, .bipush 32, 2), (204, .iload_n 2, 1), (205, .iload_n 2, 1), (206, .iload_n 3, 1), (207, .invokestatic 53, 3), (210, .ireturn, 1), (211, .bipush 59, 2), (213, .iconst 0, 1), (214, .iconst 0, 1), (215, .iload_n 2, 1), (216, .iload_n 2, 1), (217, .iload_n 3, 1), (218, .invokestatic 53, 3), (221, .ireturn, 1), (222, .iconst 0, 1), (223, .ireturn, 1)]
theorem da_X5_computing : dkL cX5_computing dl_X5_computing = true := by decide +kernel
def f_X5_computing (x0 : Int32) (x1 : Int32) : Int32 := if (f_X5_bits x0 (10 : Int32) (3 : Int32)) = (0 : Int32) then (f_X5_withConstant (19 : Int32) (5 : Int32) ((8 : Int32) + (f_X5_bits x0 (7 : Int32) (7 : Int32))) ((8 : Int32) + (f_X5_bits x0 (7 : Int32) (7 : Int32))) (x1 &&& (63 : Int32))) else if (f_X5_bits x0 (10 : Int32) (3 : Int32)) = (1 : Int32) then (f_X5_withConstant (19 : Int32) (5 : Int32) ((8 : Int32) + (f_X5_bits x0 (7 : Int32) (7 : Int32))) ((8 : Int32) + (f_X5_bits x0 (7 : Int32) (7 : Int32))) ((1024 : Int32) ||| (x1 &&& (63 : Int32)))) else if (f_X5_bits x0 (10 : Int32) (3 : Int32)) = (2 : Int32) then (f_X5_withConstant (19 : Int32) (7 : Int32) ((8 : Int32) + (f_X5_bits x0 (7 : Int32) (7 : Int32))) ((8 : Int32) + (f_X5_bits x0 (7 : Int32) (7 : Int32))) x1) else (if (((f_X5_bits x0 (12 : Int32) (1 : Int32)) <<< ((2 : Int32) &&& 31)) ||| (f_X5_bits x0 (5 : Int32) (3 : Int32))) = (0 : Int32) then (f_X5_withRegister (51 : Int32) (0 : Int32) (32 : Int32) ((8 : Int32) + (f_X5_bits x0 (7 : Int32) (7 : Int32))) ((8 : Int32) + (f_X5_bits x0 (7 : Int32) (7 : Int32))) ((8 : Int32) + (f_X5_bits x0 (2 : Int32) (7 : Int32)))) else if (((f_X5_bits x0 (12 : Int32) (1 : Int32)) <<< ((2 : Int32) &&& 31)) ||| (f_X5_bits x0 (5 : Int32) (3 : Int32))) = (1 : Int32) then (f_X5_withRegister (51 : Int32) (4 : Int32) (0 : Int32) ((8 : Int32) + (f_X5_bits x0 (7 : Int32) (7 : Int32))) ((8 : Int32) + (f_X5_bits x0 (7 : Int32) (7 : Int32))) ((8 : Int32) + (f_X5_bits x0 (2 : Int32) (7 : Int32)))) else if (((f_X5_bits x0 (12 : Int32) (1 : Int32)) <<< ((2 : Int32) &&& 31)) ||| (f_X5_bits x0 (5 : Int32) (3 : Int32))) = (2 : Int32) then (f_X5_withRegister (51 : Int32) (6 : Int32) (0 : Int32) ((8 : Int32) + (f_X5_bits x0 (7 : Int32) (7 : Int32))) ((8 : Int32) + (f_X5_bits x0 (7 : Int32) (7 : Int32))) ((8 : Int32) + (f_X5_bits x0 (2 : Int32) (7 : Int32)))) else if (((f_X5_bits x0 (12 : Int32) (1 : Int32)) <<< ((2 : Int32) &&& 31)) ||| (f_X5_bits x0 (5 : Int32) (3 : Int32))) = (3 : Int32) then (f_X5_withRegister (51 : Int32) (7 : Int32) (0 : Int32) ((8 : Int32) + (f_X5_bits x0 (7 : Int32) (7 : Int32))) ((8 : Int32) + (f_X5_bits x0 (7 : Int32) (7 : Int32))) ((8 : Int32) + (f_X5_bits x0 (2 : Int32) (7 : Int32)))) else if (((f_X5_bits x0 (12 : Int32) (1 : Int32)) <<< ((2 : Int32) &&& 31)) ||| (f_X5_bits x0 (5 : Int32) (3 : Int32))) = (4 : Int32) then (f_X5_withRegister (59 : Int32) (0 : Int32) (32 : Int32) ((8 : Int32) + (f_X5_bits x0 (7 : Int32) (7 : Int32))) ((8 : Int32) + (f_X5_bits x0 (7 : Int32) (7 : Int32))) ((8 : Int32) + (f_X5_bits x0 (2 : Int32) (7 : Int32)))) else if (((f_X5_bits x0 (12 : Int32) (1 : Int32)) <<< ((2 : Int32) &&& 31)) ||| (f_X5_bits x0 (5 : Int32) (3 : Int32))) = (5 : Int32) then (f_X5_withRegister (59 : Int32) (0 : Int32) (0 : Int32) ((8 : Int32) + (f_X5_bits x0 (7 : Int32) (7 : Int32))) ((8 : Int32) + (f_X5_bits x0 (7 : Int32) (7 : Int32))) ((8 : Int32) + (f_X5_bits x0 (2 : Int32) (7 : Int32)))) else (0 : Int32))
set_option maxRecDepth 100000 in
set_option maxHeartbeats 4000000 in
theorem c_X5_computing (l : Launch) (x0 : Int32) (x1 : Int32) : MP l yX5_computing cX5_computing 4 (some .int) 1 25 [.int x0, .int x1] (.int (f_X5_computing x0 x1)) := by
  refine entP (by decide +kernel) (Nat.le_of_ble_eq_true rfl) ?_
  intro p e s m args below meth c ls E hr hlk hl
  have hl : lv_has ls 4 [(0, .int x0), (1, .int x1)] := hl
  generalize h : f_X5_computing x0 x1 = r
  have hx := E.1
  have hb := E.2.1
  have hown := E.2.2.2.1
  have hts := E.2.2.2.2
  refine lv_bipush (v := 8) hx hb (dq da_X5_computing 0 rfl) rfl ?_
  refine lv_iload_n hx hb (dq da_X5_computing 1 rfl) rfl (lv_at hl 0 rfl) ?_
  refine lv_bipush (v := 7) hx hb (dq da_X5_computing 2 rfl) rfl ?_
  refine lv_bipush (v := 7) hx hb (dq da_X5_computing 3 rfl) rfl ?_
  refine callP E (c_X5_bits l _ _ _ ) w_776 w_777 w_19 w_778 hd_X5_bits rfl hl.1 rfl (Nat.le_of_ble_eq_true rfl) ⟨Nat.le_of_ble_eq_true rfl, Nat.le_of_ble_eq_true rfl⟩ (by decide) (dq da_X5_computing 4 rfl) ?_
  refine lv_iadd hx hb (dq da_X5_computing 5 rfl) ?_
  refine lv_istore_n (lv' := [(2, .int ((8 : Int32) + (f_X5_bits x0 (7 : Int32) (7 : Int32)))), (0, .int x0), (1, .int x1)]) hx hb (dq da_X5_computing 6 rfl) rfl hl (by decide) rfl (fun ls hl => ?_)
  refine lv_bipush (v := 8) hx hb (dq da_X5_computing 7 rfl) rfl ?_
  refine lv_iload_n hx hb (dq da_X5_computing 8 rfl) rfl (lv_at hl 1 rfl) ?_
  refine lv_iconst (v := 2) hx hb (dq da_X5_computing 9 rfl) rfl ?_
  refine lv_bipush (v := 7) hx hb (dq da_X5_computing 10 rfl) rfl ?_
  refine callP E (c_X5_bits l _ _ _ ) w_776 w_777 w_19 w_778 hd_X5_bits rfl hl.1 rfl (Nat.le_of_ble_eq_true rfl) ⟨Nat.le_of_ble_eq_true rfl, Nat.le_of_ble_eq_true rfl⟩ (by decide) (dq da_X5_computing 11 rfl) ?_
  refine lv_iadd hx hb (dq da_X5_computing 12 rfl) ?_
  refine lv_istore_n (lv' := [(3, .int ((8 : Int32) + (f_X5_bits x0 (2 : Int32) (7 : Int32)))), (2, .int ((8 : Int32) + (f_X5_bits x0 (7 : Int32) (7 : Int32)))), (0, .int x0), (1, .int x1)]) hx hb (dq da_X5_computing 13 rfl) rfl hl (by decide) rfl (fun ls hl => ?_)
  refine lv_iload_n hx hb (dq da_X5_computing 14 rfl) rfl (lv_at hl 2 rfl) ?_
  refine lv_bipush (v := 10) hx hb (dq da_X5_computing 15 rfl) rfl ?_
  refine lv_iconst (v := 3) hx hb (dq da_X5_computing 16 rfl) rfl ?_
  refine callP E (c_X5_bits l _ _ _ ) w_776 w_777 w_19 w_778 hd_X5_bits rfl hl.1 rfl (Nat.le_of_ble_eq_true rfl) ⟨Nat.le_of_ble_eq_true rfl, Nat.le_of_ble_eq_true rfl⟩ (by decide) (dq da_X5_computing 17 rfl) ?_
  by_cases c1 : (f_X5_bits x0 (10 : Int32) (3 : Int32)) = (0 : Int32)
  · have h := it c1 h
    refine lv_tableIn (off := 26) (tgt := 56) hx hb (dq da_X5_computing 18 rfl) (by rw [c1]; decide +kernel) (by rw [c1]; decide +kernel) (by rw [c1]; decide +kernel) (by decide) ?_
    refine lv_bipush (v := 19) hx hb (dq da_X5_computing 19 rfl) rfl ?_
    refine lv_iconst (v := 5) hx hb (dq da_X5_computing 20 rfl) rfl ?_
    refine lv_iload_n hx hb (dq da_X5_computing 21 rfl) rfl (lv_at hl 1 rfl) ?_
    refine lv_iload_n hx hb (dq da_X5_computing 22 rfl) rfl (lv_at hl 1 rfl) ?_
    refine lv_iload_n hx hb (dq da_X5_computing 23 rfl) rfl (lv_at hl 3 rfl) ?_
    refine lv_bipush (v := 63) hx hb (dq da_X5_computing 24 rfl) rfl ?_
    refine lv_iand hx hb (dq da_X5_computing 25 rfl) ?_
    refine callP E (c_X5_withConstant l _ _ _ _ _ ) w_779 w_780 w_19 w_781 hd_X5_withConstant rfl hl.1 rfl (Nat.le_of_ble_eq_true rfl) ⟨Nat.le_of_ble_eq_true rfl, Nat.le_of_ble_eq_true rfl⟩ (by decide) (dq da_X5_computing 26 rfl) ?_
    exact pret_i E hr hlk h (dq da_X5_computing 27 rfl)
  · have h := ie c1 h
    by_cases c2 : (f_X5_bits x0 (10 : Int32) (3 : Int32)) = (1 : Int32)
    · have h := it c2 h
      refine lv_tableIn (off := 39) (tgt := 69) hx hb (dq da_X5_computing 18 rfl) (by rw [c2]; decide +kernel) (by rw [c2]; decide +kernel) (by rw [c2]; decide +kernel) (by decide) ?_
      refine lv_bipush (v := 19) hx hb (dq da_X5_computing 28 rfl) rfl ?_
      refine lv_iconst (v := 5) hx hb (dq da_X5_computing 29 rfl) rfl ?_
      refine lv_iload_n hx hb (dq da_X5_computing 30 rfl) rfl (lv_at hl 1 rfl) ?_
      refine lv_iload_n hx hb (dq da_X5_computing 31 rfl) rfl (lv_at hl 1 rfl) ?_
      refine lv_sipush (v := 1024) hx hb (dq da_X5_computing 32 rfl) rfl ?_
      refine lv_iload_n hx hb (dq da_X5_computing 33 rfl) rfl (lv_at hl 3 rfl) ?_
      refine lv_bipush (v := 63) hx hb (dq da_X5_computing 34 rfl) rfl ?_
      refine lv_iand hx hb (dq da_X5_computing 35 rfl) ?_
      refine lv_ior hx hb (dq da_X5_computing 36 rfl) ?_
      refine callP E (c_X5_withConstant l _ _ _ _ _ ) w_779 w_780 w_19 w_781 hd_X5_withConstant rfl hl.1 rfl (Nat.le_of_ble_eq_true rfl) ⟨Nat.le_of_ble_eq_true rfl, Nat.le_of_ble_eq_true rfl⟩ (by decide) (dq da_X5_computing 37 rfl) ?_
      exact pret_i E hr hlk h (dq da_X5_computing 38 rfl)
    · have h := ie c2 h
      by_cases c3 : (f_X5_bits x0 (10 : Int32) (3 : Int32)) = (2 : Int32)
      · have h := it c3 h
        refine lv_tableIn (off := 56) (tgt := 86) hx hb (dq da_X5_computing 18 rfl) (by rw [c3]; decide +kernel) (by rw [c3]; decide +kernel) (by rw [c3]; decide +kernel) (by decide) ?_
        refine lv_bipush (v := 19) hx hb (dq da_X5_computing 39 rfl) rfl ?_
        refine lv_bipush (v := 7) hx hb (dq da_X5_computing 40 rfl) rfl ?_
        refine lv_iload_n hx hb (dq da_X5_computing 41 rfl) rfl (lv_at hl 1 rfl) ?_
        refine lv_iload_n hx hb (dq da_X5_computing 42 rfl) rfl (lv_at hl 1 rfl) ?_
        refine lv_iload_n hx hb (dq da_X5_computing 43 rfl) rfl (lv_at hl 3 rfl) ?_
        refine callP E (c_X5_withConstant l _ _ _ _ _ ) w_779 w_780 w_19 w_781 hd_X5_withConstant rfl hl.1 rfl (Nat.le_of_ble_eq_true rfl) ⟨Nat.le_of_ble_eq_true rfl, Nat.le_of_ble_eq_true rfl⟩ (by decide) (dq da_X5_computing 44 rfl) ?_
        exact pret_i E hr hlk h (dq da_X5_computing 45 rfl)
      · have h := ie c3 h
        refine lv_tableOut (tgt := 97) hx hb (dq da_X5_computing 18 rfl) (by have := lv_neT (k := (0 : Int32)) (a := 0) c1 rfl; have := lv_neT (k := (1 : Int32)) (a := 1) c2 rfl; have := lv_neT (k := (2 : Int32)) (a := 2) c3 rfl; omega) (by decide) ?_
        refine lv_iload_n hx hb (dq da_X5_computing 46 rfl) rfl (lv_at hl 2 rfl) ?_
        refine lv_bipush (v := 12) hx hb (dq da_X5_computing 47 rfl) rfl ?_
        refine lv_iconst (v := 1) hx hb (dq da_X5_computing 48 rfl) rfl ?_
        refine callP E (c_X5_bits l _ _ _ ) w_776 w_777 w_19 w_778 hd_X5_bits rfl hl.1 rfl (Nat.le_of_ble_eq_true rfl) ⟨Nat.le_of_ble_eq_true rfl, Nat.le_of_ble_eq_true rfl⟩ (by decide) (dq da_X5_computing 49 rfl) ?_
        refine lv_iconst (v := 2) hx hb (dq da_X5_computing 50 rfl) rfl ?_
        refine lv_ishl hx hb (dq da_X5_computing 51 rfl) ?_
        refine lv_iload_n hx hb (dq da_X5_computing 52 rfl) rfl (lv_at hl 2 rfl) ?_
        refine lv_iconst (v := 5) hx hb (dq da_X5_computing 53 rfl) rfl ?_
        refine lv_iconst (v := 3) hx hb (dq da_X5_computing 54 rfl) rfl ?_
        refine callP E (c_X5_bits l _ _ _ ) w_776 w_777 w_19 w_778 hd_X5_bits rfl hl.1 rfl (Nat.le_of_ble_eq_true rfl) ⟨Nat.le_of_ble_eq_true rfl, Nat.le_of_ble_eq_true rfl⟩ (by decide) (dq da_X5_computing 55 rfl) ?_
        refine lv_ior hx hb (dq da_X5_computing 56 rfl) ?_
        by_cases c4 : (((f_X5_bits x0 (12 : Int32) (1 : Int32)) <<< ((2 : Int32) &&& 31)) ||| (f_X5_bits x0 (5 : Int32) (3 : Int32))) = (0 : Int32)
        · have h := it c4 h
          refine lv_tableIn (off := 39) (tgt := 152) hx hb (dq da_X5_computing 57 rfl) (by rw [c4]; decide +kernel) (by rw [c4]; decide +kernel) (by rw [c4]; decide +kernel) (by decide) ?_
          refine lv_bipush (v := 51) hx hb (dq da_X5_computing 58 rfl) rfl ?_
          refine lv_iconst (v := 0) hx hb (dq da_X5_computing 59 rfl) rfl ?_
          refine lv_bipush (v := 32) hx hb (dq da_X5_computing 60 rfl) rfl ?_
          refine lv_iload_n hx hb (dq da_X5_computing 61 rfl) rfl (lv_at hl 1 rfl) ?_
          refine lv_iload_n hx hb (dq da_X5_computing 62 rfl) rfl (lv_at hl 1 rfl) ?_
          refine lv_iload_n hx hb (dq da_X5_computing 63 rfl) rfl (lv_at hl 0 rfl) ?_
          refine callP E (c_X5_withRegister l _ _ _ _ _ _ ) w_797 w_798 w_19 w_799 hd_X5_withRegister rfl hl.1 rfl (Nat.le_of_ble_eq_true rfl) ⟨Nat.le_of_ble_eq_true rfl, Nat.le_of_ble_eq_true rfl⟩ (by decide) (dq da_X5_computing 64 rfl) ?_
          exact pret_i E hr hlk h (dq da_X5_computing 65 rfl)
        · have h := ie c4 h
          by_cases c5 : (((f_X5_bits x0 (12 : Int32) (1 : Int32)) <<< ((2 : Int32) &&& 31)) ||| (f_X5_bits x0 (5 : Int32) (3 : Int32))) = (1 : Int32)
          · have h := it c5 h
            refine lv_tableIn (off := 51) (tgt := 164) hx hb (dq da_X5_computing 57 rfl) (by rw [c5]; decide +kernel) (by rw [c5]; decide +kernel) (by rw [c5]; decide +kernel) (by decide) ?_
            refine lv_bipush (v := 51) hx hb (dq da_X5_computing 66 rfl) rfl ?_
            refine lv_iconst (v := 4) hx hb (dq da_X5_computing 67 rfl) rfl ?_
            refine lv_iconst (v := 0) hx hb (dq da_X5_computing 68 rfl) rfl ?_
            refine lv_iload_n hx hb (dq da_X5_computing 69 rfl) rfl (lv_at hl 1 rfl) ?_
            refine lv_iload_n hx hb (dq da_X5_computing 70 rfl) rfl (lv_at hl 1 rfl) ?_
            refine lv_iload_n hx hb (dq da_X5_computing 71 rfl) rfl (lv_at hl 0 rfl) ?_
            refine callP E (c_X5_withRegister l _ _ _ _ _ _ ) w_797 w_798 w_19 w_799 hd_X5_withRegister rfl hl.1 rfl (Nat.le_of_ble_eq_true rfl) ⟨Nat.le_of_ble_eq_true rfl, Nat.le_of_ble_eq_true rfl⟩ (by decide) (dq da_X5_computing 72 rfl) ?_
            exact pret_i E hr hlk h (dq da_X5_computing 73 rfl)
          · have h := ie c5 h
            by_cases c6 : (((f_X5_bits x0 (12 : Int32) (1 : Int32)) <<< ((2 : Int32) &&& 31)) ||| (f_X5_bits x0 (5 : Int32) (3 : Int32))) = (2 : Int32)
            · have h := it c6 h
              refine lv_tableIn (off := 62) (tgt := 175) hx hb (dq da_X5_computing 57 rfl) (by rw [c6]; decide +kernel) (by rw [c6]; decide +kernel) (by rw [c6]; decide +kernel) (by decide) ?_
              refine lv_bipush (v := 51) hx hb (dq da_X5_computing 74 rfl) rfl ?_
              refine lv_bipush (v := 6) hx hb (dq da_X5_computing 75 rfl) rfl ?_
              refine lv_iconst (v := 0) hx hb (dq da_X5_computing 76 rfl) rfl ?_
              refine lv_iload_n hx hb (dq da_X5_computing 77 rfl) rfl (lv_at hl 1 rfl) ?_
              refine lv_iload_n hx hb (dq da_X5_computing 78 rfl) rfl (lv_at hl 1 rfl) ?_
              refine lv_iload_n hx hb (dq da_X5_computing 79 rfl) rfl (lv_at hl 0 rfl) ?_
              refine callP E (c_X5_withRegister l _ _ _ _ _ _ ) w_797 w_798 w_19 w_799 hd_X5_withRegister rfl hl.1 rfl (Nat.le_of_ble_eq_true rfl) ⟨Nat.le_of_ble_eq_true rfl, Nat.le_of_ble_eq_true rfl⟩ (by decide) (dq da_X5_computing 80 rfl) ?_
              exact pret_i E hr hlk h (dq da_X5_computing 81 rfl)
            · have h := ie c6 h
              by_cases c7 : (((f_X5_bits x0 (12 : Int32) (1 : Int32)) <<< ((2 : Int32) &&& 31)) ||| (f_X5_bits x0 (5 : Int32) (3 : Int32))) = (3 : Int32)
              · have h := it c7 h
                refine lv_tableIn (off := 74) (tgt := 187) hx hb (dq da_X5_computing 57 rfl) (by rw [c7]; decide +kernel) (by rw [c7]; decide +kernel) (by rw [c7]; decide +kernel) (by decide) ?_
                refine lv_bipush (v := 51) hx hb (dq da_X5_computing 82 rfl) rfl ?_
                refine lv_bipush (v := 7) hx hb (dq da_X5_computing 83 rfl) rfl ?_
                refine lv_iconst (v := 0) hx hb (dq da_X5_computing 84 rfl) rfl ?_
                refine lv_iload_n hx hb (dq da_X5_computing 85 rfl) rfl (lv_at hl 1 rfl) ?_
                refine lv_iload_n hx hb (dq da_X5_computing 86 rfl) rfl (lv_at hl 1 rfl) ?_
                refine lv_iload_n hx hb (dq da_X5_computing 87 rfl) rfl (lv_at hl 0 rfl) ?_
                refine callP E (c_X5_withRegister l _ _ _ _ _ _ ) w_797 w_798 w_19 w_799 hd_X5_withRegister rfl hl.1 rfl (Nat.le_of_ble_eq_true rfl) ⟨Nat.le_of_ble_eq_true rfl, Nat.le_of_ble_eq_true rfl⟩ (by decide) (dq da_X5_computing 88 rfl) ?_
                exact pret_i E hr hlk h (dq da_X5_computing 89 rfl)
              · have h := ie c7 h
                by_cases c8 : (((f_X5_bits x0 (12 : Int32) (1 : Int32)) <<< ((2 : Int32) &&& 31)) ||| (f_X5_bits x0 (5 : Int32) (3 : Int32))) = (4 : Int32)
                · have h := it c8 h
                  refine lv_tableIn (off := 86) (tgt := 199) hx hb (dq da_X5_computing 57 rfl) (by rw [c8]; decide +kernel) (by rw [c8]; decide +kernel) (by rw [c8]; decide +kernel) (by decide) ?_
                  refine lv_bipush (v := 59) hx hb (dq da_X5_computing 90 rfl) rfl ?_
                  refine lv_iconst (v := 0) hx hb (dq da_X5_computing 91 rfl) rfl ?_
                  refine lv_bipush (v := 32) hx hb (dq da_X5_computing 92 rfl) rfl ?_
                  refine lv_iload_n hx hb (dq da_X5_computing 93 rfl) rfl (lv_at hl 1 rfl) ?_
                  refine lv_iload_n hx hb (dq da_X5_computing 94 rfl) rfl (lv_at hl 1 rfl) ?_
                  refine lv_iload_n hx hb (dq da_X5_computing 95 rfl) rfl (lv_at hl 0 rfl) ?_
                  refine callP E (c_X5_withRegister l _ _ _ _ _ _ ) w_797 w_798 w_19 w_799 hd_X5_withRegister rfl hl.1 rfl (Nat.le_of_ble_eq_true rfl) ⟨Nat.le_of_ble_eq_true rfl, Nat.le_of_ble_eq_true rfl⟩ (by decide) (dq da_X5_computing 96 rfl) ?_
                  exact pret_i E hr hlk h (dq da_X5_computing 97 rfl)
                · have h := ie c8 h
                  by_cases c9 : (((f_X5_bits x0 (12 : Int32) (1 : Int32)) <<< ((2 : Int32) &&& 31)) ||| (f_X5_bits x0 (5 : Int32) (3 : Int32))) = (5 : Int32)
                  · have h := it c9 h
                    refine lv_tableIn (off := 98) (tgt := 211) hx hb (dq da_X5_computing 57 rfl) (by rw [c9]; decide +kernel) (by rw [c9]; decide +kernel) (by rw [c9]; decide +kernel) (by decide) ?_
                    refine lv_bipush (v := 59) hx hb (dq da_X5_computing 98 rfl) rfl ?_
                    refine lv_iconst (v := 0) hx hb (dq da_X5_computing 99 rfl) rfl ?_
                    refine lv_iconst (v := 0) hx hb (dq da_X5_computing 100 rfl) rfl ?_
                    refine lv_iload_n hx hb (dq da_X5_computing 101 rfl) rfl (lv_at hl 1 rfl) ?_
                    refine lv_iload_n hx hb (dq da_X5_computing 102 rfl) rfl (lv_at hl 1 rfl) ?_
                    refine lv_iload_n hx hb (dq da_X5_computing 103 rfl) rfl (lv_at hl 0 rfl) ?_
                    refine callP E (c_X5_withRegister l _ _ _ _ _ _ ) w_797 w_798 w_19 w_799 hd_X5_withRegister rfl hl.1 rfl (Nat.le_of_ble_eq_true rfl) ⟨Nat.le_of_ble_eq_true rfl, Nat.le_of_ble_eq_true rfl⟩ (by decide) (dq da_X5_computing 104 rfl) ?_
                    exact pret_i E hr hlk h (dq da_X5_computing 105 rfl)
                  · have h := ie c9 h
                    refine lv_tableOut (tgt := 222) hx hb (dq da_X5_computing 57 rfl) (by have := lv_neT (k := (0 : Int32)) (a := 0) c4 rfl; have := lv_neT (k := (1 : Int32)) (a := 1) c5 rfl; have := lv_neT (k := (2 : Int32)) (a := 2) c6 rfl; have := lv_neT (k := (3 : Int32)) (a := 3) c7 rfl; have := lv_neT (k := (4 : Int32)) (a := 4) c8 rfl; have := lv_neT (k := (5 : Int32)) (a := 5) c9 rfl; omega) (by decide) ?_
                    refine lv_iconst (v := 0) hx hb (dq da_X5_computing 106 rfl) rfl ?_
                    exact pret_i E hr hlk h (dq da_X5_computing 107 rfl)
def dl_X5_jumping : List (Nat × Instr × Nat) := [(0, .iload_n 0, 1), (1, .invokestatic 31, 3), (4, .bipush 11, 2), (6, .ishl, 1), (7, .iload_n 0, 1), (8, .bipush 8, 2), (10, .iconst 1, 1), (11, .invokestatic 19, 3), (14, .bipush 10, 2), (16, .ishl, 1), (17, .ior, 1), (18, .iload_n 0, 1), (19, .bipush 9, 2), (21, .iconst 3, 1), (22, .invokestatic 19, 3), (25, .bipush 8, 2), (27, .ishl, 1), (28, .ior, 1), (29, .iload_n 0, 1), (30, .bipush 6, 2), (32, .iconst 1, 1), (33, .invokestatic 19, 3), (36, .bipush 7, 2), (38, .ishl, 1), (39, .ior, 1), (40, .iload_n 0, 1), (41, .bipush 7, 2), (43, .iconst 1, 1), (44, .invokestatic 19, 3), (47, .bipush 6, 2), (49, .ishl, 1), (50, .ior, 1), (51, .iload_n 0, 1), (52, .iconst 2, 1), (53, .iconst 1, 1), (54, .invokestatic 19, 3), (57, .iconst 5, 1), (58, .ishl, 1), (59, .ior, 1), (60, .iload_n 0, 1), (61, .bipush 11, 2), (63, .iconst 1, 1), (64, .invokestatic 19, 3), (67, .iconst 4, 1), (68, .ishl, 1), (69, .ior, 1), (70, .iload_n 0, 1), (71, .iconst 3, 1), (72, .bipush 7, 2), (74, .invokestatic 19, 3), (77, .iconst 1, 1), (78, .ishl, 1), (79, .ior, 1), (80, .istore_n 1, 1), (81, .iload_n 1, 1), (82, .bipush 20, 2), (84, .iconst 1, 1), (85, .invokestatic 19, 3), (88, .bipush 31, 2), (90, .ishl, 1), (91, .iload_n 1, 1), (92, .iconst 1, 1), (93, .sipush 1023, 3), (96, .invokestatic 19, 3), (99, .bipush 21, 2), (101, .ishl, 1), (102, .ior, 1), (103, .iload_n 1, 1), (104, .bipush 11, 2), (106, .iconst 1, 1), (107, .invokestatic 19, 3), (110, .bipush 20, 2), (112, .ishl, 1), (113, .ior, 1), (114, .iload_n 1, 1), (115, .bipush 12, 2), (117, .sipush 255, 3), (120, .invokestatic 19, 3), (123, .bipush 12, 2), (125, .ishl, 1), (126, .ior, 1), (127, .bipush 111, 2), (129, .ior, 1), (130, .ireturn, 1)]
theorem da_X5_jumping : dkL cX5_jumping dl_X5_jumping = true := by decide +kernel
def f_X5_jumping (x0 : Int32) : Int32 := ((((((f_X5_bits (((((((((f_X5_highest x0) <<< ((11 : Int32) &&& 31)) ||| ((f_X5_bits x0 (8 : Int32) (1 : Int32)) <<< ((10 : Int32) &&& 31))) ||| ((f_X5_bits x0 (9 : Int32) (3 : Int32)) <<< ((8 : Int32) &&& 31))) ||| ((f_X5_bits x0 (6 : Int32) (1 : Int32)) <<< ((7 : Int32) &&& 31))) ||| ((f_X5_bits x0 (7 : Int32) (1 : Int32)) <<< ((6 : Int32) &&& 31))) ||| ((f_X5_bits x0 (2 : Int32) (1 : Int32)) <<< ((5 : Int32) &&& 31))) ||| ((f_X5_bits x0 (11 : Int32) (1 : Int32)) <<< ((4 : Int32) &&& 31))) ||| ((f_X5_bits x0 (3 : Int32) (7 : Int32)) <<< ((1 : Int32) &&& 31))) (20 : Int32) (1 : Int32)) <<< ((31 : Int32) &&& 31)) ||| ((f_X5_bits (((((((((f_X5_highest x0) <<< ((11 : Int32) &&& 31)) ||| ((f_X5_bits x0 (8 : Int32) (1 : Int32)) <<< ((10 : Int32) &&& 31))) ||| ((f_X5_bits x0 (9 : Int32) (3 : Int32)) <<< ((8 : Int32) &&& 31))) ||| ((f_X5_bits x0 (6 : Int32) (1 : Int32)) <<< ((7 : Int32) &&& 31))) ||| ((f_X5_bits x0 (7 : Int32) (1 : Int32)) <<< ((6 : Int32) &&& 31))) ||| ((f_X5_bits x0 (2 : Int32) (1 : Int32)) <<< ((5 : Int32) &&& 31))) ||| ((f_X5_bits x0 (11 : Int32) (1 : Int32)) <<< ((4 : Int32) &&& 31))) ||| ((f_X5_bits x0 (3 : Int32) (7 : Int32)) <<< ((1 : Int32) &&& 31))) (1 : Int32) (1023 : Int32)) <<< ((21 : Int32) &&& 31))) ||| ((f_X5_bits (((((((((f_X5_highest x0) <<< ((11 : Int32) &&& 31)) ||| ((f_X5_bits x0 (8 : Int32) (1 : Int32)) <<< ((10 : Int32) &&& 31))) ||| ((f_X5_bits x0 (9 : Int32) (3 : Int32)) <<< ((8 : Int32) &&& 31))) ||| ((f_X5_bits x0 (6 : Int32) (1 : Int32)) <<< ((7 : Int32) &&& 31))) ||| ((f_X5_bits x0 (7 : Int32) (1 : Int32)) <<< ((6 : Int32) &&& 31))) ||| ((f_X5_bits x0 (2 : Int32) (1 : Int32)) <<< ((5 : Int32) &&& 31))) ||| ((f_X5_bits x0 (11 : Int32) (1 : Int32)) <<< ((4 : Int32) &&& 31))) ||| ((f_X5_bits x0 (3 : Int32) (7 : Int32)) <<< ((1 : Int32) &&& 31))) (11 : Int32) (1 : Int32)) <<< ((20 : Int32) &&& 31))) ||| ((f_X5_bits (((((((((f_X5_highest x0) <<< ((11 : Int32) &&& 31)) ||| ((f_X5_bits x0 (8 : Int32) (1 : Int32)) <<< ((10 : Int32) &&& 31))) ||| ((f_X5_bits x0 (9 : Int32) (3 : Int32)) <<< ((8 : Int32) &&& 31))) ||| ((f_X5_bits x0 (6 : Int32) (1 : Int32)) <<< ((7 : Int32) &&& 31))) ||| ((f_X5_bits x0 (7 : Int32) (1 : Int32)) <<< ((6 : Int32) &&& 31))) ||| ((f_X5_bits x0 (2 : Int32) (1 : Int32)) <<< ((5 : Int32) &&& 31))) ||| ((f_X5_bits x0 (11 : Int32) (1 : Int32)) <<< ((4 : Int32) &&& 31))) ||| ((f_X5_bits x0 (3 : Int32) (7 : Int32)) <<< ((1 : Int32) &&& 31))) (12 : Int32) (255 : Int32)) <<< ((12 : Int32) &&& 31))) ||| (111 : Int32))
set_option maxRecDepth 100000 in
set_option maxHeartbeats 4000000 in
theorem c_X5_jumping (l : Launch) (x0 : Int32) : MP l yX5_jumping cX5_jumping 2 (some .int) 1 22 [.int x0] (.int (f_X5_jumping x0)) := by
  refine entP (by decide +kernel) (Nat.le_of_ble_eq_true rfl) ?_
  intro p e s m args below meth c ls E hr hlk hl
  have hl : lv_has ls 2 [(0, .int x0)] := hl
  generalize h : f_X5_jumping x0 = r
  have hx := E.1
  have hb := E.2.1
  have hown := E.2.2.2.1
  have hts := E.2.2.2.2
  refine lv_iload_n hx hb (dq da_X5_jumping 0 rfl) rfl (lv_at hl 0 rfl) ?_
  refine callP E (c_X5_highest l _ ) w_788 w_789 w_19 w_790 hd_X5_highest rfl hl.1 rfl (Nat.le_of_ble_eq_true rfl) ⟨Nat.le_of_ble_eq_true rfl, Nat.le_of_ble_eq_true rfl⟩ (by decide) (dq da_X5_jumping 1 rfl) ?_
  refine lv_bipush (v := 11) hx hb (dq da_X5_jumping 2 rfl) rfl ?_
  refine lv_ishl hx hb (dq da_X5_jumping 3 rfl) ?_
  refine lv_iload_n hx hb (dq da_X5_jumping 4 rfl) rfl (lv_at hl 0 rfl) ?_
  refine lv_bipush (v := 8) hx hb (dq da_X5_jumping 5 rfl) rfl ?_
  refine lv_iconst (v := 1) hx hb (dq da_X5_jumping 6 rfl) rfl ?_
  refine callP E (c_X5_bits l _ _ _ ) w_776 w_777 w_19 w_778 hd_X5_bits rfl hl.1 rfl (Nat.le_of_ble_eq_true rfl) ⟨Nat.le_of_ble_eq_true rfl, Nat.le_of_ble_eq_true rfl⟩ (by decide) (dq da_X5_jumping 7 rfl) ?_
  refine lv_bipush (v := 10) hx hb (dq da_X5_jumping 8 rfl) rfl ?_
  refine lv_ishl hx hb (dq da_X5_jumping 9 rfl) ?_
  refine lv_ior hx hb (dq da_X5_jumping 10 rfl) ?_
  refine lv_iload_n hx hb (dq da_X5_jumping 11 rfl) rfl (lv_at hl 0 rfl) ?_
  refine lv_bipush (v := 9) hx hb (dq da_X5_jumping 12 rfl) rfl ?_
  refine lv_iconst (v := 3) hx hb (dq da_X5_jumping 13 rfl) rfl ?_
  refine callP E (c_X5_bits l _ _ _ ) w_776 w_777 w_19 w_778 hd_X5_bits rfl hl.1 rfl (Nat.le_of_ble_eq_true rfl) ⟨Nat.le_of_ble_eq_true rfl, Nat.le_of_ble_eq_true rfl⟩ (by decide) (dq da_X5_jumping 14 rfl) ?_
  refine lv_bipush (v := 8) hx hb (dq da_X5_jumping 15 rfl) rfl ?_
  refine lv_ishl hx hb (dq da_X5_jumping 16 rfl) ?_
  refine lv_ior hx hb (dq da_X5_jumping 17 rfl) ?_
  refine lv_iload_n hx hb (dq da_X5_jumping 18 rfl) rfl (lv_at hl 0 rfl) ?_
  refine lv_bipush (v := 6) hx hb (dq da_X5_jumping 19 rfl) rfl ?_
  refine lv_iconst (v := 1) hx hb (dq da_X5_jumping 20 rfl) rfl ?_
  refine callP E (c_X5_bits l _ _ _ ) w_776 w_777 w_19 w_778 hd_X5_bits rfl hl.1 rfl (Nat.le_of_ble_eq_true rfl) ⟨Nat.le_of_ble_eq_true rfl, Nat.le_of_ble_eq_true rfl⟩ (by decide) (dq da_X5_jumping 21 rfl) ?_
  refine lv_bipush (v := 7) hx hb (dq da_X5_jumping 22 rfl) rfl ?_
  refine lv_ishl hx hb (dq da_X5_jumping 23 rfl) ?_
  refine lv_ior hx hb (dq da_X5_jumping 24 rfl) ?_
  refine lv_iload_n hx hb (dq da_X5_jumping 25 rfl) rfl (lv_at hl 0 rfl) ?_
  refine lv_bipush (v := 7) hx hb (dq da_X5_jumping 26 rfl) rfl ?_
  refine lv_iconst (v := 1) hx hb (dq da_X5_jumping 27 rfl) rfl ?_
  refine callP E (c_X5_bits l _ _ _ ) w_776 w_777 w_19 w_778 hd_X5_bits rfl hl.1 rfl (Nat.le_of_ble_eq_true rfl) ⟨Nat.le_of_ble_eq_true rfl, Nat.le_of_ble_eq_true rfl⟩ (by decide) (dq da_X5_jumping 28 rfl) ?_
  refine lv_bipush (v := 6) hx hb (dq da_X5_jumping 29 rfl) rfl ?_
  refine lv_ishl hx hb (dq da_X5_jumping 30 rfl) ?_
  refine lv_ior hx hb (dq da_X5_jumping 31 rfl) ?_
  refine lv_iload_n hx hb (dq da_X5_jumping 32 rfl) rfl (lv_at hl 0 rfl) ?_
  refine lv_iconst (v := 2) hx hb (dq da_X5_jumping 33 rfl) rfl ?_
  refine lv_iconst (v := 1) hx hb (dq da_X5_jumping 34 rfl) rfl ?_
  refine callP E (c_X5_bits l _ _ _ ) w_776 w_777 w_19 w_778 hd_X5_bits rfl hl.1 rfl (Nat.le_of_ble_eq_true rfl) ⟨Nat.le_of_ble_eq_true rfl, Nat.le_of_ble_eq_true rfl⟩ (by decide) (dq da_X5_jumping 35 rfl) ?_
  refine lv_iconst (v := 5) hx hb (dq da_X5_jumping 36 rfl) rfl ?_
  refine lv_ishl hx hb (dq da_X5_jumping 37 rfl) ?_
  refine lv_ior hx hb (dq da_X5_jumping 38 rfl) ?_
  refine lv_iload_n hx hb (dq da_X5_jumping 39 rfl) rfl (lv_at hl 0 rfl) ?_
  refine lv_bipush (v := 11) hx hb (dq da_X5_jumping 40 rfl) rfl ?_
  refine lv_iconst (v := 1) hx hb (dq da_X5_jumping 41 rfl) rfl ?_
  refine callP E (c_X5_bits l _ _ _ ) w_776 w_777 w_19 w_778 hd_X5_bits rfl hl.1 rfl (Nat.le_of_ble_eq_true rfl) ⟨Nat.le_of_ble_eq_true rfl, Nat.le_of_ble_eq_true rfl⟩ (by decide) (dq da_X5_jumping 42 rfl) ?_
  refine lv_iconst (v := 4) hx hb (dq da_X5_jumping 43 rfl) rfl ?_
  refine lv_ishl hx hb (dq da_X5_jumping 44 rfl) ?_
  refine lv_ior hx hb (dq da_X5_jumping 45 rfl) ?_
  refine lv_iload_n hx hb (dq da_X5_jumping 46 rfl) rfl (lv_at hl 0 rfl) ?_
  refine lv_iconst (v := 3) hx hb (dq da_X5_jumping 47 rfl) rfl ?_
  refine lv_bipush (v := 7) hx hb (dq da_X5_jumping 48 rfl) rfl ?_
  refine callP E (c_X5_bits l _ _ _ ) w_776 w_777 w_19 w_778 hd_X5_bits rfl hl.1 rfl (Nat.le_of_ble_eq_true rfl) ⟨Nat.le_of_ble_eq_true rfl, Nat.le_of_ble_eq_true rfl⟩ (by decide) (dq da_X5_jumping 49 rfl) ?_
  refine lv_iconst (v := 1) hx hb (dq da_X5_jumping 50 rfl) rfl ?_
  refine lv_ishl hx hb (dq da_X5_jumping 51 rfl) ?_
  refine lv_ior hx hb (dq da_X5_jumping 52 rfl) ?_
  refine lv_istore_n (lv' := [(1, .int (((((((((f_X5_highest x0) <<< ((11 : Int32) &&& 31)) ||| ((f_X5_bits x0 (8 : Int32) (1 : Int32)) <<< ((10 : Int32) &&& 31))) ||| ((f_X5_bits x0 (9 : Int32) (3 : Int32)) <<< ((8 : Int32) &&& 31))) ||| ((f_X5_bits x0 (6 : Int32) (1 : Int32)) <<< ((7 : Int32) &&& 31))) ||| ((f_X5_bits x0 (7 : Int32) (1 : Int32)) <<< ((6 : Int32) &&& 31))) ||| ((f_X5_bits x0 (2 : Int32) (1 : Int32)) <<< ((5 : Int32) &&& 31))) ||| ((f_X5_bits x0 (11 : Int32) (1 : Int32)) <<< ((4 : Int32) &&& 31))) ||| ((f_X5_bits x0 (3 : Int32) (7 : Int32)) <<< ((1 : Int32) &&& 31)))), (0, .int x0)]) hx hb (dq da_X5_jumping 53 rfl) rfl hl (by decide) rfl (fun ls hl => ?_)
  refine lv_iload_n hx hb (dq da_X5_jumping 54 rfl) rfl (lv_at hl 0 rfl) ?_
  refine lv_bipush (v := 20) hx hb (dq da_X5_jumping 55 rfl) rfl ?_
  refine lv_iconst (v := 1) hx hb (dq da_X5_jumping 56 rfl) rfl ?_
  refine callP E (c_X5_bits l _ _ _ ) w_776 w_777 w_19 w_778 hd_X5_bits rfl hl.1 rfl (Nat.le_of_ble_eq_true rfl) ⟨Nat.le_of_ble_eq_true rfl, Nat.le_of_ble_eq_true rfl⟩ (by decide) (dq da_X5_jumping 57 rfl) ?_
  refine lv_bipush (v := 31) hx hb (dq da_X5_jumping 58 rfl) rfl ?_
  refine lv_ishl hx hb (dq da_X5_jumping 59 rfl) ?_
  refine lv_iload_n hx hb (dq da_X5_jumping 60 rfl) rfl (lv_at hl 0 rfl) ?_
  refine lv_iconst (v := 1) hx hb (dq da_X5_jumping 61 rfl) rfl ?_
  refine lv_sipush (v := 1023) hx hb (dq da_X5_jumping 62 rfl) rfl ?_
  refine callP E (c_X5_bits l _ _ _ ) w_776 w_777 w_19 w_778 hd_X5_bits rfl hl.1 rfl (Nat.le_of_ble_eq_true rfl) ⟨Nat.le_of_ble_eq_true rfl, Nat.le_of_ble_eq_true rfl⟩ (by decide) (dq da_X5_jumping 63 rfl) ?_
  refine lv_bipush (v := 21) hx hb (dq da_X5_jumping 64 rfl) rfl ?_
  refine lv_ishl hx hb (dq da_X5_jumping 65 rfl) ?_
  refine lv_ior hx hb (dq da_X5_jumping 66 rfl) ?_
  refine lv_iload_n hx hb (dq da_X5_jumping 67 rfl) rfl (lv_at hl 0 rfl) ?_
  refine lv_bipush (v := 11) hx hb (dq da_X5_jumping 68 rfl) rfl ?_
  refine lv_iconst (v := 1) hx hb (dq da_X5_jumping 69 rfl) rfl ?_
  refine callP E (c_X5_bits l _ _ _ ) w_776 w_777 w_19 w_778 hd_X5_bits rfl hl.1 rfl (Nat.le_of_ble_eq_true rfl) ⟨Nat.le_of_ble_eq_true rfl, Nat.le_of_ble_eq_true rfl⟩ (by decide) (dq da_X5_jumping 70 rfl) ?_
  refine lv_bipush (v := 20) hx hb (dq da_X5_jumping 71 rfl) rfl ?_
  refine lv_ishl hx hb (dq da_X5_jumping 72 rfl) ?_
  refine lv_ior hx hb (dq da_X5_jumping 73 rfl) ?_
  refine lv_iload_n hx hb (dq da_X5_jumping 74 rfl) rfl (lv_at hl 0 rfl) ?_
  refine lv_bipush (v := 12) hx hb (dq da_X5_jumping 75 rfl) rfl ?_
  refine lv_sipush (v := 255) hx hb (dq da_X5_jumping 76 rfl) rfl ?_
  refine callP E (c_X5_bits l _ _ _ ) w_776 w_777 w_19 w_778 hd_X5_bits rfl hl.1 rfl (Nat.le_of_ble_eq_true rfl) ⟨Nat.le_of_ble_eq_true rfl, Nat.le_of_ble_eq_true rfl⟩ (by decide) (dq da_X5_jumping 77 rfl) ?_
  refine lv_bipush (v := 12) hx hb (dq da_X5_jumping 78 rfl) rfl ?_
  refine lv_ishl hx hb (dq da_X5_jumping 79 rfl) ?_
  refine lv_ior hx hb (dq da_X5_jumping 80 rfl) ?_
  refine lv_bipush (v := 111) hx hb (dq da_X5_jumping 81 rfl) rfl ?_
  refine lv_ior hx hb (dq da_X5_jumping 82 rfl) ?_
  exact pret_i E hr hlk h (dq da_X5_jumping 83 rfl)
def dl_X5_branching : List (Nat × Instr × Nat) := [(0, .bipush 8, 2), (2, .iload_n 0, 1), (3, .bipush 7, 2), (5, .bipush 7, 2), (7, .invokestatic 19, 3), (10, .iadd, 1), (11, .istore_n 2, 1), (12, .iload_n 0, 1), (13, .invokestatic 31, 3), (16, .bipush 8, 2), (18, .ishl, 1), (19, .iload_n 0, 1), (20, .iconst 5, 1), (21, .iconst 3, 1), (22, .invokestatic 19, 3), (25, .bipush 6, 2), (27, .ishl, 1), (28, .ior, 1), (29, .iload_n 0, 1), (30, .iconst 2, 1), (31, .iconst 1, 1), (32, .invokestatic 19, 3), (35, .iconst 5, 1), (36, .ishl, 1), (37, .ior, 1), (38, .iload_n 0, 1), (39, .bipush 10, 2), (41, .iconst 3, 1), (42, .invokestatic 19, 3), (45, .iconst 3, 1), (46, .ishl, 1), (47, .ior, 1), (48, .iload_n 0, 1), (49, .iconst 3, 1), (50, .iconst 3, 1), (51, .invokestatic 19, 3), (54, .iconst 1, 1), (55, .ishl, 1), (56, .ior, 1), (57, .istore_n 3, 1), (58, .iload_n 3, 1), (59, .bipush 12, 2), (61, .iconst 1, 1), (62, .invokestatic 19, 3), (65, .bipush 31, 2), (67, .ishl, 1), (68, .iload_n 3, 1), (69, .iconst 5, 1), (70, .bipush 63, 2), (72, .invokestatic 19, 3), (75, .bipush 25, 2), (77, .ishl, 1), (78, .ior, 1), (79, .iload_n 2, 1), (80, .bipush 15, 2), (82, .ishl, 1), (83, .ior, 1), (84, .iload_n 1, 1), (85, .bipush 12, 2), (87, .ishl, 1), (88, .ior, 1), (89, .iload_n 3, 1), (90, .iconst 1, 1), (91, .bipush 15, 2), (93, .invokestatic 19, 3), (96, .bipush 8, 2), (98, .ishl, 1), (99, .ior, 1), (100, .iload_n 3, 1), (101, .bipush 11, 2), (103, .iconst 1, 1), (104, .invokestatic 19, 3), (107, .bipush 7, 2), (109, .ishl, 1), (110, .ior, 1), (111, .bipush 99, 2), (113, .ior, 1), (114, .ireturn, 1)]
theorem da_X5_branching : dkL cX5_branching dl_X5_branching = true := by decide +kernel
def f_X5_branching (x0 : Int32) (x1 : Int32) : Int32 := ((((((((f_X5_bits ((((((f_X5_highest x0) <<< ((8 : Int32) &&& 31)) ||| ((f_X5_bits x0 (5 : Int32) (3 : Int32)) <<< ((6 : Int32) &&& 31))) ||| ((f_X5_bits x0 (2 : Int32) (1 : Int32)) <<< ((5 : Int32) &&& 31))) ||| ((f_X5_bits x0 (10 : Int32) (3 : Int32)) <<< ((3 : Int32) &&& 31))) ||| ((f_X5_bits x0 (3 : Int32) (3 : Int32)) <<< ((1 : Int32) &&& 31))) (12 : Int32) (1 : Int32)) <<< ((31 : Int32) &&& 31)) ||| ((f_X5_bits ((((((f_X5_highest x0) <<< ((8 : Int32) &&& 31)) ||| ((f_X5_bits x0 (5 : Int32) (3 : Int32)) <<< ((6 : Int32) &&& 31))) ||| ((f_X5_bits x0 (2 : Int32) (1 : Int32)) <<< ((5 : Int32) &&& 31))) ||| ((f_X5_bits x0 (10 : Int32) (3 : Int32)) <<< ((3 : Int32) &&& 31))) ||| ((f_X5_bits x0 (3 : Int32) (3 : Int32)) <<< ((1 : Int32) &&& 31))) (5 : Int32) (63 : Int32)) <<< ((25 : Int32) &&& 31))) ||| (((8 : Int32) + (f_X5_bits x0 (7 : Int32) (7 : Int32))) <<< ((15 : Int32) &&& 31))) ||| (x1 <<< ((12 : Int32) &&& 31))) ||| ((f_X5_bits ((((((f_X5_highest x0) <<< ((8 : Int32) &&& 31)) ||| ((f_X5_bits x0 (5 : Int32) (3 : Int32)) <<< ((6 : Int32) &&& 31))) ||| ((f_X5_bits x0 (2 : Int32) (1 : Int32)) <<< ((5 : Int32) &&& 31))) ||| ((f_X5_bits x0 (10 : Int32) (3 : Int32)) <<< ((3 : Int32) &&& 31))) ||| ((f_X5_bits x0 (3 : Int32) (3 : Int32)) <<< ((1 : Int32) &&& 31))) (1 : Int32) (15 : Int32)) <<< ((8 : Int32) &&& 31))) ||| ((f_X5_bits ((((((f_X5_highest x0) <<< ((8 : Int32) &&& 31)) ||| ((f_X5_bits x0 (5 : Int32) (3 : Int32)) <<< ((6 : Int32) &&& 31))) ||| ((f_X5_bits x0 (2 : Int32) (1 : Int32)) <<< ((5 : Int32) &&& 31))) ||| ((f_X5_bits x0 (10 : Int32) (3 : Int32)) <<< ((3 : Int32) &&& 31))) ||| ((f_X5_bits x0 (3 : Int32) (3 : Int32)) <<< ((1 : Int32) &&& 31))) (11 : Int32) (1 : Int32)) <<< ((7 : Int32) &&& 31))) ||| (99 : Int32))
set_option maxRecDepth 100000 in
set_option maxHeartbeats 4000000 in
theorem c_X5_branching (l : Launch) (x0 : Int32) (x1 : Int32) : MP l yX5_branching cX5_branching 4 (some .int) 1 22 [.int x0, .int x1] (.int (f_X5_branching x0 x1)) := by
  refine entP (by decide +kernel) (Nat.le_of_ble_eq_true rfl) ?_
  intro p e s m args below meth c ls E hr hlk hl
  have hl : lv_has ls 4 [(0, .int x0), (1, .int x1)] := hl
  generalize h : f_X5_branching x0 x1 = r
  have hx := E.1
  have hb := E.2.1
  have hown := E.2.2.2.1
  have hts := E.2.2.2.2
  refine lv_bipush (v := 8) hx hb (dq da_X5_branching 0 rfl) rfl ?_
  refine lv_iload_n hx hb (dq da_X5_branching 1 rfl) rfl (lv_at hl 0 rfl) ?_
  refine lv_bipush (v := 7) hx hb (dq da_X5_branching 2 rfl) rfl ?_
  refine lv_bipush (v := 7) hx hb (dq da_X5_branching 3 rfl) rfl ?_
  refine callP E (c_X5_bits l _ _ _ ) w_776 w_777 w_19 w_778 hd_X5_bits rfl hl.1 rfl (Nat.le_of_ble_eq_true rfl) ⟨Nat.le_of_ble_eq_true rfl, Nat.le_of_ble_eq_true rfl⟩ (by decide) (dq da_X5_branching 4 rfl) ?_
  refine lv_iadd hx hb (dq da_X5_branching 5 rfl) ?_
  refine lv_istore_n (lv' := [(2, .int ((8 : Int32) + (f_X5_bits x0 (7 : Int32) (7 : Int32)))), (0, .int x0), (1, .int x1)]) hx hb (dq da_X5_branching 6 rfl) rfl hl (by decide) rfl (fun ls hl => ?_)
  refine lv_iload_n hx hb (dq da_X5_branching 7 rfl) rfl (lv_at hl 1 rfl) ?_
  refine callP E (c_X5_highest l _ ) w_788 w_789 w_19 w_790 hd_X5_highest rfl hl.1 rfl (Nat.le_of_ble_eq_true rfl) ⟨Nat.le_of_ble_eq_true rfl, Nat.le_of_ble_eq_true rfl⟩ (by decide) (dq da_X5_branching 8 rfl) ?_
  refine lv_bipush (v := 8) hx hb (dq da_X5_branching 9 rfl) rfl ?_
  refine lv_ishl hx hb (dq da_X5_branching 10 rfl) ?_
  refine lv_iload_n hx hb (dq da_X5_branching 11 rfl) rfl (lv_at hl 1 rfl) ?_
  refine lv_iconst (v := 5) hx hb (dq da_X5_branching 12 rfl) rfl ?_
  refine lv_iconst (v := 3) hx hb (dq da_X5_branching 13 rfl) rfl ?_
  refine callP E (c_X5_bits l _ _ _ ) w_776 w_777 w_19 w_778 hd_X5_bits rfl hl.1 rfl (Nat.le_of_ble_eq_true rfl) ⟨Nat.le_of_ble_eq_true rfl, Nat.le_of_ble_eq_true rfl⟩ (by decide) (dq da_X5_branching 14 rfl) ?_
  refine lv_bipush (v := 6) hx hb (dq da_X5_branching 15 rfl) rfl ?_
  refine lv_ishl hx hb (dq da_X5_branching 16 rfl) ?_
  refine lv_ior hx hb (dq da_X5_branching 17 rfl) ?_
  refine lv_iload_n hx hb (dq da_X5_branching 18 rfl) rfl (lv_at hl 1 rfl) ?_
  refine lv_iconst (v := 2) hx hb (dq da_X5_branching 19 rfl) rfl ?_
  refine lv_iconst (v := 1) hx hb (dq da_X5_branching 20 rfl) rfl ?_
  refine callP E (c_X5_bits l _ _ _ ) w_776 w_777 w_19 w_778 hd_X5_bits rfl hl.1 rfl (Nat.le_of_ble_eq_true rfl) ⟨Nat.le_of_ble_eq_true rfl, Nat.le_of_ble_eq_true rfl⟩ (by decide) (dq da_X5_branching 21 rfl) ?_
  refine lv_iconst (v := 5) hx hb (dq da_X5_branching 22 rfl) rfl ?_
  refine lv_ishl hx hb (dq da_X5_branching 23 rfl) ?_
  refine lv_ior hx hb (dq da_X5_branching 24 rfl) ?_
  refine lv_iload_n hx hb (dq da_X5_branching 25 rfl) rfl (lv_at hl 1 rfl) ?_
  refine lv_bipush (v := 10) hx hb (dq da_X5_branching 26 rfl) rfl ?_
  refine lv_iconst (v := 3) hx hb (dq da_X5_branching 27 rfl) rfl ?_
  refine callP E (c_X5_bits l _ _ _ ) w_776 w_777 w_19 w_778 hd_X5_bits rfl hl.1 rfl (Nat.le_of_ble_eq_true rfl) ⟨Nat.le_of_ble_eq_true rfl, Nat.le_of_ble_eq_true rfl⟩ (by decide) (dq da_X5_branching 28 rfl) ?_
  refine lv_iconst (v := 3) hx hb (dq da_X5_branching 29 rfl) rfl ?_
  refine lv_ishl hx hb (dq da_X5_branching 30 rfl) ?_
  refine lv_ior hx hb (dq da_X5_branching 31 rfl) ?_
  refine lv_iload_n hx hb (dq da_X5_branching 32 rfl) rfl (lv_at hl 1 rfl) ?_
  refine lv_iconst (v := 3) hx hb (dq da_X5_branching 33 rfl) rfl ?_
  refine lv_iconst (v := 3) hx hb (dq da_X5_branching 34 rfl) rfl ?_
  refine callP E (c_X5_bits l _ _ _ ) w_776 w_777 w_19 w_778 hd_X5_bits rfl hl.1 rfl (Nat.le_of_ble_eq_true rfl) ⟨Nat.le_of_ble_eq_true rfl, Nat.le_of_ble_eq_true rfl⟩ (by decide) (dq da_X5_branching 35 rfl) ?_
  refine lv_iconst (v := 1) hx hb (dq da_X5_branching 36 rfl) rfl ?_
  refine lv_ishl hx hb (dq da_X5_branching 37 rfl) ?_
  refine lv_ior hx hb (dq da_X5_branching 38 rfl) ?_
  refine lv_istore_n (lv' := [(3, .int ((((((f_X5_highest x0) <<< ((8 : Int32) &&& 31)) ||| ((f_X5_bits x0 (5 : Int32) (3 : Int32)) <<< ((6 : Int32) &&& 31))) ||| ((f_X5_bits x0 (2 : Int32) (1 : Int32)) <<< ((5 : Int32) &&& 31))) ||| ((f_X5_bits x0 (10 : Int32) (3 : Int32)) <<< ((3 : Int32) &&& 31))) ||| ((f_X5_bits x0 (3 : Int32) (3 : Int32)) <<< ((1 : Int32) &&& 31)))), (2, .int ((8 : Int32) + (f_X5_bits x0 (7 : Int32) (7 : Int32)))), (0, .int x0), (1, .int x1)]) hx hb (dq da_X5_branching 39 rfl) rfl hl (by decide) rfl (fun ls hl => ?_)
  refine lv_iload_n hx hb (dq da_X5_branching 40 rfl) rfl (lv_at hl 0 rfl) ?_
  refine lv_bipush (v := 12) hx hb (dq da_X5_branching 41 rfl) rfl ?_
  refine lv_iconst (v := 1) hx hb (dq da_X5_branching 42 rfl) rfl ?_
  refine callP E (c_X5_bits l _ _ _ ) w_776 w_777 w_19 w_778 hd_X5_bits rfl hl.1 rfl (Nat.le_of_ble_eq_true rfl) ⟨Nat.le_of_ble_eq_true rfl, Nat.le_of_ble_eq_true rfl⟩ (by decide) (dq da_X5_branching 43 rfl) ?_
  refine lv_bipush (v := 31) hx hb (dq da_X5_branching 44 rfl) rfl ?_
  refine lv_ishl hx hb (dq da_X5_branching 45 rfl) ?_
  refine lv_iload_n hx hb (dq da_X5_branching 46 rfl) rfl (lv_at hl 0 rfl) ?_
  refine lv_iconst (v := 5) hx hb (dq da_X5_branching 47 rfl) rfl ?_
  refine lv_bipush (v := 63) hx hb (dq da_X5_branching 48 rfl) rfl ?_
  refine callP E (c_X5_bits l _ _ _ ) w_776 w_777 w_19 w_778 hd_X5_bits rfl hl.1 rfl (Nat.le_of_ble_eq_true rfl) ⟨Nat.le_of_ble_eq_true rfl, Nat.le_of_ble_eq_true rfl⟩ (by decide) (dq da_X5_branching 49 rfl) ?_
  refine lv_bipush (v := 25) hx hb (dq da_X5_branching 50 rfl) rfl ?_
  refine lv_ishl hx hb (dq da_X5_branching 51 rfl) ?_
  refine lv_ior hx hb (dq da_X5_branching 52 rfl) ?_
  refine lv_iload_n hx hb (dq da_X5_branching 53 rfl) rfl (lv_at hl 1 rfl) ?_
  refine lv_bipush (v := 15) hx hb (dq da_X5_branching 54 rfl) rfl ?_
  refine lv_ishl hx hb (dq da_X5_branching 55 rfl) ?_
  refine lv_ior hx hb (dq da_X5_branching 56 rfl) ?_
  refine lv_iload_n hx hb (dq da_X5_branching 57 rfl) rfl (lv_at hl 3 rfl) ?_
  refine lv_bipush (v := 12) hx hb (dq da_X5_branching 58 rfl) rfl ?_
  refine lv_ishl hx hb (dq da_X5_branching 59 rfl) ?_
  refine lv_ior hx hb (dq da_X5_branching 60 rfl) ?_
  refine lv_iload_n hx hb (dq da_X5_branching 61 rfl) rfl (lv_at hl 0 rfl) ?_
  refine lv_iconst (v := 1) hx hb (dq da_X5_branching 62 rfl) rfl ?_
  refine lv_bipush (v := 15) hx hb (dq da_X5_branching 63 rfl) rfl ?_
  refine callP E (c_X5_bits l _ _ _ ) w_776 w_777 w_19 w_778 hd_X5_bits rfl hl.1 rfl (Nat.le_of_ble_eq_true rfl) ⟨Nat.le_of_ble_eq_true rfl, Nat.le_of_ble_eq_true rfl⟩ (by decide) (dq da_X5_branching 64 rfl) ?_
  refine lv_bipush (v := 8) hx hb (dq da_X5_branching 65 rfl) rfl ?_
  refine lv_ishl hx hb (dq da_X5_branching 66 rfl) ?_
  refine lv_ior hx hb (dq da_X5_branching 67 rfl) ?_
  refine lv_iload_n hx hb (dq da_X5_branching 68 rfl) rfl (lv_at hl 0 rfl) ?_
  refine lv_bipush (v := 11) hx hb (dq da_X5_branching 69 rfl) rfl ?_
  refine lv_iconst (v := 1) hx hb (dq da_X5_branching 70 rfl) rfl ?_
  refine callP E (c_X5_bits l _ _ _ ) w_776 w_777 w_19 w_778 hd_X5_bits rfl hl.1 rfl (Nat.le_of_ble_eq_true rfl) ⟨Nat.le_of_ble_eq_true rfl, Nat.le_of_ble_eq_true rfl⟩ (by decide) (dq da_X5_branching 71 rfl) ?_
  refine lv_bipush (v := 7) hx hb (dq da_X5_branching 72 rfl) rfl ?_
  refine lv_ishl hx hb (dq da_X5_branching 73 rfl) ?_
  refine lv_ior hx hb (dq da_X5_branching 74 rfl) ?_
  refine lv_bipush (v := 99) hx hb (dq da_X5_branching 75 rfl) rfl ?_
  refine lv_ior hx hb (dq da_X5_branching 76 rfl) ?_
  exact pret_i E hr hlk h (dq da_X5_branching 77 rfl)
def dl_X5_ofSecondKind : List (Nat × Instr × Nat) := [(0, .iload_n 0, 1), (1, .bipush 7, 2), (3, .bipush 31, 2), (5, .invokestatic 19, 3), (8, .istore_n 1, 1), (9, .iload_n 0, 1), (10, .invokestatic 31, 3), (13, .iconst 5, 1), (14, .ishl, 1), (15, .iload_n 0, 1), (16, .iconst 2, 1), (17, .bipush 31, 2), (19, .invokestatic 19, 3), (22, .ior, 1), (23, .istore_n 2, 1), (24, .iload_n 0, 1), (25, .bipush 13, 2), (27, .ishr, 1), (28, .tableswitch 132 0 6 #[44, 54, 72, 82, 115, 121, 126], 44), (72, .bipush 19, 2), (74, .iconst 0, 1), (75, .iload_n 1, 1), (76, .iload_n 1, 1), (77, .iload_n 2, 1), (78, .invokestatic 23, 3), (81, .ireturn, 1), (82, .iload_n 1, 1), (83, .ifCond .ne 7, 3), (86, .iconst 0, 1), (87, .goto 12, 3), (90, .bipush 27, 2), (92, .iconst 0, 1), (93, .iload_n 1, 1), (94, .iload_n 1, 1), (95, .iload_n 2, 1), (96, .invokestatic 23, 3), (99, .ireturn, 1), (100, .bipush 19, 2), (102, .iconst 0, 1), (103, .iload_n 1, 1), (104, .iconst 0, 1), (105, .iload_n 2, 1), (106, .invokestatic 23, 3), (109, .ireturn, 1), (110, .iload_n 1, 1), (111, .iconst 2, 1), (112, .if_icmp .ne 10, 3), (115, .iload_n 0, 1), (116, .invokestatic 34, 3), (119, .goto 23, 3), (122, .iload_n 2, 1), (123, .ifCond .ne 7, 3), (126, .iconst 0, 1), (127, .goto 15, 3), (130, .iload_n 2, 1), (131, .bipush 12, 2), (133, .ishl, 1), (134, .iload_n 1, 1), (135, .bipush 7, 2), (137, .ishl, 1), (138, .ior, 1), (139, .bipush 55, 2), (141, .ior, 1), (142, .ireturn, 1), (143, .iload_n 0, 1), (144, .iload_n 2, 1), (145, .invokestatic 37, 3), (148, .ireturn, 1), (149, .iload_n 0, 1), (150, .invokestatic 41, 3), (153, .ireturn, 1), (154, .iload_n 0, 1), (155, .iconst 0, 1), (156, .invokestatic 44, 3), (159, .ireturn, 1), (160, .iload_n 0, 1), (161, .iconst 1, 1), (162, .invokestatic 44, 3), (165, .ireturn, 1)]
theorem da_X5_ofSecondKind : dkL cX5_ofSecondKind dl_X5_ofSecondKind = true := by decide +kernel
def f_X5_ofSecondKind (x0 : Int32) : Int32 := if (x0 >>> ((13 : Int32) &&& 31)) = (0 : Int32) then (f_X5_withConstant (19 : Int32) (0 : Int32) (f_X5_bits x0 (7 : Int32) (31 : Int32)) (f_X5_bits x0 (7 : Int32) (31 : Int32)) (((f_X5_highest x0) <<< ((5 : Int32) &&& 31)) ||| (f_X5_bits x0 (2 : Int32) (31 : Int32)))) else if (x0 >>> ((13 : Int32) &&& 31)) = (1 : Int32) then (if (f_X5_bits x0 (7 : Int32) (31 : Int32)) = (0 : Int32) then (0 : Int32) else (f_X5_withConstant (27 : Int32) (0 : Int32) (f_X5_bits x0 (7 : Int32) (31 : Int32)) (f_X5_bits x0 (7 : Int32) (31 : Int32)) (((f_X5_highest x0) <<< ((5 : Int32) &&& 31)) ||| (f_X5_bits x0 (2 : Int32) (31 : Int32))))) else if (x0 >>> ((13 : Int32) &&& 31)) = (2 : Int32) then (f_X5_withConstant (19 : Int32) (0 : Int32) (f_X5_bits x0 (7 : Int32) (31 : Int32)) (0 : Int32) (((f_X5_highest x0) <<< ((5 : Int32) &&& 31)) ||| (f_X5_bits x0 (2 : Int32) (31 : Int32)))) else if (x0 >>> ((13 : Int32) &&& 31)) = (3 : Int32) then (if (f_X5_bits x0 (7 : Int32) (31 : Int32)) = (2 : Int32) then (f_X5_ofStack x0) else (if (((f_X5_highest x0) <<< ((5 : Int32) &&& 31)) ||| (f_X5_bits x0 (2 : Int32) (31 : Int32))) = (0 : Int32) then (0 : Int32) else ((((((f_X5_highest x0) <<< ((5 : Int32) &&& 31)) ||| (f_X5_bits x0 (2 : Int32) (31 : Int32))) <<< ((12 : Int32) &&& 31)) ||| ((f_X5_bits x0 (7 : Int32) (31 : Int32)) <<< ((7 : Int32) &&& 31))) ||| (55 : Int32)))) else if (x0 >>> ((13 : Int32) &&& 31)) = (4 : Int32) then (f_X5_computing x0 (((f_X5_highest x0) <<< ((5 : Int32) &&& 31)) ||| (f_X5_bits x0 (2 : Int32) (31 : Int32)))) else if (x0 >>> ((13 : Int32) &&& 31)) = (5 : Int32) then (f_X5_jumping x0) else if (x0 >>> ((13 : Int32) &&& 31)) = (6 : Int32) then (f_X5_branching x0 (0 : Int32)) else (f_X5_branching x0 (1 : Int32))
set_option maxRecDepth 100000 in
set_option maxHeartbeats 4000000 in
theorem c_X5_ofSecondKind (l : Launch) (x0 : Int32) : MP l yX5_ofSecondKind cX5_ofSecondKind 3 (some .int) 2 48 [.int x0] (.int (f_X5_ofSecondKind x0)) := by
  refine entP (by decide +kernel) (Nat.le_of_ble_eq_true rfl) ?_
  intro p e s m args below meth c ls E hr hlk hl
  have hl : lv_has ls 3 [(0, .int x0)] := hl
  generalize h : f_X5_ofSecondKind x0 = r
  have hx := E.1
  have hb := E.2.1
  have hown := E.2.2.2.1
  have hts := E.2.2.2.2
  refine lv_iload_n hx hb (dq da_X5_ofSecondKind 0 rfl) rfl (lv_at hl 0 rfl) ?_
  refine lv_bipush (v := 7) hx hb (dq da_X5_ofSecondKind 1 rfl) rfl ?_
  refine lv_bipush (v := 31) hx hb (dq da_X5_ofSecondKind 2 rfl) rfl ?_
  refine callP E (c_X5_bits l _ _ _ ) w_776 w_777 w_19 w_778 hd_X5_bits rfl hl.1 rfl (Nat.le_of_ble_eq_true rfl) ⟨Nat.le_of_ble_eq_true rfl, Nat.le_of_ble_eq_true rfl⟩ (by decide) (dq da_X5_ofSecondKind 3 rfl) ?_
  refine lv_istore_n (lv' := [(1, .int (f_X5_bits x0 (7 : Int32) (31 : Int32))), (0, .int x0)]) hx hb (dq da_X5_ofSecondKind 4 rfl) rfl hl (by decide) rfl (fun ls hl => ?_)
  refine lv_iload_n hx hb (dq da_X5_ofSecondKind 5 rfl) rfl (lv_at hl 1 rfl) ?_
  refine callP E (c_X5_highest l _ ) w_788 w_789 w_19 w_790 hd_X5_highest rfl hl.1 rfl (Nat.le_of_ble_eq_true rfl) ⟨Nat.le_of_ble_eq_true rfl, Nat.le_of_ble_eq_true rfl⟩ (by decide) (dq da_X5_ofSecondKind 6 rfl) ?_
  refine lv_iconst (v := 5) hx hb (dq da_X5_ofSecondKind 7 rfl) rfl ?_
  refine lv_ishl hx hb (dq da_X5_ofSecondKind 8 rfl) ?_
  refine lv_iload_n hx hb (dq da_X5_ofSecondKind 9 rfl) rfl (lv_at hl 1 rfl) ?_
  refine lv_iconst (v := 2) hx hb (dq da_X5_ofSecondKind 10 rfl) rfl ?_
  refine lv_bipush (v := 31) hx hb (dq da_X5_ofSecondKind 11 rfl) rfl ?_
  refine callP E (c_X5_bits l _ _ _ ) w_776 w_777 w_19 w_778 hd_X5_bits rfl hl.1 rfl (Nat.le_of_ble_eq_true rfl) ⟨Nat.le_of_ble_eq_true rfl, Nat.le_of_ble_eq_true rfl⟩ (by decide) (dq da_X5_ofSecondKind 12 rfl) ?_
  refine lv_ior hx hb (dq da_X5_ofSecondKind 13 rfl) ?_
  refine lv_istore_n (lv' := [(2, .int (((f_X5_highest x0) <<< ((5 : Int32) &&& 31)) ||| (f_X5_bits x0 (2 : Int32) (31 : Int32)))), (1, .int (f_X5_bits x0 (7 : Int32) (31 : Int32))), (0, .int x0)]) hx hb (dq da_X5_ofSecondKind 14 rfl) rfl hl (by decide) rfl (fun ls hl => ?_)
  refine lv_iload_n hx hb (dq da_X5_ofSecondKind 15 rfl) rfl (lv_at hl 2 rfl) ?_
  refine lv_bipush (v := 13) hx hb (dq da_X5_ofSecondKind 16 rfl) rfl ?_
  refine lv_ishr hx hb (dq da_X5_ofSecondKind 17 rfl) ?_
  by_cases c1 : (x0 >>> ((13 : Int32) &&& 31)) = (0 : Int32)
  · have h := it c1 h
    refine lv_tableIn (off := 44) (tgt := 72) hx hb (dq da_X5_ofSecondKind 18 rfl) (by rw [c1]; decide +kernel) (by rw [c1]; decide +kernel) (by rw [c1]; decide +kernel) (by decide) ?_
    refine lv_bipush (v := 19) hx hb (dq da_X5_ofSecondKind 19 rfl) rfl ?_
    refine lv_iconst (v := 0) hx hb (dq da_X5_ofSecondKind 20 rfl) rfl ?_
    refine lv_iload_n hx hb (dq da_X5_ofSecondKind 21 rfl) rfl (lv_at hl 1 rfl) ?_
    refine lv_iload_n hx hb (dq da_X5_ofSecondKind 22 rfl) rfl (lv_at hl 1 rfl) ?_
    refine lv_iload_n hx hb (dq da_X5_ofSecondKind 23 rfl) rfl (lv_at hl 0 rfl) ?_
    refine callP E (c_X5_withConstant l _ _ _ _ _ ) w_779 w_780 w_19 w_781 hd_X5_withConstant rfl hl.1 rfl (Nat.le_of_ble_eq_true rfl) ⟨Nat.le_of_ble_eq_true rfl, Nat.le_of_ble_eq_true rfl⟩ (by decide) (dq da_X5_ofSecondKind 24 rfl) ?_
    exact pret_i E hr hlk h (dq da_X5_ofSecondKind 25 rfl)
  · have h := ie c1 h
    by_cases c2 : (x0 >>> ((13 : Int32) &&& 31)) = (1 : Int32)
    · have h := it c2 h
      refine lv_tableIn (off := 54) (tgt := 82) hx hb (dq da_X5_ofSecondKind 18 rfl) (by rw [c2]; decide +kernel) (by rw [c2]; decide +kernel) (by rw [c2]; decide +kernel) (by decide) ?_
      refine lv_iload_n hx hb (dq da_X5_ofSecondKind 26 rfl) rfl (lv_at hl 1 rfl) ?_
      refine lv_if_ne (tgt := 90) hx hb (dq da_X5_ofSecondKind 27 rfl) (by decide) (fun c3 => ?_) (fun c3 => ?_)
      · have h := ie c3 h
        refine lv_bipush (v := 27) hx hb (dq da_X5_ofSecondKind 30 rfl) rfl ?_
        refine lv_iconst (v := 0) hx hb (dq da_X5_ofSecondKind 31 rfl) rfl ?_
        refine lv_iload_n hx hb (dq da_X5_ofSecondKind 32 rfl) rfl (lv_at hl 1 rfl) ?_
        refine lv_iload_n hx hb (dq da_X5_ofSecondKind 33 rfl) rfl (lv_at hl 1 rfl) ?_
        refine lv_iload_n hx hb (dq da_X5_ofSecondKind 34 rfl) rfl (lv_at hl 0 rfl) ?_
        refine callP E (c_X5_withConstant l _ _ _ _ _ ) w_779 w_780 w_19 w_781 hd_X5_withConstant rfl hl.1 rfl (Nat.le_of_ble_eq_true rfl) ⟨Nat.le_of_ble_eq_true rfl, Nat.le_of_ble_eq_true rfl⟩ (by decide) (dq da_X5_ofSecondKind 35 rfl) ?_
        exact pret_i E hr hlk h (dq da_X5_ofSecondKind 36 rfl)
      · have h := it c3 h
        refine lv_iconst (v := 0) hx hb (dq da_X5_ofSecondKind 28 rfl) rfl ?_
        refine lv_goto (tgt := 99) hx hb (dq da_X5_ofSecondKind 29 rfl) (by decide) ?_
        exact pret_i E hr hlk h (dq da_X5_ofSecondKind 36 rfl)
    · have h := ie c2 h
      by_cases c4 : (x0 >>> ((13 : Int32) &&& 31)) = (2 : Int32)
      · have h := it c4 h
        refine lv_tableIn (off := 72) (tgt := 100) hx hb (dq da_X5_ofSecondKind 18 rfl) (by rw [c4]; decide +kernel) (by rw [c4]; decide +kernel) (by rw [c4]; decide +kernel) (by decide) ?_
        refine lv_bipush (v := 19) hx hb (dq da_X5_ofSecondKind 37 rfl) rfl ?_
        refine lv_iconst (v := 0) hx hb (dq da_X5_ofSecondKind 38 rfl) rfl ?_
        refine lv_iload_n hx hb (dq da_X5_ofSecondKind 39 rfl) rfl (lv_at hl 1 rfl) ?_
        refine lv_iconst (v := 0) hx hb (dq da_X5_ofSecondKind 40 rfl) rfl ?_
        refine lv_iload_n hx hb (dq da_X5_ofSecondKind 41 rfl) rfl (lv_at hl 0 rfl) ?_
        refine callP E (c_X5_withConstant l _ _ _ _ _ ) w_779 w_780 w_19 w_781 hd_X5_withConstant rfl hl.1 rfl (Nat.le_of_ble_eq_true rfl) ⟨Nat.le_of_ble_eq_true rfl, Nat.le_of_ble_eq_true rfl⟩ (by decide) (dq da_X5_ofSecondKind 42 rfl) ?_
        exact pret_i E hr hlk h (dq da_X5_ofSecondKind 43 rfl)
      · have h := ie c4 h
        by_cases c5 : (x0 >>> ((13 : Int32) &&& 31)) = (3 : Int32)
        · have h := it c5 h
          refine lv_tableIn (off := 82) (tgt := 110) hx hb (dq da_X5_ofSecondKind 18 rfl) (by rw [c5]; decide +kernel) (by rw [c5]; decide +kernel) (by rw [c5]; decide +kernel) (by decide) ?_
          refine lv_iload_n hx hb (dq da_X5_ofSecondKind 44 rfl) rfl (lv_at hl 1 rfl) ?_
          refine lv_iconst (v := 2) hx hb (dq da_X5_ofSecondKind 45 rfl) rfl ?_
          refine lv_icmp_ne (tgt := 122) hx hb (dq da_X5_ofSecondKind 46 rfl) (by decide) (fun c6 => ?_) (fun c6 => ?_)
          · have h := ie c6 h
            refine lv_iload_n hx hb (dq da_X5_ofSecondKind 50 rfl) rfl (lv_at hl 0 rfl) ?_
            refine lv_if_ne (tgt := 130) hx hb (dq da_X5_ofSecondKind 51 rfl) (by decide) (fun c7 => ?_) (fun c7 => ?_)
            · have h := ie c7 h
              refine lv_iload_n hx hb (dq da_X5_ofSecondKind 54 rfl) rfl (lv_at hl 0 rfl) ?_
              refine lv_bipush (v := 12) hx hb (dq da_X5_ofSecondKind 55 rfl) rfl ?_
              refine lv_ishl hx hb (dq da_X5_ofSecondKind 56 rfl) ?_
              refine lv_iload_n hx hb (dq da_X5_ofSecondKind 57 rfl) rfl (lv_at hl 1 rfl) ?_
              refine lv_bipush (v := 7) hx hb (dq da_X5_ofSecondKind 58 rfl) rfl ?_
              refine lv_ishl hx hb (dq da_X5_ofSecondKind 59 rfl) ?_
              refine lv_ior hx hb (dq da_X5_ofSecondKind 60 rfl) ?_
              refine lv_bipush (v := 55) hx hb (dq da_X5_ofSecondKind 61 rfl) rfl ?_
              refine lv_ior hx hb (dq da_X5_ofSecondKind 62 rfl) ?_
              exact pret_i E hr hlk h (dq da_X5_ofSecondKind 63 rfl)
            · have h := it c7 h
              refine lv_iconst (v := 0) hx hb (dq da_X5_ofSecondKind 52 rfl) rfl ?_
              refine lv_goto (tgt := 142) hx hb (dq da_X5_ofSecondKind 53 rfl) (by decide) ?_
              exact pret_i E hr hlk h (dq da_X5_ofSecondKind 63 rfl)
          · have h := it c6 h
            refine lv_iload_n hx hb (dq da_X5_ofSecondKind 47 rfl) rfl (lv_at hl 2 rfl) ?_
            refine callP E (c_X5_ofStack l _ ) w_791 w_792 w_19 w_793 hd_X5_ofStack rfl hl.1 rfl (Nat.le_of_ble_eq_true rfl) ⟨Nat.le_of_ble_eq_true rfl, Nat.le_of_ble_eq_true rfl⟩ (by decide) (dq da_X5_ofSecondKind 48 rfl) ?_
            refine lv_goto (tgt := 142) hx hb (dq da_X5_ofSecondKind 49 rfl) (by decide) ?_
            exact pret_i E hr hlk h (dq da_X5_ofSecondKind 63 rfl)
        · have h := ie c5 h
          by_cases c8 : (x0 >>> ((13 : Int32) &&& 31)) = (4 : Int32)
          · have h := it c8 h
            refine lv_tableIn (off := 115) (tgt := 143) hx hb (dq da_X5_ofSecondKind 18 rfl) (by rw [c8]; decide +kernel) (by rw [c8]; decide +kernel) (by rw [c8]; decide +kernel) (by decide) ?_
            refine lv_iload_n hx hb (dq da_X5_ofSecondKind 64 rfl) rfl (lv_at hl 2 rfl) ?_
            refine lv_iload_n hx hb (dq da_X5_ofSecondKind 65 rfl) rfl (lv_at hl 0 rfl) ?_
            refine callP E (c_X5_computing l _ _ ) w_794 w_795 w_19 w_796 hd_X5_computing rfl hl.1 rfl (Nat.le_of_ble_eq_true rfl) ⟨Nat.le_of_ble_eq_true rfl, Nat.le_of_ble_eq_true rfl⟩ (by decide) (dq da_X5_ofSecondKind 66 rfl) ?_
            exact pret_i E hr hlk h (dq da_X5_ofSecondKind 67 rfl)
          · have h := ie c8 h
            by_cases c9 : (x0 >>> ((13 : Int32) &&& 31)) = (5 : Int32)
            · have h := it c9 h
              refine lv_tableIn (off := 121) (tgt := 149) hx hb (dq da_X5_ofSecondKind 18 rfl) (by rw [c9]; decide +kernel) (by rw [c9]; decide +kernel) (by rw [c9]; decide +kernel) (by decide) ?_
              refine lv_iload_n hx hb (dq da_X5_ofSecondKind 68 rfl) rfl (lv_at hl 2 rfl) ?_
              refine callP E (c_X5_jumping l _ ) w_800 w_801 w_19 w_802 hd_X5_jumping rfl hl.1 rfl (Nat.le_of_ble_eq_true rfl) ⟨Nat.le_of_ble_eq_true rfl, Nat.le_of_ble_eq_true rfl⟩ (by decide) (dq da_X5_ofSecondKind 69 rfl) ?_
              exact pret_i E hr hlk h (dq da_X5_ofSecondKind 70 rfl)
            · have h := ie c9 h
              by_cases c10 : (x0 >>> ((13 : Int32) &&& 31)) = (6 : Int32)
              · have h := it c10 h
                refine lv_tableIn (off := 126) (tgt := 154) hx hb (dq da_X5_ofSecondKind 18 rfl) (by rw [c10]; decide +kernel) (by rw [c10]; decide +kernel) (by rw [c10]; decide +kernel) (by decide) ?_
                refine lv_iload_n hx hb (dq da_X5_ofSecondKind 71 rfl) rfl (lv_at hl 2 rfl) ?_
                refine lv_iconst (v := 0) hx hb (dq da_X5_ofSecondKind 72 rfl) rfl ?_
                refine callP E (c_X5_branching l _ _ ) w_803 w_804 w_19 w_805 hd_X5_branching rfl hl.1 rfl (Nat.le_of_ble_eq_true rfl) ⟨Nat.le_of_ble_eq_true rfl, Nat.le_of_ble_eq_true rfl⟩ (by decide) (dq da_X5_ofSecondKind 73 rfl) ?_
                exact pret_i E hr hlk h (dq da_X5_ofSecondKind 74 rfl)
              · have h := ie c10 h
                refine lv_tableOut (tgt := 160) hx hb (dq da_X5_ofSecondKind 18 rfl) (by have := lv_neT (k := (0 : Int32)) (a := 0) c1 rfl; have := lv_neT (k := (1 : Int32)) (a := 1) c2 rfl; have := lv_neT (k := (2 : Int32)) (a := 2) c4 rfl; have := lv_neT (k := (3 : Int32)) (a := 3) c5 rfl; have := lv_neT (k := (4 : Int32)) (a := 4) c8 rfl; have := lv_neT (k := (5 : Int32)) (a := 5) c9 rfl; have := lv_neT (k := (6 : Int32)) (a := 6) c10 rfl; omega) (by decide) ?_
                refine lv_iload_n hx hb (dq da_X5_ofSecondKind 75 rfl) rfl (lv_at hl 2 rfl) ?_
                refine lv_iconst (v := 1) hx hb (dq da_X5_ofSecondKind 76 rfl) rfl ?_
                refine callP E (c_X5_branching l _ _ ) w_803 w_804 w_19 w_805 hd_X5_branching rfl hl.1 rfl (Nat.le_of_ble_eq_true rfl) ⟨Nat.le_of_ble_eq_true rfl, Nat.le_of_ble_eq_true rfl⟩ (by decide) (dq da_X5_ofSecondKind 77 rfl) ?_
                exact pret_i E hr hlk h (dq da_X5_ofSecondKind 78 rfl)
def dl_X5_addingOrLinking : List (Nat × Instr × Nat) := [(0, .iload_n 1, 1), (1, .ifCond .eq 14, 3), (4, .bipush 51, 2), (6, .iconst 0, 1), (7, .iconst 0, 1), (8, .iload_n 0, 1), (9, .iload_n 0, 1), (10, .iload_n 1, 1), (11, .invokestatic 53, 3), (14, .ireturn, 1), (15, .iload_n 0, 1), (16, .ifCond .ne 8, 3), (19, .ldc 57, 2), (21, .goto 12, 3), (24, .bipush 103, 2), (26, .iconst 0, 1), (27, .iconst 1, 1), (28, .iload_n 0, 1), (29, .iconst 0, 1), (30, .invokestatic 23, 3), (33, .ireturn, 1)]
theorem da_X5_addingOrLinking : dkL cX5_addingOrLinking dl_X5_addingOrLinking = true := by decide +kernel
def f_X5_addingOrLinking (x0 : Int32) (x1 : Int32) : Int32 := if x1 = (0 : Int32) then (if x0 = (0 : Int32) then (1048691 : Int32) else (f_X5_withConstant (103 : Int32) (0 : Int32) (1 : Int32) x0 (0 : Int32))) else (f_X5_withRegister (51 : Int32) (0 : Int32) (0 : Int32) x0 x0 x1)
set_option maxRecDepth 100000 in
set_option maxHeartbeats 4000000 in
theorem c_X5_addingOrLinking (l : Launch) (x0 : Int32) (x1 : Int32) : MP l yX5_addingOrLinking cX5_addingOrLinking 2 (some .int) 1 25 [.int x0, .int x1] (.int (f_X5_addingOrLinking x0 x1)) := by
  refine entP (by decide +kernel) (Nat.le_of_ble_eq_true rfl) ?_
  intro p e s m args below meth c ls E hr hlk hl
  have hl : lv_has ls 2 [(0, .int x0), (1, .int x1)] := hl
  generalize h : f_X5_addingOrLinking x0 x1 = r
  have hx := E.1
  have hb := E.2.1
  have hown := E.2.2.2.1
  have hts := E.2.2.2.2
  refine lv_iload_n hx hb (dq da_X5_addingOrLinking 0 rfl) rfl (lv_at hl 1 rfl) ?_
  refine lv_if_eq (tgt := 15) hx hb (dq da_X5_addingOrLinking 1 rfl) (by decide) (fun c1 => ?_) (fun c1 => ?_)
  · have h := it c1 h
    refine lv_iload_n hx hb (dq da_X5_addingOrLinking 10 rfl) rfl (lv_at hl 0 rfl) ?_
    refine lv_if_ne (tgt := 24) hx hb (dq da_X5_addingOrLinking 11 rfl) (by decide) (fun c2 => ?_) (fun c2 => ?_)
    · have h := ie c2 h
      refine lv_bipush (v := 103) hx hb (dq da_X5_addingOrLinking 14 rfl) rfl ?_
      refine lv_iconst (v := 0) hx hb (dq da_X5_addingOrLinking 15 rfl) rfl ?_
      refine lv_iconst (v := 1) hx hb (dq da_X5_addingOrLinking 16 rfl) rfl ?_
      refine lv_iload_n hx hb (dq da_X5_addingOrLinking 17 rfl) rfl (lv_at hl 0 rfl) ?_
      refine lv_iconst (v := 0) hx hb (dq da_X5_addingOrLinking 18 rfl) rfl ?_
      refine callP E (c_X5_withConstant l _ _ _ _ _ ) w_779 w_780 w_19 w_781 hd_X5_withConstant rfl hl.1 rfl (Nat.le_of_ble_eq_true rfl) ⟨Nat.le_of_ble_eq_true rfl, Nat.le_of_ble_eq_true rfl⟩ (by decide) (dq da_X5_addingOrLinking 19 rfl) ?_
      exact pret_i E hr hlk h (dq da_X5_addingOrLinking 20 rfl)
    · have h := it c2 h
      refine lv_ldc hx hb hown (hts _ w_815) (dq da_X5_addingOrLinking 12 rfl) ?_
      refine lv_goto (tgt := 33) hx hb (dq da_X5_addingOrLinking 13 rfl) (by decide) ?_
      exact pret_i E hr hlk h (dq da_X5_addingOrLinking 20 rfl)
  · have h := ie c1 h
    refine lv_bipush (v := 51) hx hb (dq da_X5_addingOrLinking 2 rfl) rfl ?_
    refine lv_iconst (v := 0) hx hb (dq da_X5_addingOrLinking 3 rfl) rfl ?_
    refine lv_iconst (v := 0) hx hb (dq da_X5_addingOrLinking 4 rfl) rfl ?_
    refine lv_iload_n hx hb (dq da_X5_addingOrLinking 5 rfl) rfl (lv_at hl 0 rfl) ?_
    refine lv_iload_n hx hb (dq da_X5_addingOrLinking 6 rfl) rfl (lv_at hl 0 rfl) ?_
    refine lv_iload_n hx hb (dq da_X5_addingOrLinking 7 rfl) rfl (lv_at hl 1 rfl) ?_
    refine callP E (c_X5_withRegister l _ _ _ _ _ _ ) w_797 w_798 w_19 w_799 hd_X5_withRegister rfl hl.1 rfl (Nat.le_of_ble_eq_true rfl) ⟨Nat.le_of_ble_eq_true rfl, Nat.le_of_ble_eq_true rfl⟩ (by decide) (dq da_X5_addingOrLinking 8 rfl) ?_
    exact pret_i E hr hlk h (dq da_X5_addingOrLinking 9 rfl)
def dl_X5_movingOrJumping : List (Nat × Instr × Nat) := [(0, .iload_n 1, 1), (1, .ifCond .eq 14, 3), (4, .bipush 51, 2), (6, .iconst 0, 1), (7, .iconst 0, 1), (8, .iload_n 0, 1), (9, .iconst 0, 1), (10, .iload_n 1, 1), (11, .invokestatic 53, 3), (14, .ireturn, 1), (15, .iload_n 0, 1), (16, .ifCond .ne 7, 3), (19, .iconst 0, 1), (20, .goto 12, 3), (23, .bipush 103, 2), (25, .iconst 0, 1), (26, .iconst 0, 1), (27, .iload_n 0, 1), (28, .iconst 0, 1), (29, .invokestatic 23, 3), (32, .ireturn, 1)]
theorem da_X5_movingOrJumping : dkL cX5_movingOrJumping dl_X5_movingOrJumping = true := by decide +kernel
def f_X5_movingOrJumping (x0 : Int32) (x1 : Int32) : Int32 := if x1 = (0 : Int32) then (if x0 = (0 : Int32) then (0 : Int32) else (f_X5_withConstant (103 : Int32) (0 : Int32) (0 : Int32) x0 (0 : Int32))) else (f_X5_withRegister (51 : Int32) (0 : Int32) (0 : Int32) x0 (0 : Int32) x1)
set_option maxRecDepth 100000 in
set_option maxHeartbeats 4000000 in
theorem c_X5_movingOrJumping (l : Launch) (x0 : Int32) (x1 : Int32) : MP l yX5_movingOrJumping cX5_movingOrJumping 2 (some .int) 1 25 [.int x0, .int x1] (.int (f_X5_movingOrJumping x0 x1)) := by
  refine entP (by decide +kernel) (Nat.le_of_ble_eq_true rfl) ?_
  intro p e s m args below meth c ls E hr hlk hl
  have hl : lv_has ls 2 [(0, .int x0), (1, .int x1)] := hl
  generalize h : f_X5_movingOrJumping x0 x1 = r
  have hx := E.1
  have hb := E.2.1
  have hown := E.2.2.2.1
  have hts := E.2.2.2.2
  refine lv_iload_n hx hb (dq da_X5_movingOrJumping 0 rfl) rfl (lv_at hl 1 rfl) ?_
  refine lv_if_eq (tgt := 15) hx hb (dq da_X5_movingOrJumping 1 rfl) (by decide) (fun c1 => ?_) (fun c1 => ?_)
  · have h := it c1 h
    refine lv_iload_n hx hb (dq da_X5_movingOrJumping 10 rfl) rfl (lv_at hl 0 rfl) ?_
    refine lv_if_ne (tgt := 23) hx hb (dq da_X5_movingOrJumping 11 rfl) (by decide) (fun c2 => ?_) (fun c2 => ?_)
    · have h := ie c2 h
      refine lv_bipush (v := 103) hx hb (dq da_X5_movingOrJumping 14 rfl) rfl ?_
      refine lv_iconst (v := 0) hx hb (dq da_X5_movingOrJumping 15 rfl) rfl ?_
      refine lv_iconst (v := 0) hx hb (dq da_X5_movingOrJumping 16 rfl) rfl ?_
      refine lv_iload_n hx hb (dq da_X5_movingOrJumping 17 rfl) rfl (lv_at hl 0 rfl) ?_
      refine lv_iconst (v := 0) hx hb (dq da_X5_movingOrJumping 18 rfl) rfl ?_
      refine callP E (c_X5_withConstant l _ _ _ _ _ ) w_779 w_780 w_19 w_781 hd_X5_withConstant rfl hl.1 rfl (Nat.le_of_ble_eq_true rfl) ⟨Nat.le_of_ble_eq_true rfl, Nat.le_of_ble_eq_true rfl⟩ (by decide) (dq da_X5_movingOrJumping 19 rfl) ?_
      exact pret_i E hr hlk h (dq da_X5_movingOrJumping 20 rfl)
    · have h := it c2 h
      refine lv_iconst (v := 0) hx hb (dq da_X5_movingOrJumping 12 rfl) rfl ?_
      refine lv_goto (tgt := 32) hx hb (dq da_X5_movingOrJumping 13 rfl) (by decide) ?_
      exact pret_i E hr hlk h (dq da_X5_movingOrJumping 20 rfl)
  · have h := ie c1 h
    refine lv_bipush (v := 51) hx hb (dq da_X5_movingOrJumping 2 rfl) rfl ?_
    refine lv_iconst (v := 0) hx hb (dq da_X5_movingOrJumping 3 rfl) rfl ?_
    refine lv_iconst (v := 0) hx hb (dq da_X5_movingOrJumping 4 rfl) rfl ?_
    refine lv_iload_n hx hb (dq da_X5_movingOrJumping 5 rfl) rfl (lv_at hl 0 rfl) ?_
    refine lv_iconst (v := 0) hx hb (dq da_X5_movingOrJumping 6 rfl) rfl ?_
    refine lv_iload_n hx hb (dq da_X5_movingOrJumping 7 rfl) rfl (lv_at hl 1 rfl) ?_
    refine callP E (c_X5_withRegister l _ _ _ _ _ _ ) w_797 w_798 w_19 w_799 hd_X5_withRegister rfl hl.1 rfl (Nat.le_of_ble_eq_true rfl) ⟨Nat.le_of_ble_eq_true rfl, Nat.le_of_ble_eq_true rfl⟩ (by decide) (dq da_X5_movingOrJumping 8 rfl) ?_
    exact pret_i E hr hlk h (dq da_X5_movingOrJumping 9 rfl)
def dl_X5_ofThirdKind : List (Nat × Instr × Nat) := [(0, .iload_n 0, 1), (1, .bipush 7, 2), (3, .bipush 31, 2), (5, .invokestatic 19, 3), (8, .istore_n 1, 1), (9, .iload_n 0, 1), (10, .iconst 2, 1), (11, .bipush 31, 2), (13, .invokestatic 19, 3), (16, .istore_n 2, 1), (17, .iload_n 0, 1), (18, .iconst 2, 1), (19, .iconst 3, 1), (20, .invokestatic 19, 3), (23, .bipush 6, 2), (25, .ishl, 1), (26, .iload_n 0, 1), (27, .bipush 12, 2), (29, .iconst 1, 1), (30, .invokestatic 19, 3), (33, .iconst 5, 1), (34, .ishl, 1), (35, .ior, 1), (36, .iload_n 0, 1), (37, .iconst 4, 1), (38, .bipush 7, 2), (40, .invokestatic 19, 3), (43, .iconst 2, 1), (44, .ishl, 1), (45, .ior, 1), (46, .istore_n 3, 1), (47, .iload_n 0, 1), (48, .iconst 2, 1), (49, .bipush 7, 2), (51, .invokestatic 19, 3), (54, .bipush 6, 2), (56, .ishl, 1), (57, .iload_n 0, 1), (58, .bipush 12, 2), (60, .iconst 1, 1), (61, .invokestatic 19, 3), (64, .iconst 5, 1), (65, .ishl, 1), (66, .ior, 1), (67, .iload_n 0, 1), (68, .iconst 5, 1), (69, .iconst 3, 1), (70, .invokestatic 19, 3), (73, .iconst 3, 1), (74, .ishl, 1), (75, .ior, 1), (76, .istore 4, 2), (78, .iload_n 0, 1), (79, .bipush 7, 2), (81, .iconst 3, 1), (82, .invokestatic 19, 3), (85, .bipush 6, 2), (87, .ishl, 1), (88, .iload_n 0, 1), (89, .bipush 9, 2), (91, .bipush 15, 2), (93, .invokestatic 19, 3), (96, .iconst 2, 1), (97, .ishl, 1), (98, .ior, 1), (99, .istore 5, 2), (101, .iload_n 0, 1), (102, .bipush 7, 2), (104, .bipush 7, 2), (106, .invokestatic 19, 3), (109, .bipush 6, 2), (111, .ishl, 1), (112, .iload_n 0, 1), (113, .bipush 10, 2), (115, .bipush 7, 2), (117, .invokestatic 19, 3), (120, .iconst 3, 1), (121, .ishl, 1), (122, .ior, 1), (123, .istore 6, 2), (125, .iload_n 0, 1), (126, .bipush 13, 2), (128, .ishr, 1), (129, .tableswitch 144 0 7 #[47, 144, 67, 84, 102, 144, 126, 135], 47), (176, .bipush 19, 2), (178, .iconst 1, 1), (179, .iload_n 1, 1), (180, .iload_n 1, 1), (181, .iload_n 0, 1), (182, .bipush 12, 2), (184, .iconst 1, 1), (185, .invokestatic 19, 3), (188, .iconst 5, 1), (189, .ishl, 1), (190, .iload_n 2, 1), (191, .ior, 1), (192, .invokestatic 23, 3), (195, .ireturn, 1), (196, .iload_n 1, 1), (197, .ifCond .ne 7, 3), (200, .iconst 0, 1), (201, .goto 11, 3), (204, .iconst 3, 1), (205, .iconst 2, 1), (206, .iload_n 1, 1), (207, .iconst 2, 1), (208, .iload_n 3, 1), (209, .invokestatic 23, 3), (212, .ireturn, 1), (213, .iload_n 1, 1), (214, .ifCond .ne 7, 3), (217, .iconst 0, 1), (218, .goto 12, 3), (221, .iconst 3, 1), (222, .iconst 3, 1), (223, .iload_n 1, 1), (224, .iconst 2, 1), (225, .iload 4, 2), (227, .invokestatic 23, 3), (230, .ireturn, 1), (231, .iload_n 0, 1), (232, .bipush 12, 2), (234, .iconst 1, 1), (235, .invokestatic 19, 3), (238, .ifCond .ne 11, 3), (241, .iload_n 1, 1), (242, .iload_n 2, 1), (243, .invokestatic 47, 3), (246, .goto 8, 3), (249, .iload_n 1, 1), (250, .iload_n 2, 1), (251, .invokestatic 50, 3), (254, .ireturn, 1), (255, .iconst 2, 1), (256, .iconst 2, 1), (257, .iload_n 2, 1), (258, .iload 5, 2), (260, .invokestatic 27, 3), (263, .ireturn, 1), (264, .iconst 3, 1), (265, .iconst 2, 1), (266, .iload_n 2, 1), (267, .iload 6, 2), (269, .invokestatic 27, 3), (272, .ireturn, 1), (273, .iconst 0, 1), (274, .ireturn, 1)]
theorem da_X5_ofThirdKind : dkL cX5_ofThirdKind dl_X5_ofThirdKind = true := by decide +kernel
def f_X5_ofThirdKind_b273  : Int32 := (0 : Int32)
set_option maxRecDepth 100000 in
set_option maxHeartbeats 4000000 in
theorem b_X5_ofThirdKind_b273 {p : Program} {l : Launch} {e : Env} {s : State} {m : MethodId} {args : Array Value} {below : List Frame} {meth : Method} {c : Code} (E : CallFix p m c cX5_ofThirdKind 7 s args gw RX5) (hr : meth.sig.returnType = some .int) (hlk : meth.locks = false)  {r : Int32} (h : f_X5_ofThirdKind_b273  = r) {ls : Array Slot} (hl : lv_has ls 7 []) : Wp p l e 2 46 s m args below meth c (.int r) 273 ls [] := by
  have hx := E.1
  have hb := E.2.1
  have hown := E.2.2.2.1
  have hts := E.2.2.2.2
  refine lv_iconst (v := 0) hx hb (dq da_X5_ofThirdKind 145 rfl) rfl ?_
  exact pret_i E hr hlk h (dq da_X5_ofThirdKind 146 rfl)
def f_X5_ofThirdKind (x0 : Int32) : Int32 := if (x0 >>> ((13 : Int32) &&& 31)) = (0 : Int32) then (f_X5_withConstant (19 : Int32) (1 : Int32) (f_X5_bits x0 (7 : Int32) (31 : Int32)) (f_X5_bits x0 (7 : Int32) (31 : Int32)) (((f_X5_bits x0 (12 : Int32) (1 : Int32)) <<< ((5 : Int32) &&& 31)) ||| (f_X5_bits x0 (2 : Int32) (31 : Int32)))) else if (x0 >>> ((13 : Int32) &&& 31)) = (1 : Int32) then (f_X5_ofThirdKind_b273 ) else if (x0 >>> ((13 : Int32) &&& 31)) = (2 : Int32) then (if (f_X5_bits x0 (7 : Int32) (31 : Int32)) = (0 : Int32) then (0 : Int32) else (f_X5_withConstant (3 : Int32) (2 : Int32) (f_X5_bits x0 (7 : Int32) (31 : Int32)) (2 : Int32) ((((f_X5_bits x0 (2 : Int32) (3 : Int32)) <<< ((6 : Int32) &&& 31)) ||| ((f_X5_bits x0 (12 : Int32) (1 : Int32)) <<< ((5 : Int32) &&& 31))) ||| ((f_X5_bits x0 (4 : Int32) (7 : Int32)) <<< ((2 : Int32) &&& 31))))) else if (x0 >>> ((13 : Int32) &&& 31)) = (3 : Int32) then (if (f_X5_bits x0 (7 : Int32) (31 : Int32)) = (0 : Int32) then (0 : Int32) else (f_X5_withConstant (3 : Int32) (3 : Int32) (f_X5_bits x0 (7 : Int32) (31 : Int32)) (2 : Int32) ((((f_X5_bits x0 (2 : Int32) (7 : Int32)) <<< ((6 : Int32) &&& 31)) ||| ((f_X5_bits x0 (12 : Int32) (1 : Int32)) <<< ((5 : Int32) &&& 31))) ||| ((f_X5_bits x0 (5 : Int32) (3 : Int32)) <<< ((3 : Int32) &&& 31))))) else if (x0 >>> ((13 : Int32) &&& 31)) = (4 : Int32) then (if (f_X5_bits x0 (12 : Int32) (1 : Int32)) = (0 : Int32) then (f_X5_movingOrJumping (f_X5_bits x0 (7 : Int32) (31 : Int32)) (f_X5_bits x0 (2 : Int32) (31 : Int32))) else (f_X5_addingOrLinking (f_X5_bits x0 (7 : Int32) (31 : Int32)) (f_X5_bits x0 (2 : Int32) (31 : Int32)))) else if (x0 >>> ((13 : Int32) &&& 31)) = (5 : Int32) then (f_X5_ofThirdKind_b273 ) else if (x0 >>> ((13 : Int32) &&& 31)) = (6 : Int32) then (f_X5_storing (2 : Int32) (2 : Int32) (f_X5_bits x0 (2 : Int32) (31 : Int32)) (((f_X5_bits x0 (7 : Int32) (3 : Int32)) <<< ((6 : Int32) &&& 31)) ||| ((f_X5_bits x0 (9 : Int32) (15 : Int32)) <<< ((2 : Int32) &&& 31)))) else if (x0 >>> ((13 : Int32) &&& 31)) = (7 : Int32) then (f_X5_storing (3 : Int32) (2 : Int32) (f_X5_bits x0 (2 : Int32) (31 : Int32)) (((f_X5_bits x0 (7 : Int32) (7 : Int32)) <<< ((6 : Int32) &&& 31)) ||| ((f_X5_bits x0 (10 : Int32) (7 : Int32)) <<< ((3 : Int32) &&& 31)))) else (f_X5_ofThirdKind_b273 )
set_option maxRecDepth 100000 in
set_option maxHeartbeats 4000000 in
theorem c_X5_ofThirdKind (l : Launch) (x0 : Int32) : MP l yX5_ofThirdKind cX5_ofThirdKind 7 (some .int) 2 46 [.int x0] (.int (f_X5_ofThirdKind x0)) := by
  refine entP (by decide +kernel) (Nat.le_of_ble_eq_true rfl) ?_
  intro p e s m args below meth c ls E hr hlk hl
  have hl : lv_has ls 7 [(0, .int x0)] := hl
  generalize h : f_X5_ofThirdKind x0 = r
  have hx := E.1
  have hb := E.2.1
  have hown := E.2.2.2.1
  have hts := E.2.2.2.2
  refine lv_iload_n hx hb (dq da_X5_ofThirdKind 0 rfl) rfl (lv_at hl 0 rfl) ?_
  refine lv_bipush (v := 7) hx hb (dq da_X5_ofThirdKind 1 rfl) rfl ?_
  refine lv_bipush (v := 31) hx hb (dq da_X5_ofThirdKind 2 rfl) rfl ?_
  refine callP E (c_X5_bits l _ _ _ ) w_776 w_777 w_19 w_778 hd_X5_bits rfl hl.1 rfl (Nat.le_of_ble_eq_true rfl) ⟨Nat.le_of_ble_eq_true rfl, Nat.le_of_ble_eq_true rfl⟩ (by decide) (dq da_X5_ofThirdKind 3 rfl) ?_
  refine lv_istore_n (lv' := [(1, .int (f_X5_bits x0 (7 : Int32) (31 : Int32))), (0, .int x0)]) hx hb (dq da_X5_ofThirdKind 4 rfl) rfl hl (by decide) rfl (fun ls hl => ?_)
  refine lv_iload_n hx hb (dq da_X5_ofThirdKind 5 rfl) rfl (lv_at hl 1 rfl) ?_
  refine lv_iconst (v := 2) hx hb (dq da_X5_ofThirdKind 6 rfl) rfl ?_
  refine lv_bipush (v := 31) hx hb (dq da_X5_ofThirdKind 7 rfl) rfl ?_
  refine callP E (c_X5_bits l _ _ _ ) w_776 w_777 w_19 w_778 hd_X5_bits rfl hl.1 rfl (Nat.le_of_ble_eq_true rfl) ⟨Nat.le_of_ble_eq_true rfl, Nat.le_of_ble_eq_true rfl⟩ (by decide) (dq da_X5_ofThirdKind 8 rfl) ?_
  refine lv_istore_n (lv' := [(2, .int (f_X5_bits x0 (2 : Int32) (31 : Int32))), (1, .int (f_X5_bits x0 (7 : Int32) (31 : Int32))), (0, .int x0)]) hx hb (dq da_X5_ofThirdKind 9 rfl) rfl hl (by decide) rfl (fun ls hl => ?_)
  refine lv_iload_n hx hb (dq da_X5_ofThirdKind 10 rfl) rfl (lv_at hl 2 rfl) ?_
  refine lv_iconst (v := 2) hx hb (dq da_X5_ofThirdKind 11 rfl) rfl ?_
  refine lv_iconst (v := 3) hx hb (dq da_X5_ofThirdKind 12 rfl) rfl ?_
  refine callP E (c_X5_bits l _ _ _ ) w_776 w_777 w_19 w_778 hd_X5_bits rfl hl.1 rfl (Nat.le_of_ble_eq_true rfl) ⟨Nat.le_of_ble_eq_true rfl, Nat.le_of_ble_eq_true rfl⟩ (by decide) (dq da_X5_ofThirdKind 13 rfl) ?_
  refine lv_bipush (v := 6) hx hb (dq da_X5_ofThirdKind 14 rfl) rfl ?_
  refine lv_ishl hx hb (dq da_X5_ofThirdKind 15 rfl) ?_
  refine lv_iload_n hx hb (dq da_X5_ofThirdKind 16 rfl) rfl (lv_at hl 2 rfl) ?_
  refine lv_bipush (v := 12) hx hb (dq da_X5_ofThirdKind 17 rfl) rfl ?_
  refine lv_iconst (v := 1) hx hb (dq da_X5_ofThirdKind 18 rfl) rfl ?_
  refine callP E (c_X5_bits l _ _ _ ) w_776 w_777 w_19 w_778 hd_X5_bits rfl hl.1 rfl (Nat.le_of_ble_eq_true rfl) ⟨Nat.le_of_ble_eq_true rfl, Nat.le_of_ble_eq_true rfl⟩ (by decide) (dq da_X5_ofThirdKind 19 rfl) ?_
  refine lv_iconst (v := 5) hx hb (dq da_X5_ofThirdKind 20 rfl) rfl ?_
  refine lv_ishl hx hb (dq da_X5_ofThirdKind 21 rfl) ?_
  refine lv_ior hx hb (dq da_X5_ofThirdKind 22 rfl) ?_
  refine lv_iload_n hx hb (dq da_X5_ofThirdKind 23 rfl) rfl (lv_at hl 2 rfl) ?_
  refine lv_iconst (v := 4) hx hb (dq da_X5_ofThirdKind 24 rfl) rfl ?_
  refine lv_bipush (v := 7) hx hb (dq da_X5_ofThirdKind 25 rfl) rfl ?_
  refine callP E (c_X5_bits l _ _ _ ) w_776 w_777 w_19 w_778 hd_X5_bits rfl hl.1 rfl (Nat.le_of_ble_eq_true rfl) ⟨Nat.le_of_ble_eq_true rfl, Nat.le_of_ble_eq_true rfl⟩ (by decide) (dq da_X5_ofThirdKind 26 rfl) ?_
  refine lv_iconst (v := 2) hx hb (dq da_X5_ofThirdKind 27 rfl) rfl ?_
  refine lv_ishl hx hb (dq da_X5_ofThirdKind 28 rfl) ?_
  refine lv_ior hx hb (dq da_X5_ofThirdKind 29 rfl) ?_
  refine lv_istore_n (lv' := [(3, .int ((((f_X5_bits x0 (2 : Int32) (3 : Int32)) <<< ((6 : Int32) &&& 31)) ||| ((f_X5_bits x0 (12 : Int32) (1 : Int32)) <<< ((5 : Int32) &&& 31))) ||| ((f_X5_bits x0 (4 : Int32) (7 : Int32)) <<< ((2 : Int32) &&& 31)))), (2, .int (f_X5_bits x0 (2 : Int32) (31 : Int32))), (1, .int (f_X5_bits x0 (7 : Int32) (31 : Int32))), (0, .int x0)]) hx hb (dq da_X5_ofThirdKind 30 rfl) rfl hl (by decide) rfl (fun ls hl => ?_)
  refine lv_iload_n hx hb (dq da_X5_ofThirdKind 31 rfl) rfl (lv_at hl 3 rfl) ?_
  refine lv_iconst (v := 2) hx hb (dq da_X5_ofThirdKind 32 rfl) rfl ?_
  refine lv_bipush (v := 7) hx hb (dq da_X5_ofThirdKind 33 rfl) rfl ?_
  refine callP E (c_X5_bits l _ _ _ ) w_776 w_777 w_19 w_778 hd_X5_bits rfl hl.1 rfl (Nat.le_of_ble_eq_true rfl) ⟨Nat.le_of_ble_eq_true rfl, Nat.le_of_ble_eq_true rfl⟩ (by decide) (dq da_X5_ofThirdKind 34 rfl) ?_
  refine lv_bipush (v := 6) hx hb (dq da_X5_ofThirdKind 35 rfl) rfl ?_
  refine lv_ishl hx hb (dq da_X5_ofThirdKind 36 rfl) ?_
  refine lv_iload_n hx hb (dq da_X5_ofThirdKind 37 rfl) rfl (lv_at hl 3 rfl) ?_
  refine lv_bipush (v := 12) hx hb (dq da_X5_ofThirdKind 38 rfl) rfl ?_
  refine lv_iconst (v := 1) hx hb (dq da_X5_ofThirdKind 39 rfl) rfl ?_
  refine callP E (c_X5_bits l _ _ _ ) w_776 w_777 w_19 w_778 hd_X5_bits rfl hl.1 rfl (Nat.le_of_ble_eq_true rfl) ⟨Nat.le_of_ble_eq_true rfl, Nat.le_of_ble_eq_true rfl⟩ (by decide) (dq da_X5_ofThirdKind 40 rfl) ?_
  refine lv_iconst (v := 5) hx hb (dq da_X5_ofThirdKind 41 rfl) rfl ?_
  refine lv_ishl hx hb (dq da_X5_ofThirdKind 42 rfl) ?_
  refine lv_ior hx hb (dq da_X5_ofThirdKind 43 rfl) ?_
  refine lv_iload_n hx hb (dq da_X5_ofThirdKind 44 rfl) rfl (lv_at hl 3 rfl) ?_
  refine lv_iconst (v := 5) hx hb (dq da_X5_ofThirdKind 45 rfl) rfl ?_
  refine lv_iconst (v := 3) hx hb (dq da_X5_ofThirdKind 46 rfl) rfl ?_
  refine callP E (c_X5_bits l _ _ _ ) w_776 w_777 w_19 w_778 hd_X5_bits rfl hl.1 rfl (Nat.le_of_ble_eq_true rfl) ⟨Nat.le_of_ble_eq_true rfl, Nat.le_of_ble_eq_true rfl⟩ (by decide) (dq da_X5_ofThirdKind 47 rfl) ?_
  refine lv_iconst (v := 3) hx hb (dq da_X5_ofThirdKind 48 rfl) rfl ?_
  refine lv_ishl hx hb (dq da_X5_ofThirdKind 49 rfl) ?_
  refine lv_ior hx hb (dq da_X5_ofThirdKind 50 rfl) ?_
  refine lv_istore (lv' := [(4, .int ((((f_X5_bits x0 (2 : Int32) (7 : Int32)) <<< ((6 : Int32) &&& 31)) ||| ((f_X5_bits x0 (12 : Int32) (1 : Int32)) <<< ((5 : Int32) &&& 31))) ||| ((f_X5_bits x0 (5 : Int32) (3 : Int32)) <<< ((3 : Int32) &&& 31)))), (3, .int ((((f_X5_bits x0 (2 : Int32) (3 : Int32)) <<< ((6 : Int32) &&& 31)) ||| ((f_X5_bits x0 (12 : Int32) (1 : Int32)) <<< ((5 : Int32) &&& 31))) ||| ((f_X5_bits x0 (4 : Int32) (7 : Int32)) <<< ((2 : Int32) &&& 31)))), (2, .int (f_X5_bits x0 (2 : Int32) (31 : Int32))), (1, .int (f_X5_bits x0 (7 : Int32) (31 : Int32))), (0, .int x0)]) hx hb (dq da_X5_ofThirdKind 51 rfl) hl (by decide) rfl (fun ls hl => ?_)
  refine lv_iload_n hx hb (dq da_X5_ofThirdKind 52 rfl) rfl (lv_at hl 4 rfl) ?_
  refine lv_bipush (v := 7) hx hb (dq da_X5_ofThirdKind 53 rfl) rfl ?_
  refine lv_iconst (v := 3) hx hb (dq da_X5_ofThirdKind 54 rfl) rfl ?_
  refine callP E (c_X5_bits l _ _ _ ) w_776 w_777 w_19 w_778 hd_X5_bits rfl hl.1 rfl (Nat.le_of_ble_eq_true rfl) ⟨Nat.le_of_ble_eq_true rfl, Nat.le_of_ble_eq_true rfl⟩ (by decide) (dq da_X5_ofThirdKind 55 rfl) ?_
  refine lv_bipush (v := 6) hx hb (dq da_X5_ofThirdKind 56 rfl) rfl ?_
  refine lv_ishl hx hb (dq da_X5_ofThirdKind 57 rfl) ?_
  refine lv_iload_n hx hb (dq da_X5_ofThirdKind 58 rfl) rfl (lv_at hl 4 rfl) ?_
  refine lv_bipush (v := 9) hx hb (dq da_X5_ofThirdKind 59 rfl) rfl ?_
  refine lv_bipush (v := 15) hx hb (dq da_X5_ofThirdKind 60 rfl) rfl ?_
  refine callP E (c_X5_bits l _ _ _ ) w_776 w_777 w_19 w_778 hd_X5_bits rfl hl.1 rfl (Nat.le_of_ble_eq_true rfl) ⟨Nat.le_of_ble_eq_true rfl, Nat.le_of_ble_eq_true rfl⟩ (by decide) (dq da_X5_ofThirdKind 61 rfl) ?_
  refine lv_iconst (v := 2) hx hb (dq da_X5_ofThirdKind 62 rfl) rfl ?_
  refine lv_ishl hx hb (dq da_X5_ofThirdKind 63 rfl) ?_
  refine lv_ior hx hb (dq da_X5_ofThirdKind 64 rfl) ?_
  refine lv_istore (lv' := [(5, .int (((f_X5_bits x0 (7 : Int32) (3 : Int32)) <<< ((6 : Int32) &&& 31)) ||| ((f_X5_bits x0 (9 : Int32) (15 : Int32)) <<< ((2 : Int32) &&& 31)))), (4, .int ((((f_X5_bits x0 (2 : Int32) (7 : Int32)) <<< ((6 : Int32) &&& 31)) ||| ((f_X5_bits x0 (12 : Int32) (1 : Int32)) <<< ((5 : Int32) &&& 31))) ||| ((f_X5_bits x0 (5 : Int32) (3 : Int32)) <<< ((3 : Int32) &&& 31)))), (3, .int ((((f_X5_bits x0 (2 : Int32) (3 : Int32)) <<< ((6 : Int32) &&& 31)) ||| ((f_X5_bits x0 (12 : Int32) (1 : Int32)) <<< ((5 : Int32) &&& 31))) ||| ((f_X5_bits x0 (4 : Int32) (7 : Int32)) <<< ((2 : Int32) &&& 31)))), (2, .int (f_X5_bits x0 (2 : Int32) (31 : Int32))), (1, .int (f_X5_bits x0 (7 : Int32) (31 : Int32))), (0, .int x0)]) hx hb (dq da_X5_ofThirdKind 65 rfl) hl (by decide) rfl (fun ls hl => ?_)
  refine lv_iload_n hx hb (dq da_X5_ofThirdKind 66 rfl) rfl (lv_at hl 5 rfl) ?_
  refine lv_bipush (v := 7) hx hb (dq da_X5_ofThirdKind 67 rfl) rfl ?_
  refine lv_bipush (v := 7) hx hb (dq da_X5_ofThirdKind 68 rfl) rfl ?_
  refine callP E (c_X5_bits l _ _ _ ) w_776 w_777 w_19 w_778 hd_X5_bits rfl hl.1 rfl (Nat.le_of_ble_eq_true rfl) ⟨Nat.le_of_ble_eq_true rfl, Nat.le_of_ble_eq_true rfl⟩ (by decide) (dq da_X5_ofThirdKind 69 rfl) ?_
  refine lv_bipush (v := 6) hx hb (dq da_X5_ofThirdKind 70 rfl) rfl ?_
  refine lv_ishl hx hb (dq da_X5_ofThirdKind 71 rfl) ?_
  refine lv_iload_n hx hb (dq da_X5_ofThirdKind 72 rfl) rfl (lv_at hl 5 rfl) ?_
  refine lv_bipush (v := 10) hx hb (dq da_X5_ofThirdKind 73 rfl) rfl ?_
  refine lv_bipush (v := 7) hx hb (dq da_X5_ofThirdKind 74 rfl) rfl ?_
  refine callP E (c_X5_bits l _ _ _ ) w_776 w_777 w_19 w_778 hd_X5_bits rfl hl.1 rfl (Nat.le_of_ble_eq_true rfl) ⟨Nat.le_of_ble_eq_true rfl, Nat.le_of_ble_eq_true rfl⟩ (by decide) (dq da_X5_ofThirdKind 75 rfl) ?_
  refine lv_iconst (v := 3) hx hb (dq da_X5_ofThirdKind 76 rfl) rfl ?_
  refine lv_ishl hx hb (dq da_X5_ofThirdKind 77 rfl) ?_
  refine lv_ior hx hb (dq da_X5_ofThirdKind 78 rfl) ?_
  refine lv_istore (lv' := [(6, .int (((f_X5_bits x0 (7 : Int32) (7 : Int32)) <<< ((6 : Int32) &&& 31)) ||| ((f_X5_bits x0 (10 : Int32) (7 : Int32)) <<< ((3 : Int32) &&& 31)))), (5, .int (((f_X5_bits x0 (7 : Int32) (3 : Int32)) <<< ((6 : Int32) &&& 31)) ||| ((f_X5_bits x0 (9 : Int32) (15 : Int32)) <<< ((2 : Int32) &&& 31)))), (4, .int ((((f_X5_bits x0 (2 : Int32) (7 : Int32)) <<< ((6 : Int32) &&& 31)) ||| ((f_X5_bits x0 (12 : Int32) (1 : Int32)) <<< ((5 : Int32) &&& 31))) ||| ((f_X5_bits x0 (5 : Int32) (3 : Int32)) <<< ((3 : Int32) &&& 31)))), (3, .int ((((f_X5_bits x0 (2 : Int32) (3 : Int32)) <<< ((6 : Int32) &&& 31)) ||| ((f_X5_bits x0 (12 : Int32) (1 : Int32)) <<< ((5 : Int32) &&& 31))) ||| ((f_X5_bits x0 (4 : Int32) (7 : Int32)) <<< ((2 : Int32) &&& 31)))), (2, .int (f_X5_bits x0 (2 : Int32) (31 : Int32))), (1, .int (f_X5_bits x0 (7 : Int32) (31 : Int32))), (0, .int x0)]) hx hb (dq da_X5_ofThirdKind 79 rfl) hl (by decide) rfl (fun ls hl => ?_)
  refine lv_iload_n hx hb (dq da_X5_ofThirdKind 80 rfl) rfl (lv_at hl 6 rfl) ?_
  refine lv_bipush (v := 13) hx hb (dq da_X5_ofThirdKind 81 rfl) rfl ?_
  refine lv_ishr hx hb (dq da_X5_ofThirdKind 82 rfl) ?_
  by_cases c1 : (x0 >>> ((13 : Int32) &&& 31)) = (0 : Int32)
  · have h := it c1 h
    refine lv_tableIn (off := 47) (tgt := 176) hx hb (dq da_X5_ofThirdKind 83 rfl) (by rw [c1]; decide +kernel) (by rw [c1]; decide +kernel) (by rw [c1]; decide +kernel) (by decide) ?_
    refine lv_bipush (v := 19) hx hb (dq da_X5_ofThirdKind 84 rfl) rfl ?_
    refine lv_iconst (v := 1) hx hb (dq da_X5_ofThirdKind 85 rfl) rfl ?_
    refine lv_iload_n hx hb (dq da_X5_ofThirdKind 86 rfl) rfl (lv_at hl 5 rfl) ?_
    refine lv_iload_n hx hb (dq da_X5_ofThirdKind 87 rfl) rfl (lv_at hl 5 rfl) ?_
    refine lv_iload_n hx hb (dq da_X5_ofThirdKind 88 rfl) rfl (lv_at hl 6 rfl) ?_
    refine lv_bipush (v := 12) hx hb (dq da_X5_ofThirdKind 89 rfl) rfl ?_
    refine lv_iconst (v := 1) hx hb (dq da_X5_ofThirdKind 90 rfl) rfl ?_
    refine callP E (c_X5_bits l _ _ _ ) w_776 w_777 w_19 w_778 hd_X5_bits rfl hl.1 rfl (Nat.le_of_ble_eq_true rfl) ⟨Nat.le_of_ble_eq_true rfl, Nat.le_of_ble_eq_true rfl⟩ (by decide) (dq da_X5_ofThirdKind 91 rfl) ?_
    refine lv_iconst (v := 5) hx hb (dq da_X5_ofThirdKind 92 rfl) rfl ?_
    refine lv_ishl hx hb (dq da_X5_ofThirdKind 93 rfl) ?_
    refine lv_iload_n hx hb (dq da_X5_ofThirdKind 94 rfl) rfl (lv_at hl 4 rfl) ?_
    refine lv_ior hx hb (dq da_X5_ofThirdKind 95 rfl) ?_
    refine callP E (c_X5_withConstant l _ _ _ _ _ ) w_779 w_780 w_19 w_781 hd_X5_withConstant rfl hl.1 rfl (Nat.le_of_ble_eq_true rfl) ⟨Nat.le_of_ble_eq_true rfl, Nat.le_of_ble_eq_true rfl⟩ (by decide) (dq da_X5_ofThirdKind 96 rfl) ?_
    exact pret_i E hr hlk h (dq da_X5_ofThirdKind 97 rfl)
  · have h := ie c1 h
    by_cases c2 : (x0 >>> ((13 : Int32) &&& 31)) = (1 : Int32)
    · have h := it c2 h
      refine lv_tableIn (off := 144) (tgt := 273) hx hb (dq da_X5_ofThirdKind 83 rfl) (by rw [c2]; decide +kernel) (by rw [c2]; decide +kernel) (by rw [c2]; decide +kernel) (by decide) ?_
      exact b_X5_ofThirdKind_b273 E hr hlk h (lv_sub hl [] rfl)
    · have h := ie c2 h
      by_cases c3 : (x0 >>> ((13 : Int32) &&& 31)) = (2 : Int32)
      · have h := it c3 h
        refine lv_tableIn (off := 67) (tgt := 196) hx hb (dq da_X5_ofThirdKind 83 rfl) (by rw [c3]; decide +kernel) (by rw [c3]; decide +kernel) (by rw [c3]; decide +kernel) (by decide) ?_
        refine lv_iload_n hx hb (dq da_X5_ofThirdKind 98 rfl) rfl (lv_at hl 5 rfl) ?_
        refine lv_if_ne (tgt := 204) hx hb (dq da_X5_ofThirdKind 99 rfl) (by decide) (fun c4 => ?_) (fun c4 => ?_)
        · have h := ie c4 h
          refine lv_iconst (v := 3) hx hb (dq da_X5_ofThirdKind 102 rfl) rfl ?_
          refine lv_iconst (v := 2) hx hb (dq da_X5_ofThirdKind 103 rfl) rfl ?_
          refine lv_iload_n hx hb (dq da_X5_ofThirdKind 104 rfl) rfl (lv_at hl 5 rfl) ?_
          refine lv_iconst (v := 2) hx hb (dq da_X5_ofThirdKind 105 rfl) rfl ?_
          refine lv_iload_n hx hb (dq da_X5_ofThirdKind 106 rfl) rfl (lv_at hl 3 rfl) ?_
          refine callP E (c_X5_withConstant l _ _ _ _ _ ) w_779 w_780 w_19 w_781 hd_X5_withConstant rfl hl.1 rfl (Nat.le_of_ble_eq_true rfl) ⟨Nat.le_of_ble_eq_true rfl, Nat.le_of_ble_eq_true rfl⟩ (by decide) (dq da_X5_ofThirdKind 107 rfl) ?_
          exact pret_i E hr hlk h (dq da_X5_ofThirdKind 108 rfl)
        · have h := it c4 h
          refine lv_iconst (v := 0) hx hb (dq da_X5_ofThirdKind 100 rfl) rfl ?_
          refine lv_goto (tgt := 212) hx hb (dq da_X5_ofThirdKind 101 rfl) (by decide) ?_
          exact pret_i E hr hlk h (dq da_X5_ofThirdKind 108 rfl)
      · have h := ie c3 h
        by_cases c5 : (x0 >>> ((13 : Int32) &&& 31)) = (3 : Int32)
        · have h := it c5 h
          refine lv_tableIn (off := 84) (tgt := 213) hx hb (dq da_X5_ofThirdKind 83 rfl) (by rw [c5]; decide +kernel) (by rw [c5]; decide +kernel) (by rw [c5]; decide +kernel) (by decide) ?_
          refine lv_iload_n hx hb (dq da_X5_ofThirdKind 109 rfl) rfl (lv_at hl 5 rfl) ?_
          refine lv_if_ne (tgt := 221) hx hb (dq da_X5_ofThirdKind 110 rfl) (by decide) (fun c6 => ?_) (fun c6 => ?_)
          · have h := ie c6 h
            refine lv_iconst (v := 3) hx hb (dq da_X5_ofThirdKind 113 rfl) rfl ?_
            refine lv_iconst (v := 3) hx hb (dq da_X5_ofThirdKind 114 rfl) rfl ?_
            refine lv_iload_n hx hb (dq da_X5_ofThirdKind 115 rfl) rfl (lv_at hl 5 rfl) ?_
            refine lv_iconst (v := 2) hx hb (dq da_X5_ofThirdKind 116 rfl) rfl ?_
            refine lv_iload hx hb (dq da_X5_ofThirdKind 117 rfl) (lv_at hl 2 rfl) ?_
            refine callP E (c_X5_withConstant l _ _ _ _ _ ) w_779 w_780 w_19 w_781 hd_X5_withConstant rfl hl.1 rfl (Nat.le_of_ble_eq_true rfl) ⟨Nat.le_of_ble_eq_true rfl, Nat.le_of_ble_eq_true rfl⟩ (by decide) (dq da_X5_ofThirdKind 118 rfl) ?_
            exact pret_i E hr hlk h (dq da_X5_ofThirdKind 119 rfl)
          · have h := it c6 h
            refine lv_iconst (v := 0) hx hb (dq da_X5_ofThirdKind 111 rfl) rfl ?_
            refine lv_goto (tgt := 230) hx hb (dq da_X5_ofThirdKind 112 rfl) (by decide) ?_
            exact pret_i E hr hlk h (dq da_X5_ofThirdKind 119 rfl)
        · have h := ie c5 h
          by_cases c7 : (x0 >>> ((13 : Int32) &&& 31)) = (4 : Int32)
          · have h := it c7 h
            refine lv_tableIn (off := 102) (tgt := 231) hx hb (dq da_X5_ofThirdKind 83 rfl) (by rw [c7]; decide +kernel) (by rw [c7]; decide +kernel) (by rw [c7]; decide +kernel) (by decide) ?_
            refine lv_iload_n hx hb (dq da_X5_ofThirdKind 120 rfl) rfl (lv_at hl 6 rfl) ?_
            refine lv_bipush (v := 12) hx hb (dq da_X5_ofThirdKind 121 rfl) rfl ?_
            refine lv_iconst (v := 1) hx hb (dq da_X5_ofThirdKind 122 rfl) rfl ?_
            refine callP E (c_X5_bits l _ _ _ ) w_776 w_777 w_19 w_778 hd_X5_bits rfl hl.1 rfl (Nat.le_of_ble_eq_true rfl) ⟨Nat.le_of_ble_eq_true rfl, Nat.le_of_ble_eq_true rfl⟩ (by decide) (dq da_X5_ofThirdKind 123 rfl) ?_
            refine lv_if_ne (tgt := 249) hx hb (dq da_X5_ofThirdKind 124 rfl) (by decide) (fun c8 => ?_) (fun c8 => ?_)
            · have h := ie c8 h
              refine lv_iload_n hx hb (dq da_X5_ofThirdKind 129 rfl) rfl (lv_at hl 5 rfl) ?_
              refine lv_iload_n hx hb (dq da_X5_ofThirdKind 130 rfl) rfl (lv_at hl 4 rfl) ?_
              refine callP E (c_X5_addingOrLinking l _ _ ) w_812 w_813 w_19 w_814 hd_X5_addingOrLinking rfl hl.1 rfl (Nat.le_of_ble_eq_true rfl) ⟨Nat.le_of_ble_eq_true rfl, Nat.le_of_ble_eq_true rfl⟩ (by decide) (dq da_X5_ofThirdKind 131 rfl) ?_
              exact pret_i E hr hlk h (dq da_X5_ofThirdKind 132 rfl)
            · have h := it c8 h
              refine lv_iload_n hx hb (dq da_X5_ofThirdKind 125 rfl) rfl (lv_at hl 5 rfl) ?_
              refine lv_iload_n hx hb (dq da_X5_ofThirdKind 126 rfl) rfl (lv_at hl 4 rfl) ?_
              refine callP E (c_X5_movingOrJumping l _ _ ) w_809 w_810 w_19 w_811 hd_X5_movingOrJumping rfl hl.1 rfl (Nat.le_of_ble_eq_true rfl) ⟨Nat.le_of_ble_eq_true rfl, Nat.le_of_ble_eq_true rfl⟩ (by decide) (dq da_X5_ofThirdKind 127 rfl) ?_
              refine lv_goto (tgt := 254) hx hb (dq da_X5_ofThirdKind 128 rfl) (by decide) ?_
              exact pret_i E hr hlk h (dq da_X5_ofThirdKind 132 rfl)
          · have h := ie c7 h
            by_cases c9 : (x0 >>> ((13 : Int32) &&& 31)) = (5 : Int32)
            · have h := it c9 h
              refine lv_tableIn (off := 144) (tgt := 273) hx hb (dq da_X5_ofThirdKind 83 rfl) (by rw [c9]; decide +kernel) (by rw [c9]; decide +kernel) (by rw [c9]; decide +kernel) (by decide) ?_
              exact b_X5_ofThirdKind_b273 E hr hlk h (lv_sub hl [] rfl)
            · have h := ie c9 h
              by_cases c10 : (x0 >>> ((13 : Int32) &&& 31)) = (6 : Int32)
              · have h := it c10 h
                refine lv_tableIn (off := 126) (tgt := 255) hx hb (dq da_X5_ofThirdKind 83 rfl) (by rw [c10]; decide +kernel) (by rw [c10]; decide +kernel) (by rw [c10]; decide +kernel) (by decide) ?_
                refine lv_iconst (v := 2) hx hb (dq da_X5_ofThirdKind 133 rfl) rfl ?_
                refine lv_iconst (v := 2) hx hb (dq da_X5_ofThirdKind 134 rfl) rfl ?_
                refine lv_iload_n hx hb (dq da_X5_ofThirdKind 135 rfl) rfl (lv_at hl 4 rfl) ?_
                refine lv_iload hx hb (dq da_X5_ofThirdKind 136 rfl) (lv_at hl 1 rfl) ?_
                refine callP E (c_X5_storing l _ _ _ _ ) w_782 w_783 w_19 w_784 hd_X5_storing rfl hl.1 rfl (Nat.le_of_ble_eq_true rfl) ⟨Nat.le_of_ble_eq_true rfl, Nat.le_of_ble_eq_true rfl⟩ (by decide) (dq da_X5_ofThirdKind 137 rfl) ?_
                exact pret_i E hr hlk h (dq da_X5_ofThirdKind 138 rfl)
              · have h := ie c10 h
                by_cases c11 : (x0 >>> ((13 : Int32) &&& 31)) = (7 : Int32)
                · have h := it c11 h
                  refine lv_tableIn (off := 135) (tgt := 264) hx hb (dq da_X5_ofThirdKind 83 rfl) (by rw [c11]; decide +kernel) (by rw [c11]; decide +kernel) (by rw [c11]; decide +kernel) (by decide) ?_
                  refine lv_iconst (v := 3) hx hb (dq da_X5_ofThirdKind 139 rfl) rfl ?_
                  refine lv_iconst (v := 2) hx hb (dq da_X5_ofThirdKind 140 rfl) rfl ?_
                  refine lv_iload_n hx hb (dq da_X5_ofThirdKind 141 rfl) rfl (lv_at hl 4 rfl) ?_
                  refine lv_iload hx hb (dq da_X5_ofThirdKind 142 rfl) (lv_at hl 0 rfl) ?_
                  refine callP E (c_X5_storing l _ _ _ _ ) w_782 w_783 w_19 w_784 hd_X5_storing rfl hl.1 rfl (Nat.le_of_ble_eq_true rfl) ⟨Nat.le_of_ble_eq_true rfl, Nat.le_of_ble_eq_true rfl⟩ (by decide) (dq da_X5_ofThirdKind 143 rfl) ?_
                  exact pret_i E hr hlk h (dq da_X5_ofThirdKind 144 rfl)
                · have h := ie c11 h
                  refine lv_tableOut (tgt := 273) hx hb (dq da_X5_ofThirdKind 83 rfl) (by have := lv_neT (k := (0 : Int32)) (a := 0) c1 rfl; have := lv_neT (k := (1 : Int32)) (a := 1) c2 rfl; have := lv_neT (k := (2 : Int32)) (a := 2) c3 rfl; have := lv_neT (k := (3 : Int32)) (a := 3) c5 rfl; have := lv_neT (k := (4 : Int32)) (a := 4) c7 rfl; have := lv_neT (k := (5 : Int32)) (a := 5) c9 rfl; have := lv_neT (k := (6 : Int32)) (a := 6) c10 rfl; have := lv_neT (k := (7 : Int32)) (a := 7) c11 rfl; omega) (by decide) ?_
                  exact b_X5_ofThirdKind_b273 E hr hlk h (lv_sub hl [] rfl)
def dl_X5_widened : List (Nat × Instr × Nat) := [(0, .iload_n 0, 1), (1, .iconst 3, 1), (2, .iand, 1), (3, .tableswitch 40 0 2 #[25, 30, 35], 25), (28, .iload_n 0, 1), (29, .invokestatic 7, 3), (32, .ireturn, 1), (33, .iload_n 0, 1), (34, .invokestatic 13, 3), (37, .ireturn, 1), (38, .iload_n 0, 1), (39, .invokestatic 16, 3), (42, .ireturn, 1), (43, .iconst 0, 1), (44, .ireturn, 1)]
theorem da_X5_widened : dkL cX5_widened dl_X5_widened = true := by decide +kernel
def f_X5_widened (x0 : Int32) : Int32 := if (x0 &&& (3 : Int32)) = (0 : Int32) then (f_X5_ofFirstKind x0) else if (x0 &&& (3 : Int32)) = (1 : Int32) then (f_X5_ofSecondKind x0) else if (x0 &&& (3 : Int32)) = (2 : Int32) then (f_X5_ofThirdKind x0) else (0 : Int32)
set_option maxRecDepth 100000 in
set_option maxHeartbeats 4000000 in
theorem c_X5_widened (l : Launch) (x0 : Int32) : MP l yX5_widened cX5_widened 1 (some .int) 3 72 [.int x0] (.int (f_X5_widened x0)) := by
  refine entP (by decide +kernel) (Nat.le_of_ble_eq_true rfl) ?_
  intro p e s m args below meth c ls E hr hlk hl
  have hl : lv_has ls 1 [(0, .int x0)] := hl
  generalize h : f_X5_widened x0 = r
  have hx := E.1
  have hb := E.2.1
  have hown := E.2.2.2.1
  have hts := E.2.2.2.2
  refine lv_iload_n hx hb (dq da_X5_widened 0 rfl) rfl (lv_at hl 0 rfl) ?_
  refine lv_iconst (v := 3) hx hb (dq da_X5_widened 1 rfl) rfl ?_
  refine lv_iand hx hb (dq da_X5_widened 2 rfl) ?_
  by_cases c1 : (x0 &&& (3 : Int32)) = (0 : Int32)
  · have h := it c1 h
    refine lv_tableIn (off := 25) (tgt := 28) hx hb (dq da_X5_widened 3 rfl) (by rw [c1]; decide +kernel) (by rw [c1]; decide +kernel) (by rw [c1]; decide +kernel) (by decide) ?_
    refine lv_iload_n hx hb (dq da_X5_widened 4 rfl) rfl (lv_at hl 0 rfl) ?_
    refine callP E (c_X5_ofFirstKind l _ ) w_773 w_774 w_19 w_775 hd_X5_ofFirstKind rfl hl.1 rfl (Nat.le_of_ble_eq_true rfl) ⟨Nat.le_of_ble_eq_true rfl, Nat.le_of_ble_eq_true rfl⟩ (by decide) (dq da_X5_widened 5 rfl) ?_
    exact pret_i E hr hlk h (dq da_X5_widened 6 rfl)
  · have h := ie c1 h
    by_cases c2 : (x0 &&& (3 : Int32)) = (1 : Int32)
    · have h := it c2 h
      refine lv_tableIn (off := 30) (tgt := 33) hx hb (dq da_X5_widened 3 rfl) (by rw [c2]; decide +kernel) (by rw [c2]; decide +kernel) (by rw [c2]; decide +kernel) (by decide) ?_
      refine lv_iload_n hx hb (dq da_X5_widened 7 rfl) rfl (lv_at hl 0 rfl) ?_
      refine callP E (c_X5_ofSecondKind l _ ) w_785 w_786 w_19 w_787 hd_X5_ofSecondKind rfl hl.1 rfl (Nat.le_of_ble_eq_true rfl) ⟨Nat.le_of_ble_eq_true rfl, Nat.le_of_ble_eq_true rfl⟩ (by decide) (dq da_X5_widened 8 rfl) ?_
      exact pret_i E hr hlk h (dq da_X5_widened 9 rfl)
    · have h := ie c2 h
      by_cases c3 : (x0 &&& (3 : Int32)) = (2 : Int32)
      · have h := it c3 h
        refine lv_tableIn (off := 35) (tgt := 38) hx hb (dq da_X5_widened 3 rfl) (by rw [c3]; decide +kernel) (by rw [c3]; decide +kernel) (by rw [c3]; decide +kernel) (by decide) ?_
        refine lv_iload_n hx hb (dq da_X5_widened 10 rfl) rfl (lv_at hl 0 rfl) ?_
        refine callP E (c_X5_ofThirdKind l _ ) w_806 w_807 w_19 w_808 hd_X5_ofThirdKind rfl hl.1 rfl (Nat.le_of_ble_eq_true rfl) ⟨Nat.le_of_ble_eq_true rfl, Nat.le_of_ble_eq_true rfl⟩ (by decide) (dq da_X5_widened 11 rfl) ?_
        exact pret_i E hr hlk h (dq da_X5_widened 12 rfl)
      · have h := ie c3 h
        refine lv_tableOut (tgt := 43) hx hb (dq da_X5_widened 3 rfl) (by have := lv_neT (k := (0 : Int32)) (a := 0) c1 rfl; have := lv_neT (k := (1 : Int32)) (a := 1) c2 rfl; have := lv_neT (k := (2 : Int32)) (a := 2) c3 rfl; omega) (by decide) ?_
        refine lv_iconst (v := 0) hx hb (dq da_X5_widened 13 rfl) rfl ?_
        exact pret_i E hr hlk h (dq da_X5_widened 14 rfl)
def dl_X6_jumpOffset : List (Nat × Instr × Nat) := [(0, .iload_n 0, 1), (1, .bipush 31, 2), (3, .ishr, 1), (4, .bipush 20, 2), (6, .ishl, 1), (7, .iload_n 0, 1), (8, .ldc_w 258, 3), (11, .iand, 1), (12, .ior, 1), (13, .iload_n 0, 1), (14, .bipush 20, 2), (16, .ishr, 1), (17, .iconst 1, 1), (18, .iand, 1), (19, .bipush 11, 2), (21, .ishl, 1), (22, .ior, 1), (23, .iload_n 0, 1), (24, .bipush 21, 2), (26, .ishr, 1), (27, .sipush 1023, 3), (30, .iand, 1), (31, .iconst 1, 1), (32, .ishl, 1), (33, .ior, 1), (34, .ireturn, 1)]
theorem da_X6_jumpOffset : dkL cX6_jumpOffset dl_X6_jumpOffset = true := by decide +kernel
def f_X6_jumpOffset (x0 : Int32) : Int32 := (((((x0 >>> ((31 : Int32) &&& 31)) <<< ((20 : Int32) &&& 31)) ||| (x0 &&& (1044480 : Int32))) ||| (((x0 >>> ((20 : Int32) &&& 31)) &&& (1 : Int32)) <<< ((11 : Int32) &&& 31))) ||| (((x0 >>> ((21 : Int32) &&& 31)) &&& (1023 : Int32)) <<< ((1 : Int32) &&& 31)))
set_option maxRecDepth 100000 in
set_option maxHeartbeats 4000000 in
theorem c_X6_jumpOffset (l : Launch) (x0 : Int32) : MP l yX6_jumpOffset cX6_jumpOffset 1 (some .int) 0 0 [.int x0] (.int (f_X6_jumpOffset x0)) := by
  refine entP (by decide +kernel) (Nat.le_of_ble_eq_true rfl) ?_
  intro p e s m args below meth c ls E hr hlk hl
  have hl : lv_has ls 1 [(0, .int x0)] := hl
  generalize h : f_X6_jumpOffset x0 = r
  have hx := E.1
  have hb := E.2.1
  have hown := E.2.2.2.1
  have hts := E.2.2.2.2
  refine lv_iload_n hx hb (dq da_X6_jumpOffset 0 rfl) rfl (lv_at hl 0 rfl) ?_
  refine lv_bipush (v := 31) hx hb (dq da_X6_jumpOffset 1 rfl) rfl ?_
  refine lv_ishr hx hb (dq da_X6_jumpOffset 2 rfl) ?_
  refine lv_bipush (v := 20) hx hb (dq da_X6_jumpOffset 3 rfl) rfl ?_
  refine lv_ishl hx hb (dq da_X6_jumpOffset 4 rfl) ?_
  refine lv_iload_n hx hb (dq da_X6_jumpOffset 5 rfl) rfl (lv_at hl 0 rfl) ?_
  refine lv_ldcw hx hb hown (hts _ w_827) (dq da_X6_jumpOffset 6 rfl) ?_
  refine lv_iand hx hb (dq da_X6_jumpOffset 7 rfl) ?_
  refine lv_ior hx hb (dq da_X6_jumpOffset 8 rfl) ?_
  refine lv_iload_n hx hb (dq da_X6_jumpOffset 9 rfl) rfl (lv_at hl 0 rfl) ?_
  refine lv_bipush (v := 20) hx hb (dq da_X6_jumpOffset 10 rfl) rfl ?_
  refine lv_ishr hx hb (dq da_X6_jumpOffset 11 rfl) ?_
  refine lv_iconst (v := 1) hx hb (dq da_X6_jumpOffset 12 rfl) rfl ?_
  refine lv_iand hx hb (dq da_X6_jumpOffset 13 rfl) ?_
  refine lv_bipush (v := 11) hx hb (dq da_X6_jumpOffset 14 rfl) rfl ?_
  refine lv_ishl hx hb (dq da_X6_jumpOffset 15 rfl) ?_
  refine lv_ior hx hb (dq da_X6_jumpOffset 16 rfl) ?_
  refine lv_iload_n hx hb (dq da_X6_jumpOffset 17 rfl) rfl (lv_at hl 0 rfl) ?_
  refine lv_bipush (v := 21) hx hb (dq da_X6_jumpOffset 18 rfl) rfl ?_
  refine lv_ishr hx hb (dq da_X6_jumpOffset 19 rfl) ?_
  refine lv_sipush (v := 1023) hx hb (dq da_X6_jumpOffset 20 rfl) rfl ?_
  refine lv_iand hx hb (dq da_X6_jumpOffset 21 rfl) ?_
  refine lv_iconst (v := 1) hx hb (dq da_X6_jumpOffset 22 rfl) rfl ?_
  refine lv_ishl hx hb (dq da_X6_jumpOffset 23 rfl) ?_
  refine lv_ior hx hb (dq da_X6_jumpOffset 24 rfl) ?_
  exact pret_i E hr hlk h (dq da_X6_jumpOffset 25 rfl)
def dl_X6_f : List (Nat × Instr × Nat) := [(0, .iload_n 0, 1), (1, .bipush 12, 2), (3, .ishr, 1), (4, .bipush 7, 2), (6, .iand, 1), (7, .ireturn, 1)]
theorem da_X6_f : dkL cX6_f dl_X6_f = true := by decide +kernel
def f_X6_f (x0 : Int32) : Int32 := ((x0 >>> ((12 : Int32) &&& 31)) &&& (7 : Int32))
set_option maxRecDepth 100000 in
set_option maxHeartbeats 4000000 in
theorem c_X6_f (l : Launch) (x0 : Int32) : MP l yX6_f cX6_f 1 (some .int) 0 0 [.int x0] (.int (f_X6_f x0)) := by
  refine entP (by decide +kernel) (Nat.le_of_ble_eq_true rfl) ?_
  intro p e s m args below meth c ls E hr hlk hl
  have hl : lv_has ls 1 [(0, .int x0)] := hl
  generalize h : f_X6_f x0 = r
  have hx := E.1
  have hb := E.2.1
  have hown := E.2.2.2.1
  have hts := E.2.2.2.2
  refine lv_iload_n hx hb (dq da_X6_f 0 rfl) rfl (lv_at hl 0 rfl) ?_
  refine lv_bipush (v := 12) hx hb (dq da_X6_f 1 rfl) rfl ?_
  refine lv_ishr hx hb (dq da_X6_f 2 rfl) ?_
  refine lv_bipush (v := 7) hx hb (dq da_X6_f 3 rfl) rfl ?_
  refine lv_iand hx hb (dq da_X6_f 4 rfl) ?_
  exact pret_i E hr hlk h (dq da_X6_f 5 rfl)
def dl_X6_branchOffset : List (Nat × Instr × Nat) := [(0, .iload_n 0, 1), (1, .bipush 31, 2), (3, .ishr, 1), (4, .bipush 12, 2), (6, .ishl, 1), (7, .iload_n 0, 1), (8, .bipush 7, 2), (10, .ishr, 1), (11, .iconst 1, 1), (12, .iand, 1), (13, .bipush 11, 2), (15, .ishl, 1), (16, .ior, 1), (17, .iload_n 0, 1), (18, .bipush 25, 2), (20, .ishr, 1), (21, .bipush 63, 2), (23, .iand, 1), (24, .iconst 5, 1), (25, .ishl, 1), (26, .ior, 1), (27, .iload_n 0, 1), (28, .bipush 8, 2), (30, .ishr, 1), (31, .bipush 15, 2), (33, .iand, 1), (34, .iconst 1, 1), (35, .ishl, 1), (36, .ior, 1), (37, .ireturn, 1)]
theorem da_X6_branchOffset : dkL cX6_branchOffset dl_X6_branchOffset = true := by decide +kernel
def f_X6_branchOffset (x0 : Int32) : Int32 := (((((x0 >>> ((31 : Int32) &&& 31)) <<< ((12 : Int32) &&& 31)) ||| (((x0 >>> ((7 : Int32) &&& 31)) &&& (1 : Int32)) <<< ((11 : Int32) &&& 31))) ||| (((x0 >>> ((25 : Int32) &&& 31)) &&& (63 : Int32)) <<< ((5 : Int32) &&& 31))) ||| (((x0 >>> ((8 : Int32) &&& 31)) &&& (15 : Int32)) <<< ((1 : Int32) &&& 31)))
set_option maxRecDepth 100000 in
set_option maxHeartbeats 4000000 in
theorem c_X6_branchOffset (l : Launch) (x0 : Int32) : MP l yX6_branchOffset cX6_branchOffset 1 (some .int) 0 0 [.int x0] (.int (f_X6_branchOffset x0)) := by
  refine entP (by decide +kernel) (Nat.le_of_ble_eq_true rfl) ?_
  intro p e s m args below meth c ls E hr hlk hl
  have hl : lv_has ls 1 [(0, .int x0)] := hl
  generalize h : f_X6_branchOffset x0 = r
  have hx := E.1
  have hb := E.2.1
  have hown := E.2.2.2.1
  have hts := E.2.2.2.2
  refine lv_iload_n hx hb (dq da_X6_branchOffset 0 rfl) rfl (lv_at hl 0 rfl) ?_
  refine lv_bipush (v := 31) hx hb (dq da_X6_branchOffset 1 rfl) rfl ?_
  refine lv_ishr hx hb (dq da_X6_branchOffset 2 rfl) ?_
  refine lv_bipush (v := 12) hx hb (dq da_X6_branchOffset 3 rfl) rfl ?_
  refine lv_ishl hx hb (dq da_X6_branchOffset 4 rfl) ?_
  refine lv_iload_n hx hb (dq da_X6_branchOffset 5 rfl) rfl (lv_at hl 0 rfl) ?_
  refine lv_bipush (v := 7) hx hb (dq da_X6_branchOffset 6 rfl) rfl ?_
  refine lv_ishr hx hb (dq da_X6_branchOffset 7 rfl) ?_
  refine lv_iconst (v := 1) hx hb (dq da_X6_branchOffset 8 rfl) rfl ?_
  refine lv_iand hx hb (dq da_X6_branchOffset 9 rfl) ?_
  refine lv_bipush (v := 11) hx hb (dq da_X6_branchOffset 10 rfl) rfl ?_
  refine lv_ishl hx hb (dq da_X6_branchOffset 11 rfl) ?_
  refine lv_ior hx hb (dq da_X6_branchOffset 12 rfl) ?_
  refine lv_iload_n hx hb (dq da_X6_branchOffset 13 rfl) rfl (lv_at hl 0 rfl) ?_
  refine lv_bipush (v := 25) hx hb (dq da_X6_branchOffset 14 rfl) rfl ?_
  refine lv_ishr hx hb (dq da_X6_branchOffset 15 rfl) ?_
  refine lv_bipush (v := 63) hx hb (dq da_X6_branchOffset 16 rfl) rfl ?_
  refine lv_iand hx hb (dq da_X6_branchOffset 17 rfl) ?_
  refine lv_iconst (v := 5) hx hb (dq da_X6_branchOffset 18 rfl) rfl ?_
  refine lv_ishl hx hb (dq da_X6_branchOffset 19 rfl) ?_
  refine lv_ior hx hb (dq da_X6_branchOffset 20 rfl) ?_
  refine lv_iload_n hx hb (dq da_X6_branchOffset 21 rfl) rfl (lv_at hl 0 rfl) ?_
  refine lv_bipush (v := 8) hx hb (dq da_X6_branchOffset 22 rfl) rfl ?_
  refine lv_ishr hx hb (dq da_X6_branchOffset 23 rfl) ?_
  refine lv_bipush (v := 15) hx hb (dq da_X6_branchOffset 24 rfl) rfl ?_
  refine lv_iand hx hb (dq da_X6_branchOffset 25 rfl) ?_
  refine lv_iconst (v := 1) hx hb (dq da_X6_branchOffset 26 rfl) rfl ?_
  refine lv_ishl hx hb (dq da_X6_branchOffset 27 rfl) ?_
  refine lv_ior hx hb (dq da_X6_branchOffset 28 rfl) ?_
  exact pret_i E hr hlk h (dq da_X6_branchOffset 29 rfl)
def dl_X3_has : List (Nat × Instr × Nat) := [(0, .lload_n 0, 1), (1, .ldc2_w 19, 3), (4, .lcmp, 1), (5, .ifCond .eq 77, 3), (8, .lload_n 0, 1), (9, .ldc2_w 21, 3), (12, .lcmp, 1), (13, .ifCond .eq 69, 3), (16, .lload_n 0, 1), (17, .ldc2_w 23, 3), (20, .lcmp, 1), (21, .ifCond .eq 61, 3), (24, .lload_n 0, 1), (25, .ldc2_w 25, 3), (28, .lcmp, 1), (29, .ifCond .eq 53, 3), (32, .lload_n 0, 1), (33, .ldc2_w 27, 3), (36, .lcmp, 1), (37, .ifCond .eq 45, 3), (40, .lload_n 0, 1), (41, .ldc2_w 29, 3), (44, .lcmp, 1), (45, .ifCond .eq 37, 3), (48, .lload_n 0, 1), (49, .ldc2_w 31, 3), (52, .lcmp, 1), (53, .ifCond .eq 29, 3), (56, .lload_n 0, 1), (57, .ldc2_w 33, 3), (60, .lcmp, 1), (61, .ifCond .lt 25, 3), (64, .lload_n 0, 1), (65, .ldc2_w 35, 3), (68, .lcmp, 1), (69, .ifCond .gt 17, 3), (72, .lload_n 0, 1), (73, .ldc2_w 37, 3), (76, .land, 1), (77, .lconst 0, 1), (78, .lcmp, 1), (79, .ifCond .ne 7, 3), (82, .iconst 1, 1), (83, .goto 4, 3), (86, .iconst 0, 1), (87, .ireturn, 1)]
theorem da_X3_has : dkL cX3_has dl_X3_has = true := by decide +kernel
def f_X3_has_b82  : Int32 := (1 : Int32)
set_option maxRecDepth 100000 in
set_option maxHeartbeats 4000000 in
theorem b_X3_has_b82 {p : Program} {l : Launch} {e : Env} {s : State} {m : MethodId} {args : Array Value} {below : List Frame} {meth : Method} {c : Code} (E : CallFix p m c cX3_has 2 s args gw RX3) (hr : meth.sig.returnType = some .boolean) (hlk : meth.locks = false)  {r : Int32} (h : f_X3_has_b82  = r) {ls : Array Slot} (hl : lv_has ls 2 []) : Wp p l e 0 0 s m args below meth c (.int r) 82 ls [] := by
  have hx := E.1
  have hb := E.2.1
  have hown := E.2.2.2.1
  have hts := E.2.2.2.2
  refine lv_iconst (v := 1) hx hb (dq da_X3_has 42 rfl) rfl ?_
  refine lv_goto (tgt := 87) hx hb (dq da_X3_has 43 rfl) (by decide) ?_
  exact pret_z E hr hlk rfl h (dq da_X3_has 45 rfl)
def f_X3_has_b86  : Int32 := (0 : Int32)
set_option maxRecDepth 100000 in
set_option maxHeartbeats 4000000 in
theorem b_X3_has_b86 {p : Program} {l : Launch} {e : Env} {s : State} {m : MethodId} {args : Array Value} {below : List Frame} {meth : Method} {c : Code} (E : CallFix p m c cX3_has 2 s args gw RX3) (hr : meth.sig.returnType = some .boolean) (hlk : meth.locks = false)  {r : Int32} (h : f_X3_has_b86  = r) {ls : Array Slot} (hl : lv_has ls 2 []) : Wp p l e 0 0 s m args below meth c (.int r) 86 ls [] := by
  have hx := E.1
  have hb := E.2.1
  have hown := E.2.2.2.1
  have hts := E.2.2.2.2
  refine lv_iconst (v := 0) hx hb (dq da_X3_has 44 rfl) rfl ?_
  exact pret_z E hr hlk rfl h (dq da_X3_has 45 rfl)
def f_X3_has (x0 : Int64) : Int32 := if x0 = (4096 : Int64) then (f_X3_has_b82 ) else (if x0 = (8192 : Int64) then (f_X3_has_b82 ) else (if x0 = (8320 : Int64) then (f_X3_has_b82 ) else (if x0 = (2097152 : Int64) then (f_X3_has_b82 ) else (if x0 = (2101248 : Int64) then (f_X3_has_b82 ) else (if x0 = (2097156 : Int64) then (f_X3_has_b82 ) else (if x0 = (2101252 : Int64) then (f_X3_has_b82 ) else (if x0 < (4 : Int64) then (f_X3_has_b86 ) else (if (28 : Int64) < x0 then (f_X3_has_b86 ) else (if (x0 &&& (3 : Int64)) = (0 : Int64) then (f_X3_has_b82 ) else (f_X3_has_b86 ))))))))))
set_option maxRecDepth 100000 in
set_option maxHeartbeats 4000000 in
theorem c_X3_has (l : Launch) (x0 : Int64) : MP l yX3_has cX3_has 2 (some .boolean) 0 0 [.long x0] (.int (f_X3_has x0)) := by
  refine entP (by decide +kernel) (Nat.le_of_ble_eq_true rfl) ?_
  intro p e s m args below meth c ls E hr hlk hl
  have hl : lv_has ls 2 [(0, .long x0)] := hl
  generalize h : f_X3_has x0 = r
  have hx := E.1
  have hb := E.2.1
  have hown := E.2.2.2.1
  have hts := E.2.2.2.2
  refine lv_lload_n hx hb (dq da_X3_has 0 rfl) rfl (lv_at hl 0 rfl) ?_
  refine lv_ldc2 hx hb hown (hts _ w_887) (dq da_X3_has 1 rfl) ?_
  refine lc_eq (tgt := 82) hx hb (dq da_X3_has 2 rfl) (dq da_X3_has 3 rfl) (by decide) (fun c1 => ?_) (fun c1 => ?_)
  · have h := it c1 h
    exact b_X3_has_b82 E hr hlk h (lv_sub hl [] rfl)
  · have h := ie c1 h
    refine lv_lload_n hx hb (dq da_X3_has 4 rfl) rfl (lv_at hl 0 rfl) ?_
    refine lv_ldc2 hx hb hown (hts _ w_888) (dq da_X3_has 5 rfl) ?_
    refine lc_eq (tgt := 82) hx hb (dq da_X3_has 6 rfl) (dq da_X3_has 7 rfl) (by decide) (fun c2 => ?_) (fun c2 => ?_)
    · have h := it c2 h
      exact b_X3_has_b82 E hr hlk h (lv_sub hl [] rfl)
    · have h := ie c2 h
      refine lv_lload_n hx hb (dq da_X3_has 8 rfl) rfl (lv_at hl 0 rfl) ?_
      refine lv_ldc2 hx hb hown (hts _ w_889) (dq da_X3_has 9 rfl) ?_
      refine lc_eq (tgt := 82) hx hb (dq da_X3_has 10 rfl) (dq da_X3_has 11 rfl) (by decide) (fun c3 => ?_) (fun c3 => ?_)
      · have h := it c3 h
        exact b_X3_has_b82 E hr hlk h (lv_sub hl [] rfl)
      · have h := ie c3 h
        refine lv_lload_n hx hb (dq da_X3_has 12 rfl) rfl (lv_at hl 0 rfl) ?_
        refine lv_ldc2 hx hb hown (hts _ w_890) (dq da_X3_has 13 rfl) ?_
        refine lc_eq (tgt := 82) hx hb (dq da_X3_has 14 rfl) (dq da_X3_has 15 rfl) (by decide) (fun c4 => ?_) (fun c4 => ?_)
        · have h := it c4 h
          exact b_X3_has_b82 E hr hlk h (lv_sub hl [] rfl)
        · have h := ie c4 h
          refine lv_lload_n hx hb (dq da_X3_has 16 rfl) rfl (lv_at hl 0 rfl) ?_
          refine lv_ldc2 hx hb hown (hts _ w_891) (dq da_X3_has 17 rfl) ?_
          refine lc_eq (tgt := 82) hx hb (dq da_X3_has 18 rfl) (dq da_X3_has 19 rfl) (by decide) (fun c5 => ?_) (fun c5 => ?_)
          · have h := it c5 h
            exact b_X3_has_b82 E hr hlk h (lv_sub hl [] rfl)
          · have h := ie c5 h
            refine lv_lload_n hx hb (dq da_X3_has 20 rfl) rfl (lv_at hl 0 rfl) ?_
            refine lv_ldc2 hx hb hown (hts _ w_892) (dq da_X3_has 21 rfl) ?_
            refine lc_eq (tgt := 82) hx hb (dq da_X3_has 22 rfl) (dq da_X3_has 23 rfl) (by decide) (fun c6 => ?_) (fun c6 => ?_)
            · have h := it c6 h
              exact b_X3_has_b82 E hr hlk h (lv_sub hl [] rfl)
            · have h := ie c6 h
              refine lv_lload_n hx hb (dq da_X3_has 24 rfl) rfl (lv_at hl 0 rfl) ?_
              refine lv_ldc2 hx hb hown (hts _ w_893) (dq da_X3_has 25 rfl) ?_
              refine lc_eq (tgt := 82) hx hb (dq da_X3_has 26 rfl) (dq da_X3_has 27 rfl) (by decide) (fun c7 => ?_) (fun c7 => ?_)
              · have h := it c7 h
                exact b_X3_has_b82 E hr hlk h (lv_sub hl [] rfl)
              · have h := ie c7 h
                refine lv_lload_n hx hb (dq da_X3_has 28 rfl) rfl (lv_at hl 0 rfl) ?_
                refine lv_ldc2 hx hb hown (hts _ w_894) (dq da_X3_has 29 rfl) ?_
                refine lc_lt (tgt := 86) hx hb (dq da_X3_has 30 rfl) (dq da_X3_has 31 rfl) (by decide) (fun c8 => ?_) (fun c8 => ?_)
                · have h := it c8 h
                  exact b_X3_has_b86 E hr hlk h (lv_sub hl [] rfl)
                · have h := ie c8 h
                  refine lv_lload_n hx hb (dq da_X3_has 32 rfl) rfl (lv_at hl 0 rfl) ?_
                  refine lv_ldc2 hx hb hown (hts _ w_895) (dq da_X3_has 33 rfl) ?_
                  refine lc_gt (tgt := 86) hx hb (dq da_X3_has 34 rfl) (dq da_X3_has 35 rfl) (by decide) (fun c9 => ?_) (fun c9 => ?_)
                  · have h := it c9 h
                    exact b_X3_has_b86 E hr hlk h (lv_sub hl [] rfl)
                  · have h := ie c9 h
                    refine lv_lload_n hx hb (dq da_X3_has 36 rfl) rfl (lv_at hl 0 rfl) ?_
                    refine lv_ldc2 hx hb hown (hts _ w_896) (dq da_X3_has 37 rfl) ?_
                    refine lv_land hx hb (dq da_X3_has 38 rfl) ?_
                    refine lv_lconst (v := 0) hx hb (dq da_X3_has 39 rfl) rfl ?_
                    refine lc_ne (tgt := 86) hx hb (dq da_X3_has 40 rfl) (dq da_X3_has 41 rfl) (by decide) (fun c10 => ?_) (fun c10 => ?_)
                    · have h := ie c10 h
                      exact b_X3_has_b86 E hr hlk h (lv_sub hl [] rfl)
                    · have h := it c10 h
                      exact b_X3_has_b82 E hr hlk h (lv_sub hl [] rfl)
def dl_X1_part : List (Nat × Instr × Nat) := [(0, .iload 4, 2), (2, .bipush 8, 2), (4, .if_icmp .ne 7, 3), (7, .lload_n 0, 1), (8, .goto 16, 3), (11, .lload_n 0, 1), (12, .bipush 8, 2), (14, .lload_n 2, 1), (15, .l2i, 1), (16, .iconst 4, 1), (17, .iand, 1), (18, .imul, 1), (19, .lushr, 1), (20, .ldc2_w 101, 3), (23, .land, 1), (24, .lreturn, 1)]
theorem da_X1_part : dkL cX1_part dl_X1_part = true := by decide +kernel
def f_X1_part (x0 : Int64) (x2 : Int64) (x4 : Int32) : Int64 := if x4 = (8 : Int32) then x0 else ((j_lushr x0 ((8 : Int32) * (x2.toInt32 &&& (4 : Int32)))) &&& (4294967295 : Int64))
set_option maxRecDepth 100000 in
set_option maxHeartbeats 4000000 in
theorem c_X1_part (l : Launch) (x0 : Int64) (x2 : Int64) (x4 : Int32) : MP l yX1_part cX1_part 5 (some .long) 0 0 [.long x0, .long x2, .int x4] (.long (f_X1_part x0 x2 x4)) := by
  refine entP (by decide +kernel) (Nat.le_of_ble_eq_true rfl) ?_
  intro p e s m args below meth c ls E hr hlk hl
  have hl : lv_has ls 5 [(0, .long x0), (2, .long x2), (4, .int x4)] := hl
  generalize h : f_X1_part x0 x2 x4 = r
  have hx := E.1
  have hb := E.2.1
  have hown := E.2.2.2.1
  have hts := E.2.2.2.2
  refine lv_iload hx hb (dq da_X1_part 0 rfl) (lv_at hl 2 rfl) ?_
  refine lv_bipush (v := 8) hx hb (dq da_X1_part 1 rfl) rfl ?_
  refine lv_icmp_ne (tgt := 11) hx hb (dq da_X1_part 2 rfl) (by decide) (fun c1 => ?_) (fun c1 => ?_)
  · have h := ie c1 h
    refine lv_lload_n hx hb (dq da_X1_part 5 rfl) rfl (lv_at hl 0 rfl) ?_
    refine lv_bipush (v := 8) hx hb (dq da_X1_part 6 rfl) rfl ?_
    refine lv_lload_n hx hb (dq da_X1_part 7 rfl) rfl (lv_at hl 1 rfl) ?_
    refine lv_l2i (v := x2.toInt32) hx hb (dq da_X1_part 8 rfl) rfl ?_
    refine lv_iconst (v := 4) hx hb (dq da_X1_part 9 rfl) rfl ?_
    refine lv_iand hx hb (dq da_X1_part 10 rfl) ?_
    refine lv_imul hx hb (dq da_X1_part 11 rfl) ?_
    refine lv_lushr (v := (j_lushr x0 ((8 : Int32) * (x2.toInt32 &&& (4 : Int32))))) hx hb (dq da_X1_part 12 rfl) rfl ?_
    refine lv_ldc2 hx hb hown (hts _ w_910) (dq da_X1_part 13 rfl) ?_
    refine lv_land hx hb (dq da_X1_part 14 rfl) ?_
    exact pret_l E hr hlk h (dq da_X1_part 15 rfl)
  · have h := it c1 h
    refine lv_lload_n hx hb (dq da_X1_part 3 rfl) rfl (lv_at hl 0 rfl) ?_
    refine lv_goto (tgt := 24) hx hb (dq da_X1_part 4 rfl) (by decide) ?_
    exact pret_l E hr hlk h (dq da_X1_part 15 rfl)
def dl_X0_signed : List (Nat × Instr × Nat) := [(0, .bipush 64, 2), (2, .bipush 8, 2), (4, .iload_n 2, 1), (5, .imul, 1), (6, .isub, 1), (7, .istore_n 3, 1), (8, .lload_n 0, 1), (9, .iload_n 3, 1), (10, .lshl, 1), (11, .iload_n 3, 1), (12, .lshr, 1), (13, .lreturn, 1)]
theorem da_X0_signed : dkL cX0_signed dl_X0_signed = true := by decide +kernel
def f_X0_signed (x0 : Int64) (x2 : Int32) : Int64 := (j_lshr (j_lshl x0 ((64 : Int32) - ((8 : Int32) * x2))) ((64 : Int32) - ((8 : Int32) * x2)))
set_option maxRecDepth 100000 in
set_option maxHeartbeats 4000000 in
theorem c_X0_signed (l : Launch) (x0 : Int64) (x2 : Int32) : MP l yX0_signed cX0_signed 4 (some .long) 0 0 [.long x0, .int x2] (.long (f_X0_signed x0 x2)) := by
  refine entP (by decide +kernel) (Nat.le_of_ble_eq_true rfl) ?_
  intro p e s m args below meth c ls E hr hlk hl
  have hl : lv_has ls 4 [(0, .long x0), (2, .int x2)] := hl
  generalize h : f_X0_signed x0 x2 = r
  have hx := E.1
  have hb := E.2.1
  have hown := E.2.2.2.1
  have hts := E.2.2.2.2
  refine lv_bipush (v := 64) hx hb (dq da_X0_signed 0 rfl) rfl ?_
  refine lv_bipush (v := 8) hx hb (dq da_X0_signed 1 rfl) rfl ?_
  refine lv_iload_n hx hb (dq da_X0_signed 2 rfl) rfl (lv_at hl 1 rfl) ?_
  refine lv_imul hx hb (dq da_X0_signed 3 rfl) ?_
  refine lv_isub hx hb (dq da_X0_signed 4 rfl) ?_
  refine lv_istore_n (lv' := [(3, .int ((64 : Int32) - ((8 : Int32) * x2))), (0, .long x0), (2, .int x2)]) hx hb (dq da_X0_signed 5 rfl) rfl hl (by decide) rfl (fun ls hl => ?_)
  refine lv_lload_n hx hb (dq da_X0_signed 6 rfl) rfl (lv_at hl 1 rfl) ?_
  refine lv_iload_n hx hb (dq da_X0_signed 7 rfl) rfl (lv_at hl 0 rfl) ?_
  refine lv_lshl (v := (j_lshl x0 ((64 : Int32) - ((8 : Int32) * x2)))) hx hb (dq da_X0_signed 8 rfl) rfl ?_
  refine lv_iload_n hx hb (dq da_X0_signed 9 rfl) rfl (lv_at hl 0 rfl) ?_
  refine lv_lshr (v := (j_lshr (j_lshl x0 ((64 : Int32) - ((8 : Int32) * x2))) ((64 : Int32) - ((8 : Int32) * x2)))) hx hb (dq da_X0_signed 10 rfl) rfl ?_
  exact pret_l E hr hlk h (dq da_X0_signed 11 rfl)
def dl_X1_withPart : List (Nat × Instr × Nat) := [(0, .iload 4, 2), (2, .bipush 8, 2), (4, .if_icmp .ne 6, 3), (7, .lload 5, 2), (9, .lreturn, 1), (10, .bipush 8, 2), (12, .lload_n 2, 1), (13, .l2i, 1), (14, .iconst 4, 1), (15, .iand, 1), (16, .imul, 1), (17, .istore 7, 2), (19, .ldc2_w 101, 3), (22, .iload 7, 2), (24, .lshl, 1), (25, .lstore 8, 2), (27, .lload_n 0, 1), (28, .lload 8, 2), (30, .ldc2_w 25, 3), (33, .lxor, 1), (34, .land, 1), (35, .lload 5, 2), (37, .iload 7, 2), (39, .lshl, 1), (40, .lload 8, 2), (42, .land, 1), (43, .lor, 1), (44, .lreturn, 1)]
theorem da_X1_withPart : dkL cX1_withPart dl_X1_withPart = true := by decide +kernel
def f_X1_withPart (x0 : Int64) (x2 : Int64) (x4 : Int32) (x5 : Int64) : Int64 := if x4 = (8 : Int32) then x5 else ((x0 &&& ((j_lshl (4294967295 : Int64) ((8 : Int32) * (x2.toInt32 &&& (4 : Int32)))) ^^^ (-1 : Int64))) ||| ((j_lshl x5 ((8 : Int32) * (x2.toInt32 &&& (4 : Int32)))) &&& (j_lshl (4294967295 : Int64) ((8 : Int32) * (x2.toInt32 &&& (4 : Int32))))))
set_option maxRecDepth 100000 in
set_option maxHeartbeats 4000000 in
theorem c_X1_withPart (l : Launch) (x0 : Int64) (x2 : Int64) (x4 : Int32) (x5 : Int64) : MP l yX1_withPart cX1_withPart 10 (some .long) 0 0 [.long x0, .long x2, .int x4, .long x5] (.long (f_X1_withPart x0 x2 x4 x5)) := by
  refine entP (by decide +kernel) (Nat.le_of_ble_eq_true rfl) ?_
  intro p e s m args below meth c ls E hr hlk hl
  have hl : lv_has ls 10 [(0, .long x0), (2, .long x2), (4, .int x4), (5, .long x5)] := hl
  generalize h : f_X1_withPart x0 x2 x4 x5 = r
  have hx := E.1
  have hb := E.2.1
  have hown := E.2.2.2.1
  have hts := E.2.2.2.2
  refine lv_iload hx hb (dq da_X1_withPart 0 rfl) (lv_at hl 2 rfl) ?_
  refine lv_bipush (v := 8) hx hb (dq da_X1_withPart 1 rfl) rfl ?_
  refine lv_icmp_ne (tgt := 10) hx hb (dq da_X1_withPart 2 rfl) (by decide) (fun c1 => ?_) (fun c1 => ?_)
  · have h := ie c1 h
    refine lv_bipush (v := 8) hx hb (dq da_X1_withPart 5 rfl) rfl ?_
    refine lv_lload_n hx hb (dq da_X1_withPart 6 rfl) rfl (lv_at hl 1 rfl) ?_
    refine lv_l2i (v := x2.toInt32) hx hb (dq da_X1_withPart 7 rfl) rfl ?_
    refine lv_iconst (v := 4) hx hb (dq da_X1_withPart 8 rfl) rfl ?_
    refine lv_iand hx hb (dq da_X1_withPart 9 rfl) ?_
    refine lv_imul hx hb (dq da_X1_withPart 10 rfl) ?_
    refine lv_istore (lv' := [(7, .int ((8 : Int32) * (x2.toInt32 &&& (4 : Int32)))), (0, .long x0), (2, .long x2), (4, .int x4), (5, .long x5)]) hx hb (dq da_X1_withPart 11 rfl) hl (by decide) rfl (fun ls hl => ?_)
    refine lv_ldc2 hx hb hown (hts _ w_910) (dq da_X1_withPart 12 rfl) ?_
    refine lv_iload hx hb (dq da_X1_withPart 13 rfl) (lv_at hl 0 rfl) ?_
    refine lv_lshl (v := (j_lshl (4294967295 : Int64) ((8 : Int32) * (x2.toInt32 &&& (4 : Int32))))) hx hb (dq da_X1_withPart 14 rfl) rfl ?_
    refine lv_lstore (lv' := [(8, .long (j_lshl (4294967295 : Int64) ((8 : Int32) * (x2.toInt32 &&& (4 : Int32))))), (7, .int ((8 : Int32) * (x2.toInt32 &&& (4 : Int32)))), (0, .long x0), (2, .long x2), (4, .int x4), (5, .long x5)]) hx hb (dq da_X1_withPart 15 rfl) hl (by decide) rfl (fun ls hl => ?_)
    refine lv_lload_n hx hb (dq da_X1_withPart 16 rfl) rfl (lv_at hl 2 rfl) ?_
    refine lv_lload hx hb (dq da_X1_withPart 17 rfl) (lv_at hl 0 rfl) ?_
    refine lv_ldc2 hx hb hown (hts _ w_119) (dq da_X1_withPart 18 rfl) ?_
    refine lv_lxor hx hb (dq da_X1_withPart 19 rfl) ?_
    refine lv_land hx hb (dq da_X1_withPart 20 rfl) ?_
    refine lv_lload hx hb (dq da_X1_withPart 21 rfl) (lv_at hl 5 rfl) ?_
    refine lv_iload hx hb (dq da_X1_withPart 22 rfl) (lv_at hl 1 rfl) ?_
    refine lv_lshl (v := (j_lshl x5 ((8 : Int32) * (x2.toInt32 &&& (4 : Int32))))) hx hb (dq da_X1_withPart 23 rfl) rfl ?_
    refine lv_lload hx hb (dq da_X1_withPart 24 rfl) (lv_at hl 0 rfl) ?_
    refine lv_land hx hb (dq da_X1_withPart 25 rfl) ?_
    refine lv_lor hx hb (dq da_X1_withPart 26 rfl) ?_
    exact pret_l E hr hlk h (dq da_X1_withPart 27 rfl)
  · have h := it c1 h
    refine lv_lload hx hb (dq da_X1_withPart 3 rfl) (lv_at hl 3 rfl) ?_
    exact pret_l E hr hlk h (dq da_X1_withPart 4 rfl)
def dl_X0_plain : List (Nat × Instr × Nat) := [(0, .iload_n 0, 1), (1, .tableswitch 126 0 6 #[43, 58, 67, 79, 93, 97, 122], 43), (44, .iload 5, 2), (46, .ifCond .eq 9, 3), (49, .lload_n 1, 1), (50, .lload_n 3, 1), (51, .lsub, 1), (52, .goto 6, 3), (55, .lload_n 1, 1), (56, .lload_n 3, 1), (57, .ladd, 1), (58, .lreturn, 1), (59, .lload_n 1, 1), (60, .lload_n 3, 1), (61, .ldc2_w 11, 3), (64, .land, 1), (65, .l2i, 1), (66, .lshl, 1), (67, .lreturn, 1), (68, .lload_n 1, 1), (69, .lload_n 3, 1), (70, .lcmp, 1), (71, .ifCond .ge 7, 3), (74, .lconst 1, 1), (75, .goto 4, 3), (78, .lconst 0, 1), (79, .lreturn, 1), (80, .lload_n 1, 1), (81, .lload_n 3, 1), (82, .invokestatic 13, 3), (85, .ifCond .eq 7, 3), (88, .lconst 1, 1), (89, .goto 4, 3), (92, .lconst 0, 1), (93, .lreturn, 1), (94, .lload_n 1, 1), (95, .lload_n 3, 1), (96, .lxor, 1), (97, .lreturn, 1), (98, .iload 5, 2), (100, .ifCond .eq 14, 3), (103, .lload_n 1, 1), (104, .lload_n 3, 1), (105, .ldc2_w 11, 3), (108, .land, 1), (109, .l2i, 1), (110, .lshr, 1), (111, .goto 11, 3), (114, .lload_n 1, 1), (115, .lload_n 3, 1), (116, .ldc2_w 11, 3), (119, .land, 1), (120, .l2i, 1), (121, .lushr, 1), (122, .lreturn, 1), (123, .lload_n 1, 1), (124, .lload_n 3, 1), (125, .lor, 1), (126, .lreturn, 1), (127, .lload_n 1, 1), (128, .lload_n 3, 1), (129, .land, 1), (130, .lreturn, 1)]
theorem da_X0_plain : dkL cX0_plain dl_X0_plain = true := by decide +kernel
def f_X0_plain (x0 : Int32) (x1 : Int64) (x3 : Int64) (x5 : Int32) : Int64 := if x0 = (0 : Int32) then (if x5 = (0 : Int32) then (x1 + x3) else (x1 - x3)) else if x0 = (1 : Int32) then (j_lshl x1 ((x3 &&& (63 : Int64)).toInt32)) else if x0 = (2 : Int32) then (if x3 ≤ x1 then (0 : Int64) else (1 : Int64)) else if x0 = (3 : Int32) then (if (f_X0_below x1 x3) = (0 : Int32) then (0 : Int64) else (1 : Int64)) else if x0 = (4 : Int32) then (x1 ^^^ x3) else if x0 = (5 : Int32) then (if x5 = (0 : Int32) then (j_lushr x1 ((x3 &&& (63 : Int64)).toInt32)) else (j_lshr x1 ((x3 &&& (63 : Int64)).toInt32))) else if x0 = (6 : Int32) then (x1 ||| x3) else (x1 &&& x3)
set_option maxRecDepth 100000 in
set_option maxHeartbeats 4000000 in
theorem c_X0_plain (l : Launch) (x0 : Int32) (x1 : Int64) (x3 : Int64) (x5 : Int32) : MP l yX0_plain cX0_plain 6 (some .long) 1 23 [.int x0, .long x1, .long x3, .int x5] (.long (f_X0_plain x0 x1 x3 x5)) := by
  refine entP (by decide +kernel) (Nat.le_of_ble_eq_true rfl) ?_
  intro p e s m args below meth c ls E hr hlk hl
  have hl : lv_has ls 6 [(0, .int x0), (1, .long x1), (3, .long x3), (5, .int x5)] := hl
  generalize h : f_X0_plain x0 x1 x3 x5 = r
  have hx := E.1
  have hb := E.2.1
  have hown := E.2.2.2.1
  have hts := E.2.2.2.2
  refine lv_iload_n hx hb (dq da_X0_plain 0 rfl) rfl (lv_at hl 0 rfl) ?_
  by_cases c1 : x0 = (0 : Int32)
  · have h := it c1 h
    refine lv_tableIn (off := 43) (tgt := 44) hx hb (dq da_X0_plain 1 rfl) (by rw [c1]; decide +kernel) (by rw [c1]; decide +kernel) (by rw [c1]; decide +kernel) (by decide) ?_
    refine lv_iload hx hb (dq da_X0_plain 2 rfl) (lv_at hl 3 rfl) ?_
    refine lv_if_eq (tgt := 55) hx hb (dq da_X0_plain 3 rfl) (by decide) (fun c2 => ?_) (fun c2 => ?_)
    · have h := it c2 h
      refine lv_lload_n hx hb (dq da_X0_plain 8 rfl) rfl (lv_at hl 1 rfl) ?_
      refine lv_lload_n hx hb (dq da_X0_plain 9 rfl) rfl (lv_at hl 2 rfl) ?_
      refine lv_ladd hx hb (dq da_X0_plain 10 rfl) ?_
      exact pret_l E hr hlk h (dq da_X0_plain 11 rfl)
    · have h := ie c2 h
      refine lv_lload_n hx hb (dq da_X0_plain 4 rfl) rfl (lv_at hl 1 rfl) ?_
      refine lv_lload_n hx hb (dq da_X0_plain 5 rfl) rfl (lv_at hl 2 rfl) ?_
      refine lv_lsub hx hb (dq da_X0_plain 6 rfl) ?_
      refine lv_goto (tgt := 58) hx hb (dq da_X0_plain 7 rfl) (by decide) ?_
      exact pret_l E hr hlk h (dq da_X0_plain 11 rfl)
  · have h := ie c1 h
    by_cases c3 : x0 = (1 : Int32)
    · have h := it c3 h
      refine lv_tableIn (off := 58) (tgt := 59) hx hb (dq da_X0_plain 1 rfl) (by rw [c3]; decide +kernel) (by rw [c3]; decide +kernel) (by rw [c3]; decide +kernel) (by decide) ?_
      refine lv_lload_n hx hb (dq da_X0_plain 12 rfl) rfl (lv_at hl 1 rfl) ?_
      refine lv_lload_n hx hb (dq da_X0_plain 13 rfl) rfl (lv_at hl 2 rfl) ?_
      refine lv_ldc2 hx hb hown (hts _ w_948) (dq da_X0_plain 14 rfl) ?_
      refine lv_land hx hb (dq da_X0_plain 15 rfl) ?_
      refine lv_l2i (v := (x3 &&& (63 : Int64)).toInt32) hx hb (dq da_X0_plain 16 rfl) rfl ?_
      refine lv_lshl (v := (j_lshl x1 ((x3 &&& (63 : Int64)).toInt32))) hx hb (dq da_X0_plain 17 rfl) rfl ?_
      exact pret_l E hr hlk h (dq da_X0_plain 18 rfl)
    · have h := ie c3 h
      by_cases c4 : x0 = (2 : Int32)
      · have h := it c4 h
        refine lv_tableIn (off := 67) (tgt := 68) hx hb (dq da_X0_plain 1 rfl) (by rw [c4]; decide +kernel) (by rw [c4]; decide +kernel) (by rw [c4]; decide +kernel) (by decide) ?_
        refine lv_lload_n hx hb (dq da_X0_plain 19 rfl) rfl (lv_at hl 1 rfl) ?_
        refine lv_lload_n hx hb (dq da_X0_plain 20 rfl) rfl (lv_at hl 2 rfl) ?_
        refine lc_ge (tgt := 78) hx hb (dq da_X0_plain 21 rfl) (dq da_X0_plain 22 rfl) (by decide) (fun c5 => ?_) (fun c5 => ?_)
        · have h := it c5 h
          refine lv_lconst (v := 0) hx hb (dq da_X0_plain 25 rfl) rfl ?_
          exact pret_l E hr hlk h (dq da_X0_plain 26 rfl)
        · have h := ie c5 h
          refine lv_lconst (v := 1) hx hb (dq da_X0_plain 23 rfl) rfl ?_
          refine lv_goto (tgt := 79) hx hb (dq da_X0_plain 24 rfl) (by decide) ?_
          exact pret_l E hr hlk h (dq da_X0_plain 26 rfl)
      · have h := ie c4 h
        by_cases c6 : x0 = (3 : Int32)
        · have h := it c6 h
          refine lv_tableIn (off := 79) (tgt := 80) hx hb (dq da_X0_plain 1 rfl) (by rw [c6]; decide +kernel) (by rw [c6]; decide +kernel) (by rw [c6]; decide +kernel) (by decide) ?_
          refine lv_lload_n hx hb (dq da_X0_plain 27 rfl) rfl (lv_at hl 1 rfl) ?_
          refine lv_lload_n hx hb (dq da_X0_plain 28 rfl) rfl (lv_at hl 2 rfl) ?_
          refine callP E (c_X0_below l _ _ ) w_949 w_574 w_17 w_575 hd_X0_below rfl hl.1 rfl (Nat.le_of_ble_eq_true rfl) ⟨Nat.le_of_ble_eq_true rfl, Nat.le_of_ble_eq_true rfl⟩ (by decide) (dq da_X0_plain 29 rfl) ?_
          refine lv_if_eq (tgt := 92) hx hb (dq da_X0_plain 30 rfl) (by decide) (fun c7 => ?_) (fun c7 => ?_)
          · have h := it c7 h
            refine lv_lconst (v := 0) hx hb (dq da_X0_plain 33 rfl) rfl ?_
            exact pret_l E hr hlk h (dq da_X0_plain 34 rfl)
          · have h := ie c7 h
            refine lv_lconst (v := 1) hx hb (dq da_X0_plain 31 rfl) rfl ?_
            refine lv_goto (tgt := 93) hx hb (dq da_X0_plain 32 rfl) (by decide) ?_
            exact pret_l E hr hlk h (dq da_X0_plain 34 rfl)
        · have h := ie c6 h
          by_cases c8 : x0 = (4 : Int32)
          · have h := it c8 h
            refine lv_tableIn (off := 93) (tgt := 94) hx hb (dq da_X0_plain 1 rfl) (by rw [c8]; decide +kernel) (by rw [c8]; decide +kernel) (by rw [c8]; decide +kernel) (by decide) ?_
            refine lv_lload_n hx hb (dq da_X0_plain 35 rfl) rfl (lv_at hl 1 rfl) ?_
            refine lv_lload_n hx hb (dq da_X0_plain 36 rfl) rfl (lv_at hl 2 rfl) ?_
            refine lv_lxor hx hb (dq da_X0_plain 37 rfl) ?_
            exact pret_l E hr hlk h (dq da_X0_plain 38 rfl)
          · have h := ie c8 h
            by_cases c9 : x0 = (5 : Int32)
            · have h := it c9 h
              refine lv_tableIn (off := 97) (tgt := 98) hx hb (dq da_X0_plain 1 rfl) (by rw [c9]; decide +kernel) (by rw [c9]; decide +kernel) (by rw [c9]; decide +kernel) (by decide) ?_
              refine lv_iload hx hb (dq da_X0_plain 39 rfl) (lv_at hl 3 rfl) ?_
              refine lv_if_eq (tgt := 114) hx hb (dq da_X0_plain 40 rfl) (by decide) (fun c10 => ?_) (fun c10 => ?_)
              · have h := it c10 h
                refine lv_lload_n hx hb (dq da_X0_plain 48 rfl) rfl (lv_at hl 1 rfl) ?_
                refine lv_lload_n hx hb (dq da_X0_plain 49 rfl) rfl (lv_at hl 2 rfl) ?_
                refine lv_ldc2 hx hb hown (hts _ w_948) (dq da_X0_plain 50 rfl) ?_
                refine lv_land hx hb (dq da_X0_plain 51 rfl) ?_
                refine lv_l2i (v := (x3 &&& (63 : Int64)).toInt32) hx hb (dq da_X0_plain 52 rfl) rfl ?_
                refine lv_lushr (v := (j_lushr x1 ((x3 &&& (63 : Int64)).toInt32))) hx hb (dq da_X0_plain 53 rfl) rfl ?_
                exact pret_l E hr hlk h (dq da_X0_plain 54 rfl)
              · have h := ie c10 h
                refine lv_lload_n hx hb (dq da_X0_plain 41 rfl) rfl (lv_at hl 1 rfl) ?_
                refine lv_lload_n hx hb (dq da_X0_plain 42 rfl) rfl (lv_at hl 2 rfl) ?_
                refine lv_ldc2 hx hb hown (hts _ w_948) (dq da_X0_plain 43 rfl) ?_
                refine lv_land hx hb (dq da_X0_plain 44 rfl) ?_
                refine lv_l2i (v := (x3 &&& (63 : Int64)).toInt32) hx hb (dq da_X0_plain 45 rfl) rfl ?_
                refine lv_lshr (v := (j_lshr x1 ((x3 &&& (63 : Int64)).toInt32))) hx hb (dq da_X0_plain 46 rfl) rfl ?_
                refine lv_goto (tgt := 122) hx hb (dq da_X0_plain 47 rfl) (by decide) ?_
                exact pret_l E hr hlk h (dq da_X0_plain 54 rfl)
            · have h := ie c9 h
              by_cases c11 : x0 = (6 : Int32)
              · have h := it c11 h
                refine lv_tableIn (off := 122) (tgt := 123) hx hb (dq da_X0_plain 1 rfl) (by rw [c11]; decide +kernel) (by rw [c11]; decide +kernel) (by rw [c11]; decide +kernel) (by decide) ?_
                refine lv_lload_n hx hb (dq da_X0_plain 55 rfl) rfl (lv_at hl 1 rfl) ?_
                refine lv_lload_n hx hb (dq da_X0_plain 56 rfl) rfl (lv_at hl 2 rfl) ?_
                refine lv_lor hx hb (dq da_X0_plain 57 rfl) ?_
                exact pret_l E hr hlk h (dq da_X0_plain 58 rfl)
              · have h := ie c11 h
                refine lv_tableOut (tgt := 127) hx hb (dq da_X0_plain 1 rfl) (by have := lv_neT (k := (0 : Int32)) (a := 0) c1 rfl; have := lv_neT (k := (1 : Int32)) (a := 1) c3 rfl; have := lv_neT (k := (2 : Int32)) (a := 2) c4 rfl; have := lv_neT (k := (3 : Int32)) (a := 3) c6 rfl; have := lv_neT (k := (4 : Int32)) (a := 4) c8 rfl; have := lv_neT (k := (5 : Int32)) (a := 5) c9 rfl; have := lv_neT (k := (6 : Int32)) (a := 6) c11 rfl; omega) (by decide) ?_
                refine lv_lload_n hx hb (dq da_X0_plain 59 rfl) rfl (lv_at hl 1 rfl) ?_
                refine lv_lload_n hx hb (dq da_X0_plain 60 rfl) rfl (lv_at hl 2 rfl) ?_
                refine lv_land hx hb (dq da_X0_plain 61 rfl) ?_
                exact pret_l E hr hlk h (dq da_X0_plain 62 rfl)
def dl_X0_narrow : List (Nat × Instr × Nat) := [(0, .iload_n 0, 1), (1, .lookupswitch 51 #[(0, 27), (1, 43)], 27), (28, .iload_n 3, 1), (29, .ifCond .eq 10, 3), (32, .iload_n 1, 1), (33, .iload_n 2, 1), (34, .isub, 1), (35, .i2l, 1), (36, .goto 7, 3), (39, .iload_n 1, 1), (40, .iload_n 2, 1), (41, .iadd, 1), (42, .i2l, 1), (43, .lreturn, 1), (44, .iload_n 1, 1), (45, .iload_n 2, 1), (46, .bipush 31, 2), (48, .iand, 1), (49, .ishl, 1), (50, .i2l, 1), (51, .lreturn, 1), (52, .iload_n 3, 1), (53, .ifCond .eq 13, 3), (56, .iload_n 1, 1), (57, .iload_n 2, 1), (58, .bipush 31, 2), (60, .iand, 1), (61, .ishr, 1), (62, .i2l, 1), (63, .goto 10, 3), (66, .iload_n 1, 1), (67, .iload_n 2, 1), (68, .bipush 31, 2), (70, .iand, 1), (71, .iushr, 1), (72, .i2l, 1), (73, .lreturn, 1)]
theorem da_X0_narrow : dkL cX0_narrow dl_X0_narrow = true := by decide +kernel
def f_X0_narrow (x0 : Int32) (x1 : Int32) (x2 : Int32) (x3 : Int32) : Int64 := if x0 = (0 : Int32) then (if x3 = (0 : Int32) then ((x1 + x2).toInt64) else ((x1 - x2).toInt64)) else if x0 = (1 : Int32) then ((x1 <<< ((x2 &&& (31 : Int32)) &&& 31)).toInt64) else (if x3 = (0 : Int32) then ((j_iushr x1 (x2 &&& (31 : Int32))).toInt64) else ((x1 >>> ((x2 &&& (31 : Int32)) &&& 31)).toInt64))
set_option maxRecDepth 100000 in
set_option maxHeartbeats 4000000 in
theorem c_X0_narrow (l : Launch) (x0 : Int32) (x1 : Int32) (x2 : Int32) (x3 : Int32) : MP l yX0_narrow cX0_narrow 4 (some .long) 0 0 [.int x0, .int x1, .int x2, .int x3] (.long (f_X0_narrow x0 x1 x2 x3)) := by
  refine entP (by decide +kernel) (Nat.le_of_ble_eq_true rfl) ?_
  intro p e s m args below meth c ls E hr hlk hl
  have hl : lv_has ls 4 [(0, .int x0), (1, .int x1), (2, .int x2), (3, .int x3)] := hl
  generalize h : f_X0_narrow x0 x1 x2 x3 = r
  have hx := E.1
  have hb := E.2.1
  have hown := E.2.2.2.1
  have hts := E.2.2.2.2
  refine lv_iload_n hx hb (dq da_X0_narrow 0 rfl) rfl (lv_at hl 0 rfl) ?_
  by_cases c1 : x0 = (0 : Int32)
  · have h := it c1 h
    refine lv_lookup (off := 27) (tgt := 28) hx hb (dq da_X0_narrow 1 rfl) (by decide +kernel) (by rw [c1]; decide +kernel) (by decide) ?_
    refine lv_iload_n hx hb (dq da_X0_narrow 2 rfl) rfl (lv_at hl 3 rfl) ?_
    refine lv_if_eq (tgt := 39) hx hb (dq da_X0_narrow 3 rfl) (by decide) (fun c2 => ?_) (fun c2 => ?_)
    · have h := it c2 h
      refine lv_iload_n hx hb (dq da_X0_narrow 9 rfl) rfl (lv_at hl 1 rfl) ?_
      refine lv_iload_n hx hb (dq da_X0_narrow 10 rfl) rfl (lv_at hl 2 rfl) ?_
      refine lv_iadd hx hb (dq da_X0_narrow 11 rfl) ?_
      refine lv_i2l (v := (x1 + x2).toInt64) hx hb (dq da_X0_narrow 12 rfl) rfl ?_
      exact pret_l E hr hlk h (dq da_X0_narrow 13 rfl)
    · have h := ie c2 h
      refine lv_iload_n hx hb (dq da_X0_narrow 4 rfl) rfl (lv_at hl 1 rfl) ?_
      refine lv_iload_n hx hb (dq da_X0_narrow 5 rfl) rfl (lv_at hl 2 rfl) ?_
      refine lv_isub hx hb (dq da_X0_narrow 6 rfl) ?_
      refine lv_i2l (v := (x1 - x2).toInt64) hx hb (dq da_X0_narrow 7 rfl) rfl ?_
      refine lv_goto (tgt := 43) hx hb (dq da_X0_narrow 8 rfl) (by decide) ?_
      exact pret_l E hr hlk h (dq da_X0_narrow 13 rfl)
  · have h := ie c1 h
    by_cases c3 : x0 = (1 : Int32)
    · have h := it c3 h
      refine lv_lookup (off := 43) (tgt := 44) hx hb (dq da_X0_narrow 1 rfl) (by decide +kernel) (by rw [c3]; decide +kernel) (by decide) ?_
      refine lv_iload_n hx hb (dq da_X0_narrow 14 rfl) rfl (lv_at hl 1 rfl) ?_
      refine lv_iload_n hx hb (dq da_X0_narrow 15 rfl) rfl (lv_at hl 2 rfl) ?_
      refine lv_bipush (v := 31) hx hb (dq da_X0_narrow 16 rfl) rfl ?_
      refine lv_iand hx hb (dq da_X0_narrow 17 rfl) ?_
      refine lv_ishl hx hb (dq da_X0_narrow 18 rfl) ?_
      refine lv_i2l (v := (x1 <<< ((x2 &&& (31 : Int32)) &&& 31)).toInt64) hx hb (dq da_X0_narrow 19 rfl) rfl ?_
      exact pret_l E hr hlk h (dq da_X0_narrow 20 rfl)
    · have h := ie c3 h
      refine lv_lookup (off := 51) (tgt := 52) hx hb (dq da_X0_narrow 1 rfl) (by decide +kernel) (by show Op.lookupswitch.offset [(0, 27), (1, 43)] (51) _ = _; rw [lv_osw (k := (0 : Int32)) (a := 0) c1 rfl, lv_osw (k := (1 : Int32)) (a := 1) c3 rfl]; rfl) (by decide) ?_
      refine lv_iload_n hx hb (dq da_X0_narrow 21 rfl) rfl (lv_at hl 3 rfl) ?_
      refine lv_if_eq (tgt := 66) hx hb (dq da_X0_narrow 22 rfl) (by decide) (fun c4 => ?_) (fun c4 => ?_)
      · have h := it c4 h
        refine lv_iload_n hx hb (dq da_X0_narrow 30 rfl) rfl (lv_at hl 1 rfl) ?_
        refine lv_iload_n hx hb (dq da_X0_narrow 31 rfl) rfl (lv_at hl 2 rfl) ?_
        refine lv_bipush (v := 31) hx hb (dq da_X0_narrow 32 rfl) rfl ?_
        refine lv_iand hx hb (dq da_X0_narrow 33 rfl) ?_
        refine lv_iushr (v := (j_iushr x1 (x2 &&& (31 : Int32)))) hx hb (dq da_X0_narrow 34 rfl) rfl ?_
        refine lv_i2l (v := (j_iushr x1 (x2 &&& (31 : Int32))).toInt64) hx hb (dq da_X0_narrow 35 rfl) rfl ?_
        exact pret_l E hr hlk h (dq da_X0_narrow 36 rfl)
      · have h := ie c4 h
        refine lv_iload_n hx hb (dq da_X0_narrow 23 rfl) rfl (lv_at hl 1 rfl) ?_
        refine lv_iload_n hx hb (dq da_X0_narrow 24 rfl) rfl (lv_at hl 2 rfl) ?_
        refine lv_bipush (v := 31) hx hb (dq da_X0_narrow 25 rfl) rfl ?_
        refine lv_iand hx hb (dq da_X0_narrow 26 rfl) ?_
        refine lv_ishr hx hb (dq da_X0_narrow 27 rfl) ?_
        refine lv_i2l (v := (x1 >>> ((x2 &&& (31 : Int32)) &&& 31)).toInt64) hx hb (dq da_X0_narrow 28 rfl) rfl ?_
        refine lv_goto (tgt := 73) hx hb (dq da_X0_narrow 29 rfl) (by decide) ?_
        exact pret_l E hr hlk h (dq da_X0_narrow 36 rfl)
def dl_X0_upperUnsigned : List (Nat × Instr × Nat) := [(0, .lload_n 0, 1), (1, .ldc2_w 28, 3), (4, .land, 1), (5, .lstore 4, 2), (7, .lload_n 2, 1), (8, .ldc2_w 28, 3), (11, .land, 1), (12, .lstore 6, 2), (14, .lload_n 0, 1), (15, .bipush 32, 2), (17, .lushr, 1), (18, .lstore 8, 2), (20, .lload_n 2, 1), (21, .bipush 32, 2), (23, .lushr, 1), (24, .lstore 10, 2), (26, .lload 8, 2), (28, .lload 6, 2), (30, .lmul, 1), (31, .lstore 12, 2), (33, .lload 4, 2), (35, .lload 10, 2), (37, .lmul, 1), (38, .lstore 14, 2), (40, .lload 4, 2), (42, .lload 6, 2), (44, .lmul, 1), (45, .bipush 32, 2), (47, .lushr, 1), (48, .lload 12, 2), (50, .ldc2_w 28, 3), (53, .land, 1), (54, .ladd, 1), (55, .lload 14, 2), (57, .ldc2_w 28, 3), (60, .land, 1), (61, .ladd, 1), (62, .bipush 32, 2), (64, .lushr, 1), (65, .lstore 16, 2), (67, .lload 8, 2), (69, .lload 10, 2), (71, .lmul, 1), (72, .lload 12, 2), (74, .bipush 32, 2), (76, .lushr, 1), (77, .ladd, 1), (78, .lload 14, 2), (80, .bipush 32, 2), (82, .lushr, 1), (83, .ladd, 1), (84, .lload 16, 2), (86, .ladd, 1), (87, .lreturn, 1)]
theorem da_X0_upperUnsigned : dkL cX0_upperUnsigned dl_X0_upperUnsigned = true := by decide +kernel
def f_X0_upperUnsigned (x0 : Int64) (x2 : Int64) : Int64 := (((((j_lushr x0 (32 : Int32)) * (j_lushr x2 (32 : Int32))) + (j_lushr ((j_lushr x0 (32 : Int32)) * (x2 &&& (4294967295 : Int64))) (32 : Int32))) + (j_lushr ((x0 &&& (4294967295 : Int64)) * (j_lushr x2 (32 : Int32))) (32 : Int32))) + (j_lushr (((j_lushr ((x0 &&& (4294967295 : Int64)) * (x2 &&& (4294967295 : Int64))) (32 : Int32)) + (((j_lushr x0 (32 : Int32)) * (x2 &&& (4294967295 : Int64))) &&& (4294967295 : Int64))) + (((x0 &&& (4294967295 : Int64)) * (j_lushr x2 (32 : Int32))) &&& (4294967295 : Int64))) (32 : Int32)))
set_option maxRecDepth 100000 in
set_option maxHeartbeats 4000000 in
theorem c_X0_upperUnsigned (l : Launch) (x0 : Int64) (x2 : Int64) : MP l yX0_upperUnsigned cX0_upperUnsigned 18 (some .long) 0 0 [.long x0, .long x2] (.long (f_X0_upperUnsigned x0 x2)) := by
  refine entP (by decide +kernel) (Nat.le_of_ble_eq_true rfl) ?_
  intro p e s m args below meth c ls E hr hlk hl
  have hl : lv_has ls 18 [(0, .long x0), (2, .long x2)] := hl
  generalize h : f_X0_upperUnsigned x0 x2 = r
  have hx := E.1
  have hb := E.2.1
  have hown := E.2.2.2.1
  have hts := E.2.2.2.2
  refine lv_lload_n hx hb (dq da_X0_upperUnsigned 0 rfl) rfl (lv_at hl 0 rfl) ?_
  refine lv_ldc2 hx hb hown (hts _ w_967) (dq da_X0_upperUnsigned 1 rfl) ?_
  refine lv_land hx hb (dq da_X0_upperUnsigned 2 rfl) ?_
  refine lv_lstore (lv' := [(4, .long (x0 &&& (4294967295 : Int64))), (0, .long x0), (2, .long x2)]) hx hb (dq da_X0_upperUnsigned 3 rfl) hl (by decide) rfl (fun ls hl => ?_)
  refine lv_lload_n hx hb (dq da_X0_upperUnsigned 4 rfl) rfl (lv_at hl 2 rfl) ?_
  refine lv_ldc2 hx hb hown (hts _ w_967) (dq da_X0_upperUnsigned 5 rfl) ?_
  refine lv_land hx hb (dq da_X0_upperUnsigned 6 rfl) ?_
  refine lv_lstore (lv' := [(6, .long (x2 &&& (4294967295 : Int64))), (4, .long (x0 &&& (4294967295 : Int64))), (0, .long x0), (2, .long x2)]) hx hb (dq da_X0_upperUnsigned 7 rfl) hl (by decide) rfl (fun ls hl => ?_)
  refine lv_lload_n hx hb (dq da_X0_upperUnsigned 8 rfl) rfl (lv_at hl 2 rfl) ?_
  refine lv_bipush (v := 32) hx hb (dq da_X0_upperUnsigned 9 rfl) rfl ?_
  refine lv_lushr (v := (j_lushr x0 (32 : Int32))) hx hb (dq da_X0_upperUnsigned 10 rfl) rfl ?_
  refine lv_lstore (lv' := [(8, .long (j_lushr x0 (32 : Int32))), (6, .long (x2 &&& (4294967295 : Int64))), (4, .long (x0 &&& (4294967295 : Int64))), (0, .long x0), (2, .long x2)]) hx hb (dq da_X0_upperUnsigned 11 rfl) hl (by decide) rfl (fun ls hl => ?_)
  refine lv_lload_n hx hb (dq da_X0_upperUnsigned 12 rfl) rfl (lv_at hl 4 rfl) ?_
  refine lv_bipush (v := 32) hx hb (dq da_X0_upperUnsigned 13 rfl) rfl ?_
  refine lv_lushr (v := (j_lushr x2 (32 : Int32))) hx hb (dq da_X0_upperUnsigned 14 rfl) rfl ?_
  refine lv_lstore (lv' := [(10, .long (j_lushr x2 (32 : Int32))), (8, .long (j_lushr x0 (32 : Int32))), (6, .long (x2 &&& (4294967295 : Int64))), (4, .long (x0 &&& (4294967295 : Int64))), (0, .long x0), (2, .long x2)]) hx hb (dq da_X0_upperUnsigned 15 rfl) hl (by decide) rfl (fun ls hl => ?_)
  refine lv_lload hx hb (dq da_X0_upperUnsigned 16 rfl) (lv_at hl 1 rfl) ?_
  refine lv_lload hx hb (dq da_X0_upperUnsigned 17 rfl) (lv_at hl 2 rfl) ?_
  refine lv_lmul hx hb (dq da_X0_upperUnsigned 18 rfl) ?_
  refine lv_lstore (lv' := [(12, .long ((j_lushr x0 (32 : Int32)) * (x2 &&& (4294967295 : Int64)))), (10, .long (j_lushr x2 (32 : Int32))), (8, .long (j_lushr x0 (32 : Int32))), (6, .long (x2 &&& (4294967295 : Int64))), (4, .long (x0 &&& (4294967295 : Int64))), (0, .long x0), (2, .long x2)]) hx hb (dq da_X0_upperUnsigned 19 rfl) hl (by decide) rfl (fun ls hl => ?_)
  refine lv_lload hx hb (dq da_X0_upperUnsigned 20 rfl) (lv_at hl 4 rfl) ?_
  refine lv_lload hx hb (dq da_X0_upperUnsigned 21 rfl) (lv_at hl 1 rfl) ?_
  refine lv_lmul hx hb (dq da_X0_upperUnsigned 22 rfl) ?_
  refine lv_lstore (lv' := [(14, .long ((x0 &&& (4294967295 : Int64)) * (j_lushr x2 (32 : Int32)))), (12, .long ((j_lushr x0 (32 : Int32)) * (x2 &&& (4294967295 : Int64)))), (10, .long (j_lushr x2 (32 : Int32))), (8, .long (j_lushr x0 (32 : Int32))), (6, .long (x2 &&& (4294967295 : Int64))), (4, .long (x0 &&& (4294967295 : Int64))), (0, .long x0), (2, .long x2)]) hx hb (dq da_X0_upperUnsigned 23 rfl) hl (by decide) rfl (fun ls hl => ?_)
  refine lv_lload hx hb (dq da_X0_upperUnsigned 24 rfl) (lv_at hl 5 rfl) ?_
  refine lv_lload hx hb (dq da_X0_upperUnsigned 25 rfl) (lv_at hl 4 rfl) ?_
  refine lv_lmul hx hb (dq da_X0_upperUnsigned 26 rfl) ?_
  refine lv_bipush (v := 32) hx hb (dq da_X0_upperUnsigned 27 rfl) rfl ?_
  refine lv_lushr (v := (j_lushr ((x0 &&& (4294967295 : Int64)) * (x2 &&& (4294967295 : Int64))) (32 : Int32))) hx hb (dq da_X0_upperUnsigned 28 rfl) rfl ?_
  refine lv_lload hx hb (dq da_X0_upperUnsigned 29 rfl) (lv_at hl 1 rfl) ?_
  refine lv_ldc2 hx hb hown (hts _ w_967) (dq da_X0_upperUnsigned 30 rfl) ?_
  refine lv_land hx hb (dq da_X0_upperUnsigned 31 rfl) ?_
  refine lv_ladd hx hb (dq da_X0_upperUnsigned 32 rfl) ?_
  refine lv_lload hx hb (dq da_X0_upperUnsigned 33 rfl) (lv_at hl 0 rfl) ?_
  refine lv_ldc2 hx hb hown (hts _ w_967) (dq da_X0_upperUnsigned 34 rfl) ?_
  refine lv_land hx hb (dq da_X0_upperUnsigned 35 rfl) ?_
  refine lv_ladd hx hb (dq da_X0_upperUnsigned 36 rfl) ?_
  refine lv_bipush (v := 32) hx hb (dq da_X0_upperUnsigned 37 rfl) rfl ?_
  refine lv_lushr (v := (j_lushr (((j_lushr ((x0 &&& (4294967295 : Int64)) * (x2 &&& (4294967295 : Int64))) (32 : Int32)) + (((j_lushr x0 (32 : Int32)) * (x2 &&& (4294967295 : Int64))) &&& (4294967295 : Int64))) + (((x0 &&& (4294967295 : Int64)) * (j_lushr x2 (32 : Int32))) &&& (4294967295 : Int64))) (32 : Int32))) hx hb (dq da_X0_upperUnsigned 38 rfl) rfl ?_
  refine lv_lstore (lv' := [(16, .long (j_lushr (((j_lushr ((x0 &&& (4294967295 : Int64)) * (x2 &&& (4294967295 : Int64))) (32 : Int32)) + (((j_lushr x0 (32 : Int32)) * (x2 &&& (4294967295 : Int64))) &&& (4294967295 : Int64))) + (((x0 &&& (4294967295 : Int64)) * (j_lushr x2 (32 : Int32))) &&& (4294967295 : Int64))) (32 : Int32))), (14, .long ((x0 &&& (4294967295 : Int64)) * (j_lushr x2 (32 : Int32)))), (12, .long ((j_lushr x0 (32 : Int32)) * (x2 &&& (4294967295 : Int64)))), (10, .long (j_lushr x2 (32 : Int32))), (8, .long (j_lushr x0 (32 : Int32))), (6, .long (x2 &&& (4294967295 : Int64))), (4, .long (x0 &&& (4294967295 : Int64))), (0, .long x0), (2, .long x2)]) hx hb (dq da_X0_upperUnsigned 39 rfl) hl (by decide) rfl (fun ls hl => ?_)
  refine lv_lload hx hb (dq da_X0_upperUnsigned 40 rfl) (lv_at hl 4 rfl) ?_
  refine lv_lload hx hb (dq da_X0_upperUnsigned 41 rfl) (lv_at hl 3 rfl) ?_
  refine lv_lmul hx hb (dq da_X0_upperUnsigned 42 rfl) ?_
  refine lv_lload hx hb (dq da_X0_upperUnsigned 43 rfl) (lv_at hl 2 rfl) ?_
  refine lv_bipush (v := 32) hx hb (dq da_X0_upperUnsigned 44 rfl) rfl ?_
  refine lv_lushr (v := (j_lushr ((j_lushr x0 (32 : Int32)) * (x2 &&& (4294967295 : Int64))) (32 : Int32))) hx hb (dq da_X0_upperUnsigned 45 rfl) rfl ?_
  refine lv_ladd hx hb (dq da_X0_upperUnsigned 46 rfl) ?_
  refine lv_lload hx hb (dq da_X0_upperUnsigned 47 rfl) (lv_at hl 1 rfl) ?_
  refine lv_bipush (v := 32) hx hb (dq da_X0_upperUnsigned 48 rfl) rfl ?_
  refine lv_lushr (v := (j_lushr ((x0 &&& (4294967295 : Int64)) * (j_lushr x2 (32 : Int32))) (32 : Int32))) hx hb (dq da_X0_upperUnsigned 49 rfl) rfl ?_
  refine lv_ladd hx hb (dq da_X0_upperUnsigned 50 rfl) ?_
  refine lv_lload hx hb (dq da_X0_upperUnsigned 51 rfl) (lv_at hl 0 rfl) ?_
  refine lv_ladd hx hb (dq da_X0_upperUnsigned 52 rfl) ?_
  exact pret_l E hr hlk h (dq da_X0_upperUnsigned 53 rfl)
def dl_X0_quotientUnsigned : List (Nat × Instr × Nat) := [(0, .lload_n 2, 1), (1, .lconst 0, 1), (2, .lcmp, 1), (3, .ifCond .gt 23, 3), (6, .lload_n 2, 1), (7, .lconst 0, 1), (8, .lcmp, 1), (9, .ifCond .eq 11, 3), (12, .lload_n 0, 1), (13, .lload_n 2, 1), (14, .invokestatic 13, 3), (17, .ifCond .eq 7, 3), (20, .lconst 0, 1), (21, .goto 4, 3), (24, .lconst 1, 1), (25, .lreturn, 1), (26, .lload_n 0, 1), (27, .lconst 0, 1), (28, .lcmp, 1), (29, .ifCond .lt 7, 3), (32, .lload_n 0, 1), (33, .lload_n 2, 1), (34, .ldiv, 1), (35, .lreturn, 1), (36, .lload_n 0, 1), (37, .iconst 1, 1), (38, .lushr, 1), (39, .lload_n 2, 1), (40, .ldiv, 1), (41, .iconst 1, 1), (42, .lshl, 1), (43, .lstore 4, 2), (45, .lload_n 0, 1), (46, .lload 4, 2), (48, .lload_n 2, 1), (49, .lmul, 1), (50, .lsub, 1), (51, .lload_n 2, 1), (52, .invokestatic 13, 3), (55, .ifCond .eq 8, 3), (58, .lload 4, 2), (60, .goto 7, 3), (63, .lload 4, 2), (65, .lconst 1, 1), (66, .ladd, 1), (67, .lreturn, 1)]
theorem da_X0_quotientUnsigned : dkL cX0_quotientUnsigned dl_X0_quotientUnsigned = true := by decide +kernel
def f_X0_quotientUnsigned_b20  : Option (Int64) := some (0 : Int64)
set_option maxRecDepth 100000 in
set_option maxHeartbeats 4000000 in
theorem b_X0_quotientUnsigned_b20 {p : Program} {l : Launch} {e : Env} {s : State} {m : MethodId} {args : Array Value} {below : List Frame} {meth : Method} {c : Code} (E : CallFix p m c cX0_quotientUnsigned 6 s args gw RX0) (hr : meth.sig.returnType = some .long) (hlk : meth.locks = false)  {r : Int64} (h : f_X0_quotientUnsigned_b20  = some r) {ls : Array Slot} (hl : lv_has ls 6 []) : Wp p l e 1 23 s m args below meth c (.long r) 20 ls [] := by
  have hx := E.1
  have hb := E.2.1
  have hown := E.2.2.2.1
  have hts := E.2.2.2.2
  refine lv_lconst (v := 0) hx hb (dq da_X0_quotientUnsigned 12 rfl) rfl ?_
  refine lv_goto (tgt := 25) hx hb (dq da_X0_quotientUnsigned 13 rfl) (by decide) ?_
  exact pret_l E hr hlk (os h) (dq da_X0_quotientUnsigned 15 rfl)
def f_X0_quotientUnsigned (x0 : Int64) (x2 : Int64) : Option (Int64) := if (0 : Int64) < x2 then (if x0 < (0 : Int64) then (if ¬ x2 = (0 : Int64) then if (f_X0_below (x0 - ((j_lshl ((j_lushr x0 (1 : Int32)) / x2) (1 : Int32)) * x2)) x2) = (0 : Int32) then (some ((j_lshl ((j_lushr x0 (1 : Int32)) / x2) (1 : Int32)) + (1 : Int64))) else (some (j_lshl ((j_lushr x0 (1 : Int32)) / x2) (1 : Int32))) else none) else (if ¬ x2 = (0 : Int64) then some (x0 / x2) else none)) else (if x2 = (0 : Int64) then (f_X0_quotientUnsigned_b20 ) else (if (f_X0_below x0 x2) = (0 : Int32) then (some (1 : Int64)) else (f_X0_quotientUnsigned_b20 )))
set_option maxRecDepth 100000 in
set_option maxHeartbeats 4000000 in
theorem c_X0_quotientUnsigned (l : Launch) (x0 : Int64) (x2 : Int64) {r : Int64} (h : f_X0_quotientUnsigned x0 x2 = some r) : MP l yX0_quotientUnsigned cX0_quotientUnsigned 6 (some .long) 1 23 [.long x0, .long x2] (.long (r)) := by
  refine entP (by decide +kernel) (Nat.le_of_ble_eq_true rfl) ?_
  intro p e s m args below meth c ls E hr hlk hl
  have hl : lv_has ls 6 [(0, .long x0), (2, .long x2)] := hl
  have hx := E.1
  have hb := E.2.1
  have hown := E.2.2.2.1
  have hts := E.2.2.2.2
  refine lv_lload_n hx hb (dq da_X0_quotientUnsigned 0 rfl) rfl (lv_at hl 1 rfl) ?_
  refine lv_lconst (v := 0) hx hb (dq da_X0_quotientUnsigned 1 rfl) rfl ?_
  refine lc_gt (tgt := 26) hx hb (dq da_X0_quotientUnsigned 2 rfl) (dq da_X0_quotientUnsigned 3 rfl) (by decide) (fun c1 => ?_) (fun c1 => ?_)
  · have h := it c1 h
    refine lv_lload_n hx hb (dq da_X0_quotientUnsigned 16 rfl) rfl (lv_at hl 0 rfl) ?_
    refine lv_lconst (v := 0) hx hb (dq da_X0_quotientUnsigned 17 rfl) rfl ?_
    refine lc_lt (tgt := 36) hx hb (dq da_X0_quotientUnsigned 18 rfl) (dq da_X0_quotientUnsigned 19 rfl) (by decide) (fun c2 => ?_) (fun c2 => ?_)
    · have h := it c2 h
      refine lv_lload_n hx hb (dq da_X0_quotientUnsigned 24 rfl) rfl (lv_at hl 0 rfl) ?_
      refine lv_iconst (v := 1) hx hb (dq da_X0_quotientUnsigned 25 rfl) rfl ?_
      refine lv_lushr (v := (j_lushr x0 (1 : Int32))) hx hb (dq da_X0_quotientUnsigned 26 rfl) rfl ?_
      refine lv_lload_n hx hb (dq da_X0_quotientUnsigned 27 rfl) rfl (lv_at hl 1 rfl) ?_
      obtain ⟨hz3, h⟩ := oi h
      refine lv_ldiv hx hb (dq da_X0_quotientUnsigned 28 rfl) hz3 ?_
      refine lv_iconst (v := 1) hx hb (dq da_X0_quotientUnsigned 29 rfl) rfl ?_
      refine lv_lshl (v := (j_lshl ((j_lushr x0 (1 : Int32)) / x2) (1 : Int32))) hx hb (dq da_X0_quotientUnsigned 30 rfl) rfl ?_
      refine lv_lstore (lv' := [(4, .long (j_lshl ((j_lushr x0 (1 : Int32)) / x2) (1 : Int32))), (0, .long x0), (2, .long x2)]) hx hb (dq da_X0_quotientUnsigned 31 rfl) hl (by decide) rfl (fun ls hl => ?_)
      refine lv_lload_n hx hb (dq da_X0_quotientUnsigned 32 rfl) rfl (lv_at hl 1 rfl) ?_
      refine lv_lload hx hb (dq da_X0_quotientUnsigned 33 rfl) (lv_at hl 0 rfl) ?_
      refine lv_lload_n hx hb (dq da_X0_quotientUnsigned 34 rfl) rfl (lv_at hl 2 rfl) ?_
      refine lv_lmul hx hb (dq da_X0_quotientUnsigned 35 rfl) ?_
      refine lv_lsub hx hb (dq da_X0_quotientUnsigned 36 rfl) ?_
      refine lv_lload_n hx hb (dq da_X0_quotientUnsigned 37 rfl) rfl (lv_at hl 2 rfl) ?_
      refine callP E (c_X0_below l _ _ ) w_949 w_574 w_17 w_575 hd_X0_below rfl hl.1 rfl (Nat.le_of_ble_eq_true rfl) ⟨Nat.le_of_ble_eq_true rfl, Nat.le_of_ble_eq_true rfl⟩ (by decide) (dq da_X0_quotientUnsigned 38 rfl) ?_
      refine lv_if_eq (tgt := 63) hx hb (dq da_X0_quotientUnsigned 39 rfl) (by decide) (fun c4 => ?_) (fun c4 => ?_)
      · have h := it c4 h
        refine lv_lload hx hb (dq da_X0_quotientUnsigned 42 rfl) (lv_at hl 0 rfl) ?_
        refine lv_lconst (v := 1) hx hb (dq da_X0_quotientUnsigned 43 rfl) rfl ?_
        refine lv_ladd hx hb (dq da_X0_quotientUnsigned 44 rfl) ?_
        exact pret_l E hr hlk (os h) (dq da_X0_quotientUnsigned 45 rfl)
      · have h := ie c4 h
        refine lv_lload hx hb (dq da_X0_quotientUnsigned 40 rfl) (lv_at hl 0 rfl) ?_
        refine lv_goto (tgt := 67) hx hb (dq da_X0_quotientUnsigned 41 rfl) (by decide) ?_
        exact pret_l E hr hlk (os h) (dq da_X0_quotientUnsigned 45 rfl)
    · have h := ie c2 h
      refine lv_lload_n hx hb (dq da_X0_quotientUnsigned 20 rfl) rfl (lv_at hl 0 rfl) ?_
      refine lv_lload_n hx hb (dq da_X0_quotientUnsigned 21 rfl) rfl (lv_at hl 1 rfl) ?_
      obtain ⟨hz5, h⟩ := oi h
      refine lv_ldiv hx hb (dq da_X0_quotientUnsigned 22 rfl) hz5 ?_
      exact pret_l E hr hlk (os h) (dq da_X0_quotientUnsigned 23 rfl)
  · have h := ie c1 h
    refine lv_lload_n hx hb (dq da_X0_quotientUnsigned 4 rfl) rfl (lv_at hl 1 rfl) ?_
    refine lv_lconst (v := 0) hx hb (dq da_X0_quotientUnsigned 5 rfl) rfl ?_
    refine lc_eq (tgt := 20) hx hb (dq da_X0_quotientUnsigned 6 rfl) (dq da_X0_quotientUnsigned 7 rfl) (by decide) (fun c6 => ?_) (fun c6 => ?_)
    · have h := it c6 h
      exact b_X0_quotientUnsigned_b20 E hr hlk h (lv_sub hl [] rfl)
    · have h := ie c6 h
      refine lv_lload_n hx hb (dq da_X0_quotientUnsigned 8 rfl) rfl (lv_at hl 0 rfl) ?_
      refine lv_lload_n hx hb (dq da_X0_quotientUnsigned 9 rfl) rfl (lv_at hl 1 rfl) ?_
      refine callP E (c_X0_below l _ _ ) w_949 w_574 w_17 w_575 hd_X0_below rfl hl.1 rfl (Nat.le_of_ble_eq_true rfl) ⟨Nat.le_of_ble_eq_true rfl, Nat.le_of_ble_eq_true rfl⟩ (by decide) (dq da_X0_quotientUnsigned 10 rfl) ?_
      refine lv_if_eq (tgt := 24) hx hb (dq da_X0_quotientUnsigned 11 rfl) (by decide) (fun c7 => ?_) (fun c7 => ?_)
      · have h := it c7 h
        refine lv_lconst (v := 1) hx hb (dq da_X0_quotientUnsigned 14 rfl) rfl ?_
        exact pret_l E hr hlk (os h) (dq da_X0_quotientUnsigned 15 rfl)
      · have h := ie c7 h
        exact b_X0_quotientUnsigned_b20 E hr hlk h (lv_sub hl [] rfl)
def dl_X0_product : List (Nat × Instr × Nat) := [(0, .iload_n 0, 1), (1, .tableswitch 149 0 6 #[43, 47, 77, 95, 101, 117, 135], 43), (44, .lload_n 1, 1), (45, .lload_n 3, 1), (46, .lmul, 1), (47, .lreturn, 1), (48, .lload_n 1, 1), (49, .lload_n 3, 1), (50, .invokestatic 19, 3), (53, .lload_n 1, 1), (54, .lconst 0, 1), (55, .lcmp, 1), (56, .ifCond .ge 7, 3), (59, .lload_n 3, 1), (60, .goto 4, 3), (63, .lconst 0, 1), (64, .lsub, 1), (65, .lload_n 3, 1), (66, .lconst 0, 1), (67, .lcmp, 1), (68, .ifCond .ge 7, 3), (71, .lload_n 1, 1), (72, .goto 4, 3), (75, .lconst 0, 1), (76, .lsub, 1), (77, .lreturn, 1), (78, .lload_n 1, 1), (79, .lload_n 3, 1), (80, .invokestatic 19, 3), (83, .lload_n 1, 1), (84, .lconst 0, 1), (85, .lcmp, 1), (86, .ifCond .ge 7, 3), (89, .lload_n 3, 1), (90, .goto 4, 3), (93, .lconst 0, 1), (94, .lsub, 1), (95, .lreturn, 1), (96, .lload_n 1, 1), (97, .lload_n 3, 1), (98, .invokestatic 19, 3), (101, .lreturn, 1), (102, .lload_n 3, 1), (103, .lconst 0, 1), (104, .lcmp, 1), (105, .ifCond .ne 9, 3), (108, .ldc2_w 23, 3), (111, .goto 6, 3), (114, .lload_n 1, 1), (115, .lload_n 3, 1), (116, .ldiv, 1), (117, .lreturn, 1), (118, .lload_n 3, 1), (119, .lconst 0, 1), (120, .lcmp, 1), (121, .ifCond .ne 9, 3), (124, .ldc2_w 23, 3), (127, .goto 8, 3), (130, .lload_n 1, 1), (131, .lload_n 3, 1), (132, .invokestatic 25, 3), (135, .lreturn, 1), (136, .lload_n 3, 1), (137, .lconst 0, 1), (138, .lcmp, 1), (139, .ifCond .ne 7, 3), (142, .lload_n 1, 1), (143, .goto 6, 3), (146, .lload_n 1, 1), (147, .lload_n 3, 1), (148, .lrem, 1), (149, .lreturn, 1), (150, .lload_n 3, 1), (151, .lconst 0, 1), (152, .lcmp, 1), (153, .ifCond .ne 7, 3), (156, .lload_n 1, 1), (157, .goto 12, 3), (160, .lload_n 1, 1), (161, .lload_n 3, 1), (162, .lload_n 1, 1), (163, .lload_n 3, 1), (164, .invokestatic 25, 3), (167, .lmul, 1), (168, .lsub, 1), (169, .lreturn, 1)]
theorem da_X0_product : dkL cX0_product dl_X0_product = true := by decide +kernel
def f_X0_product_b76 (s0 : Int64) (s1 : Int64) : Option (Int64) := some (s1 - s0)
set_option maxRecDepth 100000 in
set_option maxHeartbeats 4000000 in
theorem b_X0_product_b76 {p : Program} {l : Launch} {e : Env} {s : State} {m : MethodId} {args : Array Value} {below : List Frame} {meth : Method} {c : Code} (E : CallFix p m c cX0_product 5 s args gw RX0) (hr : meth.sig.returnType = some .long) (hlk : meth.locks = false) {s0 : Int64} {s1 : Int64} {r : Int64} (h : f_X0_product_b76 s0 s1 = some r) {ls : Array Slot} (hl : lv_has ls 5 []) : Wp p l e 2 48 s m args below meth c (.long r) 76 ls [.long s0, .long s1] := by
  have hx := E.1
  have hb := E.2.1
  have hown := E.2.2.2.1
  have hts := E.2.2.2.2
  refine lv_lsub hx hb (dq da_X0_product 24 rfl) ?_
  exact pret_l E hr hlk (os h) (dq da_X0_product 25 rfl)
def f_X0_product_b64 (x1 : Int64) (x3 : Int64) (s0 : Int64) (s1 : Int64) : Option (Int64) := if (0 : Int64) ≤ x3 then (f_X0_product_b76 (0 : Int64) (s1 - s0)) else (f_X0_product_b76 x1 (s1 - s0))
set_option maxRecDepth 100000 in
set_option maxHeartbeats 4000000 in
theorem b_X0_product_b64 {p : Program} {l : Launch} {e : Env} {s : State} {m : MethodId} {args : Array Value} {below : List Frame} {meth : Method} {c : Code} (E : CallFix p m c cX0_product 5 s args gw RX0) (hr : meth.sig.returnType = some .long) (hlk : meth.locks = false) {x1 : Int64} {x3 : Int64} {s0 : Int64} {s1 : Int64} {r : Int64} (h : f_X0_product_b64 x1 x3 s0 s1 = some r) {ls : Array Slot} (hl : lv_has ls 5 [(1, .long x1), (3, .long x3)]) : Wp p l e 2 48 s m args below meth c (.long r) 64 ls [.long s0, .long s1] := by
  have hx := E.1
  have hb := E.2.1
  have hown := E.2.2.2.1
  have hts := E.2.2.2.2
  refine lv_lsub hx hb (dq da_X0_product 16 rfl) ?_
  refine lv_lload_n hx hb (dq da_X0_product 17 rfl) rfl (lv_at hl 1 rfl) ?_
  refine lv_lconst (v := 0) hx hb (dq da_X0_product 18 rfl) rfl ?_
  refine lc_ge (tgt := 75) hx hb (dq da_X0_product 19 rfl) (dq da_X0_product 20 rfl) (by decide) (fun c4 => ?_) (fun c4 => ?_)
  · have h := it c4 h
    refine lv_lconst (v := 0) hx hb (dq da_X0_product 23 rfl) rfl ?_
    exact b_X0_product_b76 E hr hlk h (lv_sub hl [] rfl)
  · have h := ie c4 h
    refine lv_lload_n hx hb (dq da_X0_product 21 rfl) rfl (lv_at hl 0 rfl) ?_
    refine lv_goto (tgt := 76) hx hb (dq da_X0_product 22 rfl) (by decide) ?_
    exact b_X0_product_b76 E hr hlk h (lv_sub hl [] rfl)
def f_X0_product_b94 (s0 : Int64) (s1 : Int64) : Option (Int64) := some (s1 - s0)
set_option maxRecDepth 100000 in
set_option maxHeartbeats 4000000 in
theorem b_X0_product_b94 {p : Program} {l : Launch} {e : Env} {s : State} {m : MethodId} {args : Array Value} {below : List Frame} {meth : Method} {c : Code} (E : CallFix p m c cX0_product 5 s args gw RX0) (hr : meth.sig.returnType = some .long) (hlk : meth.locks = false) {s0 : Int64} {s1 : Int64} {r : Int64} (h : f_X0_product_b94 s0 s1 = some r) {ls : Array Slot} (hl : lv_has ls 5 []) : Wp p l e 2 48 s m args below meth c (.long r) 94 ls [.long s0, .long s1] := by
  have hx := E.1
  have hb := E.2.1
  have hown := E.2.2.2.1
  have hts := E.2.2.2.2
  refine lv_lsub hx hb (dq da_X0_product 36 rfl) ?_
  exact pret_l E hr hlk (os h) (dq da_X0_product 37 rfl)
def f_X0_product (x0 : Int32) (x1 : Int64) (x3 : Int64) : Option (Int64) := if x0 = (0 : Int32) then (some (x1 * x3)) else if x0 = (1 : Int32) then (if (0 : Int64) ≤ x1 then (f_X0_product_b64 x1 x3 (0 : Int64) (f_X0_upperUnsigned x1 x3)) else (f_X0_product_b64 x1 x3 x3 (f_X0_upperUnsigned x1 x3))) else if x0 = (2 : Int32) then (if (0 : Int64) ≤ x1 then (f_X0_product_b94 (0 : Int64) (f_X0_upperUnsigned x1 x3)) else (f_X0_product_b94 x3 (f_X0_upperUnsigned x1 x3))) else if x0 = (3 : Int32) then (some (f_X0_upperUnsigned x1 x3)) else if x0 = (4 : Int32) then (if x3 = (0 : Int64) then (some (-1 : Int64)) else (some (x1 / x3))) else if x0 = (5 : Int32) then (if x3 = (0 : Int64) then (some (-1 : Int64)) else ((f_X0_quotientUnsigned x1 x3).bind (fun y12 => some y12))) else if x0 = (6 : Int32) then (if x3 = (0 : Int64) then (some x1) else (some (x1 - x1 / x3 * x3))) else (if x3 = (0 : Int64) then (some x1) else ((f_X0_quotientUnsigned x1 x3).bind (fun y17 => some (x1 - (x3 * y17)))))
set_option maxRecDepth 100000 in
set_option maxHeartbeats 4000000 in
theorem c_X0_product (l : Launch) (x0 : Int32) (x1 : Int64) (x3 : Int64) {r : Int64} (h : f_X0_product x0 x1 x3 = some r) : MP l yX0_product cX0_product 5 (some .long) 2 48 [.int x0, .long x1, .long x3] (.long (r)) := by
  refine entP (by decide +kernel) (Nat.le_of_ble_eq_true rfl) ?_
  intro p e s m args below meth c ls E hr hlk hl
  have hl : lv_has ls 5 [(0, .int x0), (1, .long x1), (3, .long x3)] := hl
  have hx := E.1
  have hb := E.2.1
  have hown := E.2.2.2.1
  have hts := E.2.2.2.2
  refine lv_iload_n hx hb (dq da_X0_product 0 rfl) rfl (lv_at hl 0 rfl) ?_
  by_cases c1 : x0 = (0 : Int32)
  · have h := it c1 h
    refine lv_tableIn (off := 43) (tgt := 44) hx hb (dq da_X0_product 1 rfl) (by rw [c1]; decide +kernel) (by rw [c1]; decide +kernel) (by rw [c1]; decide +kernel) (by decide) ?_
    refine lv_lload_n hx hb (dq da_X0_product 2 rfl) rfl (lv_at hl 1 rfl) ?_
    refine lv_lload_n hx hb (dq da_X0_product 3 rfl) rfl (lv_at hl 2 rfl) ?_
    refine lv_lmul hx hb (dq da_X0_product 4 rfl) ?_
    exact pret_l E hr hlk (os h) (dq da_X0_product 5 rfl)
  · have h := ie c1 h
    by_cases c2 : x0 = (1 : Int32)
    · have h := it c2 h
      refine lv_tableIn (off := 47) (tgt := 48) hx hb (dq da_X0_product 1 rfl) (by rw [c2]; decide +kernel) (by rw [c2]; decide +kernel) (by rw [c2]; decide +kernel) (by decide) ?_
      refine lv_lload_n hx hb (dq da_X0_product 6 rfl) rfl (lv_at hl 1 rfl) ?_
      refine lv_lload_n hx hb (dq da_X0_product 7 rfl) rfl (lv_at hl 2 rfl) ?_
      refine callP E (c_X0_upperUnsigned l _ _ ) w_964 w_965 w_17 w_966 hd_X0_upperUnsigned rfl hl.1 rfl (Nat.le_of_ble_eq_true rfl) ⟨Nat.le_of_ble_eq_true rfl, Nat.le_of_ble_eq_true rfl⟩ (by decide) (dq da_X0_product 8 rfl) ?_
      refine lv_lload_n hx hb (dq da_X0_product 9 rfl) rfl (lv_at hl 1 rfl) ?_
      refine lv_lconst (v := 0) hx hb (dq da_X0_product 10 rfl) rfl ?_
      refine lc_ge (tgt := 63) hx hb (dq da_X0_product 11 rfl) (dq da_X0_product 12 rfl) (by decide) (fun c3 => ?_) (fun c3 => ?_)
      · have h := it c3 h
        refine lv_lconst (v := 0) hx hb (dq da_X0_product 15 rfl) rfl ?_
        exact b_X0_product_b64 E hr hlk h (lv_sub hl [1, 2] rfl)
      · have h := ie c3 h
        refine lv_lload_n hx hb (dq da_X0_product 13 rfl) rfl (lv_at hl 2 rfl) ?_
        refine lv_goto (tgt := 64) hx hb (dq da_X0_product 14 rfl) (by decide) ?_
        exact b_X0_product_b64 E hr hlk h (lv_sub hl [1, 2] rfl)
    · have h := ie c2 h
      by_cases c5 : x0 = (2 : Int32)
      · have h := it c5 h
        refine lv_tableIn (off := 77) (tgt := 78) hx hb (dq da_X0_product 1 rfl) (by rw [c5]; decide +kernel) (by rw [c5]; decide +kernel) (by rw [c5]; decide +kernel) (by decide) ?_
        refine lv_lload_n hx hb (dq da_X0_product 26 rfl) rfl (lv_at hl 1 rfl) ?_
        refine lv_lload_n hx hb (dq da_X0_product 27 rfl) rfl (lv_at hl 2 rfl) ?_
        refine callP E (c_X0_upperUnsigned l _ _ ) w_964 w_965 w_17 w_966 hd_X0_upperUnsigned rfl hl.1 rfl (Nat.le_of_ble_eq_true rfl) ⟨Nat.le_of_ble_eq_true rfl, Nat.le_of_ble_eq_true rfl⟩ (by decide) (dq da_X0_product 28 rfl) ?_
        refine lv_lload_n hx hb (dq da_X0_product 29 rfl) rfl (lv_at hl 1 rfl) ?_
        refine lv_lconst (v := 0) hx hb (dq da_X0_product 30 rfl) rfl ?_
        refine lc_ge (tgt := 93) hx hb (dq da_X0_product 31 rfl) (dq da_X0_product 32 rfl) (by decide) (fun c6 => ?_) (fun c6 => ?_)
        · have h := it c6 h
          refine lv_lconst (v := 0) hx hb (dq da_X0_product 35 rfl) rfl ?_
          exact b_X0_product_b94 E hr hlk h (lv_sub hl [] rfl)
        · have h := ie c6 h
          refine lv_lload_n hx hb (dq da_X0_product 33 rfl) rfl (lv_at hl 2 rfl) ?_
          refine lv_goto (tgt := 94) hx hb (dq da_X0_product 34 rfl) (by decide) ?_
          exact b_X0_product_b94 E hr hlk h (lv_sub hl [] rfl)
      · have h := ie c5 h
        by_cases c7 : x0 = (3 : Int32)
        · have h := it c7 h
          refine lv_tableIn (off := 95) (tgt := 96) hx hb (dq da_X0_product 1 rfl) (by rw [c7]; decide +kernel) (by rw [c7]; decide +kernel) (by rw [c7]; decide +kernel) (by decide) ?_
          refine lv_lload_n hx hb (dq da_X0_product 38 rfl) rfl (lv_at hl 1 rfl) ?_
          refine lv_lload_n hx hb (dq da_X0_product 39 rfl) rfl (lv_at hl 2 rfl) ?_
          refine callP E (c_X0_upperUnsigned l _ _ ) w_964 w_965 w_17 w_966 hd_X0_upperUnsigned rfl hl.1 rfl (Nat.le_of_ble_eq_true rfl) ⟨Nat.le_of_ble_eq_true rfl, Nat.le_of_ble_eq_true rfl⟩ (by decide) (dq da_X0_product 40 rfl) ?_
          exact pret_l E hr hlk (os h) (dq da_X0_product 41 rfl)
        · have h := ie c7 h
          by_cases c8 : x0 = (4 : Int32)
          · have h := it c8 h
            refine lv_tableIn (off := 101) (tgt := 102) hx hb (dq da_X0_product 1 rfl) (by rw [c8]; decide +kernel) (by rw [c8]; decide +kernel) (by rw [c8]; decide +kernel) (by decide) ?_
            refine lv_lload_n hx hb (dq da_X0_product 42 rfl) rfl (lv_at hl 2 rfl) ?_
            refine lv_lconst (v := 0) hx hb (dq da_X0_product 43 rfl) rfl ?_
            refine lc_ne (tgt := 114) hx hb (dq da_X0_product 44 rfl) (dq da_X0_product 45 rfl) (by decide) (fun c9 => ?_) (fun c9 => ?_)
            · have h := ie c9 h
              refine lv_lload_n hx hb (dq da_X0_product 48 rfl) rfl (lv_at hl 1 rfl) ?_
              refine lv_lload_n hx hb (dq da_X0_product 49 rfl) rfl (lv_at hl 2 rfl) ?_
              refine lv_ldiv hx hb (dq da_X0_product 50 rfl) c9 ?_
              exact pret_l E hr hlk (os h) (dq da_X0_product 51 rfl)
            · have h := it c9 h
              refine lv_ldc2 hx hb hown (hts _ w_968) (dq da_X0_product 46 rfl) ?_
              refine lv_goto (tgt := 117) hx hb (dq da_X0_product 47 rfl) (by decide) ?_
              exact pret_l E hr hlk (os h) (dq da_X0_product 51 rfl)
          · have h := ie c8 h
            by_cases c10 : x0 = (5 : Int32)
            · have h := it c10 h
              refine lv_tableIn (off := 117) (tgt := 118) hx hb (dq da_X0_product 1 rfl) (by rw [c10]; decide +kernel) (by rw [c10]; decide +kernel) (by rw [c10]; decide +kernel) (by decide) ?_
              refine lv_lload_n hx hb (dq da_X0_product 52 rfl) rfl (lv_at hl 2 rfl) ?_
              refine lv_lconst (v := 0) hx hb (dq da_X0_product 53 rfl) rfl ?_
              refine lc_ne (tgt := 130) hx hb (dq da_X0_product 54 rfl) (dq da_X0_product 55 rfl) (by decide) (fun c11 => ?_) (fun c11 => ?_)
              · have h := ie c11 h
                refine lv_lload_n hx hb (dq da_X0_product 58 rfl) rfl (lv_at hl 1 rfl) ?_
                refine lv_lload_n hx hb (dq da_X0_product 59 rfl) rfl (lv_at hl 2 rfl) ?_
                obtain ⟨y12, hy13, h⟩ := ob h
                refine callP E (c_X0_quotientUnsigned l _ _ hy13) w_969 w_970 w_17 w_971 hd_X0_quotientUnsigned rfl hl.1 rfl (Nat.le_of_ble_eq_true rfl) ⟨Nat.le_of_ble_eq_true rfl, Nat.le_of_ble_eq_true rfl⟩ (by decide) (dq da_X0_product 60 rfl) ?_
                exact pret_l E hr hlk (os h) (dq da_X0_product 61 rfl)
              · have h := it c11 h
                refine lv_ldc2 hx hb hown (hts _ w_968) (dq da_X0_product 56 rfl) ?_
                refine lv_goto (tgt := 135) hx hb (dq da_X0_product 57 rfl) (by decide) ?_
                exact pret_l E hr hlk (os h) (dq da_X0_product 61 rfl)
            · have h := ie c10 h
              by_cases c14 : x0 = (6 : Int32)
              · have h := it c14 h
                refine lv_tableIn (off := 135) (tgt := 136) hx hb (dq da_X0_product 1 rfl) (by rw [c14]; decide +kernel) (by rw [c14]; decide +kernel) (by rw [c14]; decide +kernel) (by decide) ?_
                refine lv_lload_n hx hb (dq da_X0_product 62 rfl) rfl (lv_at hl 2 rfl) ?_
                refine lv_lconst (v := 0) hx hb (dq da_X0_product 63 rfl) rfl ?_
                refine lc_ne (tgt := 146) hx hb (dq da_X0_product 64 rfl) (dq da_X0_product 65 rfl) (by decide) (fun c15 => ?_) (fun c15 => ?_)
                · have h := ie c15 h
                  refine lv_lload_n hx hb (dq da_X0_product 68 rfl) rfl (lv_at hl 1 rfl) ?_
                  refine lv_lload_n hx hb (dq da_X0_product 69 rfl) rfl (lv_at hl 2 rfl) ?_
                  refine lv_lrem hx hb (dq da_X0_product 70 rfl) c15 ?_
                  exact pret_l E hr hlk (os h) (dq da_X0_product 71 rfl)
                · have h := it c15 h
                  refine lv_lload_n hx hb (dq da_X0_product 66 rfl) rfl (lv_at hl 1 rfl) ?_
                  refine lv_goto (tgt := 149) hx hb (dq da_X0_product 67 rfl) (by decide) ?_
                  exact pret_l E hr hlk (os h) (dq da_X0_product 71 rfl)
              · have h := ie c14 h
                refine lv_tableOut (tgt := 150) hx hb (dq da_X0_product 1 rfl) (by have := lv_neT (k := (0 : Int32)) (a := 0) c1 rfl; have := lv_neT (k := (1 : Int32)) (a := 1) c2 rfl; have := lv_neT (k := (2 : Int32)) (a := 2) c5 rfl; have := lv_neT (k := (3 : Int32)) (a := 3) c7 rfl; have := lv_neT (k := (4 : Int32)) (a := 4) c8 rfl; have := lv_neT (k := (5 : Int32)) (a := 5) c10 rfl; have := lv_neT (k := (6 : Int32)) (a := 6) c14 rfl; omega) (by decide) ?_
                refine lv_lload_n hx hb (dq da_X0_product 72 rfl) rfl (lv_at hl 2 rfl) ?_
                refine lv_lconst (v := 0) hx hb (dq da_X0_product 73 rfl) rfl ?_
                refine lc_ne (tgt := 160) hx hb (dq da_X0_product 74 rfl) (dq da_X0_product 75 rfl) (by decide) (fun c16 => ?_) (fun c16 => ?_)
                · have h := ie c16 h
                  refine lv_lload_n hx hb (dq da_X0_product 78 rfl) rfl (lv_at hl 1 rfl) ?_
                  refine lv_lload_n hx hb (dq da_X0_product 79 rfl) rfl (lv_at hl 2 rfl) ?_
                  refine lv_lload_n hx hb (dq da_X0_product 80 rfl) rfl (lv_at hl 1 rfl) ?_
                  refine lv_lload_n hx hb (dq da_X0_product 81 rfl) rfl (lv_at hl 2 rfl) ?_
                  obtain ⟨y17, hy18, h⟩ := ob h
                  refine callP E (c_X0_quotientUnsigned l _ _ hy18) w_969 w_970 w_17 w_971 hd_X0_quotientUnsigned rfl hl.1 rfl (Nat.le_of_ble_eq_true rfl) ⟨Nat.le_of_ble_eq_true rfl, Nat.le_of_ble_eq_true rfl⟩ (by decide) (dq da_X0_product 82 rfl) ?_
                  refine lv_lmul hx hb (dq da_X0_product 83 rfl) ?_
                  refine lv_lsub hx hb (dq da_X0_product 84 rfl) ?_
                  exact pret_l E hr hlk (os h) (dq da_X0_product 85 rfl)
                · have h := it c16 h
                  refine lv_lload_n hx hb (dq da_X0_product 76 rfl) rfl (lv_at hl 1 rfl) ?_
                  refine lv_goto (tgt := 169) hx hb (dq da_X0_product 77 rfl) (by decide) ?_
                  exact pret_l E hr hlk (os h) (dq da_X0_product 85 rfl)
def dl_X0_narrowProduct : List (Nat × Instr × Nat) := [(0, .iload_n 1, 1), (1, .i2l, 1), (2, .ldc2_w 28, 3), (5, .land, 1), (6, .lstore_n 3, 1), (7, .iload_n 2, 1), (8, .i2l, 1), (9, .ldc2_w 28, 3), (12, .land, 1), (13, .lstore 5, 2), (15, .iload_n 0, 1), (16, .tableswitch 98 0 6 #[44, 98, 98, 98, 49, 64, 84], 44), (60, .iload_n 1, 1), (61, .iload_n 2, 1), (62, .imul, 1), (63, .i2l, 1), (64, .lreturn, 1), (65, .iload_n 2, 1), (66, .ifCond .ne 9, 3), (69, .ldc2_w 23, 3), (72, .goto 7, 3), (75, .iload_n 1, 1), (76, .iload_n 2, 1), (77, .idiv, 1), (78, .i2l, 1), (79, .lreturn, 1), (80, .lload 5, 2), (82, .lconst 0, 1), (83, .lcmp, 1), (84, .ifCond .ne 9, 3), (87, .ldc2_w 23, 3), (90, .goto 9, 3), (93, .lload_n 3, 1), (94, .lload 5, 2), (96, .ldiv, 1), (97, .l2i, 1), (98, .i2l, 1), (99, .lreturn, 1), (100, .iload_n 2, 1), (101, .ifCond .ne 8, 3), (104, .iload_n 1, 1), (105, .i2l, 1), (106, .goto 7, 3), (109, .iload_n 1, 1), (110, .iload_n 2, 1), (111, .irem, 1), (112, .i2l, 1), (113, .lreturn, 1), (114, .lload 5, 2), (116, .lconst 0, 1), (117, .lcmp, 1), (118, .ifCond .ne 8, 3), (121, .iload_n 1, 1), (122, .i2l, 1), (123, .goto 9, 3), (126, .lload_n 3, 1), (127, .lload 5, 2), (129, .lrem, 1), (130, .l2i, 1), (131, .i2l, 1), (132, .lreturn, 1)]
theorem da_X0_narrowProduct : dkL cX0_narrowProduct dl_X0_narrowProduct = true := by decide +kernel
def f_X0_narrowProduct_b114 (x1 : Int32) (x3 : Int64) (x5 : Int64) : Int64 := if x5 = (0 : Int64) then x1.toInt64 else (((x3 - x3 / x5 * x5).toInt32).toInt64)
set_option maxRecDepth 100000 in
set_option maxHeartbeats 4000000 in
theorem b_X0_narrowProduct_b114 {p : Program} {l : Launch} {e : Env} {s : State} {m : MethodId} {args : Array Value} {below : List Frame} {meth : Method} {c : Code} (E : CallFix p m c cX0_narrowProduct 7 s args gw RX0) (hr : meth.sig.returnType = some .long) (hlk : meth.locks = false) {x1 : Int32} {x3 : Int64} {x5 : Int64} {r : Int64} (h : f_X0_narrowProduct_b114 x1 x3 x5 = r) {ls : Array Slot} (hl : lv_has ls 7 [(1, .int x1), (3, .long x3), (5, .long x5)]) : Wp p l e 0 0 s m args below meth c (.long r) 114 ls [] := by
  have hx := E.1
  have hb := E.2.1
  have hown := E.2.2.2.1
  have hts := E.2.2.2.2
  refine lv_lload hx hb (dq da_X0_narrowProduct 48 rfl) (lv_at hl 2 rfl) ?_
  refine lv_lconst (v := 0) hx hb (dq da_X0_narrowProduct 49 rfl) rfl ?_
  refine lc_ne (tgt := 126) hx hb (dq da_X0_narrowProduct 50 rfl) (dq da_X0_narrowProduct 51 rfl) (by decide) (fun c3 => ?_) (fun c3 => ?_)
  · have h := ie c3 h
    refine lv_lload_n hx hb (dq da_X0_narrowProduct 55 rfl) rfl (lv_at hl 1 rfl) ?_
    refine lv_lload hx hb (dq da_X0_narrowProduct 56 rfl) (lv_at hl 2 rfl) ?_
    refine lv_lrem hx hb (dq da_X0_narrowProduct 57 rfl) c3 ?_
    refine lv_l2i (v := (x3 - x3 / x5 * x5).toInt32) hx hb (dq da_X0_narrowProduct 58 rfl) rfl ?_
    refine lv_i2l (v := ((x3 - x3 / x5 * x5).toInt32).toInt64) hx hb (dq da_X0_narrowProduct 59 rfl) rfl ?_
    exact pret_l E hr hlk h (dq da_X0_narrowProduct 60 rfl)
  · have h := it c3 h
    refine lv_iload_n hx hb (dq da_X0_narrowProduct 52 rfl) rfl (lv_at hl 0 rfl) ?_
    refine lv_i2l (v := x1.toInt64) hx hb (dq da_X0_narrowProduct 53 rfl) rfl ?_
    refine lv_goto (tgt := 132) hx hb (dq da_X0_narrowProduct 54 rfl) (by decide) ?_
    exact pret_l E hr hlk h (dq da_X0_narrowProduct 60 rfl)
def f_X0_narrowProduct (x0 : Int32) (x1 : Int32) (x2 : Int32) : Int64 := if x0 = (0 : Int32) then ((x1 * x2).toInt64) else if x0 = (1 : Int32) then (f_X0_narrowProduct_b114 x1 (x1.toInt64 &&& (4294967295 : Int64)) (x2.toInt64 &&& (4294967295 : Int64))) else if x0 = (2 : Int32) then (f_X0_narrowProduct_b114 x1 (x1.toInt64 &&& (4294967295 : Int64)) (x2.toInt64 &&& (4294967295 : Int64))) else if x0 = (3 : Int32) then (f_X0_narrowProduct_b114 x1 (x1.toInt64 &&& (4294967295 : Int64)) (x2.toInt64 &&& (4294967295 : Int64))) else if x0 = (4 : Int32) then (if x2 = (0 : Int32) then (-1 : Int64) else ((x1 / x2).toInt64)) else if x0 = (5 : Int32) then (if (x2.toInt64 &&& (4294967295 : Int64)) = (0 : Int64) then (-1 : Int64) else ((((x1.toInt64 &&& (4294967295 : Int64)) / (x2.toInt64 &&& (4294967295 : Int64))).toInt32).toInt64)) else if x0 = (6 : Int32) then (if x2 = (0 : Int32) then x1.toInt64 else ((x1 - x1 / x2 * x2).toInt64)) else (f_X0_narrowProduct_b114 x1 (x1.toInt64 &&& (4294967295 : Int64)) (x2.toInt64 &&& (4294967295 : Int64)))
set_option maxRecDepth 100000 in
set_option maxHeartbeats 4000000 in
theorem c_X0_narrowProduct (l : Launch) (x0 : Int32) (x1 : Int32) (x2 : Int32) : MP l yX0_narrowProduct cX0_narrowProduct 7 (some .long) 0 0 [.int x0, .int x1, .int x2] (.long (f_X0_narrowProduct x0 x1 x2)) := by
  refine entP (by decide +kernel) (Nat.le_of_ble_eq_true rfl) ?_
  intro p e s m args below meth c ls E hr hlk hl
  have hl : lv_has ls 7 [(0, .int x0), (1, .int x1), (2, .int x2)] := hl
  generalize h : f_X0_narrowProduct x0 x1 x2 = r
  have hx := E.1
  have hb := E.2.1
  have hown := E.2.2.2.1
  have hts := E.2.2.2.2
  refine lv_iload_n hx hb (dq da_X0_narrowProduct 0 rfl) rfl (lv_at hl 1 rfl) ?_
  refine lv_i2l (v := x1.toInt64) hx hb (dq da_X0_narrowProduct 1 rfl) rfl ?_
  refine lv_ldc2 hx hb hown (hts _ w_967) (dq da_X0_narrowProduct 2 rfl) ?_
  refine lv_land hx hb (dq da_X0_narrowProduct 3 rfl) ?_
  refine lv_lstore_n (lv' := [(3, .long (x1.toInt64 &&& (4294967295 : Int64))), (0, .int x0), (1, .int x1), (2, .int x2)]) hx hb (dq da_X0_narrowProduct 4 rfl) rfl hl (by decide) rfl (fun ls hl => ?_)
  refine lv_iload_n hx hb (dq da_X0_narrowProduct 5 rfl) rfl (lv_at hl 3 rfl) ?_
  refine lv_i2l (v := x2.toInt64) hx hb (dq da_X0_narrowProduct 6 rfl) rfl ?_
  refine lv_ldc2 hx hb hown (hts _ w_967) (dq da_X0_narrowProduct 7 rfl) ?_
  refine lv_land hx hb (dq da_X0_narrowProduct 8 rfl) ?_
  refine lv_lstore (lv' := [(5, .long (x2.toInt64 &&& (4294967295 : Int64))), (3, .long (x1.toInt64 &&& (4294967295 : Int64))), (0, .int x0), (1, .int x1), (2, .int x2)]) hx hb (dq da_X0_narrowProduct 9 rfl) hl (by decide) rfl (fun ls hl => ?_)
  refine lv_iload_n hx hb (dq da_X0_narrowProduct 10 rfl) rfl (lv_at hl 2 rfl) ?_
  by_cases c1 : x0 = (0 : Int32)
  · have h := it c1 h
    refine lv_tableIn (off := 44) (tgt := 60) hx hb (dq da_X0_narrowProduct 11 rfl) (by rw [c1]; decide +kernel) (by rw [c1]; decide +kernel) (by rw [c1]; decide +kernel) (by decide) ?_
    refine lv_iload_n hx hb (dq da_X0_narrowProduct 12 rfl) rfl (lv_at hl 3 rfl) ?_
    refine lv_iload_n hx hb (dq da_X0_narrowProduct 13 rfl) rfl (lv_at hl 4 rfl) ?_
    refine lv_imul hx hb (dq da_X0_narrowProduct 14 rfl) ?_
    refine lv_i2l (v := (x1 * x2).toInt64) hx hb (dq da_X0_narrowProduct 15 rfl) rfl ?_
    exact pret_l E hr hlk h (dq da_X0_narrowProduct 16 rfl)
  · have h := ie c1 h
    by_cases c2 : x0 = (1 : Int32)
    · have h := it c2 h
      refine lv_tableIn (off := 98) (tgt := 114) hx hb (dq da_X0_narrowProduct 11 rfl) (by rw [c2]; decide +kernel) (by rw [c2]; decide +kernel) (by rw [c2]; decide +kernel) (by decide) ?_
      exact b_X0_narrowProduct_b114 E hr hlk h (lv_sub hl [3, 1, 0] rfl)
    · have h := ie c2 h
      by_cases c4 : x0 = (2 : Int32)
      · have h := it c4 h
        refine lv_tableIn (off := 98) (tgt := 114) hx hb (dq da_X0_narrowProduct 11 rfl) (by rw [c4]; decide +kernel) (by rw [c4]; decide +kernel) (by rw [c4]; decide +kernel) (by decide) ?_
        exact b_X0_narrowProduct_b114 E hr hlk h (lv_sub hl [3, 1, 0] rfl)
      · have h := ie c4 h
        by_cases c5 : x0 = (3 : Int32)
        · have h := it c5 h
          refine lv_tableIn (off := 98) (tgt := 114) hx hb (dq da_X0_narrowProduct 11 rfl) (by rw [c5]; decide +kernel) (by rw [c5]; decide +kernel) (by rw [c5]; decide +kernel) (by decide) ?_
          exact b_X0_narrowProduct_b114 E hr hlk h (lv_sub hl [3, 1, 0] rfl)
        · have h := ie c5 h
          by_cases c6 : x0 = (4 : Int32)
          · have h := it c6 h
            refine lv_tableIn (off := 49) (tgt := 65) hx hb (dq da_X0_narrowProduct 11 rfl) (by rw [c6]; decide +kernel) (by rw [c6]; decide +kernel) (by rw [c6]; decide +kernel) (by decide) ?_
            refine lv_iload_n hx hb (dq da_X0_narrowProduct 17 rfl) rfl (lv_at hl 4 rfl) ?_
            refine lv_if_ne (tgt := 75) hx hb (dq da_X0_narrowProduct 18 rfl) (by decide) (fun c7 => ?_) (fun c7 => ?_)
            · have h := ie c7 h
              refine lv_iload_n hx hb (dq da_X0_narrowProduct 21 rfl) rfl (lv_at hl 3 rfl) ?_
              refine lv_iload_n hx hb (dq da_X0_narrowProduct 22 rfl) rfl (lv_at hl 4 rfl) ?_
              refine lv_idiv hx hb (dq da_X0_narrowProduct 23 rfl) c7 ?_
              refine lv_i2l (v := (x1 / x2).toInt64) hx hb (dq da_X0_narrowProduct 24 rfl) rfl ?_
              exact pret_l E hr hlk h (dq da_X0_narrowProduct 25 rfl)
            · have h := it c7 h
              refine lv_ldc2 hx hb hown (hts _ w_968) (dq da_X0_narrowProduct 19 rfl) ?_
              refine lv_goto (tgt := 79) hx hb (dq da_X0_narrowProduct 20 rfl) (by decide) ?_
              exact pret_l E hr hlk h (dq da_X0_narrowProduct 25 rfl)
          · have h := ie c6 h
            by_cases c8 : x0 = (5 : Int32)
            · have h := it c8 h
              refine lv_tableIn (off := 64) (tgt := 80) hx hb (dq da_X0_narrowProduct 11 rfl) (by rw [c8]; decide +kernel) (by rw [c8]; decide +kernel) (by rw [c8]; decide +kernel) (by decide) ?_
              refine lv_lload hx hb (dq da_X0_narrowProduct 26 rfl) (lv_at hl 0 rfl) ?_
              refine lv_lconst (v := 0) hx hb (dq da_X0_narrowProduct 27 rfl) rfl ?_
              refine lc_ne (tgt := 93) hx hb (dq da_X0_narrowProduct 28 rfl) (dq da_X0_narrowProduct 29 rfl) (by decide) (fun c9 => ?_) (fun c9 => ?_)
              · have h := ie c9 h
                refine lv_lload_n hx hb (dq da_X0_narrowProduct 32 rfl) rfl (lv_at hl 1 rfl) ?_
                refine lv_lload hx hb (dq da_X0_narrowProduct 33 rfl) (lv_at hl 0 rfl) ?_
                refine lv_ldiv hx hb (dq da_X0_narrowProduct 34 rfl) c9 ?_
                refine lv_l2i (v := ((x1.toInt64 &&& (4294967295 : Int64)) / (x2.toInt64 &&& (4294967295 : Int64))).toInt32) hx hb (dq da_X0_narrowProduct 35 rfl) rfl ?_
                refine lv_i2l (v := (((x1.toInt64 &&& (4294967295 : Int64)) / (x2.toInt64 &&& (4294967295 : Int64))).toInt32).toInt64) hx hb (dq da_X0_narrowProduct 36 rfl) rfl ?_
                exact pret_l E hr hlk h (dq da_X0_narrowProduct 37 rfl)
              · have h := it c9 h
                refine lv_ldc2 hx hb hown (hts _ w_968) (dq da_X0_narrowProduct 30 rfl) ?_
                refine lv_goto (tgt := 99) hx hb (dq da_X0_narrowProduct 31 rfl) (by decide) ?_
                exact pret_l E hr hlk h (dq da_X0_narrowProduct 37 rfl)
            · have h := ie c8 h
              by_cases c10 : x0 = (6 : Int32)
              · have h := it c10 h
                refine lv_tableIn (off := 84) (tgt := 100) hx hb (dq da_X0_narrowProduct 11 rfl) (by rw [c10]; decide +kernel) (by rw [c10]; decide +kernel) (by rw [c10]; decide +kernel) (by decide) ?_
                refine lv_iload_n hx hb (dq da_X0_narrowProduct 38 rfl) rfl (lv_at hl 4 rfl) ?_
                refine lv_if_ne (tgt := 109) hx hb (dq da_X0_narrowProduct 39 rfl) (by decide) (fun c11 => ?_) (fun c11 => ?_)
                · have h := ie c11 h
                  refine lv_iload_n hx hb (dq da_X0_narrowProduct 43 rfl) rfl (lv_at hl 3 rfl) ?_
                  refine lv_iload_n hx hb (dq da_X0_narrowProduct 44 rfl) rfl (lv_at hl 4 rfl) ?_
                  refine lv_irem hx hb (dq da_X0_narrowProduct 45 rfl) c11 ?_
                  refine lv_i2l (v := (x1 - x1 / x2 * x2).toInt64) hx hb (dq da_X0_narrowProduct 46 rfl) rfl ?_
                  exact pret_l E hr hlk h (dq da_X0_narrowProduct 47 rfl)
                · have h := it c11 h
                  refine lv_iload_n hx hb (dq da_X0_narrowProduct 40 rfl) rfl (lv_at hl 3 rfl) ?_
                  refine lv_i2l (v := x1.toInt64) hx hb (dq da_X0_narrowProduct 41 rfl) rfl ?_
                  refine lv_goto (tgt := 113) hx hb (dq da_X0_narrowProduct 42 rfl) (by decide) ?_
                  exact pret_l E hr hlk h (dq da_X0_narrowProduct 47 rfl)
              · have h := ie c10 h
                refine lv_tableOut (tgt := 114) hx hb (dq da_X0_narrowProduct 11 rfl) (by have := lv_neT (k := (0 : Int32)) (a := 0) c1 rfl; have := lv_neT (k := (1 : Int32)) (a := 1) c2 rfl; have := lv_neT (k := (2 : Int32)) (a := 2) c4 rfl; have := lv_neT (k := (3 : Int32)) (a := 3) c5 rfl; have := lv_neT (k := (4 : Int32)) (a := 4) c6 rfl; have := lv_neT (k := (5 : Int32)) (a := 5) c8 rfl; have := lv_neT (k := (6 : Int32)) (a := 6) c10 rfl; omega) (by decide) ?_
                exact b_X0_narrowProduct_b114 E hr hlk h (lv_sub hl [3, 1, 0] rfl)
def dl_X0_isAtomic : List (Nat × Instr × Nat) := [(0, .iload_n 0, 1), (1, .iconst 4, 1), (2, .if_icmp .lt 9, 3), (5, .iload_n 0, 1), (6, .iconst 3, 1), (7, .iand, 1), (8, .ifCond .ne 7, 3), (11, .iconst 1, 1), (12, .goto 4, 3), (15, .iconst 0, 1), (16, .ireturn, 1)]
theorem da_X0_isAtomic : dkL cX0_isAtomic dl_X0_isAtomic = true := by decide +kernel
def f_X0_isAtomic_b11  : Int32 := (1 : Int32)
set_option maxRecDepth 100000 in
set_option maxHeartbeats 4000000 in
theorem b_X0_isAtomic_b11 {p : Program} {l : Launch} {e : Env} {s : State} {m : MethodId} {args : Array Value} {below : List Frame} {meth : Method} {c : Code} (E : CallFix p m c cX0_isAtomic 1 s args gw RX0) (hr : meth.sig.returnType = some .boolean) (hlk : meth.locks = false)  {r : Int32} (h : f_X0_isAtomic_b11  = r) {ls : Array Slot} (hl : lv_has ls 1 []) : Wp p l e 0 0 s m args below meth c (.int r) 11 ls [] := by
  have hx := E.1
  have hb := E.2.1
  have hown := E.2.2.2.1
  have hts := E.2.2.2.2
  refine lv_iconst (v := 1) hx hb (dq da_X0_isAtomic 7 rfl) rfl ?_
  refine lv_goto (tgt := 16) hx hb (dq da_X0_isAtomic 8 rfl) (by decide) ?_
  exact pret_z E hr hlk rfl h (dq da_X0_isAtomic 10 rfl)
def f_X0_isAtomic (x0 : Int32) : Int32 := if x0 < (4 : Int32) then (f_X0_isAtomic_b11 ) else (if (x0 &&& (3 : Int32)) = (0 : Int32) then (f_X0_isAtomic_b11 ) else (0 : Int32))
set_option maxRecDepth 100000 in
set_option maxHeartbeats 4000000 in
theorem c_X0_isAtomic (l : Launch) (x0 : Int32) : MP l yX0_isAtomic cX0_isAtomic 1 (some .boolean) 0 0 [.int x0] (.int (f_X0_isAtomic x0)) := by
  refine entP (by decide +kernel) (Nat.le_of_ble_eq_true rfl) ?_
  intro p e s m args below meth c ls E hr hlk hl
  have hl : lv_has ls 1 [(0, .int x0)] := hl
  generalize h : f_X0_isAtomic x0 = r
  have hx := E.1
  have hb := E.2.1
  have hown := E.2.2.2.1
  have hts := E.2.2.2.2
  refine lv_iload_n hx hb (dq da_X0_isAtomic 0 rfl) rfl (lv_at hl 0 rfl) ?_
  refine lv_iconst (v := 4) hx hb (dq da_X0_isAtomic 1 rfl) rfl ?_
  refine lv_icmp_lt (tgt := 11) hx hb (dq da_X0_isAtomic 2 rfl) (by decide) (fun c1 => ?_) (fun c1 => ?_)
  · have h := it c1 h
    exact b_X0_isAtomic_b11 E hr hlk h (lv_sub hl [] rfl)
  · have h := ie c1 h
    refine lv_iload_n hx hb (dq da_X0_isAtomic 3 rfl) rfl (lv_at hl 0 rfl) ?_
    refine lv_iconst (v := 3) hx hb (dq da_X0_isAtomic 4 rfl) rfl ?_
    refine lv_iand hx hb (dq da_X0_isAtomic 5 rfl) ?_
    refine lv_if_ne (tgt := 15) hx hb (dq da_X0_isAtomic 6 rfl) (by decide) (fun c2 => ?_) (fun c2 => ?_)
    · have h := ie c2 h
      refine lv_iconst (v := 0) hx hb (dq da_X0_isAtomic 9 rfl) rfl ?_
      exact pret_z E hr hlk rfl h (dq da_X0_isAtomic 10 rfl)
    · have h := it c2 h
      exact b_X0_isAtomic_b11 E hr hlk h (lv_sub hl [] rfl)
def dl_X0_atomic : List (Nat × Instr × Nat) := [(0, .iload_n 0, 1), (1, .tableswitch 171 0 24 #[115, 119, 171, 171, 121, 171, 171, 171, 125, 171, 171, 171, 129, 171, 171, 171, 133, 171, 171, 171, 145, 171, 171, 171, 157], 115), (116, .lload_n 1, 1), (117, .lload_n 3, 1), (118, .ladd, 1), (119, .lreturn, 1), (120, .lload_n 3, 1), (121, .lreturn, 1), (122, .lload_n 1, 1), (123, .lload_n 3, 1), (124, .lxor, 1), (125, .lreturn, 1), (126, .lload_n 1, 1), (127, .lload_n 3, 1), (128, .lor, 1), (129, .lreturn, 1), (130, .lload_n 1, 1), (131, .lload_n 3, 1), (132, .land, 1), (133, .lreturn, 1), (134, .lload_n 1, 1), (135, .lload_n 3, 1), (136, .lcmp, 1), (137, .ifCond .ge 7, 3), (140, .lload_n 1, 1), (141, .goto 4, 3), (144, .lload_n 3, 1), (145, .lreturn, 1), (146, .lload_n 1, 1), (147, .lload_n 3, 1), (148, .lcmp, 1), (149, .ifCond .le 7, 3), (152, .lload_n 1, 1), (153, .goto 4, 3), (156, .lload_n 3, 1), (157, .lreturn, 1), (158, .lload_n 1, 1), (159, .lload_n 3, 1), (160, .invokestatic 13, 3), (163, .ifCond .eq 7, 3), (166, .lload_n 1, 1), (167, .goto 4, 3), (170, .lload_n 3, 1), (171, .lreturn, 1), (172, .lload_n 1, 1), (173, .lload_n 3, 1), (174, .invokestatic 13, 3), (177, .ifCond .eq 7, 3), (180, .lload_n 3, 1), (181, .goto 4, 3), (184, .lload_n 1, 1), (185, .lreturn, 1)]
theorem da_X0_atomic : dkL cX0_atomic dl_X0_atomic = true := by decide +kernel
def f_X0_atomic_b172 (x1 : Int64) (x3 : Int64) : Int64 := if (f_X0_below x1 x3) = (0 : Int32) then x1 else x3
set_option maxRecDepth 100000 in
set_option maxHeartbeats 4000000 in
theorem b_X0_atomic_b172 {p : Program} {l : Launch} {e : Env} {s : State} {m : MethodId} {args : Array Value} {below : List Frame} {meth : Method} {c : Code} (E : CallFix p m c cX0_atomic 5 s args gw RX0) (hr : meth.sig.returnType = some .long) (hlk : meth.locks = false) {x1 : Int64} {x3 : Int64} {r : Int64} (h : f_X0_atomic_b172 x1 x3 = r) {ls : Array Slot} (hl : lv_has ls 5 [(1, .long x1), (3, .long x3)]) : Wp p l e 1 23 s m args below meth c (.long r) 172 ls [] := by
  have hx := E.1
  have hb := E.2.1
  have hown := E.2.2.2.1
  have hts := E.2.2.2.2
  refine lv_lload_n hx hb (dq da_X0_atomic 44 rfl) rfl (lv_at hl 0 rfl) ?_
  refine lv_lload_n hx hb (dq da_X0_atomic 45 rfl) rfl (lv_at hl 1 rfl) ?_
  refine callP E (c_X0_below l _ _ ) w_949 w_574 w_17 w_575 hd_X0_below rfl hl.1 rfl (Nat.le_of_ble_eq_true rfl) ⟨Nat.le_of_ble_eq_true rfl, Nat.le_of_ble_eq_true rfl⟩ (by decide) (dq da_X0_atomic 46 rfl) ?_
  refine lv_if_eq (tgt := 184) hx hb (dq da_X0_atomic 47 rfl) (by decide) (fun c4 => ?_) (fun c4 => ?_)
  · have h := it c4 h
    refine lv_lload_n hx hb (dq da_X0_atomic 50 rfl) rfl (lv_at hl 0 rfl) ?_
    exact pret_l E hr hlk h (dq da_X0_atomic 51 rfl)
  · have h := ie c4 h
    refine lv_lload_n hx hb (dq da_X0_atomic 48 rfl) rfl (lv_at hl 1 rfl) ?_
    refine lv_goto (tgt := 185) hx hb (dq da_X0_atomic 49 rfl) (by decide) ?_
    exact pret_l E hr hlk h (dq da_X0_atomic 51 rfl)
def f_X0_atomic (x0 : Int32) (x1 : Int64) (x3 : Int64) : Int64 := if x0 = (0 : Int32) then (x1 + x3) else if x0 = (1 : Int32) then x3 else if x0 = (2 : Int32) then (f_X0_atomic_b172 x1 x3) else if x0 = (3 : Int32) then (f_X0_atomic_b172 x1 x3) else if x0 = (4 : Int32) then (x1 ^^^ x3) else if x0 = (5 : Int32) then (f_X0_atomic_b172 x1 x3) else if x0 = (6 : Int32) then (f_X0_atomic_b172 x1 x3) else if x0 = (7 : Int32) then (f_X0_atomic_b172 x1 x3) else if x0 = (8 : Int32) then (x1 ||| x3) else if x0 = (9 : Int32) then (f_X0_atomic_b172 x1 x3) else if x0 = (10 : Int32) then (f_X0_atomic_b172 x1 x3) else if x0 = (11 : Int32) then (f_X0_atomic_b172 x1 x3) else if x0 = (12 : Int32) then (x1 &&& x3) else if x0 = (13 : Int32) then (f_X0_atomic_b172 x1 x3) else if x0 = (14 : Int32) then (f_X0_atomic_b172 x1 x3) else if x0 = (15 : Int32) then (f_X0_atomic_b172 x1 x3) else if x0 = (16 : Int32) then (if x3 ≤ x1 then x3 else x1) else if x0 = (17 : Int32) then (f_X0_atomic_b172 x1 x3) else if x0 = (18 : Int32) then (f_X0_atomic_b172 x1 x3) else if x0 = (19 : Int32) then (f_X0_atomic_b172 x1 x3) else if x0 = (20 : Int32) then (if x1 ≤ x3 then x3 else x1) else if x0 = (21 : Int32) then (f_X0_atomic_b172 x1 x3) else if x0 = (22 : Int32) then (f_X0_atomic_b172 x1 x3) else if x0 = (23 : Int32) then (f_X0_atomic_b172 x1 x3) else if x0 = (24 : Int32) then (if (f_X0_below x1 x3) = (0 : Int32) then x3 else x1) else (f_X0_atomic_b172 x1 x3)
set_option maxRecDepth 100000 in
set_option maxHeartbeats 4000000 in
theorem c_X0_atomic (l : Launch) (x0 : Int32) (x1 : Int64) (x3 : Int64) : MP l yX0_atomic cX0_atomic 5 (some .long) 1 23 [.int x0, .long x1, .long x3] (.long (f_X0_atomic x0 x1 x3)) := by
  refine entP (by decide +kernel) (Nat.le_of_ble_eq_true rfl) ?_
  intro p e s m args below meth c ls E hr hlk hl
  have hl : lv_has ls 5 [(0, .int x0), (1, .long x1), (3, .long x3)] := hl
  generalize h : f_X0_atomic x0 x1 x3 = r
  have hx := E.1
  have hb := E.2.1
  have hown := E.2.2.2.1
  have hts := E.2.2.2.2
  refine lv_iload_n hx hb (dq da_X0_atomic 0 rfl) rfl (lv_at hl 0 rfl) ?_
  by_cases c1 : x0 = (0 : Int32)
  · have h := it c1 h
    refine lv_tableIn (off := 115) (tgt := 116) hx hb (dq da_X0_atomic 1 rfl) (by rw [c1]; decide +kernel) (by rw [c1]; decide +kernel) (by rw [c1]; decide +kernel) (by decide) ?_
    refine lv_lload_n hx hb (dq da_X0_atomic 2 rfl) rfl (lv_at hl 1 rfl) ?_
    refine lv_lload_n hx hb (dq da_X0_atomic 3 rfl) rfl (lv_at hl 2 rfl) ?_
    refine lv_ladd hx hb (dq da_X0_atomic 4 rfl) ?_
    exact pret_l E hr hlk h (dq da_X0_atomic 5 rfl)
  · have h := ie c1 h
    by_cases c2 : x0 = (1 : Int32)
    · have h := it c2 h
      refine lv_tableIn (off := 119) (tgt := 120) hx hb (dq da_X0_atomic 1 rfl) (by rw [c2]; decide +kernel) (by rw [c2]; decide +kernel) (by rw [c2]; decide +kernel) (by decide) ?_
      refine lv_lload_n hx hb (dq da_X0_atomic 6 rfl) rfl (lv_at hl 2 rfl) ?_
      exact pret_l E hr hlk h (dq da_X0_atomic 7 rfl)
    · have h := ie c2 h
      by_cases c3 : x0 = (2 : Int32)
      · have h := it c3 h
        refine lv_tableIn (off := 171) (tgt := 172) hx hb (dq da_X0_atomic 1 rfl) (by rw [c3]; decide +kernel) (by rw [c3]; decide +kernel) (by rw [c3]; decide +kernel) (by decide) ?_
        exact b_X0_atomic_b172 E hr hlk h (lv_sub hl [1, 2] rfl)
      · have h := ie c3 h
        by_cases c5 : x0 = (3 : Int32)
        · have h := it c5 h
          refine lv_tableIn (off := 171) (tgt := 172) hx hb (dq da_X0_atomic 1 rfl) (by rw [c5]; decide +kernel) (by rw [c5]; decide +kernel) (by rw [c5]; decide +kernel) (by decide) ?_
          exact b_X0_atomic_b172 E hr hlk h (lv_sub hl [1, 2] rfl)
        · have h := ie c5 h
          by_cases c6 : x0 = (4 : Int32)
          · have h := it c6 h
            refine lv_tableIn (off := 121) (tgt := 122) hx hb (dq da_X0_atomic 1 rfl) (by rw [c6]; decide +kernel) (by rw [c6]; decide +kernel) (by rw [c6]; decide +kernel) (by decide) ?_
            refine lv_lload_n hx hb (dq da_X0_atomic 8 rfl) rfl (lv_at hl 1 rfl) ?_
            refine lv_lload_n hx hb (dq da_X0_atomic 9 rfl) rfl (lv_at hl 2 rfl) ?_
            refine lv_lxor hx hb (dq da_X0_atomic 10 rfl) ?_
            exact pret_l E hr hlk h (dq da_X0_atomic 11 rfl)
          · have h := ie c6 h
            by_cases c7 : x0 = (5 : Int32)
            · have h := it c7 h
              refine lv_tableIn (off := 171) (tgt := 172) hx hb (dq da_X0_atomic 1 rfl) (by rw [c7]; decide +kernel) (by rw [c7]; decide +kernel) (by rw [c7]; decide +kernel) (by decide) ?_
              exact b_X0_atomic_b172 E hr hlk h (lv_sub hl [1, 2] rfl)
            · have h := ie c7 h
              by_cases c8 : x0 = (6 : Int32)
              · have h := it c8 h
                refine lv_tableIn (off := 171) (tgt := 172) hx hb (dq da_X0_atomic 1 rfl) (by rw [c8]; decide +kernel) (by rw [c8]; decide +kernel) (by rw [c8]; decide +kernel) (by decide) ?_
                exact b_X0_atomic_b172 E hr hlk h (lv_sub hl [1, 2] rfl)
              · have h := ie c8 h
                by_cases c9 : x0 = (7 : Int32)
                · have h := it c9 h
                  refine lv_tableIn (off := 171) (tgt := 172) hx hb (dq da_X0_atomic 1 rfl) (by rw [c9]; decide +kernel) (by rw [c9]; decide +kernel) (by rw [c9]; decide +kernel) (by decide) ?_
                  exact b_X0_atomic_b172 E hr hlk h (lv_sub hl [1, 2] rfl)
                · have h := ie c9 h
                  by_cases c10 : x0 = (8 : Int32)
                  · have h := it c10 h
                    refine lv_tableIn (off := 125) (tgt := 126) hx hb (dq da_X0_atomic 1 rfl) (by rw [c10]; decide +kernel) (by rw [c10]; decide +kernel) (by rw [c10]; decide +kernel) (by decide) ?_
                    refine lv_lload_n hx hb (dq da_X0_atomic 12 rfl) rfl (lv_at hl 1 rfl) ?_
                    refine lv_lload_n hx hb (dq da_X0_atomic 13 rfl) rfl (lv_at hl 2 rfl) ?_
                    refine lv_lor hx hb (dq da_X0_atomic 14 rfl) ?_
                    exact pret_l E hr hlk h (dq da_X0_atomic 15 rfl)
                  · have h := ie c10 h
                    by_cases c11 : x0 = (9 : Int32)
                    · have h := it c11 h
                      refine lv_tableIn (off := 171) (tgt := 172) hx hb (dq da_X0_atomic 1 rfl) (by rw [c11]; decide +kernel) (by rw [c11]; decide +kernel) (by rw [c11]; decide +kernel) (by decide) ?_
                      exact b_X0_atomic_b172 E hr hlk h (lv_sub hl [1, 2] rfl)
                    · have h := ie c11 h
                      by_cases c12 : x0 = (10 : Int32)
                      · have h := it c12 h
                        refine lv_tableIn (off := 171) (tgt := 172) hx hb (dq da_X0_atomic 1 rfl) (by rw [c12]; decide +kernel) (by rw [c12]; decide +kernel) (by rw [c12]; decide +kernel) (by decide) ?_
                        exact b_X0_atomic_b172 E hr hlk h (lv_sub hl [1, 2] rfl)
                      · have h := ie c12 h
                        by_cases c13 : x0 = (11 : Int32)
                        · have h := it c13 h
                          refine lv_tableIn (off := 171) (tgt := 172) hx hb (dq da_X0_atomic 1 rfl) (by rw [c13]; decide +kernel) (by rw [c13]; decide +kernel) (by rw [c13]; decide +kernel) (by decide) ?_
                          exact b_X0_atomic_b172 E hr hlk h (lv_sub hl [1, 2] rfl)
                        · have h := ie c13 h
                          by_cases c14 : x0 = (12 : Int32)
                          · have h := it c14 h
                            refine lv_tableIn (off := 129) (tgt := 130) hx hb (dq da_X0_atomic 1 rfl) (by rw [c14]; decide +kernel) (by rw [c14]; decide +kernel) (by rw [c14]; decide +kernel) (by decide) ?_
                            refine lv_lload_n hx hb (dq da_X0_atomic 16 rfl) rfl (lv_at hl 1 rfl) ?_
                            refine lv_lload_n hx hb (dq da_X0_atomic 17 rfl) rfl (lv_at hl 2 rfl) ?_
                            refine lv_land hx hb (dq da_X0_atomic 18 rfl) ?_
                            exact pret_l E hr hlk h (dq da_X0_atomic 19 rfl)
                          · have h := ie c14 h
                            by_cases c15 : x0 = (13 : Int32)
                            · have h := it c15 h
                              refine lv_tableIn (off := 171) (tgt := 172) hx hb (dq da_X0_atomic 1 rfl) (by rw [c15]; decide +kernel) (by rw [c15]; decide +kernel) (by rw [c15]; decide +kernel) (by decide) ?_
                              exact b_X0_atomic_b172 E hr hlk h (lv_sub hl [1, 2] rfl)
                            · have h := ie c15 h
                              by_cases c16 : x0 = (14 : Int32)
                              · have h := it c16 h
                                refine lv_tableIn (off := 171) (tgt := 172) hx hb (dq da_X0_atomic 1 rfl) (by rw [c16]; decide +kernel) (by rw [c16]; decide +kernel) (by rw [c16]; decide +kernel) (by decide) ?_
                                exact b_X0_atomic_b172 E hr hlk h (lv_sub hl [1, 2] rfl)
                              · have h := ie c16 h
                                by_cases c17 : x0 = (15 : Int32)
                                · have h := it c17 h
                                  refine lv_tableIn (off := 171) (tgt := 172) hx hb (dq da_X0_atomic 1 rfl) (by rw [c17]; decide +kernel) (by rw [c17]; decide +kernel) (by rw [c17]; decide +kernel) (by decide) ?_
                                  exact b_X0_atomic_b172 E hr hlk h (lv_sub hl [1, 2] rfl)
                                · have h := ie c17 h
                                  by_cases c18 : x0 = (16 : Int32)
                                  · have h := it c18 h
                                    refine lv_tableIn (off := 133) (tgt := 134) hx hb (dq da_X0_atomic 1 rfl) (by rw [c18]; decide +kernel) (by rw [c18]; decide +kernel) (by rw [c18]; decide +kernel) (by decide) ?_
                                    refine lv_lload_n hx hb (dq da_X0_atomic 20 rfl) rfl (lv_at hl 1 rfl) ?_
                                    refine lv_lload_n hx hb (dq da_X0_atomic 21 rfl) rfl (lv_at hl 2 rfl) ?_
                                    refine lc_ge (tgt := 144) hx hb (dq da_X0_atomic 22 rfl) (dq da_X0_atomic 23 rfl) (by decide) (fun c19 => ?_) (fun c19 => ?_)
                                    · have h := it c19 h
                                      refine lv_lload_n hx hb (dq da_X0_atomic 26 rfl) rfl (lv_at hl 2 rfl) ?_
                                      exact pret_l E hr hlk h (dq da_X0_atomic 27 rfl)
                                    · have h := ie c19 h
                                      refine lv_lload_n hx hb (dq da_X0_atomic 24 rfl) rfl (lv_at hl 1 rfl) ?_
                                      refine lv_goto (tgt := 145) hx hb (dq da_X0_atomic 25 rfl) (by decide) ?_
                                      exact pret_l E hr hlk h (dq da_X0_atomic 27 rfl)
                                  · have h := ie c18 h
                                    by_cases c20 : x0 = (17 : Int32)
                                    · have h := it c20 h
                                      refine lv_tableIn (off := 171) (tgt := 172) hx hb (dq da_X0_atomic 1 rfl) (by rw [c20]; decide +kernel) (by rw [c20]; decide +kernel) (by rw [c20]; decide +kernel) (by decide) ?_
                                      exact b_X0_atomic_b172 E hr hlk h (lv_sub hl [1, 2] rfl)
                                    · have h := ie c20 h
                                      by_cases c21 : x0 = (18 : Int32)
                                      · have h := it c21 h
                                        refine lv_tableIn (off := 171) (tgt := 172) hx hb (dq da_X0_atomic 1 rfl) (by rw [c21]; decide +kernel) (by rw [c21]; decide +kernel) (by rw [c21]; decide +kernel) (by decide) ?_
                                        exact b_X0_atomic_b172 E hr hlk h (lv_sub hl [1, 2] rfl)
                                      · have h := ie c21 h
                                        by_cases c22 : x0 = (19 : Int32)
                                        · have h := it c22 h
                                          refine lv_tableIn (off := 171) (tgt := 172) hx hb (dq da_X0_atomic 1 rfl) (by rw [c22]; decide +kernel) (by rw [c22]; decide +kernel) (by rw [c22]; decide +kernel) (by decide) ?_
                                          exact b_X0_atomic_b172 E hr hlk h (lv_sub hl [1, 2] rfl)
                                        · have h := ie c22 h
                                          by_cases c23 : x0 = (20 : Int32)
                                          · have h := it c23 h
                                            refine lv_tableIn (off := 145) (tgt := 146) hx hb (dq da_X0_atomic 1 rfl) (by rw [c23]; decide +kernel) (by rw [c23]; decide +kernel) (by rw [c23]; decide +kernel) (by decide) ?_
                                            refine lv_lload_n hx hb (dq da_X0_atomic 28 rfl) rfl (lv_at hl 1 rfl) ?_
                                            refine lv_lload_n hx hb (dq da_X0_atomic 29 rfl) rfl (lv_at hl 2 rfl) ?_
                                            refine lc_le (tgt := 156) hx hb (dq da_X0_atomic 30 rfl) (dq da_X0_atomic 31 rfl) (by decide) (fun c24 => ?_) (fun c24 => ?_)
                                            · have h := it c24 h
                                              refine lv_lload_n hx hb (dq da_X0_atomic 34 rfl) rfl (lv_at hl 2 rfl) ?_
                                              exact pret_l E hr hlk h (dq da_X0_atomic 35 rfl)
                                            · have h := ie c24 h
                                              refine lv_lload_n hx hb (dq da_X0_atomic 32 rfl) rfl (lv_at hl 1 rfl) ?_
                                              refine lv_goto (tgt := 157) hx hb (dq da_X0_atomic 33 rfl) (by decide) ?_
                                              exact pret_l E hr hlk h (dq da_X0_atomic 35 rfl)
                                          · have h := ie c23 h
                                            by_cases c25 : x0 = (21 : Int32)
                                            · have h := it c25 h
                                              refine lv_tableIn (off := 171) (tgt := 172) hx hb (dq da_X0_atomic 1 rfl) (by rw [c25]; decide +kernel) (by rw [c25]; decide +kernel) (by rw [c25]; decide +kernel) (by decide) ?_
                                              exact b_X0_atomic_b172 E hr hlk h (lv_sub hl [1, 2] rfl)
                                            · have h := ie c25 h
                                              by_cases c26 : x0 = (22 : Int32)
                                              · have h := it c26 h
                                                refine lv_tableIn (off := 171) (tgt := 172) hx hb (dq da_X0_atomic 1 rfl) (by rw [c26]; decide +kernel) (by rw [c26]; decide +kernel) (by rw [c26]; decide +kernel) (by decide) ?_
                                                exact b_X0_atomic_b172 E hr hlk h (lv_sub hl [1, 2] rfl)
                                              · have h := ie c26 h
                                                by_cases c27 : x0 = (23 : Int32)
                                                · have h := it c27 h
                                                  refine lv_tableIn (off := 171) (tgt := 172) hx hb (dq da_X0_atomic 1 rfl) (by rw [c27]; decide +kernel) (by rw [c27]; decide +kernel) (by rw [c27]; decide +kernel) (by decide) ?_
                                                  exact b_X0_atomic_b172 E hr hlk h (lv_sub hl [1, 2] rfl)
                                                · have h := ie c27 h
                                                  by_cases c28 : x0 = (24 : Int32)
                                                  · have h := it c28 h
                                                    refine lv_tableIn (off := 157) (tgt := 158) hx hb (dq da_X0_atomic 1 rfl) (by rw [c28]; decide +kernel) (by rw [c28]; decide +kernel) (by rw [c28]; decide +kernel) (by decide) ?_
                                                    refine lv_lload_n hx hb (dq da_X0_atomic 36 rfl) rfl (lv_at hl 1 rfl) ?_
                                                    refine lv_lload_n hx hb (dq da_X0_atomic 37 rfl) rfl (lv_at hl 2 rfl) ?_
                                                    refine callP E (c_X0_below l _ _ ) w_949 w_574 w_17 w_575 hd_X0_below rfl hl.1 rfl (Nat.le_of_ble_eq_true rfl) ⟨Nat.le_of_ble_eq_true rfl, Nat.le_of_ble_eq_true rfl⟩ (by decide) (dq da_X0_atomic 38 rfl) ?_
                                                    refine lv_if_eq (tgt := 170) hx hb (dq da_X0_atomic 39 rfl) (by decide) (fun c29 => ?_) (fun c29 => ?_)
                                                    · have h := it c29 h
                                                      refine lv_lload_n hx hb (dq da_X0_atomic 42 rfl) rfl (lv_at hl 2 rfl) ?_
                                                      exact pret_l E hr hlk h (dq da_X0_atomic 43 rfl)
                                                    · have h := ie c29 h
                                                      refine lv_lload_n hx hb (dq da_X0_atomic 40 rfl) rfl (lv_at hl 1 rfl) ?_
                                                      refine lv_goto (tgt := 171) hx hb (dq da_X0_atomic 41 rfl) (by decide) ?_
                                                      exact pret_l E hr hlk h (dq da_X0_atomic 43 rfl)
                                                  · have h := ie c28 h
                                                    refine lv_tableOut (tgt := 172) hx hb (dq da_X0_atomic 1 rfl) (by have := lv_neT (k := (0 : Int32)) (a := 0) c1 rfl; have := lv_neT (k := (1 : Int32)) (a := 1) c2 rfl; have := lv_neT (k := (2 : Int32)) (a := 2) c3 rfl; have := lv_neT (k := (3 : Int32)) (a := 3) c5 rfl; have := lv_neT (k := (4 : Int32)) (a := 4) c6 rfl; have := lv_neT (k := (5 : Int32)) (a := 5) c7 rfl; have := lv_neT (k := (6 : Int32)) (a := 6) c8 rfl; have := lv_neT (k := (7 : Int32)) (a := 7) c9 rfl; have := lv_neT (k := (8 : Int32)) (a := 8) c10 rfl; have := lv_neT (k := (9 : Int32)) (a := 9) c11 rfl; have := lv_neT (k := (10 : Int32)) (a := 10) c12 rfl; have := lv_neT (k := (11 : Int32)) (a := 11) c13 rfl; have := lv_neT (k := (12 : Int32)) (a := 12) c14 rfl; have := lv_neT (k := (13 : Int32)) (a := 13) c15 rfl; have := lv_neT (k := (14 : Int32)) (a := 14) c16 rfl; have := lv_neT (k := (15 : Int32)) (a := 15) c17 rfl; have := lv_neT (k := (16 : Int32)) (a := 16) c18 rfl; have := lv_neT (k := (17 : Int32)) (a := 17) c20 rfl; have := lv_neT (k := (18 : Int32)) (a := 18) c21 rfl; have := lv_neT (k := (19 : Int32)) (a := 19) c22 rfl; have := lv_neT (k := (20 : Int32)) (a := 20) c23 rfl; have := lv_neT (k := (21 : Int32)) (a := 21) c25 rfl; have := lv_neT (k := (22 : Int32)) (a := 22) c26 rfl; have := lv_neT (k := (23 : Int32)) (a := 23) c27 rfl; have := lv_neT (k := (24 : Int32)) (a := 24) c28 rfl; omega) (by decide) ?_
                                                    exact b_X0_atomic_b172 E hr hlk h (lv_sub hl [1, 2] rfl)
def dl_X12_magic : List (Nat × Instr × Nat) := [(0, .iload_n 0, 1), (1, .ifCond .ne 8, 3), (4, .bipush 127, 2), (6, .goto 43, 3), (9, .iload_n 0, 1), (10, .iconst 1, 1), (11, .if_icmp .ne 8, 3), (14, .bipush 69, 2), (16, .goto 33, 3), (19, .iload_n 0, 1), (20, .iconst 2, 1), (21, .if_icmp .ne 8, 3), (24, .bipush 76, 2), (26, .goto 23, 3), (29, .iload_n 0, 1), (30, .iconst 3, 1), (31, .if_icmp .ne 8, 3), (34, .bipush 70, 2), (36, .goto 13, 3), (39, .iload_n 0, 1), (40, .iconst 4, 1), (41, .if_icmp .ne 7, 3), (44, .iconst 2, 1), (45, .goto 4, 3), (48, .iconst 1, 1), (49, .ireturn, 1)]
theorem da_X12_magic : dkL cX12_magic dl_X12_magic = true := by decide +kernel
def f_X12_magic (x0 : Int32) : Int32 := if x0 = (0 : Int32) then (127 : Int32) else (if x0 = (1 : Int32) then (69 : Int32) else (if x0 = (2 : Int32) then (76 : Int32) else (if x0 = (3 : Int32) then (70 : Int32) else (if x0 = (4 : Int32) then (2 : Int32) else (1 : Int32)))))
set_option maxRecDepth 100000 in
set_option maxHeartbeats 4000000 in
theorem c_X12_magic (l : Launch) (x0 : Int32) : MP l yX12_magic cX12_magic 1 (some .int) 0 0 [.int x0] (.int (f_X12_magic x0)) := by
  refine entP (by decide +kernel) (Nat.le_of_ble_eq_true rfl) ?_
  intro p e s m args below meth c ls E hr hlk hl
  have hl : lv_has ls 1 [(0, .int x0)] := hl
  generalize h : f_X12_magic x0 = r
  have hx := E.1
  have hb := E.2.1
  have hown := E.2.2.2.1
  have hts := E.2.2.2.2
  refine lv_iload_n hx hb (dq da_X12_magic 0 rfl) rfl (lv_at hl 0 rfl) ?_
  refine lv_if_ne (tgt := 9) hx hb (dq da_X12_magic 1 rfl) (by decide) (fun c1 => ?_) (fun c1 => ?_)
  · have h := ie c1 h
    refine lv_iload_n hx hb (dq da_X12_magic 4 rfl) rfl (lv_at hl 0 rfl) ?_
    refine lv_iconst (v := 1) hx hb (dq da_X12_magic 5 rfl) rfl ?_
    refine lv_icmp_ne (tgt := 19) hx hb (dq da_X12_magic 6 rfl) (by decide) (fun c2 => ?_) (fun c2 => ?_)
    · have h := ie c2 h
      refine lv_iload_n hx hb (dq da_X12_magic 9 rfl) rfl (lv_at hl 0 rfl) ?_
      refine lv_iconst (v := 2) hx hb (dq da_X12_magic 10 rfl) rfl ?_
      refine lv_icmp_ne (tgt := 29) hx hb (dq da_X12_magic 11 rfl) (by decide) (fun c3 => ?_) (fun c3 => ?_)
      · have h := ie c3 h
        refine lv_iload_n hx hb (dq da_X12_magic 14 rfl) rfl (lv_at hl 0 rfl) ?_
        refine lv_iconst (v := 3) hx hb (dq da_X12_magic 15 rfl) rfl ?_
        refine lv_icmp_ne (tgt := 39) hx hb (dq da_X12_magic 16 rfl) (by decide) (fun c4 => ?_) (fun c4 => ?_)
        · have h := ie c4 h
          refine lv_iload_n hx hb (dq da_X12_magic 19 rfl) rfl (lv_at hl 0 rfl) ?_
          refine lv_iconst (v := 4) hx hb (dq da_X12_magic 20 rfl) rfl ?_
          refine lv_icmp_ne (tgt := 48) hx hb (dq da_X12_magic 21 rfl) (by decide) (fun c5 => ?_) (fun c5 => ?_)
          · have h := ie c5 h
            refine lv_iconst (v := 1) hx hb (dq da_X12_magic 24 rfl) rfl ?_
            exact pret_i E hr hlk h (dq da_X12_magic 25 rfl)
          · have h := it c5 h
            refine lv_iconst (v := 2) hx hb (dq da_X12_magic 22 rfl) rfl ?_
            refine lv_goto (tgt := 49) hx hb (dq da_X12_magic 23 rfl) (by decide) ?_
            exact pret_i E hr hlk h (dq da_X12_magic 25 rfl)
        · have h := it c4 h
          refine lv_bipush (v := 70) hx hb (dq da_X12_magic 17 rfl) rfl ?_
          refine lv_goto (tgt := 49) hx hb (dq da_X12_magic 18 rfl) (by decide) ?_
          exact pret_i E hr hlk h (dq da_X12_magic 25 rfl)
      · have h := it c3 h
        refine lv_bipush (v := 76) hx hb (dq da_X12_magic 12 rfl) rfl ?_
        refine lv_goto (tgt := 49) hx hb (dq da_X12_magic 13 rfl) (by decide) ?_
        exact pret_i E hr hlk h (dq da_X12_magic 25 rfl)
    · have h := it c2 h
      refine lv_bipush (v := 69) hx hb (dq da_X12_magic 7 rfl) rfl ?_
      refine lv_goto (tgt := 49) hx hb (dq da_X12_magic 8 rfl) (by decide) ?_
      exact pret_i E hr hlk h (dq da_X12_magic 25 rfl)
  · have h := it c1 h
    refine lv_bipush (v := 127) hx hb (dq da_X12_magic 2 rfl) rfl ?_
    refine lv_goto (tgt := 49) hx hb (dq da_X12_magic 3 rfl) (by decide) ?_
    exact pret_i E hr hlk h (dq da_X12_magic 25 rfl)
def dl_X12_in : List (Nat × Instr × Nat) := [(0, .lload_n 0, 1), (1, .lload_n 2, 1), (2, .lcmp, 1), (3, .ifCond .lt 14, 3), (6, .lload_n 0, 1), (7, .lload 4, 2), (9, .lcmp, 1), (10, .ifCond .gt 7, 3), (13, .iconst 1, 1), (14, .goto 4, 3), (17, .iconst 0, 1), (18, .ireturn, 1)]
theorem da_X12_in : dkL cX12_in dl_X12_in = true := by decide +kernel
def f_X12_in_b17  : Int32 := (0 : Int32)
set_option maxRecDepth 100000 in
set_option maxHeartbeats 4000000 in
theorem b_X12_in_b17 {p : Program} {l : Launch} {e : Env} {s : State} {m : MethodId} {args : Array Value} {below : List Frame} {meth : Method} {c : Code} (E : CallFix p m c cX12_in 6 s args gw RX12) (hr : meth.sig.returnType = some .boolean) (hlk : meth.locks = false)  {r : Int32} (h : f_X12_in_b17  = r) {ls : Array Slot} (hl : lv_has ls 6 []) : Wp p l e 0 0 s m args below meth c (.int r) 17 ls [] := by
  have hx := E.1
  have hb := E.2.1
  have hown := E.2.2.2.1
  have hts := E.2.2.2.2
  refine lv_iconst (v := 0) hx hb (dq da_X12_in 10 rfl) rfl ?_
  exact pret_z E hr hlk rfl h (dq da_X12_in 11 rfl)
def f_X12_in (x0 : Int64) (x2 : Int64) (x4 : Int64) : Int32 := if x0 < x2 then (f_X12_in_b17 ) else (if x4 < x0 then (f_X12_in_b17 ) else (1 : Int32))
set_option maxRecDepth 100000 in
set_option maxHeartbeats 4000000 in
theorem c_X12_in (l : Launch) (x0 : Int64) (x2 : Int64) (x4 : Int64) : MP l yX12_in cX12_in 6 (some .boolean) 0 0 [.long x0, .long x2, .long x4] (.int (f_X12_in x0 x2 x4)) := by
  refine entP (by decide +kernel) (Nat.le_of_ble_eq_true rfl) ?_
  intro p e s m args below meth c ls E hr hlk hl
  have hl : lv_has ls 6 [(0, .long x0), (2, .long x2), (4, .long x4)] := hl
  generalize h : f_X12_in x0 x2 x4 = r
  have hx := E.1
  have hb := E.2.1
  have hown := E.2.2.2.1
  have hts := E.2.2.2.2
  refine lv_lload_n hx hb (dq da_X12_in 0 rfl) rfl (lv_at hl 0 rfl) ?_
  refine lv_lload_n hx hb (dq da_X12_in 1 rfl) rfl (lv_at hl 1 rfl) ?_
  refine lc_lt (tgt := 17) hx hb (dq da_X12_in 2 rfl) (dq da_X12_in 3 rfl) (by decide) (fun c1 => ?_) (fun c1 => ?_)
  · have h := it c1 h
    exact b_X12_in_b17 E hr hlk h (lv_sub hl [] rfl)
  · have h := ie c1 h
    refine lv_lload_n hx hb (dq da_X12_in 4 rfl) rfl (lv_at hl 0 rfl) ?_
    refine lv_lload hx hb (dq da_X12_in 5 rfl) (lv_at hl 2 rfl) ?_
    refine lc_gt (tgt := 17) hx hb (dq da_X12_in 6 rfl) (dq da_X12_in 7 rfl) (by decide) (fun c2 => ?_) (fun c2 => ?_)
    · have h := it c2 h
      exact b_X12_in_b17 E hr hlk h (lv_sub hl [] rfl)
    · have h := ie c2 h
      refine lv_iconst (v := 1) hx hb (dq da_X12_in 8 rfl) rfl ?_
      refine lv_goto (tgt := 18) hx hb (dq da_X12_in 9 rfl) (by decide) ?_
      exact pret_z E hr hlk rfl h (dq da_X12_in 11 rfl)
def dl_X12_lies : List (Nat × Instr × Nat) := [(0, .lload_n 0, 1), (1, .lconst 0, 1), (2, .lload 4, 2), (4, .invokestatic 87, 3), (7, .ifCond .eq 19, 3), (10, .lload_n 2, 1), (11, .lconst 0, 1), (12, .lload 4, 2), (14, .lload_n 0, 1), (15, .lsub, 1), (16, .invokestatic 87, 3), (19, .ifCond .eq 7, 3), (22, .iconst 1, 1), (23, .goto 4, 3), (26, .iconst 0, 1), (27, .ireturn, 1)]
theorem da_X12_lies : dkL cX12_lies dl_X12_lies = true := by decide +kernel
def f_X12_lies_b26  : Int32 := (0 : Int32)
set_option maxRecDepth 100000 in
set_option maxHeartbeats 4000000 in
theorem b_X12_lies_b26 {p : Program} {l : Launch} {e : Env} {s : State} {m : MethodId} {args : Array Value} {below : List Frame} {meth : Method} {c : Code} (E : CallFix p m c cX12_lies 6 s args gw RX12) (hr : meth.sig.returnType = some .boolean) (hlk : meth.locks = false)  {r : Int32} (h : f_X12_lies_b26  = r) {ls : Array Slot} (hl : lv_has ls 6 []) : Wp p l e 1 25 s m args below meth c (.int r) 26 ls [] := by
  have hx := E.1
  have hb := E.2.1
  have hown := E.2.2.2.1
  have hts := E.2.2.2.2
  refine lv_iconst (v := 0) hx hb (dq da_X12_lies 14 rfl) rfl ?_
  exact pret_z E hr hlk rfl h (dq da_X12_lies 15 rfl)
def f_X12_lies (x0 : Int64) (x2 : Int64) (x4 : Int64) : Int32 := if (f_X12_in x0 (0 : Int64) x4) = (0 : Int32) then (f_X12_lies_b26 ) else (if (f_X12_in x2 (0 : Int64) (x4 - x0)) = (0 : Int32) then (f_X12_lies_b26 ) else (1 : Int32))
set_option maxRecDepth 100000 in
set_option maxHeartbeats 4000000 in
theorem c_X12_lies (l : Launch) (x0 : Int64) (x2 : Int64) (x4 : Int64) : MP l yX12_lies cX12_lies 6 (some .boolean) 1 25 [.long x0, .long x2, .long x4] (.int (f_X12_lies x0 x2 x4)) := by
  refine entP (by decide +kernel) (Nat.le_of_ble_eq_true rfl) ?_
  intro p e s m args below meth c ls E hr hlk hl
  have hl : lv_has ls 6 [(0, .long x0), (2, .long x2), (4, .long x4)] := hl
  generalize h : f_X12_lies x0 x2 x4 = r
  have hx := E.1
  have hb := E.2.1
  have hown := E.2.2.2.1
  have hts := E.2.2.2.2
  refine lv_lload_n hx hb (dq da_X12_lies 0 rfl) rfl (lv_at hl 0 rfl) ?_
  refine lv_lconst (v := 0) hx hb (dq da_X12_lies 1 rfl) rfl ?_
  refine lv_lload hx hb (dq da_X12_lies 2 rfl) (lv_at hl 2 rfl) ?_
  refine callP E (c_X12_in l _ _ _ ) w_1275 w_1276 w_10 w_1277 hd_X12_in rfl hl.1 rfl (Nat.le_of_ble_eq_true rfl) ⟨Nat.le_of_ble_eq_true rfl, Nat.le_of_ble_eq_true rfl⟩ (by decide) (dq da_X12_lies 3 rfl) ?_
  refine lv_if_eq (tgt := 26) hx hb (dq da_X12_lies 4 rfl) (by decide) (fun c1 => ?_) (fun c1 => ?_)
  · have h := it c1 h
    exact b_X12_lies_b26 E hr hlk h (lv_sub hl [] rfl)
  · have h := ie c1 h
    refine lv_lload_n hx hb (dq da_X12_lies 5 rfl) rfl (lv_at hl 1 rfl) ?_
    refine lv_lconst (v := 0) hx hb (dq da_X12_lies 6 rfl) rfl ?_
    refine lv_lload hx hb (dq da_X12_lies 7 rfl) (lv_at hl 2 rfl) ?_
    refine lv_lload_n hx hb (dq da_X12_lies 8 rfl) rfl (lv_at hl 0 rfl) ?_
    refine lv_lsub hx hb (dq da_X12_lies 9 rfl) ?_
    refine callP E (c_X12_in l _ _ _ ) w_1275 w_1276 w_10 w_1277 hd_X12_in rfl hl.1 rfl (Nat.le_of_ble_eq_true rfl) ⟨Nat.le_of_ble_eq_true rfl, Nat.le_of_ble_eq_true rfl⟩ (by decide) (dq da_X12_lies 10 rfl) ?_
    refine lv_if_eq (tgt := 26) hx hb (dq da_X12_lies 11 rfl) (by decide) (fun c2 => ?_) (fun c2 => ?_)
    · have h := it c2 h
      exact b_X12_lies_b26 E hr hlk h (lv_sub hl [] rfl)
    · have h := ie c2 h
      refine lv_iconst (v := 1) hx hb (dq da_X12_lies 12 rfl) rfl ?_
      refine lv_goto (tgt := 27) hx hb (dq da_X12_lies 13 rfl) (by decide) ?_
      exact pret_z E hr hlk rfl h (dq da_X12_lies 15 rfl)
def dl_X12_isControl : List (Nat × Instr × Nat) := [(0, .iload_n 0, 1), (1, .lookupswitch 239 #[(256, 237), (260, 237), (261, 237), (262, 237), (320, 237), (321, 237), (322, 237), (323, 237), (324, 237), (384, 237), (768, 235), (769, 235), (770, 235), (771, 235), (772, 235), (773, 235), (774, 235), (832, 235), (833, 235), (834, 235), (835, 235), (836, 235), (2816, 235), (2818, 235), (3857, 237), (3858, 237), (3859, 237), (3860, 237)], 235), (236, .iconst 1, 1), (237, .ireturn, 1), (238, .iconst 1, 1), (239, .ireturn, 1), (240, .iload_n 0, 1), (241, .i2l, 1), (242, .ldc2_w 244, 3), (245, .ldc2_w 246, 3), (248, .invokestatic 87, 3), (251, .ireturn, 1)]
theorem da_X12_isControl : dkL cX12_isControl dl_X12_isControl = true := by decide +kernel
def f_X12_isControl_b238  : Option (Int32) := some (1 : Int32)
set_option maxRecDepth 100000 in
set_option maxHeartbeats 4000000 in
theorem b_X12_isControl_b238 {p : Program} {l : Launch} {e : Env} {s : State} {m : MethodId} {args : Array Value} {below : List Frame} {meth : Method} {c : Code} (E : CallFix p m c cX12_isControl 1 s args gw RX12) (hr : meth.sig.returnType = some .boolean) (hlk : meth.locks = false)  {r : Int32} (h : f_X12_isControl_b238  = some r) {ls : Array Slot} (hl : lv_has ls 1 []) : Wp p l e 1 25 s m args below meth c (.int r) 238 ls [] := by
  have hx := E.1
  have hb := E.2.1
  have hown := E.2.2.2.1
  have hts := E.2.2.2.2
  refine lv_iconst (v := 1) hx hb (dq da_X12_isControl 4 rfl) rfl ?_
  exact pret_z E hr hlk rfl (os h) (dq da_X12_isControl 5 rfl)
def f_X12_isControl_b236  : Option (Int32) := some (1 : Int32)
set_option maxRecDepth 100000 in
set_option maxHeartbeats 4000000 in
theorem b_X12_isControl_b236 {p : Program} {l : Launch} {e : Env} {s : State} {m : MethodId} {args : Array Value} {below : List Frame} {meth : Method} {c : Code} (E : CallFix p m c cX12_isControl 1 s args gw RX12) (hr : meth.sig.returnType = some .boolean) (hlk : meth.locks = false)  {r : Int32} (h : f_X12_isControl_b236  = some r) {ls : Array Slot} (hl : lv_has ls 1 []) : Wp p l e 1 25 s m args below meth c (.int r) 236 ls [] := by
  have hx := E.1
  have hb := E.2.1
  have hown := E.2.2.2.1
  have hts := E.2.2.2.2
  refine lv_iconst (v := 1) hx hb (dq da_X12_isControl 2 rfl) rfl ?_
  exact pret_z E hr hlk rfl (os h) (dq da_X12_isControl 3 rfl)
def f_X12_isControl (x0 : Int32) : Option (Int32) := if x0 = (256 : Int32) then (f_X12_isControl_b238 ) else if x0 = (260 : Int32) then (f_X12_isControl_b238 ) else if x0 = (261 : Int32) then (f_X12_isControl_b238 ) else if x0 = (262 : Int32) then (f_X12_isControl_b238 ) else if x0 = (320 : Int32) then (f_X12_isControl_b238 ) else if x0 = (321 : Int32) then (f_X12_isControl_b238 ) else if x0 = (322 : Int32) then (f_X12_isControl_b238 ) else if x0 = (323 : Int32) then (f_X12_isControl_b238 ) else if x0 = (324 : Int32) then (f_X12_isControl_b238 ) else if x0 = (384 : Int32) then (f_X12_isControl_b238 ) else if x0 = (768 : Int32) then (f_X12_isControl_b236 ) else if x0 = (769 : Int32) then (f_X12_isControl_b236 ) else if x0 = (770 : Int32) then (f_X12_isControl_b236 ) else if x0 = (771 : Int32) then (f_X12_isControl_b236 ) else if x0 = (772 : Int32) then (f_X12_isControl_b236 ) else if x0 = (773 : Int32) then (f_X12_isControl_b236 ) else if x0 = (774 : Int32) then (f_X12_isControl_b236 ) else if x0 = (832 : Int32) then (f_X12_isControl_b236 ) else if x0 = (833 : Int32) then (f_X12_isControl_b236 ) else if x0 = (834 : Int32) then (f_X12_isControl_b236 ) else if x0 = (835 : Int32) then (f_X12_isControl_b236 ) else if x0 = (836 : Int32) then (f_X12_isControl_b236 ) else if x0 = (2816 : Int32) then (f_X12_isControl_b236 ) else if x0 = (2818 : Int32) then (f_X12_isControl_b236 ) else if x0 = (3857 : Int32) then (f_X12_isControl_b238 ) else if x0 = (3858 : Int32) then (f_X12_isControl_b238 ) else if x0 = (3859 : Int32) then (f_X12_isControl_b238 ) else if x0 = (3860 : Int32) then (f_X12_isControl_b238 ) else (if (f_X12_in x0.toInt64 (3072 : Int64) (3074 : Int64)) &&& 1 = (f_X12_in x0.toInt64 (3072 : Int64) (3074 : Int64)) then some (f_X12_in x0.toInt64 (3072 : Int64) (3074 : Int64)) else none)
set_option maxRecDepth 100000 in
set_option maxHeartbeats 4000000 in
theorem c_X12_isControl (l : Launch) (x0 : Int32) {r : Int32} (h : f_X12_isControl x0 = some r) : MP l yX12_isControl cX12_isControl 1 (some .boolean) 1 25 [.int x0] (.int (r)) := by
  refine entP (by decide +kernel) (Nat.le_of_ble_eq_true rfl) ?_
  intro p e s m args below meth c ls E hr hlk hl
  have hl : lv_has ls 1 [(0, .int x0)] := hl
  have hx := E.1
  have hb := E.2.1
  have hown := E.2.2.2.1
  have hts := E.2.2.2.2
  refine lv_iload_n hx hb (dq da_X12_isControl 0 rfl) rfl (lv_at hl 0 rfl) ?_
  by_cases c1 : x0 = (256 : Int32)
  · have h := it c1 h
    refine lv_lookup (off := 237) (tgt := 238) hx hb (dq da_X12_isControl 1 rfl) (by decide +kernel) (by rw [c1]; decide +kernel) (by decide) ?_
    exact b_X12_isControl_b238 E hr hlk h (lv_sub hl [] rfl)
  · have h := ie c1 h
    by_cases c2 : x0 = (260 : Int32)
    · have h := it c2 h
      refine lv_lookup (off := 237) (tgt := 238) hx hb (dq da_X12_isControl 1 rfl) (by decide +kernel) (by rw [c2]; decide +kernel) (by decide) ?_
      exact b_X12_isControl_b238 E hr hlk h (lv_sub hl [] rfl)
    · have h := ie c2 h
      by_cases c3 : x0 = (261 : Int32)
      · have h := it c3 h
        refine lv_lookup (off := 237) (tgt := 238) hx hb (dq da_X12_isControl 1 rfl) (by decide +kernel) (by rw [c3]; decide +kernel) (by decide) ?_
        exact b_X12_isControl_b238 E hr hlk h (lv_sub hl [] rfl)
      · have h := ie c3 h
        by_cases c4 : x0 = (262 : Int32)
        · have h := it c4 h
          refine lv_lookup (off := 237) (tgt := 238) hx hb (dq da_X12_isControl 1 rfl) (by decide +kernel) (by rw [c4]; decide +kernel) (by decide) ?_
          exact b_X12_isControl_b238 E hr hlk h (lv_sub hl [] rfl)
        · have h := ie c4 h
          by_cases c5 : x0 = (320 : Int32)
          · have h := it c5 h
            refine lv_lookup (off := 237) (tgt := 238) hx hb (dq da_X12_isControl 1 rfl) (by decide +kernel) (by rw [c5]; decide +kernel) (by decide) ?_
            exact b_X12_isControl_b238 E hr hlk h (lv_sub hl [] rfl)
          · have h := ie c5 h
            by_cases c6 : x0 = (321 : Int32)
            · have h := it c6 h
              refine lv_lookup (off := 237) (tgt := 238) hx hb (dq da_X12_isControl 1 rfl) (by decide +kernel) (by rw [c6]; decide +kernel) (by decide) ?_
              exact b_X12_isControl_b238 E hr hlk h (lv_sub hl [] rfl)
            · have h := ie c6 h
              by_cases c7 : x0 = (322 : Int32)
              · have h := it c7 h
                refine lv_lookup (off := 237) (tgt := 238) hx hb (dq da_X12_isControl 1 rfl) (by decide +kernel) (by rw [c7]; decide +kernel) (by decide) ?_
                exact b_X12_isControl_b238 E hr hlk h (lv_sub hl [] rfl)
              · have h := ie c7 h
                by_cases c8 : x0 = (323 : Int32)
                · have h := it c8 h
                  refine lv_lookup (off := 237) (tgt := 238) hx hb (dq da_X12_isControl 1 rfl) (by decide +kernel) (by rw [c8]; decide +kernel) (by decide) ?_
                  exact b_X12_isControl_b238 E hr hlk h (lv_sub hl [] rfl)
                · have h := ie c8 h
                  by_cases c9 : x0 = (324 : Int32)
                  · have h := it c9 h
                    refine lv_lookup (off := 237) (tgt := 238) hx hb (dq da_X12_isControl 1 rfl) (by decide +kernel) (by rw [c9]; decide +kernel) (by decide) ?_
                    exact b_X12_isControl_b238 E hr hlk h (lv_sub hl [] rfl)
                  · have h := ie c9 h
                    by_cases c10 : x0 = (384 : Int32)
                    · have h := it c10 h
                      refine lv_lookup (off := 237) (tgt := 238) hx hb (dq da_X12_isControl 1 rfl) (by decide +kernel) (by rw [c10]; decide +kernel) (by decide) ?_
                      exact b_X12_isControl_b238 E hr hlk h (lv_sub hl [] rfl)
                    · have h := ie c10 h
                      by_cases c11 : x0 = (768 : Int32)
                      · have h := it c11 h
                        refine lv_lookup (off := 235) (tgt := 236) hx hb (dq da_X12_isControl 1 rfl) (by decide +kernel) (by rw [c11]; decide +kernel) (by decide) ?_
                        exact b_X12_isControl_b236 E hr hlk h (lv_sub hl [] rfl)
                      · have h := ie c11 h
                        by_cases c12 : x0 = (769 : Int32)
                        · have h := it c12 h
                          refine lv_lookup (off := 235) (tgt := 236) hx hb (dq da_X12_isControl 1 rfl) (by decide +kernel) (by rw [c12]; decide +kernel) (by decide) ?_
                          exact b_X12_isControl_b236 E hr hlk h (lv_sub hl [] rfl)
                        · have h := ie c12 h
                          by_cases c13 : x0 = (770 : Int32)
                          · have h := it c13 h
                            refine lv_lookup (off := 235) (tgt := 236) hx hb (dq da_X12_isControl 1 rfl) (by decide +kernel) (by rw [c13]; decide +kernel) (by decide) ?_
                            exact b_X12_isControl_b236 E hr hlk h (lv_sub hl [] rfl)
                          · have h := ie c13 h
                            by_cases c14 : x0 = (771 : Int32)
                            · have h := it c14 h
                              refine lv_lookup (off := 235) (tgt := 236) hx hb (dq da_X12_isControl 1 rfl) (by decide +kernel) (by rw [c14]; decide +kernel) (by decide) ?_
                              exact b_X12_isControl_b236 E hr hlk h (lv_sub hl [] rfl)
                            · have h := ie c14 h
                              by_cases c15 : x0 = (772 : Int32)
                              · have h := it c15 h
                                refine lv_lookup (off := 235) (tgt := 236) hx hb (dq da_X12_isControl 1 rfl) (by decide +kernel) (by rw [c15]; decide +kernel) (by decide) ?_
                                exact b_X12_isControl_b236 E hr hlk h (lv_sub hl [] rfl)
                              · have h := ie c15 h
                                by_cases c16 : x0 = (773 : Int32)
                                · have h := it c16 h
                                  refine lv_lookup (off := 235) (tgt := 236) hx hb (dq da_X12_isControl 1 rfl) (by decide +kernel) (by rw [c16]; decide +kernel) (by decide) ?_
                                  exact b_X12_isControl_b236 E hr hlk h (lv_sub hl [] rfl)
                                · have h := ie c16 h
                                  by_cases c17 : x0 = (774 : Int32)
                                  · have h := it c17 h
                                    refine lv_lookup (off := 235) (tgt := 236) hx hb (dq da_X12_isControl 1 rfl) (by decide +kernel) (by rw [c17]; decide +kernel) (by decide) ?_
                                    exact b_X12_isControl_b236 E hr hlk h (lv_sub hl [] rfl)
                                  · have h := ie c17 h
                                    by_cases c18 : x0 = (832 : Int32)
                                    · have h := it c18 h
                                      refine lv_lookup (off := 235) (tgt := 236) hx hb (dq da_X12_isControl 1 rfl) (by decide +kernel) (by rw [c18]; decide +kernel) (by decide) ?_
                                      exact b_X12_isControl_b236 E hr hlk h (lv_sub hl [] rfl)
                                    · have h := ie c18 h
                                      by_cases c19 : x0 = (833 : Int32)
                                      · have h := it c19 h
                                        refine lv_lookup (off := 235) (tgt := 236) hx hb (dq da_X12_isControl 1 rfl) (by decide +kernel) (by rw [c19]; decide +kernel) (by decide) ?_
                                        exact b_X12_isControl_b236 E hr hlk h (lv_sub hl [] rfl)
                                      · have h := ie c19 h
                                        by_cases c20 : x0 = (834 : Int32)
                                        · have h := it c20 h
                                          refine lv_lookup (off := 235) (tgt := 236) hx hb (dq da_X12_isControl 1 rfl) (by decide +kernel) (by rw [c20]; decide +kernel) (by decide) ?_
                                          exact b_X12_isControl_b236 E hr hlk h (lv_sub hl [] rfl)
                                        · have h := ie c20 h
                                          by_cases c21 : x0 = (835 : Int32)
                                          · have h := it c21 h
                                            refine lv_lookup (off := 235) (tgt := 236) hx hb (dq da_X12_isControl 1 rfl) (by decide +kernel) (by rw [c21]; decide +kernel) (by decide) ?_
                                            exact b_X12_isControl_b236 E hr hlk h (lv_sub hl [] rfl)
                                          · have h := ie c21 h
                                            by_cases c22 : x0 = (836 : Int32)
                                            · have h := it c22 h
                                              refine lv_lookup (off := 235) (tgt := 236) hx hb (dq da_X12_isControl 1 rfl) (by decide +kernel) (by rw [c22]; decide +kernel) (by decide) ?_
                                              exact b_X12_isControl_b236 E hr hlk h (lv_sub hl [] rfl)
                                            · have h := ie c22 h
                                              by_cases c23 : x0 = (2816 : Int32)
                                              · have h := it c23 h
                                                refine lv_lookup (off := 235) (tgt := 236) hx hb (dq da_X12_isControl 1 rfl) (by decide +kernel) (by rw [c23]; decide +kernel) (by decide) ?_
                                                exact b_X12_isControl_b236 E hr hlk h (lv_sub hl [] rfl)
                                              · have h := ie c23 h
                                                by_cases c24 : x0 = (2818 : Int32)
                                                · have h := it c24 h
                                                  refine lv_lookup (off := 235) (tgt := 236) hx hb (dq da_X12_isControl 1 rfl) (by decide +kernel) (by rw [c24]; decide +kernel) (by decide) ?_
                                                  exact b_X12_isControl_b236 E hr hlk h (lv_sub hl [] rfl)
                                                · have h := ie c24 h
                                                  by_cases c25 : x0 = (3857 : Int32)
                                                  · have h := it c25 h
                                                    refine lv_lookup (off := 237) (tgt := 238) hx hb (dq da_X12_isControl 1 rfl) (by decide +kernel) (by rw [c25]; decide +kernel) (by decide) ?_
                                                    exact b_X12_isControl_b238 E hr hlk h (lv_sub hl [] rfl)
                                                  · have h := ie c25 h
                                                    by_cases c26 : x0 = (3858 : Int32)
                                                    · have h := it c26 h
                                                      refine lv_lookup (off := 237) (tgt := 238) hx hb (dq da_X12_isControl 1 rfl) (by decide +kernel) (by rw [c26]; decide +kernel) (by decide) ?_
                                                      exact b_X12_isControl_b238 E hr hlk h (lv_sub hl [] rfl)
                                                    · have h := ie c26 h
                                                      by_cases c27 : x0 = (3859 : Int32)
                                                      · have h := it c27 h
                                                        refine lv_lookup (off := 237) (tgt := 238) hx hb (dq da_X12_isControl 1 rfl) (by decide +kernel) (by rw [c27]; decide +kernel) (by decide) ?_
                                                        exact b_X12_isControl_b238 E hr hlk h (lv_sub hl [] rfl)
                                                      · have h := ie c27 h
                                                        by_cases c28 : x0 = (3860 : Int32)
                                                        · have h := it c28 h
                                                          refine lv_lookup (off := 237) (tgt := 238) hx hb (dq da_X12_isControl 1 rfl) (by decide +kernel) (by rw [c28]; decide +kernel) (by decide) ?_
                                                          exact b_X12_isControl_b238 E hr hlk h (lv_sub hl [] rfl)
                                                        · have h := ie c28 h
                                                          refine lv_lookup (off := 239) (tgt := 240) hx hb (dq da_X12_isControl 1 rfl) (by decide +kernel) (by show Op.lookupswitch.offset [(256, 237), (260, 237), (261, 237), (262, 237), (320, 237), (321, 237), (322, 237), (323, 237), (324, 237), (384, 237), (768, 235), (769, 235), (770, 235), (771, 235), (772, 235), (773, 235), (774, 235), (832, 235), (833, 235), (834, 235), (835, 235), (836, 235), (2816, 235), (2818, 235), (3857, 237), (3858, 237), (3859, 237), (3860, 237)] (239) _ = _; rw [lv_osw (k := (256 : Int32)) (a := 256) c1 rfl, lv_osw (k := (260 : Int32)) (a := 260) c2 rfl, lv_osw (k := (261 : Int32)) (a := 261) c3 rfl, lv_osw (k := (262 : Int32)) (a := 262) c4 rfl, lv_osw (k := (320 : Int32)) (a := 320) c5 rfl, lv_osw (k := (321 : Int32)) (a := 321) c6 rfl, lv_osw (k := (322 : Int32)) (a := 322) c7 rfl, lv_osw (k := (323 : Int32)) (a := 323) c8 rfl, lv_osw (k := (324 : Int32)) (a := 324) c9 rfl, lv_osw (k := (384 : Int32)) (a := 384) c10 rfl, lv_osw (k := (768 : Int32)) (a := 768) c11 rfl, lv_osw (k := (769 : Int32)) (a := 769) c12 rfl, lv_osw (k := (770 : Int32)) (a := 770) c13 rfl, lv_osw (k := (771 : Int32)) (a := 771) c14 rfl, lv_osw (k := (772 : Int32)) (a := 772) c15 rfl, lv_osw (k := (773 : Int32)) (a := 773) c16 rfl, lv_osw (k := (774 : Int32)) (a := 774) c17 rfl, lv_osw (k := (832 : Int32)) (a := 832) c18 rfl, lv_osw (k := (833 : Int32)) (a := 833) c19 rfl, lv_osw (k := (834 : Int32)) (a := 834) c20 rfl, lv_osw (k := (835 : Int32)) (a := 835) c21 rfl, lv_osw (k := (836 : Int32)) (a := 836) c22 rfl, lv_osw (k := (2816 : Int32)) (a := 2816) c23 rfl, lv_osw (k := (2818 : Int32)) (a := 2818) c24 rfl, lv_osw (k := (3857 : Int32)) (a := 3857) c25 rfl, lv_osw (k := (3858 : Int32)) (a := 3858) c26 rfl, lv_osw (k := (3859 : Int32)) (a := 3859) c27 rfl, lv_osw (k := (3860 : Int32)) (a := 3860) c28 rfl]; rfl) (by decide) ?_
                                                          refine lv_iload_n hx hb (dq da_X12_isControl 6 rfl) rfl (lv_at hl 0 rfl) ?_
                                                          refine lv_i2l (v := x0.toInt64) hx hb (dq da_X12_isControl 7 rfl) rfl ?_
                                                          refine lv_ldc2 hx hb hown (hts _ w_1346) (dq da_X12_isControl 8 rfl) ?_
                                                          refine lv_ldc2 hx hb hown (hts _ w_1347) (dq da_X12_isControl 9 rfl) ?_
                                                          refine callP E (c_X12_in l _ _ _ ) w_1275 w_1276 w_10 w_1277 hd_X12_in rfl hl.1 rfl (Nat.le_of_ble_eq_true rfl) ⟨Nat.le_of_ble_eq_true rfl, Nat.le_of_ble_eq_true rfl⟩ (by decide) (dq da_X12_isControl 10 rfl) ?_
                                                          obtain ⟨hz29, h⟩ := oi h
                                                          exact pret_z E hr hlk (by show Value.int _ = _; rw [hz29]) (os h) (dq da_X12_isControl 11 rfl)
def dl_X12_isLess : List (Nat × Instr × Nat) := [(0, .lload_n 0, 1), (1, .ldc2_w 65, 3), (4, .ladd, 1), (5, .lload_n 2, 1), (6, .ldc2_w 65, 3), (9, .ladd, 1), (10, .lcmp, 1), (11, .ifCond .ge 7, 3), (14, .iconst 1, 1), (15, .goto 4, 3), (18, .iconst 0, 1), (19, .ireturn, 1)]
theorem da_X12_isLess : dkL cX12_isLess dl_X12_isLess = true := by decide +kernel
def f_X12_isLess (x0 : Int64) (x2 : Int64) : Int32 := if (x2 + (-9223372036854775808 : Int64)) ≤ (x0 + (-9223372036854775808 : Int64)) then (0 : Int32) else (1 : Int32)
set_option maxRecDepth 100000 in
set_option maxHeartbeats 4000000 in
theorem c_X12_isLess (l : Launch) (x0 : Int64) (x2 : Int64) : MP l yX12_isLess cX12_isLess 4 (some .boolean) 0 0 [.long x0, .long x2] (.int (f_X12_isLess x0 x2)) := by
  refine entP (by decide +kernel) (Nat.le_of_ble_eq_true rfl) ?_
  intro p e s m args below meth c ls E hr hlk hl
  have hl : lv_has ls 4 [(0, .long x0), (2, .long x2)] := hl
  generalize h : f_X12_isLess x0 x2 = r
  have hx := E.1
  have hb := E.2.1
  have hown := E.2.2.2.1
  have hts := E.2.2.2.2
  refine lv_lload_n hx hb (dq da_X12_isLess 0 rfl) rfl (lv_at hl 0 rfl) ?_
  refine lv_ldc2 hx hb hown (hts _ w_1361) (dq da_X12_isLess 1 rfl) ?_
  refine lv_ladd hx hb (dq da_X12_isLess 2 rfl) ?_
  refine lv_lload_n hx hb (dq da_X12_isLess 3 rfl) rfl (lv_at hl 1 rfl) ?_
  refine lv_ldc2 hx hb hown (hts _ w_1361) (dq da_X12_isLess 4 rfl) ?_
  refine lv_ladd hx hb (dq da_X12_isLess 5 rfl) ?_
  refine lc_ge (tgt := 18) hx hb (dq da_X12_isLess 6 rfl) (dq da_X12_isLess 7 rfl) (by decide) (fun c1 => ?_) (fun c1 => ?_)
  · have h := it c1 h
    refine lv_iconst (v := 0) hx hb (dq da_X12_isLess 10 rfl) rfl ?_
    exact pret_z E hr hlk rfl h (dq da_X12_isLess 11 rfl)
  · have h := ie c1 h
    refine lv_iconst (v := 1) hx hb (dq da_X12_isLess 8 rfl) rfl ?_
    refine lv_goto (tgt := 19) hx hb (dq da_X12_isLess 9 rfl) (by decide) ?_
    exact pret_z E hr hlk rfl h (dq da_X12_isLess 11 rfl)
def dl_X12_cut : List (Nat × Instr × Nat) := [(0, .lload_n 0, 1), (1, .iload_n 3, 1), (2, .lushr, 1), (3, .lconst 1, 1), (4, .iload_n 2, 1), (5, .iload_n 3, 1), (6, .isub, 1), (7, .iconst 1, 1), (8, .iadd, 1), (9, .lshl, 1), (10, .lconst 1, 1), (11, .lsub, 1), (12, .land, 1), (13, .lreturn, 1)]
theorem da_X12_cut : dkL cX12_cut dl_X12_cut = true := by decide +kernel
def f_X12_cut (x0 : Int64) (x2 : Int32) (x3 : Int32) : Int64 := ((j_lushr x0 x3) &&& ((j_lshl (1 : Int64) ((x2 - x3) + (1 : Int32))) - (1 : Int64)))
set_option maxRecDepth 100000 in
set_option maxHeartbeats 4000000 in
theorem c_X12_cut (l : Launch) (x0 : Int64) (x2 : Int32) (x3 : Int32) : MP l yX12_cut cX12_cut 4 (some .long) 0 0 [.long x0, .int x2, .int x3] (.long (f_X12_cut x0 x2 x3)) := by
  refine entP (by decide +kernel) (Nat.le_of_ble_eq_true rfl) ?_
  intro p e s m args below meth c ls E hr hlk hl
  have hl : lv_has ls 4 [(0, .long x0), (2, .int x2), (3, .int x3)] := hl
  generalize h : f_X12_cut x0 x2 x3 = r
  have hx := E.1
  have hb := E.2.1
  have hown := E.2.2.2.1
  have hts := E.2.2.2.2
  refine lv_lload_n hx hb (dq da_X12_cut 0 rfl) rfl (lv_at hl 0 rfl) ?_
  refine lv_iload_n hx hb (dq da_X12_cut 1 rfl) rfl (lv_at hl 2 rfl) ?_
  refine lv_lushr (v := (j_lushr x0 x3)) hx hb (dq da_X12_cut 2 rfl) rfl ?_
  refine lv_lconst (v := 1) hx hb (dq da_X12_cut 3 rfl) rfl ?_
  refine lv_iload_n hx hb (dq da_X12_cut 4 rfl) rfl (lv_at hl 1 rfl) ?_
  refine lv_iload_n hx hb (dq da_X12_cut 5 rfl) rfl (lv_at hl 2 rfl) ?_
  refine lv_isub hx hb (dq da_X12_cut 6 rfl) ?_
  refine lv_iconst (v := 1) hx hb (dq da_X12_cut 7 rfl) rfl ?_
  refine lv_iadd hx hb (dq da_X12_cut 8 rfl) ?_
  refine lv_lshl (v := (j_lshl (1 : Int64) ((x2 - x3) + (1 : Int32)))) hx hb (dq da_X12_cut 9 rfl) rfl ?_
  refine lv_lconst (v := 1) hx hb (dq da_X12_cut 10 rfl) rfl ?_
  refine lv_lsub hx hb (dq da_X12_cut 11 rfl) ?_
  refine lv_land hx hb (dq da_X12_cut 12 rfl) ?_
  exact pret_l E hr hlk h (dq da_X12_cut 13 rfl)
def dl_X12_ranked : List (Nat × Instr × Nat) := [(0, .iload_n 0, 1), (1, .ifCond .ne 8, 3), (4, .bipush 11, 2), (6, .goto 42, 3), (9, .iload_n 0, 1), (10, .iconst 1, 1), (11, .if_icmp .ne 7, 3), (14, .iconst 3, 1), (15, .goto 33, 3), (18, .iload_n 0, 1), (19, .iconst 2, 1), (20, .if_icmp .ne 8, 3), (23, .bipush 7, 2), (25, .goto 23, 3), (28, .iload_n 0, 1), (29, .iconst 3, 1), (30, .if_icmp .ne 8, 3), (33, .bipush 9, 2), (35, .goto 13, 3), (38, .iload_n 0, 1), (39, .iconst 4, 1), (40, .if_icmp .ne 7, 3), (43, .iconst 1, 1), (44, .goto 4, 3), (47, .iconst 5, 1), (48, .ireturn, 1)]
theorem da_X12_ranked : dkL cX12_ranked dl_X12_ranked = true := by decide +kernel
def f_X12_ranked (x0 : Int32) : Int32 := if x0 = (0 : Int32) then (11 : Int32) else (if x0 = (1 : Int32) then (3 : Int32) else (if x0 = (2 : Int32) then (7 : Int32) else (if x0 = (3 : Int32) then (9 : Int32) else (if x0 = (4 : Int32) then (1 : Int32) else (5 : Int32)))))
set_option maxRecDepth 100000 in
set_option maxHeartbeats 4000000 in
theorem c_X12_ranked (l : Launch) (x0 : Int32) : MP l yX12_ranked cX12_ranked 1 (some .int) 0 0 [.int x0] (.int (f_X12_ranked x0)) := by
  refine entP (by decide +kernel) (Nat.le_of_ble_eq_true rfl) ?_
  intro p e s m args below meth c ls E hr hlk hl
  have hl : lv_has ls 1 [(0, .int x0)] := hl
  generalize h : f_X12_ranked x0 = r
  have hx := E.1
  have hb := E.2.1
  have hown := E.2.2.2.1
  have hts := E.2.2.2.2
  refine lv_iload_n hx hb (dq da_X12_ranked 0 rfl) rfl (lv_at hl 0 rfl) ?_
  refine lv_if_ne (tgt := 9) hx hb (dq da_X12_ranked 1 rfl) (by decide) (fun c1 => ?_) (fun c1 => ?_)
  · have h := ie c1 h
    refine lv_iload_n hx hb (dq da_X12_ranked 4 rfl) rfl (lv_at hl 0 rfl) ?_
    refine lv_iconst (v := 1) hx hb (dq da_X12_ranked 5 rfl) rfl ?_
    refine lv_icmp_ne (tgt := 18) hx hb (dq da_X12_ranked 6 rfl) (by decide) (fun c2 => ?_) (fun c2 => ?_)
    · have h := ie c2 h
      refine lv_iload_n hx hb (dq da_X12_ranked 9 rfl) rfl (lv_at hl 0 rfl) ?_
      refine lv_iconst (v := 2) hx hb (dq da_X12_ranked 10 rfl) rfl ?_
      refine lv_icmp_ne (tgt := 28) hx hb (dq da_X12_ranked 11 rfl) (by decide) (fun c3 => ?_) (fun c3 => ?_)
      · have h := ie c3 h
        refine lv_iload_n hx hb (dq da_X12_ranked 14 rfl) rfl (lv_at hl 0 rfl) ?_
        refine lv_iconst (v := 3) hx hb (dq da_X12_ranked 15 rfl) rfl ?_
        refine lv_icmp_ne (tgt := 38) hx hb (dq da_X12_ranked 16 rfl) (by decide) (fun c4 => ?_) (fun c4 => ?_)
        · have h := ie c4 h
          refine lv_iload_n hx hb (dq da_X12_ranked 19 rfl) rfl (lv_at hl 0 rfl) ?_
          refine lv_iconst (v := 4) hx hb (dq da_X12_ranked 20 rfl) rfl ?_
          refine lv_icmp_ne (tgt := 47) hx hb (dq da_X12_ranked 21 rfl) (by decide) (fun c5 => ?_) (fun c5 => ?_)
          · have h := ie c5 h
            refine lv_iconst (v := 5) hx hb (dq da_X12_ranked 24 rfl) rfl ?_
            exact pret_i E hr hlk h (dq da_X12_ranked 25 rfl)
          · have h := it c5 h
            refine lv_iconst (v := 1) hx hb (dq da_X12_ranked 22 rfl) rfl ?_
            refine lv_goto (tgt := 48) hx hb (dq da_X12_ranked 23 rfl) (by decide) ?_
            exact pret_i E hr hlk h (dq da_X12_ranked 25 rfl)
        · have h := it c4 h
          refine lv_bipush (v := 9) hx hb (dq da_X12_ranked 17 rfl) rfl ?_
          refine lv_goto (tgt := 48) hx hb (dq da_X12_ranked 18 rfl) (by decide) ?_
          exact pret_i E hr hlk h (dq da_X12_ranked 25 rfl)
      · have h := it c3 h
        refine lv_bipush (v := 7) hx hb (dq da_X12_ranked 12 rfl) rfl ?_
        refine lv_goto (tgt := 48) hx hb (dq da_X12_ranked 13 rfl) (by decide) ?_
        exact pret_i E hr hlk h (dq da_X12_ranked 25 rfl)
    · have h := it c2 h
      refine lv_iconst (v := 3) hx hb (dq da_X12_ranked 7 rfl) rfl ?_
      refine lv_goto (tgt := 48) hx hb (dq da_X12_ranked 8 rfl) (by decide) ?_
      exact pret_i E hr hlk h (dq da_X12_ranked 25 rfl)
  · have h := it c1 h
    refine lv_bipush (v := 11) hx hb (dq da_X12_ranked 2 rfl) rfl ?_
    refine lv_goto (tgt := 48) hx hb (dq da_X12_ranked 3 rfl) (by decide) ?_
    exact pret_i E hr hlk h (dq da_X12_ranked 25 rfl)
def dl_X12_signed : List (Nat × Instr × Nat) := [(0, .lload_n 0, 1), (1, .bipush 64, 2), (3, .iload_n 2, 1), (4, .isub, 1), (5, .lshl, 1), (6, .bipush 64, 2), (8, .iload_n 2, 1), (9, .isub, 1), (10, .lshr, 1), (11, .lreturn, 1)]
theorem da_X12_signed : dkL cX12_signed dl_X12_signed = true := by decide +kernel
def f_X12_signed (x0 : Int64) (x2 : Int32) : Int64 := (j_lshr (j_lshl x0 ((64 : Int32) - x2)) ((64 : Int32) - x2))
set_option maxRecDepth 100000 in
set_option maxHeartbeats 4000000 in
theorem c_X12_signed (l : Launch) (x0 : Int64) (x2 : Int32) : MP l yX12_signed cX12_signed 3 (some .long) 0 0 [.long x0, .int x2] (.long (f_X12_signed x0 x2)) := by
  refine entP (by decide +kernel) (Nat.le_of_ble_eq_true rfl) ?_
  intro p e s m args below meth c ls E hr hlk hl
  have hl : lv_has ls 3 [(0, .long x0), (2, .int x2)] := hl
  generalize h : f_X12_signed x0 x2 = r
  have hx := E.1
  have hb := E.2.1
  have hown := E.2.2.2.1
  have hts := E.2.2.2.2
  refine lv_lload_n hx hb (dq da_X12_signed 0 rfl) rfl (lv_at hl 0 rfl) ?_
  refine lv_bipush (v := 64) hx hb (dq da_X12_signed 1 rfl) rfl ?_
  refine lv_iload_n hx hb (dq da_X12_signed 2 rfl) rfl (lv_at hl 1 rfl) ?_
  refine lv_isub hx hb (dq da_X12_signed 3 rfl) ?_
  refine lv_lshl (v := (j_lshl x0 ((64 : Int32) - x2))) hx hb (dq da_X12_signed 4 rfl) rfl ?_
  refine lv_bipush (v := 64) hx hb (dq da_X12_signed 5 rfl) rfl ?_
  refine lv_iload_n hx hb (dq da_X12_signed 6 rfl) rfl (lv_at hl 1 rfl) ?_
  refine lv_isub hx hb (dq da_X12_signed 7 rfl) ?_
  refine lv_lshr (v := (j_lshr (j_lshl x0 ((64 : Int32) - x2)) ((64 : Int32) - x2))) hx hb (dq da_X12_signed 8 rfl) rfl ?_
  exact pret_l E hr hlk h (dq da_X12_signed 9 rfl)
def dl_X12_pageFault : List (Nat × Instr × Nat) := [(0, .iload_n 0, 1), (1, .ifCond .ne 8, 3), (4, .bipush 12, 2), (6, .goto 15, 3), (9, .iload_n 0, 1), (10, .iconst 1, 1), (11, .if_icmp .ne 8, 3), (14, .bipush 13, 2), (16, .goto 5, 3), (19, .bipush 15, 2), (21, .ireturn, 1)]
theorem da_X12_pageFault : dkL cX12_pageFault dl_X12_pageFault = true := by decide +kernel
def f_X12_pageFault (x0 : Int32) : Int32 := if x0 = (0 : Int32) then (12 : Int32) else (if x0 = (1 : Int32) then (13 : Int32) else (15 : Int32))
set_option maxRecDepth 100000 in
set_option maxHeartbeats 4000000 in
theorem c_X12_pageFault (l : Launch) (x0 : Int32) : MP l yX12_pageFault cX12_pageFault 1 (some .int) 0 0 [.int x0] (.int (f_X12_pageFault x0)) := by
  refine entP (by decide +kernel) (Nat.le_of_ble_eq_true rfl) ?_
  intro p e s m args below meth c ls E hr hlk hl
  have hl : lv_has ls 1 [(0, .int x0)] := hl
  generalize h : f_X12_pageFault x0 = r
  have hx := E.1
  have hb := E.2.1
  have hown := E.2.2.2.1
  have hts := E.2.2.2.2
  refine lv_iload_n hx hb (dq da_X12_pageFault 0 rfl) rfl (lv_at hl 0 rfl) ?_
  refine lv_if_ne (tgt := 9) hx hb (dq da_X12_pageFault 1 rfl) (by decide) (fun c1 => ?_) (fun c1 => ?_)
  · have h := ie c1 h
    refine lv_iload_n hx hb (dq da_X12_pageFault 4 rfl) rfl (lv_at hl 0 rfl) ?_
    refine lv_iconst (v := 1) hx hb (dq da_X12_pageFault 5 rfl) rfl ?_
    refine lv_icmp_ne (tgt := 19) hx hb (dq da_X12_pageFault 6 rfl) (by decide) (fun c2 => ?_) (fun c2 => ?_)
    · have h := ie c2 h
      refine lv_bipush (v := 15) hx hb (dq da_X12_pageFault 9 rfl) rfl ?_
      exact pret_i E hr hlk h (dq da_X12_pageFault 10 rfl)
    · have h := it c2 h
      refine lv_bipush (v := 13) hx hb (dq da_X12_pageFault 7 rfl) rfl ?_
      refine lv_goto (tgt := 21) hx hb (dq da_X12_pageFault 8 rfl) (by decide) ?_
      exact pret_i E hr hlk h (dq da_X12_pageFault 10 rfl)
  · have h := it c1 h
    refine lv_bipush (v := 12) hx hb (dq da_X12_pageFault 2 rfl) rfl ?_
    refine lv_goto (tgt := 21) hx hb (dq da_X12_pageFault 3 rfl) (by decide) ?_
    exact pret_i E hr hlk h (dq da_X12_pageFault 10 rfl)
def dl_X12_accessFault : List (Nat × Instr × Nat) := [(0, .iload_n 0, 1), (1, .ifCond .ne 7, 3), (4, .iconst 1, 1), (5, .goto 14, 3), (8, .iload_n 0, 1), (9, .iconst 1, 1), (10, .if_icmp .ne 7, 3), (13, .iconst 5, 1), (14, .goto 5, 3), (17, .bipush 7, 2), (19, .ireturn, 1)]
theorem da_X12_accessFault : dkL cX12_accessFault dl_X12_accessFault = true := by decide +kernel
def f_X12_accessFault (x0 : Int32) : Int32 := if x0 = (0 : Int32) then (1 : Int32) else (if x0 = (1 : Int32) then (5 : Int32) else (7 : Int32))
set_option maxRecDepth 100000 in
set_option maxHeartbeats 4000000 in
theorem c_X12_accessFault (l : Launch) (x0 : Int32) : MP l yX12_accessFault cX12_accessFault 1 (some .int) 0 0 [.int x0] (.int (f_X12_accessFault x0)) := by
  refine entP (by decide +kernel) (Nat.le_of_ble_eq_true rfl) ?_
  intro p e s m args below meth c ls E hr hlk hl
  have hl : lv_has ls 1 [(0, .int x0)] := hl
  generalize h : f_X12_accessFault x0 = r
  have hx := E.1
  have hb := E.2.1
  have hown := E.2.2.2.1
  have hts := E.2.2.2.2
  refine lv_iload_n hx hb (dq da_X12_accessFault 0 rfl) rfl (lv_at hl 0 rfl) ?_
  refine lv_if_ne (tgt := 8) hx hb (dq da_X12_accessFault 1 rfl) (by decide) (fun c1 => ?_) (fun c1 => ?_)
  · have h := ie c1 h
    refine lv_iload_n hx hb (dq da_X12_accessFault 4 rfl) rfl (lv_at hl 0 rfl) ?_
    refine lv_iconst (v := 1) hx hb (dq da_X12_accessFault 5 rfl) rfl ?_
    refine lv_icmp_ne (tgt := 17) hx hb (dq da_X12_accessFault 6 rfl) (by decide) (fun c2 => ?_) (fun c2 => ?_)
    · have h := ie c2 h
      refine lv_bipush (v := 7) hx hb (dq da_X12_accessFault 9 rfl) rfl ?_
      exact pret_i E hr hlk h (dq da_X12_accessFault 10 rfl)
    · have h := it c2 h
      refine lv_iconst (v := 5) hx hb (dq da_X12_accessFault 7 rfl) rfl ?_
      refine lv_goto (tgt := 19) hx hb (dq da_X12_accessFault 8 rfl) (by decide) ?_
      exact pret_i E hr hlk h (dq da_X12_accessFault 10 rfl)
  · have h := it c1 h
    refine lv_iconst (v := 1) hx hb (dq da_X12_accessFault 2 rfl) rfl ?_
    refine lv_goto (tgt := 19) hx hb (dq da_X12_accessFault 3 rfl) (by decide) ?_
    exact pret_i E hr hlk h (dq da_X12_accessFault 10 rfl)
def dl_X12_pick : List (Nat × Instr × Nat) := [(0, .lconst 0, 1), (1, .lstore 4, 2), (3, .lload_n 2, 1), (4, .lstore 6, 2), (6, .iconst 0, 1), (7, .istore 8, 2), (9, .lload 6, 2), (11, .lconst 0, 1), (12, .lcmp, 1), (13, .ifCond .eq 34, 3), (16, .lload 4, 2), (18, .lload_n 0, 1), (19, .lload 6, 2), (21, .ldc2_w 493, 3), (24, .land, 1), (25, .l2i, 1), (26, .lshr, 1), (27, .lconst 1, 1), (28, .land, 1), (29, .iload 8, 2), (31, .lshl, 1), (32, .lor, 1), (33, .lstore 4, 2), (35, .lload 6, 2), (37, .iconst 4, 1), (38, .lushr, 1), (39, .lstore 6, 2), (41, .iinc 8 1, 3), (44, .goto (-35), 3), (47, .lload 4, 2), (49, .lreturn, 1)]
theorem da_X12_pick : dkL cX12_pick dl_X12_pick = true := by decide +kernel
def f_X12_pick_b9_s (k9 : Int64 → Int64 → Int64 → Int32 → Option (Int64)) (x0 : Int64) (x4 : Int64) (x6 : Int64) (x8 : Int32) : Option (Int64) := if x6 = (0 : Int64) then (some x4) else (k9 x0 (x4 ||| (j_lshl ((j_lshr x0 ((x6 &&& (15 : Int64)).toInt32)) &&& (1 : Int64)) x8)) (j_lushr x6 (4 : Int32)) (x8 + (1 : Int32)))
set_option maxRecDepth 100000 in
set_option maxHeartbeats 4000000 in
theorem b_X12_pick_b9_s {p : Program} {l : Launch} {e : Env} {s : State} {m : MethodId} {args : Array Value} {below : List Frame} {meth : Method} {c : Code} (E : CallFix p m c cX12_pick 9 s args gw RX12) (hr : meth.sig.returnType = some .long) (hlk : meth.locks = false) {k9 : Int64 → Int64 → Int64 → Int32 → Option (Int64)} (hk9 : ∀ (x0 : Int64) (x4 : Int64) (x6 : Int64) (x8 : Int32) (r : Int64), k9 x0 x4 x6 x8 = some r → ∀ (ls : Array Slot), lv_has ls 9 [(0, .long x0), (4, .long x4), (6, .long x6), (8, .int x8)] → Wp p l e 0 0 s m args below meth c (.long r) 9 ls []) {x0 : Int64} {x4 : Int64} {x6 : Int64} {x8 : Int32} {r : Int64} (h : f_X12_pick_b9_s k9 x0 x4 x6 x8 = some r) {ls : Array Slot} (hl : lv_has ls 9 [(0, .long x0), (4, .long x4), (6, .long x6), (8, .int x8)]) : Wp p l e 0 0 s m args below meth c (.long r) 9 ls [] := by
  have hx := E.1
  have hb := E.2.1
  have hown := E.2.2.2.1
  have hts := E.2.2.2.2
  refine lv_lload hx hb (dq da_X12_pick 6 rfl) (lv_at hl 2 rfl) ?_
  refine lv_lconst (v := 0) hx hb (dq da_X12_pick 7 rfl) rfl ?_
  refine lc_eq (tgt := 47) hx hb (dq da_X12_pick 8 rfl) (dq da_X12_pick 9 rfl) (by decide) (fun c1 => ?_) (fun c1 => ?_)
  · have h := it c1 h
    refine lv_lload hx hb (dq da_X12_pick 29 rfl) (lv_at hl 1 rfl) ?_
    exact pret_l E hr hlk (os h) (dq da_X12_pick 30 rfl)
  · have h := ie c1 h
    refine lv_lload hx hb (dq da_X12_pick 10 rfl) (lv_at hl 1 rfl) ?_
    refine lv_lload_n hx hb (dq da_X12_pick 11 rfl) rfl (lv_at hl 0 rfl) ?_
    refine lv_lload hx hb (dq da_X12_pick 12 rfl) (lv_at hl 2 rfl) ?_
    refine lv_ldc2 hx hb hown (hts _ w_1469) (dq da_X12_pick 13 rfl) ?_
    refine lv_land hx hb (dq da_X12_pick 14 rfl) ?_
    refine lv_l2i (v := (x6 &&& (15 : Int64)).toInt32) hx hb (dq da_X12_pick 15 rfl) rfl ?_
    refine lv_lshr (v := (j_lshr x0 ((x6 &&& (15 : Int64)).toInt32))) hx hb (dq da_X12_pick 16 rfl) rfl ?_
    refine lv_lconst (v := 1) hx hb (dq da_X12_pick 17 rfl) rfl ?_
    refine lv_land hx hb (dq da_X12_pick 18 rfl) ?_
    refine lv_iload hx hb (dq da_X12_pick 19 rfl) (lv_at hl 3 rfl) ?_
    refine lv_lshl (v := (j_lshl ((j_lshr x0 ((x6 &&& (15 : Int64)).toInt32)) &&& (1 : Int64)) x8)) hx hb (dq da_X12_pick 20 rfl) rfl ?_
    refine lv_lor hx hb (dq da_X12_pick 21 rfl) ?_
    refine lv_lstore (lv' := [(4, .long (x4 ||| (j_lshl ((j_lshr x0 ((x6 &&& (15 : Int64)).toInt32)) &&& (1 : Int64)) x8))), (0, .long x0), (6, .long x6), (8, .int x8)]) hx hb (dq da_X12_pick 22 rfl) hl (by decide) rfl (fun ls hl => ?_)
    refine lv_lload hx hb (dq da_X12_pick 23 rfl) (lv_at hl 2 rfl) ?_
    refine lv_iconst (v := 4) hx hb (dq da_X12_pick 24 rfl) rfl ?_
    refine lv_lushr (v := (j_lushr x6 (4 : Int32))) hx hb (dq da_X12_pick 25 rfl) rfl ?_
    refine lv_lstore (lv' := [(6, .long (j_lushr x6 (4 : Int32))), (4, .long (x4 ||| (j_lshl ((j_lshr x0 ((x6 &&& (15 : Int64)).toInt32)) &&& (1 : Int64)) x8))), (0, .long x0), (8, .int x8)]) hx hb (dq da_X12_pick 26 rfl) hl (by decide) rfl (fun ls hl => ?_)
    refine lv_iinc (v := (x8 + (1 : Int32))) (lv' := [(8, .int (x8 + (1 : Int32))), (6, .long (j_lushr x6 (4 : Int32))), (4, .long (x4 ||| (j_lshl ((j_lshr x0 ((x6 &&& (15 : Int64)).toInt32)) &&& (1 : Int64)) x8))), (0, .long x0)]) hx hb (dq da_X12_pick 27 rfl) hl (k := 3) rfl rfl (by decide) rfl (fun ls hl => ?_)
    refine lv_goto (tgt := 9) hx hb (dq da_X12_pick 28 rfl) (by decide) ?_
    exact hk9 _ _ _ _ _ h ls (lv_sub hl [3, 2, 1, 0] rfl)
def f_X12_pick_b9 : Nat → Int64 → Int64 → Int64 → Int32 → Option (Int64)
  | 0 => fun _ _ _ _ => none
  | n + 1 => f_X12_pick_b9_s (f_X12_pick_b9 n)
theorem b_X12_pick_b9 {p : Program} {l : Launch} {e : Env} {s : State} {m : MethodId} {args : Array Value} {below : List Frame} {meth : Method} {c : Code} (E : CallFix p m c cX12_pick 9 s args gw RX12) (hr : meth.sig.returnType = some .long) (hlk : meth.locks = false) : ∀ n : Nat, ∀ (x0 : Int64) (x4 : Int64) (x6 : Int64) (x8 : Int32) (r : Int64), f_X12_pick_b9 n x0 x4 x6 x8 = some r → ∀ (ls : Array Slot), lv_has ls 9 [(0, .long x0), (4, .long x4), (6, .long x6), (8, .int x8)] → Wp p l e 0 0 s m args below meth c (.long r) 9 ls [] := by
  intro n
  induction n with
  | zero => intro x0 x4 x6 x8 r h; cases h
  | succ n ih => intro x0 x4 x6 x8 r h ls hl; exact b_X12_pick_b9_s E hr hlk ih h hl
def f_X12_pick (x0 : Int64) (x2 : Int64) : Option (Int64) := f_X12_pick_b9 FU x0 (0 : Int64) x2 (0 : Int32)
set_option maxRecDepth 100000 in
set_option maxHeartbeats 4000000 in
theorem c_X12_pick (l : Launch) (x0 : Int64) (x2 : Int64) {r : Int64} (h : f_X12_pick x0 x2 = some r) : MP l yX12_pick cX12_pick 9 (some .long) 0 0 [.long x0, .long x2] (.long (r)) := by
  refine entP (by decide +kernel) (Nat.le_of_ble_eq_true rfl) ?_
  intro p e s m args below meth c ls E hr hlk hl
  have hl : lv_has ls 9 [(0, .long x0), (2, .long x2)] := hl
  have hx := E.1
  have hb := E.2.1
  have hown := E.2.2.2.1
  have hts := E.2.2.2.2
  refine lv_lconst (v := 0) hx hb (dq da_X12_pick 0 rfl) rfl ?_
  refine lv_lstore (lv' := [(4, .long (0 : Int64)), (0, .long x0), (2, .long x2)]) hx hb (dq da_X12_pick 1 rfl) hl (by decide) rfl (fun ls hl => ?_)
  refine lv_lload_n hx hb (dq da_X12_pick 2 rfl) rfl (lv_at hl 2 rfl) ?_
  refine lv_lstore (lv' := [(6, .long x2), (4, .long (0 : Int64)), (0, .long x0), (2, .long x2)]) hx hb (dq da_X12_pick 3 rfl) hl (by decide) rfl (fun ls hl => ?_)
  refine lv_iconst (v := 0) hx hb (dq da_X12_pick 4 rfl) rfl ?_
  refine lv_istore (lv' := [(8, .int (0 : Int32)), (6, .long x2), (4, .long (0 : Int64)), (0, .long x0), (2, .long x2)]) hx hb (dq da_X12_pick 5 rfl) hl (by decide) rfl (fun ls hl => ?_)
  exact b_X12_pick_b9 E hr hlk FU _ _ _ _ _ h ls (lv_sub hl [3, 2, 1, 0] rfl)
def dl_X12_typeI : List (Nat × Instr × Nat) := [(0, .lload 6, 2), (2, .ldc2_w 485, 3), (5, .land, 1), (6, .bipush 20, 2), (8, .lshl, 1), (9, .lload 4, 2), (11, .bipush 15, 2), (13, .lshl, 1), (14, .lor, 1), (15, .iload_n 1, 1), (16, .i2l, 1), (17, .bipush 12, 2), (19, .lshl, 1), (20, .lor, 1), (21, .lload_n 2, 1), (22, .bipush 7, 2), (24, .lshl, 1), (25, .lor, 1), (26, .iload_n 0, 1), (27, .i2l, 1), (28, .lor, 1), (29, .lreturn, 1)]
theorem da_X12_typeI : dkL cX12_typeI dl_X12_typeI = true := by decide +kernel
def f_X12_typeI (x0 : Int32) (x1 : Int32) (x2 : Int64) (x4 : Int64) (x6 : Int64) : Int64 := (((((j_lshl (x6 &&& (4095 : Int64)) (20 : Int32)) ||| (j_lshl x4 (15 : Int32))) ||| (j_lshl x1.toInt64 (12 : Int32))) ||| (j_lshl x2 (7 : Int32))) ||| x0.toInt64)
set_option maxRecDepth 100000 in
set_option maxHeartbeats 4000000 in
theorem c_X12_typeI (l : Launch) (x0 : Int32) (x1 : Int32) (x2 : Int64) (x4 : Int64) (x6 : Int64) : MP l yX12_typeI cX12_typeI 8 (some .long) 0 0 [.int x0, .int x1, .long x2, .long x4, .long x6] (.long (f_X12_typeI x0 x1 x2 x4 x6)) := by
  refine entP (by decide +kernel) (Nat.le_of_ble_eq_true rfl) ?_
  intro p e s m args below meth c ls E hr hlk hl
  have hl : lv_has ls 8 [(0, .int x0), (1, .int x1), (2, .long x2), (4, .long x4), (6, .long x6)] := hl
  generalize h : f_X12_typeI x0 x1 x2 x4 x6 = r
  have hx := E.1
  have hb := E.2.1
  have hown := E.2.2.2.1
  have hts := E.2.2.2.2
  refine lv_lload hx hb (dq da_X12_typeI 0 rfl) (lv_at hl 4 rfl) ?_
  refine lv_ldc2 hx hb hown (hts _ w_1475) (dq da_X12_typeI 1 rfl) ?_
  refine lv_land hx hb (dq da_X12_typeI 2 rfl) ?_
  refine lv_bipush (v := 20) hx hb (dq da_X12_typeI 3 rfl) rfl ?_
  refine lv_lshl (v := (j_lshl (x6 &&& (4095 : Int64)) (20 : Int32))) hx hb (dq da_X12_typeI 4 rfl) rfl ?_
  refine lv_lload hx hb (dq da_X12_typeI 5 rfl) (lv_at hl 3 rfl) ?_
  refine lv_bipush (v := 15) hx hb (dq da_X12_typeI 6 rfl) rfl ?_
  refine lv_lshl (v := (j_lshl x4 (15 : Int32))) hx hb (dq da_X12_typeI 7 rfl) rfl ?_
  refine lv_lor hx hb (dq da_X12_typeI 8 rfl) ?_
  refine lv_iload_n hx hb (dq da_X12_typeI 9 rfl) rfl (lv_at hl 1 rfl) ?_
  refine lv_i2l (v := x1.toInt64) hx hb (dq da_X12_typeI 10 rfl) rfl ?_
  refine lv_bipush (v := 12) hx hb (dq da_X12_typeI 11 rfl) rfl ?_
  refine lv_lshl (v := (j_lshl x1.toInt64 (12 : Int32))) hx hb (dq da_X12_typeI 12 rfl) rfl ?_
  refine lv_lor hx hb (dq da_X12_typeI 13 rfl) ?_
  refine lv_lload_n hx hb (dq da_X12_typeI 14 rfl) rfl (lv_at hl 2 rfl) ?_
  refine lv_bipush (v := 7) hx hb (dq da_X12_typeI 15 rfl) rfl ?_
  refine lv_lshl (v := (j_lshl x2 (7 : Int32))) hx hb (dq da_X12_typeI 16 rfl) rfl ?_
  refine lv_lor hx hb (dq da_X12_typeI 17 rfl) ?_
  refine lv_iload_n hx hb (dq da_X12_typeI 18 rfl) rfl (lv_at hl 0 rfl) ?_
  refine lv_i2l (v := x0.toInt64) hx hb (dq da_X12_typeI 19 rfl) rfl ?_
  refine lv_lor hx hb (dq da_X12_typeI 20 rfl) ?_
  exact pret_l E hr hlk h (dq da_X12_typeI 21 rfl)
def dl_X12_typeS : List (Nat × Instr × Nat) := [(0, .lload 5, 2), (2, .bipush 11, 2), (4, .iconst 5, 1), (5, .invokestatic 196, 3), (8, .bipush 25, 2), (10, .lshl, 1), (11, .lload_n 3, 1), (12, .bipush 20, 2), (14, .lshl, 1), (15, .lor, 1), (16, .lload_n 1, 1), (17, .bipush 15, 2), (19, .lshl, 1), (20, .lor, 1), (21, .iload_n 0, 1), (22, .i2l, 1), (23, .bipush 12, 2), (25, .lshl, 1), (26, .lor, 1), (27, .lload 5, 2), (29, .iconst 4, 1), (30, .iconst 0, 1), (31, .invokestatic 196, 3), (34, .bipush 7, 2), (36, .lshl, 1), (37, .lor, 1), (38, .ldc2_w 487, 3), (41, .lor, 1), (42, .lreturn, 1)]
theorem da_X12_typeS : dkL cX12_typeS dl_X12_typeS = true := by decide +kernel
def f_X12_typeS (x0 : Int32) (x1 : Int64) (x3 : Int64) (x5 : Int64) : Int64 := ((((((j_lshl (f_X12_cut x5 (11 : Int32) (5 : Int32)) (25 : Int32)) ||| (j_lshl x3 (20 : Int32))) ||| (j_lshl x1 (15 : Int32))) ||| (j_lshl x0.toInt64 (12 : Int32))) ||| (j_lshl (f_X12_cut x5 (4 : Int32) (0 : Int32)) (7 : Int32))) ||| (35 : Int64))
set_option maxRecDepth 100000 in
set_option maxHeartbeats 4000000 in
theorem c_X12_typeS (l : Launch) (x0 : Int32) (x1 : Int64) (x3 : Int64) (x5 : Int64) : MP l yX12_typeS cX12_typeS 7 (some .long) 1 23 [.int x0, .long x1, .long x3, .long x5] (.long (f_X12_typeS x0 x1 x3 x5)) := by
  refine entP (by decide +kernel) (Nat.le_of_ble_eq_true rfl) ?_
  intro p e s m args below meth c ls E hr hlk hl
  have hl : lv_has ls 7 [(0, .int x0), (1, .long x1), (3, .long x3), (5, .long x5)] := hl
  generalize h : f_X12_typeS x0 x1 x3 x5 = r
  have hx := E.1
  have hb := E.2.1
  have hown := E.2.2.2.1
  have hts := E.2.2.2.2
  refine lv_lload hx hb (dq da_X12_typeS 0 rfl) (lv_at hl 3 rfl) ?_
  refine lv_bipush (v := 11) hx hb (dq da_X12_typeS 1 rfl) rfl ?_
  refine lv_iconst (v := 5) hx hb (dq da_X12_typeS 2 rfl) rfl ?_
  refine callP E (c_X12_cut l _ _ _ ) w_1384 w_1385 w_10 w_1386 hd_X12_cut rfl hl.1 rfl (Nat.le_of_ble_eq_true rfl) ⟨Nat.le_of_ble_eq_true rfl, Nat.le_of_ble_eq_true rfl⟩ (by decide) (dq da_X12_typeS 3 rfl) ?_
  refine lv_bipush (v := 25) hx hb (dq da_X12_typeS 4 rfl) rfl ?_
  refine lv_lshl (v := (j_lshl (f_X12_cut x5 (11 : Int32) (5 : Int32)) (25 : Int32))) hx hb (dq da_X12_typeS 5 rfl) rfl ?_
  refine lv_lload_n hx hb (dq da_X12_typeS 6 rfl) rfl (lv_at hl 2 rfl) ?_
  refine lv_bipush (v := 20) hx hb (dq da_X12_typeS 7 rfl) rfl ?_
  refine lv_lshl (v := (j_lshl x3 (20 : Int32))) hx hb (dq da_X12_typeS 8 rfl) rfl ?_
  refine lv_lor hx hb (dq da_X12_typeS 9 rfl) ?_
  refine lv_lload_n hx hb (dq da_X12_typeS 10 rfl) rfl (lv_at hl 1 rfl) ?_
  refine lv_bipush (v := 15) hx hb (dq da_X12_typeS 11 rfl) rfl ?_
  refine lv_lshl (v := (j_lshl x1 (15 : Int32))) hx hb (dq da_X12_typeS 12 rfl) rfl ?_
  refine lv_lor hx hb (dq da_X12_typeS 13 rfl) ?_
  refine lv_iload_n hx hb (dq da_X12_typeS 14 rfl) rfl (lv_at hl 0 rfl) ?_
  refine lv_i2l (v := x0.toInt64) hx hb (dq da_X12_typeS 15 rfl) rfl ?_
  refine lv_bipush (v := 12) hx hb (dq da_X12_typeS 16 rfl) rfl ?_
  refine lv_lshl (v := (j_lshl x0.toInt64 (12 : Int32))) hx hb (dq da_X12_typeS 17 rfl) rfl ?_
  refine lv_lor hx hb (dq da_X12_typeS 18 rfl) ?_
  refine lv_lload hx hb (dq da_X12_typeS 19 rfl) (lv_at hl 3 rfl) ?_
  refine lv_iconst (v := 4) hx hb (dq da_X12_typeS 20 rfl) rfl ?_
  refine lv_iconst (v := 0) hx hb (dq da_X12_typeS 21 rfl) rfl ?_
  refine callP E (c_X12_cut l _ _ _ ) w_1384 w_1385 w_10 w_1386 hd_X12_cut rfl hl.1 rfl (Nat.le_of_ble_eq_true rfl) ⟨Nat.le_of_ble_eq_true rfl, Nat.le_of_ble_eq_true rfl⟩ (by decide) (dq da_X12_typeS 22 rfl) ?_
  refine lv_bipush (v := 7) hx hb (dq da_X12_typeS 23 rfl) rfl ?_
  refine lv_lshl (v := (j_lshl (f_X12_cut x5 (4 : Int32) (0 : Int32)) (7 : Int32))) hx hb (dq da_X12_typeS 24 rfl) rfl ?_
  refine lv_lor hx hb (dq da_X12_typeS 25 rfl) ?_
  refine lv_ldc2 hx hb hown (hts _ w_1479) (dq da_X12_typeS 26 rfl) ?_
  refine lv_lor hx hb (dq da_X12_typeS 27 rfl) ?_
  exact pret_l E hr hlk h (dq da_X12_typeS 28 rfl)
def dl_X12_wideZero : List (Nat × Instr × Nat) := [(0, .lload_n 0, 1), (1, .ldc2_w 510, 3), (4, .invokestatic 501, 3), (7, .ldc2_w 83, 3), (10, .lmul, 1), (11, .lstore 7, 2), (13, .lload_n 0, 1), (14, .ldc2_w 512, 3), (17, .invokestatic 501, 3), (20, .ldc2_w 203, 3), (23, .lmul, 1), (24, .lstore 9, 2), (26, .iload_n 2, 1), (27, .tableswitch 125 0 7 #[45, 125, 83, 94, 125, 125, 105, 115], 45), (72, .lload_n 0, 1), (73, .ldc2_w 514, 3), (76, .invokestatic 501, 3), (79, .ldc2_w 83, 3), (82, .lmul, 1), (83, .lstore 11, 2), (85, .lload 11, 2), (87, .lconst 0, 1), (88, .lcmp, 1), (89, .ifCond .ne 7, 3), (92, .lconst 0, 1), (93, .goto 16, 3), (96, .bipush 19, 2), (98, .iconst 0, 1), (99, .lload 5, 2), (101, .ldc2_w 313, 3), (104, .lload 11, 2), (106, .invokestatic 516, 3), (109, .lreturn, 1), (110, .iconst 3, 1), (111, .iconst 2, 1), (112, .lload 5, 2), (114, .lload_n 3, 1), (115, .lload 7, 2), (117, .invokestatic 516, 3), (120, .lreturn, 1), (121, .iconst 3, 1), (122, .iconst 3, 1), (123, .lload 5, 2), (125, .lload_n 3, 1), (126, .lload 9, 2), (128, .invokestatic 516, 3), (131, .lreturn, 1), (132, .iconst 2, 1), (133, .lload_n 3, 1), (134, .lload 5, 2), (136, .lload 7, 2), (138, .invokestatic 520, 3), (141, .lreturn, 1), (142, .iconst 3, 1), (143, .lload_n 3, 1), (144, .lload 5, 2), (146, .lload 9, 2), (148, .invokestatic 520, 3), (151, .lreturn, 1), (152, .lconst 0, 1), (153, .lreturn, 1)]
theorem da_X12_wideZero : dkL cX12_wideZero dl_X12_wideZero = true := by decide +kernel
def f_X12_wideZero_b152  : Option (Int64) := some (0 : Int64)
set_option maxRecDepth 100000 in
set_option maxHeartbeats 4000000 in
theorem b_X12_wideZero_b152 {p : Program} {l : Launch} {e : Env} {s : State} {m : MethodId} {args : Array Value} {below : List Frame} {meth : Method} {c : Code} (E : CallFix p m c cX12_wideZero 13 s args gw RX12) (hr : meth.sig.returnType = some .long) (hlk : meth.locks = false)  {r : Int64} (h : f_X12_wideZero_b152  = some r) {ls : Array Slot} (hl : lv_has ls 13 []) : Wp p l e 2 49 s m args below meth c (.long r) 152 ls [] := by
  have hx := E.1
  have hb := E.2.1
  have hown := E.2.2.2.1
  have hts := E.2.2.2.2
  refine lv_lconst (v := 0) hx hb (dq da_X12_wideZero 59 rfl) rfl ?_
  exact pret_l E hr hlk (os h) (dq da_X12_wideZero 60 rfl)
def f_X12_wideZero (x0 : Int64) (x2 : Int32) (x3 : Int64) (x5 : Int64) : Option (Int64) := (f_X12_pick x0 (379814 : Int64)).bind (fun y1 => (f_X12_pick x0 (416954 : Int64)).bind (fun y3 => if x2 = (0 : Int32) then ((f_X12_pick x0 (2844248918 : Int64)).bind (fun y6 => if (y6 * (4 : Int64)) = (0 : Int64) then (some (0 : Int64)) else (some (f_X12_typeI (19 : Int32) (0 : Int32) x5 (2 : Int64) (y6 * (4 : Int64)))))) else if x2 = (1 : Int32) then (f_X12_wideZero_b152 ) else if x2 = (2 : Int32) then (some (f_X12_typeI (3 : Int32) (2 : Int32) x5 x3 (y1 * (4 : Int64)))) else if x2 = (3 : Int32) then (some (f_X12_typeI (3 : Int32) (3 : Int32) x5 x3 (y3 * (8 : Int64)))) else if x2 = (4 : Int32) then (f_X12_wideZero_b152 ) else if x2 = (5 : Int32) then (f_X12_wideZero_b152 ) else if x2 = (6 : Int32) then (some (f_X12_typeS (2 : Int32) x3 x5 (y1 * (4 : Int64)))) else if x2 = (7 : Int32) then (some (f_X12_typeS (3 : Int32) x3 x5 (y3 * (8 : Int64)))) else (f_X12_wideZero_b152 )))
set_option maxRecDepth 100000 in
set_option maxHeartbeats 4000000 in
theorem c_X12_wideZero (l : Launch) (x0 : Int64) (x2 : Int32) (x3 : Int64) (x5 : Int64) {r : Int64} (h : f_X12_wideZero x0 x2 x3 x5 = some r) : MP l yX12_wideZero cX12_wideZero 13 (some .long) 2 49 [.long x0, .int x2, .long x3, .long x5] (.long (r)) := by
  refine entP (by decide +kernel) (Nat.le_of_ble_eq_true rfl) ?_
  intro p e s m args below meth c ls E hr hlk hl
  have hl : lv_has ls 13 [(0, .long x0), (2, .int x2), (3, .long x3), (5, .long x5)] := hl
  have hx := E.1
  have hb := E.2.1
  have hown := E.2.2.2.1
  have hts := E.2.2.2.2
  refine lv_lload_n hx hb (dq da_X12_wideZero 0 rfl) rfl (lv_at hl 0 rfl) ?_
  refine lv_ldc2 hx hb hown (hts _ w_1465) (dq da_X12_wideZero 1 rfl) ?_
  obtain ⟨y1, hy2, h⟩ := ob h
  refine callP E (c_X12_pick l _ _ hy2) w_1466 w_1467 w_10 w_1468 hd_X12_pick rfl hl.1 rfl (Nat.le_of_ble_eq_true rfl) ⟨Nat.le_of_ble_eq_true rfl, Nat.le_of_ble_eq_true rfl⟩ (by decide) (dq da_X12_wideZero 2 rfl) ?_
  refine lv_ldc2 hx hb hown (hts _ w_1427) (dq da_X12_wideZero 3 rfl) ?_
  refine lv_lmul hx hb (dq da_X12_wideZero 4 rfl) ?_
  refine lv_lstore (lv' := [(7, .long (y1 * (4 : Int64))), (0, .long x0), (2, .int x2), (3, .long x3), (5, .long x5)]) hx hb (dq da_X12_wideZero 5 rfl) hl (by decide) rfl (fun ls hl => ?_)
  refine lv_lload_n hx hb (dq da_X12_wideZero 6 rfl) rfl (lv_at hl 1 rfl) ?_
  refine lv_ldc2 hx hb hown (hts _ w_1470) (dq da_X12_wideZero 7 rfl) ?_
  obtain ⟨y3, hy4, h⟩ := ob h
  refine callP E (c_X12_pick l _ _ hy4) w_1466 w_1467 w_10 w_1468 hd_X12_pick rfl hl.1 rfl (Nat.le_of_ble_eq_true rfl) ⟨Nat.le_of_ble_eq_true rfl, Nat.le_of_ble_eq_true rfl⟩ (by decide) (dq da_X12_wideZero 8 rfl) ?_
  refine lv_ldc2 hx hb hown (hts _ w_1283) (dq da_X12_wideZero 9 rfl) ?_
  refine lv_lmul hx hb (dq da_X12_wideZero 10 rfl) ?_
  refine lv_lstore (lv' := [(9, .long (y3 * (8 : Int64))), (7, .long (y1 * (4 : Int64))), (0, .long x0), (2, .int x2), (3, .long x3), (5, .long x5)]) hx hb (dq da_X12_wideZero 11 rfl) hl (by decide) rfl (fun ls hl => ?_)
  refine lv_iload_n hx hb (dq da_X12_wideZero 12 rfl) rfl (lv_at hl 3 rfl) ?_
  by_cases c5 : x2 = (0 : Int32)
  · have h := it c5 h
    refine lv_tableIn (off := 45) (tgt := 72) hx hb (dq da_X12_wideZero 13 rfl) (by rw [c5]; decide +kernel) (by rw [c5]; decide +kernel) (by rw [c5]; decide +kernel) (by decide) ?_
    refine lv_lload_n hx hb (dq da_X12_wideZero 14 rfl) rfl (lv_at hl 2 rfl) ?_
    refine lv_ldc2 hx hb hown (hts _ w_1471) (dq da_X12_wideZero 15 rfl) ?_
    obtain ⟨y6, hy7, h⟩ := ob h
    refine callP E (c_X12_pick l _ _ hy7) w_1466 w_1467 w_10 w_1468 hd_X12_pick rfl hl.1 rfl (Nat.le_of_ble_eq_true rfl) ⟨Nat.le_of_ble_eq_true rfl, Nat.le_of_ble_eq_true rfl⟩ (by decide) (dq da_X12_wideZero 16 rfl) ?_
    refine lv_ldc2 hx hb hown (hts _ w_1427) (dq da_X12_wideZero 17 rfl) ?_
    refine lv_lmul hx hb (dq da_X12_wideZero 18 rfl) ?_
    refine lv_lstore (lv' := [(11, .long (y6 * (4 : Int64))), (9, .long (y3 * (8 : Int64))), (7, .long (y1 * (4 : Int64))), (0, .long x0), (2, .int x2), (3, .long x3), (5, .long x5)]) hx hb (dq da_X12_wideZero 19 rfl) hl (by decide) rfl (fun ls hl => ?_)
    refine lv_lload hx hb (dq da_X12_wideZero 20 rfl) (lv_at hl 0 rfl) ?_
    refine lv_lconst (v := 0) hx hb (dq da_X12_wideZero 21 rfl) rfl ?_
    refine lc_ne (tgt := 96) hx hb (dq da_X12_wideZero 22 rfl) (dq da_X12_wideZero 23 rfl) (by decide) (fun c8 => ?_) (fun c8 => ?_)
    · have h := ie c8 h
      refine lv_bipush (v := 19) hx hb (dq da_X12_wideZero 26 rfl) rfl ?_
      refine lv_iconst (v := 0) hx hb (dq da_X12_wideZero 27 rfl) rfl ?_
      refine lv_lload hx hb (dq da_X12_wideZero 28 rfl) (lv_at hl 6 rfl) ?_
      refine lv_ldc2 hx hb hown (hts _ w_1269) (dq da_X12_wideZero 29 rfl) ?_
      refine lv_lload hx hb (dq da_X12_wideZero 30 rfl) (lv_at hl 0 rfl) ?_
      refine callP E (c_X12_typeI l _ _ _ _ _ ) w_1472 w_1473 w_10 w_1474 hd_X12_typeI rfl hl.1 rfl (Nat.le_of_ble_eq_true rfl) ⟨Nat.le_of_ble_eq_true rfl, Nat.le_of_ble_eq_true rfl⟩ (by decide) (dq da_X12_wideZero 31 rfl) ?_
      exact pret_l E hr hlk (os h) (dq da_X12_wideZero 32 rfl)
    · have h := it c8 h
      refine lv_lconst (v := 0) hx hb (dq da_X12_wideZero 24 rfl) rfl ?_
      refine lv_goto (tgt := 109) hx hb (dq da_X12_wideZero 25 rfl) (by decide) ?_
      exact pret_l E hr hlk (os h) (dq da_X12_wideZero 32 rfl)
  · have h := ie c5 h
    by_cases c9 : x2 = (1 : Int32)
    · have h := it c9 h
      refine lv_tableIn (off := 125) (tgt := 152) hx hb (dq da_X12_wideZero 13 rfl) (by rw [c9]; decide +kernel) (by rw [c9]; decide +kernel) (by rw [c9]; decide +kernel) (by decide) ?_
      exact b_X12_wideZero_b152 E hr hlk h (lv_sub hl [] rfl)
    · have h := ie c9 h
      by_cases c10 : x2 = (2 : Int32)
      · have h := it c10 h
        refine lv_tableIn (off := 83) (tgt := 110) hx hb (dq da_X12_wideZero 13 rfl) (by rw [c10]; decide +kernel) (by rw [c10]; decide +kernel) (by rw [c10]; decide +kernel) (by decide) ?_
        refine lv_iconst (v := 3) hx hb (dq da_X12_wideZero 33 rfl) rfl ?_
        refine lv_iconst (v := 2) hx hb (dq da_X12_wideZero 34 rfl) rfl ?_
        refine lv_lload hx hb (dq da_X12_wideZero 35 rfl) (lv_at hl 5 rfl) ?_
        refine lv_lload_n hx hb (dq da_X12_wideZero 36 rfl) rfl (lv_at hl 4 rfl) ?_
        refine lv_lload hx hb (dq da_X12_wideZero 37 rfl) (lv_at hl 1 rfl) ?_
        refine callP E (c_X12_typeI l _ _ _ _ _ ) w_1472 w_1473 w_10 w_1474 hd_X12_typeI rfl hl.1 rfl (Nat.le_of_ble_eq_true rfl) ⟨Nat.le_of_ble_eq_true rfl, Nat.le_of_ble_eq_true rfl⟩ (by decide) (dq da_X12_wideZero 38 rfl) ?_
        exact pret_l E hr hlk (os h) (dq da_X12_wideZero 39 rfl)
      · have h := ie c10 h
        by_cases c11 : x2 = (3 : Int32)
        · have h := it c11 h
          refine lv_tableIn (off := 94) (tgt := 121) hx hb (dq da_X12_wideZero 13 rfl) (by rw [c11]; decide +kernel) (by rw [c11]; decide +kernel) (by rw [c11]; decide +kernel) (by decide) ?_
          refine lv_iconst (v := 3) hx hb (dq da_X12_wideZero 40 rfl) rfl ?_
          refine lv_iconst (v := 3) hx hb (dq da_X12_wideZero 41 rfl) rfl ?_
          refine lv_lload hx hb (dq da_X12_wideZero 42 rfl) (lv_at hl 5 rfl) ?_
          refine lv_lload_n hx hb (dq da_X12_wideZero 43 rfl) rfl (lv_at hl 4 rfl) ?_
          refine lv_lload hx hb (dq da_X12_wideZero 44 rfl) (lv_at hl 0 rfl) ?_
          refine callP E (c_X12_typeI l _ _ _ _ _ ) w_1472 w_1473 w_10 w_1474 hd_X12_typeI rfl hl.1 rfl (Nat.le_of_ble_eq_true rfl) ⟨Nat.le_of_ble_eq_true rfl, Nat.le_of_ble_eq_true rfl⟩ (by decide) (dq da_X12_wideZero 45 rfl) ?_
          exact pret_l E hr hlk (os h) (dq da_X12_wideZero 46 rfl)
        · have h := ie c11 h
          by_cases c12 : x2 = (4 : Int32)
          · have h := it c12 h
            refine lv_tableIn (off := 125) (tgt := 152) hx hb (dq da_X12_wideZero 13 rfl) (by rw [c12]; decide +kernel) (by rw [c12]; decide +kernel) (by rw [c12]; decide +kernel) (by decide) ?_
            exact b_X12_wideZero_b152 E hr hlk h (lv_sub hl [] rfl)
          · have h := ie c12 h
            by_cases c13 : x2 = (5 : Int32)
            · have h := it c13 h
              refine lv_tableIn (off := 125) (tgt := 152) hx hb (dq da_X12_wideZero 13 rfl) (by rw [c13]; decide +kernel) (by rw [c13]; decide +kernel) (by rw [c13]; decide +kernel) (by decide) ?_
              exact b_X12_wideZero_b152 E hr hlk h (lv_sub hl [] rfl)
            · have h := ie c13 h
              by_cases c14 : x2 = (6 : Int32)
              · have h := it c14 h
                refine lv_tableIn (off := 105) (tgt := 132) hx hb (dq da_X12_wideZero 13 rfl) (by rw [c14]; decide +kernel) (by rw [c14]; decide +kernel) (by rw [c14]; decide +kernel) (by decide) ?_
                refine lv_iconst (v := 2) hx hb (dq da_X12_wideZero 47 rfl) rfl ?_
                refine lv_lload_n hx hb (dq da_X12_wideZero 48 rfl) rfl (lv_at hl 4 rfl) ?_
                refine lv_lload hx hb (dq da_X12_wideZero 49 rfl) (lv_at hl 5 rfl) ?_
                refine lv_lload hx hb (dq da_X12_wideZero 50 rfl) (lv_at hl 1 rfl) ?_
                refine callP E (c_X12_typeS l _ _ _ _ ) w_1476 w_1477 w_10 w_1478 hd_X12_typeS rfl hl.1 rfl (Nat.le_of_ble_eq_true rfl) ⟨Nat.le_of_ble_eq_true rfl, Nat.le_of_ble_eq_true rfl⟩ (by decide) (dq da_X12_wideZero 51 rfl) ?_
                exact pret_l E hr hlk (os h) (dq da_X12_wideZero 52 rfl)
              · have h := ie c14 h
                by_cases c15 : x2 = (7 : Int32)
                · have h := it c15 h
                  refine lv_tableIn (off := 115) (tgt := 142) hx hb (dq da_X12_wideZero 13 rfl) (by rw [c15]; decide +kernel) (by rw [c15]; decide +kernel) (by rw [c15]; decide +kernel) (by decide) ?_
                  refine lv_iconst (v := 3) hx hb (dq da_X12_wideZero 53 rfl) rfl ?_
                  refine lv_lload_n hx hb (dq da_X12_wideZero 54 rfl) rfl (lv_at hl 4 rfl) ?_
                  refine lv_lload hx hb (dq da_X12_wideZero 55 rfl) (lv_at hl 5 rfl) ?_
                  refine lv_lload hx hb (dq da_X12_wideZero 56 rfl) (lv_at hl 0 rfl) ?_
                  refine callP E (c_X12_typeS l _ _ _ _ ) w_1476 w_1477 w_10 w_1478 hd_X12_typeS rfl hl.1 rfl (Nat.le_of_ble_eq_true rfl) ⟨Nat.le_of_ble_eq_true rfl, Nat.le_of_ble_eq_true rfl⟩ (by decide) (dq da_X12_wideZero 57 rfl) ?_
                  exact pret_l E hr hlk (os h) (dq da_X12_wideZero 58 rfl)
                · have h := ie c15 h
                  refine lv_tableOut (tgt := 152) hx hb (dq da_X12_wideZero 13 rfl) (by have := lv_neT (k := (0 : Int32)) (a := 0) c5 rfl; have := lv_neT (k := (1 : Int32)) (a := 1) c9 rfl; have := lv_neT (k := (2 : Int32)) (a := 2) c10 rfl; have := lv_neT (k := (3 : Int32)) (a := 3) c11 rfl; have := lv_neT (k := (4 : Int32)) (a := 4) c12 rfl; have := lv_neT (k := (5 : Int32)) (a := 5) c13 rfl; have := lv_neT (k := (6 : Int32)) (a := 6) c14 rfl; have := lv_neT (k := (7 : Int32)) (a := 7) c15 rfl; omega) (by decide) ?_
                  exact b_X12_wideZero_b152 E hr hlk h (lv_sub hl [] rfl)
def dl_X12_typeR : List (Nat × Instr × Nat) := [(0, .lload_n 2, 1), (1, .bipush 25, 2), (3, .lshl, 1), (4, .lload 8, 2), (6, .bipush 20, 2), (8, .lshl, 1), (9, .lor, 1), (10, .lload 6, 2), (12, .bipush 15, 2), (14, .lshl, 1), (15, .lor, 1), (16, .iload_n 1, 1), (17, .i2l, 1), (18, .bipush 12, 2), (20, .lshl, 1), (21, .lor, 1), (22, .lload 4, 2), (24, .bipush 7, 2), (26, .lshl, 1), (27, .lor, 1), (28, .iload_n 0, 1), (29, .i2l, 1), (30, .lor, 1), (31, .lreturn, 1)]
theorem da_X12_typeR : dkL cX12_typeR dl_X12_typeR = true := by decide +kernel
def f_X12_typeR (x0 : Int32) (x1 : Int32) (x2 : Int64) (x4 : Int64) (x6 : Int64) (x8 : Int64) : Int64 := ((((((j_lshl x2 (25 : Int32)) ||| (j_lshl x8 (20 : Int32))) ||| (j_lshl x6 (15 : Int32))) ||| (j_lshl x1.toInt64 (12 : Int32))) ||| (j_lshl x4 (7 : Int32))) ||| x0.toInt64)
set_option maxRecDepth 100000 in
set_option maxHeartbeats 4000000 in
theorem c_X12_typeR (l : Launch) (x0 : Int32) (x1 : Int32) (x2 : Int64) (x4 : Int64) (x6 : Int64) (x8 : Int64) : MP l yX12_typeR cX12_typeR 10 (some .long) 0 0 [.int x0, .int x1, .long x2, .long x4, .long x6, .long x8] (.long (f_X12_typeR x0 x1 x2 x4 x6 x8)) := by
  refine entP (by decide +kernel) (Nat.le_of_ble_eq_true rfl) ?_
  intro p e s m args below meth c ls E hr hlk hl
  have hl : lv_has ls 10 [(0, .int x0), (1, .int x1), (2, .long x2), (4, .long x4), (6, .long x6), (8, .long x8)] := hl
  generalize h : f_X12_typeR x0 x1 x2 x4 x6 x8 = r
  have hx := E.1
  have hb := E.2.1
  have hown := E.2.2.2.1
  have hts := E.2.2.2.2
  refine lv_lload_n hx hb (dq da_X12_typeR 0 rfl) rfl (lv_at hl 2 rfl) ?_
  refine lv_bipush (v := 25) hx hb (dq da_X12_typeR 1 rfl) rfl ?_
  refine lv_lshl (v := (j_lshl x2 (25 : Int32))) hx hb (dq da_X12_typeR 2 rfl) rfl ?_
  refine lv_lload hx hb (dq da_X12_typeR 3 rfl) (lv_at hl 5 rfl) ?_
  refine lv_bipush (v := 20) hx hb (dq da_X12_typeR 4 rfl) rfl ?_
  refine lv_lshl (v := (j_lshl x8 (20 : Int32))) hx hb (dq da_X12_typeR 5 rfl) rfl ?_
  refine lv_lor hx hb (dq da_X12_typeR 6 rfl) ?_
  refine lv_lload hx hb (dq da_X12_typeR 7 rfl) (lv_at hl 4 rfl) ?_
  refine lv_bipush (v := 15) hx hb (dq da_X12_typeR 8 rfl) rfl ?_
  refine lv_lshl (v := (j_lshl x6 (15 : Int32))) hx hb (dq da_X12_typeR 9 rfl) rfl ?_
  refine lv_lor hx hb (dq da_X12_typeR 10 rfl) ?_
  refine lv_iload_n hx hb (dq da_X12_typeR 11 rfl) rfl (lv_at hl 1 rfl) ?_
  refine lv_i2l (v := x1.toInt64) hx hb (dq da_X12_typeR 12 rfl) rfl ?_
  refine lv_bipush (v := 12) hx hb (dq da_X12_typeR 13 rfl) rfl ?_
  refine lv_lshl (v := (j_lshl x1.toInt64 (12 : Int32))) hx hb (dq da_X12_typeR 14 rfl) rfl ?_
  refine lv_lor hx hb (dq da_X12_typeR 15 rfl) ?_
  refine lv_lload hx hb (dq da_X12_typeR 16 rfl) (lv_at hl 3 rfl) ?_
  refine lv_bipush (v := 7) hx hb (dq da_X12_typeR 17 rfl) rfl ?_
  refine lv_lshl (v := (j_lshl x4 (7 : Int32))) hx hb (dq da_X12_typeR 18 rfl) rfl ?_
  refine lv_lor hx hb (dq da_X12_typeR 19 rfl) ?_
  refine lv_iload_n hx hb (dq da_X12_typeR 20 rfl) rfl (lv_at hl 0 rfl) ?_
  refine lv_i2l (v := x0.toInt64) hx hb (dq da_X12_typeR 21 rfl) rfl ?_
  refine lv_lor hx hb (dq da_X12_typeR 22 rfl) ?_
  exact pret_l E hr hlk h (dq da_X12_typeR 23 rfl)
def dl_X12_wideFour : List (Nat × Instr × Nat) := [(0, .ldc2_w 203, 3), (3, .lload_n 0, 1), (4, .iconst 4, 1), (5, .iconst 2, 1), (6, .invokestatic 196, 3), (9, .ladd, 1), (10, .lstore 6, 2), (12, .lload_n 0, 1), (13, .bipush 11, 2), (15, .bipush 10, 2), (17, .invokestatic 196, 3), (20, .l2i, 1), (21, .istore 8, 2), (23, .iload 8, 2), (25, .iconst 2, 1), (26, .if_icmp .ge 32, 3), (29, .bipush 19, 2), (31, .iconst 5, 1), (32, .lload_n 2, 1), (33, .lload_n 2, 1), (34, .lload 4, 2), (36, .ldc2_w 446, 3), (39, .land, 1), (40, .iload 8, 2), (42, .iconst 1, 1), (43, .if_icmp .ne 9, 3), (46, .ldc2_w 544, 3), (49, .goto 4, 3), (52, .lconst 0, 1), (53, .lor, 1), (54, .invokestatic 516, 3), (57, .lreturn, 1), (58, .iload 8, 2), (60, .iconst 2, 1), (61, .if_icmp .ne 15, 3), (64, .bipush 19, 2), (66, .bipush 7, 2), (68, .lload_n 2, 1), (69, .lload_n 2, 1), (70, .lload 4, 2), (72, .invokestatic 516, 3), (75, .lreturn, 1), (76, .lload_n 0, 1), (77, .bipush 6, 2), (79, .iconst 5, 1), (80, .invokestatic 196, 3), (83, .l2i, 1), (84, .istore 9, 2), (86, .lload_n 0, 1), (87, .bipush 12, 2), (89, .bipush 12, 2), (91, .invokestatic 196, 3), (94, .lconst 1, 1), (95, .lcmp, 1), (96, .ifCond .ne 36, 3), (99, .iload 9, 2), (101, .iconst 1, 1), (102, .if_icmp .le 7, 3), (105, .lconst 0, 1), (106, .goto 25, 3), (109, .bipush 59, 2), (111, .iconst 0, 1), (112, .iload 9, 2), (114, .ifCond .ne 9, 3), (117, .ldc2_w 440, 3), (120, .goto 4, 3), (123, .lconst 0, 1), (124, .lload_n 2, 1), (125, .lload_n 2, 1), (126, .lload 6, 2), (128, .invokestatic 546, 3), (131, .lreturn, 1), (132, .bipush 51, 2), (134, .iload 9, 2), (136, .ifCond .ne 7, 3), (139, .iconst 0, 1), (140, .goto 26, 3), (143, .iload 9, 2), (145, .iconst 1, 1), (146, .if_icmp .ne 7, 3), (149, .iconst 4, 1), (150, .goto 16, 3), (153, .iload 9, 2), (155, .iconst 2, 1), (156, .if_icmp .ne 8, 3), (159, .bipush 6, 2), (161, .goto 5, 3), (164, .bipush 7, 2), (166, .iload 9, 2), (168, .ifCond .ne 9, 3), (171, .ldc2_w 440, 3), (174, .goto 4, 3), (177, .lconst 0, 1), (178, .lload_n 2, 1), (179, .lload_n 2, 1), (180, .lload 6, 2), (182, .invokestatic 546, 3), (185, .lreturn, 1)]
theorem da_X12_wideFour : dkL cX12_wideFour dl_X12_wideFour = true := by decide +kernel
def f_X12_wideFour_b178 (x2 : Int64) (x6 : Int64) (s0 : Int64) (s1 : Int32) (s2 : Int32) : Int64 := (f_X12_typeR s2 s1 s0 x2 x2 x6)
set_option maxRecDepth 100000 in
set_option maxHeartbeats 4000000 in
theorem b_X12_wideFour_b178 {p : Program} {l : Launch} {e : Env} {s : State} {m : MethodId} {args : Array Value} {below : List Frame} {meth : Method} {c : Code} (E : CallFix p m c cX12_wideFour 10 s args gw RX12) (hr : meth.sig.returnType = some .long) (hlk : meth.locks = false) {x2 : Int64} {x6 : Int64} {s0 : Int64} {s1 : Int32} {s2 : Int32} {r : Int64} (h : f_X12_wideFour_b178 x2 x6 s0 s1 s2 = r) {ls : Array Slot} (hl : lv_has ls 10 [(2, .long x2), (6, .long x6)]) : Wp p l e 1 29 s m args below meth c (.long r) 178 ls [.long s0, .int s1, .int s2] := by
  have hx := E.1
  have hb := E.2.1
  have hown := E.2.2.2.1
  have hts := E.2.2.2.2
  refine lv_lload_n hx hb (dq da_X12_wideFour 93 rfl) rfl (lv_at hl 0 rfl) ?_
  refine lv_lload_n hx hb (dq da_X12_wideFour 94 rfl) rfl (lv_at hl 0 rfl) ?_
  refine lv_lload hx hb (dq da_X12_wideFour 95 rfl) (lv_at hl 1 rfl) ?_
  refine callP E (c_X12_typeR l _ _ _ _ _ _ ) w_1492 w_1493 w_10 w_1494 hd_X12_typeR rfl hl.1 rfl (Nat.le_of_ble_eq_true rfl) ⟨Nat.le_of_ble_eq_true rfl, Nat.le_of_ble_eq_true rfl⟩ (by decide) (dq da_X12_wideFour 96 rfl) ?_
  exact pret_l E hr hlk h (dq da_X12_wideFour 97 rfl)
def f_X12_wideFour_b166 (x2 : Int64) (x6 : Int64) (x9 : Int32) (s0 : Int32) (s1 : Int32) : Int64 := if x9 = (0 : Int32) then (f_X12_wideFour_b178 x2 x6 (32 : Int64) s0 s1) else (f_X12_wideFour_b178 x2 x6 (0 : Int64) s0 s1)
set_option maxRecDepth 100000 in
set_option maxHeartbeats 4000000 in
theorem b_X12_wideFour_b166 {p : Program} {l : Launch} {e : Env} {s : State} {m : MethodId} {args : Array Value} {below : List Frame} {meth : Method} {c : Code} (E : CallFix p m c cX12_wideFour 10 s args gw RX12) (hr : meth.sig.returnType = some .long) (hlk : meth.locks = false) {x2 : Int64} {x6 : Int64} {x9 : Int32} {s0 : Int32} {s1 : Int32} {r : Int64} (h : f_X12_wideFour_b166 x2 x6 x9 s0 s1 = r) {ls : Array Slot} (hl : lv_has ls 10 [(2, .long x2), (6, .long x6), (9, .int x9)]) : Wp p l e 1 29 s m args below meth c (.long r) 166 ls [.int s0, .int s1] := by
  have hx := E.1
  have hb := E.2.1
  have hown := E.2.2.2.1
  have hts := E.2.2.2.2
  refine lv_iload hx hb (dq da_X12_wideFour 88 rfl) (lv_at hl 2 rfl) ?_
  refine lv_if_ne (tgt := 177) hx hb (dq da_X12_wideFour 89 rfl) (by decide) (fun c7 => ?_) (fun c7 => ?_)
  · have h := ie c7 h
    refine lv_lconst (v := 0) hx hb (dq da_X12_wideFour 92 rfl) rfl ?_
    exact b_X12_wideFour_b178 E hr hlk h (lv_sub hl [0, 1] rfl)
  · have h := it c7 h
    refine lv_ldc2 hx hb hown (hts _ w_1278) (dq da_X12_wideFour 90 rfl) ?_
    refine lv_goto (tgt := 178) hx hb (dq da_X12_wideFour 91 rfl) (by decide) ?_
    exact b_X12_wideFour_b178 E hr hlk h (lv_sub hl [0, 1] rfl)
def f_X12_wideFour_b124 (x2 : Int64) (x6 : Int64) (s0 : Int64) (s1 : Int32) (s2 : Int32) : Int64 := (f_X12_typeR s2 s1 s0 x2 x2 x6)
set_option maxRecDepth 100000 in
set_option maxHeartbeats 4000000 in
theorem b_X12_wideFour_b124 {p : Program} {l : Launch} {e : Env} {s : State} {m : MethodId} {args : Array Value} {below : List Frame} {meth : Method} {c : Code} (E : CallFix p m c cX12_wideFour 10 s args gw RX12) (hr : meth.sig.returnType = some .long) (hlk : meth.locks = false) {x2 : Int64} {x6 : Int64} {s0 : Int64} {s1 : Int32} {s2 : Int32} {r : Int64} (h : f_X12_wideFour_b124 x2 x6 s0 s1 s2 = r) {ls : Array Slot} (hl : lv_has ls 10 [(2, .long x2), (6, .long x6)]) : Wp p l e 1 29 s m args below meth c (.long r) 124 ls [.long s0, .int s1, .int s2] := by
  have hx := E.1
  have hb := E.2.1
  have hown := E.2.2.2.1
  have hts := E.2.2.2.2
  refine lv_lload_n hx hb (dq da_X12_wideFour 67 rfl) rfl (lv_at hl 0 rfl) ?_
  refine lv_lload_n hx hb (dq da_X12_wideFour 68 rfl) rfl (lv_at hl 0 rfl) ?_
  refine lv_lload hx hb (dq da_X12_wideFour 69 rfl) (lv_at hl 1 rfl) ?_
  refine callP E (c_X12_typeR l _ _ _ _ _ _ ) w_1492 w_1493 w_10 w_1494 hd_X12_typeR rfl hl.1 rfl (Nat.le_of_ble_eq_true rfl) ⟨Nat.le_of_ble_eq_true rfl, Nat.le_of_ble_eq_true rfl⟩ (by decide) (dq da_X12_wideFour 70 rfl) ?_
  exact pret_l E hr hlk h (dq da_X12_wideFour 71 rfl)
def f_X12_wideFour_b53 (s0 : Int64) (s1 : Int64) (s2 : Int64) (s3 : Int64) (s4 : Int32) (s5 : Int32) : Int64 := (f_X12_typeI s5 s4 s3 s2 (s1 ||| s0))
set_option maxRecDepth 100000 in
set_option maxHeartbeats 4000000 in
theorem b_X12_wideFour_b53 {p : Program} {l : Launch} {e : Env} {s : State} {m : MethodId} {args : Array Value} {below : List Frame} {meth : Method} {c : Code} (E : CallFix p m c cX12_wideFour 10 s args gw RX12) (hr : meth.sig.returnType = some .long) (hlk : meth.locks = false) {s0 : Int64} {s1 : Int64} {s2 : Int64} {s3 : Int64} {s4 : Int32} {s5 : Int32} {r : Int64} (h : f_X12_wideFour_b53 s0 s1 s2 s3 s4 s5 = r) {ls : Array Slot} (hl : lv_has ls 10 []) : Wp p l e 1 29 s m args below meth c (.long r) 53 ls [.long s0, .long s1, .long s2, .long s3, .int s4, .int s5] := by
  have hx := E.1
  have hb := E.2.1
  have hown := E.2.2.2.1
  have hts := E.2.2.2.2
  refine lv_lor hx hb (dq da_X12_wideFour 29 rfl) ?_
  refine callP E (c_X12_typeI l _ _ _ _ _ ) w_1472 w_1473 w_10 w_1474 hd_X12_typeI rfl hl.1 rfl (Nat.le_of_ble_eq_true rfl) ⟨Nat.le_of_ble_eq_true rfl, Nat.le_of_ble_eq_true rfl⟩ (by decide) (dq da_X12_wideFour 30 rfl) ?_
  exact pret_l E hr hlk h (dq da_X12_wideFour 31 rfl)
def f_X12_wideFour (x0 : Int64) (x2 : Int64) (x4 : Int64) : Int64 := if (2 : Int32) ≤ (f_X12_cut x0 (11 : Int32) (10 : Int32)).toInt32 then (if (f_X12_cut x0 (11 : Int32) (10 : Int32)).toInt32 = (2 : Int32) then (f_X12_typeI (19 : Int32) (7 : Int32) x2 x2 x4) else (if (f_X12_cut x0 (12 : Int32) (12 : Int32)) = (1 : Int64) then (if (f_X12_cut x0 (6 : Int32) (5 : Int32)).toInt32 ≤ (1 : Int32) then (if (f_X12_cut x0 (6 : Int32) (5 : Int32)).toInt32 = (0 : Int32) then (f_X12_wideFour_b124 x2 ((8 : Int64) + (f_X12_cut x0 (4 : Int32) (2 : Int32))) (32 : Int64) (0 : Int32) (59 : Int32)) else (f_X12_wideFour_b124 x2 ((8 : Int64) + (f_X12_cut x0 (4 : Int32) (2 : Int32))) (0 : Int64) (0 : Int32) (59 : Int32))) else (0 : Int64)) else (if (f_X12_cut x0 (6 : Int32) (5 : Int32)).toInt32 = (0 : Int32) then (f_X12_wideFour_b166 x2 ((8 : Int64) + (f_X12_cut x0 (4 : Int32) (2 : Int32))) ((f_X12_cut x0 (6 : Int32) (5 : Int32)).toInt32) (0 : Int32) (51 : Int32)) else (if (f_X12_cut x0 (6 : Int32) (5 : Int32)).toInt32 = (1 : Int32) then (f_X12_wideFour_b166 x2 ((8 : Int64) + (f_X12_cut x0 (4 : Int32) (2 : Int32))) ((f_X12_cut x0 (6 : Int32) (5 : Int32)).toInt32) (4 : Int32) (51 : Int32)) else (if (f_X12_cut x0 (6 : Int32) (5 : Int32)).toInt32 = (2 : Int32) then (f_X12_wideFour_b166 x2 ((8 : Int64) + (f_X12_cut x0 (4 : Int32) (2 : Int32))) ((f_X12_cut x0 (6 : Int32) (5 : Int32)).toInt32) (6 : Int32) (51 : Int32)) else (f_X12_wideFour_b166 x2 ((8 : Int64) + (f_X12_cut x0 (4 : Int32) (2 : Int32))) ((f_X12_cut x0 (6 : Int32) (5 : Int32)).toInt32) (7 : Int32) (51 : Int32))))))) else (if (f_X12_cut x0 (11 : Int32) (10 : Int32)).toInt32 = (1 : Int32) then (f_X12_wideFour_b53 (1024 : Int64) (x4 &&& (63 : Int64)) x2 x2 (5 : Int32) (19 : Int32)) else (f_X12_wideFour_b53 (0 : Int64) (x4 &&& (63 : Int64)) x2 x2 (5 : Int32) (19 : Int32)))
set_option maxRecDepth 100000 in
set_option maxHeartbeats 4000000 in
theorem c_X12_wideFour (l : Launch) (x0 : Int64) (x2 : Int64) (x4 : Int64) : MP l yX12_wideFour cX12_wideFour 10 (some .long) 1 29 [.long x0, .long x2, .long x4] (.long (f_X12_wideFour x0 x2 x4)) := by
  refine entP (by decide +kernel) (Nat.le_of_ble_eq_true rfl) ?_
  intro p e s m args below meth c ls E hr hlk hl
  have hl : lv_has ls 10 [(0, .long x0), (2, .long x2), (4, .long x4)] := hl
  generalize h : f_X12_wideFour x0 x2 x4 = r
  have hx := E.1
  have hb := E.2.1
  have hown := E.2.2.2.1
  have hts := E.2.2.2.2
  refine lv_ldc2 hx hb hown (hts _ w_1283) (dq da_X12_wideFour 0 rfl) ?_
  refine lv_lload_n hx hb (dq da_X12_wideFour 1 rfl) rfl (lv_at hl 0 rfl) ?_
  refine lv_iconst (v := 4) hx hb (dq da_X12_wideFour 2 rfl) rfl ?_
  refine lv_iconst (v := 2) hx hb (dq da_X12_wideFour 3 rfl) rfl ?_
  refine callP E (c_X12_cut l _ _ _ ) w_1384 w_1385 w_10 w_1386 hd_X12_cut rfl hl.1 rfl (Nat.le_of_ble_eq_true rfl) ⟨Nat.le_of_ble_eq_true rfl, Nat.le_of_ble_eq_true rfl⟩ (by decide) (dq da_X12_wideFour 4 rfl) ?_
  refine lv_ladd hx hb (dq da_X12_wideFour 5 rfl) ?_
  refine lv_lstore (lv' := [(6, .long ((8 : Int64) + (f_X12_cut x0 (4 : Int32) (2 : Int32)))), (0, .long x0), (2, .long x2), (4, .long x4)]) hx hb (dq da_X12_wideFour 6 rfl) hl (by decide) rfl (fun ls hl => ?_)
  refine lv_lload_n hx hb (dq da_X12_wideFour 7 rfl) rfl (lv_at hl 1 rfl) ?_
  refine lv_bipush (v := 11) hx hb (dq da_X12_wideFour 8 rfl) rfl ?_
  refine lv_bipush (v := 10) hx hb (dq da_X12_wideFour 9 rfl) rfl ?_
  refine callP E (c_X12_cut l _ _ _ ) w_1384 w_1385 w_10 w_1386 hd_X12_cut rfl hl.1 rfl (Nat.le_of_ble_eq_true rfl) ⟨Nat.le_of_ble_eq_true rfl, Nat.le_of_ble_eq_true rfl⟩ (by decide) (dq da_X12_wideFour 10 rfl) ?_
  refine lv_l2i (v := (f_X12_cut x0 (11 : Int32) (10 : Int32)).toInt32) hx hb (dq da_X12_wideFour 11 rfl) rfl ?_
  refine lv_istore (lv' := [(8, .int ((f_X12_cut x0 (11 : Int32) (10 : Int32)).toInt32)), (6, .long ((8 : Int64) + (f_X12_cut x0 (4 : Int32) (2 : Int32)))), (0, .long x0), (2, .long x2), (4, .long x4)]) hx hb (dq da_X12_wideFour 12 rfl) hl (by decide) rfl (fun ls hl => ?_)
  refine lv_iload hx hb (dq da_X12_wideFour 13 rfl) (lv_at hl 0 rfl) ?_
  refine lv_iconst (v := 2) hx hb (dq da_X12_wideFour 14 rfl) rfl ?_
  refine lv_icmp_ge (tgt := 58) hx hb (dq da_X12_wideFour 15 rfl) (by decide) (fun c1 => ?_) (fun c1 => ?_)
  · have h := it c1 h
    refine lv_iload hx hb (dq da_X12_wideFour 32 rfl) (lv_at hl 0 rfl) ?_
    refine lv_iconst (v := 2) hx hb (dq da_X12_wideFour 33 rfl) rfl ?_
    refine lv_icmp_ne (tgt := 76) hx hb (dq da_X12_wideFour 34 rfl) (by decide) (fun c2 => ?_) (fun c2 => ?_)
    · have h := ie c2 h
      refine lv_lload_n hx hb (dq da_X12_wideFour 42 rfl) rfl (lv_at hl 2 rfl) ?_
      refine lv_bipush (v := 6) hx hb (dq da_X12_wideFour 43 rfl) rfl ?_
      refine lv_iconst (v := 5) hx hb (dq da_X12_wideFour 44 rfl) rfl ?_
      refine callP E (c_X12_cut l _ _ _ ) w_1384 w_1385 w_10 w_1386 hd_X12_cut rfl hl.1 rfl (Nat.le_of_ble_eq_true rfl) ⟨Nat.le_of_ble_eq_true rfl, Nat.le_of_ble_eq_true rfl⟩ (by decide) (dq da_X12_wideFour 45 rfl) ?_
      refine lv_l2i (v := (f_X12_cut x0 (6 : Int32) (5 : Int32)).toInt32) hx hb (dq da_X12_wideFour 46 rfl) rfl ?_
      refine lv_istore (lv' := [(9, .int ((f_X12_cut x0 (6 : Int32) (5 : Int32)).toInt32)), (8, .int ((f_X12_cut x0 (11 : Int32) (10 : Int32)).toInt32)), (6, .long ((8 : Int64) + (f_X12_cut x0 (4 : Int32) (2 : Int32)))), (0, .long x0), (2, .long x2), (4, .long x4)]) hx hb (dq da_X12_wideFour 47 rfl) hl (by decide) rfl (fun ls hl => ?_)
      refine lv_lload_n hx hb (dq da_X12_wideFour 48 rfl) rfl (lv_at hl 3 rfl) ?_
      refine lv_bipush (v := 12) hx hb (dq da_X12_wideFour 49 rfl) rfl ?_
      refine lv_bipush (v := 12) hx hb (dq da_X12_wideFour 50 rfl) rfl ?_
      refine callP E (c_X12_cut l _ _ _ ) w_1384 w_1385 w_10 w_1386 hd_X12_cut rfl hl.1 rfl (Nat.le_of_ble_eq_true rfl) ⟨Nat.le_of_ble_eq_true rfl, Nat.le_of_ble_eq_true rfl⟩ (by decide) (dq da_X12_wideFour 51 rfl) ?_
      refine lv_lconst (v := 1) hx hb (dq da_X12_wideFour 52 rfl) rfl ?_
      refine lc_ne (tgt := 132) hx hb (dq da_X12_wideFour 53 rfl) (dq da_X12_wideFour 54 rfl) (by decide) (fun c3 => ?_) (fun c3 => ?_)
      · have h := ie c3 h
        refine lv_bipush (v := 51) hx hb (dq da_X12_wideFour 72 rfl) rfl ?_
        refine lv_iload hx hb (dq da_X12_wideFour 73 rfl) (lv_at hl 0 rfl) ?_
        refine lv_if_ne (tgt := 143) hx hb (dq da_X12_wideFour 74 rfl) (by decide) (fun c4 => ?_) (fun c4 => ?_)
        · have h := ie c4 h
          refine lv_iload hx hb (dq da_X12_wideFour 77 rfl) (lv_at hl 0 rfl) ?_
          refine lv_iconst (v := 1) hx hb (dq da_X12_wideFour 78 rfl) rfl ?_
          refine lv_icmp_ne (tgt := 153) hx hb (dq da_X12_wideFour 79 rfl) (by decide) (fun c5 => ?_) (fun c5 => ?_)
          · have h := ie c5 h
            refine lv_iload hx hb (dq da_X12_wideFour 82 rfl) (lv_at hl 0 rfl) ?_
            refine lv_iconst (v := 2) hx hb (dq da_X12_wideFour 83 rfl) rfl ?_
            refine lv_icmp_ne (tgt := 164) hx hb (dq da_X12_wideFour 84 rfl) (by decide) (fun c6 => ?_) (fun c6 => ?_)
            · have h := ie c6 h
              refine lv_bipush (v := 7) hx hb (dq da_X12_wideFour 87 rfl) rfl ?_
              exact b_X12_wideFour_b166 E hr hlk h (lv_sub hl [4, 2, 0] rfl)
            · have h := it c6 h
              refine lv_bipush (v := 6) hx hb (dq da_X12_wideFour 85 rfl) rfl ?_
              refine lv_goto (tgt := 166) hx hb (dq da_X12_wideFour 86 rfl) (by decide) ?_
              exact b_X12_wideFour_b166 E hr hlk h (lv_sub hl [4, 2, 0] rfl)
          · have h := it c5 h
            refine lv_iconst (v := 4) hx hb (dq da_X12_wideFour 80 rfl) rfl ?_
            refine lv_goto (tgt := 166) hx hb (dq da_X12_wideFour 81 rfl) (by decide) ?_
            exact b_X12_wideFour_b166 E hr hlk h (lv_sub hl [4, 2, 0] rfl)
        · have h := it c4 h
          refine lv_iconst (v := 0) hx hb (dq da_X12_wideFour 75 rfl) rfl ?_
          refine lv_goto (tgt := 166) hx hb (dq da_X12_wideFour 76 rfl) (by decide) ?_
          exact b_X12_wideFour_b166 E hr hlk h (lv_sub hl [4, 2, 0] rfl)
      · have h := it c3 h
        refine lv_iload hx hb (dq da_X12_wideFour 55 rfl) (lv_at hl 0 rfl) ?_
        refine lv_iconst (v := 1) hx hb (dq da_X12_wideFour 56 rfl) rfl ?_
        refine lv_icmp_le (tgt := 109) hx hb (dq da_X12_wideFour 57 rfl) (by decide) (fun c8 => ?_) (fun c8 => ?_)
        · have h := it c8 h
          refine lv_bipush (v := 59) hx hb (dq da_X12_wideFour 60 rfl) rfl ?_
          refine lv_iconst (v := 0) hx hb (dq da_X12_wideFour 61 rfl) rfl ?_
          refine lv_iload hx hb (dq da_X12_wideFour 62 rfl) (lv_at hl 0 rfl) ?_
          refine lv_if_ne (tgt := 123) hx hb (dq da_X12_wideFour 63 rfl) (by decide) (fun c9 => ?_) (fun c9 => ?_)
          · have h := ie c9 h
            refine lv_lconst (v := 0) hx hb (dq da_X12_wideFour 66 rfl) rfl ?_
            exact b_X12_wideFour_b124 E hr hlk h (lv_sub hl [4, 2] rfl)
          · have h := it c9 h
            refine lv_ldc2 hx hb hown (hts _ w_1278) (dq da_X12_wideFour 64 rfl) ?_
            refine lv_goto (tgt := 124) hx hb (dq da_X12_wideFour 65 rfl) (by decide) ?_
            exact b_X12_wideFour_b124 E hr hlk h (lv_sub hl [4, 2] rfl)
        · have h := ie c8 h
          refine lv_lconst (v := 0) hx hb (dq da_X12_wideFour 58 rfl) rfl ?_
          refine lv_goto (tgt := 131) hx hb (dq da_X12_wideFour 59 rfl) (by decide) ?_
          exact pret_l E hr hlk h (dq da_X12_wideFour 71 rfl)
    · have h := it c2 h
      refine lv_bipush (v := 19) hx hb (dq da_X12_wideFour 35 rfl) rfl ?_
      refine lv_bipush (v := 7) hx hb (dq da_X12_wideFour 36 rfl) rfl ?_
      refine lv_lload_n hx hb (dq da_X12_wideFour 37 rfl) rfl (lv_at hl 3 rfl) ?_
      refine lv_lload_n hx hb (dq da_X12_wideFour 38 rfl) rfl (lv_at hl 3 rfl) ?_
      refine lv_lload hx hb (dq da_X12_wideFour 39 rfl) (lv_at hl 4 rfl) ?_
      refine callP E (c_X12_typeI l _ _ _ _ _ ) w_1472 w_1473 w_10 w_1474 hd_X12_typeI rfl hl.1 rfl (Nat.le_of_ble_eq_true rfl) ⟨Nat.le_of_ble_eq_true rfl, Nat.le_of_ble_eq_true rfl⟩ (by decide) (dq da_X12_wideFour 40 rfl) ?_
      exact pret_l E hr hlk h (dq da_X12_wideFour 41 rfl)
  · have h := ie c1 h
    refine lv_bipush (v := 19) hx hb (dq da_X12_wideFour 16 rfl) rfl ?_
    refine lv_iconst (v := 5) hx hb (dq da_X12_wideFour 17 rfl) rfl ?_
    refine lv_lload_n hx hb (dq da_X12_wideFour 18 rfl) rfl (lv_at hl 3 rfl) ?_
    refine lv_lload_n hx hb (dq da_X12_wideFour 19 rfl) rfl (lv_at hl 3 rfl) ?_
    refine lv_lload hx hb (dq da_X12_wideFour 20 rfl) (lv_at hl 4 rfl) ?_
    refine lv_ldc2 hx hb hown (hts _ w_1490) (dq da_X12_wideFour 21 rfl) ?_
    refine lv_land hx hb (dq da_X12_wideFour 22 rfl) ?_
    refine lv_iload hx hb (dq da_X12_wideFour 23 rfl) (lv_at hl 0 rfl) ?_
    refine lv_iconst (v := 1) hx hb (dq da_X12_wideFour 24 rfl) rfl ?_
    refine lv_icmp_ne (tgt := 52) hx hb (dq da_X12_wideFour 25 rfl) (by decide) (fun c10 => ?_) (fun c10 => ?_)
    · have h := ie c10 h
      refine lv_lconst (v := 0) hx hb (dq da_X12_wideFour 28 rfl) rfl ?_
      exact b_X12_wideFour_b53 E hr hlk h (lv_sub hl [] rfl)
    · have h := it c10 h
      refine lv_ldc2 hx hb hown (hts _ w_1491) (dq da_X12_wideFour 26 rfl) ?_
      refine lv_goto (tgt := 53) hx hb (dq da_X12_wideFour 27 rfl) (by decide) ?_
      exact b_X12_wideFour_b53 E hr hlk h (lv_sub hl [] rfl)
def dl_X12_typeJ : List (Nat × Instr × Nat) := [(0, .lload_n 2, 1), (1, .bipush 20, 2), (3, .bipush 20, 2), (5, .invokestatic 196, 3), (8, .bipush 31, 2), (10, .lshl, 1), (11, .lload_n 2, 1), (12, .bipush 10, 2), (14, .iconst 1, 1), (15, .invokestatic 196, 3), (18, .bipush 21, 2), (20, .lshl, 1), (21, .lor, 1), (22, .lload_n 2, 1), (23, .bipush 11, 2), (25, .bipush 11, 2), (27, .invokestatic 196, 3), (30, .bipush 20, 2), (32, .lshl, 1), (33, .lor, 1), (34, .lload_n 2, 1), (35, .bipush 19, 2), (37, .bipush 12, 2), (39, .invokestatic 196, 3), (42, .bipush 12, 2), (44, .lshl, 1), (45, .lor, 1), (46, .lload_n 0, 1), (47, .bipush 7, 2), (49, .lshl, 1), (50, .lor, 1), (51, .ldc2_w 491, 3), (54, .lor, 1), (55, .lreturn, 1)]
theorem da_X12_typeJ : dkL cX12_typeJ dl_X12_typeJ = true := by decide +kernel
def f_X12_typeJ (x0 : Int64) (x2 : Int64) : Int64 := ((((((j_lshl (f_X12_cut x2 (20 : Int32) (20 : Int32)) (31 : Int32)) ||| (j_lshl (f_X12_cut x2 (10 : Int32) (1 : Int32)) (21 : Int32))) ||| (j_lshl (f_X12_cut x2 (11 : Int32) (11 : Int32)) (20 : Int32))) ||| (j_lshl (f_X12_cut x2 (19 : Int32) (12 : Int32)) (12 : Int32))) ||| (j_lshl x0 (7 : Int32))) ||| (111 : Int64))
set_option maxRecDepth 100000 in
set_option maxHeartbeats 4000000 in
theorem c_X12_typeJ (l : Launch) (x0 : Int64) (x2 : Int64) : MP l yX12_typeJ cX12_typeJ 4 (some .long) 1 23 [.long x0, .long x2] (.long (f_X12_typeJ x0 x2)) := by
  refine entP (by decide +kernel) (Nat.le_of_ble_eq_true rfl) ?_
  intro p e s m args below meth c ls E hr hlk hl
  have hl : lv_has ls 4 [(0, .long x0), (2, .long x2)] := hl
  generalize h : f_X12_typeJ x0 x2 = r
  have hx := E.1
  have hb := E.2.1
  have hown := E.2.2.2.1
  have hts := E.2.2.2.2
  refine lv_lload_n hx hb (dq da_X12_typeJ 0 rfl) rfl (lv_at hl 1 rfl) ?_
  refine lv_bipush (v := 20) hx hb (dq da_X12_typeJ 1 rfl) rfl ?_
  refine lv_bipush (v := 20) hx hb (dq da_X12_typeJ 2 rfl) rfl ?_
  refine callP E (c_X12_cut l _ _ _ ) w_1384 w_1385 w_10 w_1386 hd_X12_cut rfl hl.1 rfl (Nat.le_of_ble_eq_true rfl) ⟨Nat.le_of_ble_eq_true rfl, Nat.le_of_ble_eq_true rfl⟩ (by decide) (dq da_X12_typeJ 3 rfl) ?_
  refine lv_bipush (v := 31) hx hb (dq da_X12_typeJ 4 rfl) rfl ?_
  refine lv_lshl (v := (j_lshl (f_X12_cut x2 (20 : Int32) (20 : Int32)) (31 : Int32))) hx hb (dq da_X12_typeJ 5 rfl) rfl ?_
  refine lv_lload_n hx hb (dq da_X12_typeJ 6 rfl) rfl (lv_at hl 1 rfl) ?_
  refine lv_bipush (v := 10) hx hb (dq da_X12_typeJ 7 rfl) rfl ?_
  refine lv_iconst (v := 1) hx hb (dq da_X12_typeJ 8 rfl) rfl ?_
  refine callP E (c_X12_cut l _ _ _ ) w_1384 w_1385 w_10 w_1386 hd_X12_cut rfl hl.1 rfl (Nat.le_of_ble_eq_true rfl) ⟨Nat.le_of_ble_eq_true rfl, Nat.le_of_ble_eq_true rfl⟩ (by decide) (dq da_X12_typeJ 9 rfl) ?_
  refine lv_bipush (v := 21) hx hb (dq da_X12_typeJ 10 rfl) rfl ?_
  refine lv_lshl (v := (j_lshl (f_X12_cut x2 (10 : Int32) (1 : Int32)) (21 : Int32))) hx hb (dq da_X12_typeJ 11 rfl) rfl ?_
  refine lv_lor hx hb (dq da_X12_typeJ 12 rfl) ?_
  refine lv_lload_n hx hb (dq da_X12_typeJ 13 rfl) rfl (lv_at hl 1 rfl) ?_
  refine lv_bipush (v := 11) hx hb (dq da_X12_typeJ 14 rfl) rfl ?_
  refine lv_bipush (v := 11) hx hb (dq da_X12_typeJ 15 rfl) rfl ?_
  refine callP E (c_X12_cut l _ _ _ ) w_1384 w_1385 w_10 w_1386 hd_X12_cut rfl hl.1 rfl (Nat.le_of_ble_eq_true rfl) ⟨Nat.le_of_ble_eq_true rfl, Nat.le_of_ble_eq_true rfl⟩ (by decide) (dq da_X12_typeJ 16 rfl) ?_
  refine lv_bipush (v := 20) hx hb (dq da_X12_typeJ 17 rfl) rfl ?_
  refine lv_lshl (v := (j_lshl (f_X12_cut x2 (11 : Int32) (11 : Int32)) (20 : Int32))) hx hb (dq da_X12_typeJ 18 rfl) rfl ?_
  refine lv_lor hx hb (dq da_X12_typeJ 19 rfl) ?_
  refine lv_lload_n hx hb (dq da_X12_typeJ 20 rfl) rfl (lv_at hl 1 rfl) ?_
  refine lv_bipush (v := 19) hx hb (dq da_X12_typeJ 21 rfl) rfl ?_
  refine lv_bipush (v := 12) hx hb (dq da_X12_typeJ 22 rfl) rfl ?_
  refine callP E (c_X12_cut l _ _ _ ) w_1384 w_1385 w_10 w_1386 hd_X12_cut rfl hl.1 rfl (Nat.le_of_ble_eq_true rfl) ⟨Nat.le_of_ble_eq_true rfl, Nat.le_of_ble_eq_true rfl⟩ (by decide) (dq da_X12_typeJ 23 rfl) ?_
  refine lv_bipush (v := 12) hx hb (dq da_X12_typeJ 24 rfl) rfl ?_
  refine lv_lshl (v := (j_lshl (f_X12_cut x2 (19 : Int32) (12 : Int32)) (12 : Int32))) hx hb (dq da_X12_typeJ 25 rfl) rfl ?_
  refine lv_lor hx hb (dq da_X12_typeJ 26 rfl) ?_
  refine lv_lload_n hx hb (dq da_X12_typeJ 27 rfl) rfl (lv_at hl 0 rfl) ?_
  refine lv_bipush (v := 7) hx hb (dq da_X12_typeJ 28 rfl) rfl ?_
  refine lv_lshl (v := (j_lshl x0 (7 : Int32))) hx hb (dq da_X12_typeJ 29 rfl) rfl ?_
  refine lv_lor hx hb (dq da_X12_typeJ 30 rfl) ?_
  refine lv_ldc2 hx hb hown (hts _ w_1499) (dq da_X12_typeJ 31 rfl) ?_
  refine lv_lor hx hb (dq da_X12_typeJ 32 rfl) ?_
  exact pret_l E hr hlk h (dq da_X12_typeJ 33 rfl)
def dl_X12_typeB : List (Nat × Instr × Nat) := [(0, .lload_n 3, 1), (1, .bipush 12, 2), (3, .bipush 12, 2), (5, .invokestatic 196, 3), (8, .bipush 31, 2), (10, .lshl, 1), (11, .lload_n 3, 1), (12, .bipush 10, 2), (14, .iconst 5, 1), (15, .invokestatic 196, 3), (18, .bipush 25, 2), (20, .lshl, 1), (21, .lor, 1), (22, .lload_n 1, 1), (23, .bipush 15, 2), (25, .lshl, 1), (26, .lor, 1), (27, .iload_n 0, 1), (28, .i2l, 1), (29, .bipush 12, 2), (31, .lshl, 1), (32, .lor, 1), (33, .lload_n 3, 1), (34, .iconst 4, 1), (35, .iconst 1, 1), (36, .invokestatic 196, 3), (39, .bipush 8, 2), (41, .lshl, 1), (42, .lor, 1), (43, .lload_n 3, 1), (44, .bipush 11, 2), (46, .bipush 11, 2), (48, .invokestatic 196, 3), (51, .bipush 7, 2), (53, .lshl, 1), (54, .lor, 1), (55, .ldc2_w 489, 3), (58, .lor, 1), (59, .lreturn, 1)]
theorem da_X12_typeB : dkL cX12_typeB dl_X12_typeB = true := by decide +kernel
def f_X12_typeB (x0 : Int32) (x1 : Int64) (x3 : Int64) : Int64 := (((((((j_lshl (f_X12_cut x3 (12 : Int32) (12 : Int32)) (31 : Int32)) ||| (j_lshl (f_X12_cut x3 (10 : Int32) (5 : Int32)) (25 : Int32))) ||| (j_lshl x1 (15 : Int32))) ||| (j_lshl x0.toInt64 (12 : Int32))) ||| (j_lshl (f_X12_cut x3 (4 : Int32) (1 : Int32)) (8 : Int32))) ||| (j_lshl (f_X12_cut x3 (11 : Int32) (11 : Int32)) (7 : Int32))) ||| (99 : Int64))
set_option maxRecDepth 100000 in
set_option maxHeartbeats 4000000 in
theorem c_X12_typeB (l : Launch) (x0 : Int32) (x1 : Int64) (x3 : Int64) : MP l yX12_typeB cX12_typeB 5 (some .long) 1 23 [.int x0, .long x1, .long x3] (.long (f_X12_typeB x0 x1 x3)) := by
  refine entP (by decide +kernel) (Nat.le_of_ble_eq_true rfl) ?_
  intro p e s m args below meth c ls E hr hlk hl
  have hl : lv_has ls 5 [(0, .int x0), (1, .long x1), (3, .long x3)] := hl
  generalize h : f_X12_typeB x0 x1 x3 = r
  have hx := E.1
  have hb := E.2.1
  have hown := E.2.2.2.1
  have hts := E.2.2.2.2
  refine lv_lload_n hx hb (dq da_X12_typeB 0 rfl) rfl (lv_at hl 2 rfl) ?_
  refine lv_bipush (v := 12) hx hb (dq da_X12_typeB 1 rfl) rfl ?_
  refine lv_bipush (v := 12) hx hb (dq da_X12_typeB 2 rfl) rfl ?_
  refine callP E (c_X12_cut l _ _ _ ) w_1384 w_1385 w_10 w_1386 hd_X12_cut rfl hl.1 rfl (Nat.le_of_ble_eq_true rfl) ⟨Nat.le_of_ble_eq_true rfl, Nat.le_of_ble_eq_true rfl⟩ (by decide) (dq da_X12_typeB 3 rfl) ?_
  refine lv_bipush (v := 31) hx hb (dq da_X12_typeB 4 rfl) rfl ?_
  refine lv_lshl (v := (j_lshl (f_X12_cut x3 (12 : Int32) (12 : Int32)) (31 : Int32))) hx hb (dq da_X12_typeB 5 rfl) rfl ?_
  refine lv_lload_n hx hb (dq da_X12_typeB 6 rfl) rfl (lv_at hl 2 rfl) ?_
  refine lv_bipush (v := 10) hx hb (dq da_X12_typeB 7 rfl) rfl ?_
  refine lv_iconst (v := 5) hx hb (dq da_X12_typeB 8 rfl) rfl ?_
  refine callP E (c_X12_cut l _ _ _ ) w_1384 w_1385 w_10 w_1386 hd_X12_cut rfl hl.1 rfl (Nat.le_of_ble_eq_true rfl) ⟨Nat.le_of_ble_eq_true rfl, Nat.le_of_ble_eq_true rfl⟩ (by decide) (dq da_X12_typeB 9 rfl) ?_
  refine lv_bipush (v := 25) hx hb (dq da_X12_typeB 10 rfl) rfl ?_
  refine lv_lshl (v := (j_lshl (f_X12_cut x3 (10 : Int32) (5 : Int32)) (25 : Int32))) hx hb (dq da_X12_typeB 11 rfl) rfl ?_
  refine lv_lor hx hb (dq da_X12_typeB 12 rfl) ?_
  refine lv_lload_n hx hb (dq da_X12_typeB 13 rfl) rfl (lv_at hl 1 rfl) ?_
  refine lv_bipush (v := 15) hx hb (dq da_X12_typeB 14 rfl) rfl ?_
  refine lv_lshl (v := (j_lshl x1 (15 : Int32))) hx hb (dq da_X12_typeB 15 rfl) rfl ?_
  refine lv_lor hx hb (dq da_X12_typeB 16 rfl) ?_
  refine lv_iload_n hx hb (dq da_X12_typeB 17 rfl) rfl (lv_at hl 0 rfl) ?_
  refine lv_i2l (v := x0.toInt64) hx hb (dq da_X12_typeB 18 rfl) rfl ?_
  refine lv_bipush (v := 12) hx hb (dq da_X12_typeB 19 rfl) rfl ?_
  refine lv_lshl (v := (j_lshl x0.toInt64 (12 : Int32))) hx hb (dq da_X12_typeB 20 rfl) rfl ?_
  refine lv_lor hx hb (dq da_X12_typeB 21 rfl) ?_
  refine lv_lload_n hx hb (dq da_X12_typeB 22 rfl) rfl (lv_at hl 2 rfl) ?_
  refine lv_iconst (v := 4) hx hb (dq da_X12_typeB 23 rfl) rfl ?_
  refine lv_iconst (v := 1) hx hb (dq da_X12_typeB 24 rfl) rfl ?_
  refine callP E (c_X12_cut l _ _ _ ) w_1384 w_1385 w_10 w_1386 hd_X12_cut rfl hl.1 rfl (Nat.le_of_ble_eq_true rfl) ⟨Nat.le_of_ble_eq_true rfl, Nat.le_of_ble_eq_true rfl⟩ (by decide) (dq da_X12_typeB 25 rfl) ?_
  refine lv_bipush (v := 8) hx hb (dq da_X12_typeB 26 rfl) rfl ?_
  refine lv_lshl (v := (j_lshl (f_X12_cut x3 (4 : Int32) (1 : Int32)) (8 : Int32))) hx hb (dq da_X12_typeB 27 rfl) rfl ?_
  refine lv_lor hx hb (dq da_X12_typeB 28 rfl) ?_
  refine lv_lload_n hx hb (dq da_X12_typeB 29 rfl) rfl (lv_at hl 2 rfl) ?_
  refine lv_bipush (v := 11) hx hb (dq da_X12_typeB 30 rfl) rfl ?_
  refine lv_bipush (v := 11) hx hb (dq da_X12_typeB 31 rfl) rfl ?_
  refine callP E (c_X12_cut l _ _ _ ) w_1384 w_1385 w_10 w_1386 hd_X12_cut rfl hl.1 rfl (Nat.le_of_ble_eq_true rfl) ⟨Nat.le_of_ble_eq_true rfl, Nat.le_of_ble_eq_true rfl⟩ (by decide) (dq da_X12_typeB 32 rfl) ?_
  refine lv_bipush (v := 7) hx hb (dq da_X12_typeB 33 rfl) rfl ?_
  refine lv_lshl (v := (j_lshl (f_X12_cut x3 (11 : Int32) (11 : Int32)) (7 : Int32))) hx hb (dq da_X12_typeB 34 rfl) rfl ?_
  refine lv_lor hx hb (dq da_X12_typeB 35 rfl) ?_
  refine lv_ldc2 hx hb hown (hts _ w_1504) (dq da_X12_typeB 36 rfl) ?_
  refine lv_lor hx hb (dq da_X12_typeB 37 rfl) ?_
  exact pret_l E hr hlk h (dq da_X12_typeB 38 rfl)
def dl_X12_wideOne : List (Nat × Instr × Nat) := [(0, .ldc2_w 203, 3), (3, .lload_n 0, 1), (4, .bipush 9, 2), (6, .bipush 7, 2), (8, .invokestatic 196, 3), (11, .ladd, 1), (12, .lstore 7, 2), (14, .iload_n 2, 1), (15, .tableswitch 192 0 5 #[37, 48, 69, 80, 162, 171], 37), (52, .bipush 19, 2), (54, .iconst 0, 1), (55, .lload_n 3, 1), (56, .lload_n 3, 1), (57, .lload 5, 2), (59, .invokestatic 516, 3), (62, .lreturn, 1), (63, .lload_n 3, 1), (64, .lconst 0, 1), (65, .lcmp, 1), (66, .ifCond .ne 7, 3), (69, .lconst 0, 1), (70, .goto 13, 3), (73, .bipush 27, 2), (75, .iconst 0, 1), (76, .lload_n 3, 1), (77, .lload_n 3, 1), (78, .lload 5, 2), (80, .invokestatic 516, 3), (83, .lreturn, 1), (84, .bipush 19, 2), (86, .iconst 0, 1), (87, .lload_n 3, 1), (88, .lconst 0, 1), (89, .lload 5, 2), (91, .invokestatic 516, 3), (94, .lreturn, 1), (95, .lload_n 3, 1), (96, .ldc2_w 313, 3), (99, .lcmp, 1), (100, .ifCond .eq 33, 3), (103, .lload 5, 2), (105, .lconst 0, 1), (106, .lcmp, 1), (107, .ifCond .ne 7, 3), (110, .lconst 0, 1), (111, .goto 21, 3), (114, .lload 5, 2), (116, .ldc2_w 524, 3), (119, .land, 1), (120, .bipush 12, 2), (122, .lshl, 1), (123, .lload_n 3, 1), (124, .bipush 7, 2), (126, .lshl, 1), (127, .lor, 1), (128, .ldc2_w 526, 3), (131, .lor, 1), (132, .lreturn, 1), (133, .lload_n 0, 1), (134, .ldc2_w 528, 3), (137, .invokestatic 501, 3), (140, .bipush 6, 2), (142, .invokestatic 205, 3), (145, .ldc2_w 438, 3), (148, .lmul, 1), (149, .lstore 9, 2), (151, .lload 9, 2), (153, .lconst 0, 1), (154, .lcmp, 1), (155, .ifCond .ne 7, 3), (158, .lconst 0, 1), (159, .goto 17, 3), (162, .bipush 19, 2), (164, .iconst 0, 1), (165, .ldc2_w 313, 3), (168, .ldc2_w 313, 3), (171, .lload 9, 2), (173, .invokestatic 516, 3), (176, .lreturn, 1), (177, .lload_n 0, 1), (178, .lload 7, 2), (180, .lload 5, 2), (182, .invokestatic 530, 3), (185, .lreturn, 1), (186, .lconst 0, 1), (187, .lload_n 0, 1), (188, .ldc2_w 534, 3), (191, .invokestatic 501, 3), (194, .bipush 11, 2), (196, .invokestatic 205, 3), (199, .ldc2_w 313, 3), (202, .lmul, 1), (203, .invokestatic 536, 3), (206, .lreturn, 1), (207, .iload_n 2, 1), (208, .bipush 6, 2), (210, .if_icmp .ne 7, 3), (213, .iconst 0, 1), (214, .goto 4, 3), (217, .iconst 1, 1), (218, .lload 7, 2), (220, .lload_n 0, 1), (221, .ldc2_w 539, 3), (224, .invokestatic 501, 3), (227, .bipush 8, 2), (229, .invokestatic 205, 3), (232, .ldc2_w 313, 3), (235, .lmul, 1), (236, .invokestatic 541, 3), (239, .lreturn, 1)]
theorem da_X12_wideOne : dkL cX12_wideOne dl_X12_wideOne = true := by decide +kernel
def f_X12_wideOne_b218 (x0 : Int64) (x7 : Int64) (s0 : Int32) : Option (Int64) := (f_X12_pick x0 (3327310403 : Int64)).bind (fun y16 => some (f_X12_typeB s0 x7 ((f_X12_signed y16 (8 : Int32)) * (2 : Int64))))
set_option maxRecDepth 100000 in
set_option maxHeartbeats 4000000 in
theorem b_X12_wideOne_b218 {p : Program} {l : Launch} {e : Env} {s : State} {m : MethodId} {args : Array Value} {below : List Frame} {meth : Method} {c : Code} (E : CallFix p m c cX12_wideOne 11 s args gw RX12) (hr : meth.sig.returnType = some .long) (hlk : meth.locks = false) {x0 : Int64} {x7 : Int64} {s0 : Int32} {r : Int64} (h : f_X12_wideOne_b218 x0 x7 s0 = some r) {ls : Array Slot} (hl : lv_has ls 11 [(0, .long x0), (7, .long x7)]) : Wp p l e 2 58 s m args below meth c (.long r) 218 ls [.int s0] := by
  have hx := E.1
  have hb := E.2.1
  have hown := E.2.2.2.1
  have hts := E.2.2.2.2
  refine lv_lload hx hb (dq da_X12_wideOne 100 rfl) (lv_at hl 1 rfl) ?_
  refine lv_lload_n hx hb (dq da_X12_wideOne 101 rfl) rfl (lv_at hl 0 rfl) ?_
  refine lv_ldc2 hx hb hown (hts _ w_1500) (dq da_X12_wideOne 102 rfl) ?_
  obtain ⟨y16, hy17, h⟩ := ob h
  refine callP E (c_X12_pick l _ _ hy17) w_1466 w_1467 w_10 w_1468 hd_X12_pick rfl hl.1 rfl (Nat.le_of_ble_eq_true rfl) ⟨Nat.le_of_ble_eq_true rfl, Nat.le_of_ble_eq_true rfl⟩ (by decide) (dq da_X12_wideOne 103 rfl) ?_
  refine lv_bipush (v := 8) hx hb (dq da_X12_wideOne 104 rfl) rfl ?_
  refine callP E (c_X12_signed l _ _ ) w_1440 w_1441 w_10 w_1442 hd_X12_signed rfl hl.1 rfl (Nat.le_of_ble_eq_true rfl) ⟨Nat.le_of_ble_eq_true rfl, Nat.le_of_ble_eq_true rfl⟩ (by decide) (dq da_X12_wideOne 105 rfl) ?_
  refine lv_ldc2 hx hb hown (hts _ w_1269) (dq da_X12_wideOne 106 rfl) ?_
  refine lv_lmul hx hb (dq da_X12_wideOne 107 rfl) ?_
  refine callP E (c_X12_typeB l _ _ _ ) w_1501 w_1502 w_10 w_1503 hd_X12_typeB rfl hl.1 rfl (Nat.le_of_ble_eq_true rfl) ⟨Nat.le_of_ble_eq_true rfl, Nat.le_of_ble_eq_true rfl⟩ (by decide) (dq da_X12_wideOne 108 rfl) ?_
  exact pret_l E hr hlk (os h) (dq da_X12_wideOne 109 rfl)
def f_X12_wideOne (x0 : Int64) (x2 : Int32) (x3 : Int64) (x5 : Int64) : Option (Int64) := if x2 = (0 : Int32) then (some (f_X12_typeI (19 : Int32) (0 : Int32) x3 x3 x5)) else if x2 = (1 : Int32) then (if x3 = (0 : Int64) then (some (0 : Int64)) else (some (f_X12_typeI (27 : Int32) (0 : Int32) x3 x3 x5))) else if x2 = (2 : Int32) then (some (f_X12_typeI (19 : Int32) (0 : Int32) x3 (0 : Int64) x5)) else if x2 = (3 : Int32) then (if x3 = (2 : Int64) then ((f_X12_pick x0 (12858662 : Int64)).bind (fun y7 => if ((f_X12_signed y7 (6 : Int32)) * (16 : Int64)) = (0 : Int64) then (some (0 : Int64)) else (some (f_X12_typeI (19 : Int32) (0 : Int32) (2 : Int64) (2 : Int64) ((f_X12_signed y7 (6 : Int32)) * (16 : Int64)))))) else (if x5 = (0 : Int64) then (some (0 : Int64)) else (some (((j_lshl (x5 &&& (1048575 : Int64)) (12 : Int32)) ||| (j_lshl x3 (7 : Int32))) ||| (55 : Int64))))) else if x2 = (4 : Int32) then (some (f_X12_wideFour x0 ((8 : Int64) + (f_X12_cut x0 (9 : Int32) (7 : Int32))) x5)) else if x2 = (5 : Int32) then ((f_X12_pick x0 (13789369120067 : Int64)).bind (fun y13 => some (f_X12_typeJ (0 : Int64) ((f_X12_signed y13 (11 : Int32)) * (2 : Int64))))) else (if x2 = (6 : Int32) then (f_X12_wideOne_b218 x0 ((8 : Int64) + (f_X12_cut x0 (9 : Int32) (7 : Int32))) (0 : Int32)) else (f_X12_wideOne_b218 x0 ((8 : Int64) + (f_X12_cut x0 (9 : Int32) (7 : Int32))) (1 : Int32)))
set_option maxRecDepth 100000 in
set_option maxHeartbeats 4000000 in
theorem c_X12_wideOne (l : Launch) (x0 : Int64) (x2 : Int32) (x3 : Int64) (x5 : Int64) {r : Int64} (h : f_X12_wideOne x0 x2 x3 x5 = some r) : MP l yX12_wideOne cX12_wideOne 11 (some .long) 2 58 [.long x0, .int x2, .long x3, .long x5] (.long (r)) := by
  refine entP (by decide +kernel) (Nat.le_of_ble_eq_true rfl) ?_
  intro p e s m args below meth c ls E hr hlk hl
  have hl : lv_has ls 11 [(0, .long x0), (2, .int x2), (3, .long x3), (5, .long x5)] := hl
  have hx := E.1
  have hb := E.2.1
  have hown := E.2.2.2.1
  have hts := E.2.2.2.2
  refine lv_ldc2 hx hb hown (hts _ w_1283) (dq da_X12_wideOne 0 rfl) ?_
  refine lv_lload_n hx hb (dq da_X12_wideOne 1 rfl) rfl (lv_at hl 0 rfl) ?_
  refine lv_bipush (v := 9) hx hb (dq da_X12_wideOne 2 rfl) rfl ?_
  refine lv_bipush (v := 7) hx hb (dq da_X12_wideOne 3 rfl) rfl ?_
  refine callP E (c_X12_cut l _ _ _ ) w_1384 w_1385 w_10 w_1386 hd_X12_cut rfl hl.1 rfl (Nat.le_of_ble_eq_true rfl) ⟨Nat.le_of_ble_eq_true rfl, Nat.le_of_ble_eq_true rfl⟩ (by decide) (dq da_X12_wideOne 4 rfl) ?_
  refine lv_ladd hx hb (dq da_X12_wideOne 5 rfl) ?_
  refine lv_lstore (lv' := [(7, .long ((8 : Int64) + (f_X12_cut x0 (9 : Int32) (7 : Int32)))), (0, .long x0), (2, .int x2), (3, .long x3), (5, .long x5)]) hx hb (dq da_X12_wideOne 6 rfl) hl (by decide) rfl (fun ls hl => ?_)
  refine lv_iload_n hx hb (dq da_X12_wideOne 7 rfl) rfl (lv_at hl 2 rfl) ?_
  by_cases c1 : x2 = (0 : Int32)
  · have h := it c1 h
    refine lv_tableIn (off := 37) (tgt := 52) hx hb (dq da_X12_wideOne 8 rfl) (by rw [c1]; decide +kernel) (by rw [c1]; decide +kernel) (by rw [c1]; decide +kernel) (by decide) ?_
    refine lv_bipush (v := 19) hx hb (dq da_X12_wideOne 9 rfl) rfl ?_
    refine lv_iconst (v := 0) hx hb (dq da_X12_wideOne 10 rfl) rfl ?_
    refine lv_lload_n hx hb (dq da_X12_wideOne 11 rfl) rfl (lv_at hl 3 rfl) ?_
    refine lv_lload_n hx hb (dq da_X12_wideOne 12 rfl) rfl (lv_at hl 3 rfl) ?_
    refine lv_lload hx hb (dq da_X12_wideOne 13 rfl) (lv_at hl 4 rfl) ?_
    refine callP E (c_X12_typeI l _ _ _ _ _ ) w_1472 w_1473 w_10 w_1474 hd_X12_typeI rfl hl.1 rfl (Nat.le_of_ble_eq_true rfl) ⟨Nat.le_of_ble_eq_true rfl, Nat.le_of_ble_eq_true rfl⟩ (by decide) (dq da_X12_wideOne 14 rfl) ?_
    exact pret_l E hr hlk (os h) (dq da_X12_wideOne 15 rfl)
  · have h := ie c1 h
    by_cases c2 : x2 = (1 : Int32)
    · have h := it c2 h
      refine lv_tableIn (off := 48) (tgt := 63) hx hb (dq da_X12_wideOne 8 rfl) (by rw [c2]; decide +kernel) (by rw [c2]; decide +kernel) (by rw [c2]; decide +kernel) (by decide) ?_
      refine lv_lload_n hx hb (dq da_X12_wideOne 16 rfl) rfl (lv_at hl 3 rfl) ?_
      refine lv_lconst (v := 0) hx hb (dq da_X12_wideOne 17 rfl) rfl ?_
      refine lc_ne (tgt := 73) hx hb (dq da_X12_wideOne 18 rfl) (dq da_X12_wideOne 19 rfl) (by decide) (fun c3 => ?_) (fun c3 => ?_)
      · have h := ie c3 h
        refine lv_bipush (v := 27) hx hb (dq da_X12_wideOne 22 rfl) rfl ?_
        refine lv_iconst (v := 0) hx hb (dq da_X12_wideOne 23 rfl) rfl ?_
        refine lv_lload_n hx hb (dq da_X12_wideOne 24 rfl) rfl (lv_at hl 3 rfl) ?_
        refine lv_lload_n hx hb (dq da_X12_wideOne 25 rfl) rfl (lv_at hl 3 rfl) ?_
        refine lv_lload hx hb (dq da_X12_wideOne 26 rfl) (lv_at hl 4 rfl) ?_
        refine callP E (c_X12_typeI l _ _ _ _ _ ) w_1472 w_1473 w_10 w_1474 hd_X12_typeI rfl hl.1 rfl (Nat.le_of_ble_eq_true rfl) ⟨Nat.le_of_ble_eq_true rfl, Nat.le_of_ble_eq_true rfl⟩ (by decide) (dq da_X12_wideOne 27 rfl) ?_
        exact pret_l E hr hlk (os h) (dq da_X12_wideOne 28 rfl)
      · have h := it c3 h
        refine lv_lconst (v := 0) hx hb (dq da_X12_wideOne 20 rfl) rfl ?_
        refine lv_goto (tgt := 83) hx hb (dq da_X12_wideOne 21 rfl) (by decide) ?_
        exact pret_l E hr hlk (os h) (dq da_X12_wideOne 28 rfl)
    · have h := ie c2 h
      by_cases c4 : x2 = (2 : Int32)
      · have h := it c4 h
        refine lv_tableIn (off := 69) (tgt := 84) hx hb (dq da_X12_wideOne 8 rfl) (by rw [c4]; decide +kernel) (by rw [c4]; decide +kernel) (by rw [c4]; decide +kernel) (by decide) ?_
        refine lv_bipush (v := 19) hx hb (dq da_X12_wideOne 29 rfl) rfl ?_
        refine lv_iconst (v := 0) hx hb (dq da_X12_wideOne 30 rfl) rfl ?_
        refine lv_lload_n hx hb (dq da_X12_wideOne 31 rfl) rfl (lv_at hl 3 rfl) ?_
        refine lv_lconst (v := 0) hx hb (dq da_X12_wideOne 32 rfl) rfl ?_
        refine lv_lload hx hb (dq da_X12_wideOne 33 rfl) (lv_at hl 4 rfl) ?_
        refine callP E (c_X12_typeI l _ _ _ _ _ ) w_1472 w_1473 w_10 w_1474 hd_X12_typeI rfl hl.1 rfl (Nat.le_of_ble_eq_true rfl) ⟨Nat.le_of_ble_eq_true rfl, Nat.le_of_ble_eq_true rfl⟩ (by decide) (dq da_X12_wideOne 34 rfl) ?_
        exact pret_l E hr hlk (os h) (dq da_X12_wideOne 35 rfl)
      · have h := ie c4 h
        by_cases c5 : x2 = (3 : Int32)
        · have h := it c5 h
          refine lv_tableIn (off := 80) (tgt := 95) hx hb (dq da_X12_wideOne 8 rfl) (by rw [c5]; decide +kernel) (by rw [c5]; decide +kernel) (by rw [c5]; decide +kernel) (by decide) ?_
          refine lv_lload_n hx hb (dq da_X12_wideOne 36 rfl) rfl (lv_at hl 3 rfl) ?_
          refine lv_ldc2 hx hb hown (hts _ w_1269) (dq da_X12_wideOne 37 rfl) ?_
          refine lc_eq (tgt := 133) hx hb (dq da_X12_wideOne 38 rfl) (dq da_X12_wideOne 39 rfl) (by decide) (fun c6 => ?_) (fun c6 => ?_)
          · have h := it c6 h
            refine lv_lload_n hx hb (dq da_X12_wideOne 58 rfl) rfl (lv_at hl 1 rfl) ?_
            refine lv_ldc2 hx hb hown (hts _ w_1486) (dq da_X12_wideOne 59 rfl) ?_
            obtain ⟨y7, hy8, h⟩ := ob h
            refine callP E (c_X12_pick l _ _ hy8) w_1466 w_1467 w_10 w_1468 hd_X12_pick rfl hl.1 rfl (Nat.le_of_ble_eq_true rfl) ⟨Nat.le_of_ble_eq_true rfl, Nat.le_of_ble_eq_true rfl⟩ (by decide) (dq da_X12_wideOne 60 rfl) ?_
            refine lv_bipush (v := 6) hx hb (dq da_X12_wideOne 61 rfl) rfl ?_
            refine callP E (c_X12_signed l _ _ ) w_1440 w_1441 w_10 w_1442 hd_X12_signed rfl hl.1 rfl (Nat.le_of_ble_eq_true rfl) ⟨Nat.le_of_ble_eq_true rfl, Nat.le_of_ble_eq_true rfl⟩ (by decide) (dq da_X12_wideOne 62 rfl) ?_
            refine lv_ldc2 hx hb hown (hts _ w_1268) (dq da_X12_wideOne 63 rfl) ?_
            refine lv_lmul hx hb (dq da_X12_wideOne 64 rfl) ?_
            refine lv_lstore (lv' := [(9, .long ((f_X12_signed y7 (6 : Int32)) * (16 : Int64))), (7, .long ((8 : Int64) + (f_X12_cut x0 (9 : Int32) (7 : Int32)))), (0, .long x0), (2, .int x2), (3, .long x3), (5, .long x5)]) hx hb (dq da_X12_wideOne 65 rfl) hl (by decide) rfl (fun ls hl => ?_)
            refine lv_lload hx hb (dq da_X12_wideOne 66 rfl) (lv_at hl 0 rfl) ?_
            refine lv_lconst (v := 0) hx hb (dq da_X12_wideOne 67 rfl) rfl ?_
            refine lc_ne (tgt := 162) hx hb (dq da_X12_wideOne 68 rfl) (dq da_X12_wideOne 69 rfl) (by decide) (fun c9 => ?_) (fun c9 => ?_)
            · have h := ie c9 h
              refine lv_bipush (v := 19) hx hb (dq da_X12_wideOne 72 rfl) rfl ?_
              refine lv_iconst (v := 0) hx hb (dq da_X12_wideOne 73 rfl) rfl ?_
              refine lv_ldc2 hx hb hown (hts _ w_1269) (dq da_X12_wideOne 74 rfl) ?_
              refine lv_ldc2 hx hb hown (hts _ w_1269) (dq da_X12_wideOne 75 rfl) ?_
              refine lv_lload hx hb (dq da_X12_wideOne 76 rfl) (lv_at hl 0 rfl) ?_
              refine callP E (c_X12_typeI l _ _ _ _ _ ) w_1472 w_1473 w_10 w_1474 hd_X12_typeI rfl hl.1 rfl (Nat.le_of_ble_eq_true rfl) ⟨Nat.le_of_ble_eq_true rfl, Nat.le_of_ble_eq_true rfl⟩ (by decide) (dq da_X12_wideOne 77 rfl) ?_
              exact pret_l E hr hlk (os h) (dq da_X12_wideOne 78 rfl)
            · have h := it c9 h
              refine lv_lconst (v := 0) hx hb (dq da_X12_wideOne 70 rfl) rfl ?_
              refine lv_goto (tgt := 176) hx hb (dq da_X12_wideOne 71 rfl) (by decide) ?_
              exact pret_l E hr hlk (os h) (dq da_X12_wideOne 78 rfl)
          · have h := ie c6 h
            refine lv_lload hx hb (dq da_X12_wideOne 40 rfl) (lv_at hl 4 rfl) ?_
            refine lv_lconst (v := 0) hx hb (dq da_X12_wideOne 41 rfl) rfl ?_
            refine lc_ne (tgt := 114) hx hb (dq da_X12_wideOne 42 rfl) (dq da_X12_wideOne 43 rfl) (by decide) (fun c10 => ?_) (fun c10 => ?_)
            · have h := ie c10 h
              refine lv_lload hx hb (dq da_X12_wideOne 46 rfl) (lv_at hl 4 rfl) ?_
              refine lv_ldc2 hx hb hown (hts _ w_1484) (dq da_X12_wideOne 47 rfl) ?_
              refine lv_land hx hb (dq da_X12_wideOne 48 rfl) ?_
              refine lv_bipush (v := 12) hx hb (dq da_X12_wideOne 49 rfl) rfl ?_
              refine lv_lshl (v := (j_lshl (x5 &&& (1048575 : Int64)) (12 : Int32))) hx hb (dq da_X12_wideOne 50 rfl) rfl ?_
              refine lv_lload_n hx hb (dq da_X12_wideOne 51 rfl) rfl (lv_at hl 3 rfl) ?_
              refine lv_bipush (v := 7) hx hb (dq da_X12_wideOne 52 rfl) rfl ?_
              refine lv_lshl (v := (j_lshl x3 (7 : Int32))) hx hb (dq da_X12_wideOne 53 rfl) rfl ?_
              refine lv_lor hx hb (dq da_X12_wideOne 54 rfl) ?_
              refine lv_ldc2 hx hb hown (hts _ w_1485) (dq da_X12_wideOne 55 rfl) ?_
              refine lv_lor hx hb (dq da_X12_wideOne 56 rfl) ?_
              exact pret_l E hr hlk (os h) (dq da_X12_wideOne 57 rfl)
            · have h := it c10 h
              refine lv_lconst (v := 0) hx hb (dq da_X12_wideOne 44 rfl) rfl ?_
              refine lv_goto (tgt := 132) hx hb (dq da_X12_wideOne 45 rfl) (by decide) ?_
              exact pret_l E hr hlk (os h) (dq da_X12_wideOne 57 rfl)
        · have h := ie c5 h
          by_cases c11 : x2 = (4 : Int32)
          · have h := it c11 h
            refine lv_tableIn (off := 162) (tgt := 177) hx hb (dq da_X12_wideOne 8 rfl) (by rw [c11]; decide +kernel) (by rw [c11]; decide +kernel) (by rw [c11]; decide +kernel) (by decide) ?_
            refine lv_lload_n hx hb (dq da_X12_wideOne 79 rfl) rfl (lv_at hl 1 rfl) ?_
            refine lv_lload hx hb (dq da_X12_wideOne 80 rfl) (lv_at hl 0 rfl) ?_
            refine lv_lload hx hb (dq da_X12_wideOne 81 rfl) (lv_at hl 4 rfl) ?_
            refine callP E (c_X12_wideFour l _ _ _ ) w_1487 w_1488 w_10 w_1489 hd_X12_wideFour rfl hl.1 rfl (Nat.le_of_ble_eq_true rfl) ⟨Nat.le_of_ble_eq_true rfl, Nat.le_of_ble_eq_true rfl⟩ (by decide) (dq da_X12_wideOne 82 rfl) ?_
            exact pret_l E hr hlk (os h) (dq da_X12_wideOne 83 rfl)
          · have h := ie c11 h
            by_cases c12 : x2 = (5 : Int32)
            · have h := it c12 h
              refine lv_tableIn (off := 171) (tgt := 186) hx hb (dq da_X12_wideOne 8 rfl) (by rw [c12]; decide +kernel) (by rw [c12]; decide +kernel) (by rw [c12]; decide +kernel) (by decide) ?_
              refine lv_lconst (v := 0) hx hb (dq da_X12_wideOne 84 rfl) rfl ?_
              refine lv_lload_n hx hb (dq da_X12_wideOne 85 rfl) rfl (lv_at hl 1 rfl) ?_
              refine lv_ldc2 hx hb hown (hts _ w_1495) (dq da_X12_wideOne 86 rfl) ?_
              obtain ⟨y13, hy14, h⟩ := ob h
              refine callP E (c_X12_pick l _ _ hy14) w_1466 w_1467 w_10 w_1468 hd_X12_pick rfl hl.1 rfl (Nat.le_of_ble_eq_true rfl) ⟨Nat.le_of_ble_eq_true rfl, Nat.le_of_ble_eq_true rfl⟩ (by decide) (dq da_X12_wideOne 87 rfl) ?_
              refine lv_bipush (v := 11) hx hb (dq da_X12_wideOne 88 rfl) rfl ?_
              refine callP E (c_X12_signed l _ _ ) w_1440 w_1441 w_10 w_1442 hd_X12_signed rfl hl.1 rfl (Nat.le_of_ble_eq_true rfl) ⟨Nat.le_of_ble_eq_true rfl, Nat.le_of_ble_eq_true rfl⟩ (by decide) (dq da_X12_wideOne 89 rfl) ?_
              refine lv_ldc2 hx hb hown (hts _ w_1269) (dq da_X12_wideOne 90 rfl) ?_
              refine lv_lmul hx hb (dq da_X12_wideOne 91 rfl) ?_
              refine callP E (c_X12_typeJ l _ _ ) w_1496 w_1497 w_10 w_1498 hd_X12_typeJ rfl hl.1 rfl (Nat.le_of_ble_eq_true rfl) ⟨Nat.le_of_ble_eq_true rfl, Nat.le_of_ble_eq_true rfl⟩ (by decide) (dq da_X12_wideOne 92 rfl) ?_
              exact pret_l E hr hlk (os h) (dq da_X12_wideOne 93 rfl)
            · have h := ie c12 h
              refine lv_tableOut (tgt := 207) hx hb (dq da_X12_wideOne 8 rfl) (by have := lv_neT (k := (0 : Int32)) (a := 0) c1 rfl; have := lv_neT (k := (1 : Int32)) (a := 1) c2 rfl; have := lv_neT (k := (2 : Int32)) (a := 2) c4 rfl; have := lv_neT (k := (3 : Int32)) (a := 3) c5 rfl; have := lv_neT (k := (4 : Int32)) (a := 4) c11 rfl; have := lv_neT (k := (5 : Int32)) (a := 5) c12 rfl; omega) (by decide) ?_
              refine lv_iload_n hx hb (dq da_X12_wideOne 94 rfl) rfl (lv_at hl 2 rfl) ?_
              refine lv_bipush (v := 6) hx hb (dq da_X12_wideOne 95 rfl) rfl ?_
              refine lv_icmp_ne (tgt := 217) hx hb (dq da_X12_wideOne 96 rfl) (by decide) (fun c15 => ?_) (fun c15 => ?_)
              · have h := ie c15 h
                refine lv_iconst (v := 1) hx hb (dq da_X12_wideOne 99 rfl) rfl ?_
                exact b_X12_wideOne_b218 E hr hlk h (lv_sub hl [1, 0] rfl)
              · have h := it c15 h
                refine lv_iconst (v := 0) hx hb (dq da_X12_wideOne 97 rfl) rfl ?_
                refine lv_goto (tgt := 218) hx hb (dq da_X12_wideOne 98 rfl) (by decide) ?_
                exact b_X12_wideOne_b218 E hr hlk h (lv_sub hl [1, 0] rfl)
def dl_X12_wideTwo : List (Nat × Instr × Nat) := [(0, .lload_n 0, 1), (1, .ldc2_w 499, 3), (4, .invokestatic 501, 3), (7, .lstore 7, 2), (9, .iload_n 2, 1), (10, .tableswitch 256 0 7 #[46, 256, 57, 88, 119, 256, 214, 235], 46), (56, .bipush 19, 2), (58, .iconst 1, 1), (59, .lload_n 3, 1), (60, .lload_n 3, 1), (61, .lload 7, 2), (63, .invokestatic 516, 3), (66, .lreturn, 1), (67, .lload_n 3, 1), (68, .lconst 0, 1), (69, .lcmp, 1), (70, .ifCond .ne 7, 3), (73, .lconst 0, 1), (74, .goto 23, 3), (77, .iconst 3, 1), (78, .iconst 2, 1), (79, .lload_n 3, 1), (80, .ldc2_w 313, 3), (83, .lload_n 0, 1), (84, .ldc2_w 550, 3), (87, .invokestatic 501, 3), (90, .ldc2_w 83, 3), (93, .lmul, 1), (94, .invokestatic 516, 3), (97, .lreturn, 1), (98, .lload_n 3, 1), (99, .lconst 0, 1), (100, .lcmp, 1), (101, .ifCond .ne 7, 3), (104, .lconst 0, 1), (105, .goto 23, 3), (108, .iconst 3, 1), (109, .iconst 3, 1), (110, .lload_n 3, 1), (111, .ldc2_w 313, 3), (114, .lload_n 0, 1), (115, .ldc2_w 552, 3), (118, .invokestatic 501, 3), (121, .ldc2_w 203, 3), (124, .lmul, 1), (125, .invokestatic 516, 3), (128, .lreturn, 1), (129, .lload_n 0, 1), (130, .bipush 12, 2), (132, .bipush 12, 2), (134, .invokestatic 196, 3), (137, .lconst 0, 1), (138, .lcmp, 1), (139, .ifCond .ne 44, 3), (142, .lload 5, 2), (144, .lconst 0, 1), (145, .lcmp, 1), (146, .ifCond .le 17, 3), (149, .bipush 51, 2), (151, .iconst 0, 1), (152, .lconst 0, 1), (153, .lload_n 3, 1), (154, .lconst 0, 1), (155, .lload 5, 2), (157, .invokestatic 546, 3), (160, .goto 22, 3), (163, .lload_n 3, 1), (164, .lconst 0, 1), (165, .lcmp, 1), (166, .ifCond .ne 7, 3), (169, .lconst 0, 1), (170, .goto 12, 3), (173, .bipush 103, 2), (175, .iconst 0, 1), (176, .lconst 0, 1), (177, .lload_n 3, 1), (178, .lconst 0, 1), (179, .invokestatic 516, 3), (182, .lreturn, 1), (183, .lload 5, 2), (185, .lconst 0, 1), (186, .lcmp, 1), (187, .ifCond .le 15, 3), (190, .bipush 51, 2), (192, .iconst 0, 1), (193, .lconst 0, 1), (194, .lload_n 3, 1), (195, .lload_n 3, 1), (196, .lload 5, 2), (198, .invokestatic 546, 3), (201, .lreturn, 1), (202, .lload_n 3, 1), (203, .lconst 0, 1), (204, .lcmp, 1), (205, .ifCond .ne 9, 3), (208, .ldc2_w 477, 3), (211, .goto 12, 3), (214, .bipush 103, 2), (216, .iconst 0, 1), (217, .lconst 1, 1), (218, .lload_n 3, 1), (219, .lconst 0, 1), (220, .invokestatic 516, 3), (223, .lreturn, 1), (224, .iconst 2, 1), (225, .ldc2_w 313, 3), (228, .lload 5, 2), (230, .lload_n 0, 1), (231, .ldc2_w 554, 3), (234, .invokestatic 501, 3), (237, .ldc2_w 83, 3), (240, .lmul, 1), (241, .invokestatic 520, 3), (244, .lreturn, 1), (245, .iconst 3, 1), (246, .ldc2_w 313, 3), (249, .lload 5, 2), (251, .lload_n 0, 1), (252, .ldc2_w 556, 3), (255, .invokestatic 501, 3), (258, .ldc2_w 203, 3), (261, .lmul, 1), (262, .invokestatic 520, 3), (265, .lreturn, 1), (266, .lconst 0, 1), (267, .lreturn, 1)]
theorem da_X12_wideTwo : dkL cX12_wideTwo dl_X12_wideTwo = true := by decide +kernel
def f_X12_wideTwo_b266  : Option (Int64) := some (0 : Int64)
set_option maxRecDepth 100000 in
set_option maxHeartbeats 4000000 in
theorem b_X12_wideTwo_b266 {p : Program} {l : Launch} {e : Env} {s : State} {m : MethodId} {args : Array Value} {below : List Frame} {meth : Method} {c : Code} (E : CallFix p m c cX12_wideTwo 9 s args gw RX12) (hr : meth.sig.returnType = some .long) (hlk : meth.locks = false)  {r : Int64} (h : f_X12_wideTwo_b266  = some r) {ls : Array Slot} (hl : lv_has ls 9 []) : Wp p l e 2 49 s m args below meth c (.long r) 266 ls [] := by
  have hx := E.1
  have hb := E.2.1
  have hown := E.2.2.2.1
  have hts := E.2.2.2.2
  refine lv_lconst (v := 0) hx hb (dq da_X12_wideTwo 124 rfl) rfl ?_
  exact pret_l E hr hlk (os h) (dq da_X12_wideTwo 125 rfl)
def f_X12_wideTwo (x0 : Int64) (x2 : Int32) (x3 : Int64) (x5 : Int64) : Option (Int64) := (f_X12_pick x0 (12997682 : Int64)).bind (fun y1 => if x2 = (0 : Int32) then (some (f_X12_typeI (19 : Int32) (1 : Int32) x3 x3 y1)) else if x2 = (1 : Int32) then (f_X12_wideTwo_b266 ) else if x2 = (2 : Int32) then (if x3 = (0 : Int64) then (some (0 : Int64)) else ((f_X12_pick x0 (3327572 : Int64)).bind (fun y7 => some (f_X12_typeI (3 : Int32) (2 : Int32) x3 (2 : Int64) (y7 * (4 : Int64)))))) else if x2 = (3 : Int32) then (if x3 = (0 : Int64) then (some (0 : Int64)) else ((f_X12_pick x0 (4402277 : Int64)).bind (fun y11 => some (f_X12_typeI (3 : Int32) (3 : Int32) x3 (2 : Int64) (y11 * (8 : Int64)))))) else if x2 = (4 : Int32) then (if (f_X12_cut x0 (12 : Int32) (12 : Int32)) = (0 : Int64) then (if x5 ≤ (0 : Int64) then (if x3 = (0 : Int64) then (some (0 : Int64)) else (some (f_X12_typeI (103 : Int32) (0 : Int32) (0 : Int64) x3 (0 : Int64)))) else (some (f_X12_typeR (51 : Int32) (0 : Int32) (0 : Int64) x3 (0 : Int64) x5))) else (if x5 ≤ (0 : Int64) then (if x3 = (0 : Int64) then (some (1048691 : Int64)) else (some (f_X12_typeI (103 : Int32) (0 : Int32) (1 : Int64) x3 (0 : Int64)))) else (some (f_X12_typeR (51 : Int32) (0 : Int32) (0 : Int64) x3 x3 x5)))) else if x2 = (5 : Int32) then (f_X12_wideTwo_b266 ) else if x2 = (6 : Int32) then ((f_X12_pick x0 (8899497 : Int64)).bind (fun y21 => some (f_X12_typeS (2 : Int32) (2 : Int64) x5 (y21 * (4 : Int64))))) else if x2 = (7 : Int32) then ((f_X12_pick x0 (9993402 : Int64)).bind (fun y24 => some (f_X12_typeS (3 : Int32) (2 : Int64) x5 (y24 * (8 : Int64))))) else (f_X12_wideTwo_b266 ))
set_option maxRecDepth 100000 in
set_option maxHeartbeats 4000000 in
theorem c_X12_wideTwo (l : Launch) (x0 : Int64) (x2 : Int32) (x3 : Int64) (x5 : Int64) {r : Int64} (h : f_X12_wideTwo x0 x2 x3 x5 = some r) : MP l yX12_wideTwo cX12_wideTwo 9 (some .long) 2 49 [.long x0, .int x2, .long x3, .long x5] (.long (r)) := by
  refine entP (by decide +kernel) (Nat.le_of_ble_eq_true rfl) ?_
  intro p e s m args below meth c ls E hr hlk hl
  have hl : lv_has ls 9 [(0, .long x0), (2, .int x2), (3, .long x3), (5, .long x5)] := hl
  have hx := E.1
  have hb := E.2.1
  have hown := E.2.2.2.1
  have hts := E.2.2.2.2
  refine lv_lload_n hx hb (dq da_X12_wideTwo 0 rfl) rfl (lv_at hl 0 rfl) ?_
  refine lv_ldc2 hx hb hown (hts _ w_1480) (dq da_X12_wideTwo 1 rfl) ?_
  obtain ⟨y1, hy2, h⟩ := ob h
  refine callP E (c_X12_pick l _ _ hy2) w_1466 w_1467 w_10 w_1468 hd_X12_pick rfl hl.1 rfl (Nat.le_of_ble_eq_true rfl) ⟨Nat.le_of_ble_eq_true rfl, Nat.le_of_ble_eq_true rfl⟩ (by decide) (dq da_X12_wideTwo 2 rfl) ?_
  refine lv_lstore (lv' := [(7, .long y1), (0, .long x0), (2, .int x2), (3, .long x3), (5, .long x5)]) hx hb (dq da_X12_wideTwo 3 rfl) hl (by decide) rfl (fun ls hl => ?_)
  refine lv_iload_n hx hb (dq da_X12_wideTwo 4 rfl) rfl (lv_at hl 2 rfl) ?_
  by_cases c3 : x2 = (0 : Int32)
  · have h := it c3 h
    refine lv_tableIn (off := 46) (tgt := 56) hx hb (dq da_X12_wideTwo 5 rfl) (by rw [c3]; decide +kernel) (by rw [c3]; decide +kernel) (by rw [c3]; decide +kernel) (by decide) ?_
    refine lv_bipush (v := 19) hx hb (dq da_X12_wideTwo 6 rfl) rfl ?_
    refine lv_iconst (v := 1) hx hb (dq da_X12_wideTwo 7 rfl) rfl ?_
    refine lv_lload_n hx hb (dq da_X12_wideTwo 8 rfl) rfl (lv_at hl 3 rfl) ?_
    refine lv_lload_n hx hb (dq da_X12_wideTwo 9 rfl) rfl (lv_at hl 3 rfl) ?_
    refine lv_lload hx hb (dq da_X12_wideTwo 10 rfl) (lv_at hl 0 rfl) ?_
    refine callP E (c_X12_typeI l _ _ _ _ _ ) w_1472 w_1473 w_10 w_1474 hd_X12_typeI rfl hl.1 rfl (Nat.le_of_ble_eq_true rfl) ⟨Nat.le_of_ble_eq_true rfl, Nat.le_of_ble_eq_true rfl⟩ (by decide) (dq da_X12_wideTwo 11 rfl) ?_
    exact pret_l E hr hlk (os h) (dq da_X12_wideTwo 12 rfl)
  · have h := ie c3 h
    by_cases c4 : x2 = (1 : Int32)
    · have h := it c4 h
      refine lv_tableIn (off := 256) (tgt := 266) hx hb (dq da_X12_wideTwo 5 rfl) (by rw [c4]; decide +kernel) (by rw [c4]; decide +kernel) (by rw [c4]; decide +kernel) (by decide) ?_
      exact b_X12_wideTwo_b266 E hr hlk h (lv_sub hl [] rfl)
    · have h := ie c4 h
      by_cases c5 : x2 = (2 : Int32)
      · have h := it c5 h
        refine lv_tableIn (off := 57) (tgt := 67) hx hb (dq da_X12_wideTwo 5 rfl) (by rw [c5]; decide +kernel) (by rw [c5]; decide +kernel) (by rw [c5]; decide +kernel) (by decide) ?_
        refine lv_lload_n hx hb (dq da_X12_wideTwo 13 rfl) rfl (lv_at hl 3 rfl) ?_
        refine lv_lconst (v := 0) hx hb (dq da_X12_wideTwo 14 rfl) rfl ?_
        refine lc_ne (tgt := 77) hx hb (dq da_X12_wideTwo 15 rfl) (dq da_X12_wideTwo 16 rfl) (by decide) (fun c6 => ?_) (fun c6 => ?_)
        · have h := ie c6 h
          refine lv_iconst (v := 3) hx hb (dq da_X12_wideTwo 19 rfl) rfl ?_
          refine lv_iconst (v := 2) hx hb (dq da_X12_wideTwo 20 rfl) rfl ?_
          refine lv_lload_n hx hb (dq da_X12_wideTwo 21 rfl) rfl (lv_at hl 3 rfl) ?_
          refine lv_ldc2 hx hb hown (hts _ w_1269) (dq da_X12_wideTwo 22 rfl) ?_
          refine lv_lload_n hx hb (dq da_X12_wideTwo 23 rfl) rfl (lv_at hl 1 rfl) ?_
          refine lv_ldc2 hx hb hown (hts _ w_1508) (dq da_X12_wideTwo 24 rfl) ?_
          obtain ⟨y7, hy8, h⟩ := ob h
          refine callP E (c_X12_pick l _ _ hy8) w_1466 w_1467 w_10 w_1468 hd_X12_pick rfl hl.1 rfl (Nat.le_of_ble_eq_true rfl) ⟨Nat.le_of_ble_eq_true rfl, Nat.le_of_ble_eq_true rfl⟩ (by decide) (dq da_X12_wideTwo 25 rfl) ?_
          refine lv_ldc2 hx hb hown (hts _ w_1427) (dq da_X12_wideTwo 26 rfl) ?_
          refine lv_lmul hx hb (dq da_X12_wideTwo 27 rfl) ?_
          refine callP E (c_X12_typeI l _ _ _ _ _ ) w_1472 w_1473 w_10 w_1474 hd_X12_typeI rfl hl.1 rfl (Nat.le_of_ble_eq_true rfl) ⟨Nat.le_of_ble_eq_true rfl, Nat.le_of_ble_eq_true rfl⟩ (by decide) (dq da_X12_wideTwo 28 rfl) ?_
          exact pret_l E hr hlk (os h) (dq da_X12_wideTwo 29 rfl)
        · have h := it c6 h
          refine lv_lconst (v := 0) hx hb (dq da_X12_wideTwo 17 rfl) rfl ?_
          refine lv_goto (tgt := 97) hx hb (dq da_X12_wideTwo 18 rfl) (by decide) ?_
          exact pret_l E hr hlk (os h) (dq da_X12_wideTwo 29 rfl)
      · have h := ie c5 h
        by_cases c9 : x2 = (3 : Int32)
        · have h := it c9 h
          refine lv_tableIn (off := 88) (tgt := 98) hx hb (dq da_X12_wideTwo 5 rfl) (by rw [c9]; decide +kernel) (by rw [c9]; decide +kernel) (by rw [c9]; decide +kernel) (by decide) ?_
          refine lv_lload_n hx hb (dq da_X12_wideTwo 30 rfl) rfl (lv_at hl 3 rfl) ?_
          refine lv_lconst (v := 0) hx hb (dq da_X12_wideTwo 31 rfl) rfl ?_
          refine lc_ne (tgt := 108) hx hb (dq da_X12_wideTwo 32 rfl) (dq da_X12_wideTwo 33 rfl) (by decide) (fun c10 => ?_) (fun c10 => ?_)
          · have h := ie c10 h
            refine lv_iconst (v := 3) hx hb (dq da_X12_wideTwo 36 rfl) rfl ?_
            refine lv_iconst (v := 3) hx hb (dq da_X12_wideTwo 37 rfl) rfl ?_
            refine lv_lload_n hx hb (dq da_X12_wideTwo 38 rfl) rfl (lv_at hl 3 rfl) ?_
            refine lv_ldc2 hx hb hown (hts _ w_1269) (dq da_X12_wideTwo 39 rfl) ?_
            refine lv_lload_n hx hb (dq da_X12_wideTwo 40 rfl) rfl (lv_at hl 1 rfl) ?_
            refine lv_ldc2 hx hb hown (hts _ w_1509) (dq da_X12_wideTwo 41 rfl) ?_
            obtain ⟨y11, hy12, h⟩ := ob h
            refine callP E (c_X12_pick l _ _ hy12) w_1466 w_1467 w_10 w_1468 hd_X12_pick rfl hl.1 rfl (Nat.le_of_ble_eq_true rfl) ⟨Nat.le_of_ble_eq_true rfl, Nat.le_of_ble_eq_true rfl⟩ (by decide) (dq da_X12_wideTwo 42 rfl) ?_
            refine lv_ldc2 hx hb hown (hts _ w_1283) (dq da_X12_wideTwo 43 rfl) ?_
            refine lv_lmul hx hb (dq da_X12_wideTwo 44 rfl) ?_
            refine callP E (c_X12_typeI l _ _ _ _ _ ) w_1472 w_1473 w_10 w_1474 hd_X12_typeI rfl hl.1 rfl (Nat.le_of_ble_eq_true rfl) ⟨Nat.le_of_ble_eq_true rfl, Nat.le_of_ble_eq_true rfl⟩ (by decide) (dq da_X12_wideTwo 45 rfl) ?_
            exact pret_l E hr hlk (os h) (dq da_X12_wideTwo 46 rfl)
          · have h := it c10 h
            refine lv_lconst (v := 0) hx hb (dq da_X12_wideTwo 34 rfl) rfl ?_
            refine lv_goto (tgt := 128) hx hb (dq da_X12_wideTwo 35 rfl) (by decide) ?_
            exact pret_l E hr hlk (os h) (dq da_X12_wideTwo 46 rfl)
        · have h := ie c9 h
          by_cases c13 : x2 = (4 : Int32)
          · have h := it c13 h
            refine lv_tableIn (off := 119) (tgt := 129) hx hb (dq da_X12_wideTwo 5 rfl) (by rw [c13]; decide +kernel) (by rw [c13]; decide +kernel) (by rw [c13]; decide +kernel) (by decide) ?_
            refine lv_lload_n hx hb (dq da_X12_wideTwo 47 rfl) rfl (lv_at hl 1 rfl) ?_
            refine lv_bipush (v := 12) hx hb (dq da_X12_wideTwo 48 rfl) rfl ?_
            refine lv_bipush (v := 12) hx hb (dq da_X12_wideTwo 49 rfl) rfl ?_
            refine callP E (c_X12_cut l _ _ _ ) w_1384 w_1385 w_10 w_1386 hd_X12_cut rfl hl.1 rfl (Nat.le_of_ble_eq_true rfl) ⟨Nat.le_of_ble_eq_true rfl, Nat.le_of_ble_eq_true rfl⟩ (by decide) (dq da_X12_wideTwo 50 rfl) ?_
            refine lv_lconst (v := 0) hx hb (dq da_X12_wideTwo 51 rfl) rfl ?_
            refine lc_ne (tgt := 183) hx hb (dq da_X12_wideTwo 52 rfl) (dq da_X12_wideTwo 53 rfl) (by decide) (fun c14 => ?_) (fun c14 => ?_)
            · have h := ie c14 h
              refine lv_lload hx hb (dq da_X12_wideTwo 79 rfl) (lv_at hl 4 rfl) ?_
              refine lv_lconst (v := 0) hx hb (dq da_X12_wideTwo 80 rfl) rfl ?_
              refine lc_le (tgt := 202) hx hb (dq da_X12_wideTwo 81 rfl) (dq da_X12_wideTwo 82 rfl) (by decide) (fun c15 => ?_) (fun c15 => ?_)
              · have h := it c15 h
                refine lv_lload_n hx hb (dq da_X12_wideTwo 91 rfl) rfl (lv_at hl 3 rfl) ?_
                refine lv_lconst (v := 0) hx hb (dq da_X12_wideTwo 92 rfl) rfl ?_
                refine lc_ne (tgt := 214) hx hb (dq da_X12_wideTwo 93 rfl) (dq da_X12_wideTwo 94 rfl) (by decide) (fun c16 => ?_) (fun c16 => ?_)
                · have h := ie c16 h
                  refine lv_bipush (v := 103) hx hb (dq da_X12_wideTwo 97 rfl) rfl ?_
                  refine lv_iconst (v := 0) hx hb (dq da_X12_wideTwo 98 rfl) rfl ?_
                  refine lv_lconst (v := 1) hx hb (dq da_X12_wideTwo 99 rfl) rfl ?_
                  refine lv_lload_n hx hb (dq da_X12_wideTwo 100 rfl) rfl (lv_at hl 3 rfl) ?_
                  refine lv_lconst (v := 0) hx hb (dq da_X12_wideTwo 101 rfl) rfl ?_
                  refine callP E (c_X12_typeI l _ _ _ _ _ ) w_1472 w_1473 w_10 w_1474 hd_X12_typeI rfl hl.1 rfl (Nat.le_of_ble_eq_true rfl) ⟨Nat.le_of_ble_eq_true rfl, Nat.le_of_ble_eq_true rfl⟩ (by decide) (dq da_X12_wideTwo 102 rfl) ?_
                  exact pret_l E hr hlk (os h) (dq da_X12_wideTwo 103 rfl)
                · have h := it c16 h
                  refine lv_ldc2 hx hb hown (hts _ w_1510) (dq da_X12_wideTwo 95 rfl) ?_
                  refine lv_goto (tgt := 223) hx hb (dq da_X12_wideTwo 96 rfl) (by decide) ?_
                  exact pret_l E hr hlk (os h) (dq da_X12_wideTwo 103 rfl)
              · have h := ie c15 h
                refine lv_bipush (v := 51) hx hb (dq da_X12_wideTwo 83 rfl) rfl ?_
                refine lv_iconst (v := 0) hx hb (dq da_X12_wideTwo 84 rfl) rfl ?_
                refine lv_lconst (v := 0) hx hb (dq da_X12_wideTwo 85 rfl) rfl ?_
                refine lv_lload_n hx hb (dq da_X12_wideTwo 86 rfl) rfl (lv_at hl 3 rfl) ?_
                refine lv_lload_n hx hb (dq da_X12_wideTwo 87 rfl) rfl (lv_at hl 3 rfl) ?_
                refine lv_lload hx hb (dq da_X12_wideTwo 88 rfl) (lv_at hl 4 rfl) ?_
                refine callP E (c_X12_typeR l _ _ _ _ _ _ ) w_1492 w_1493 w_10 w_1494 hd_X12_typeR rfl hl.1 rfl (Nat.le_of_ble_eq_true rfl) ⟨Nat.le_of_ble_eq_true rfl, Nat.le_of_ble_eq_true rfl⟩ (by decide) (dq da_X12_wideTwo 89 rfl) ?_
                exact pret_l E hr hlk (os h) (dq da_X12_wideTwo 90 rfl)
            · have h := it c14 h
              refine lv_lload hx hb (dq da_X12_wideTwo 54 rfl) (lv_at hl 4 rfl) ?_
              refine lv_lconst (v := 0) hx hb (dq da_X12_wideTwo 55 rfl) rfl ?_
              refine lc_le (tgt := 163) hx hb (dq da_X12_wideTwo 56 rfl) (dq da_X12_wideTwo 57 rfl) (by decide) (fun c17 => ?_) (fun c17 => ?_)
              · have h := it c17 h
                refine lv_lload_n hx hb (dq da_X12_wideTwo 66 rfl) rfl (lv_at hl 3 rfl) ?_
                refine lv_lconst (v := 0) hx hb (dq da_X12_wideTwo 67 rfl) rfl ?_
                refine lc_ne (tgt := 173) hx hb (dq da_X12_wideTwo 68 rfl) (dq da_X12_wideTwo 69 rfl) (by decide) (fun c18 => ?_) (fun c18 => ?_)
                · have h := ie c18 h
                  refine lv_bipush (v := 103) hx hb (dq da_X12_wideTwo 72 rfl) rfl ?_
                  refine lv_iconst (v := 0) hx hb (dq da_X12_wideTwo 73 rfl) rfl ?_
                  refine lv_lconst (v := 0) hx hb (dq da_X12_wideTwo 74 rfl) rfl ?_
                  refine lv_lload_n hx hb (dq da_X12_wideTwo 75 rfl) rfl (lv_at hl 3 rfl) ?_
                  refine lv_lconst (v := 0) hx hb (dq da_X12_wideTwo 76 rfl) rfl ?_
                  refine callP E (c_X12_typeI l _ _ _ _ _ ) w_1472 w_1473 w_10 w_1474 hd_X12_typeI rfl hl.1 rfl (Nat.le_of_ble_eq_true rfl) ⟨Nat.le_of_ble_eq_true rfl, Nat.le_of_ble_eq_true rfl⟩ (by decide) (dq da_X12_wideTwo 77 rfl) ?_
                  exact pret_l E hr hlk (os h) (dq da_X12_wideTwo 78 rfl)
                · have h := it c18 h
                  refine lv_lconst (v := 0) hx hb (dq da_X12_wideTwo 70 rfl) rfl ?_
                  refine lv_goto (tgt := 182) hx hb (dq da_X12_wideTwo 71 rfl) (by decide) ?_
                  exact pret_l E hr hlk (os h) (dq da_X12_wideTwo 78 rfl)
              · have h := ie c17 h
                refine lv_bipush (v := 51) hx hb (dq da_X12_wideTwo 58 rfl) rfl ?_
                refine lv_iconst (v := 0) hx hb (dq da_X12_wideTwo 59 rfl) rfl ?_
                refine lv_lconst (v := 0) hx hb (dq da_X12_wideTwo 60 rfl) rfl ?_
                refine lv_lload_n hx hb (dq da_X12_wideTwo 61 rfl) rfl (lv_at hl 3 rfl) ?_
                refine lv_lconst (v := 0) hx hb (dq da_X12_wideTwo 62 rfl) rfl ?_
                refine lv_lload hx hb (dq da_X12_wideTwo 63 rfl) (lv_at hl 4 rfl) ?_
                refine callP E (c_X12_typeR l _ _ _ _ _ _ ) w_1492 w_1493 w_10 w_1494 hd_X12_typeR rfl hl.1 rfl (Nat.le_of_ble_eq_true rfl) ⟨Nat.le_of_ble_eq_true rfl, Nat.le_of_ble_eq_true rfl⟩ (by decide) (dq da_X12_wideTwo 64 rfl) ?_
                refine lv_goto (tgt := 182) hx hb (dq da_X12_wideTwo 65 rfl) (by decide) ?_
                exact pret_l E hr hlk (os h) (dq da_X12_wideTwo 78 rfl)
          · have h := ie c13 h
            by_cases c19 : x2 = (5 : Int32)
            · have h := it c19 h
              refine lv_tableIn (off := 256) (tgt := 266) hx hb (dq da_X12_wideTwo 5 rfl) (by rw [c19]; decide +kernel) (by rw [c19]; decide +kernel) (by rw [c19]; decide +kernel) (by decide) ?_
              exact b_X12_wideTwo_b266 E hr hlk h (lv_sub hl [] rfl)
            · have h := ie c19 h
              by_cases c20 : x2 = (6 : Int32)
              · have h := it c20 h
                refine lv_tableIn (off := 214) (tgt := 224) hx hb (dq da_X12_wideTwo 5 rfl) (by rw [c20]; decide +kernel) (by rw [c20]; decide +kernel) (by rw [c20]; decide +kernel) (by decide) ?_
                refine lv_iconst (v := 2) hx hb (dq da_X12_wideTwo 104 rfl) rfl ?_
                refine lv_ldc2 hx hb hown (hts _ w_1269) (dq da_X12_wideTwo 105 rfl) ?_
                refine lv_lload hx hb (dq da_X12_wideTwo 106 rfl) (lv_at hl 4 rfl) ?_
                refine lv_lload_n hx hb (dq da_X12_wideTwo 107 rfl) rfl (lv_at hl 1 rfl) ?_
                refine lv_ldc2 hx hb hown (hts _ w_1511) (dq da_X12_wideTwo 108 rfl) ?_
                obtain ⟨y21, hy22, h⟩ := ob h
                refine callP E (c_X12_pick l _ _ hy22) w_1466 w_1467 w_10 w_1468 hd_X12_pick rfl hl.1 rfl (Nat.le_of_ble_eq_true rfl) ⟨Nat.le_of_ble_eq_true rfl, Nat.le_of_ble_eq_true rfl⟩ (by decide) (dq da_X12_wideTwo 109 rfl) ?_
                refine lv_ldc2 hx hb hown (hts _ w_1427) (dq da_X12_wideTwo 110 rfl) ?_
                refine lv_lmul hx hb (dq da_X12_wideTwo 111 rfl) ?_
                refine callP E (c_X12_typeS l _ _ _ _ ) w_1476 w_1477 w_10 w_1478 hd_X12_typeS rfl hl.1 rfl (Nat.le_of_ble_eq_true rfl) ⟨Nat.le_of_ble_eq_true rfl, Nat.le_of_ble_eq_true rfl⟩ (by decide) (dq da_X12_wideTwo 112 rfl) ?_
                exact pret_l E hr hlk (os h) (dq da_X12_wideTwo 113 rfl)
              · have h := ie c20 h
                by_cases c23 : x2 = (7 : Int32)
                · have h := it c23 h
                  refine lv_tableIn (off := 235) (tgt := 245) hx hb (dq da_X12_wideTwo 5 rfl) (by rw [c23]; decide +kernel) (by rw [c23]; decide +kernel) (by rw [c23]; decide +kernel) (by decide) ?_
                  refine lv_iconst (v := 3) hx hb (dq da_X12_wideTwo 114 rfl) rfl ?_
                  refine lv_ldc2 hx hb hown (hts _ w_1269) (dq da_X12_wideTwo 115 rfl) ?_
                  refine lv_lload hx hb (dq da_X12_wideTwo 116 rfl) (lv_at hl 4 rfl) ?_
                  refine lv_lload_n hx hb (dq da_X12_wideTwo 117 rfl) rfl (lv_at hl 1 rfl) ?_
                  refine lv_ldc2 hx hb hown (hts _ w_1512) (dq da_X12_wideTwo 118 rfl) ?_
                  obtain ⟨y24, hy25, h⟩ := ob h
                  refine callP E (c_X12_pick l _ _ hy25) w_1466 w_1467 w_10 w_1468 hd_X12_pick rfl hl.1 rfl (Nat.le_of_ble_eq_true rfl) ⟨Nat.le_of_ble_eq_true rfl, Nat.le_of_ble_eq_true rfl⟩ (by decide) (dq da_X12_wideTwo 119 rfl) ?_
                  refine lv_ldc2 hx hb hown (hts _ w_1283) (dq da_X12_wideTwo 120 rfl) ?_
                  refine lv_lmul hx hb (dq da_X12_wideTwo 121 rfl) ?_
                  refine callP E (c_X12_typeS l _ _ _ _ ) w_1476 w_1477 w_10 w_1478 hd_X12_typeS rfl hl.1 rfl (Nat.le_of_ble_eq_true rfl) ⟨Nat.le_of_ble_eq_true rfl, Nat.le_of_ble_eq_true rfl⟩ (by decide) (dq da_X12_wideTwo 122 rfl) ?_
                  exact pret_l E hr hlk (os h) (dq da_X12_wideTwo 123 rfl)
                · have h := ie c23 h
                  refine lv_tableOut (tgt := 266) hx hb (dq da_X12_wideTwo 5 rfl) (by have := lv_neT (k := (0 : Int32)) (a := 0) c3 rfl; have := lv_neT (k := (1 : Int32)) (a := 1) c4 rfl; have := lv_neT (k := (2 : Int32)) (a := 2) c5 rfl; have := lv_neT (k := (3 : Int32)) (a := 3) c9 rfl; have := lv_neT (k := (4 : Int32)) (a := 4) c13 rfl; have := lv_neT (k := (5 : Int32)) (a := 5) c19 rfl; have := lv_neT (k := (6 : Int32)) (a := 6) c20 rfl; have := lv_neT (k := (7 : Int32)) (a := 7) c23 rfl; omega) (by decide) ?_
                  exact b_X12_wideTwo_b266 E hr hlk h (lv_sub hl [] rfl)
def dl_X12_wide : List (Nat × Instr × Nat) := [(0, .lload_n 0, 1), (1, .ldc2_w 377, 3), (4, .land, 1), (5, .l2i, 1), (6, .lookupswitch 96 #[(0, 26), (1, 62)], 26), (32, .lload_n 0, 1), (33, .lload_n 0, 1), (34, .bipush 15, 2), (36, .bipush 13, 2), (38, .invokestatic 196, 3), (41, .l2i, 1), (42, .ldc2_w 203, 3), (45, .lload_n 0, 1), (46, .bipush 9, 2), (48, .bipush 7, 2), (50, .invokestatic 196, 3), (53, .ladd, 1), (54, .ldc2_w 203, 3), (57, .lload_n 0, 1), (58, .iconst 4, 1), (59, .iconst 2, 1), (60, .invokestatic 196, 3), (63, .ladd, 1), (64, .invokestatic 495, 3), (67, .lreturn, 1), (68, .lload_n 0, 1), (69, .lload_n 0, 1), (70, .bipush 15, 2), (72, .bipush 13, 2), (74, .invokestatic 196, 3), (77, .l2i, 1), (78, .lload_n 0, 1), (79, .bipush 11, 2), (81, .bipush 7, 2), (83, .invokestatic 196, 3), (86, .lload_n 0, 1), (87, .ldc2_w 499, 3), (90, .invokestatic 501, 3), (93, .bipush 6, 2), (95, .invokestatic 205, 3), (98, .invokestatic 504, 3), (101, .lreturn, 1), (102, .lload_n 0, 1), (103, .lload_n 0, 1), (104, .bipush 15, 2), (106, .bipush 13, 2), (108, .invokestatic 196, 3), (111, .l2i, 1), (112, .lload_n 0, 1), (113, .bipush 11, 2), (115, .bipush 7, 2), (117, .invokestatic 196, 3), (120, .lload_n 0, 1), (121, .bipush 6, 2), (123, .iconst 2, 1), (124, .invokestatic 196, 3), (127, .invokestatic 507, 3), (130, .lreturn, 1)]
theorem da_X12_wide : dkL cX12_wide dl_X12_wide = true := by decide +kernel
def f_X12_wide (x0 : Int64) : Option (Int64) := if (x0 &&& (3 : Int64)).toInt32 = (0 : Int32) then ((f_X12_wideZero x0 ((f_X12_cut x0 (15 : Int32) (13 : Int32)).toInt32) ((8 : Int64) + (f_X12_cut x0 (9 : Int32) (7 : Int32))) ((8 : Int64) + (f_X12_cut x0 (4 : Int32) (2 : Int32)))).bind (fun y2 => some y2)) else if (x0 &&& (3 : Int64)).toInt32 = (1 : Int32) then ((f_X12_pick x0 (12997682 : Int64)).bind (fun y5 => (f_X12_wideOne x0 ((f_X12_cut x0 (15 : Int32) (13 : Int32)).toInt32) (f_X12_cut x0 (11 : Int32) (7 : Int32)) (f_X12_signed y5 (6 : Int32))).bind (fun y7 => some y7))) else ((f_X12_wideTwo x0 ((f_X12_cut x0 (15 : Int32) (13 : Int32)).toInt32) (f_X12_cut x0 (11 : Int32) (7 : Int32)) (f_X12_cut x0 (6 : Int32) (2 : Int32))).bind (fun y9 => some y9))
set_option maxRecDepth 100000 in
set_option maxHeartbeats 4000000 in
theorem c_X12_wide (l : Launch) (x0 : Int64) {r : Int64} (h : f_X12_wide x0 = some r) : MP l yX12_wide cX12_wide 2 (some .long) 3 88 [.long x0] (.long (r)) := by
  refine entP (by decide +kernel) (Nat.le_of_ble_eq_true rfl) ?_
  intro p e s m args below meth c ls E hr hlk hl
  have hl : lv_has ls 2 [(0, .long x0)] := hl
  have hx := E.1
  have hb := E.2.1
  have hown := E.2.2.2.1
  have hts := E.2.2.2.2
  refine lv_lload_n hx hb (dq da_X12_wide 0 rfl) rfl (lv_at hl 0 rfl) ?_
  refine lv_ldc2 hx hb hown (hts _ w_1458) (dq da_X12_wide 1 rfl) ?_
  refine lv_land hx hb (dq da_X12_wide 2 rfl) ?_
  refine lv_l2i (v := (x0 &&& (3 : Int64)).toInt32) hx hb (dq da_X12_wide 3 rfl) rfl ?_
  by_cases c1 : (x0 &&& (3 : Int64)).toInt32 = (0 : Int32)
  · have h := it c1 h
    refine lv_lookup (off := 26) (tgt := 32) hx hb (dq da_X12_wide 4 rfl) (by decide +kernel) (by rw [c1]; decide +kernel) (by decide) ?_
    refine lv_lload_n hx hb (dq da_X12_wide 5 rfl) rfl (lv_at hl 0 rfl) ?_
    refine lv_lload_n hx hb (dq da_X12_wide 6 rfl) rfl (lv_at hl 0 rfl) ?_
    refine lv_bipush (v := 15) hx hb (dq da_X12_wide 7 rfl) rfl ?_
    refine lv_bipush (v := 13) hx hb (dq da_X12_wide 8 rfl) rfl ?_
    refine callP E (c_X12_cut l _ _ _ ) w_1384 w_1385 w_10 w_1386 hd_X12_cut rfl hl.1 rfl (Nat.le_of_ble_eq_true rfl) ⟨Nat.le_of_ble_eq_true rfl, Nat.le_of_ble_eq_true rfl⟩ (by decide) (dq da_X12_wide 9 rfl) ?_
    refine lv_l2i (v := (f_X12_cut x0 (15 : Int32) (13 : Int32)).toInt32) hx hb (dq da_X12_wide 10 rfl) rfl ?_
    refine lv_ldc2 hx hb hown (hts _ w_1283) (dq da_X12_wide 11 rfl) ?_
    refine lv_lload_n hx hb (dq da_X12_wide 12 rfl) rfl (lv_at hl 0 rfl) ?_
    refine lv_bipush (v := 9) hx hb (dq da_X12_wide 13 rfl) rfl ?_
    refine lv_bipush (v := 7) hx hb (dq da_X12_wide 14 rfl) rfl ?_
    refine callP E (c_X12_cut l _ _ _ ) w_1384 w_1385 w_10 w_1386 hd_X12_cut rfl hl.1 rfl (Nat.le_of_ble_eq_true rfl) ⟨Nat.le_of_ble_eq_true rfl, Nat.le_of_ble_eq_true rfl⟩ (by decide) (dq da_X12_wide 15 rfl) ?_
    refine lv_ladd hx hb (dq da_X12_wide 16 rfl) ?_
    refine lv_ldc2 hx hb hown (hts _ w_1283) (dq da_X12_wide 17 rfl) ?_
    refine lv_lload_n hx hb (dq da_X12_wide 18 rfl) rfl (lv_at hl 0 rfl) ?_
    refine lv_iconst (v := 4) hx hb (dq da_X12_wide 19 rfl) rfl ?_
    refine lv_iconst (v := 2) hx hb (dq da_X12_wide 20 rfl) rfl ?_
    refine callP E (c_X12_cut l _ _ _ ) w_1384 w_1385 w_10 w_1386 hd_X12_cut rfl hl.1 rfl (Nat.le_of_ble_eq_true rfl) ⟨Nat.le_of_ble_eq_true rfl, Nat.le_of_ble_eq_true rfl⟩ (by decide) (dq da_X12_wide 21 rfl) ?_
    refine lv_ladd hx hb (dq da_X12_wide 22 rfl) ?_
    obtain ⟨y2, hy3, h⟩ := ob h
    refine callP E (c_X12_wideZero l _ _ _ _ hy3) w_1462 w_1463 w_10 w_1464 hd_X12_wideZero rfl hl.1 rfl (Nat.le_of_ble_eq_true rfl) ⟨Nat.le_of_ble_eq_true rfl, Nat.le_of_ble_eq_true rfl⟩ (by decide) (dq da_X12_wide 23 rfl) ?_
    exact pret_l E hr hlk (os h) (dq da_X12_wide 24 rfl)
  · have h := ie c1 h
    by_cases c4 : (x0 &&& (3 : Int64)).toInt32 = (1 : Int32)
    · have h := it c4 h
      refine lv_lookup (off := 62) (tgt := 68) hx hb (dq da_X12_wide 4 rfl) (by decide +kernel) (by rw [c4]; decide +kernel) (by decide) ?_
      refine lv_lload_n hx hb (dq da_X12_wide 25 rfl) rfl (lv_at hl 0 rfl) ?_
      refine lv_lload_n hx hb (dq da_X12_wide 26 rfl) rfl (lv_at hl 0 rfl) ?_
      refine lv_bipush (v := 15) hx hb (dq da_X12_wide 27 rfl) rfl ?_
      refine lv_bipush (v := 13) hx hb (dq da_X12_wide 28 rfl) rfl ?_
      refine callP E (c_X12_cut l _ _ _ ) w_1384 w_1385 w_10 w_1386 hd_X12_cut rfl hl.1 rfl (Nat.le_of_ble_eq_true rfl) ⟨Nat.le_of_ble_eq_true rfl, Nat.le_of_ble_eq_true rfl⟩ (by decide) (dq da_X12_wide 29 rfl) ?_
      refine lv_l2i (v := (f_X12_cut x0 (15 : Int32) (13 : Int32)).toInt32) hx hb (dq da_X12_wide 30 rfl) rfl ?_
      refine lv_lload_n hx hb (dq da_X12_wide 31 rfl) rfl (lv_at hl 0 rfl) ?_
      refine lv_bipush (v := 11) hx hb (dq da_X12_wide 32 rfl) rfl ?_
      refine lv_bipush (v := 7) hx hb (dq da_X12_wide 33 rfl) rfl ?_
      refine callP E (c_X12_cut l _ _ _ ) w_1384 w_1385 w_10 w_1386 hd_X12_cut rfl hl.1 rfl (Nat.le_of_ble_eq_true rfl) ⟨Nat.le_of_ble_eq_true rfl, Nat.le_of_ble_eq_true rfl⟩ (by decide) (dq da_X12_wide 34 rfl) ?_
      refine lv_lload_n hx hb (dq da_X12_wide 35 rfl) rfl (lv_at hl 0 rfl) ?_
      refine lv_ldc2 hx hb hown (hts _ w_1480) (dq da_X12_wide 36 rfl) ?_
      obtain ⟨y5, hy6, h⟩ := ob h
      refine callP E (c_X12_pick l _ _ hy6) w_1466 w_1467 w_10 w_1468 hd_X12_pick rfl hl.1 rfl (Nat.le_of_ble_eq_true rfl) ⟨Nat.le_of_ble_eq_true rfl, Nat.le_of_ble_eq_true rfl⟩ (by decide) (dq da_X12_wide 37 rfl) ?_
      refine lv_bipush (v := 6) hx hb (dq da_X12_wide 38 rfl) rfl ?_
      refine callP E (c_X12_signed l _ _ ) w_1440 w_1441 w_10 w_1442 hd_X12_signed rfl hl.1 rfl (Nat.le_of_ble_eq_true rfl) ⟨Nat.le_of_ble_eq_true rfl, Nat.le_of_ble_eq_true rfl⟩ (by decide) (dq da_X12_wide 39 rfl) ?_
      obtain ⟨y7, hy8, h⟩ := ob h
      refine callP E (c_X12_wideOne l _ _ _ _ hy8) w_1481 w_1482 w_10 w_1483 hd_X12_wideOne rfl hl.1 rfl (Nat.le_of_ble_eq_true rfl) ⟨Nat.le_of_ble_eq_true rfl, Nat.le_of_ble_eq_true rfl⟩ (by decide) (dq da_X12_wide 40 rfl) ?_
      exact pret_l E hr hlk (os h) (dq da_X12_wide 41 rfl)
    · have h := ie c4 h
      refine lv_lookup (off := 96) (tgt := 102) hx hb (dq da_X12_wide 4 rfl) (by decide +kernel) (by show Op.lookupswitch.offset [(0, 26), (1, 62)] (96) _ = _; rw [lv_osw (k := (0 : Int32)) (a := 0) c1 rfl, lv_osw (k := (1 : Int32)) (a := 1) c4 rfl]; rfl) (by decide) ?_
      refine lv_lload_n hx hb (dq da_X12_wide 42 rfl) rfl (lv_at hl 0 rfl) ?_
      refine lv_lload_n hx hb (dq da_X12_wide 43 rfl) rfl (lv_at hl 0 rfl) ?_
      refine lv_bipush (v := 15) hx hb (dq da_X12_wide 44 rfl) rfl ?_
      refine lv_bipush (v := 13) hx hb (dq da_X12_wide 45 rfl) rfl ?_
      refine callP E (c_X12_cut l _ _ _ ) w_1384 w_1385 w_10 w_1386 hd_X12_cut rfl hl.1 rfl (Nat.le_of_ble_eq_true rfl) ⟨Nat.le_of_ble_eq_true rfl, Nat.le_of_ble_eq_true rfl⟩ (by decide) (dq da_X12_wide 46 rfl) ?_
      refine lv_l2i (v := (f_X12_cut x0 (15 : Int32) (13 : Int32)).toInt32) hx hb (dq da_X12_wide 47 rfl) rfl ?_
      refine lv_lload_n hx hb (dq da_X12_wide 48 rfl) rfl (lv_at hl 0 rfl) ?_
      refine lv_bipush (v := 11) hx hb (dq da_X12_wide 49 rfl) rfl ?_
      refine lv_bipush (v := 7) hx hb (dq da_X12_wide 50 rfl) rfl ?_
      refine callP E (c_X12_cut l _ _ _ ) w_1384 w_1385 w_10 w_1386 hd_X12_cut rfl hl.1 rfl (Nat.le_of_ble_eq_true rfl) ⟨Nat.le_of_ble_eq_true rfl, Nat.le_of_ble_eq_true rfl⟩ (by decide) (dq da_X12_wide 51 rfl) ?_
      refine lv_lload_n hx hb (dq da_X12_wide 52 rfl) rfl (lv_at hl 0 rfl) ?_
      refine lv_bipush (v := 6) hx hb (dq da_X12_wide 53 rfl) rfl ?_
      refine lv_iconst (v := 2) hx hb (dq da_X12_wide 54 rfl) rfl ?_
      refine callP E (c_X12_cut l _ _ _ ) w_1384 w_1385 w_10 w_1386 hd_X12_cut rfl hl.1 rfl (Nat.le_of_ble_eq_true rfl) ⟨Nat.le_of_ble_eq_true rfl, Nat.le_of_ble_eq_true rfl⟩ (by decide) (dq da_X12_wide 55 rfl) ?_
      obtain ⟨y9, hy10, h⟩ := ob h
      refine callP E (c_X12_wideTwo l _ _ _ _ hy10) w_1505 w_1506 w_10 w_1507 hd_X12_wideTwo rfl hl.1 rfl (Nat.le_of_ble_eq_true rfl) ⟨Nat.le_of_ble_eq_true rfl, Nat.le_of_ble_eq_true rfl⟩ (by decide) (dq da_X12_wide 56 rfl) ?_
      exact pret_l E hr hlk (os h) (dq da_X12_wide 57 rfl)
def dl_X12_placeOf : List (Nat × Instr × Nat) := [(0, .lload_n 0, 1), (1, .ldc2_w 83, 3), (4, .lrem, 1), (5, .lconst 0, 1), (6, .lcmp, 1), (7, .ifCond .eq 5, 3), (10, .iconst 0, 1), (11, .ireturn, 1), (12, .lload_n 0, 1), (13, .ldc2_w 83, 3), (16, .ldc2_w 85, 3), (19, .invokestatic 87, 3), (22, .ifCond .eq 10, 3), (25, .lload_n 0, 1), (26, .ldc2_w 83, 3), (29, .ldiv, 1), (30, .l2i, 1), (31, .ireturn, 1), (32, .lload_n 0, 1), (33, .ldc2_w 73, 3), (36, .lcmp, 1), (37, .ifCond .ne 6, 3), (40, .bipush 8, 2), (42, .ireturn, 1), (43, .lload_n 0, 1), (44, .ldc2_w 91, 3), (47, .lcmp, 1), (48, .ifCond .eq 11, 3), (51, .lload_n 0, 1), (52, .ldc2_w 93, 3), (55, .lcmp, 1), (56, .ifCond .ne 19, 3), (59, .lload_n 0, 1), (60, .ldc2_w 91, 3), (63, .lcmp, 1), (64, .ifCond .ne 8, 3), (67, .bipush 9, 2), (69, .goto 5, 3), (72, .bipush 10, 2), (74, .ireturn, 1), (75, .lload_n 0, 1), (76, .ldc2_w 95, 3), (79, .lcmp, 1), (80, .ifCond .eq 11, 3), (83, .lload_n 0, 1), (84, .ldc2_w 97, 3), (87, .lcmp, 1), (88, .ifCond .ne 19, 3), (91, .lload_n 0, 1), (92, .ldc2_w 95, 3), (95, .lcmp, 1), (96, .ifCond .ne 8, 3), (99, .bipush 11, 2), (101, .goto 5, 3), (104, .bipush 12, 2), (106, .ireturn, 1), (107, .lload_n 0, 1), (108, .ldc2_w 99, 3), (111, .lcmp, 1), (112, .ifCond .ne 8, 3), (115, .bipush 13, 2), (117, .goto 17, 3), (120, .lload_n 0, 1), (121, .ldc2_w 101, 3), (124, .lcmp, 1), (125, .ifCond .ne 8, 3), (128, .bipush 14, 2), (130, .goto 4, 3), (133, .iconst 0, 1), (134, .ireturn, 1)]
theorem da_X12_placeOf : dkL cX12_placeOf dl_X12_placeOf = true := by decide +kernel
def f_X12_placeOf_b59 (x0 : Int64) : Int32 := if x0 = (8192 : Int64) then (9 : Int32) else (10 : Int32)
set_option maxRecDepth 100000 in
set_option maxHeartbeats 4000000 in
theorem b_X12_placeOf_b59 {p : Program} {l : Launch} {e : Env} {s : State} {m : MethodId} {args : Array Value} {below : List Frame} {meth : Method} {c : Code} (E : CallFix p m c cX12_placeOf 2 s args gw RX12) (hr : meth.sig.returnType = some .int) (hlk : meth.locks = false) {x0 : Int64} {r : Int32} (h : f_X12_placeOf_b59 x0 = r) {ls : Array Slot} (hl : lv_has ls 2 [(0, .long x0)]) : Wp p l e 1 25 s m args below meth c (.int r) 59 ls [] := by
  have hx := E.1
  have hb := E.2.1
  have hown := E.2.2.2.1
  have hts := E.2.2.2.2
  refine lv_lload_n hx hb (dq da_X12_placeOf 32 rfl) rfl (lv_at hl 0 rfl) ?_
  refine lv_ldc2 hx hb hown (hts _ w_1553) (dq da_X12_placeOf 33 rfl) ?_
  refine lc_ne (tgt := 72) hx hb (dq da_X12_placeOf 34 rfl) (dq da_X12_placeOf 35 rfl) (by decide) (fun c5 => ?_) (fun c5 => ?_)
  · have h := ie c5 h
    refine lv_bipush (v := 10) hx hb (dq da_X12_placeOf 38 rfl) rfl ?_
    exact pret_i E hr hlk h (dq da_X12_placeOf 39 rfl)
  · have h := it c5 h
    refine lv_bipush (v := 9) hx hb (dq da_X12_placeOf 36 rfl) rfl ?_
    refine lv_goto (tgt := 74) hx hb (dq da_X12_placeOf 37 rfl) (by decide) ?_
    exact pret_i E hr hlk h (dq da_X12_placeOf 39 rfl)
def f_X12_placeOf_b91 (x0 : Int64) : Int32 := if x0 = (2097152 : Int64) then (11 : Int32) else (12 : Int32)
set_option maxRecDepth 100000 in
set_option maxHeartbeats 4000000 in
theorem b_X12_placeOf_b91 {p : Program} {l : Launch} {e : Env} {s : State} {m : MethodId} {args : Array Value} {below : List Frame} {meth : Method} {c : Code} (E : CallFix p m c cX12_placeOf 2 s args gw RX12) (hr : meth.sig.returnType = some .int) (hlk : meth.locks = false) {x0 : Int64} {r : Int32} (h : f_X12_placeOf_b91 x0 = r) {ls : Array Slot} (hl : lv_has ls 2 [(0, .long x0)]) : Wp p l e 1 25 s m args below meth c (.int r) 91 ls [] := by
  have hx := E.1
  have hb := E.2.1
  have hown := E.2.2.2.1
  have hts := E.2.2.2.2
  refine lv_lload_n hx hb (dq da_X12_placeOf 48 rfl) rfl (lv_at hl 0 rfl) ?_
  refine lv_ldc2 hx hb hown (hts _ w_1555) (dq da_X12_placeOf 49 rfl) ?_
  refine lc_ne (tgt := 104) hx hb (dq da_X12_placeOf 50 rfl) (dq da_X12_placeOf 51 rfl) (by decide) (fun c8 => ?_) (fun c8 => ?_)
  · have h := ie c8 h
    refine lv_bipush (v := 12) hx hb (dq da_X12_placeOf 54 rfl) rfl ?_
    exact pret_i E hr hlk h (dq da_X12_placeOf 55 rfl)
  · have h := it c8 h
    refine lv_bipush (v := 11) hx hb (dq da_X12_placeOf 52 rfl) rfl ?_
    refine lv_goto (tgt := 106) hx hb (dq da_X12_placeOf 53 rfl) (by decide) ?_
    exact pret_i E hr hlk h (dq da_X12_placeOf 55 rfl)
def f_X12_placeOf (x0 : Int64) : Int32 := if (x0 - x0 / (4 : Int64) * (4 : Int64)) = (0 : Int64) then (if (f_X12_in x0 (4 : Int64) (28 : Int64)) = (0 : Int32) then (if x0 = (4096 : Int64) then (8 : Int32) else (if x0 = (8192 : Int64) then (f_X12_placeOf_b59 x0) else (if x0 = (8320 : Int64) then (f_X12_placeOf_b59 x0) else (if x0 = (2097152 : Int64) then (f_X12_placeOf_b91 x0) else (if x0 = (2101248 : Int64) then (f_X12_placeOf_b91 x0) else (if x0 = (2097156 : Int64) then (13 : Int32) else (if x0 = (2101252 : Int64) then (14 : Int32) else (0 : Int32)))))))) else ((x0 / (4 : Int64)).toInt32)) else (0 : Int32)
set_option maxRecDepth 100000 in
set_option maxHeartbeats 4000000 in
theorem c_X12_placeOf (l : Launch) (x0 : Int64) : MP l yX12_placeOf cX12_placeOf 2 (some .int) 1 25 [.long x0] (.int (f_X12_placeOf x0)) := by
  refine entP (by decide +kernel) (Nat.le_of_ble_eq_true rfl) ?_
  intro p e s m args below meth c ls E hr hlk hl
  have hl : lv_has ls 2 [(0, .long x0)] := hl
  generalize h : f_X12_placeOf x0 = r
  have hx := E.1
  have hb := E.2.1
  have hown := E.2.2.2.1
  have hts := E.2.2.2.2
  refine lv_lload_n hx hb (dq da_X12_placeOf 0 rfl) rfl (lv_at hl 0 rfl) ?_
  refine lv_ldc2 hx hb hown (hts _ w_1427) (dq da_X12_placeOf 1 rfl) ?_
  refine lv_lrem hx hb (dq da_X12_placeOf 2 rfl) (by decide) ?_
  refine lv_lconst (v := 0) hx hb (dq da_X12_placeOf 3 rfl) rfl ?_
  refine lc_eq (tgt := 12) hx hb (dq da_X12_placeOf 4 rfl) (dq da_X12_placeOf 5 rfl) (by decide) (fun c1 => ?_) (fun c1 => ?_)
  · have h := it c1 h
    refine lv_lload_n hx hb (dq da_X12_placeOf 8 rfl) rfl (lv_at hl 0 rfl) ?_
    refine lv_ldc2 hx hb hown (hts _ w_1427) (dq da_X12_placeOf 9 rfl) ?_
    refine lv_ldc2 hx hb hown (hts _ w_1552) (dq da_X12_placeOf 10 rfl) ?_
    refine callP E (c_X12_in l _ _ _ ) w_1275 w_1276 w_10 w_1277 hd_X12_in rfl hl.1 rfl (Nat.le_of_ble_eq_true rfl) ⟨Nat.le_of_ble_eq_true rfl, Nat.le_of_ble_eq_true rfl⟩ (by decide) (dq da_X12_placeOf 11 rfl) ?_
    refine lv_if_eq (tgt := 32) hx hb (dq da_X12_placeOf 12 rfl) (by decide) (fun c2 => ?_) (fun c2 => ?_)
    · have h := it c2 h
      refine lv_lload_n hx hb (dq da_X12_placeOf 18 rfl) rfl (lv_at hl 0 rfl) ?_
      refine lv_ldc2 hx hb hown (hts _ w_1285) (dq da_X12_placeOf 19 rfl) ?_
      refine lc_ne (tgt := 43) hx hb (dq da_X12_placeOf 20 rfl) (dq da_X12_placeOf 21 rfl) (by decide) (fun c3 => ?_) (fun c3 => ?_)
      · have h := ie c3 h
        refine lv_lload_n hx hb (dq da_X12_placeOf 24 rfl) rfl (lv_at hl 0 rfl) ?_
        refine lv_ldc2 hx hb hown (hts _ w_1553) (dq da_X12_placeOf 25 rfl) ?_
        refine lc_eq (tgt := 59) hx hb (dq da_X12_placeOf 26 rfl) (dq da_X12_placeOf 27 rfl) (by decide) (fun c4 => ?_) (fun c4 => ?_)
        · have h := it c4 h
          exact b_X12_placeOf_b59 E hr hlk h (lv_sub hl [0] rfl)
        · have h := ie c4 h
          refine lv_lload_n hx hb (dq da_X12_placeOf 28 rfl) rfl (lv_at hl 0 rfl) ?_
          refine lv_ldc2 hx hb hown (hts _ w_1554) (dq da_X12_placeOf 29 rfl) ?_
          refine lc_ne (tgt := 75) hx hb (dq da_X12_placeOf 30 rfl) (dq da_X12_placeOf 31 rfl) (by decide) (fun c6 => ?_) (fun c6 => ?_)
          · have h := ie c6 h
            refine lv_lload_n hx hb (dq da_X12_placeOf 40 rfl) rfl (lv_at hl 0 rfl) ?_
            refine lv_ldc2 hx hb hown (hts _ w_1555) (dq da_X12_placeOf 41 rfl) ?_
            refine lc_eq (tgt := 91) hx hb (dq da_X12_placeOf 42 rfl) (dq da_X12_placeOf 43 rfl) (by decide) (fun c7 => ?_) (fun c7 => ?_)
            · have h := it c7 h
              exact b_X12_placeOf_b91 E hr hlk h (lv_sub hl [0] rfl)
            · have h := ie c7 h
              refine lv_lload_n hx hb (dq da_X12_placeOf 44 rfl) rfl (lv_at hl 0 rfl) ?_
              refine lv_ldc2 hx hb hown (hts _ w_1556) (dq da_X12_placeOf 45 rfl) ?_
              refine lc_ne (tgt := 107) hx hb (dq da_X12_placeOf 46 rfl) (dq da_X12_placeOf 47 rfl) (by decide) (fun c9 => ?_) (fun c9 => ?_)
              · have h := ie c9 h
                refine lv_lload_n hx hb (dq da_X12_placeOf 56 rfl) rfl (lv_at hl 0 rfl) ?_
                refine lv_ldc2 hx hb hown (hts _ w_1557) (dq da_X12_placeOf 57 rfl) ?_
                refine lc_ne (tgt := 120) hx hb (dq da_X12_placeOf 58 rfl) (dq da_X12_placeOf 59 rfl) (by decide) (fun c10 => ?_) (fun c10 => ?_)
                · have h := ie c10 h
                  refine lv_lload_n hx hb (dq da_X12_placeOf 62 rfl) rfl (lv_at hl 0 rfl) ?_
                  refine lv_ldc2 hx hb hown (hts _ w_1558) (dq da_X12_placeOf 63 rfl) ?_
                  refine lc_ne (tgt := 133) hx hb (dq da_X12_placeOf 64 rfl) (dq da_X12_placeOf 65 rfl) (by decide) (fun c11 => ?_) (fun c11 => ?_)
                  · have h := ie c11 h
                    refine lv_iconst (v := 0) hx hb (dq da_X12_placeOf 68 rfl) rfl ?_
                    exact pret_i E hr hlk h (dq da_X12_placeOf 69 rfl)
                  · have h := it c11 h
                    refine lv_bipush (v := 14) hx hb (dq da_X12_placeOf 66 rfl) rfl ?_
                    refine lv_goto (tgt := 134) hx hb (dq da_X12_placeOf 67 rfl) (by decide) ?_
                    exact pret_i E hr hlk h (dq da_X12_placeOf 69 rfl)
                · have h := it c10 h
                  refine lv_bipush (v := 13) hx hb (dq da_X12_placeOf 60 rfl) rfl ?_
                  refine lv_goto (tgt := 134) hx hb (dq da_X12_placeOf 61 rfl) (by decide) ?_
                  exact pret_i E hr hlk h (dq da_X12_placeOf 69 rfl)
              · have h := it c9 h
                exact b_X12_placeOf_b91 E hr hlk h (lv_sub hl [0] rfl)
          · have h := it c6 h
            exact b_X12_placeOf_b59 E hr hlk h (lv_sub hl [0] rfl)
      · have h := it c3 h
        refine lv_bipush (v := 8) hx hb (dq da_X12_placeOf 22 rfl) rfl ?_
        exact pret_i E hr hlk h (dq da_X12_placeOf 23 rfl)
    · have h := ie c2 h
      refine lv_lload_n hx hb (dq da_X12_placeOf 13 rfl) rfl (lv_at hl 0 rfl) ?_
      refine lv_ldc2 hx hb hown (hts _ w_1427) (dq da_X12_placeOf 14 rfl) ?_
      refine lv_ldiv hx hb (dq da_X12_placeOf 15 rfl) (by decide) ?_
      refine lv_l2i (v := (x0 / (4 : Int64)).toInt32) hx hb (dq da_X12_placeOf 16 rfl) rfl ?_
      exact pret_i E hr hlk h (dq da_X12_placeOf 17 rfl)
  · have h := ie c1 h
    refine lv_iconst (v := 0) hx hb (dq da_X12_placeOf 6 rfl) rfl ?_
    exact pret_i E hr hlk h (dq da_X12_placeOf 7 rfl)
def dl_X12_mix : List (Nat × Instr × Nat) := [(0, .iload 4, 2), (2, .bipush 8, 2), (4, .if_icmp .ne 5, 3), (7, .lload_n 2, 1), (8, .lreturn, 1), (9, .ldc2_w 164, 3), (12, .bipush 8, 2), (14, .iload 5, 2), (16, .imul, 1), (17, .lshl, 1), (18, .lstore 6, 2), (20, .lload_n 0, 1), (21, .lload 6, 2), (23, .ldc2_w 28, 3), (26, .lxor, 1), (27, .land, 1), (28, .lload_n 2, 1), (29, .bipush 8, 2), (31, .iload 5, 2), (33, .imul, 1), (34, .lshl, 1), (35, .lload 6, 2), (37, .land, 1), (38, .lor, 1), (39, .lreturn, 1)]
theorem da_X12_mix : dkL cX12_mix dl_X12_mix = true := by decide +kernel
def f_X12_mix (x0 : Int64) (x2 : Int64) (x4 : Int32) (x5 : Int32) : Int64 := if x4 = (8 : Int32) then x2 else ((x0 &&& ((j_lshl (4294967295 : Int64) ((8 : Int32) * x5)) ^^^ (-1 : Int64))) ||| ((j_lshl x2 ((8 : Int32) * x5)) &&& (j_lshl (4294967295 : Int64) ((8 : Int32) * x5))))
set_option maxRecDepth 100000 in
set_option maxHeartbeats 4000000 in
theorem c_X12_mix (l : Launch) (x0 : Int64) (x2 : Int64) (x4 : Int32) (x5 : Int32) : MP l yX12_mix cX12_mix 8 (some .long) 0 0 [.long x0, .long x2, .int x4, .int x5] (.long (f_X12_mix x0 x2 x4 x5)) := by
  refine entP (by decide +kernel) (Nat.le_of_ble_eq_true rfl) ?_
  intro p e s m args below meth c ls E hr hlk hl
  have hl : lv_has ls 8 [(0, .long x0), (2, .long x2), (4, .int x4), (5, .int x5)] := hl
  generalize h : f_X12_mix x0 x2 x4 x5 = r
  have hx := E.1
  have hb := E.2.1
  have hown := E.2.2.2.1
  have hts := E.2.2.2.2
  refine lv_iload hx hb (dq da_X12_mix 0 rfl) (lv_at hl 2 rfl) ?_
  refine lv_bipush (v := 8) hx hb (dq da_X12_mix 1 rfl) rfl ?_
  refine lv_icmp_ne (tgt := 9) hx hb (dq da_X12_mix 2 rfl) (by decide) (fun c1 => ?_) (fun c1 => ?_)
  · have h := ie c1 h
    refine lv_ldc2 hx hb hown (hts _ w_1588) (dq da_X12_mix 5 rfl) ?_
    refine lv_bipush (v := 8) hx hb (dq da_X12_mix 6 rfl) rfl ?_
    refine lv_iload hx hb (dq da_X12_mix 7 rfl) (lv_at hl 3 rfl) ?_
    refine lv_imul hx hb (dq da_X12_mix 8 rfl) ?_
    refine lv_lshl (v := (j_lshl (4294967295 : Int64) ((8 : Int32) * x5))) hx hb (dq da_X12_mix 9 rfl) rfl ?_
    refine lv_lstore (lv' := [(6, .long (j_lshl (4294967295 : Int64) ((8 : Int32) * x5))), (0, .long x0), (2, .long x2), (4, .int x4), (5, .int x5)]) hx hb (dq da_X12_mix 10 rfl) hl (by decide) rfl (fun ls hl => ?_)
    refine lv_lload_n hx hb (dq da_X12_mix 11 rfl) rfl (lv_at hl 1 rfl) ?_
    refine lv_lload hx hb (dq da_X12_mix 12 rfl) (lv_at hl 0 rfl) ?_
    refine lv_ldc2 hx hb hown (hts _ w_1086) (dq da_X12_mix 13 rfl) ?_
    refine lv_lxor hx hb (dq da_X12_mix 14 rfl) ?_
    refine lv_land hx hb (dq da_X12_mix 15 rfl) ?_
    refine lv_lload_n hx hb (dq da_X12_mix 16 rfl) rfl (lv_at hl 2 rfl) ?_
    refine lv_bipush (v := 8) hx hb (dq da_X12_mix 17 rfl) rfl ?_
    refine lv_iload hx hb (dq da_X12_mix 18 rfl) (lv_at hl 4 rfl) ?_
    refine lv_imul hx hb (dq da_X12_mix 19 rfl) ?_
    refine lv_lshl (v := (j_lshl x2 ((8 : Int32) * x5))) hx hb (dq da_X12_mix 20 rfl) rfl ?_
    refine lv_lload hx hb (dq da_X12_mix 21 rfl) (lv_at hl 0 rfl) ?_
    refine lv_land hx hb (dq da_X12_mix 22 rfl) ?_
    refine lv_lor hx hb (dq da_X12_mix 23 rfl) ?_
    exact pret_l E hr hlk h (dq da_X12_mix 24 rfl)
  · have h := it c1 h
    refine lv_lload_n hx hb (dq da_X12_mix 3 rfl) rfl (lv_at hl 1 rfl) ?_
    exact pret_l E hr hlk h (dq da_X12_mix 4 rfl)
def dl_X12_quotient : List (Nat × Instr × Nat) := [(0, .lconst 0, 1), (1, .lstore 4, 2), (3, .lconst 0, 1), (4, .lstore 6, 2), (6, .bipush 63, 2), (8, .istore 8, 2), (10, .iload 8, 2), (12, .ifCond .lt 90, 3), (15, .lload 6, 2), (17, .lconst 0, 1), (18, .lcmp, 1), (19, .ifCond .ge 7, 3), (22, .iconst 1, 1), (23, .goto 4, 3), (26, .iconst 0, 1), (27, .istore 9, 2), (29, .lload 6, 2), (31, .iconst 1, 1), (32, .lshl, 1), (33, .lload_n 0, 1), (34, .iload 8, 2), (36, .lushr, 1), (37, .lconst 1, 1), (38, .land, 1), (39, .lor, 1), (40, .lstore 6, 2), (42, .iload 9, 2), (44, .ifCond .ne 12, 3), (47, .lload 6, 2), (49, .lload_n 2, 1), (50, .invokestatic 231, 3), (53, .ifCond .ne 7, 3), (56, .iconst 1, 1), (57, .goto 4, 3), (60, .iconst 0, 1), (61, .istore 10, 2), (63, .iload 10, 2), (65, .ifCond .eq 10, 3), (68, .lload 6, 2), (70, .lload_n 2, 1), (71, .lsub, 1), (72, .goto 5, 3), (75, .lload 6, 2), (77, .lstore 6, 2), (79, .lload 4, 2), (81, .iconst 1, 1), (82, .lshl, 1), (83, .iload 10, 2), (85, .ifCond .eq 7, 3), (88, .lconst 1, 1), (89, .goto 4, 3), (92, .lconst 0, 1), (93, .lor, 1), (94, .lstore 4, 2), (96, .iinc 8 (-1), 3), (99, .goto (-89), 3), (102, .lload 4, 2), (104, .lreturn, 1)]
theorem da_X12_quotient : dkL cX12_quotient dl_X12_quotient = true := by decide +kernel
def f_X12_quotient_b93 (k10 : Int64 → Int64 → Int64 → Int64 → Int32 → Option (Int64)) (x0 : Int64) (x2 : Int64) (x6 : Int64) (x8 : Int32) (s0 : Int64) (s1 : Int64) : Option (Int64) := k10 x0 x2 (s1 ||| s0) x6 (x8 + (-1 : Int32))
set_option maxRecDepth 100000 in
set_option maxHeartbeats 4000000 in
theorem b_X12_quotient_b93 {p : Program} {l : Launch} {e : Env} {s : State} {m : MethodId} {args : Array Value} {below : List Frame} {meth : Method} {c : Code} (E : CallFix p m c cX12_quotient 11 s args gw RX12) (hr : meth.sig.returnType = some .long) (hlk : meth.locks = false) {k10 : Int64 → Int64 → Int64 → Int64 → Int32 → Option (Int64)} (hk10 : ∀ (x0 : Int64) (x2 : Int64) (x4 : Int64) (x6 : Int64) (x8 : Int32) (r : Int64), k10 x0 x2 x4 x6 x8 = some r → ∀ (ls : Array Slot), lv_has ls 11 [(0, .long x0), (2, .long x2), (4, .long x4), (6, .long x6), (8, .int x8)] → Wp p l e 1 23 s m args below meth c (.long r) 10 ls []) {x0 : Int64} {x2 : Int64} {x6 : Int64} {x8 : Int32} {s0 : Int64} {s1 : Int64} {r : Int64} (h : f_X12_quotient_b93 k10 x0 x2 x6 x8 s0 s1 = some r) {ls : Array Slot} (hl : lv_has ls 11 [(0, .long x0), (2, .long x2), (6, .long x6), (8, .int x8)]) : Wp p l e 1 23 s m args below meth c (.long r) 93 ls [.long s0, .long s1] := by
  have hx := E.1
  have hb := E.2.1
  have hown := E.2.2.2.1
  have hts := E.2.2.2.2
  refine lv_lor hx hb (dq da_X12_quotient 52 rfl) ?_
  refine lv_lstore (lv' := [(4, .long (s1 ||| s0)), (0, .long x0), (2, .long x2), (6, .long x6), (8, .int x8)]) hx hb (dq da_X12_quotient 53 rfl) hl (by decide) rfl (fun ls hl => ?_)
  refine lv_iinc (v := (x8 + (-1 : Int32))) (lv' := [(8, .int (x8 + (-1 : Int32))), (4, .long (s1 ||| s0)), (0, .long x0), (2, .long x2), (6, .long x6)]) hx hb (dq da_X12_quotient 54 rfl) hl (k := 4) rfl rfl (by decide) rfl (fun ls hl => ?_)
  refine lv_goto (tgt := 10) hx hb (dq da_X12_quotient 55 rfl) (by decide) ?_
  exact hk10 _ _ _ _ _ _ h ls (lv_sub hl [2, 3, 1, 4, 0] rfl)
def f_X12_quotient_b77 (k10 : Int64 → Int64 → Int64 → Int64 → Int32 → Option (Int64)) (x0 : Int64) (x2 : Int64) (x4 : Int64) (x8 : Int32) (x10 : Int32) (s0 : Int64) : Option (Int64) := if x10 = (0 : Int32) then (f_X12_quotient_b93 k10 x0 x2 s0 x8 (0 : Int64) (j_lshl x4 (1 : Int32))) else (f_X12_quotient_b93 k10 x0 x2 s0 x8 (1 : Int64) (j_lshl x4 (1 : Int32)))
set_option maxRecDepth 100000 in
set_option maxHeartbeats 4000000 in
theorem b_X12_quotient_b77 {p : Program} {l : Launch} {e : Env} {s : State} {m : MethodId} {args : Array Value} {below : List Frame} {meth : Method} {c : Code} (E : CallFix p m c cX12_quotient 11 s args gw RX12) (hr : meth.sig.returnType = some .long) (hlk : meth.locks = false) {k10 : Int64 → Int64 → Int64 → Int64 → Int32 → Option (Int64)} (hk10 : ∀ (x0 : Int64) (x2 : Int64) (x4 : Int64) (x6 : Int64) (x8 : Int32) (r : Int64), k10 x0 x2 x4 x6 x8 = some r → ∀ (ls : Array Slot), lv_has ls 11 [(0, .long x0), (2, .long x2), (4, .long x4), (6, .long x6), (8, .int x8)] → Wp p l e 1 23 s m args below meth c (.long r) 10 ls []) {x0 : Int64} {x2 : Int64} {x4 : Int64} {x8 : Int32} {x10 : Int32} {s0 : Int64} {r : Int64} (h : f_X12_quotient_b77 k10 x0 x2 x4 x8 x10 s0 = some r) {ls : Array Slot} (hl : lv_has ls 11 [(0, .long x0), (2, .long x2), (4, .long x4), (8, .int x8), (10, .int x10)]) : Wp p l e 1 23 s m args below meth c (.long r) 77 ls [.long s0] := by
  have hx := E.1
  have hb := E.2.1
  have hown := E.2.2.2.1
  have hts := E.2.2.2.2
  refine lv_lstore (lv' := [(6, .long s0), (0, .long x0), (2, .long x2), (4, .long x4), (8, .int x8), (10, .int x10)]) hx hb (dq da_X12_quotient 43 rfl) hl (by decide) rfl (fun ls hl => ?_)
  refine lv_lload hx hb (dq da_X12_quotient 44 rfl) (lv_at hl 3 rfl) ?_
  refine lv_iconst (v := 1) hx hb (dq da_X12_quotient 45 rfl) rfl ?_
  refine lv_lshl (v := (j_lshl x4 (1 : Int32))) hx hb (dq da_X12_quotient 46 rfl) rfl ?_
  refine lv_iload hx hb (dq da_X12_quotient 47 rfl) (lv_at hl 5 rfl) ?_
  refine lv_if_eq (tgt := 92) hx hb (dq da_X12_quotient 48 rfl) (by decide) (fun c5 => ?_) (fun c5 => ?_)
  · have h := it c5 h
    refine lv_lconst (v := 0) hx hb (dq da_X12_quotient 51 rfl) rfl ?_
    exact b_X12_quotient_b93 E hr hlk hk10 h (lv_sub hl [1, 2, 0, 4] rfl)
  · have h := ie c5 h
    refine lv_lconst (v := 1) hx hb (dq da_X12_quotient 49 rfl) rfl ?_
    refine lv_goto (tgt := 93) hx hb (dq da_X12_quotient 50 rfl) (by decide) ?_
    exact b_X12_quotient_b93 E hr hlk hk10 h (lv_sub hl [1, 2, 0, 4] rfl)
def f_X12_quotient_b61 (k10 : Int64 → Int64 → Int64 → Int64 → Int32 → Option (Int64)) (x0 : Int64) (x2 : Int64) (x4 : Int64) (x6 : Int64) (x8 : Int32) (s0 : Int32) : Option (Int64) := if s0 = (0 : Int32) then (f_X12_quotient_b77 k10 x0 x2 x4 x8 s0 x6) else (f_X12_quotient_b77 k10 x0 x2 x4 x8 s0 (x6 - x2))
set_option maxRecDepth 100000 in
set_option maxHeartbeats 4000000 in
theorem b_X12_quotient_b61 {p : Program} {l : Launch} {e : Env} {s : State} {m : MethodId} {args : Array Value} {below : List Frame} {meth : Method} {c : Code} (E : CallFix p m c cX12_quotient 11 s args gw RX12) (hr : meth.sig.returnType = some .long) (hlk : meth.locks = false) {k10 : Int64 → Int64 → Int64 → Int64 → Int32 → Option (Int64)} (hk10 : ∀ (x0 : Int64) (x2 : Int64) (x4 : Int64) (x6 : Int64) (x8 : Int32) (r : Int64), k10 x0 x2 x4 x6 x8 = some r → ∀ (ls : Array Slot), lv_has ls 11 [(0, .long x0), (2, .long x2), (4, .long x4), (6, .long x6), (8, .int x8)] → Wp p l e 1 23 s m args below meth c (.long r) 10 ls []) {x0 : Int64} {x2 : Int64} {x4 : Int64} {x6 : Int64} {x8 : Int32} {s0 : Int32} {r : Int64} (h : f_X12_quotient_b61 k10 x0 x2 x4 x6 x8 s0 = some r) {ls : Array Slot} (hl : lv_has ls 11 [(0, .long x0), (2, .long x2), (4, .long x4), (6, .long x6), (8, .int x8)]) : Wp p l e 1 23 s m args below meth c (.long r) 61 ls [.int s0] := by
  have hx := E.1
  have hb := E.2.1
  have hown := E.2.2.2.1
  have hts := E.2.2.2.2
  refine lv_istore (lv' := [(10, .int s0), (0, .long x0), (2, .long x2), (4, .long x4), (6, .long x6), (8, .int x8)]) hx hb (dq da_X12_quotient 35 rfl) hl (by decide) rfl (fun ls hl => ?_)
  refine lv_iload hx hb (dq da_X12_quotient 36 rfl) (lv_at hl 0 rfl) ?_
  refine lv_if_eq (tgt := 75) hx hb (dq da_X12_quotient 37 rfl) (by decide) (fun c4 => ?_) (fun c4 => ?_)
  · have h := it c4 h
    refine lv_lload hx hb (dq da_X12_quotient 42 rfl) (lv_at hl 4 rfl) ?_
    exact b_X12_quotient_b77 E hr hlk hk10 h (lv_sub hl [1, 2, 3, 5, 0] rfl)
  · have h := ie c4 h
    refine lv_lload hx hb (dq da_X12_quotient 38 rfl) (lv_at hl 4 rfl) ?_
    refine lv_lload_n hx hb (dq da_X12_quotient 39 rfl) rfl (lv_at hl 2 rfl) ?_
    refine lv_lsub hx hb (dq da_X12_quotient 40 rfl) ?_
    refine lv_goto (tgt := 77) hx hb (dq da_X12_quotient 41 rfl) (by decide) ?_
    exact b_X12_quotient_b77 E hr hlk hk10 h (lv_sub hl [1, 2, 3, 5, 0] rfl)
def f_X12_quotient_b56 (k10 : Int64 → Int64 → Int64 → Int64 → Int32 → Option (Int64)) (x0 : Int64) (x2 : Int64) (x4 : Int64) (x6 : Int64) (x8 : Int32) : Option (Int64) := f_X12_quotient_b61 k10 x0 x2 x4 x6 x8 (1 : Int32)
set_option maxRecDepth 100000 in
set_option maxHeartbeats 4000000 in
theorem b_X12_quotient_b56 {p : Program} {l : Launch} {e : Env} {s : State} {m : MethodId} {args : Array Value} {below : List Frame} {meth : Method} {c : Code} (E : CallFix p m c cX12_quotient 11 s args gw RX12) (hr : meth.sig.returnType = some .long) (hlk : meth.locks = false) {k10 : Int64 → Int64 → Int64 → Int64 → Int32 → Option (Int64)} (hk10 : ∀ (x0 : Int64) (x2 : Int64) (x4 : Int64) (x6 : Int64) (x8 : Int32) (r : Int64), k10 x0 x2 x4 x6 x8 = some r → ∀ (ls : Array Slot), lv_has ls 11 [(0, .long x0), (2, .long x2), (4, .long x4), (6, .long x6), (8, .int x8)] → Wp p l e 1 23 s m args below meth c (.long r) 10 ls []) {x0 : Int64} {x2 : Int64} {x4 : Int64} {x6 : Int64} {x8 : Int32} {r : Int64} (h : f_X12_quotient_b56 k10 x0 x2 x4 x6 x8 = some r) {ls : Array Slot} (hl : lv_has ls 11 [(0, .long x0), (2, .long x2), (4, .long x4), (6, .long x6), (8, .int x8)]) : Wp p l e 1 23 s m args below meth c (.long r) 56 ls [] := by
  have hx := E.1
  have hb := E.2.1
  have hown := E.2.2.2.1
  have hts := E.2.2.2.2
  refine lv_iconst (v := 1) hx hb (dq da_X12_quotient 32 rfl) rfl ?_
  refine lv_goto (tgt := 61) hx hb (dq da_X12_quotient 33 rfl) (by decide) ?_
  exact b_X12_quotient_b61 E hr hlk hk10 h (lv_sub hl [0, 1, 2, 3, 4] rfl)
def f_X12_quotient_b27 (k10 : Int64 → Int64 → Int64 → Int64 → Int32 → Option (Int64)) (x0 : Int64) (x2 : Int64) (x4 : Int64) (x6 : Int64) (x8 : Int32) (s0 : Int32) : Option (Int64) := if s0 = (0 : Int32) then (if (f_X12_isLess ((j_lshl x6 (1 : Int32)) ||| ((j_lushr x0 x8) &&& (1 : Int64))) x2) = (0 : Int32) then (f_X12_quotient_b56 k10 x0 x2 x4 ((j_lshl x6 (1 : Int32)) ||| ((j_lushr x0 x8) &&& (1 : Int64))) x8) else (f_X12_quotient_b61 k10 x0 x2 x4 ((j_lshl x6 (1 : Int32)) ||| ((j_lushr x0 x8) &&& (1 : Int64))) x8 (0 : Int32))) else (f_X12_quotient_b56 k10 x0 x2 x4 ((j_lshl x6 (1 : Int32)) ||| ((j_lushr x0 x8) &&& (1 : Int64))) x8)
set_option maxRecDepth 100000 in
set_option maxHeartbeats 4000000 in
theorem b_X12_quotient_b27 {p : Program} {l : Launch} {e : Env} {s : State} {m : MethodId} {args : Array Value} {below : List Frame} {meth : Method} {c : Code} (E : CallFix p m c cX12_quotient 11 s args gw RX12) (hr : meth.sig.returnType = some .long) (hlk : meth.locks = false) {k10 : Int64 → Int64 → Int64 → Int64 → Int32 → Option (Int64)} (hk10 : ∀ (x0 : Int64) (x2 : Int64) (x4 : Int64) (x6 : Int64) (x8 : Int32) (r : Int64), k10 x0 x2 x4 x6 x8 = some r → ∀ (ls : Array Slot), lv_has ls 11 [(0, .long x0), (2, .long x2), (4, .long x4), (6, .long x6), (8, .int x8)] → Wp p l e 1 23 s m args below meth c (.long r) 10 ls []) {x0 : Int64} {x2 : Int64} {x4 : Int64} {x6 : Int64} {x8 : Int32} {s0 : Int32} {r : Int64} (h : f_X12_quotient_b27 k10 x0 x2 x4 x6 x8 s0 = some r) {ls : Array Slot} (hl : lv_has ls 11 [(0, .long x0), (2, .long x2), (4, .long x4), (6, .long x6), (8, .int x8)]) : Wp p l e 1 23 s m args below meth c (.long r) 27 ls [.int s0] := by
  have hx := E.1
  have hb := E.2.1
  have hown := E.2.2.2.1
  have hts := E.2.2.2.2
  refine lv_istore (lv' := [(9, .int s0), (0, .long x0), (2, .long x2), (4, .long x4), (6, .long x6), (8, .int x8)]) hx hb (dq da_X12_quotient 15 rfl) hl (by decide) rfl (fun ls hl => ?_)
  refine lv_lload hx hb (dq da_X12_quotient 16 rfl) (lv_at hl 4 rfl) ?_
  refine lv_iconst (v := 1) hx hb (dq da_X12_quotient 17 rfl) rfl ?_
  refine lv_lshl (v := (j_lshl x6 (1 : Int32))) hx hb (dq da_X12_quotient 18 rfl) rfl ?_
  refine lv_lload_n hx hb (dq da_X12_quotient 19 rfl) rfl (lv_at hl 1 rfl) ?_
  refine lv_iload hx hb (dq da_X12_quotient 20 rfl) (lv_at hl 5 rfl) ?_
  refine lv_lushr (v := (j_lushr x0 x8)) hx hb (dq da_X12_quotient 21 rfl) rfl ?_
  refine lv_lconst (v := 1) hx hb (dq da_X12_quotient 22 rfl) rfl ?_
  refine lv_land hx hb (dq da_X12_quotient 23 rfl) ?_
  refine lv_lor hx hb (dq da_X12_quotient 24 rfl) ?_
  refine lv_lstore (lv' := [(6, .long ((j_lshl x6 (1 : Int32)) ||| ((j_lushr x0 x8) &&& (1 : Int64)))), (9, .int s0), (0, .long x0), (2, .long x2), (4, .long x4), (8, .int x8)]) hx hb (dq da_X12_quotient 25 rfl) hl (by decide) rfl (fun ls hl => ?_)
  refine lv_iload hx hb (dq da_X12_quotient 26 rfl) (lv_at hl 1 rfl) ?_
  refine lv_if_ne (tgt := 56) hx hb (dq da_X12_quotient 27 rfl) (by decide) (fun c3 => ?_) (fun c3 => ?_)
  · have h := ie c3 h
    exact b_X12_quotient_b56 E hr hlk hk10 h (lv_sub hl [2, 3, 4, 0, 5] rfl)
  · have h := it c3 h
    refine lv_lload hx hb (dq da_X12_quotient 28 rfl) (lv_at hl 0 rfl) ?_
    refine lv_lload_n hx hb (dq da_X12_quotient 29 rfl) rfl (lv_at hl 3 rfl) ?_
    refine callP E (c_X12_isLess l _ _ ) w_1358 w_1359 w_10 w_1360 hd_X12_isLess rfl hl.1 rfl (Nat.le_of_ble_eq_true rfl) ⟨Nat.le_of_ble_eq_true rfl, Nat.le_of_ble_eq_true rfl⟩ (by decide) (dq da_X12_quotient 30 rfl) ?_
    refine lv_if_ne (tgt := 60) hx hb (dq da_X12_quotient 31 rfl) (by decide) (fun c6 => ?_) (fun c6 => ?_)
    · have h := ie c6 h
      refine lv_iconst (v := 0) hx hb (dq da_X12_quotient 34 rfl) rfl ?_
      exact b_X12_quotient_b61 E hr hlk hk10 h (lv_sub hl [2, 3, 4, 0, 5] rfl)
    · have h := it c6 h
      exact b_X12_quotient_b56 E hr hlk hk10 h (lv_sub hl [2, 3, 4, 0, 5] rfl)
def f_X12_quotient_b10_s (k10 : Int64 → Int64 → Int64 → Int64 → Int32 → Option (Int64)) (x0 : Int64) (x2 : Int64) (x4 : Int64) (x6 : Int64) (x8 : Int32) : Option (Int64) := if x8 < (0 : Int32) then (some x4) else (if (0 : Int64) ≤ x6 then (f_X12_quotient_b27 k10 x0 x2 x4 x6 x8 (0 : Int32)) else (f_X12_quotient_b27 k10 x0 x2 x4 x6 x8 (1 : Int32)))
set_option maxRecDepth 100000 in
set_option maxHeartbeats 4000000 in
theorem b_X12_quotient_b10_s {p : Program} {l : Launch} {e : Env} {s : State} {m : MethodId} {args : Array Value} {below : List Frame} {meth : Method} {c : Code} (E : CallFix p m c cX12_quotient 11 s args gw RX12) (hr : meth.sig.returnType = some .long) (hlk : meth.locks = false) {k10 : Int64 → Int64 → Int64 → Int64 → Int32 → Option (Int64)} (hk10 : ∀ (x0 : Int64) (x2 : Int64) (x4 : Int64) (x6 : Int64) (x8 : Int32) (r : Int64), k10 x0 x2 x4 x6 x8 = some r → ∀ (ls : Array Slot), lv_has ls 11 [(0, .long x0), (2, .long x2), (4, .long x4), (6, .long x6), (8, .int x8)] → Wp p l e 1 23 s m args below meth c (.long r) 10 ls []) {x0 : Int64} {x2 : Int64} {x4 : Int64} {x6 : Int64} {x8 : Int32} {r : Int64} (h : f_X12_quotient_b10_s k10 x0 x2 x4 x6 x8 = some r) {ls : Array Slot} (hl : lv_has ls 11 [(0, .long x0), (2, .long x2), (4, .long x4), (6, .long x6), (8, .int x8)]) : Wp p l e 1 23 s m args below meth c (.long r) 10 ls [] := by
  have hx := E.1
  have hb := E.2.1
  have hown := E.2.2.2.1
  have hts := E.2.2.2.2
  refine lv_iload hx hb (dq da_X12_quotient 6 rfl) (lv_at hl 4 rfl) ?_
  refine lv_if_lt (tgt := 102) hx hb (dq da_X12_quotient 7 rfl) (by decide) (fun c1 => ?_) (fun c1 => ?_)
  · have h := it c1 h
    refine lv_lload hx hb (dq da_X12_quotient 56 rfl) (lv_at hl 2 rfl) ?_
    exact pret_l E hr hlk (os h) (dq da_X12_quotient 57 rfl)
  · have h := ie c1 h
    refine lv_lload hx hb (dq da_X12_quotient 8 rfl) (lv_at hl 3 rfl) ?_
    refine lv_lconst (v := 0) hx hb (dq da_X12_quotient 9 rfl) rfl ?_
    refine lc_ge (tgt := 26) hx hb (dq da_X12_quotient 10 rfl) (dq da_X12_quotient 11 rfl) (by decide) (fun c2 => ?_) (fun c2 => ?_)
    · have h := it c2 h
      refine lv_iconst (v := 0) hx hb (dq da_X12_quotient 14 rfl) rfl ?_
      exact b_X12_quotient_b27 E hr hlk hk10 h (lv_sub hl [0, 1, 2, 3, 4] rfl)
    · have h := ie c2 h
      refine lv_iconst (v := 1) hx hb (dq da_X12_quotient 12 rfl) rfl ?_
      refine lv_goto (tgt := 27) hx hb (dq da_X12_quotient 13 rfl) (by decide) ?_
      exact b_X12_quotient_b27 E hr hlk hk10 h (lv_sub hl [0, 1, 2, 3, 4] rfl)
def f_X12_quotient_b10 : Nat → Int64 → Int64 → Int64 → Int64 → Int32 → Option (Int64)
  | 0 => fun _ _ _ _ _ => none
  | n + 1 => f_X12_quotient_b10_s (f_X12_quotient_b10 n)
theorem b_X12_quotient_b10 {p : Program} {l : Launch} {e : Env} {s : State} {m : MethodId} {args : Array Value} {below : List Frame} {meth : Method} {c : Code} (E : CallFix p m c cX12_quotient 11 s args gw RX12) (hr : meth.sig.returnType = some .long) (hlk : meth.locks = false) : ∀ n : Nat, ∀ (x0 : Int64) (x2 : Int64) (x4 : Int64) (x6 : Int64) (x8 : Int32) (r : Int64), f_X12_quotient_b10 n x0 x2 x4 x6 x8 = some r → ∀ (ls : Array Slot), lv_has ls 11 [(0, .long x0), (2, .long x2), (4, .long x4), (6, .long x6), (8, .int x8)] → Wp p l e 1 23 s m args below meth c (.long r) 10 ls [] := by
  intro n
  induction n with
  | zero => intro x0 x2 x4 x6 x8 r h; cases h
  | succ n ih => intro x0 x2 x4 x6 x8 r h ls hl; exact b_X12_quotient_b10_s E hr hlk ih h hl
def f_X12_quotient (x0 : Int64) (x2 : Int64) : Option (Int64) := f_X12_quotient_b10 FU x0 x2 (0 : Int64) (0 : Int64) (63 : Int32)
set_option maxRecDepth 100000 in
set_option maxHeartbeats 4000000 in
theorem c_X12_quotient (l : Launch) (x0 : Int64) (x2 : Int64) {r : Int64} (h : f_X12_quotient x0 x2 = some r) : MP l yX12_quotient cX12_quotient 11 (some .long) 1 23 [.long x0, .long x2] (.long (r)) := by
  refine entP (by decide +kernel) (Nat.le_of_ble_eq_true rfl) ?_
  intro p e s m args below meth c ls E hr hlk hl
  have hl : lv_has ls 11 [(0, .long x0), (2, .long x2)] := hl
  have hx := E.1
  have hb := E.2.1
  have hown := E.2.2.2.1
  have hts := E.2.2.2.2
  refine lv_lconst (v := 0) hx hb (dq da_X12_quotient 0 rfl) rfl ?_
  refine lv_lstore (lv' := [(4, .long (0 : Int64)), (0, .long x0), (2, .long x2)]) hx hb (dq da_X12_quotient 1 rfl) hl (by decide) rfl (fun ls hl => ?_)
  refine lv_lconst (v := 0) hx hb (dq da_X12_quotient 2 rfl) rfl ?_
  refine lv_lstore (lv' := [(6, .long (0 : Int64)), (4, .long (0 : Int64)), (0, .long x0), (2, .long x2)]) hx hb (dq da_X12_quotient 3 rfl) hl (by decide) rfl (fun ls hl => ?_)
  refine lv_bipush (v := 63) hx hb (dq da_X12_quotient 4 rfl) rfl ?_
  refine lv_istore (lv' := [(8, .int (63 : Int32)), (6, .long (0 : Int64)), (4, .long (0 : Int64)), (0, .long x0), (2, .long x2)]) hx hb (dq da_X12_quotient 5 rfl) hl (by decide) rfl (fun ls hl => ?_)
  exact b_X12_quotient_b10 E hr hlk FU _ _ _ _ _ _ h ls (lv_sub hl [3, 4, 2, 1, 0] rfl)
def dl_X12_divided : List (Nat × Instr × Nat) := [(0, .iload_n 0, 1), (1, .iconst 4, 1), (2, .if_icmp .ne 32, 3), (5, .lload_n 3, 1), (6, .lconst 0, 1), (7, .lcmp, 1), (8, .ifCond .ne 9, 3), (11, .ldc2_w 28, 3), (14, .goto 19, 3), (17, .lload_n 3, 1), (18, .ldc2_w 28, 3), (21, .lcmp, 1), (22, .ifCond .ne 8, 3), (25, .lload_n 1, 1), (26, .lneg, 1), (27, .goto 6, 3), (30, .lload_n 1, 1), (31, .lload_n 3, 1), (32, .ldiv, 1), (33, .lreturn, 1), (34, .iload_n 0, 1), (35, .iconst 5, 1), (36, .if_icmp .ne 21, 3), (39, .lload_n 3, 1), (40, .lconst 0, 1), (41, .lcmp, 1), (42, .ifCond .ne 9, 3), (45, .ldc2_w 28, 3), (48, .goto 8, 3), (51, .lload_n 1, 1), (52, .lload_n 3, 1), (53, .invokestatic 442, 3), (56, .lreturn, 1), (57, .iload_n 0, 1), (58, .bipush 6, 2), (60, .if_icmp .ne 29, 3), (63, .lload_n 3, 1), (64, .lconst 0, 1), (65, .lcmp, 1), (66, .ifCond .ne 7, 3), (69, .lload_n 1, 1), (70, .goto 18, 3), (73, .lload_n 3, 1), (74, .ldc2_w 28, 3), (77, .lcmp, 1), (78, .ifCond .ne 7, 3), (81, .lconst 0, 1), (82, .goto 6, 3), (85, .lload_n 1, 1), (86, .lload_n 3, 1), (87, .lrem, 1), (88, .lreturn, 1), (89, .lload_n 3, 1), (90, .lconst 0, 1), (91, .lcmp, 1), (92, .ifCond .ne 7, 3), (95, .lload_n 1, 1), (96, .goto 12, 3), (99, .lload_n 1, 1), (100, .lload_n 1, 1), (101, .lload_n 3, 1), (102, .invokestatic 442, 3), (105, .lload_n 3, 1), (106, .lmul, 1), (107, .lsub, 1), (108, .lreturn, 1)]
theorem da_X12_divided : dkL cX12_divided dl_X12_divided = true := by decide +kernel
def f_X12_divided (x0 : Int32) (x1 : Int64) (x3 : Int64) : Option (Int64) := if x0 = (4 : Int32) then (if x3 = (0 : Int64) then (some (-1 : Int64)) else (if x3 = (-1 : Int64) then (some (-x1)) else (some (x1 / x3)))) else (if x0 = (5 : Int32) then (if x3 = (0 : Int64) then (some (-1 : Int64)) else ((f_X12_quotient x1 x3).bind (fun y10 => some y10))) else (if x0 = (6 : Int32) then (if x3 = (0 : Int64) then (some x1) else (if x3 = (-1 : Int64) then (some (0 : Int64)) else (some (x1 - x1 / x3 * x3)))) else (if x3 = (0 : Int64) then (some x1) else ((f_X12_quotient x1 x3).bind (fun y5 => some (x1 - (y5 * x3)))))))
set_option maxRecDepth 100000 in
set_option maxHeartbeats 4000000 in
theorem c_X12_divided (l : Launch) (x0 : Int32) (x1 : Int64) (x3 : Int64) {r : Int64} (h : f_X12_divided x0 x1 x3 = some r) : MP l yX12_divided cX12_divided 5 (some .long) 2 53 [.int x0, .long x1, .long x3] (.long (r)) := by
  refine entP (by decide +kernel) (Nat.le_of_ble_eq_true rfl) ?_
  intro p e s m args below meth c ls E hr hlk hl
  have hl : lv_has ls 5 [(0, .int x0), (1, .long x1), (3, .long x3)] := hl
  have hx := E.1
  have hb := E.2.1
  have hown := E.2.2.2.1
  have hts := E.2.2.2.2
  refine lv_iload_n hx hb (dq da_X12_divided 0 rfl) rfl (lv_at hl 0 rfl) ?_
  refine lv_iconst (v := 4) hx hb (dq da_X12_divided 1 rfl) rfl ?_
  refine lv_icmp_ne (tgt := 34) hx hb (dq da_X12_divided 2 rfl) (by decide) (fun c1 => ?_) (fun c1 => ?_)
  · have h := ie c1 h
    refine lv_iload_n hx hb (dq da_X12_divided 20 rfl) rfl (lv_at hl 0 rfl) ?_
    refine lv_iconst (v := 5) hx hb (dq da_X12_divided 21 rfl) rfl ?_
    refine lv_icmp_ne (tgt := 57) hx hb (dq da_X12_divided 22 rfl) (by decide) (fun c2 => ?_) (fun c2 => ?_)
    · have h := ie c2 h
      refine lv_iload_n hx hb (dq da_X12_divided 33 rfl) rfl (lv_at hl 0 rfl) ?_
      refine lv_bipush (v := 6) hx hb (dq da_X12_divided 34 rfl) rfl ?_
      refine lv_icmp_ne (tgt := 89) hx hb (dq da_X12_divided 35 rfl) (by decide) (fun c3 => ?_) (fun c3 => ?_)
      · have h := ie c3 h
        refine lv_lload_n hx hb (dq da_X12_divided 52 rfl) rfl (lv_at hl 2 rfl) ?_
        refine lv_lconst (v := 0) hx hb (dq da_X12_divided 53 rfl) rfl ?_
        refine lc_ne (tgt := 99) hx hb (dq da_X12_divided 54 rfl) (dq da_X12_divided 55 rfl) (by decide) (fun c4 => ?_) (fun c4 => ?_)
        · have h := ie c4 h
          refine lv_lload_n hx hb (dq da_X12_divided 58 rfl) rfl (lv_at hl 1 rfl) ?_
          refine lv_lload_n hx hb (dq da_X12_divided 59 rfl) rfl (lv_at hl 1 rfl) ?_
          refine lv_lload_n hx hb (dq da_X12_divided 60 rfl) rfl (lv_at hl 2 rfl) ?_
          obtain ⟨y5, hy6, h⟩ := ob h
          refine callP E (c_X12_quotient l _ _ hy6) w_1609 w_1610 w_10 w_1611 hd_X12_quotient rfl hl.1 rfl (Nat.le_of_ble_eq_true rfl) ⟨Nat.le_of_ble_eq_true rfl, Nat.le_of_ble_eq_true rfl⟩ (by decide) (dq da_X12_divided 61 rfl) ?_
          refine lv_lload_n hx hb (dq da_X12_divided 62 rfl) rfl (lv_at hl 2 rfl) ?_
          refine lv_lmul hx hb (dq da_X12_divided 63 rfl) ?_
          refine lv_lsub hx hb (dq da_X12_divided 64 rfl) ?_
          exact pret_l E hr hlk (os h) (dq da_X12_divided 65 rfl)
        · have h := it c4 h
          refine lv_lload_n hx hb (dq da_X12_divided 56 rfl) rfl (lv_at hl 1 rfl) ?_
          refine lv_goto (tgt := 108) hx hb (dq da_X12_divided 57 rfl) (by decide) ?_
          exact pret_l E hr hlk (os h) (dq da_X12_divided 65 rfl)
      · have h := it c3 h
        refine lv_lload_n hx hb (dq da_X12_divided 36 rfl) rfl (lv_at hl 2 rfl) ?_
        refine lv_lconst (v := 0) hx hb (dq da_X12_divided 37 rfl) rfl ?_
        refine lc_ne (tgt := 73) hx hb (dq da_X12_divided 38 rfl) (dq da_X12_divided 39 rfl) (by decide) (fun c7 => ?_) (fun c7 => ?_)
        · have h := ie c7 h
          refine lv_lload_n hx hb (dq da_X12_divided 42 rfl) rfl (lv_at hl 2 rfl) ?_
          refine lv_ldc2 hx hb hown (hts _ w_1086) (dq da_X12_divided 43 rfl) ?_
          refine lc_ne (tgt := 85) hx hb (dq da_X12_divided 44 rfl) (dq da_X12_divided 45 rfl) (by decide) (fun c8 => ?_) (fun c8 => ?_)
          · have h := ie c8 h
            refine lv_lload_n hx hb (dq da_X12_divided 48 rfl) rfl (lv_at hl 1 rfl) ?_
            refine lv_lload_n hx hb (dq da_X12_divided 49 rfl) rfl (lv_at hl 2 rfl) ?_
            refine lv_lrem hx hb (dq da_X12_divided 50 rfl) c7 ?_
            exact pret_l E hr hlk (os h) (dq da_X12_divided 51 rfl)
          · have h := it c8 h
            refine lv_lconst (v := 0) hx hb (dq da_X12_divided 46 rfl) rfl ?_
            refine lv_goto (tgt := 88) hx hb (dq da_X12_divided 47 rfl) (by decide) ?_
            exact pret_l E hr hlk (os h) (dq da_X12_divided 51 rfl)
        · have h := it c7 h
          refine lv_lload_n hx hb (dq da_X12_divided 40 rfl) rfl (lv_at hl 1 rfl) ?_
          refine lv_goto (tgt := 88) hx hb (dq da_X12_divided 41 rfl) (by decide) ?_
          exact pret_l E hr hlk (os h) (dq da_X12_divided 51 rfl)
    · have h := it c2 h
      refine lv_lload_n hx hb (dq da_X12_divided 23 rfl) rfl (lv_at hl 2 rfl) ?_
      refine lv_lconst (v := 0) hx hb (dq da_X12_divided 24 rfl) rfl ?_
      refine lc_ne (tgt := 51) hx hb (dq da_X12_divided 25 rfl) (dq da_X12_divided 26 rfl) (by decide) (fun c9 => ?_) (fun c9 => ?_)
      · have h := ie c9 h
        refine lv_lload_n hx hb (dq da_X12_divided 29 rfl) rfl (lv_at hl 1 rfl) ?_
        refine lv_lload_n hx hb (dq da_X12_divided 30 rfl) rfl (lv_at hl 2 rfl) ?_
        obtain ⟨y10, hy11, h⟩ := ob h
        refine callP E (c_X12_quotient l _ _ hy11) w_1609 w_1610 w_10 w_1611 hd_X12_quotient rfl hl.1 rfl (Nat.le_of_ble_eq_true rfl) ⟨Nat.le_of_ble_eq_true rfl, Nat.le_of_ble_eq_true rfl⟩ (by decide) (dq da_X12_divided 31 rfl) ?_
        exact pret_l E hr hlk (os h) (dq da_X12_divided 32 rfl)
      · have h := it c9 h
        refine lv_ldc2 hx hb hown (hts _ w_1086) (dq da_X12_divided 27 rfl) ?_
        refine lv_goto (tgt := 56) hx hb (dq da_X12_divided 28 rfl) (by decide) ?_
        exact pret_l E hr hlk (os h) (dq da_X12_divided 32 rfl)
  · have h := it c1 h
    refine lv_lload_n hx hb (dq da_X12_divided 3 rfl) rfl (lv_at hl 2 rfl) ?_
    refine lv_lconst (v := 0) hx hb (dq da_X12_divided 4 rfl) rfl ?_
    refine lc_ne (tgt := 17) hx hb (dq da_X12_divided 5 rfl) (dq da_X12_divided 6 rfl) (by decide) (fun c12 => ?_) (fun c12 => ?_)
    · have h := ie c12 h
      refine lv_lload_n hx hb (dq da_X12_divided 9 rfl) rfl (lv_at hl 2 rfl) ?_
      refine lv_ldc2 hx hb hown (hts _ w_1086) (dq da_X12_divided 10 rfl) ?_
      refine lc_ne (tgt := 30) hx hb (dq da_X12_divided 11 rfl) (dq da_X12_divided 12 rfl) (by decide) (fun c13 => ?_) (fun c13 => ?_)
      · have h := ie c13 h
        refine lv_lload_n hx hb (dq da_X12_divided 16 rfl) rfl (lv_at hl 1 rfl) ?_
        refine lv_lload_n hx hb (dq da_X12_divided 17 rfl) rfl (lv_at hl 2 rfl) ?_
        refine lv_ldiv hx hb (dq da_X12_divided 18 rfl) c12 ?_
        exact pret_l E hr hlk (os h) (dq da_X12_divided 19 rfl)
      · have h := it c13 h
        refine lv_lload_n hx hb (dq da_X12_divided 13 rfl) rfl (lv_at hl 1 rfl) ?_
        refine lv_lneg hx hb (dq da_X12_divided 14 rfl) ?_
        refine lv_goto (tgt := 33) hx hb (dq da_X12_divided 15 rfl) (by decide) ?_
        exact pret_l E hr hlk (os h) (dq da_X12_divided 19 rfl)
    · have h := it c12 h
      refine lv_ldc2 hx hb hown (hts _ w_1086) (dq da_X12_divided 7 rfl) ?_
      refine lv_goto (tgt := 33) hx hb (dq da_X12_divided 8 rfl) (by decide) ?_
      exact pret_l E hr hlk (os h) (dq da_X12_divided 19 rfl)
def dl_X12_upper : List (Nat × Instr × Nat) := [(0, .lload_n 0, 1), (1, .ldc2_w 164, 3), (4, .land, 1), (5, .lstore 4, 2), (7, .lload_n 0, 1), (8, .bipush 32, 2), (10, .lushr, 1), (11, .lstore 6, 2), (13, .lload_n 2, 1), (14, .ldc2_w 164, 3), (17, .land, 1), (18, .lstore 8, 2), (20, .lload_n 2, 1), (21, .bipush 32, 2), (23, .lushr, 1), (24, .lstore 10, 2), (26, .lload 6, 2), (28, .lload 8, 2), (30, .lmul, 1), (31, .lload 4, 2), (33, .lload 8, 2), (35, .lmul, 1), (36, .bipush 32, 2), (38, .lushr, 1), (39, .ladd, 1), (40, .lstore 12, 2), (42, .lload 4, 2), (44, .lload 10, 2), (46, .lmul, 1), (47, .lload 12, 2), (49, .ldc2_w 164, 3), (52, .land, 1), (53, .ladd, 1), (54, .lstore 14, 2), (56, .lload 6, 2), (58, .lload 10, 2), (60, .lmul, 1), (61, .lload 12, 2), (63, .bipush 32, 2), (65, .lushr, 1), (66, .ladd, 1), (67, .lload 14, 2), (69, .bipush 32, 2), (71, .lushr, 1), (72, .ladd, 1), (73, .lreturn, 1)]
theorem da_X12_upper : dkL cX12_upper dl_X12_upper = true := by decide +kernel
def f_X12_upper (x0 : Int64) (x2 : Int64) : Int64 := ((((j_lushr x0 (32 : Int32)) * (j_lushr x2 (32 : Int32))) + (j_lushr (((j_lushr x0 (32 : Int32)) * (x2 &&& (4294967295 : Int64))) + (j_lushr ((x0 &&& (4294967295 : Int64)) * (x2 &&& (4294967295 : Int64))) (32 : Int32))) (32 : Int32))) + (j_lushr (((x0 &&& (4294967295 : Int64)) * (j_lushr x2 (32 : Int32))) + ((((j_lushr x0 (32 : Int32)) * (x2 &&& (4294967295 : Int64))) + (j_lushr ((x0 &&& (4294967295 : Int64)) * (x2 &&& (4294967295 : Int64))) (32 : Int32))) &&& (4294967295 : Int64))) (32 : Int32)))
set_option maxRecDepth 100000 in
set_option maxHeartbeats 4000000 in
theorem c_X12_upper (l : Launch) (x0 : Int64) (x2 : Int64) : MP l yX12_upper cX12_upper 16 (some .long) 0 0 [.long x0, .long x2] (.long (f_X12_upper x0 x2)) := by
  refine entP (by decide +kernel) (Nat.le_of_ble_eq_true rfl) ?_
  intro p e s m args below meth c ls E hr hlk hl
  have hl : lv_has ls 16 [(0, .long x0), (2, .long x2)] := hl
  generalize h : f_X12_upper x0 x2 = r
  have hx := E.1
  have hb := E.2.1
  have hown := E.2.2.2.1
  have hts := E.2.2.2.2
  refine lv_lload_n hx hb (dq da_X12_upper 0 rfl) rfl (lv_at hl 0 rfl) ?_
  refine lv_ldc2 hx hb hown (hts _ w_1588) (dq da_X12_upper 1 rfl) ?_
  refine lv_land hx hb (dq da_X12_upper 2 rfl) ?_
  refine lv_lstore (lv' := [(4, .long (x0 &&& (4294967295 : Int64))), (0, .long x0), (2, .long x2)]) hx hb (dq da_X12_upper 3 rfl) hl (by decide) rfl (fun ls hl => ?_)
  refine lv_lload_n hx hb (dq da_X12_upper 4 rfl) rfl (lv_at hl 1 rfl) ?_
  refine lv_bipush (v := 32) hx hb (dq da_X12_upper 5 rfl) rfl ?_
  refine lv_lushr (v := (j_lushr x0 (32 : Int32))) hx hb (dq da_X12_upper 6 rfl) rfl ?_
  refine lv_lstore (lv' := [(6, .long (j_lushr x0 (32 : Int32))), (4, .long (x0 &&& (4294967295 : Int64))), (0, .long x0), (2, .long x2)]) hx hb (dq da_X12_upper 7 rfl) hl (by decide) rfl (fun ls hl => ?_)
  refine lv_lload_n hx hb (dq da_X12_upper 8 rfl) rfl (lv_at hl 3 rfl) ?_
  refine lv_ldc2 hx hb hown (hts _ w_1588) (dq da_X12_upper 9 rfl) ?_
  refine lv_land hx hb (dq da_X12_upper 10 rfl) ?_
  refine lv_lstore (lv' := [(8, .long (x2 &&& (4294967295 : Int64))), (6, .long (j_lushr x0 (32 : Int32))), (4, .long (x0 &&& (4294967295 : Int64))), (0, .long x0), (2, .long x2)]) hx hb (dq da_X12_upper 11 rfl) hl (by decide) rfl (fun ls hl => ?_)
  refine lv_lload_n hx hb (dq da_X12_upper 12 rfl) rfl (lv_at hl 4 rfl) ?_
  refine lv_bipush (v := 32) hx hb (dq da_X12_upper 13 rfl) rfl ?_
  refine lv_lushr (v := (j_lushr x2 (32 : Int32))) hx hb (dq da_X12_upper 14 rfl) rfl ?_
  refine lv_lstore (lv' := [(10, .long (j_lushr x2 (32 : Int32))), (8, .long (x2 &&& (4294967295 : Int64))), (6, .long (j_lushr x0 (32 : Int32))), (4, .long (x0 &&& (4294967295 : Int64))), (0, .long x0), (2, .long x2)]) hx hb (dq da_X12_upper 15 rfl) hl (by decide) rfl (fun ls hl => ?_)
  refine lv_lload hx hb (dq da_X12_upper 16 rfl) (lv_at hl 2 rfl) ?_
  refine lv_lload hx hb (dq da_X12_upper 17 rfl) (lv_at hl 1 rfl) ?_
  refine lv_lmul hx hb (dq da_X12_upper 18 rfl) ?_
  refine lv_lload hx hb (dq da_X12_upper 19 rfl) (lv_at hl 3 rfl) ?_
  refine lv_lload hx hb (dq da_X12_upper 20 rfl) (lv_at hl 1 rfl) ?_
  refine lv_lmul hx hb (dq da_X12_upper 21 rfl) ?_
  refine lv_bipush (v := 32) hx hb (dq da_X12_upper 22 rfl) rfl ?_
  refine lv_lushr (v := (j_lushr ((x0 &&& (4294967295 : Int64)) * (x2 &&& (4294967295 : Int64))) (32 : Int32))) hx hb (dq da_X12_upper 23 rfl) rfl ?_
  refine lv_ladd hx hb (dq da_X12_upper 24 rfl) ?_
  refine lv_lstore (lv' := [(12, .long (((j_lushr x0 (32 : Int32)) * (x2 &&& (4294967295 : Int64))) + (j_lushr ((x0 &&& (4294967295 : Int64)) * (x2 &&& (4294967295 : Int64))) (32 : Int32)))), (10, .long (j_lushr x2 (32 : Int32))), (8, .long (x2 &&& (4294967295 : Int64))), (6, .long (j_lushr x0 (32 : Int32))), (4, .long (x0 &&& (4294967295 : Int64))), (0, .long x0), (2, .long x2)]) hx hb (dq da_X12_upper 25 rfl) hl (by decide) rfl (fun ls hl => ?_)
  refine lv_lload hx hb (dq da_X12_upper 26 rfl) (lv_at hl 4 rfl) ?_
  refine lv_lload hx hb (dq da_X12_upper 27 rfl) (lv_at hl 1 rfl) ?_
  refine lv_lmul hx hb (dq da_X12_upper 28 rfl) ?_
  refine lv_lload hx hb (dq da_X12_upper 29 rfl) (lv_at hl 0 rfl) ?_
  refine lv_ldc2 hx hb hown (hts _ w_1588) (dq da_X12_upper 30 rfl) ?_
  refine lv_land hx hb (dq da_X12_upper 31 rfl) ?_
  refine lv_ladd hx hb (dq da_X12_upper 32 rfl) ?_
  refine lv_lstore (lv' := [(14, .long (((x0 &&& (4294967295 : Int64)) * (j_lushr x2 (32 : Int32))) + ((((j_lushr x0 (32 : Int32)) * (x2 &&& (4294967295 : Int64))) + (j_lushr ((x0 &&& (4294967295 : Int64)) * (x2 &&& (4294967295 : Int64))) (32 : Int32))) &&& (4294967295 : Int64)))), (12, .long (((j_lushr x0 (32 : Int32)) * (x2 &&& (4294967295 : Int64))) + (j_lushr ((x0 &&& (4294967295 : Int64)) * (x2 &&& (4294967295 : Int64))) (32 : Int32)))), (10, .long (j_lushr x2 (32 : Int32))), (8, .long (x2 &&& (4294967295 : Int64))), (6, .long (j_lushr x0 (32 : Int32))), (4, .long (x0 &&& (4294967295 : Int64))), (0, .long x0), (2, .long x2)]) hx hb (dq da_X12_upper 33 rfl) hl (by decide) rfl (fun ls hl => ?_)
  refine lv_lload hx hb (dq da_X12_upper 34 rfl) (lv_at hl 4 rfl) ?_
  refine lv_lload hx hb (dq da_X12_upper 35 rfl) (lv_at hl 2 rfl) ?_
  refine lv_lmul hx hb (dq da_X12_upper 36 rfl) ?_
  refine lv_lload hx hb (dq da_X12_upper 37 rfl) (lv_at hl 1 rfl) ?_
  refine lv_bipush (v := 32) hx hb (dq da_X12_upper 38 rfl) rfl ?_
  refine lv_lushr (v := (j_lushr (((j_lushr x0 (32 : Int32)) * (x2 &&& (4294967295 : Int64))) + (j_lushr ((x0 &&& (4294967295 : Int64)) * (x2 &&& (4294967295 : Int64))) (32 : Int32))) (32 : Int32))) hx hb (dq da_X12_upper 39 rfl) rfl ?_
  refine lv_ladd hx hb (dq da_X12_upper 40 rfl) ?_
  refine lv_lload hx hb (dq da_X12_upper 41 rfl) (lv_at hl 0 rfl) ?_
  refine lv_bipush (v := 32) hx hb (dq da_X12_upper 42 rfl) rfl ?_
  refine lv_lushr (v := (j_lushr (((x0 &&& (4294967295 : Int64)) * (j_lushr x2 (32 : Int32))) + ((((j_lushr x0 (32 : Int32)) * (x2 &&& (4294967295 : Int64))) + (j_lushr ((x0 &&& (4294967295 : Int64)) * (x2 &&& (4294967295 : Int64))) (32 : Int32))) &&& (4294967295 : Int64))) (32 : Int32))) hx hb (dq da_X12_upper 43 rfl) rfl ?_
  refine lv_ladd hx hb (dq da_X12_upper 44 rfl) ?_
  exact pret_l E hr hlk h (dq da_X12_upper 45 rfl)
def dl_X12_joined : List (Nat × Instr × Nat) := [(0, .iload_n 0, 1), (1, .tableswitch 171 0 24 #[115, 119, 171, 171, 121, 171, 171, 171, 125, 171, 171, 171, 129, 171, 171, 171, 133, 171, 171, 171, 145, 171, 171, 171, 157], 115), (116, .lload_n 1, 1), (117, .lload_n 3, 1), (118, .ladd, 1), (119, .lreturn, 1), (120, .lload_n 3, 1), (121, .lreturn, 1), (122, .lload_n 1, 1), (123, .lload_n 3, 1), (124, .lxor, 1), (125, .lreturn, 1), (126, .lload_n 1, 1), (127, .lload_n 3, 1), (128, .lor, 1), (129, .lreturn, 1), (130, .lload_n 1, 1), (131, .lload_n 3, 1), (132, .land, 1), (133, .lreturn, 1), (134, .lload_n 1, 1), (135, .lload_n 3, 1), (136, .lcmp, 1), (137, .ifCond .ge 7, 3), (140, .lload_n 1, 1), (141, .goto 4, 3), (144, .lload_n 3, 1), (145, .lreturn, 1), (146, .lload_n 1, 1), (147, .lload_n 3, 1), (148, .lcmp, 1), (149, .ifCond .le 7, 3), (152, .lload_n 1, 1), (153, .goto 4, 3), (156, .lload_n 3, 1), (157, .lreturn, 1), (158, .lload_n 1, 1), (159, .lload_n 3, 1), (160, .invokestatic 231, 3), (163, .ifCond .eq 7, 3), (166, .lload_n 1, 1), (167, .goto 4, 3), (170, .lload_n 3, 1), (171, .lreturn, 1), (172, .lload_n 1, 1), (173, .lload_n 3, 1), (174, .invokestatic 231, 3), (177, .ifCond .eq 7, 3), (180, .lload_n 3, 1), (181, .goto 4, 3), (184, .lload_n 1, 1), (185, .lreturn, 1)]
theorem da_X12_joined : dkL cX12_joined dl_X12_joined = true := by decide +kernel
def f_X12_joined_b172 (x1 : Int64) (x3 : Int64) : Int64 := if (f_X12_isLess x1 x3) = (0 : Int32) then x1 else x3
set_option maxRecDepth 100000 in
set_option maxHeartbeats 4000000 in
theorem b_X12_joined_b172 {p : Program} {l : Launch} {e : Env} {s : State} {m : MethodId} {args : Array Value} {below : List Frame} {meth : Method} {c : Code} (E : CallFix p m c cX12_joined 5 s args gw RX12) (hr : meth.sig.returnType = some .long) (hlk : meth.locks = false) {x1 : Int64} {x3 : Int64} {r : Int64} (h : f_X12_joined_b172 x1 x3 = r) {ls : Array Slot} (hl : lv_has ls 5 [(1, .long x1), (3, .long x3)]) : Wp p l e 1 23 s m args below meth c (.long r) 172 ls [] := by
  have hx := E.1
  have hb := E.2.1
  have hown := E.2.2.2.1
  have hts := E.2.2.2.2
  refine lv_lload_n hx hb (dq da_X12_joined 44 rfl) rfl (lv_at hl 0 rfl) ?_
  refine lv_lload_n hx hb (dq da_X12_joined 45 rfl) rfl (lv_at hl 1 rfl) ?_
  refine callP E (c_X12_isLess l _ _ ) w_1358 w_1359 w_10 w_1360 hd_X12_isLess rfl hl.1 rfl (Nat.le_of_ble_eq_true rfl) ⟨Nat.le_of_ble_eq_true rfl, Nat.le_of_ble_eq_true rfl⟩ (by decide) (dq da_X12_joined 46 rfl) ?_
  refine lv_if_eq (tgt := 184) hx hb (dq da_X12_joined 47 rfl) (by decide) (fun c4 => ?_) (fun c4 => ?_)
  · have h := it c4 h
    refine lv_lload_n hx hb (dq da_X12_joined 50 rfl) rfl (lv_at hl 0 rfl) ?_
    exact pret_l E hr hlk h (dq da_X12_joined 51 rfl)
  · have h := ie c4 h
    refine lv_lload_n hx hb (dq da_X12_joined 48 rfl) rfl (lv_at hl 1 rfl) ?_
    refine lv_goto (tgt := 185) hx hb (dq da_X12_joined 49 rfl) (by decide) ?_
    exact pret_l E hr hlk h (dq da_X12_joined 51 rfl)
def f_X12_joined (x0 : Int32) (x1 : Int64) (x3 : Int64) : Int64 := if x0 = (0 : Int32) then (x1 + x3) else if x0 = (1 : Int32) then x3 else if x0 = (2 : Int32) then (f_X12_joined_b172 x1 x3) else if x0 = (3 : Int32) then (f_X12_joined_b172 x1 x3) else if x0 = (4 : Int32) then (x1 ^^^ x3) else if x0 = (5 : Int32) then (f_X12_joined_b172 x1 x3) else if x0 = (6 : Int32) then (f_X12_joined_b172 x1 x3) else if x0 = (7 : Int32) then (f_X12_joined_b172 x1 x3) else if x0 = (8 : Int32) then (x1 ||| x3) else if x0 = (9 : Int32) then (f_X12_joined_b172 x1 x3) else if x0 = (10 : Int32) then (f_X12_joined_b172 x1 x3) else if x0 = (11 : Int32) then (f_X12_joined_b172 x1 x3) else if x0 = (12 : Int32) then (x1 &&& x3) else if x0 = (13 : Int32) then (f_X12_joined_b172 x1 x3) else if x0 = (14 : Int32) then (f_X12_joined_b172 x1 x3) else if x0 = (15 : Int32) then (f_X12_joined_b172 x1 x3) else if x0 = (16 : Int32) then (if x3 ≤ x1 then x3 else x1) else if x0 = (17 : Int32) then (f_X12_joined_b172 x1 x3) else if x0 = (18 : Int32) then (f_X12_joined_b172 x1 x3) else if x0 = (19 : Int32) then (f_X12_joined_b172 x1 x3) else if x0 = (20 : Int32) then (if x1 ≤ x3 then x3 else x1) else if x0 = (21 : Int32) then (f_X12_joined_b172 x1 x3) else if x0 = (22 : Int32) then (f_X12_joined_b172 x1 x3) else if x0 = (23 : Int32) then (f_X12_joined_b172 x1 x3) else if x0 = (24 : Int32) then (if (f_X12_isLess x1 x3) = (0 : Int32) then x3 else x1) else (f_X12_joined_b172 x1 x3)
set_option maxRecDepth 100000 in
set_option maxHeartbeats 4000000 in
theorem c_X12_joined (l : Launch) (x0 : Int32) (x1 : Int64) (x3 : Int64) : MP l yX12_joined cX12_joined 5 (some .long) 1 23 [.int x0, .long x1, .long x3] (.long (f_X12_joined x0 x1 x3)) := by
  refine entP (by decide +kernel) (Nat.le_of_ble_eq_true rfl) ?_
  intro p e s m args below meth c ls E hr hlk hl
  have hl : lv_has ls 5 [(0, .int x0), (1, .long x1), (3, .long x3)] := hl
  generalize h : f_X12_joined x0 x1 x3 = r
  have hx := E.1
  have hb := E.2.1
  have hown := E.2.2.2.1
  have hts := E.2.2.2.2
  refine lv_iload_n hx hb (dq da_X12_joined 0 rfl) rfl (lv_at hl 0 rfl) ?_
  by_cases c1 : x0 = (0 : Int32)
  · have h := it c1 h
    refine lv_tableIn (off := 115) (tgt := 116) hx hb (dq da_X12_joined 1 rfl) (by rw [c1]; decide +kernel) (by rw [c1]; decide +kernel) (by rw [c1]; decide +kernel) (by decide) ?_
    refine lv_lload_n hx hb (dq da_X12_joined 2 rfl) rfl (lv_at hl 1 rfl) ?_
    refine lv_lload_n hx hb (dq da_X12_joined 3 rfl) rfl (lv_at hl 2 rfl) ?_
    refine lv_ladd hx hb (dq da_X12_joined 4 rfl) ?_
    exact pret_l E hr hlk h (dq da_X12_joined 5 rfl)
  · have h := ie c1 h
    by_cases c2 : x0 = (1 : Int32)
    · have h := it c2 h
      refine lv_tableIn (off := 119) (tgt := 120) hx hb (dq da_X12_joined 1 rfl) (by rw [c2]; decide +kernel) (by rw [c2]; decide +kernel) (by rw [c2]; decide +kernel) (by decide) ?_
      refine lv_lload_n hx hb (dq da_X12_joined 6 rfl) rfl (lv_at hl 2 rfl) ?_
      exact pret_l E hr hlk h (dq da_X12_joined 7 rfl)
    · have h := ie c2 h
      by_cases c3 : x0 = (2 : Int32)
      · have h := it c3 h
        refine lv_tableIn (off := 171) (tgt := 172) hx hb (dq da_X12_joined 1 rfl) (by rw [c3]; decide +kernel) (by rw [c3]; decide +kernel) (by rw [c3]; decide +kernel) (by decide) ?_
        exact b_X12_joined_b172 E hr hlk h (lv_sub hl [1, 2] rfl)
      · have h := ie c3 h
        by_cases c5 : x0 = (3 : Int32)
        · have h := it c5 h
          refine lv_tableIn (off := 171) (tgt := 172) hx hb (dq da_X12_joined 1 rfl) (by rw [c5]; decide +kernel) (by rw [c5]; decide +kernel) (by rw [c5]; decide +kernel) (by decide) ?_
          exact b_X12_joined_b172 E hr hlk h (lv_sub hl [1, 2] rfl)
        · have h := ie c5 h
          by_cases c6 : x0 = (4 : Int32)
          · have h := it c6 h
            refine lv_tableIn (off := 121) (tgt := 122) hx hb (dq da_X12_joined 1 rfl) (by rw [c6]; decide +kernel) (by rw [c6]; decide +kernel) (by rw [c6]; decide +kernel) (by decide) ?_
            refine lv_lload_n hx hb (dq da_X12_joined 8 rfl) rfl (lv_at hl 1 rfl) ?_
            refine lv_lload_n hx hb (dq da_X12_joined 9 rfl) rfl (lv_at hl 2 rfl) ?_
            refine lv_lxor hx hb (dq da_X12_joined 10 rfl) ?_
            exact pret_l E hr hlk h (dq da_X12_joined 11 rfl)
          · have h := ie c6 h
            by_cases c7 : x0 = (5 : Int32)
            · have h := it c7 h
              refine lv_tableIn (off := 171) (tgt := 172) hx hb (dq da_X12_joined 1 rfl) (by rw [c7]; decide +kernel) (by rw [c7]; decide +kernel) (by rw [c7]; decide +kernel) (by decide) ?_
              exact b_X12_joined_b172 E hr hlk h (lv_sub hl [1, 2] rfl)
            · have h := ie c7 h
              by_cases c8 : x0 = (6 : Int32)
              · have h := it c8 h
                refine lv_tableIn (off := 171) (tgt := 172) hx hb (dq da_X12_joined 1 rfl) (by rw [c8]; decide +kernel) (by rw [c8]; decide +kernel) (by rw [c8]; decide +kernel) (by decide) ?_
                exact b_X12_joined_b172 E hr hlk h (lv_sub hl [1, 2] rfl)
              · have h := ie c8 h
                by_cases c9 : x0 = (7 : Int32)
                · have h := it c9 h
                  refine lv_tableIn (off := 171) (tgt := 172) hx hb (dq da_X12_joined 1 rfl) (by rw [c9]; decide +kernel) (by rw [c9]; decide +kernel) (by rw [c9]; decide +kernel) (by decide) ?_
                  exact b_X12_joined_b172 E hr hlk h (lv_sub hl [1, 2] rfl)
                · have h := ie c9 h
                  by_cases c10 : x0 = (8 : Int32)
                  · have h := it c10 h
                    refine lv_tableIn (off := 125) (tgt := 126) hx hb (dq da_X12_joined 1 rfl) (by rw [c10]; decide +kernel) (by rw [c10]; decide +kernel) (by rw [c10]; decide +kernel) (by decide) ?_
                    refine lv_lload_n hx hb (dq da_X12_joined 12 rfl) rfl (lv_at hl 1 rfl) ?_
                    refine lv_lload_n hx hb (dq da_X12_joined 13 rfl) rfl (lv_at hl 2 rfl) ?_
                    refine lv_lor hx hb (dq da_X12_joined 14 rfl) ?_
                    exact pret_l E hr hlk h (dq da_X12_joined 15 rfl)
                  · have h := ie c10 h
                    by_cases c11 : x0 = (9 : Int32)
                    · have h := it c11 h
                      refine lv_tableIn (off := 171) (tgt := 172) hx hb (dq da_X12_joined 1 rfl) (by rw [c11]; decide +kernel) (by rw [c11]; decide +kernel) (by rw [c11]; decide +kernel) (by decide) ?_
                      exact b_X12_joined_b172 E hr hlk h (lv_sub hl [1, 2] rfl)
                    · have h := ie c11 h
                      by_cases c12 : x0 = (10 : Int32)
                      · have h := it c12 h
                        refine lv_tableIn (off := 171) (tgt := 172) hx hb (dq da_X12_joined 1 rfl) (by rw [c12]; decide +kernel) (by rw [c12]; decide +kernel) (by rw [c12]; decide +kernel) (by decide) ?_
                        exact b_X12_joined_b172 E hr hlk h (lv_sub hl [1, 2] rfl)
                      · have h := ie c12 h
                        by_cases c13 : x0 = (11 : Int32)
                        · have h := it c13 h
                          refine lv_tableIn (off := 171) (tgt := 172) hx hb (dq da_X12_joined 1 rfl) (by rw [c13]; decide +kernel) (by rw [c13]; decide +kernel) (by rw [c13]; decide +kernel) (by decide) ?_
                          exact b_X12_joined_b172 E hr hlk h (lv_sub hl [1, 2] rfl)
                        · have h := ie c13 h
                          by_cases c14 : x0 = (12 : Int32)
                          · have h := it c14 h
                            refine lv_tableIn (off := 129) (tgt := 130) hx hb (dq da_X12_joined 1 rfl) (by rw [c14]; decide +kernel) (by rw [c14]; decide +kernel) (by rw [c14]; decide +kernel) (by decide) ?_
                            refine lv_lload_n hx hb (dq da_X12_joined 16 rfl) rfl (lv_at hl 1 rfl) ?_
                            refine lv_lload_n hx hb (dq da_X12_joined 17 rfl) rfl (lv_at hl 2 rfl) ?_
                            refine lv_land hx hb (dq da_X12_joined 18 rfl) ?_
                            exact pret_l E hr hlk h (dq da_X12_joined 19 rfl)
                          · have h := ie c14 h
                            by_cases c15 : x0 = (13 : Int32)
                            · have h := it c15 h
                              refine lv_tableIn (off := 171) (tgt := 172) hx hb (dq da_X12_joined 1 rfl) (by rw [c15]; decide +kernel) (by rw [c15]; decide +kernel) (by rw [c15]; decide +kernel) (by decide) ?_
                              exact b_X12_joined_b172 E hr hlk h (lv_sub hl [1, 2] rfl)
                            · have h := ie c15 h
                              by_cases c16 : x0 = (14 : Int32)
                              · have h := it c16 h
                                refine lv_tableIn (off := 171) (tgt := 172) hx hb (dq da_X12_joined 1 rfl) (by rw [c16]; decide +kernel) (by rw [c16]; decide +kernel) (by rw [c16]; decide +kernel) (by decide) ?_
                                exact b_X12_joined_b172 E hr hlk h (lv_sub hl [1, 2] rfl)
                              · have h := ie c16 h
                                by_cases c17 : x0 = (15 : Int32)
                                · have h := it c17 h
                                  refine lv_tableIn (off := 171) (tgt := 172) hx hb (dq da_X12_joined 1 rfl) (by rw [c17]; decide +kernel) (by rw [c17]; decide +kernel) (by rw [c17]; decide +kernel) (by decide) ?_
                                  exact b_X12_joined_b172 E hr hlk h (lv_sub hl [1, 2] rfl)
                                · have h := ie c17 h
                                  by_cases c18 : x0 = (16 : Int32)
                                  · have h := it c18 h
                                    refine lv_tableIn (off := 133) (tgt := 134) hx hb (dq da_X12_joined 1 rfl) (by rw [c18]; decide +kernel) (by rw [c18]; decide +kernel) (by rw [c18]; decide +kernel) (by decide) ?_
                                    refine lv_lload_n hx hb (dq da_X12_joined 20 rfl) rfl (lv_at hl 1 rfl) ?_
                                    refine lv_lload_n hx hb (dq da_X12_joined 21 rfl) rfl (lv_at hl 2 rfl) ?_
                                    refine lc_ge (tgt := 144) hx hb (dq da_X12_joined 22 rfl) (dq da_X12_joined 23 rfl) (by decide) (fun c19 => ?_) (fun c19 => ?_)
                                    · have h := it c19 h
                                      refine lv_lload_n hx hb (dq da_X12_joined 26 rfl) rfl (lv_at hl 2 rfl) ?_
                                      exact pret_l E hr hlk h (dq da_X12_joined 27 rfl)
                                    · have h := ie c19 h
                                      refine lv_lload_n hx hb (dq da_X12_joined 24 rfl) rfl (lv_at hl 1 rfl) ?_
                                      refine lv_goto (tgt := 145) hx hb (dq da_X12_joined 25 rfl) (by decide) ?_
                                      exact pret_l E hr hlk h (dq da_X12_joined 27 rfl)
                                  · have h := ie c18 h
                                    by_cases c20 : x0 = (17 : Int32)
                                    · have h := it c20 h
                                      refine lv_tableIn (off := 171) (tgt := 172) hx hb (dq da_X12_joined 1 rfl) (by rw [c20]; decide +kernel) (by rw [c20]; decide +kernel) (by rw [c20]; decide +kernel) (by decide) ?_
                                      exact b_X12_joined_b172 E hr hlk h (lv_sub hl [1, 2] rfl)
                                    · have h := ie c20 h
                                      by_cases c21 : x0 = (18 : Int32)
                                      · have h := it c21 h
                                        refine lv_tableIn (off := 171) (tgt := 172) hx hb (dq da_X12_joined 1 rfl) (by rw [c21]; decide +kernel) (by rw [c21]; decide +kernel) (by rw [c21]; decide +kernel) (by decide) ?_
                                        exact b_X12_joined_b172 E hr hlk h (lv_sub hl [1, 2] rfl)
                                      · have h := ie c21 h
                                        by_cases c22 : x0 = (19 : Int32)
                                        · have h := it c22 h
                                          refine lv_tableIn (off := 171) (tgt := 172) hx hb (dq da_X12_joined 1 rfl) (by rw [c22]; decide +kernel) (by rw [c22]; decide +kernel) (by rw [c22]; decide +kernel) (by decide) ?_
                                          exact b_X12_joined_b172 E hr hlk h (lv_sub hl [1, 2] rfl)
                                        · have h := ie c22 h
                                          by_cases c23 : x0 = (20 : Int32)
                                          · have h := it c23 h
                                            refine lv_tableIn (off := 145) (tgt := 146) hx hb (dq da_X12_joined 1 rfl) (by rw [c23]; decide +kernel) (by rw [c23]; decide +kernel) (by rw [c23]; decide +kernel) (by decide) ?_
                                            refine lv_lload_n hx hb (dq da_X12_joined 28 rfl) rfl (lv_at hl 1 rfl) ?_
                                            refine lv_lload_n hx hb (dq da_X12_joined 29 rfl) rfl (lv_at hl 2 rfl) ?_
                                            refine lc_le (tgt := 156) hx hb (dq da_X12_joined 30 rfl) (dq da_X12_joined 31 rfl) (by decide) (fun c24 => ?_) (fun c24 => ?_)
                                            · have h := it c24 h
                                              refine lv_lload_n hx hb (dq da_X12_joined 34 rfl) rfl (lv_at hl 2 rfl) ?_
                                              exact pret_l E hr hlk h (dq da_X12_joined 35 rfl)
                                            · have h := ie c24 h
                                              refine lv_lload_n hx hb (dq da_X12_joined 32 rfl) rfl (lv_at hl 1 rfl) ?_
                                              refine lv_goto (tgt := 157) hx hb (dq da_X12_joined 33 rfl) (by decide) ?_
                                              exact pret_l E hr hlk h (dq da_X12_joined 35 rfl)
                                          · have h := ie c23 h
                                            by_cases c25 : x0 = (21 : Int32)
                                            · have h := it c25 h
                                              refine lv_tableIn (off := 171) (tgt := 172) hx hb (dq da_X12_joined 1 rfl) (by rw [c25]; decide +kernel) (by rw [c25]; decide +kernel) (by rw [c25]; decide +kernel) (by decide) ?_
                                              exact b_X12_joined_b172 E hr hlk h (lv_sub hl [1, 2] rfl)
                                            · have h := ie c25 h
                                              by_cases c26 : x0 = (22 : Int32)
                                              · have h := it c26 h
                                                refine lv_tableIn (off := 171) (tgt := 172) hx hb (dq da_X12_joined 1 rfl) (by rw [c26]; decide +kernel) (by rw [c26]; decide +kernel) (by rw [c26]; decide +kernel) (by decide) ?_
                                                exact b_X12_joined_b172 E hr hlk h (lv_sub hl [1, 2] rfl)
                                              · have h := ie c26 h
                                                by_cases c27 : x0 = (23 : Int32)
                                                · have h := it c27 h
                                                  refine lv_tableIn (off := 171) (tgt := 172) hx hb (dq da_X12_joined 1 rfl) (by rw [c27]; decide +kernel) (by rw [c27]; decide +kernel) (by rw [c27]; decide +kernel) (by decide) ?_
                                                  exact b_X12_joined_b172 E hr hlk h (lv_sub hl [1, 2] rfl)
                                                · have h := ie c27 h
                                                  by_cases c28 : x0 = (24 : Int32)
                                                  · have h := it c28 h
                                                    refine lv_tableIn (off := 157) (tgt := 158) hx hb (dq da_X12_joined 1 rfl) (by rw [c28]; decide +kernel) (by rw [c28]; decide +kernel) (by rw [c28]; decide +kernel) (by decide) ?_
                                                    refine lv_lload_n hx hb (dq da_X12_joined 36 rfl) rfl (lv_at hl 1 rfl) ?_
                                                    refine lv_lload_n hx hb (dq da_X12_joined 37 rfl) rfl (lv_at hl 2 rfl) ?_
                                                    refine callP E (c_X12_isLess l _ _ ) w_1358 w_1359 w_10 w_1360 hd_X12_isLess rfl hl.1 rfl (Nat.le_of_ble_eq_true rfl) ⟨Nat.le_of_ble_eq_true rfl, Nat.le_of_ble_eq_true rfl⟩ (by decide) (dq da_X12_joined 38 rfl) ?_
                                                    refine lv_if_eq (tgt := 170) hx hb (dq da_X12_joined 39 rfl) (by decide) (fun c29 => ?_) (fun c29 => ?_)
                                                    · have h := it c29 h
                                                      refine lv_lload_n hx hb (dq da_X12_joined 42 rfl) rfl (lv_at hl 2 rfl) ?_
                                                      exact pret_l E hr hlk h (dq da_X12_joined 43 rfl)
                                                    · have h := ie c29 h
                                                      refine lv_lload_n hx hb (dq da_X12_joined 40 rfl) rfl (lv_at hl 1 rfl) ?_
                                                      refine lv_goto (tgt := 171) hx hb (dq da_X12_joined 41 rfl) (by decide) ?_
                                                      exact pret_l E hr hlk h (dq da_X12_joined 43 rfl)
                                                  · have h := ie c28 h
                                                    refine lv_tableOut (tgt := 172) hx hb (dq da_X12_joined 1 rfl) (by have := lv_neT (k := (0 : Int32)) (a := 0) c1 rfl; have := lv_neT (k := (1 : Int32)) (a := 1) c2 rfl; have := lv_neT (k := (2 : Int32)) (a := 2) c3 rfl; have := lv_neT (k := (3 : Int32)) (a := 3) c5 rfl; have := lv_neT (k := (4 : Int32)) (a := 4) c6 rfl; have := lv_neT (k := (5 : Int32)) (a := 5) c7 rfl; have := lv_neT (k := (6 : Int32)) (a := 6) c8 rfl; have := lv_neT (k := (7 : Int32)) (a := 7) c9 rfl; have := lv_neT (k := (8 : Int32)) (a := 8) c10 rfl; have := lv_neT (k := (9 : Int32)) (a := 9) c11 rfl; have := lv_neT (k := (10 : Int32)) (a := 10) c12 rfl; have := lv_neT (k := (11 : Int32)) (a := 11) c13 rfl; have := lv_neT (k := (12 : Int32)) (a := 12) c14 rfl; have := lv_neT (k := (13 : Int32)) (a := 13) c15 rfl; have := lv_neT (k := (14 : Int32)) (a := 14) c16 rfl; have := lv_neT (k := (15 : Int32)) (a := 15) c17 rfl; have := lv_neT (k := (16 : Int32)) (a := 16) c18 rfl; have := lv_neT (k := (17 : Int32)) (a := 17) c20 rfl; have := lv_neT (k := (18 : Int32)) (a := 18) c21 rfl; have := lv_neT (k := (19 : Int32)) (a := 19) c22 rfl; have := lv_neT (k := (20 : Int32)) (a := 20) c23 rfl; have := lv_neT (k := (21 : Int32)) (a := 21) c25 rfl; have := lv_neT (k := (22 : Int32)) (a := 22) c26 rfl; have := lv_neT (k := (23 : Int32)) (a := 23) c27 rfl; have := lv_neT (k := (24 : Int32)) (a := 24) c28 rfl; omega) (by decide) ?_
                                                    exact b_X12_joined_b172 E hr hlk h (lv_sub hl [1, 2] rfl)

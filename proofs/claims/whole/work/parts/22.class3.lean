theorem w_35 : Cond.fieldLink RX2 13 "HartBoard$Bytes" "limit" "I" ∈ gw := gw_t1 35 rfl rfl
theorem w_109 : Cond.fieldLink RX8 21 "HartBoard$Line" "output" "LHartBoard$Bytes;" ∈ gw := gw_t1 109 rfl rfl
theorem w_929 : Cond.methodLink RX8 39 yX2_append ∈ gw := gw_t4 209 rfl rfl
theorem w_469 : Cond.instanceMethod yX2_append ∈ gw := gw_t2 229 rfl rfl
theorem w_470 : Cond.selects RX2 yX2_append yX2_append ∈ gw := gw_t2 230 rfl rfl
theorem w_471 : Cond.code yX2_append cX2_append 4 (none) ∈ gw := gw_t2 231 rfl rfl
theorem w_938 : Cond.methodLink RX1 97 yX1_withPart ∈ gw := gw_t4 218 rfl rfl
theorem w_939 : Cond.static yX1_withPart ∈ gw := gw_t4 219 rfl rfl
theorem w_940 : Cond.code yX1_withPart cX1_withPart 10 (some .long) ∈ gw := gw_t4 220 rfl rfl
theorem w_930 : Cond.methodLink RX1 96 yX3_write ∈ gw := gw_t4 210 rfl rfl
theorem w_931 : Cond.instanceMethod yX3_write ∈ gw := gw_t4 211 rfl rfl
theorem w_932 : Cond.selects RX3 yX3_write yX3_write ∈ gw := gw_t4 212 rfl rfl
theorem w_933 : Cond.code yX3_write cX3_write 3 (none) ∈ gw := gw_t4 213 rfl rfl
theorem w_925 : Cond.methodLink RX1 93 yX8_write ∈ gw := gw_t4 205 rfl rfl
theorem w_926 : Cond.instanceMethod yX8_write ∈ gw := gw_t4 206 rfl rfl
theorem w_927 : Cond.selects RX8 yX8_write yX8_write ∈ gw := gw_t4 207 rfl rfl
theorem w_928 : Cond.code yX8_write cX8_write 3 (none) ∈ gw := gw_t4 208 rfl rfl
theorem w_923 : Cond.methodLink RX1 79 yX10_write ∈ gw := gw_t4 203 rfl rfl
theorem w_924 : Cond.methodLink RX1 90 yX1_endReservation ∈ gw := gw_t4 204 rfl rfl
theorem w_919 : Cond.methodLink RX6 287 yX1_write ∈ gw := gw_t4 199 rfl rfl
theorem w_920 : Cond.instanceMethod yX1_write ∈ gw := gw_t4 200 rfl rfl
theorem w_921 : Cond.selects RX1 yX1_write yX1_write ∈ gw := gw_t4 201 rfl rfl
theorem w_922 : Cond.code yX1_write cX1_write 7 (none) ∈ gw := gw_t4 202 rfl rfl
theorem w_990 : Cond.methodLink RX6 320 yX1_reserves ∈ gw := gw_t5 30 rfl rfl
theorem w_991 : Cond.instanceMethod yX1_reserves ∈ gw := gw_t5 31 rfl rfl
theorem w_992 : Cond.selects RX1 yX1_reserves yX1_reserves ∈ gw := gw_t5 32 rfl rfl
theorem w_993 : Cond.code yX1_reserves cX1_reserves 4 (some .boolean) ∈ gw := gw_t5 33 rfl rfl
theorem w_983 : Cond.methodLink RX6 307 yX0_isAtomic ∈ gw := gw_t5 23 rfl rfl
theorem w_984 : Cond.static yX0_isAtomic ∈ gw := gw_t5 24 rfl rfl
theorem w_985 : Cond.code yX0_isAtomic cX0_isAtomic 1 (some .boolean) ∈ gw := gw_t5 25 rfl rfl
theorem w_998 : Cond.methodLink RX6 318 yX0_atomic ∈ gw := gw_t5 38 rfl rfl
theorem w_999 : Cond.static yX0_atomic ∈ gw := gw_t5 39 rfl rfl
theorem w_1000 : Cond.code yX0_atomic cX0_atomic 5 (some .long) ∈ gw := gw_t5 40 rfl rfl
theorem w_994 : Cond.methodLink RX6 314 yX1_reserve ∈ gw := gw_t5 34 rfl rfl
theorem w_995 : Cond.instanceMethod yX1_reserve ∈ gw := gw_t5 35 rfl rfl
theorem w_996 : Cond.selects RX1 yX1_reserve yX1_reserve ∈ gw := gw_t5 36 rfl rfl
theorem w_997 : Cond.code yX1_reserve cX1_reserve 4 (none) ∈ gw := gw_t5 37 rfl rfl
theorem w_986 : Cond.methodLink RX6 310 yX6_storeReserved ∈ gw := gw_t5 26 rfl rfl
theorem w_988 : Cond.instanceMethod yX6_storeReserved ∈ gw := gw_t5 28 rfl rfl
theorem w_p34 : Cond.selects RX6 yX6_storeReserved yX6_storeReserved ∈ gw := gw_p 34 rfl rfl
theorem w_989 : Cond.code yX6_storeReserved cX6_storeReserved 6 (none) ∈ gw := gw_t5 29 rfl rfl
theorem w_861 : Cond.methodLink RX6 222 yX6_loadRegister ∈ gw := gw_t4 141 rfl rfl
theorem w_863 : Cond.instanceMethod yX6_loadRegister ∈ gw := gw_t4 143 rfl rfl
theorem w_p25 : Cond.selects RX6 yX6_loadRegister yX6_loadRegister ∈ gw := gw_p 25 rfl rfl
theorem w_864 : Cond.code yX6_loadRegister cX6_loadRegister 10 (none) ∈ gw := gw_t4 144 rfl rfl
theorem w_1001 : Cond.methodLink RX6 243 yX6_fence ∈ gw := gw_t5 41 rfl rfl
theorem w_1003 : Cond.instanceMethod yX6_fence ∈ gw := gw_t5 43 rfl rfl
theorem w_p35 : Cond.selects RX6 yX6_fence yX6_fence ∈ gw := gw_p 35 rfl rfl
theorem w_1004 : Cond.code yX6_fence cX6_fence 2 (none) ∈ gw := gw_t5 44 rfl rfl
theorem w_941 : Cond.methodLink RX6 228 yX6_computeWithConstant ∈ gw := gw_t4 221 rfl rfl
theorem w_943 : Cond.instanceMethod yX6_computeWithConstant ∈ gw := gw_t4 223 rfl rfl
theorem w_p29 : Cond.selects RX6 yX6_computeWithConstant yX6_computeWithConstant ∈ gw := gw_p 29 rfl rfl
theorem w_944 : Cond.code yX6_computeWithConstant cX6_computeWithConstant 5 (none) ∈ gw := gw_t4 224 rfl rfl
theorem w_950 : Cond.methodLink RX6 231 yX6_computeNarrowWithConstant ∈ gw := gw_t4 230 rfl rfl
theorem w_952 : Cond.instanceMethod yX6_computeNarrowWithConstant ∈ gw := gw_t4 232 rfl rfl
theorem w_p30 : Cond.selects RX6 yX6_computeNarrowWithConstant yX6_computeNarrowWithConstant ∈ gw := gw_p 30 rfl rfl
theorem w_953 : Cond.code yX6_computeNarrowWithConstant cX6_computeNarrowWithConstant 5 (none) ∈ gw := gw_t4 233 rfl rfl
theorem w_915 : Cond.methodLink RX6 225 yX6_storeRegister ∈ gw := gw_t4 195 rfl rfl
theorem w_917 : Cond.instanceMethod yX6_storeRegister ∈ gw := gw_t4 197 rfl rfl
theorem w_p27 : Cond.selects RX6 yX6_storeRegister yX6_storeRegister ∈ gw := gw_p 27 rfl rfl
theorem w_918 : Cond.code yX6_storeRegister cX6_storeRegister 8 (none) ∈ gw := gw_t4 198 rfl rfl
theorem w_979 : Cond.methodLink RX6 240 yX6_atomic ∈ gw := gw_t5 19 rfl rfl
theorem w_981 : Cond.instanceMethod yX6_atomic ∈ gw := gw_t5 21 rfl rfl
theorem w_p33 : Cond.selects RX6 yX6_atomic yX6_atomic ∈ gw := gw_p 33 rfl rfl
theorem w_982 : Cond.code yX6_atomic cX6_atomic 15 (none) ∈ gw := gw_t5 22 rfl rfl
theorem w_957 : Cond.methodLink RX6 234 yX6_compute ∈ gw := gw_t4 237 rfl rfl
theorem w_959 : Cond.instanceMethod yX6_compute ∈ gw := gw_t4 239 rfl rfl
theorem w_p31 : Cond.selects RX6 yX6_compute yX6_compute ∈ gw := gw_p 31 rfl rfl
theorem w_960 : Cond.code yX6_compute cX6_compute 4 (none) ∈ gw := gw_t5 0 rfl rfl
theorem w_972 : Cond.methodLink RX6 237 yX6_computeNarrow ∈ gw := gw_t5 12 rfl rfl
theorem w_974 : Cond.instanceMethod yX6_computeNarrow ∈ gw := gw_t5 14 rfl rfl
theorem w_p32 : Cond.selects RX6 yX6_computeNarrow yX6_computeNarrow ∈ gw := gw_p 32 rfl rfl
theorem w_975 : Cond.code yX6_computeNarrow cX6_computeNarrow 4 (none) ∈ gw := gw_t5 15 rfl rfl
theorem w_849 : Cond.methodLink RX6 219 yX6_branch ∈ gw := gw_t4 129 rfl rfl
theorem w_851 : Cond.instanceMethod yX6_branch ∈ gw := gw_t4 131 rfl rfl
theorem w_p23 : Cond.selects RX6 yX6_branch yX6_branch ∈ gw := gw_p 23 rfl rfl
theorem w_852 : Cond.code yX6_branch cX6_branch 8 (none) ∈ gw := gw_t4 132 rfl rfl
theorem w_832 : Cond.methodLink RX6 216 yX6_jumpByRegister ∈ gw := gw_t4 112 rfl rfl
theorem w_834 : Cond.instanceMethod yX6_jumpByRegister ∈ gw := gw_t4 114 rfl rfl
theorem w_p20 : Cond.selects RX6 yX6_jumpByRegister yX6_jumpByRegister ∈ gw := gw_p 20 rfl rfl
theorem w_835 : Cond.code yX6_jumpByRegister cX6_jumpByRegister 2 (none) ∈ gw := gw_t4 115 rfl rfl
theorem w_824 : Cond.methodLink RX6 210 yX6_jumpOffset ∈ gw := gw_t4 104 rfl rfl
theorem w_825 : Cond.static yX6_jumpOffset ∈ gw := gw_t4 105 rfl rfl
theorem w_826 : Cond.code yX6_jumpOffset cX6_jumpOffset 1 (some .int) ∈ gw := gw_t4 106 rfl rfl
theorem w_1034 : Cond.methodLink RX6 252 yX6_controlInstruction ∈ gw := gw_t5 74 rfl rfl
theorem w_1036 : Cond.instanceMethod yX6_controlInstruction ∈ gw := gw_t5 76 rfl rfl
theorem w_p40 : Cond.selects RX6 yX6_controlInstruction yX6_controlInstruction ∈ gw := gw_p 40 rfl rfl
theorem w_1037 : Cond.code yX6_controlInstruction cX6_controlInstruction 10 (none) ∈ gw := gw_t5 77 rfl rfl
theorem w_1005 : Cond.methodLink RX6 249 yX6_system ∈ gw := gw_t5 45 rfl rfl
theorem w_1007 : Cond.instanceMethod yX6_system ∈ gw := gw_t5 47 rfl rfl
theorem w_p36 : Cond.selects RX6 yX6_system yX6_system ∈ gw := gw_p 36 rfl rfl
theorem w_1008 : Cond.code yX6_system cX6_system 2 (none) ∈ gw := gw_t5 48 rfl rfl
theorem w_657 : Cond.methodLink RX6 39 yX6_dueInterrupt ∈ gw := gw_t3 177 rfl rfl
theorem w_659 : Cond.instanceMethod yX6_dueInterrupt ∈ gw := gw_t3 179 rfl rfl
theorem w_p10 : Cond.selects RX6 yX6_dueInterrupt yX6_dueInterrupt ∈ gw := gw_p 10 rfl rfl
theorem w_660 : Cond.code yX6_dueInterrupt cX6_dueInterrupt 6 (some .int) ∈ gw := gw_t3 180 rfl rfl
theorem w_698 : Cond.methodLink RX6 50 yX6_fetched ∈ gw := gw_t3 218 rfl rfl
theorem w_700 : Cond.instanceMethod yX6_fetched ∈ gw := gw_t3 220 rfl rfl
theorem w_p13 : Cond.selects RX6 yX6_fetched yX6_fetched ∈ gw := gw_p 13 rfl rfl
theorem w_701 : Cond.code yX6_fetched cX6_fetched 2 (some .int) ∈ gw := gw_t3 221 rfl rfl
theorem w_257 : Cond.fieldLink RX6 65 "HartBoard$Hart" "traps" "I" ∈ gw := gw_t2 17 rfl rfl
theorem w_261 : Cond.fieldLink RX6 28 "HartBoard$Hart" "latest" "I" ∈ gw := gw_t2 21 rfl rfl
theorem w_674 : Cond.methodLink RX6 46 yX6_enter ∈ gw := gw_t3 194 rfl rfl
theorem w_676 : Cond.instanceMethod yX6_enter ∈ gw := gw_t3 196 rfl rfl
theorem w_p11 : Cond.selects RX6 yX6_enter yX6_enter ∈ gw := gw_p 11 rfl rfl
theorem w_677 : Cond.code yX6_enter cX6_enter 10 (none) ∈ gw := gw_t3 197 rfl rfl
theorem n_28 : Cond.fieldLinkNest RX6 71 "HartBoard$Controls" "cycle" "J" "HartBoard" ∈ nl := List.mem_append_left _ (List.mem_of_getElem? (i := 28) rfl)
theorem n_12 : Cond.fieldLinkNest RX6 74 "HartBoard$Bus" "time" "J" "HartBoard" ∈ nl := List.mem_append_left _ (List.mem_of_getElem? (i := 12) rfl)
theorem w_1050 : Cond.methodLink RX6 79 yX1_settle ∈ gw := gw_t5 90 rfl rfl
theorem w_481 : Cond.instanceMethod yX1_settle ∈ gw := gw_t3 1 rfl rfl
theorem w_482 : Cond.selects RX1 yX1_settle yX1_settle ∈ gw := gw_t3 2 rfl rfl
theorem w_483 : Cond.code yX1_settle cX1_settle 1 (none) ∈ gw := gw_t3 3 rfl rfl
theorem n_29 : Cond.fieldLinkNest RX6 60 "HartBoard$Controls" "retired" "J" "HartBoard" ∈ nl := List.mem_append_left _ (List.mem_of_getElem? (i := 29) rfl)
theorem w_816 : Cond.methodLink RX6 53 yX6_execute ∈ gw := gw_t4 96 rfl rfl
theorem w_818 : Cond.instanceMethod yX6_execute ∈ gw := gw_t4 98 rfl rfl
theorem w_p17 : Cond.selects RX6 yX6_execute yX6_execute ∈ gw := gw_p 17 rfl rfl
theorem w_819 : Cond.code yX6_execute cX6_execute 2 (none) ∈ gw := gw_t4 99 rfl rfl
theorem w_259 : Cond.fieldLink RX6 43 "HartBoard$Hart" "interrupts" "I" ∈ gw := gw_t2 19 rfl rfl
def dl_X2_append_o1 : List (Nat × Instr × Nat) := [(0, .aload_n 0, 1), (1, .getfield 17, 3), (4, .aload_n 0, 1), (5, .getfield 13, 3), (8, .if_icmp .lt 4, 3), (11, .return_, 1), (12, .aload_n 0, 1), (13, .getfield 17, 3), (16, .aload_n 0, 1), (17, .getfield 9, 3), (20, .arraylength, 1), (21, .if_icmp .ne 62, 3), (24, .aload_n 0, 1), (25, .getfield 9, 3), (28, .arraylength, 1), (29, .iconst 2, 1), (30, .imul, 1), (31, .newarray .byte, 2), (33, .astore_n 2, 1), (34, .iconst 0, 1), (35, .istore_n 3, 1), (36, .iload_n 3, 1), (37, .aload_n 0, 1), (38, .getfield 9, 3), (41, .arraylength, 1), (42, .if_icmp .ge 31, 3), (45, .aload_n 2, 1), (46, .iload_n 3, 1), (47, .aload_n 0, 1), (48, .getfield 9, 3), (51, .aload_n 0, 1), (52, .getfield 20, 3), (55, .iload_n 3, 1), (56, .iadd, 1), (57, .aload_n 0, 1), (58, .getfield 9, 3), (61, .arraylength, 1), (62, .iconst 1, 1), (63, .isub, 1), (64, .iand, 1), (65, .baload, 1), (66, .bastore, 1), (67, .iinc 3 1, 3), (70, .goto (-34), 3), (73, .aload_n 0, 1), (74, .aload_n 2, 1), (75, .putfield 9, 3), (78, .aload_n 0, 1), (79, .iconst 0, 1), (80, .putfield 20, 3), (83, .aload_n 0, 1), (84, .getfield 9, 3), (87, .aload_n 0, 1), (88, .getfield 20, 3), (91, .aload_n 0, 1), (92, .getfield 17, 3), (95, .iadd, 1), (96, .aload_n 0, 1), (97, .getfield 9, 3), (100, .arraylength, 1), (101, .iconst 1, 1), (102, .isub, 1), (103, .iand, 1), (104, .iload_n 1, 1), (105, .i2b, 1), (106, .bastore, 1), (107, .aload_n 0, 1), (108, .dup, 1), (109, .getfield 17, 3), (112, .iconst 1, 1), (113, .iadd, 1), (114, .putfield 17, 3), (117, .return_, 1)]
theorem da_X2_append_o1 : dkL cX2_append dl_X2_append_o1 = true := by decide +kernel
def f_X2_append_o1_b83 (x1 : Int32) (u : St) : Option (St × Nat) := if inB (((gI u 1) + (gI u 2)) &&& ((Int32.ofNat (gN u 0)) - (1 : Int32))) (gN u 0) then (some ((sI (sA u 0 (((gI u 1) + (gI u 2)) &&& ((Int32.ofNat (gN u 0)) - (1 : Int32))).toNatClampNeg (vp_nar .byte x1.toInt8.toInt32)) 2 ((gI (sA u 0 (((gI u 1) + (gI u 2)) &&& ((Int32.ofNat (gN u 0)) - (1 : Int32))).toNatClampNeg (vp_nar .byte x1.toInt8.toInt32)) 2) + (1 : Int32))), 0)) else none
set_option maxRecDepth 100000 in
set_option maxHeartbeats 4000000 in
theorem b_X2_append_o1_b83 {p : Program} {l : Launch} {e : Env} {s : State} {m : MethodId} {args : Array Value} {below : List Frame} {meth : Method} {c : Code} {D : va_G} {cy : ClassId × ClassId × ClassId} {ad : Nat → Nat} {A : Nat → Prop} {K : Nat} (E : CallFix p m c cX2_append 4 s args gw RX2) (hr : meth.sig.returnType = none) (hlk : meth.locks = false) {x1 : Int32} {u : St} {u' : St} {k' : Nat} (h : f_X2_append_o1_b83 x1 u = some (u', k')) {ls : Array Slot} {H : Heap} {locs : List Loc} {rr : Nat → Nat} {cells : Nat} (hc : cells + k' ≤ K) (hl : lv_has ls 4 [(0, .ref (ad 1)), (1, .int x1)]) (w : WX (wC cy ad) D cy rr u A s H locs) : Wx (wC cy ad) D p l e 0 0 K s m args below meth c A u' none H locs cells 83 ls [] := by
  have hx := E.1
  have hb := E.2.1
  have hown := E.2.2.2.1
  have hts := E.2.2.2.2
  refine lv_aload_n hx hb (dq da_X2_append_o1 50 rfl) rfl (lv_at hl 0 rfl) ?_
  refine gt_wC_1_row E w w_36 (dq da_X2_append_o1 51 rfl) ?_
  refine lv_aload_n hx hb (dq da_X2_append_o1 52 rfl) rfl (lv_at hl 0 rfl) ?_
  refine gt_wC_1_first E w w_37 (dq da_X2_append_o1 53 rfl) ?_
  refine lv_aload_n hx hb (dq da_X2_append_o1 54 rfl) rfl (lv_at hl 0 rfl) ?_
  refine gt_wC_1_count E w w_38 (dq da_X2_append_o1 55 rfl) ?_
  refine lv_iadd hx hb (dq da_X2_append_o1 56 rfl) ?_
  refine lv_aload_n hx hb (dq da_X2_append_o1 57 rfl) rfl (lv_at hl 0 rfl) ?_
  refine gt_wC_1_row E w w_36 (dq da_X2_append_o1 58 rfl) ?_
  refine aln_wC_2 E w (dq da_X2_append_o1 59 rfl) ?_
  refine lv_iconst (v := 1) hx hb (dq da_X2_append_o1 60 rfl) rfl ?_
  refine lv_isub hx hb (dq da_X2_append_o1 61 rfl) ?_
  refine lv_iand hx hb (dq da_X2_append_o1 62 rfl) ?_
  refine lv_iload_n hx hb (dq da_X2_append_o1 63 rfl) rfl (lv_at hl 1 rfl) ?_
  refine lv_i2b (v := x1.toInt8.toInt32) hx hb (dq da_X2_append_o1 64 rfl) rfl ?_
  obtain ⟨hi3, h⟩ := oi h
  refine ast_wC_2 E w hi3 (dq da_X2_append_o1 65 rfl) (fun H locs w => ?_)
  refine lv_aload_n hx hb (dq da_X2_append_o1 66 rfl) rfl (lv_at hl 0 rfl) ?_
  refine lv_dup hx hb (dq da_X2_append_o1 67 rfl) rfl ?_
  refine gt_wC_1_count E w w_38 (dq da_X2_append_o1 68 rfl) ?_
  refine lv_iconst (v := 1) hx hb (dq da_X2_append_o1 69 rfl) rfl ?_
  refine lv_iadd hx hb (dq da_X2_append_o1 70 rfl) ?_
  refine pt_wC_1_count E w w_38 (dq da_X2_append_o1 71 rfl) (fun H locs w => ?_)
  exact xret_v E hr hlk w (Nat.le_of_add_right_le hc) (congrArg Prod.fst (os h)) (dq da_X2_append_o1 72 rfl)
def f_X2_append_o1_b36_s (k36 : Int32 → Int32 → St → Option (St × Nat)) (x1 : Int32) (x3 : Int32) (u : St) : Option (St × Nat) := if (Int32.ofNat (gN u 0)) ≤ x3 then (f_X2_append_o1_b83 x1 (sI (sR u 0 0 (gN u 8) (gA u 6)) 1 (0 : Int32))) else (if inB (((gI u 1) + x3) &&& ((Int32.ofNat (gN u 0)) - (1 : Int32))) (gN u 0) then (if inB x3 (gN u 8) then (k36 x1 (x3 + (1 : Int32)) (sA u 6 x3.toNatClampNeg (vp_nar .byte (gA u 0 (((gI u 1) + x3) &&& ((Int32.ofNat (gN u 0)) - (1 : Int32))).toNatClampNeg)))) else none) else none)
set_option maxRecDepth 100000 in
set_option maxHeartbeats 4000000 in
theorem b_X2_append_o1_b36_s {p : Program} {l : Launch} {e : Env} {s : State} {m : MethodId} {args : Array Value} {below : List Frame} {meth : Method} {c : Code} {D : va_G} {cy : ClassId × ClassId × ClassId} {ad : Nat → Nat} {A : Nat → Prop} {K : Nat} (E : CallFix p m c cX2_append 4 s args gw RX2) (hr : meth.sig.returnType = none) (hlk : meth.locks = false) {k36 : Int32 → Int32 → St → Option (St × Nat)} (hk36 : ∀ (x1 : Int32) (x3 : Int32) (u : St) (u' : St) (k' : Nat), k36 x1 x3 u = some (u', k') → ∀ (ls : Array Slot) (H : Heap) (locs : List Loc) (rr : Nat → Nat) (cells : Nat), cells + k' ≤ K → lv_has ls 4 [(0, .ref (ad 1)), (1, .int x1), (2, .ref (rr 20)), (3, .int x3)] → WX (wC2 cy ad) D cy rr u A s H locs → Wx (wC cy ad) D p l e 0 0 K s m args below meth c A u' none H locs cells 36 ls []) {x1 : Int32} {x3 : Int32} {u : St} {u' : St} {k' : Nat} (h : f_X2_append_o1_b36_s k36 x1 x3 u = some (u', k')) {ls : Array Slot} {H : Heap} {locs : List Loc} {rr : Nat → Nat} {cells : Nat} (hc : cells + k' ≤ K) (hl : lv_has ls 4 [(0, .ref (ad 1)), (1, .int x1), (2, .ref (rr 20)), (3, .int x3)]) (w : WX (wC2 cy ad) D cy rr u A s H locs) : Wx (wC cy ad) D p l e 0 0 K s m args below meth c A u' none H locs cells 36 ls [] := by
  have hx := E.1
  have hb := E.2.1
  have hown := E.2.2.2.1
  have hts := E.2.2.2.2
  refine lv_iload_n hx hb (dq da_X2_append_o1 21 rfl) rfl (lv_at hl 3 rfl) ?_
  refine lv_aload_n hx hb (dq da_X2_append_o1 22 rfl) rfl (lv_at hl 0 rfl) ?_
  refine gt_wC2_1_row E w w_36 (dq da_X2_append_o1 23 rfl) ?_
  refine aln_wC2_2 E w (dq da_X2_append_o1 24 rfl) ?_
  refine lv_icmp_ge (tgt := 73) hx hb (dq da_X2_append_o1 25 rfl) (by decide) (fun c7 => ?_) (fun c7 => ?_)
  · have h := it c7 h
    refine lv_aload_n hx hb (dq da_X2_append_o1 44 rfl) rfl (lv_at hl 0 rfl) ?_
    refine lv_aload_n hx hb (dq da_X2_append_o1 45 rfl) rfl (lv_at hl 2 rfl) ?_
    refine ptR_1 E w w_36 (dq da_X2_append_o1 46 rfl) (fun H locs rr w => ?_)
    refine lv_aload_n hx hb (dq da_X2_append_o1 47 rfl) rfl (lv_at hl 0 rfl) ?_
    refine lv_iconst (v := 0) hx hb (dq da_X2_append_o1 48 rfl) rfl ?_
    refine pt_wC_1_first E w w_37 (dq da_X2_append_o1 49 rfl) (fun H locs w => ?_)
    exact b_X2_append_o1_b83 E hr hlk h hc (lv_sub hl [0, 1] rfl) w
  · have h := ie c7 h
    refine lv_aload_n hx hb (dq da_X2_append_o1 26 rfl) rfl (lv_at hl 2 rfl) ?_
    refine lv_iload_n hx hb (dq da_X2_append_o1 27 rfl) rfl (lv_at hl 3 rfl) ?_
    refine lv_aload_n hx hb (dq da_X2_append_o1 28 rfl) rfl (lv_at hl 0 rfl) ?_
    refine gt_wC2_1_row E w w_36 (dq da_X2_append_o1 29 rfl) ?_
    refine lv_aload_n hx hb (dq da_X2_append_o1 30 rfl) rfl (lv_at hl 0 rfl) ?_
    refine gt_wC2_1_first E w w_37 (dq da_X2_append_o1 31 rfl) ?_
    refine lv_iload_n hx hb (dq da_X2_append_o1 32 rfl) rfl (lv_at hl 3 rfl) ?_
    refine lv_iadd hx hb (dq da_X2_append_o1 33 rfl) ?_
    refine lv_aload_n hx hb (dq da_X2_append_o1 34 rfl) rfl (lv_at hl 0 rfl) ?_
    refine gt_wC2_1_row E w w_36 (dq da_X2_append_o1 35 rfl) ?_
    refine aln_wC2_2 E w (dq da_X2_append_o1 36 rfl) ?_
    refine lv_iconst (v := 1) hx hb (dq da_X2_append_o1 37 rfl) rfl ?_
    refine lv_isub hx hb (dq da_X2_append_o1 38 rfl) ?_
    refine lv_iand hx hb (dq da_X2_append_o1 39 rfl) ?_
    obtain ⟨hi8, h⟩ := oi h
    refine ald_wC2_2 E w hi8 (dq da_X2_append_o1 40 rfl) ?_
    obtain ⟨hi9, h⟩ := oi h
    refine ast_wC2_20 E w hi9 (dq da_X2_append_o1 41 rfl) (fun H locs w => ?_)
    refine lv_iinc (v := (x3 + (1 : Int32))) (lv' := [(3, .int (x3 + (1 : Int32))), (0, .ref (ad 1)), (1, .int x1), (2, .ref (rr 20))]) hx hb (dq da_X2_append_o1 42 rfl) hl (k := 3) rfl rfl (by decide) rfl (fun ls hl => ?_)
    refine lv_goto (tgt := 36) hx hb (dq da_X2_append_o1 43 rfl) (by decide) ?_
    exact hk36 _ _ _ _ _ h ls _ _ _ _ hc (lv_sub hl [1, 2, 3, 0] rfl) w
def f_X2_append_o1_b36 : Nat → Int32 → Int32 → St → Option (St × Nat)
  | 0 => fun _ _ _ => none
  | n + 1 => f_X2_append_o1_b36_s (f_X2_append_o1_b36 n)
theorem b_X2_append_o1_b36 {p : Program} {l : Launch} {e : Env} {s : State} {m : MethodId} {args : Array Value} {below : List Frame} {meth : Method} {c : Code} {D : va_G} {cy : ClassId × ClassId × ClassId} {ad : Nat → Nat} {A : Nat → Prop} {K : Nat} (E : CallFix p m c cX2_append 4 s args gw RX2) (hr : meth.sig.returnType = none) (hlk : meth.locks = false) : ∀ n : Nat, ∀ (x1 : Int32) (x3 : Int32) (u : St) (u' : St) (k' : Nat), f_X2_append_o1_b36 n x1 x3 u = some (u', k') → ∀ (ls : Array Slot) (H : Heap) (locs : List Loc) (rr : Nat → Nat) (cells : Nat), cells + k' ≤ K → lv_has ls 4 [(0, .ref (ad 1)), (1, .int x1), (2, .ref (rr 20)), (3, .int x3)] → WX (wC2 cy ad) D cy rr u A s H locs → Wx (wC cy ad) D p l e 0 0 K s m args below meth c A u' none H locs cells 36 ls [] := by
  intro n
  induction n with
  | zero => intro x1 x3 u u' k' h; cases h
  | succ n ih => intro x1 x3 u u' k' h ls H locs rr cells hc hl w; exact b_X2_append_o1_b36_s E hr hlk ih h hc hl w
def f_X2_append_o1 (x1 : Int32) (u : St) : Option (St × Nat) := if (gI u 2) < (gI u 0) then (if (gI u 2) = (Int32.ofNat (gN u 0)) then (if ¬ ((Int32.ofNat (gN u 0)) * (2 : Int32)) < 0 ∧ ((Int32.ofNat (gN u 0)) * (2 : Int32)).toNatClampNeg ≤ 1000000 then ak0 (((Int32.ofNat (gN u 0)) * (2 : Int32)).toNatClampNeg + 1) (f_X2_append_o1_b36 FU x1 (0 : Int32) (sR u 6 8 ((Int32.ofNat (gN u 0)) * (2 : Int32)).toNatClampNeg (fun _ => 0))) else none) else (f_X2_append_o1_b83 x1 u)) else (some (u, 0))
set_option maxRecDepth 100000 in
set_option maxHeartbeats 4000000 in
theorem c_X2_append_o1 (l : Launch) (D : va_G) (cy : ClassId × ClassId × ClassId) (ad : Nat → Nat) (x1 : Int32) (u : St) {u' : St} {k' : Nat} (h : f_X2_append_o1 x1 u = some (u', k')) : MX (wC cy ad) D cy l yX2_append cX2_append 4 (none) 0 0 k' [.ref (ad 1), .int x1] u u' none := by
  refine entX (by decide +kernel) (Nat.le_of_ble_eq_true rfl) ?_
  intro p e s m args below meth c ls rr A E hr hlk hl w
  have hl : lv_has ls 4 [(0, .ref (ad 1)), (1, .int x1)] := hl
  have hc : 0 + k' ≤ k' := Nat.le_of_eq (Nat.zero_add k')
  have hx := E.1
  have hb := E.2.1
  have hown := E.2.2.2.1
  have hts := E.2.2.2.2
  refine lv_aload_n hx hb (dq da_X2_append_o1 0 rfl) rfl (lv_at hl 0 rfl) ?_
  refine gt_wC_1_count E w w_38 (dq da_X2_append_o1 1 rfl) ?_
  refine lv_aload_n hx hb (dq da_X2_append_o1 2 rfl) rfl (lv_at hl 0 rfl) ?_
  refine gt_wC_1_limit E w w_35 (dq da_X2_append_o1 3 rfl) ?_
  refine lv_icmp_lt (tgt := 12) hx hb (dq da_X2_append_o1 4 rfl) (by decide) (fun c1 => ?_) (fun c1 => ?_)
  · have h := it c1 h
    refine lv_aload_n hx hb (dq da_X2_append_o1 6 rfl) rfl (lv_at hl 0 rfl) ?_
    refine gt_wC_1_count E w w_38 (dq da_X2_append_o1 7 rfl) ?_
    refine lv_aload_n hx hb (dq da_X2_append_o1 8 rfl) rfl (lv_at hl 0 rfl) ?_
    refine gt_wC_1_row E w w_36 (dq da_X2_append_o1 9 rfl) ?_
    refine aln_wC_2 E w (dq da_X2_append_o1 10 rfl) ?_
    refine lv_icmp_ne (tgt := 83) hx hb (dq da_X2_append_o1 11 rfl) (by decide) (fun c2 => ?_) (fun c2 => ?_)
    · have h := ie c2 h
      exact b_X2_append_o1_b83 E hr hlk h hc (lv_sub hl [0, 1] rfl) w
    · have h := it c2 h
      refine lv_aload_n hx hb (dq da_X2_append_o1 12 rfl) rfl (lv_at hl 0 rfl) ?_
      refine gt_wC_1_row E w w_36 (dq da_X2_append_o1 13 rfl) ?_
      refine aln_wC_2 E w (dq da_X2_append_o1 14 rfl) ?_
      refine lv_iconst (v := 2) hx hb (dq da_X2_append_o1 15 rfl) rfl ?_
      refine lv_imul hx hb (dq da_X2_append_o1 16 rfl) ?_
      obtain ⟨hn4, h⟩ := oi h
      obtain ⟨k5, h, hk6⟩ := ak0_of h
      refine nwB E w w_arrB hn4.1 hn4.2 (hcb hc hk6) (dq da_X2_append_o1 17 rfl) (fun H rr w => ?_)
      have hc := hcd hc hk6
      refine lv_astore_n (lv' := [(2, .ref (rr 20)), (0, .ref (ad 1)), (1, .int x1)]) hx hb (dq da_X2_append_o1 18 rfl) rfl hl (by decide) rfl (fun ls hl => ?_)
      refine lv_iconst (v := 0) hx hb (dq da_X2_append_o1 19 rfl) rfl ?_
      refine lv_istore_n (lv' := [(3, .int (0 : Int32)), (2, .ref (rr 20)), (0, .ref (ad 1)), (1, .int x1)]) hx hb (dq da_X2_append_o1 20 rfl) rfl hl (by decide) rfl (fun ls hl => ?_)
      exact b_X2_append_o1_b36 E hr hlk FU _ _ _ _ _ h ls _ _ _ _ hc (lv_sub hl [2, 3, 1, 0] rfl) w
  · have h := ie c1 h
    exact xret_v E hr hlk w (Nat.le_of_add_right_le hc) (congrArg Prod.fst (os h)) (dq da_X2_append_o1 5 rfl)
def dl_X2_append_o11 : List (Nat × Instr × Nat) := [(0, .aload_n 0, 1), (1, .getfield 17, 3), (4, .aload_n 0, 1), (5, .getfield 13, 3), (8, .if_icmp .lt 4, 3), (11, .return_, 1), (12, .aload_n 0, 1), (13, .getfield 17, 3), (16, .aload_n 0, 1), (17, .getfield 9, 3), (20, .arraylength, 1), (21, .if_icmp .ne 62, 3), (24, .aload_n 0, 1), (25, .getfield 9, 3), (28, .arraylength, 1), (29, .iconst 2, 1), (30, .imul, 1), (31, .newarray .byte, 2), (33, .astore_n 2, 1), (34, .iconst 0, 1), (35, .istore_n 3, 1), (36, .iload_n 3, 1), (37, .aload_n 0, 1), (38, .getfield 9, 3), (41, .arraylength, 1), (42, .if_icmp .ge 31, 3), (45, .aload_n 2, 1), (46, .iload_n 3, 1), (47, .aload_n 0, 1), (48, .getfield 9, 3), (51, .aload_n 0, 1), (52, .getfield 20, 3), (55, .iload_n 3, 1), (56, .iadd, 1), (57, .aload_n 0, 1), (58, .getfield 9, 3), (61, .arraylength, 1), (62, .iconst 1, 1), (63, .isub, 1), (64, .iand, 1), (65, .baload, 1), (66, .bastore, 1), (67, .iinc 3 1, 3), (70, .goto (-34), 3), (73, .aload_n 0, 1), (74, .aload_n 2, 1), (75, .putfield 9, 3), (78, .aload_n 0, 1), (79, .iconst 0, 1), (80, .putfield 20, 3), (83, .aload_n 0, 1), (84, .getfield 9, 3), (87, .aload_n 0, 1), (88, .getfield 20, 3), (91, .aload_n 0, 1), (92, .getfield 17, 3), (95, .iadd, 1), (96, .aload_n 0, 1), (97, .getfield 9, 3), (100, .arraylength, 1), (101, .iconst 1, 1), (102, .isub, 1), (103, .iand, 1), (104, .iload_n 1, 1), (105, .i2b, 1), (106, .bastore, 1), (107, .aload_n 0, 1), (108, .dup, 1), (109, .getfield 17, 3), (112, .iconst 1, 1), (113, .iadd, 1), (114, .putfield 17, 3), (117, .return_, 1)]
theorem da_X2_append_o11 : dkL cX2_append dl_X2_append_o11 = true := by decide +kernel
def f_X2_append_o11_b83 (x1 : Int32) (u : St) : Option (St × Nat) := if inB (((gI u 11) + (gI u 12)) &&& ((Int32.ofNat (gN u 5)) - (1 : Int32))) (gN u 5) then (some ((sI (sA u 4 (((gI u 11) + (gI u 12)) &&& ((Int32.ofNat (gN u 5)) - (1 : Int32))).toNatClampNeg (vp_nar .byte x1.toInt8.toInt32)) 12 ((gI (sA u 4 (((gI u 11) + (gI u 12)) &&& ((Int32.ofNat (gN u 5)) - (1 : Int32))).toNatClampNeg (vp_nar .byte x1.toInt8.toInt32)) 12) + (1 : Int32))), 0)) else none
set_option maxRecDepth 100000 in
set_option maxHeartbeats 4000000 in
theorem b_X2_append_o11_b83 {p : Program} {l : Launch} {e : Env} {s : State} {m : MethodId} {args : Array Value} {below : List Frame} {meth : Method} {c : Code} {D : va_G} {cy : ClassId × ClassId × ClassId} {ad : Nat → Nat} {A : Nat → Prop} {K : Nat} (E : CallFix p m c cX2_append 4 s args gw RX2) (hr : meth.sig.returnType = none) (hlk : meth.locks = false) {x1 : Int32} {u : St} {u' : St} {k' : Nat} (h : f_X2_append_o11_b83 x1 u = some (u', k')) {ls : Array Slot} {H : Heap} {locs : List Loc} {rr : Nat → Nat} {cells : Nat} (hc : cells + k' ≤ K) (hl : lv_has ls 4 [(0, .ref (ad 11)), (1, .int x1)]) (w : WX (wC cy ad) D cy rr u A s H locs) : Wx (wC cy ad) D p l e 0 0 K s m args below meth c A u' none H locs cells 83 ls [] := by
  have hx := E.1
  have hb := E.2.1
  have hown := E.2.2.2.1
  have hts := E.2.2.2.2
  refine lv_aload_n hx hb (dq da_X2_append_o11 50 rfl) rfl (lv_at hl 0 rfl) ?_
  refine gt_wC_11_row E w w_36 (dq da_X2_append_o11 51 rfl) ?_
  refine lv_aload_n hx hb (dq da_X2_append_o11 52 rfl) rfl (lv_at hl 0 rfl) ?_
  refine gt_wC_11_first E w w_37 (dq da_X2_append_o11 53 rfl) ?_
  refine lv_aload_n hx hb (dq da_X2_append_o11 54 rfl) rfl (lv_at hl 0 rfl) ?_
  refine gt_wC_11_count E w w_38 (dq da_X2_append_o11 55 rfl) ?_
  refine lv_iadd hx hb (dq da_X2_append_o11 56 rfl) ?_
  refine lv_aload_n hx hb (dq da_X2_append_o11 57 rfl) rfl (lv_at hl 0 rfl) ?_
  refine gt_wC_11_row E w w_36 (dq da_X2_append_o11 58 rfl) ?_
  refine aln_wC_12 E w (dq da_X2_append_o11 59 rfl) ?_
  refine lv_iconst (v := 1) hx hb (dq da_X2_append_o11 60 rfl) rfl ?_
  refine lv_isub hx hb (dq da_X2_append_o11 61 rfl) ?_
  refine lv_iand hx hb (dq da_X2_append_o11 62 rfl) ?_
  refine lv_iload_n hx hb (dq da_X2_append_o11 63 rfl) rfl (lv_at hl 1 rfl) ?_
  refine lv_i2b (v := x1.toInt8.toInt32) hx hb (dq da_X2_append_o11 64 rfl) rfl ?_
  obtain ⟨hi3, h⟩ := oi h
  refine ast_wC_12 E w hi3 (dq da_X2_append_o11 65 rfl) (fun H locs w => ?_)
  refine lv_aload_n hx hb (dq da_X2_append_o11 66 rfl) rfl (lv_at hl 0 rfl) ?_
  refine lv_dup hx hb (dq da_X2_append_o11 67 rfl) rfl ?_
  refine gt_wC_11_count E w w_38 (dq da_X2_append_o11 68 rfl) ?_
  refine lv_iconst (v := 1) hx hb (dq da_X2_append_o11 69 rfl) rfl ?_
  refine lv_iadd hx hb (dq da_X2_append_o11 70 rfl) ?_
  refine pt_wC_11_count E w w_38 (dq da_X2_append_o11 71 rfl) (fun H locs w => ?_)
  exact xret_v E hr hlk w (Nat.le_of_add_right_le hc) (congrArg Prod.fst (os h)) (dq da_X2_append_o11 72 rfl)
def f_X2_append_o11_b36_s (k36 : Int32 → Int32 → St → Option (St × Nat)) (x1 : Int32) (x3 : Int32) (u : St) : Option (St × Nat) := if (Int32.ofNat (gN u 5)) ≤ x3 then (f_X2_append_o11_b83 x1 (sI (sR u 4 5 (gN u 8) (gA u 6)) 11 (0 : Int32))) else (if inB (((gI u 11) + x3) &&& ((Int32.ofNat (gN u 5)) - (1 : Int32))) (gN u 5) then (if inB x3 (gN u 8) then (k36 x1 (x3 + (1 : Int32)) (sA u 6 x3.toNatClampNeg (vp_nar .byte (gA u 4 (((gI u 11) + x3) &&& ((Int32.ofNat (gN u 5)) - (1 : Int32))).toNatClampNeg)))) else none) else none)
set_option maxRecDepth 100000 in
set_option maxHeartbeats 4000000 in
theorem b_X2_append_o11_b36_s {p : Program} {l : Launch} {e : Env} {s : State} {m : MethodId} {args : Array Value} {below : List Frame} {meth : Method} {c : Code} {D : va_G} {cy : ClassId × ClassId × ClassId} {ad : Nat → Nat} {A : Nat → Prop} {K : Nat} (E : CallFix p m c cX2_append 4 s args gw RX2) (hr : meth.sig.returnType = none) (hlk : meth.locks = false) {k36 : Int32 → Int32 → St → Option (St × Nat)} (hk36 : ∀ (x1 : Int32) (x3 : Int32) (u : St) (u' : St) (k' : Nat), k36 x1 x3 u = some (u', k') → ∀ (ls : Array Slot) (H : Heap) (locs : List Loc) (rr : Nat → Nat) (cells : Nat), cells + k' ≤ K → lv_has ls 4 [(0, .ref (ad 11)), (1, .int x1), (2, .ref (rr 20)), (3, .int x3)] → WX (wC2 cy ad) D cy rr u A s H locs → Wx (wC cy ad) D p l e 0 0 K s m args below meth c A u' none H locs cells 36 ls []) {x1 : Int32} {x3 : Int32} {u : St} {u' : St} {k' : Nat} (h : f_X2_append_o11_b36_s k36 x1 x3 u = some (u', k')) {ls : Array Slot} {H : Heap} {locs : List Loc} {rr : Nat → Nat} {cells : Nat} (hc : cells + k' ≤ K) (hl : lv_has ls 4 [(0, .ref (ad 11)), (1, .int x1), (2, .ref (rr 20)), (3, .int x3)]) (w : WX (wC2 cy ad) D cy rr u A s H locs) : Wx (wC cy ad) D p l e 0 0 K s m args below meth c A u' none H locs cells 36 ls [] := by
  have hx := E.1
  have hb := E.2.1
  have hown := E.2.2.2.1
  have hts := E.2.2.2.2
  refine lv_iload_n hx hb (dq da_X2_append_o11 21 rfl) rfl (lv_at hl 3 rfl) ?_
  refine lv_aload_n hx hb (dq da_X2_append_o11 22 rfl) rfl (lv_at hl 0 rfl) ?_
  refine gt_wC2_11_row E w w_36 (dq da_X2_append_o11 23 rfl) ?_
  refine aln_wC2_12 E w (dq da_X2_append_o11 24 rfl) ?_
  refine lv_icmp_ge (tgt := 73) hx hb (dq da_X2_append_o11 25 rfl) (by decide) (fun c7 => ?_) (fun c7 => ?_)
  · have h := it c7 h
    refine lv_aload_n hx hb (dq da_X2_append_o11 44 rfl) rfl (lv_at hl 0 rfl) ?_
    refine lv_aload_n hx hb (dq da_X2_append_o11 45 rfl) rfl (lv_at hl 2 rfl) ?_
    refine ptR_11 E w w_36 (dq da_X2_append_o11 46 rfl) (fun H locs rr w => ?_)
    refine lv_aload_n hx hb (dq da_X2_append_o11 47 rfl) rfl (lv_at hl 0 rfl) ?_
    refine lv_iconst (v := 0) hx hb (dq da_X2_append_o11 48 rfl) rfl ?_
    refine pt_wC_11_first E w w_37 (dq da_X2_append_o11 49 rfl) (fun H locs w => ?_)
    exact b_X2_append_o11_b83 E hr hlk h hc (lv_sub hl [0, 1] rfl) w
  · have h := ie c7 h
    refine lv_aload_n hx hb (dq da_X2_append_o11 26 rfl) rfl (lv_at hl 2 rfl) ?_
    refine lv_iload_n hx hb (dq da_X2_append_o11 27 rfl) rfl (lv_at hl 3 rfl) ?_
    refine lv_aload_n hx hb (dq da_X2_append_o11 28 rfl) rfl (lv_at hl 0 rfl) ?_
    refine gt_wC2_11_row E w w_36 (dq da_X2_append_o11 29 rfl) ?_
    refine lv_aload_n hx hb (dq da_X2_append_o11 30 rfl) rfl (lv_at hl 0 rfl) ?_
    refine gt_wC2_11_first E w w_37 (dq da_X2_append_o11 31 rfl) ?_
    refine lv_iload_n hx hb (dq da_X2_append_o11 32 rfl) rfl (lv_at hl 3 rfl) ?_
    refine lv_iadd hx hb (dq da_X2_append_o11 33 rfl) ?_
    refine lv_aload_n hx hb (dq da_X2_append_o11 34 rfl) rfl (lv_at hl 0 rfl) ?_
    refine gt_wC2_11_row E w w_36 (dq da_X2_append_o11 35 rfl) ?_
    refine aln_wC2_12 E w (dq da_X2_append_o11 36 rfl) ?_
    refine lv_iconst (v := 1) hx hb (dq da_X2_append_o11 37 rfl) rfl ?_
    refine lv_isub hx hb (dq da_X2_append_o11 38 rfl) ?_
    refine lv_iand hx hb (dq da_X2_append_o11 39 rfl) ?_
    obtain ⟨hi8, h⟩ := oi h
    refine ald_wC2_12 E w hi8 (dq da_X2_append_o11 40 rfl) ?_
    obtain ⟨hi9, h⟩ := oi h
    refine ast_wC2_20 E w hi9 (dq da_X2_append_o11 41 rfl) (fun H locs w => ?_)
    refine lv_iinc (v := (x3 + (1 : Int32))) (lv' := [(3, .int (x3 + (1 : Int32))), (0, .ref (ad 11)), (1, .int x1), (2, .ref (rr 20))]) hx hb (dq da_X2_append_o11 42 rfl) hl (k := 3) rfl rfl (by decide) rfl (fun ls hl => ?_)
    refine lv_goto (tgt := 36) hx hb (dq da_X2_append_o11 43 rfl) (by decide) ?_
    exact hk36 _ _ _ _ _ h ls _ _ _ _ hc (lv_sub hl [1, 2, 3, 0] rfl) w
def f_X2_append_o11_b36 : Nat → Int32 → Int32 → St → Option (St × Nat)
  | 0 => fun _ _ _ => none
  | n + 1 => f_X2_append_o11_b36_s (f_X2_append_o11_b36 n)
theorem b_X2_append_o11_b36 {p : Program} {l : Launch} {e : Env} {s : State} {m : MethodId} {args : Array Value} {below : List Frame} {meth : Method} {c : Code} {D : va_G} {cy : ClassId × ClassId × ClassId} {ad : Nat → Nat} {A : Nat → Prop} {K : Nat} (E : CallFix p m c cX2_append 4 s args gw RX2) (hr : meth.sig.returnType = none) (hlk : meth.locks = false) : ∀ n : Nat, ∀ (x1 : Int32) (x3 : Int32) (u : St) (u' : St) (k' : Nat), f_X2_append_o11_b36 n x1 x3 u = some (u', k') → ∀ (ls : Array Slot) (H : Heap) (locs : List Loc) (rr : Nat → Nat) (cells : Nat), cells + k' ≤ K → lv_has ls 4 [(0, .ref (ad 11)), (1, .int x1), (2, .ref (rr 20)), (3, .int x3)] → WX (wC2 cy ad) D cy rr u A s H locs → Wx (wC cy ad) D p l e 0 0 K s m args below meth c A u' none H locs cells 36 ls [] := by
  intro n
  induction n with
  | zero => intro x1 x3 u u' k' h; cases h
  | succ n ih => intro x1 x3 u u' k' h ls H locs rr cells hc hl w; exact b_X2_append_o11_b36_s E hr hlk ih h hc hl w
def f_X2_append_o11 (x1 : Int32) (u : St) : Option (St × Nat) := if (gI u 12) < (gI u 10) then (if (gI u 12) = (Int32.ofNat (gN u 5)) then (if ¬ ((Int32.ofNat (gN u 5)) * (2 : Int32)) < 0 ∧ ((Int32.ofNat (gN u 5)) * (2 : Int32)).toNatClampNeg ≤ 1000000 then ak0 (((Int32.ofNat (gN u 5)) * (2 : Int32)).toNatClampNeg + 1) (f_X2_append_o11_b36 FU x1 (0 : Int32) (sR u 6 8 ((Int32.ofNat (gN u 5)) * (2 : Int32)).toNatClampNeg (fun _ => 0))) else none) else (f_X2_append_o11_b83 x1 u)) else (some (u, 0))
set_option maxRecDepth 100000 in
set_option maxHeartbeats 4000000 in
theorem c_X2_append_o11 (l : Launch) (D : va_G) (cy : ClassId × ClassId × ClassId) (ad : Nat → Nat) (x1 : Int32) (u : St) {u' : St} {k' : Nat} (h : f_X2_append_o11 x1 u = some (u', k')) : MX (wC cy ad) D cy l yX2_append cX2_append 4 (none) 0 0 k' [.ref (ad 11), .int x1] u u' none := by
  refine entX (by decide +kernel) (Nat.le_of_ble_eq_true rfl) ?_
  intro p e s m args below meth c ls rr A E hr hlk hl w
  have hl : lv_has ls 4 [(0, .ref (ad 11)), (1, .int x1)] := hl
  have hc : 0 + k' ≤ k' := Nat.le_of_eq (Nat.zero_add k')
  have hx := E.1
  have hb := E.2.1
  have hown := E.2.2.2.1
  have hts := E.2.2.2.2
  refine lv_aload_n hx hb (dq da_X2_append_o11 0 rfl) rfl (lv_at hl 0 rfl) ?_
  refine gt_wC_11_count E w w_38 (dq da_X2_append_o11 1 rfl) ?_
  refine lv_aload_n hx hb (dq da_X2_append_o11 2 rfl) rfl (lv_at hl 0 rfl) ?_
  refine gt_wC_11_limit E w w_35 (dq da_X2_append_o11 3 rfl) ?_
  refine lv_icmp_lt (tgt := 12) hx hb (dq da_X2_append_o11 4 rfl) (by decide) (fun c1 => ?_) (fun c1 => ?_)
  · have h := it c1 h
    refine lv_aload_n hx hb (dq da_X2_append_o11 6 rfl) rfl (lv_at hl 0 rfl) ?_
    refine gt_wC_11_count E w w_38 (dq da_X2_append_o11 7 rfl) ?_
    refine lv_aload_n hx hb (dq da_X2_append_o11 8 rfl) rfl (lv_at hl 0 rfl) ?_
    refine gt_wC_11_row E w w_36 (dq da_X2_append_o11 9 rfl) ?_
    refine aln_wC_12 E w (dq da_X2_append_o11 10 rfl) ?_
    refine lv_icmp_ne (tgt := 83) hx hb (dq da_X2_append_o11 11 rfl) (by decide) (fun c2 => ?_) (fun c2 => ?_)
    · have h := ie c2 h
      exact b_X2_append_o11_b83 E hr hlk h hc (lv_sub hl [0, 1] rfl) w
    · have h := it c2 h
      refine lv_aload_n hx hb (dq da_X2_append_o11 12 rfl) rfl (lv_at hl 0 rfl) ?_
      refine gt_wC_11_row E w w_36 (dq da_X2_append_o11 13 rfl) ?_
      refine aln_wC_12 E w (dq da_X2_append_o11 14 rfl) ?_
      refine lv_iconst (v := 2) hx hb (dq da_X2_append_o11 15 rfl) rfl ?_
      refine lv_imul hx hb (dq da_X2_append_o11 16 rfl) ?_
      obtain ⟨hn4, h⟩ := oi h
      obtain ⟨k5, h, hk6⟩ := ak0_of h
      refine nwB E w w_arrB hn4.1 hn4.2 (hcb hc hk6) (dq da_X2_append_o11 17 rfl) (fun H rr w => ?_)
      have hc := hcd hc hk6
      refine lv_astore_n (lv' := [(2, .ref (rr 20)), (0, .ref (ad 11)), (1, .int x1)]) hx hb (dq da_X2_append_o11 18 rfl) rfl hl (by decide) rfl (fun ls hl => ?_)
      refine lv_iconst (v := 0) hx hb (dq da_X2_append_o11 19 rfl) rfl ?_
      refine lv_istore_n (lv' := [(3, .int (0 : Int32)), (2, .ref (rr 20)), (0, .ref (ad 11)), (1, .int x1)]) hx hb (dq da_X2_append_o11 20 rfl) rfl hl (by decide) rfl (fun ls hl => ?_)
      exact b_X2_append_o11_b36 E hr hlk FU _ _ _ _ _ h ls _ _ _ _ hc (lv_sub hl [2, 3, 1, 0] rfl) w
  · have h := ie c1 h
    exact xret_v E hr hlk w (Nat.le_of_add_right_le hc) (congrArg Prod.fst (os h)) (dq da_X2_append_o11 5 rfl)
def dl_X2_append_o13 : List (Nat × Instr × Nat) := [(0, .aload_n 0, 1), (1, .getfield 17, 3), (4, .aload_n 0, 1), (5, .getfield 13, 3), (8, .if_icmp .lt 4, 3), (11, .return_, 1), (12, .aload_n 0, 1), (13, .getfield 17, 3), (16, .aload_n 0, 1), (17, .getfield 9, 3), (20, .arraylength, 1), (21, .if_icmp .ne 62, 3), (24, .aload_n 0, 1), (25, .getfield 9, 3), (28, .arraylength, 1), (29, .iconst 2, 1), (30, .imul, 1), (31, .newarray .byte, 2), (33, .astore_n 2, 1), (34, .iconst 0, 1), (35, .istore_n 3, 1), (36, .iload_n 3, 1), (37, .aload_n 0, 1), (38, .getfield 9, 3), (41, .arraylength, 1), (42, .if_icmp .ge 31, 3), (45, .aload_n 2, 1), (46, .iload_n 3, 1), (47, .aload_n 0, 1), (48, .getfield 9, 3), (51, .aload_n 0, 1), (52, .getfield 20, 3), (55, .iload_n 3, 1), (56, .iadd, 1), (57, .aload_n 0, 1), (58, .getfield 9, 3), (61, .arraylength, 1), (62, .iconst 1, 1), (63, .isub, 1), (64, .iand, 1), (65, .baload, 1), (66, .bastore, 1), (67, .iinc 3 1, 3), (70, .goto (-34), 3), (73, .aload_n 0, 1), (74, .aload_n 2, 1), (75, .putfield 9, 3), (78, .aload_n 0, 1), (79, .iconst 0, 1), (80, .putfield 20, 3), (83, .aload_n 0, 1), (84, .getfield 9, 3), (87, .aload_n 0, 1), (88, .getfield 20, 3), (91, .aload_n 0, 1), (92, .getfield 17, 3), (95, .iadd, 1), (96, .aload_n 0, 1), (97, .getfield 9, 3), (100, .arraylength, 1), (101, .iconst 1, 1), (102, .isub, 1), (103, .iand, 1), (104, .iload_n 1, 1), (105, .i2b, 1), (106, .bastore, 1), (107, .aload_n 0, 1), (108, .dup, 1), (109, .getfield 17, 3), (112, .iconst 1, 1), (113, .iadd, 1), (114, .putfield 17, 3), (117, .return_, 1)]
theorem da_X2_append_o13 : dkL cX2_append dl_X2_append_o13 = true := by decide +kernel
def f_X2_append_o13_b83 (x1 : Int32) (u : St) : Option (St × Nat) := if inB (((gI u 14) + (gI u 15)) &&& ((Int32.ofNat (gN u 6)) - (1 : Int32))) (gN u 6) then (some ((sI (sA u 5 (((gI u 14) + (gI u 15)) &&& ((Int32.ofNat (gN u 6)) - (1 : Int32))).toNatClampNeg (vp_nar .byte x1.toInt8.toInt32)) 15 ((gI (sA u 5 (((gI u 14) + (gI u 15)) &&& ((Int32.ofNat (gN u 6)) - (1 : Int32))).toNatClampNeg (vp_nar .byte x1.toInt8.toInt32)) 15) + (1 : Int32))), 0)) else none
set_option maxRecDepth 100000 in
set_option maxHeartbeats 4000000 in
theorem b_X2_append_o13_b83 {p : Program} {l : Launch} {e : Env} {s : State} {m : MethodId} {args : Array Value} {below : List Frame} {meth : Method} {c : Code} {D : va_G} {cy : ClassId × ClassId × ClassId} {ad : Nat → Nat} {A : Nat → Prop} {K : Nat} (E : CallFix p m c cX2_append 4 s args gw RX2) (hr : meth.sig.returnType = none) (hlk : meth.locks = false) {x1 : Int32} {u : St} {u' : St} {k' : Nat} (h : f_X2_append_o13_b83 x1 u = some (u', k')) {ls : Array Slot} {H : Heap} {locs : List Loc} {rr : Nat → Nat} {cells : Nat} (hc : cells + k' ≤ K) (hl : lv_has ls 4 [(0, .ref (ad 13)), (1, .int x1)]) (w : WX (wC cy ad) D cy rr u A s H locs) : Wx (wC cy ad) D p l e 0 0 K s m args below meth c A u' none H locs cells 83 ls [] := by
  have hx := E.1
  have hb := E.2.1
  have hown := E.2.2.2.1
  have hts := E.2.2.2.2
  refine lv_aload_n hx hb (dq da_X2_append_o13 50 rfl) rfl (lv_at hl 0 rfl) ?_
  refine gt_wC_13_row E w w_36 (dq da_X2_append_o13 51 rfl) ?_
  refine lv_aload_n hx hb (dq da_X2_append_o13 52 rfl) rfl (lv_at hl 0 rfl) ?_
  refine gt_wC_13_first E w w_37 (dq da_X2_append_o13 53 rfl) ?_
  refine lv_aload_n hx hb (dq da_X2_append_o13 54 rfl) rfl (lv_at hl 0 rfl) ?_
  refine gt_wC_13_count E w w_38 (dq da_X2_append_o13 55 rfl) ?_
  refine lv_iadd hx hb (dq da_X2_append_o13 56 rfl) ?_
  refine lv_aload_n hx hb (dq da_X2_append_o13 57 rfl) rfl (lv_at hl 0 rfl) ?_
  refine gt_wC_13_row E w w_36 (dq da_X2_append_o13 58 rfl) ?_
  refine aln_wC_14 E w (dq da_X2_append_o13 59 rfl) ?_
  refine lv_iconst (v := 1) hx hb (dq da_X2_append_o13 60 rfl) rfl ?_
  refine lv_isub hx hb (dq da_X2_append_o13 61 rfl) ?_
  refine lv_iand hx hb (dq da_X2_append_o13 62 rfl) ?_
  refine lv_iload_n hx hb (dq da_X2_append_o13 63 rfl) rfl (lv_at hl 1 rfl) ?_
  refine lv_i2b (v := x1.toInt8.toInt32) hx hb (dq da_X2_append_o13 64 rfl) rfl ?_
  obtain ⟨hi3, h⟩ := oi h
  refine ast_wC_14 E w hi3 (dq da_X2_append_o13 65 rfl) (fun H locs w => ?_)
  refine lv_aload_n hx hb (dq da_X2_append_o13 66 rfl) rfl (lv_at hl 0 rfl) ?_
  refine lv_dup hx hb (dq da_X2_append_o13 67 rfl) rfl ?_
  refine gt_wC_13_count E w w_38 (dq da_X2_append_o13 68 rfl) ?_
  refine lv_iconst (v := 1) hx hb (dq da_X2_append_o13 69 rfl) rfl ?_
  refine lv_iadd hx hb (dq da_X2_append_o13 70 rfl) ?_
  refine pt_wC_13_count E w w_38 (dq da_X2_append_o13 71 rfl) (fun H locs w => ?_)
  exact xret_v E hr hlk w (Nat.le_of_add_right_le hc) (congrArg Prod.fst (os h)) (dq da_X2_append_o13 72 rfl)
def f_X2_append_o13_b36_s (k36 : Int32 → Int32 → St → Option (St × Nat)) (x1 : Int32) (x3 : Int32) (u : St) : Option (St × Nat) := if (Int32.ofNat (gN u 6)) ≤ x3 then (f_X2_append_o13_b83 x1 (sI (sR u 5 6 (gN u 8) (gA u 6)) 14 (0 : Int32))) else (if inB (((gI u 14) + x3) &&& ((Int32.ofNat (gN u 6)) - (1 : Int32))) (gN u 6) then (if inB x3 (gN u 8) then (k36 x1 (x3 + (1 : Int32)) (sA u 6 x3.toNatClampNeg (vp_nar .byte (gA u 5 (((gI u 14) + x3) &&& ((Int32.ofNat (gN u 6)) - (1 : Int32))).toNatClampNeg)))) else none) else none)
set_option maxRecDepth 100000 in
set_option maxHeartbeats 4000000 in
theorem b_X2_append_o13_b36_s {p : Program} {l : Launch} {e : Env} {s : State} {m : MethodId} {args : Array Value} {below : List Frame} {meth : Method} {c : Code} {D : va_G} {cy : ClassId × ClassId × ClassId} {ad : Nat → Nat} {A : Nat → Prop} {K : Nat} (E : CallFix p m c cX2_append 4 s args gw RX2) (hr : meth.sig.returnType = none) (hlk : meth.locks = false) {k36 : Int32 → Int32 → St → Option (St × Nat)} (hk36 : ∀ (x1 : Int32) (x3 : Int32) (u : St) (u' : St) (k' : Nat), k36 x1 x3 u = some (u', k') → ∀ (ls : Array Slot) (H : Heap) (locs : List Loc) (rr : Nat → Nat) (cells : Nat), cells + k' ≤ K → lv_has ls 4 [(0, .ref (ad 13)), (1, .int x1), (2, .ref (rr 20)), (3, .int x3)] → WX (wC2 cy ad) D cy rr u A s H locs → Wx (wC cy ad) D p l e 0 0 K s m args below meth c A u' none H locs cells 36 ls []) {x1 : Int32} {x3 : Int32} {u : St} {u' : St} {k' : Nat} (h : f_X2_append_o13_b36_s k36 x1 x3 u = some (u', k')) {ls : Array Slot} {H : Heap} {locs : List Loc} {rr : Nat → Nat} {cells : Nat} (hc : cells + k' ≤ K) (hl : lv_has ls 4 [(0, .ref (ad 13)), (1, .int x1), (2, .ref (rr 20)), (3, .int x3)]) (w : WX (wC2 cy ad) D cy rr u A s H locs) : Wx (wC cy ad) D p l e 0 0 K s m args below meth c A u' none H locs cells 36 ls [] := by
  have hx := E.1
  have hb := E.2.1
  have hown := E.2.2.2.1
  have hts := E.2.2.2.2
  refine lv_iload_n hx hb (dq da_X2_append_o13 21 rfl) rfl (lv_at hl 3 rfl) ?_
  refine lv_aload_n hx hb (dq da_X2_append_o13 22 rfl) rfl (lv_at hl 0 rfl) ?_
  refine gt_wC2_13_row E w w_36 (dq da_X2_append_o13 23 rfl) ?_
  refine aln_wC2_14 E w (dq da_X2_append_o13 24 rfl) ?_
  refine lv_icmp_ge (tgt := 73) hx hb (dq da_X2_append_o13 25 rfl) (by decide) (fun c7 => ?_) (fun c7 => ?_)
  · have h := it c7 h
    refine lv_aload_n hx hb (dq da_X2_append_o13 44 rfl) rfl (lv_at hl 0 rfl) ?_
    refine lv_aload_n hx hb (dq da_X2_append_o13 45 rfl) rfl (lv_at hl 2 rfl) ?_
    refine ptR_13 E w w_36 (dq da_X2_append_o13 46 rfl) (fun H locs rr w => ?_)
    refine lv_aload_n hx hb (dq da_X2_append_o13 47 rfl) rfl (lv_at hl 0 rfl) ?_
    refine lv_iconst (v := 0) hx hb (dq da_X2_append_o13 48 rfl) rfl ?_
    refine pt_wC_13_first E w w_37 (dq da_X2_append_o13 49 rfl) (fun H locs w => ?_)
    exact b_X2_append_o13_b83 E hr hlk h hc (lv_sub hl [0, 1] rfl) w
  · have h := ie c7 h
    refine lv_aload_n hx hb (dq da_X2_append_o13 26 rfl) rfl (lv_at hl 2 rfl) ?_
    refine lv_iload_n hx hb (dq da_X2_append_o13 27 rfl) rfl (lv_at hl 3 rfl) ?_
    refine lv_aload_n hx hb (dq da_X2_append_o13 28 rfl) rfl (lv_at hl 0 rfl) ?_
    refine gt_wC2_13_row E w w_36 (dq da_X2_append_o13 29 rfl) ?_
    refine lv_aload_n hx hb (dq da_X2_append_o13 30 rfl) rfl (lv_at hl 0 rfl) ?_
    refine gt_wC2_13_first E w w_37 (dq da_X2_append_o13 31 rfl) ?_
    refine lv_iload_n hx hb (dq da_X2_append_o13 32 rfl) rfl (lv_at hl 3 rfl) ?_
    refine lv_iadd hx hb (dq da_X2_append_o13 33 rfl) ?_
    refine lv_aload_n hx hb (dq da_X2_append_o13 34 rfl) rfl (lv_at hl 0 rfl) ?_
    refine gt_wC2_13_row E w w_36 (dq da_X2_append_o13 35 rfl) ?_
    refine aln_wC2_14 E w (dq da_X2_append_o13 36 rfl) ?_
    refine lv_iconst (v := 1) hx hb (dq da_X2_append_o13 37 rfl) rfl ?_
    refine lv_isub hx hb (dq da_X2_append_o13 38 rfl) ?_
    refine lv_iand hx hb (dq da_X2_append_o13 39 rfl) ?_
    obtain ⟨hi8, h⟩ := oi h
    refine ald_wC2_14 E w hi8 (dq da_X2_append_o13 40 rfl) ?_
    obtain ⟨hi9, h⟩ := oi h
    refine ast_wC2_20 E w hi9 (dq da_X2_append_o13 41 rfl) (fun H locs w => ?_)
    refine lv_iinc (v := (x3 + (1 : Int32))) (lv' := [(3, .int (x3 + (1 : Int32))), (0, .ref (ad 13)), (1, .int x1), (2, .ref (rr 20))]) hx hb (dq da_X2_append_o13 42 rfl) hl (k := 3) rfl rfl (by decide) rfl (fun ls hl => ?_)
    refine lv_goto (tgt := 36) hx hb (dq da_X2_append_o13 43 rfl) (by decide) ?_
    exact hk36 _ _ _ _ _ h ls _ _ _ _ hc (lv_sub hl [1, 2, 3, 0] rfl) w
def f_X2_append_o13_b36 : Nat → Int32 → Int32 → St → Option (St × Nat)
  | 0 => fun _ _ _ => none
  | n + 1 => f_X2_append_o13_b36_s (f_X2_append_o13_b36 n)
theorem b_X2_append_o13_b36 {p : Program} {l : Launch} {e : Env} {s : State} {m : MethodId} {args : Array Value} {below : List Frame} {meth : Method} {c : Code} {D : va_G} {cy : ClassId × ClassId × ClassId} {ad : Nat → Nat} {A : Nat → Prop} {K : Nat} (E : CallFix p m c cX2_append 4 s args gw RX2) (hr : meth.sig.returnType = none) (hlk : meth.locks = false) : ∀ n : Nat, ∀ (x1 : Int32) (x3 : Int32) (u : St) (u' : St) (k' : Nat), f_X2_append_o13_b36 n x1 x3 u = some (u', k') → ∀ (ls : Array Slot) (H : Heap) (locs : List Loc) (rr : Nat → Nat) (cells : Nat), cells + k' ≤ K → lv_has ls 4 [(0, .ref (ad 13)), (1, .int x1), (2, .ref (rr 20)), (3, .int x3)] → WX (wC2 cy ad) D cy rr u A s H locs → Wx (wC cy ad) D p l e 0 0 K s m args below meth c A u' none H locs cells 36 ls [] := by
  intro n
  induction n with
  | zero => intro x1 x3 u u' k' h; cases h
  | succ n ih => intro x1 x3 u u' k' h ls H locs rr cells hc hl w; exact b_X2_append_o13_b36_s E hr hlk ih h hc hl w
def f_X2_append_o13 (x1 : Int32) (u : St) : Option (St × Nat) := if (gI u 15) < (gI u 13) then (if (gI u 15) = (Int32.ofNat (gN u 6)) then (if ¬ ((Int32.ofNat (gN u 6)) * (2 : Int32)) < 0 ∧ ((Int32.ofNat (gN u 6)) * (2 : Int32)).toNatClampNeg ≤ 1000000 then ak0 (((Int32.ofNat (gN u 6)) * (2 : Int32)).toNatClampNeg + 1) (f_X2_append_o13_b36 FU x1 (0 : Int32) (sR u 6 8 ((Int32.ofNat (gN u 6)) * (2 : Int32)).toNatClampNeg (fun _ => 0))) else none) else (f_X2_append_o13_b83 x1 u)) else (some (u, 0))
set_option maxRecDepth 100000 in
set_option maxHeartbeats 4000000 in
theorem c_X2_append_o13 (l : Launch) (D : va_G) (cy : ClassId × ClassId × ClassId) (ad : Nat → Nat) (x1 : Int32) (u : St) {u' : St} {k' : Nat} (h : f_X2_append_o13 x1 u = some (u', k')) : MX (wC cy ad) D cy l yX2_append cX2_append 4 (none) 0 0 k' [.ref (ad 13), .int x1] u u' none := by
  refine entX (by decide +kernel) (Nat.le_of_ble_eq_true rfl) ?_
  intro p e s m args below meth c ls rr A E hr hlk hl w
  have hl : lv_has ls 4 [(0, .ref (ad 13)), (1, .int x1)] := hl
  have hc : 0 + k' ≤ k' := Nat.le_of_eq (Nat.zero_add k')
  have hx := E.1
  have hb := E.2.1
  have hown := E.2.2.2.1
  have hts := E.2.2.2.2
  refine lv_aload_n hx hb (dq da_X2_append_o13 0 rfl) rfl (lv_at hl 0 rfl) ?_
  refine gt_wC_13_count E w w_38 (dq da_X2_append_o13 1 rfl) ?_
  refine lv_aload_n hx hb (dq da_X2_append_o13 2 rfl) rfl (lv_at hl 0 rfl) ?_
  refine gt_wC_13_limit E w w_35 (dq da_X2_append_o13 3 rfl) ?_
  refine lv_icmp_lt (tgt := 12) hx hb (dq da_X2_append_o13 4 rfl) (by decide) (fun c1 => ?_) (fun c1 => ?_)
  · have h := it c1 h
    refine lv_aload_n hx hb (dq da_X2_append_o13 6 rfl) rfl (lv_at hl 0 rfl) ?_
    refine gt_wC_13_count E w w_38 (dq da_X2_append_o13 7 rfl) ?_
    refine lv_aload_n hx hb (dq da_X2_append_o13 8 rfl) rfl (lv_at hl 0 rfl) ?_
    refine gt_wC_13_row E w w_36 (dq da_X2_append_o13 9 rfl) ?_
    refine aln_wC_14 E w (dq da_X2_append_o13 10 rfl) ?_
    refine lv_icmp_ne (tgt := 83) hx hb (dq da_X2_append_o13 11 rfl) (by decide) (fun c2 => ?_) (fun c2 => ?_)
    · have h := ie c2 h
      exact b_X2_append_o13_b83 E hr hlk h hc (lv_sub hl [0, 1] rfl) w
    · have h := it c2 h
      refine lv_aload_n hx hb (dq da_X2_append_o13 12 rfl) rfl (lv_at hl 0 rfl) ?_
      refine gt_wC_13_row E w w_36 (dq da_X2_append_o13 13 rfl) ?_
      refine aln_wC_14 E w (dq da_X2_append_o13 14 rfl) ?_
      refine lv_iconst (v := 2) hx hb (dq da_X2_append_o13 15 rfl) rfl ?_
      refine lv_imul hx hb (dq da_X2_append_o13 16 rfl) ?_
      obtain ⟨hn4, h⟩ := oi h
      obtain ⟨k5, h, hk6⟩ := ak0_of h
      refine nwB E w w_arrB hn4.1 hn4.2 (hcb hc hk6) (dq da_X2_append_o13 17 rfl) (fun H rr w => ?_)
      have hc := hcd hc hk6
      refine lv_astore_n (lv' := [(2, .ref (rr 20)), (0, .ref (ad 13)), (1, .int x1)]) hx hb (dq da_X2_append_o13 18 rfl) rfl hl (by decide) rfl (fun ls hl => ?_)
      refine lv_iconst (v := 0) hx hb (dq da_X2_append_o13 19 rfl) rfl ?_
      refine lv_istore_n (lv' := [(3, .int (0 : Int32)), (2, .ref (rr 20)), (0, .ref (ad 13)), (1, .int x1)]) hx hb (dq da_X2_append_o13 20 rfl) rfl hl (by decide) rfl (fun ls hl => ?_)
      exact b_X2_append_o13_b36 E hr hlk FU _ _ _ _ _ h ls _ _ _ _ hc (lv_sub hl [2, 3, 1, 0] rfl) w
  · have h := ie c1 h
    exact xret_v E hr hlk w (Nat.le_of_add_right_le hc) (congrArg Prod.fst (os h)) (dq da_X2_append_o13 5 rfl)
def dl_X8_write : List (Nat × Instr × Nat) := [(0, .iload_n 1, 1), (1, .ifCond .ne 14, 3), (4, .aload_n 0, 1), (5, .getfield 21, 3), (8, .iload_n 2, 1), (9, .invokevirtual 39, 3), (12, .goto 17, 3), (15, .iload_n 1, 1), (16, .iconst 1, 1), (17, .if_icmp .ne 12, 3), (20, .aload_n 0, 1), (21, .iload_n 2, 1), (22, .sipush 255, 3), (25, .iand, 1), (26, .putfield 28, 3), (29, .return_, 1)]
theorem da_X8_write : dkL cX8_write dl_X8_write = true := by decide +kernel
def f_X8_write (x1 : Int32) (x2 : Int32) (u : St) : Option (St × Nat) := if x1 = (0 : Int32) then ((f_X2_append_o13 x2 u).bind (fun y3 => ak0 y3.2 (some (y3.1, 0)))) else (if x1 = (1 : Int32) then (some ((sI u 9 (x2 &&& (255 : Int32))), 0)) else (some (u, 0)))
set_option maxRecDepth 100000 in
set_option maxHeartbeats 4000000 in
theorem c_X8_write (l : Launch) (D : va_G) (cy : ClassId × ClassId × ClassId) (ad : Nat → Nat) (x1 : Int32) (x2 : Int32) (u : St) {u' : St} {k' : Nat} (h : f_X8_write x1 x2 u = some (u', k')) : MX (wC cy ad) D cy l yX8_write cX8_write 3 (none) 1 23 k' [.ref (ad 10), .int x1, .int x2] u u' none := by
  refine entX (by decide +kernel) (Nat.le_of_ble_eq_true rfl) ?_
  intro p e s m args below meth c ls rr A E hr hlk hl w
  have hl : lv_has ls 3 [(0, .ref (ad 10)), (1, .int x1), (2, .int x2)] := hl
  have hc : 0 + k' ≤ k' := Nat.le_of_eq (Nat.zero_add k')
  have hx := E.1
  have hb := E.2.1
  have hown := E.2.2.2.1
  have hts := E.2.2.2.2
  refine lv_iload_n hx hb (dq da_X8_write 0 rfl) rfl (lv_at hl 1 rfl) ?_
  refine lv_if_ne (tgt := 15) hx hb (dq da_X8_write 1 rfl) (by decide) (fun c1 => ?_) (fun c1 => ?_)
  · have h := ie c1 h
    refine lv_iload_n hx hb (dq da_X8_write 7 rfl) rfl (lv_at hl 1 rfl) ?_
    refine lv_iconst (v := 1) hx hb (dq da_X8_write 8 rfl) rfl ?_
    refine lv_icmp_ne (tgt := 29) hx hb (dq da_X8_write 9 rfl) (by decide) (fun c2 => ?_) (fun c2 => ?_)
    · have h := ie c2 h
      exact xret_v E hr hlk w (Nat.le_of_add_right_le hc) (congrArg Prod.fst (os h)) (dq da_X8_write 15 rfl)
    · have h := it c2 h
      refine lv_aload_n hx hb (dq da_X8_write 10 rfl) rfl (lv_at hl 0 rfl) ?_
      refine lv_iload_n hx hb (dq da_X8_write 11 rfl) rfl (lv_at hl 2 rfl) ?_
      refine lv_sipush (v := 255) hx hb (dq da_X8_write 12 rfl) rfl ?_
      refine lv_iand hx hb (dq da_X8_write 13 rfl) ?_
      refine pt_wC_10_enable E w w_111 (dq da_X8_write 14 rfl) (fun H locs w => ?_)
      exact xret_v E hr hlk w (Nat.le_of_add_right_le hc) (congrArg Prod.fst (os h)) (dq da_X8_write 15 rfl)
  · have h := it c1 h
    refine lv_aload_n hx hb (dq da_X8_write 2 rfl) rfl (lv_at hl 0 rfl) ?_
    refine gt_wC_10_output E w w_109 (dq da_X8_write 3 rfl) ?_
    refine lv_iload_n hx hb (dq da_X8_write 4 rfl) rfl (lv_at hl 2 rfl) ?_
    obtain ⟨y3, hy4, h⟩ := ob h
    obtain ⟨k5, h, hk6⟩ := ak0_of h
    refine cV0k E (c_X2_append_o13 l D cy ad _ _ hy4) w_929 w_469 w_470 w_2 w_471 rfl hd_X2_append rfl hl.1 rfl (Nat.le_of_ble_eq_true rfl) ⟨Nat.le_of_ble_eq_true rfl, Nat.le_of_ble_eq_true rfl⟩ (hcb hc hk6) w (rc_wC_13 w) (dq da_X8_write 5 rfl) (fun H locs rr w => ?_)
    have hc := hcd hc hk6
    refine lv_goto (tgt := 29) hx hb (dq da_X8_write 6 rfl) (by decide) ?_
    exact xret_v E hr hlk w (Nat.le_of_add_right_le hc) (congrArg Prod.fst (os h)) (dq da_X8_write 15 rfl)
def dl_X1_write : List (Nat × Instr × Nat) := [(0, .aload_n 0, 1), (1, .iconst 0, 1), (2, .putfield 35, 3), (5, .aload_n 0, 1), (6, .getfield 31, 3), (9, .lload_n 1, 1), (10, .iload_n 3, 1), (11, .invokevirtual 39, 3), (14, .istore 6, 2), (16, .iload 6, 2), (18, .iconst (-1), 1), (19, .if_icmp .eq 49, 3), (22, .aload_n 0, 1), (23, .getfield 31, 3), (26, .iload 6, 2), (28, .iload_n 3, 1), (29, .lload 4, 2), (31, .invokevirtual 79, 3), (34, .lload_n 1, 1), (35, .aload_n 0, 1), (36, .getfield 83, 3), (39, .aload_n 0, 1), (40, .getfield 86, 3), (43, .i2l, 1), (44, .ladd, 1), (45, .lcmp, 1), (46, .ifCond .ge 191, 3), (49, .aload_n 0, 1), (50, .getfield 83, 3), (53, .lload_n 1, 1), (54, .iload_n 3, 1), (55, .i2l, 1), (56, .ladd, 1), (57, .lcmp, 1), (58, .ifCond .ge 179, 3), (61, .aload_n 0, 1), (62, .invokevirtual 90, 3), (65, .goto 172, 3), (68, .iload_n 3, 1), (69, .iconst 1, 1), (70, .if_icmp .ne 33, 3), (73, .lload_n 1, 1), (74, .ldc2_w 49, 3), (77, .land, 1), (78, .ldc2_w 51, 3), (81, .lcmp, 1), (82, .ifCond .ne 21, 3), (85, .aload_n 0, 1), (86, .getfield 21, 3), (89, .lload_n 1, 1), (90, .l2i, 1), (91, .bipush 7, 2), (93, .iand, 1), (94, .lload 4, 2), (96, .l2i, 1), (97, .invokevirtual 93, 3), (100, .goto 137, 3), (103, .iload_n 3, 1), (104, .iconst 4, 1), (105, .if_icmp .ne 33, 3), (108, .lload_n 1, 1), (109, .ldc2_w 56, 3), (112, .lsub, 1), (113, .invokestatic 58, 3), (116, .ifCond .eq 22, 3), (119, .aload_n 0, 1), (120, .getfield 12, 3), (123, .lload_n 1, 1), (124, .ldc2_w 56, 3), (127, .lsub, 1), (128, .l2i, 1), (129, .lload 4, 2), (131, .l2i, 1), (132, .invokevirtual 96, 3), (135, .goto 102, 3), (138, .iload_n 3, 1), (139, .iconst 4, 1), (140, .if_icmp .ne 22, 3), (143, .lload_n 1, 1), (144, .ldc2_w 63, 3), (147, .lcmp, 1), (148, .ifCond .ne 14, 3), (151, .aload_n 0, 1), (152, .lload 4, 2), (154, .lconst 1, 1), (155, .land, 1), (156, .putfield 65, 3), (159, .goto 78, 3), (162, .iload_n 3, 1), (163, .iconst 4, 1), (164, .if_icmp .lt 33, 3), (167, .lload_n 1, 1), (168, .ldc2_w 49, 3), (171, .land, 1), (172, .ldc2_w 68, 3), (175, .lcmp, 1), (176, .ifCond .ne 21, 3), (179, .aload_n 0, 1), (180, .aload_n 0, 1), (181, .getfield 27, 3), (184, .lload_n 1, 1), (185, .iload_n 3, 1), (186, .lload 4, 2), (188, .invokestatic 97, 3), (191, .putfield 27, 3), (194, .goto 43, 3), (197, .iload_n 3, 1), (198, .iconst 4, 1), (199, .if_icmp .lt 33, 3), (202, .lload_n 1, 1), (203, .ldc2_w 49, 3), (206, .land, 1), (207, .ldc2_w 74, 3), (210, .lcmp, 1), (211, .ifCond .ne 21, 3), (214, .aload_n 0, 1), (215, .aload_n 0, 1), (216, .getfield 76, 3), (219, .lload_n 1, 1), (220, .iload_n 3, 1), (221, .lload 4, 2), (223, .invokestatic 97, 3), (226, .putfield 76, 3), (229, .goto 8, 3), (232, .aload_n 0, 1), (233, .iconst 1, 1), (234, .putfield 35, 3), (237, .return_, 1)]
theorem da_X1_write : dkL cX1_write dl_X1_write = true := by decide +kernel
def f_X1_write_b232 (u : St) : Option (St × Nat) := some ((sI u 3 (1 : Int32)), 0)
set_option maxRecDepth 100000 in
set_option maxHeartbeats 4000000 in
theorem b_X1_write_b232 {p : Program} {l : Launch} {e : Env} {s : State} {m : MethodId} {args : Array Value} {below : List Frame} {meth : Method} {c : Code} {D : va_G} {cy : ClassId × ClassId × ClassId} {ad : Nat → Nat} {A : Nat → Prop} {K : Nat} (E : CallFix p m c cX1_write 7 s args gw RX1) (hr : meth.sig.returnType = none) (hlk : meth.locks = false) {u : St} {u' : St} {k' : Nat} (h : f_X1_write_b232 u = some (u', k')) {ls : Array Slot} {H : Heap} {locs : List Loc} {rr : Nat → Nat} {cells : Nat} (hc : cells + k' ≤ K) (hl : lv_has ls 7 [(0, .ref (ad 3))]) (w : WX (wC cy ad) D cy rr u A s H locs) : Wx (wC cy ad) D p l e 2 45 K s m args below meth c A u' none H locs cells 232 ls [] := by
  have hx := E.1
  have hb := E.2.1
  have hown := E.2.2.2.1
  have hts := E.2.2.2.2
  refine lv_aload_n hx hb (dq da_X1_write 124 rfl) rfl (lv_at hl 0 rfl) ?_
  refine lv_iconst (v := 1) hx hb (dq da_X1_write 125 rfl) rfl ?_
  refine pt_wC_3_failed E w w_135 rfl (by decide +kernel) (dq da_X1_write 126 rfl) (fun H locs w => ?_)
  exact xret_v E hr hlk w (Nat.le_of_add_right_le hc) (congrArg Prod.fst (os h)) (dq da_X1_write 127 rfl)
def f_X1_write_b197 (x1 : Int64) (x3 : Int32) (x4 : Int64) (u : St) : Option (St × Nat) := if x3 < (4 : Int32) then (f_X1_write_b232 u) else (if (x1 &&& (-8 : Int64)) = (33603576 : Int64) then (some ((sL u 2 (f_X1_withPart (gL u 2) x1 x3 x4)), 0)) else (f_X1_write_b232 u))
set_option maxRecDepth 100000 in
set_option maxHeartbeats 4000000 in
theorem b_X1_write_b197 {p : Program} {l : Launch} {e : Env} {s : State} {m : MethodId} {args : Array Value} {below : List Frame} {meth : Method} {c : Code} {D : va_G} {cy : ClassId × ClassId × ClassId} {ad : Nat → Nat} {A : Nat → Prop} {K : Nat} (E : CallFix p m c cX1_write 7 s args gw RX1) (hr : meth.sig.returnType = none) (hlk : meth.locks = false) {x1 : Int64} {x3 : Int32} {x4 : Int64} {u : St} {u' : St} {k' : Nat} (h : f_X1_write_b197 x1 x3 x4 u = some (u', k')) {ls : Array Slot} {H : Heap} {locs : List Loc} {rr : Nat → Nat} {cells : Nat} (hc : cells + k' ≤ K) (hl : lv_has ls 7 [(0, .ref (ad 3)), (1, .long x1), (3, .int x3), (4, .long x4)]) (w : WX (wC cy ad) D cy rr u A s H locs) : Wx (wC cy ad) D p l e 2 45 K s m args below meth c A u' none H locs cells 197 ls [] := by
  have hx := E.1
  have hb := E.2.1
  have hown := E.2.2.2.1
  have hts := E.2.2.2.2
  refine lv_iload_n hx hb (dq da_X1_write 106 rfl) rfl (lv_at hl 2 rfl) ?_
  refine lv_iconst (v := 4) hx hb (dq da_X1_write 107 rfl) rfl ?_
  refine lv_icmp_lt (tgt := 232) hx hb (dq da_X1_write 108 rfl) (by decide) (fun c6 => ?_) (fun c6 => ?_)
  · have h := it c6 h
    exact b_X1_write_b232 E hr hlk h hc (lv_sub hl [0] rfl) w
  · have h := ie c6 h
    refine lv_lload_n hx hb (dq da_X1_write 109 rfl) rfl (lv_at hl 1 rfl) ?_
    refine lv_ldc2 hx hb hown (hts _ w_871) (dq da_X1_write 110 rfl) ?_
    refine lv_land hx hb (dq da_X1_write 111 rfl) ?_
    refine lv_ldc2 hx hb hown (hts _ w_911) (dq da_X1_write 112 rfl) ?_
    refine lc_ne (tgt := 232) hx hb (dq da_X1_write 113 rfl) (dq da_X1_write 114 rfl) (by decide) (fun c7 => ?_) (fun c7 => ?_)
    · have h := ie c7 h
      exact b_X1_write_b232 E hr hlk h hc (lv_sub hl [0] rfl) w
    · have h := it c7 h
      refine lv_aload_n hx hb (dq da_X1_write 115 rfl) rfl (lv_at hl 0 rfl) ?_
      refine lv_aload_n hx hb (dq da_X1_write 116 rfl) rfl (lv_at hl 0 rfl) ?_
      refine gt_wC_3_time E w w_133 (dq da_X1_write 117 rfl) ?_
      refine lv_lload_n hx hb (dq da_X1_write 118 rfl) rfl (lv_at hl 1 rfl) ?_
      refine lv_iload_n hx hb (dq da_X1_write 119 rfl) rfl (lv_at hl 2 rfl) ?_
      refine lv_lload hx hb (dq da_X1_write 120 rfl) (lv_at hl 3 rfl) ?_
      refine callP E (c_X1_withPart l _ _ _ _ ) w_938 w_939 w_3 w_940 hd_X1_withPart rfl hl.1 rfl (Nat.le_of_ble_eq_true rfl) ⟨Nat.le_of_ble_eq_true rfl, Nat.le_of_ble_eq_true rfl⟩ (hcc hc) (dq da_X1_write 121 rfl) ?_
      refine pt_wC_3_time E w w_133 (dq da_X1_write 122 rfl) (fun H locs w => ?_)
      refine lv_goto (tgt := 237) hx hb (dq da_X1_write 123 rfl) (by decide) ?_
      exact xret_v E hr hlk w (Nat.le_of_add_right_le hc) (congrArg Prod.fst (os h)) (dq da_X1_write 127 rfl)
def f_X1_write_b162 (x1 : Int64) (x3 : Int32) (x4 : Int64) (u : St) : Option (St × Nat) := if x3 < (4 : Int32) then (f_X1_write_b197 x1 x3 x4 u) else (if (x1 &&& (-8 : Int64)) = (33570816 : Int64) then (some ((sL u 1 (f_X1_withPart (gL u 1) x1 x3 x4)), 0)) else (f_X1_write_b197 x1 x3 x4 u))
set_option maxRecDepth 100000 in
set_option maxHeartbeats 4000000 in
theorem b_X1_write_b162 {p : Program} {l : Launch} {e : Env} {s : State} {m : MethodId} {args : Array Value} {below : List Frame} {meth : Method} {c : Code} {D : va_G} {cy : ClassId × ClassId × ClassId} {ad : Nat → Nat} {A : Nat → Prop} {K : Nat} (E : CallFix p m c cX1_write 7 s args gw RX1) (hr : meth.sig.returnType = none) (hlk : meth.locks = false) {x1 : Int64} {x3 : Int32} {x4 : Int64} {u : St} {u' : St} {k' : Nat} (h : f_X1_write_b162 x1 x3 x4 u = some (u', k')) {ls : Array Slot} {H : Heap} {locs : List Loc} {rr : Nat → Nat} {cells : Nat} (hc : cells + k' ≤ K) (hl : lv_has ls 7 [(0, .ref (ad 3)), (1, .long x1), (3, .int x3), (4, .long x4)]) (w : WX (wC cy ad) D cy rr u A s H locs) : Wx (wC cy ad) D p l e 2 45 K s m args below meth c A u' none H locs cells 162 ls [] := by
  have hx := E.1
  have hb := E.2.1
  have hown := E.2.2.2.1
  have hts := E.2.2.2.2
  refine lv_iload_n hx hb (dq da_X1_write 88 rfl) rfl (lv_at hl 2 rfl) ?_
  refine lv_iconst (v := 4) hx hb (dq da_X1_write 89 rfl) rfl ?_
  refine lv_icmp_lt (tgt := 197) hx hb (dq da_X1_write 90 rfl) (by decide) (fun c5 => ?_) (fun c5 => ?_)
  · have h := it c5 h
    exact b_X1_write_b197 E hr hlk h hc (lv_sub hl [0, 1, 2, 3] rfl) w
  · have h := ie c5 h
    refine lv_lload_n hx hb (dq da_X1_write 91 rfl) rfl (lv_at hl 1 rfl) ?_
    refine lv_ldc2 hx hb hown (hts _ w_871) (dq da_X1_write 92 rfl) ?_
    refine lv_land hx hb (dq da_X1_write 93 rfl) ?_
    refine lv_ldc2 hx hb hown (hts _ w_906) (dq da_X1_write 94 rfl) ?_
    refine lc_ne (tgt := 197) hx hb (dq da_X1_write 95 rfl) (dq da_X1_write 96 rfl) (by decide) (fun c8 => ?_) (fun c8 => ?_)
    · have h := ie c8 h
      exact b_X1_write_b197 E hr hlk h hc (lv_sub hl [0, 1, 2, 3] rfl) w
    · have h := it c8 h
      refine lv_aload_n hx hb (dq da_X1_write 97 rfl) rfl (lv_at hl 0 rfl) ?_
      refine lv_aload_n hx hb (dq da_X1_write 98 rfl) rfl (lv_at hl 0 rfl) ?_
      refine gt_wC_3_compare E w w_130 (dq da_X1_write 99 rfl) ?_
      refine lv_lload_n hx hb (dq da_X1_write 100 rfl) rfl (lv_at hl 1 rfl) ?_
      refine lv_iload_n hx hb (dq da_X1_write 101 rfl) rfl (lv_at hl 2 rfl) ?_
      refine lv_lload hx hb (dq da_X1_write 102 rfl) (lv_at hl 3 rfl) ?_
      refine callP E (c_X1_withPart l _ _ _ _ ) w_938 w_939 w_3 w_940 hd_X1_withPart rfl hl.1 rfl (Nat.le_of_ble_eq_true rfl) ⟨Nat.le_of_ble_eq_true rfl, Nat.le_of_ble_eq_true rfl⟩ (hcc hc) (dq da_X1_write 103 rfl) ?_
      refine pt_wC_3_compare E w w_130 (dq da_X1_write 104 rfl) (fun H locs w => ?_)
      refine lv_goto (tgt := 237) hx hb (dq da_X1_write 105 rfl) (by decide) ?_
      exact xret_v E hr hlk w (Nat.le_of_add_right_le hc) (congrArg Prod.fst (os h)) (dq da_X1_write 127 rfl)
def f_X1_write_b138 (x1 : Int64) (x3 : Int32) (x4 : Int64) (u : St) : Option (St × Nat) := if x3 = (4 : Int32) then (if x1 = (33554432 : Int64) then (some ((sL u 0 (x4 &&& (1 : Int64))), 0)) else (f_X1_write_b162 x1 x3 x4 u)) else (f_X1_write_b162 x1 x3 x4 u)
set_option maxRecDepth 100000 in
set_option maxHeartbeats 4000000 in
theorem b_X1_write_b138 {p : Program} {l : Launch} {e : Env} {s : State} {m : MethodId} {args : Array Value} {below : List Frame} {meth : Method} {c : Code} {D : va_G} {cy : ClassId × ClassId × ClassId} {ad : Nat → Nat} {A : Nat → Prop} {K : Nat} (E : CallFix p m c cX1_write 7 s args gw RX1) (hr : meth.sig.returnType = none) (hlk : meth.locks = false) {x1 : Int64} {x3 : Int32} {x4 : Int64} {u : St} {u' : St} {k' : Nat} (h : f_X1_write_b138 x1 x3 x4 u = some (u', k')) {ls : Array Slot} {H : Heap} {locs : List Loc} {rr : Nat → Nat} {cells : Nat} (hc : cells + k' ≤ K) (hl : lv_has ls 7 [(0, .ref (ad 3)), (1, .long x1), (3, .int x3), (4, .long x4)]) (w : WX (wC cy ad) D cy rr u A s H locs) : Wx (wC cy ad) D p l e 2 45 K s m args below meth c A u' none H locs cells 138 ls [] := by
  have hx := E.1
  have hb := E.2.1
  have hown := E.2.2.2.1
  have hts := E.2.2.2.2
  refine lv_iload_n hx hb (dq da_X1_write 75 rfl) rfl (lv_at hl 2 rfl) ?_
  refine lv_iconst (v := 4) hx hb (dq da_X1_write 76 rfl) rfl ?_
  refine lv_icmp_ne (tgt := 162) hx hb (dq da_X1_write 77 rfl) (by decide) (fun c4 => ?_) (fun c4 => ?_)
  · have h := ie c4 h
    exact b_X1_write_b162 E hr hlk h hc (lv_sub hl [0, 1, 2, 3] rfl) w
  · have h := it c4 h
    refine lv_lload_n hx hb (dq da_X1_write 78 rfl) rfl (lv_at hl 1 rfl) ?_
    refine lv_ldc2 hx hb hown (hts _ w_905) (dq da_X1_write 79 rfl) ?_
    refine lc_ne (tgt := 162) hx hb (dq da_X1_write 80 rfl) (dq da_X1_write 81 rfl) (by decide) (fun c9 => ?_) (fun c9 => ?_)
    · have h := ie c9 h
      exact b_X1_write_b162 E hr hlk h hc (lv_sub hl [0, 1, 2, 3] rfl) w
    · have h := it c9 h
      refine lv_aload_n hx hb (dq da_X1_write 82 rfl) rfl (lv_at hl 0 rfl) ?_
      refine lv_lload hx hb (dq da_X1_write 83 rfl) (lv_at hl 3 rfl) ?_
      refine lv_lconst (v := 1) hx hb (dq da_X1_write 84 rfl) rfl ?_
      refine lv_land hx hb (dq da_X1_write 85 rfl) ?_
      refine pt_wC_3_soft E w w_128 (dq da_X1_write 86 rfl) (fun H locs w => ?_)
      refine lv_goto (tgt := 237) hx hb (dq da_X1_write 87 rfl) (by decide) ?_
      exact xret_v E hr hlk w (Nat.le_of_add_right_le hc) (congrArg Prod.fst (os h)) (dq da_X1_write 127 rfl)
def f_X1_write_b103 (x1 : Int64) (x3 : Int32) (x4 : Int64) (u : St) : Option (St × Nat) := if x3 = (4 : Int32) then (if (f_X3_has (x1 - (201326592 : Int64))) = (0 : Int32) then (f_X1_write_b138 x1 x3 x4 u) else ((f_X3_write ((x1 - (201326592 : Int64)).toInt32) x4.toInt32 u).bind (fun y11 => some (y11, 0)))) else (f_X1_write_b138 x1 x3 x4 u)
set_option maxRecDepth 100000 in
set_option maxHeartbeats 4000000 in
theorem b_X1_write_b103 {p : Program} {l : Launch} {e : Env} {s : State} {m : MethodId} {args : Array Value} {below : List Frame} {meth : Method} {c : Code} {D : va_G} {cy : ClassId × ClassId × ClassId} {ad : Nat → Nat} {A : Nat → Prop} {K : Nat} (E : CallFix p m c cX1_write 7 s args gw RX1) (hr : meth.sig.returnType = none) (hlk : meth.locks = false) {x1 : Int64} {x3 : Int32} {x4 : Int64} {u : St} {u' : St} {k' : Nat} (h : f_X1_write_b103 x1 x3 x4 u = some (u', k')) {ls : Array Slot} {H : Heap} {locs : List Loc} {rr : Nat → Nat} {cells : Nat} (hc : cells + k' ≤ K) (hl : lv_has ls 7 [(0, .ref (ad 3)), (1, .long x1), (3, .int x3), (4, .long x4)]) (w : WX (wC cy ad) D cy rr u A s H locs) : Wx (wC cy ad) D p l e 2 45 K s m args below meth c A u' none H locs cells 103 ls [] := by
  have hx := E.1
  have hb := E.2.1
  have hown := E.2.2.2.1
  have hts := E.2.2.2.2
  refine lv_iload_n hx hb (dq da_X1_write 57 rfl) rfl (lv_at hl 2 rfl) ?_
  refine lv_iconst (v := 4) hx hb (dq da_X1_write 58 rfl) rfl ?_
  refine lv_icmp_ne (tgt := 138) hx hb (dq da_X1_write 59 rfl) (by decide) (fun c3 => ?_) (fun c3 => ?_)
  · have h := ie c3 h
    exact b_X1_write_b138 E hr hlk h hc (lv_sub hl [0, 1, 2, 3] rfl) w
  · have h := it c3 h
    refine lv_lload_n hx hb (dq da_X1_write 60 rfl) rfl (lv_at hl 1 rfl) ?_
    refine lv_ldc2 hx hb hown (hts _ w_883) (dq da_X1_write 61 rfl) ?_
    refine lv_lsub hx hb (dq da_X1_write 62 rfl) ?_
    refine callP E (c_X3_has l _ ) w_884 w_885 w_5 w_886 hd_X3_has rfl hl.1 rfl (Nat.le_of_ble_eq_true rfl) ⟨Nat.le_of_ble_eq_true rfl, Nat.le_of_ble_eq_true rfl⟩ (hcc hc) (dq da_X1_write 63 rfl) ?_
    refine lv_if_eq (tgt := 138) hx hb (dq da_X1_write 64 rfl) (by decide) (fun c10 => ?_) (fun c10 => ?_)
    · have h := it c10 h
      exact b_X1_write_b138 E hr hlk h hc (lv_sub hl [0, 1, 2, 3] rfl) w
    · have h := ie c10 h
      refine lv_aload_n hx hb (dq da_X1_write 65 rfl) rfl (lv_at hl 0 rfl) ?_
      refine gt_wC_3_controller E w w_123 (dq da_X1_write 66 rfl) ?_
      refine lv_lload_n hx hb (dq da_X1_write 67 rfl) rfl (lv_at hl 1 rfl) ?_
      refine lv_ldc2 hx hb hown (hts _ w_883) (dq da_X1_write 68 rfl) ?_
      refine lv_lsub hx hb (dq da_X1_write 69 rfl) ?_
      refine lv_l2i (v := (x1 - (201326592 : Int64)).toInt32) hx hb (dq da_X1_write 70 rfl) rfl ?_
      refine lv_lload hx hb (dq da_X1_write 71 rfl) (lv_at hl 3 rfl) ?_
      refine lv_l2i (v := x4.toInt32) hx hb (dq da_X1_write 72 rfl) rfl ?_
      obtain ⟨y11, hy12, h⟩ := ob h
      refine cV0 E (c_X3_write l D cy ad _ _ _ hy12) w_930 w_931 w_932 w_5 w_933 rfl hd_X3_write rfl hl.1 rfl (Nat.le_of_ble_eq_true rfl) ⟨Nat.le_of_ble_eq_true rfl, Nat.le_of_ble_eq_true rfl⟩ (hcc hc) w (rc_wC_6 w) (dq da_X1_write 73 rfl) (fun H locs rr w => ?_)
      refine lv_goto (tgt := 237) hx hb (dq da_X1_write 74 rfl) (by decide) ?_
      exact xret_v E hr hlk w (Nat.le_of_add_right_le hc) (congrArg Prod.fst (os h)) (dq da_X1_write 127 rfl)
def f_X1_write (x1 : Int64) (x3 : Int32) (x4 : Int64) (u : St) : Option (St × Nat) := if (f_X10_place x1 x3 (sI u 3 (0 : Int32))) = (-1 : Int32) then (if x3 = (1 : Int32) then (if (x1 &&& (-8 : Int64)) = (268435456 : Int64) then ((f_X8_write (x1.toInt32 &&& (7 : Int32)) x4.toInt32 (sI u 3 (0 : Int32))).bind (fun y14 => ak0 y14.2 (some (y14.1, 0)))) else (f_X1_write_b103 x1 x3 x4 (sI u 3 (0 : Int32)))) else (f_X1_write_b103 x1 x3 x4 (sI u 3 (0 : Int32)))) else ((f_X10_write (f_X10_place x1 x3 (sI u 3 (0 : Int32))) x3 x4 (sI u 3 (0 : Int32))).bind (fun y18 => if ((gL y18 3) + (gI y18 4).toInt64) ≤ x1 then (some (y18, 0)) else (if (x1 + x3.toInt64) ≤ (gL y18 3) then (some (y18, 0)) else (some ((f_X1_endReservation y18), 0)))))
set_option maxRecDepth 100000 in
set_option maxHeartbeats 4000000 in
theorem c_X1_write (l : Launch) (D : va_G) (cy : ClassId × ClassId × ClassId) (ad : Nat → Nat) (x1 : Int64) (x3 : Int32) (x4 : Int64) (u : St) {u' : St} {k' : Nat} (h : f_X1_write x1 x3 x4 u = some (u', k')) : MX (wC cy ad) D cy l yX1_write cX1_write 7 (none) 2 45 k' [.ref (ad 3), .long x1, .int x3, .long x4] u u' none := by
  refine entX (by decide +kernel) (Nat.le_of_ble_eq_true rfl) ?_
  intro p e s m args below meth c ls rr A E hr hlk hl w
  have hl : lv_has ls 7 [(0, .ref (ad 3)), (1, .long x1), (3, .int x3), (4, .long x4)] := hl
  have hc : 0 + k' ≤ k' := Nat.le_of_eq (Nat.zero_add k')
  have hx := E.1
  have hb := E.2.1
  have hown := E.2.2.2.1
  have hts := E.2.2.2.2
  refine lv_aload_n hx hb (dq da_X1_write 0 rfl) rfl (lv_at hl 0 rfl) ?_
  refine lv_iconst (v := 0) hx hb (dq da_X1_write 1 rfl) rfl ?_
  refine pt_wC_3_failed E w w_135 rfl (by decide +kernel) (dq da_X1_write 2 rfl) (fun H locs w => ?_)
  refine lv_aload_n hx hb (dq da_X1_write 3 rfl) rfl (lv_at hl 0 rfl) ?_
  refine gt_wC_3_ram E w w_120 (dq da_X1_write 4 rfl) ?_
  refine lv_lload_n hx hb (dq da_X1_write 5 rfl) rfl (lv_at hl 1 rfl) ?_
  refine lv_iload_n hx hb (dq da_X1_write 6 rfl) rfl (lv_at hl 2 rfl) ?_
  refine cV1 E (c_X10_place l D cy ad _ _ _ ) w_869 w_346 w_347 w_4 w_348 rfl hd_X10_place rfl hl.1 rfl (Nat.le_of_ble_eq_true rfl) ⟨Nat.le_of_ble_eq_true rfl, Nat.le_of_ble_eq_true rfl⟩ (hcc hc) w (rc_wC_4 w) (dq da_X1_write 7 rfl) (fun H locs rr w => ?_)
  refine lv_istore (lv' := [(6, .int (f_X10_place x1 x3 (sI u 3 (0 : Int32)))), (0, .ref (ad 3)), (1, .long x1), (3, .int x3), (4, .long x4)]) hx hb (dq da_X1_write 8 rfl) hl (by decide) rfl (fun ls hl => ?_)
  refine lv_iload hx hb (dq da_X1_write 9 rfl) (lv_at hl 0 rfl) ?_
  refine lv_iconst (v := (-1)) hx hb (dq da_X1_write 10 rfl) rfl ?_
  refine lv_icmp_eq (tgt := 68) hx hb (dq da_X1_write 11 rfl) (by decide) (fun c1 => ?_) (fun c1 => ?_)
  · have h := it c1 h
    refine lv_iload_n hx hb (dq da_X1_write 38 rfl) rfl (lv_at hl 3 rfl) ?_
    refine lv_iconst (v := 1) hx hb (dq da_X1_write 39 rfl) rfl ?_
    refine lv_icmp_ne (tgt := 103) hx hb (dq da_X1_write 40 rfl) (by decide) (fun c2 => ?_) (fun c2 => ?_)
    · have h := ie c2 h
      exact b_X1_write_b103 E hr hlk h hc (lv_sub hl [1, 2, 3, 4] rfl) w
    · have h := it c2 h
      refine lv_lload_n hx hb (dq da_X1_write 41 rfl) rfl (lv_at hl 2 rfl) ?_
      refine lv_ldc2 hx hb hown (hts _ w_871) (dq da_X1_write 42 rfl) ?_
      refine lv_land hx hb (dq da_X1_write 43 rfl) ?_
      refine lv_ldc2 hx hb hown (hts _ w_872) (dq da_X1_write 44 rfl) ?_
      refine lc_ne (tgt := 103) hx hb (dq da_X1_write 45 rfl) (dq da_X1_write 46 rfl) (by decide) (fun c13 => ?_) (fun c13 => ?_)
      · have h := ie c13 h
        exact b_X1_write_b103 E hr hlk h hc (lv_sub hl [1, 2, 3, 4] rfl) w
      · have h := it c13 h
        refine lv_aload_n hx hb (dq da_X1_write 47 rfl) rfl (lv_at hl 1 rfl) ?_
        refine gt_wC_3_line E w w_126 (dq da_X1_write 48 rfl) ?_
        refine lv_lload_n hx hb (dq da_X1_write 49 rfl) rfl (lv_at hl 2 rfl) ?_
        refine lv_l2i (v := x1.toInt32) hx hb (dq da_X1_write 50 rfl) rfl ?_
        refine lv_bipush (v := 7) hx hb (dq da_X1_write 51 rfl) rfl ?_
        refine lv_iand hx hb (dq da_X1_write 52 rfl) ?_
        refine lv_lload hx hb (dq da_X1_write 53 rfl) (lv_at hl 4 rfl) ?_
        refine lv_l2i (v := x4.toInt32) hx hb (dq da_X1_write 54 rfl) rfl ?_
        obtain ⟨y14, hy15, h⟩ := ob h
        obtain ⟨k16, h, hk17⟩ := ak0_of h
        refine cV0k E (c_X8_write l D cy ad _ _ _ hy15) w_925 w_926 w_927 w_6 w_928 rfl hd_X8_write rfl hl.1 rfl (Nat.le_of_ble_eq_true rfl) ⟨Nat.le_of_ble_eq_true rfl, Nat.le_of_ble_eq_true rfl⟩ (hcb hc hk17) w (rc_wC_10 w) (dq da_X1_write 55 rfl) (fun H locs rr w => ?_)
        have hc := hcd hc hk17
        refine lv_goto (tgt := 237) hx hb (dq da_X1_write 56 rfl) (by decide) ?_
        exact xret_v E hr hlk w (Nat.le_of_add_right_le hc) (congrArg Prod.fst (os h)) (dq da_X1_write 127 rfl)
  · have h := ie c1 h
    refine lv_aload_n hx hb (dq da_X1_write 12 rfl) rfl (lv_at hl 1 rfl) ?_
    refine gt_wC_3_ram E w w_120 (dq da_X1_write 13 rfl) ?_
    refine lv_iload hx hb (dq da_X1_write 14 rfl) (lv_at hl 0 rfl) ?_
    refine lv_iload_n hx hb (dq da_X1_write 15 rfl) rfl (lv_at hl 3 rfl) ?_
    refine lv_lload hx hb (dq da_X1_write 16 rfl) (lv_at hl 4 rfl) ?_
    obtain ⟨y18, hy19, h⟩ := ob h
    refine cV0 E (c_X10_write l D cy ad _ _ _ _ hy19) w_923 w_360 w_361 w_4 w_362 rfl hd_X10_write rfl hl.1 rfl (Nat.le_of_ble_eq_true rfl) ⟨Nat.le_of_ble_eq_true rfl, Nat.le_of_ble_eq_true rfl⟩ (hcc hc) w (rc_wC_4 w) (dq da_X1_write 17 rfl) (fun H locs rr w => ?_)
    refine lv_lload_n hx hb (dq da_X1_write 18 rfl) rfl (lv_at hl 2 rfl) ?_
    refine lv_aload_n hx hb (dq da_X1_write 19 rfl) rfl (lv_at hl 1 rfl) ?_
    refine gt_wC_3_reservedAt E w w_137 (dq da_X1_write 20 rfl) ?_
    refine lv_aload_n hx hb (dq da_X1_write 21 rfl) rfl (lv_at hl 1 rfl) ?_
    refine gt_wC_3_reservedSize E w w_138 (dq da_X1_write 22 rfl) ?_
    refine lv_i2l (v := (gI y18 4).toInt64) hx hb (dq da_X1_write 23 rfl) rfl ?_
    refine lv_ladd hx hb (dq da_X1_write 24 rfl) ?_
    refine lc_ge (tgt := 237) hx hb (dq da_X1_write 25 rfl) (dq da_X1_write 26 rfl) (by decide) (fun c20 => ?_) (fun c20 => ?_)
    · have h := it c20 h
      exact xret_v E hr hlk w (Nat.le_of_add_right_le hc) (congrArg Prod.fst (os h)) (dq da_X1_write 127 rfl)
    · have h := ie c20 h
      refine lv_aload_n hx hb (dq da_X1_write 27 rfl) rfl (lv_at hl 1 rfl) ?_
      refine gt_wC_3_reservedAt E w w_137 (dq da_X1_write 28 rfl) ?_
      refine lv_lload_n hx hb (dq da_X1_write 29 rfl) rfl (lv_at hl 2 rfl) ?_
      refine lv_iload_n hx hb (dq da_X1_write 30 rfl) rfl (lv_at hl 3 rfl) ?_
      refine lv_i2l (v := x3.toInt64) hx hb (dq da_X1_write 31 rfl) rfl ?_
      refine lv_ladd hx hb (dq da_X1_write 32 rfl) ?_
      refine lc_ge (tgt := 237) hx hb (dq da_X1_write 33 rfl) (dq da_X1_write 34 rfl) (by decide) (fun c21 => ?_) (fun c21 => ?_)
      · have h := it c21 h
        exact xret_v E hr hlk w (Nat.le_of_add_right_le hc) (congrArg Prod.fst (os h)) (dq da_X1_write 127 rfl)
      · have h := ie c21 h
        refine lv_aload_n hx hb (dq da_X1_write 35 rfl) rfl (lv_at hl 1 rfl) ?_
        refine cV0 E (c_X1_endReservation l D cy ad _ ) w_924 w_370 w_371 w_3 w_372 rfl hd_X1_endReservation rfl hl.1 rfl (Nat.le_of_ble_eq_true rfl) ⟨Nat.le_of_ble_eq_true rfl, Nat.le_of_ble_eq_true rfl⟩ (hcc hc) w (rc_wC_3 w) (dq da_X1_write 36 rfl) (fun H locs rr w => ?_)
        refine lv_goto (tgt := 237) hx hb (dq da_X1_write 37 rfl) (by decide) ?_
        exact xret_v E hr hlk w (Nat.le_of_add_right_le hc) (congrArg Prod.fst (os h)) (dq da_X1_write 127 rfl)
def dl_X6_storeRegister : List (Nat × Instr × Nat) := [(0, .iload_n 1, 1), (1, .invokestatic 246, 3), (4, .istore_n 2, 1), (5, .iload_n 2, 1), (6, .iconst 3, 1), (7, .if_icmp .le 8, 3), (10, .aload_n 0, 1), (11, .invokevirtual 255, 3), (14, .return_, 1), (15, .iconst 1, 1), (16, .iload_n 2, 1), (17, .ishl, 1), (18, .istore_n 3, 1), (19, .aload_n 0, 1), (20, .iload_n 1, 1), (21, .invokevirtual 259, 3), (24, .iload_n 1, 1), (25, .bipush 25, 2), (27, .ishr, 1), (28, .iconst 5, 1), (29, .ishl, 1), (30, .iload_n 1, 1), (31, .bipush 7, 2), (33, .ishr, 1), (34, .bipush 31, 2), (36, .iand, 1), (37, .ior, 1), (38, .i2l, 1), (39, .ladd, 1), (40, .lstore 4, 2), (42, .aload_n 0, 1), (43, .lload 4, 2), (45, .iload_n 3, 1), (46, .iconst 2, 1), (47, .invokevirtual 168, 3), (50, .lstore 6, 2), (52, .aload_n 0, 1), (53, .getfield 25, 3), (56, .iconst (-1), 1), (57, .if_icmp .eq 4, 3), (60, .return_, 1), (61, .aload_n 0, 1), (62, .getfield 31, 3), (65, .lload 6, 2), (67, .iload_n 3, 1), (68, .aload_n 0, 1), (69, .iload_n 1, 1), (70, .invokevirtual 265, 3), (73, .invokevirtual 287, 3), (76, .aload_n 0, 1), (77, .getfield 31, 3), (80, .getfield 280, 3), (83, .ifCond .eq 13, 3), (86, .aload_n 0, 1), (87, .iconst 2, 1), (88, .invokestatic 182, 3), (91, .lload 4, 2), (93, .invokevirtual 155, 3), (96, .return_, 1)]
theorem da_X6_storeRegister : dkL cX6_storeRegister dl_X6_storeRegister = true := by decide +kernel
def f_X6_storeRegister (x1 : Int32) (u : St) : Option (St × Nat) := if (f_X6_f x1) ≤ (3 : Int32) then ((f_X6_a x1 u).bind (fun y2 => (f_X6_reached (y2 + (((x1 >>> ((25 : Int32) &&& 31)) <<< ((5 : Int32) &&& 31)) ||| ((x1 >>> ((7 : Int32) &&& 31)) &&& (31 : Int32))).toInt64) ((1 : Int32) <<< ((f_X6_f x1) &&& 31)) (2 : Int32) u).bind (fun y4 => if (gI y4.2 18) = (-1 : Int32) then ((f_X6_b x1 y4.2).bind (fun y7 => (f_X1_write y4.1 ((1 : Int32) <<< ((f_X6_f x1) &&& 31)) y7 y4.2).bind (fun y9 => ak0 y9.2 (if (gI y9.1 3) = (0 : Int32) then (some (y9.1, 0)) else (some ((f_X6_fail (f_X9_accessFault (2 : Int32)) (y2 + (((x1 >>> ((25 : Int32) &&& 31)) <<< ((5 : Int32) &&& 31)) ||| ((x1 >>> ((7 : Int32) &&& 31)) &&& (31 : Int32))).toInt64) y9.1), 0)))))) else (some (y4.2, 0))))) else (some ((f_X6_illegal u), 0))
set_option maxRecDepth 100000 in
set_option maxHeartbeats 4000000 in
theorem c_X6_storeRegister (l : Launch) (D : va_G) (cy : ClassId × ClassId × ClassId) (ad : Nat → Nat) (x1 : Int32) (u : St) {u' : St} {k' : Nat} (h : f_X6_storeRegister x1 u = some (u', k')) : MX (wC cy ad) D cy l yX6_storeRegister cX6_storeRegister 8 (none) 3 87 k' [.ref (ad 18), .int x1] u u' none := by
  refine entX (by decide +kernel) (Nat.le_of_ble_eq_true rfl) ?_
  intro p e s m args below meth c ls rr A E hr hlk hl w
  have hl : lv_has ls 8 [(0, .ref (ad 18)), (1, .int x1)] := hl
  have hc : 0 + k' ≤ k' := Nat.le_of_eq (Nat.zero_add k')
  have hx := E.1
  have hb := E.2.1
  have hown := E.2.2.2.1
  have hts := E.2.2.2.2
  refine lv_iload_n hx hb (dq da_X6_storeRegister 0 rfl) rfl (lv_at hl 1 rfl) ?_
  refine callP E (c_X6_f l _ ) w_836 w_837 w_9 w_838 hd_X6_f rfl hl.1 rfl (Nat.le_of_ble_eq_true rfl) ⟨Nat.le_of_ble_eq_true rfl, Nat.le_of_ble_eq_true rfl⟩ (hcc hc) (dq da_X6_storeRegister 1 rfl) ?_
  refine lv_istore_n (lv' := [(2, .int (f_X6_f x1)), (0, .ref (ad 18)), (1, .int x1)]) hx hb (dq da_X6_storeRegister 2 rfl) rfl hl (by decide) rfl (fun ls hl => ?_)
  refine lv_iload_n hx hb (dq da_X6_storeRegister 3 rfl) rfl (lv_at hl 0 rfl) ?_
  refine lv_iconst (v := 3) hx hb (dq da_X6_storeRegister 4 rfl) rfl ?_
  refine lv_icmp_le (tgt := 15) hx hb (dq da_X6_storeRegister 5 rfl) (by decide) (fun c1 => ?_) (fun c1 => ?_)
  · have h := it c1 h
    refine lv_iconst (v := 1) hx hb (dq da_X6_storeRegister 9 rfl) rfl ?_
    refine lv_iload_n hx hb (dq da_X6_storeRegister 10 rfl) rfl (lv_at hl 0 rfl) ?_
    refine lv_ishl hx hb (dq da_X6_storeRegister 11 rfl) ?_
    refine lv_istore_n (lv' := [(3, .int ((1 : Int32) <<< ((f_X6_f x1) &&& 31))), (2, .int (f_X6_f x1)), (0, .ref (ad 18)), (1, .int x1)]) hx hb (dq da_X6_storeRegister 12 rfl) rfl hl (by decide) rfl (fun ls hl => ?_)
    refine lv_aload_n hx hb (dq da_X6_storeRegister 13 rfl) rfl (lv_at hl 2 rfl) ?_
    refine lv_iload_n hx hb (dq da_X6_storeRegister 14 rfl) rfl (lv_at hl 3 rfl) ?_
    obtain ⟨y2, hy3, h⟩ := ob h
    refine cV1 E (c_X6_a l D cy ad _ _ hy3) w_839 w_841 w_p21 w_9 w_842 rfl hd_X6_a rfl hl.1 rfl (Nat.le_of_ble_eq_true rfl) ⟨Nat.le_of_ble_eq_true rfl, Nat.le_of_ble_eq_true rfl⟩ (hcc hc) w (rc_wC_18 w) (dq da_X6_storeRegister 15 rfl) (fun H locs rr w => ?_)
    refine lv_iload_n hx hb (dq da_X6_storeRegister 16 rfl) rfl (lv_at hl 3 rfl) ?_
    refine lv_bipush (v := 25) hx hb (dq da_X6_storeRegister 17 rfl) rfl ?_
    refine lv_ishr hx hb (dq da_X6_storeRegister 18 rfl) ?_
    refine lv_iconst (v := 5) hx hb (dq da_X6_storeRegister 19 rfl) rfl ?_
    refine lv_ishl hx hb (dq da_X6_storeRegister 20 rfl) ?_
    refine lv_iload_n hx hb (dq da_X6_storeRegister 21 rfl) rfl (lv_at hl 3 rfl) ?_
    refine lv_bipush (v := 7) hx hb (dq da_X6_storeRegister 22 rfl) rfl ?_
    refine lv_ishr hx hb (dq da_X6_storeRegister 23 rfl) ?_
    refine lv_bipush (v := 31) hx hb (dq da_X6_storeRegister 24 rfl) rfl ?_
    refine lv_iand hx hb (dq da_X6_storeRegister 25 rfl) ?_
    refine lv_ior hx hb (dq da_X6_storeRegister 26 rfl) ?_
    refine lv_i2l (v := (((x1 >>> ((25 : Int32) &&& 31)) <<< ((5 : Int32) &&& 31)) ||| ((x1 >>> ((7 : Int32) &&& 31)) &&& (31 : Int32))).toInt64) hx hb (dq da_X6_storeRegister 27 rfl) rfl ?_
    refine lv_ladd hx hb (dq da_X6_storeRegister 28 rfl) ?_
    refine lv_lstore (lv' := [(4, .long (y2 + (((x1 >>> ((25 : Int32) &&& 31)) <<< ((5 : Int32) &&& 31)) ||| ((x1 >>> ((7 : Int32) &&& 31)) &&& (31 : Int32))).toInt64)), (3, .int ((1 : Int32) <<< ((f_X6_f x1) &&& 31))), (2, .int (f_X6_f x1)), (0, .ref (ad 18)), (1, .int x1)]) hx hb (dq da_X6_storeRegister 29 rfl) hl (by decide) rfl (fun ls hl => ?_)
    refine lv_aload_n hx hb (dq da_X6_storeRegister 30 rfl) rfl (lv_at hl 3 rfl) ?_
    refine lv_lload hx hb (dq da_X6_storeRegister 31 rfl) (lv_at hl 0 rfl) ?_
    refine lv_iload_n hx hb (dq da_X6_storeRegister 32 rfl) rfl (lv_at hl 1 rfl) ?_
    refine lv_iconst (v := 2) hx hb (dq da_X6_storeRegister 33 rfl) rfl ?_
    obtain ⟨y4, hy5, h⟩ := ob h
    refine cV1 E (c_X6_reached l D cy ad _ _ _ _ hy5) w_706 w_708 w_p15 w_9 w_709 rfl hd_X6_reached rfl hl.1 rfl (Nat.le_of_ble_eq_true rfl) ⟨Nat.le_of_ble_eq_true rfl, Nat.le_of_ble_eq_true rfl⟩ (hcc hc) w (rc_wC_18 w) (dq da_X6_storeRegister 34 rfl) (fun H locs rr w => ?_)
    refine lv_lstore (lv' := [(6, .long y4.1), (4, .long (y2 + (((x1 >>> ((25 : Int32) &&& 31)) <<< ((5 : Int32) &&& 31)) ||| ((x1 >>> ((7 : Int32) &&& 31)) &&& (31 : Int32))).toInt64)), (3, .int ((1 : Int32) <<< ((f_X6_f x1) &&& 31))), (2, .int (f_X6_f x1)), (0, .ref (ad 18)), (1, .int x1)]) hx hb (dq da_X6_storeRegister 35 rfl) hl (by decide) rfl (fun ls hl => ?_)
    refine lv_aload_n hx hb (dq da_X6_storeRegister 36 rfl) rfl (lv_at hl 4 rfl) ?_
    refine gt_wC_18_cause E w w_255 (dq da_X6_storeRegister 37 rfl) ?_
    refine lv_iconst (v := (-1)) hx hb (dq da_X6_storeRegister 38 rfl) rfl ?_
    refine lv_icmp_eq (tgt := 61) hx hb (dq da_X6_storeRegister 39 rfl) (by decide) (fun c6 => ?_) (fun c6 => ?_)
    · have h := it c6 h
      refine lv_aload_n hx hb (dq da_X6_storeRegister 41 rfl) rfl (lv_at hl 4 rfl) ?_
      refine gt_wC_18_bus E w w_245 (dq da_X6_storeRegister 42 rfl) ?_
      refine lv_lload hx hb (dq da_X6_storeRegister 43 rfl) (lv_at hl 0 rfl) ?_
      refine lv_iload_n hx hb (dq da_X6_storeRegister 44 rfl) rfl (lv_at hl 2 rfl) ?_
      refine lv_aload_n hx hb (dq da_X6_storeRegister 45 rfl) rfl (lv_at hl 4 rfl) ?_
      refine lv_iload_n hx hb (dq da_X6_storeRegister 46 rfl) rfl (lv_at hl 5 rfl) ?_
      obtain ⟨y7, hy8, h⟩ := ob h
      refine cV1 E (c_X6_b l D cy ad _ _ hy8) w_853 w_855 w_p24 w_9 w_856 rfl hd_X6_b rfl hl.1 rfl (Nat.le_of_ble_eq_true rfl) ⟨Nat.le_of_ble_eq_true rfl, Nat.le_of_ble_eq_true rfl⟩ (hcc hc) w (rc_wC_18 w) (dq da_X6_storeRegister 47 rfl) (fun H locs rr w => ?_)
      obtain ⟨y9, hy10, h⟩ := ob h
      obtain ⟨k11, h, hk12⟩ := ak0_of h
      refine cV0k E (c_X1_write l D cy ad _ _ _ _ hy10) w_919 w_920 w_921 w_3 w_922 rfl hd_X1_write rfl hl.1 rfl (Nat.le_of_ble_eq_true rfl) ⟨Nat.le_of_ble_eq_true rfl, Nat.le_of_ble_eq_true rfl⟩ (hcb hc hk12) w (rc_wC_3 w) (dq da_X6_storeRegister 48 rfl) (fun H locs rr w => ?_)
      have hc := hcd hc hk12
      refine lv_aload_n hx hb (dq da_X6_storeRegister 49 rfl) rfl (lv_at hl 4 rfl) ?_
      refine gt_wC_18_bus E w w_245 (dq da_X6_storeRegister 50 rfl) ?_
      refine gtN_wC_3_failed E w n_14 (dq da_X6_storeRegister 51 rfl) ?_
      refine lv_if_eq (tgt := 96) hx hb (dq da_X6_storeRegister 52 rfl) (by decide) (fun c13 => ?_) (fun c13 => ?_)
      · have h := it c13 h
        exact xret_v E hr hlk w (Nat.le_of_add_right_le hc) (congrArg Prod.fst (os h)) (dq da_X6_storeRegister 58 rfl)
      · have h := ie c13 h
        refine lv_aload_n hx hb (dq da_X6_storeRegister 53 rfl) rfl (lv_at hl 4 rfl) ?_
        refine lv_iconst (v := 2) hx hb (dq da_X6_storeRegister 54 rfl) rfl ?_
        refine callP E (c_X9_accessFault l _ ) w_768 w_738 w_18 w_739 hd_X9_accessFault rfl hl.1 rfl (Nat.le_of_ble_eq_true rfl) ⟨Nat.le_of_ble_eq_true rfl, Nat.le_of_ble_eq_true rfl⟩ (hcc hc) (dq da_X6_storeRegister 55 rfl) ?_
        refine lv_lload hx hb (dq da_X6_storeRegister 56 rfl) (lv_at hl 1 rfl) ?_
        refine cV0 E (c_X6_fail l D cy ad _ _ _ ) w_710 w_712 w_p16 w_9 w_713 rfl hd_X6_fail rfl hl.1 rfl (Nat.le_of_ble_eq_true rfl) ⟨Nat.le_of_ble_eq_true rfl, Nat.le_of_ble_eq_true rfl⟩ (hcc hc) w (rc_wC_18 w) (dq da_X6_storeRegister 57 rfl) (fun H locs rr w => ?_)
        exact xret_v E hr hlk w (Nat.le_of_add_right_le hc) (congrArg Prod.fst (os h)) (dq da_X6_storeRegister 58 rfl)
    · have h := ie c6 h
      exact xret_v E hr hlk w (Nat.le_of_add_right_le hc) (congrArg Prod.fst (os h)) (dq da_X6_storeRegister 40 rfl)
  · have h := ie c1 h
    refine lv_aload_n hx hb (dq da_X6_storeRegister 6 rfl) rfl (lv_at hl 1 rfl) ?_
    refine cV0 E (c_X6_illegal l D cy ad _ ) w_844 w_846 w_p22 w_9 w_847 rfl hd_X6_illegal rfl hl.1 rfl (Nat.le_of_ble_eq_true rfl) ⟨Nat.le_of_ble_eq_true rfl, Nat.le_of_ble_eq_true rfl⟩ (hcc hc) w (rc_wC_18 w) (dq da_X6_storeRegister 7 rfl) (fun H locs rr w => ?_)
    exact xret_v E hr hlk w (Nat.le_of_add_right_le hc) (congrArg Prod.fst (os h)) (dq da_X6_storeRegister 8 rfl)
def dl_X6_storeReserved : List (Nat × Instr × Nat) := [(0, .aload_n 0, 1), (1, .getfield 31, 3), (4, .lload_n 2, 1), (5, .iload 4, 2), (7, .invokevirtual 320, 3), (10, .istore 5, 2), (12, .iload 5, 2), (14, .ifCond .eq 18, 3), (17, .aload_n 0, 1), (18, .getfield 31, 3), (21, .lload_n 2, 1), (22, .iload 4, 2), (24, .aload_n 0, 1), (25, .iload_n 1, 1), (26, .invokevirtual 265, 3), (29, .invokevirtual 287, 3), (32, .aload_n 0, 1), (33, .iload_n 1, 1), (34, .iload 5, 2), (36, .ifCond .eq 7, 3), (39, .lconst 0, 1), (40, .goto 4, 3), (43, .lconst 1, 1), (44, .invokevirtual 207, 3), (47, .aload_n 0, 1), (48, .getfield 31, 3), (51, .invokevirtual 147, 3), (54, .return_, 1)]
theorem da_X6_storeReserved : dkL cX6_storeReserved dl_X6_storeReserved = true := by decide +kernel
def f_X6_storeReserved_b44 (s0 : Int64) (s1 : Int32) (u : St) : Option (St × Nat) := (f_X6_putRd s1 s0 u).bind (fun y3 => some ((f_X1_endReservation y3), 0))
set_option maxRecDepth 100000 in
set_option maxHeartbeats 4000000 in
theorem b_X6_storeReserved_b44 {p : Program} {l : Launch} {e : Env} {s : State} {m : MethodId} {args : Array Value} {below : List Frame} {meth : Method} {c : Code} {D : va_G} {cy : ClassId × ClassId × ClassId} {ad : Nat → Nat} {A : Nat → Prop} {K : Nat} (E : CallFix p m c cX6_storeReserved 6 s args gw RX6) (hr : meth.sig.returnType = none) (hlk : meth.locks = false) {s0 : Int64} {s1 : Int32} {u : St} {u' : St} {k' : Nat} (h : f_X6_storeReserved_b44 s0 s1 u = some (u', k')) {ls : Array Slot} {H : Heap} {locs : List Loc} {rr : Nat → Nat} {cells : Nat} (hc : cells + k' ≤ K) (hl : lv_has ls 6 [(0, .ref (ad 18))]) (w : WX (wC cy ad) D cy rr u A s H locs) : Wx (wC cy ad) D p l e 3 71 K s m args below meth c A u' none H locs cells 44 ls [.long s0, .int s1, .ref (ad 18)] := by
  have hx := E.1
  have hb := E.2.1
  have hown := E.2.2.2.1
  have hts := E.2.2.2.2
  obtain ⟨y3, hy4, h⟩ := ob h
  refine cV0 E (c_X6_putRd l D cy ad _ _ _ hy4) w_820 w_822 w_p18 w_9 w_823 rfl hd_X6_putRd rfl hl.1 rfl (Nat.le_of_ble_eq_true rfl) ⟨Nat.le_of_ble_eq_true rfl, Nat.le_of_ble_eq_true rfl⟩ (hcc hc) w (rc_wC_18 w) (dq da_X6_storeReserved 23 rfl) (fun H locs rr w => ?_)
  refine lv_aload_n hx hb (dq da_X6_storeReserved 24 rfl) rfl (lv_at hl 0 rfl) ?_
  refine gt_wC_18_bus E w w_245 (dq da_X6_storeReserved 25 rfl) ?_
  refine cV0 E (c_X1_endReservation l D cy ad _ ) w_697 w_370 w_371 w_3 w_372 rfl hd_X1_endReservation rfl hl.1 rfl (Nat.le_of_ble_eq_true rfl) ⟨Nat.le_of_ble_eq_true rfl, Nat.le_of_ble_eq_true rfl⟩ (hcc hc) w (rc_wC_3 w) (dq da_X6_storeReserved 26 rfl) (fun H locs rr w => ?_)
  exact xret_v E hr hlk w (Nat.le_of_add_right_le hc) (congrArg Prod.fst (os h)) (dq da_X6_storeReserved 27 rfl)
def f_X6_storeReserved_b32 (x1 : Int32) (x5 : Int32) (u : St) : Option (St × Nat) := if x5 = (0 : Int32) then (f_X6_storeReserved_b44 (1 : Int64) x1 u) else (f_X6_storeReserved_b44 (0 : Int64) x1 u)
set_option maxRecDepth 100000 in
set_option maxHeartbeats 4000000 in
theorem b_X6_storeReserved_b32 {p : Program} {l : Launch} {e : Env} {s : State} {m : MethodId} {args : Array Value} {below : List Frame} {meth : Method} {c : Code} {D : va_G} {cy : ClassId × ClassId × ClassId} {ad : Nat → Nat} {A : Nat → Prop} {K : Nat} (E : CallFix p m c cX6_storeReserved 6 s args gw RX6) (hr : meth.sig.returnType = none) (hlk : meth.locks = false) {x1 : Int32} {x5 : Int32} {u : St} {u' : St} {k' : Nat} (h : f_X6_storeReserved_b32 x1 x5 u = some (u', k')) {ls : Array Slot} {H : Heap} {locs : List Loc} {rr : Nat → Nat} {cells : Nat} (hc : cells + k' ≤ K) (hl : lv_has ls 6 [(0, .ref (ad 18)), (1, .int x1), (5, .int x5)]) (w : WX (wC cy ad) D cy rr u A s H locs) : Wx (wC cy ad) D p l e 3 71 K s m args below meth c A u' none H locs cells 32 ls [] := by
  have hx := E.1
  have hb := E.2.1
  have hown := E.2.2.2.1
  have hts := E.2.2.2.2
  refine lv_aload_n hx hb (dq da_X6_storeReserved 16 rfl) rfl (lv_at hl 0 rfl) ?_
  refine lv_iload_n hx hb (dq da_X6_storeReserved 17 rfl) rfl (lv_at hl 1 rfl) ?_
  refine lv_iload hx hb (dq da_X6_storeReserved 18 rfl) (lv_at hl 2 rfl) ?_
  refine lv_if_eq (tgt := 43) hx hb (dq da_X6_storeReserved 19 rfl) (by decide) (fun c2 => ?_) (fun c2 => ?_)
  · have h := it c2 h
    refine lv_lconst (v := 1) hx hb (dq da_X6_storeReserved 22 rfl) rfl ?_
    exact b_X6_storeReserved_b44 E hr hlk h hc (lv_sub hl [0] rfl) w
  · have h := ie c2 h
    refine lv_lconst (v := 0) hx hb (dq da_X6_storeReserved 20 rfl) rfl ?_
    refine lv_goto (tgt := 44) hx hb (dq da_X6_storeReserved 21 rfl) (by decide) ?_
    exact b_X6_storeReserved_b44 E hr hlk h hc (lv_sub hl [0] rfl) w
def f_X6_storeReserved (x1 : Int32) (x2 : Int64) (x4 : Int32) (u : St) : Option (St × Nat) := if (f_X1_reserves x2 x4 u) = (0 : Int32) then (f_X6_storeReserved_b32 x1 (f_X1_reserves x2 x4 u) u) else ((f_X6_b x1 u).bind (fun y5 => (f_X1_write x2 x4 y5 u).bind (fun y7 => ak0 y7.2 (f_X6_storeReserved_b32 x1 (f_X1_reserves x2 x4 u) y7.1))))
set_option maxRecDepth 100000 in
set_option maxHeartbeats 4000000 in
theorem c_X6_storeReserved (l : Launch) (D : va_G) (cy : ClassId × ClassId × ClassId) (ad : Nat → Nat) (x1 : Int32) (x2 : Int64) (x4 : Int32) (u : St) {u' : St} {k' : Nat} (h : f_X6_storeReserved x1 x2 x4 u = some (u', k')) : MX (wC cy ad) D cy l yX6_storeReserved cX6_storeReserved 6 (none) 3 71 k' [.ref (ad 18), .int x1, .long x2, .int x4] u u' none := by
  refine entX (by decide +kernel) (Nat.le_of_ble_eq_true rfl) ?_
  intro p e s m args below meth c ls rr A E hr hlk hl w
  have hl : lv_has ls 6 [(0, .ref (ad 18)), (1, .int x1), (2, .long x2), (4, .int x4)] := hl
  have hc : 0 + k' ≤ k' := Nat.le_of_eq (Nat.zero_add k')
  have hx := E.1
  have hb := E.2.1
  have hown := E.2.2.2.1
  have hts := E.2.2.2.2
  refine lv_aload_n hx hb (dq da_X6_storeReserved 0 rfl) rfl (lv_at hl 0 rfl) ?_
  refine gt_wC_18_bus E w w_245 (dq da_X6_storeReserved 1 rfl) ?_
  refine lv_lload_n hx hb (dq da_X6_storeReserved 2 rfl) rfl (lv_at hl 2 rfl) ?_
  refine lv_iload hx hb (dq da_X6_storeReserved 3 rfl) (lv_at hl 3 rfl) ?_
  refine cV1 E (c_X1_reserves l D cy ad _ _ _ ) w_990 w_991 w_992 w_3 w_993 rfl hd_X1_reserves rfl hl.1 rfl (Nat.le_of_ble_eq_true rfl) ⟨Nat.le_of_ble_eq_true rfl, Nat.le_of_ble_eq_true rfl⟩ (hcc hc) w (rc_wC_3 w) (dq da_X6_storeReserved 4 rfl) (fun H locs rr w => ?_)
  refine lv_istore (lv' := [(5, .int (f_X1_reserves x2 x4 u)), (0, .ref (ad 18)), (1, .int x1), (2, .long x2), (4, .int x4)]) hx hb (dq da_X6_storeReserved 5 rfl) hl (by decide) rfl (fun ls hl => ?_)
  refine lv_iload hx hb (dq da_X6_storeReserved 6 rfl) (lv_at hl 0 rfl) ?_
  refine lv_if_eq (tgt := 32) hx hb (dq da_X6_storeReserved 7 rfl) (by decide) (fun c1 => ?_) (fun c1 => ?_)
  · have h := it c1 h
    exact b_X6_storeReserved_b32 E hr hlk h hc (lv_sub hl [1, 2, 0] rfl) w
  · have h := ie c1 h
    refine lv_aload_n hx hb (dq da_X6_storeReserved 8 rfl) rfl (lv_at hl 1 rfl) ?_
    refine gt_wC_18_bus E w w_245 (dq da_X6_storeReserved 9 rfl) ?_
    refine lv_lload_n hx hb (dq da_X6_storeReserved 10 rfl) rfl (lv_at hl 3 rfl) ?_
    refine lv_iload hx hb (dq da_X6_storeReserved 11 rfl) (lv_at hl 4 rfl) ?_
    refine lv_aload_n hx hb (dq da_X6_storeReserved 12 rfl) rfl (lv_at hl 1 rfl) ?_
    refine lv_iload_n hx hb (dq da_X6_storeReserved 13 rfl) rfl (lv_at hl 2 rfl) ?_
    obtain ⟨y5, hy6, h⟩ := ob h
    refine cV1 E (c_X6_b l D cy ad _ _ hy6) w_853 w_855 w_p24 w_9 w_856 rfl hd_X6_b rfl hl.1 rfl (Nat.le_of_ble_eq_true rfl) ⟨Nat.le_of_ble_eq_true rfl, Nat.le_of_ble_eq_true rfl⟩ (hcc hc) w (rc_wC_18 w) (dq da_X6_storeReserved 14 rfl) (fun H locs rr w => ?_)
    obtain ⟨y7, hy8, h⟩ := ob h
    obtain ⟨k9, h, hk10⟩ := ak0_of h
    refine cV0k E (c_X1_write l D cy ad _ _ _ _ hy8) w_919 w_920 w_921 w_3 w_922 rfl hd_X1_write rfl hl.1 rfl (Nat.le_of_ble_eq_true rfl) ⟨Nat.le_of_ble_eq_true rfl, Nat.le_of_ble_eq_true rfl⟩ (hcb hc hk10) w (rc_wC_3 w) (dq da_X6_storeReserved 15 rfl) (fun H locs rr w => ?_)
    have hc := hcd hc hk10
    exact b_X6_storeReserved_b32 E hr hlk h hc (lv_sub hl [1, 2, 0] rfl) w
def dl_X6_atomic : List (Nat × Instr × Nat) := [(0, .iload_n 1, 1), (1, .invokestatic 246, 3), (4, .istore_n 2, 1), (5, .iload_n 1, 1), (6, .bipush 27, 2), (8, .iushr, 1), (9, .istore_n 3, 1), (10, .iload_n 3, 1), (11, .iconst 2, 1), (12, .if_icmp .ne 7, 3), (15, .iconst 1, 1), (16, .goto 4, 3), (19, .iconst 0, 1), (20, .istore 4, 2), (22, .iload_n 2, 1), (23, .iconst 2, 1), (24, .if_icmp .eq 8, 3), (27, .iload_n 2, 1), (28, .iconst 3, 1), (29, .if_icmp .ne 25, 3), (32, .iload_n 3, 1), (33, .invokestatic 307, 3), (36, .ifCond .eq 18, 3), (39, .iload 4, 2), (41, .ifCond .eq 18, 3), (44, .iload_n 1, 1), (45, .bipush 20, 2), (47, .ishr, 1), (48, .bipush 31, 2), (50, .iand, 1), (51, .ifCond .eq 8, 3), (54, .aload_n 0, 1), (55, .invokevirtual 255, 3), (58, .return_, 1), (59, .iconst 1, 1), (60, .iload_n 2, 1), (61, .ishl, 1), (62, .istore 5, 2), (64, .iload 4, 2), (66, .ifCond .eq 7, 3), (69, .iconst 1, 1), (70, .goto 4, 3), (73, .iconst 2, 1), (74, .istore 6, 2), (76, .aload_n 0, 1), (77, .iload_n 1, 1), (78, .invokevirtual 259, 3), (81, .lstore 7, 2), (83, .aload_n 0, 1), (84, .lload 7, 2), (86, .iload 5, 2), (88, .iload 6, 2), (90, .invokevirtual 168, 3), (93, .lstore 9, 2), (95, .aload_n 0, 1), (96, .getfield 25, 3), (99, .iconst (-1), 1), (100, .if_icmp .eq 4, 3), (103, .return_, 1), (104, .aload_n 0, 1), (105, .getfield 31, 3), (108, .getfield 172, 3), (111, .lload 9, 2), (113, .iload 5, 2), (115, .invokevirtual 176, 3), (118, .iconst (-1), 1), (119, .if_icmp .ne 17, 3), (122, .aload_n 0, 1), (123, .iload 6, 2), (125, .invokestatic 182, 3), (128, .lload 7, 2), (130, .invokevirtual 155, 3), (133, .goto 95, 3), (136, .iload_n 3, 1), (137, .iconst 3, 1), (138, .if_icmp .ne 15, 3), (141, .aload_n 0, 1), (142, .iload_n 1, 1), (143, .lload 9, 2), (145, .iload 5, 2), (147, .invokevirtual 310, 3), (150, .goto 78, 3), (153, .aload_n 0, 1), (154, .iload_n 1, 1), (155, .invokevirtual 265, 3), (158, .lstore 11, 2), (160, .aload_n 0, 1), (161, .getfield 31, 3), (164, .lload 9, 2), (166, .iload 5, 2), (168, .invokevirtual 277, 3), (171, .iload 5, 2), (173, .invokestatic 284, 3), (176, .lstore 13, 2), (178, .aload_n 0, 1), (179, .iload_n 1, 1), (180, .lload 13, 2), (182, .invokevirtual 207, 3), (185, .iload 4, 2), (187, .ifCond .eq 17, 3), (190, .aload_n 0, 1), (191, .getfield 31, 3), (194, .lload 9, 2), (196, .iload 5, 2), (198, .invokevirtual 314, 3), (201, .goto 27, 3), (204, .aload_n 0, 1), (205, .getfield 31, 3), (208, .lload 9, 2), (210, .iload 5, 2), (212, .iload_n 3, 1), (213, .lload 13, 2), (215, .lload 11, 2), (217, .iload 5, 2), (219, .invokestatic 284, 3), (222, .invokestatic 318, 3), (225, .invokevirtual 287, 3), (228, .return_, 1)]
theorem da_X6_atomic : dkL cX6_atomic dl_X6_atomic = true := by decide +kernel
def f_X6_atomic_b54 (u : St) : Option (St × Nat) := some ((f_X6_illegal u), 0)
set_option maxRecDepth 100000 in
set_option maxHeartbeats 4000000 in
theorem b_X6_atomic_b54 {p : Program} {l : Launch} {e : Env} {s : State} {m : MethodId} {args : Array Value} {below : List Frame} {meth : Method} {c : Code} {D : va_G} {cy : ClassId × ClassId × ClassId} {ad : Nat → Nat} {A : Nat → Prop} {K : Nat} (E : CallFix p m c cX6_atomic 15 s args gw RX6) (hr : meth.sig.returnType = none) (hlk : meth.locks = false) {u : St} {u' : St} {k' : Nat} (h : f_X6_atomic_b54 u = some (u', k')) {ls : Array Slot} {H : Heap} {locs : List Loc} {rr : Nat → Nat} {cells : Nat} (hc : cells + k' ≤ K) (hl : lv_has ls 15 [(0, .ref (ad 18))]) (w : WX (wC cy ad) D cy rr u A s H locs) : Wx (wC cy ad) D p l e 4 96 K s m args below meth c A u' none H locs cells 54 ls [] := by
  have hx := E.1
  have hb := E.2.1
  have hown := E.2.2.2.1
  have hts := E.2.2.2.2
  refine lv_aload_n hx hb (dq da_X6_atomic 31 rfl) rfl (lv_at hl 0 rfl) ?_
  refine cV0 E (c_X6_illegal l D cy ad _ ) w_844 w_846 w_p22 w_9 w_847 rfl hd_X6_illegal rfl hl.1 rfl (Nat.le_of_ble_eq_true rfl) ⟨Nat.le_of_ble_eq_true rfl, Nat.le_of_ble_eq_true rfl⟩ (hcc hc) w (rc_wC_18 w) (dq da_X6_atomic 32 rfl) (fun H locs rr w => ?_)
  exact xret_v E hr hlk w (Nat.le_of_add_right_le hc) (congrArg Prod.fst (os h)) (dq da_X6_atomic 33 rfl)
def f_X6_atomic_b74 (x1 : Int32) (x3 : Int32) (x4 : Int32) (x5 : Int32) (s0 : Int32) (u : St) : Option (St × Nat) := (f_X6_a x1 u).bind (fun y6 => (f_X6_reached y6 x5 s0 u).bind (fun y8 => if (gI y8.2 18) = (-1 : Int32) then (if (f_X10_place y8.1 x5 y8.2) = (-1 : Int32) then (some ((f_X6_fail (f_X9_accessFault s0) y6 y8.2), 0)) else (if x3 = (3 : Int32) then ((f_X6_storeReserved x1 y8.1 x5 y8.2).bind (fun y24 => ak0 y24.2 (some (y24.1, 0)))) else ((f_X6_b x1 y8.2).bind (fun y13 => (f_X1_read y8.1 x5 y8.2).bind (fun y15 => (f_X6_putRd x1 (f_X0_signed y15.1 x5) y15.2).bind (fun y17 => if x4 = (0 : Int32) then ((f_X1_write y8.1 x5 (f_X0_atomic x3 (f_X0_signed y15.1 x5) (f_X0_signed y13 x5)) y17).bind (fun y20 => ak0 y20.2 (some (y20.1, 0)))) else (some ((f_X1_reserve y8.1 x5 y17), 0)))))))) else (some (y8.2, 0))))
set_option maxRecDepth 100000 in
set_option maxHeartbeats 4000000 in
theorem b_X6_atomic_b74 {p : Program} {l : Launch} {e : Env} {s : State} {m : MethodId} {args : Array Value} {below : List Frame} {meth : Method} {c : Code} {D : va_G} {cy : ClassId × ClassId × ClassId} {ad : Nat → Nat} {A : Nat → Prop} {K : Nat} (E : CallFix p m c cX6_atomic 15 s args gw RX6) (hr : meth.sig.returnType = none) (hlk : meth.locks = false) {x1 : Int32} {x3 : Int32} {x4 : Int32} {x5 : Int32} {s0 : Int32} {u : St} {u' : St} {k' : Nat} (h : f_X6_atomic_b74 x1 x3 x4 x5 s0 u = some (u', k')) {ls : Array Slot} {H : Heap} {locs : List Loc} {rr : Nat → Nat} {cells : Nat} (hc : cells + k' ≤ K) (hl : lv_has ls 15 [(0, .ref (ad 18)), (1, .int x1), (3, .int x3), (4, .int x4), (5, .int x5)]) (w : WX (wC cy ad) D cy rr u A s H locs) : Wx (wC cy ad) D p l e 4 96 K s m args below meth c A u' none H locs cells 74 ls [.int s0] := by
  have hx := E.1
  have hb := E.2.1
  have hown := E.2.2.2.1
  have hts := E.2.2.2.2
  refine lv_istore (lv' := [(6, .int s0), (0, .ref (ad 18)), (1, .int x1), (3, .int x3), (4, .int x4), (5, .int x5)]) hx hb (dq da_X6_atomic 43 rfl) hl (by decide) rfl (fun ls hl => ?_)
  refine lv_aload_n hx hb (dq da_X6_atomic 44 rfl) rfl (lv_at hl 1 rfl) ?_
  refine lv_iload_n hx hb (dq da_X6_atomic 45 rfl) rfl (lv_at hl 2 rfl) ?_
  obtain ⟨y6, hy7, h⟩ := ob h
  refine cV1 E (c_X6_a l D cy ad _ _ hy7) w_839 w_841 w_p21 w_9 w_842 rfl hd_X6_a rfl hl.1 rfl (Nat.le_of_ble_eq_true rfl) ⟨Nat.le_of_ble_eq_true rfl, Nat.le_of_ble_eq_true rfl⟩ (hcc hc) w (rc_wC_18 w) (dq da_X6_atomic 46 rfl) (fun H locs rr w => ?_)
  refine lv_lstore (lv' := [(7, .long y6), (6, .int s0), (0, .ref (ad 18)), (1, .int x1), (3, .int x3), (4, .int x4), (5, .int x5)]) hx hb (dq da_X6_atomic 47 rfl) hl (by decide) rfl (fun ls hl => ?_)
  refine lv_aload_n hx hb (dq da_X6_atomic 48 rfl) rfl (lv_at hl 2 rfl) ?_
  refine lv_lload hx hb (dq da_X6_atomic 49 rfl) (lv_at hl 0 rfl) ?_
  refine lv_iload hx hb (dq da_X6_atomic 50 rfl) (lv_at hl 6 rfl) ?_
  refine lv_iload hx hb (dq da_X6_atomic 51 rfl) (lv_at hl 1 rfl) ?_
  obtain ⟨y8, hy9, h⟩ := ob h
  refine cV1 E (c_X6_reached l D cy ad _ _ _ _ hy9) w_706 w_708 w_p15 w_9 w_709 rfl hd_X6_reached rfl hl.1 rfl (Nat.le_of_ble_eq_true rfl) ⟨Nat.le_of_ble_eq_true rfl, Nat.le_of_ble_eq_true rfl⟩ (hcc hc) w (rc_wC_18 w) (dq da_X6_atomic 52 rfl) (fun H locs rr w => ?_)
  refine lv_lstore (lv' := [(9, .long y8.1), (7, .long y6), (6, .int s0), (0, .ref (ad 18)), (1, .int x1), (3, .int x3), (4, .int x4), (5, .int x5)]) hx hb (dq da_X6_atomic 53 rfl) hl (by decide) rfl (fun ls hl => ?_)
  refine lv_aload_n hx hb (dq da_X6_atomic 54 rfl) rfl (lv_at hl 3 rfl) ?_
  refine gt_wC_18_cause E w w_255 (dq da_X6_atomic 55 rfl) ?_
  refine lv_iconst (v := (-1)) hx hb (dq da_X6_atomic 56 rfl) rfl ?_
  refine lv_icmp_eq (tgt := 104) hx hb (dq da_X6_atomic 57 rfl) (by decide) (fun c10 => ?_) (fun c10 => ?_)
  · have h := it c10 h
    refine lv_aload_n hx hb (dq da_X6_atomic 59 rfl) rfl (lv_at hl 3 rfl) ?_
    refine gt_wC_18_bus E w w_245 (dq da_X6_atomic 60 rfl) ?_
    refine gtN_wC_3_ram E w n_6 (dq da_X6_atomic 61 rfl) ?_
    refine lv_lload hx hb (dq da_X6_atomic 62 rfl) (lv_at hl 0 rfl) ?_
    refine lv_iload hx hb (dq da_X6_atomic 63 rfl) (lv_at hl 7 rfl) ?_
    refine cV1 E (c_X10_place l D cy ad _ _ _ ) w_767 w_346 w_347 w_4 w_348 rfl hd_X10_place rfl hl.1 rfl (Nat.le_of_ble_eq_true rfl) ⟨Nat.le_of_ble_eq_true rfl, Nat.le_of_ble_eq_true rfl⟩ (hcc hc) w (rc_wC_4 w) (dq da_X6_atomic 64 rfl) (fun H locs rr w => ?_)
    refine lv_iconst (v := (-1)) hx hb (dq da_X6_atomic 65 rfl) rfl ?_
    refine lv_icmp_ne (tgt := 136) hx hb (dq da_X6_atomic 66 rfl) (by decide) (fun c11 => ?_) (fun c11 => ?_)
    · have h := ie c11 h
      refine lv_iload_n hx hb (dq da_X6_atomic 73 rfl) rfl (lv_at hl 5 rfl) ?_
      refine lv_iconst (v := 3) hx hb (dq da_X6_atomic 74 rfl) rfl ?_
      refine lv_icmp_ne (tgt := 153) hx hb (dq da_X6_atomic 75 rfl) (by decide) (fun c12 => ?_) (fun c12 => ?_)
      · have h := ie c12 h
        refine lv_aload_n hx hb (dq da_X6_atomic 82 rfl) rfl (lv_at hl 3 rfl) ?_
        refine lv_iload_n hx hb (dq da_X6_atomic 83 rfl) rfl (lv_at hl 4 rfl) ?_
        obtain ⟨y13, hy14, h⟩ := ob h
        refine cV1 E (c_X6_b l D cy ad _ _ hy14) w_853 w_855 w_p24 w_9 w_856 rfl hd_X6_b rfl hl.1 rfl (Nat.le_of_ble_eq_true rfl) ⟨Nat.le_of_ble_eq_true rfl, Nat.le_of_ble_eq_true rfl⟩ (hcc hc) w (rc_wC_18 w) (dq da_X6_atomic 84 rfl) (fun H locs rr w => ?_)
        refine lv_lstore (lv' := [(11, .long y13), (9, .long y8.1), (7, .long y6), (6, .int s0), (0, .ref (ad 18)), (1, .int x1), (3, .int x3), (4, .int x4), (5, .int x5)]) hx hb (dq da_X6_atomic 85 rfl) hl (by decide) rfl (fun ls hl => ?_)
        refine lv_aload_n hx hb (dq da_X6_atomic 86 rfl) rfl (lv_at hl 4 rfl) ?_
        refine gt_wC_18_bus E w w_245 (dq da_X6_atomic 87 rfl) ?_
        refine lv_lload hx hb (dq da_X6_atomic 88 rfl) (lv_at hl 1 rfl) ?_
        refine lv_iload hx hb (dq da_X6_atomic 89 rfl) (lv_at hl 8 rfl) ?_
        obtain ⟨y15, hy16, h⟩ := ob h
        refine cV1 E (c_X1_read l D cy ad _ _ _ hy16) w_865 w_866 w_867 w_3 w_868 rfl hd_X1_read rfl hl.1 rfl (Nat.le_of_ble_eq_true rfl) ⟨Nat.le_of_ble_eq_true rfl, Nat.le_of_ble_eq_true rfl⟩ (hcc hc) w (rc_wC_3 w) (dq da_X6_atomic 90 rfl) (fun H locs rr w => ?_)
        refine lv_iload hx hb (dq da_X6_atomic 91 rfl) (lv_at hl 8 rfl) ?_
        refine callP E (c_X0_signed l _ _ ) w_912 w_913 w_17 w_914 hd_X0_signed rfl hl.1 rfl (Nat.le_of_ble_eq_true rfl) ⟨Nat.le_of_ble_eq_true rfl, Nat.le_of_ble_eq_true rfl⟩ (hcc hc) (dq da_X6_atomic 92 rfl) ?_
        refine lv_lstore (lv' := [(13, .long (f_X0_signed y15.1 x5)), (11, .long y13), (9, .long y8.1), (7, .long y6), (6, .int s0), (0, .ref (ad 18)), (1, .int x1), (3, .int x3), (4, .int x4), (5, .int x5)]) hx hb (dq da_X6_atomic 93 rfl) hl (by decide) rfl (fun ls hl => ?_)
        refine lv_aload_n hx hb (dq da_X6_atomic 94 rfl) rfl (lv_at hl 5 rfl) ?_
        refine lv_iload_n hx hb (dq da_X6_atomic 95 rfl) rfl (lv_at hl 6 rfl) ?_
        refine lv_lload hx hb (dq da_X6_atomic 96 rfl) (lv_at hl 0 rfl) ?_
        obtain ⟨y17, hy18, h⟩ := ob h
        refine cV0 E (c_X6_putRd l D cy ad _ _ _ hy18) w_820 w_822 w_p18 w_9 w_823 rfl hd_X6_putRd rfl hl.1 rfl (Nat.le_of_ble_eq_true rfl) ⟨Nat.le_of_ble_eq_true rfl, Nat.le_of_ble_eq_true rfl⟩ (hcc hc) w (rc_wC_18 w) (dq da_X6_atomic 97 rfl) (fun H locs rr w => ?_)
        refine lv_iload hx hb (dq da_X6_atomic 98 rfl) (lv_at hl 8 rfl) ?_
        refine lv_if_eq (tgt := 204) hx hb (dq da_X6_atomic 99 rfl) (by decide) (fun c19 => ?_) (fun c19 => ?_)
        · have h := it c19 h
          refine lv_aload_n hx hb (dq da_X6_atomic 106 rfl) rfl (lv_at hl 5 rfl) ?_
          refine gt_wC_18_bus E w w_245 (dq da_X6_atomic 107 rfl) ?_
          refine lv_lload hx hb (dq da_X6_atomic 108 rfl) (lv_at hl 2 rfl) ?_
          refine lv_iload hx hb (dq da_X6_atomic 109 rfl) (lv_at hl 9 rfl) ?_
          refine lv_iload_n hx hb (dq da_X6_atomic 110 rfl) rfl (lv_at hl 7 rfl) ?_
          refine lv_lload hx hb (dq da_X6_atomic 111 rfl) (lv_at hl 0 rfl) ?_
          refine lv_lload hx hb (dq da_X6_atomic 112 rfl) (lv_at hl 1 rfl) ?_
          refine lv_iload hx hb (dq da_X6_atomic 113 rfl) (lv_at hl 9 rfl) ?_
          refine callP E (c_X0_signed l _ _ ) w_912 w_913 w_17 w_914 hd_X0_signed rfl hl.1 rfl (Nat.le_of_ble_eq_true rfl) ⟨Nat.le_of_ble_eq_true rfl, Nat.le_of_ble_eq_true rfl⟩ (hcc hc) (dq da_X6_atomic 114 rfl) ?_
          refine callP E (c_X0_atomic l _ _ _ ) w_998 w_999 w_17 w_1000 hd_X0_atomic rfl hl.1 rfl (Nat.le_of_ble_eq_true rfl) ⟨Nat.le_of_ble_eq_true rfl, Nat.le_of_ble_eq_true rfl⟩ (hcc hc) (dq da_X6_atomic 115 rfl) ?_
          obtain ⟨y20, hy21, h⟩ := ob h
          obtain ⟨k22, h, hk23⟩ := ak0_of h
          refine cV0k E (c_X1_write l D cy ad _ _ _ _ hy21) w_919 w_920 w_921 w_3 w_922 rfl hd_X1_write rfl hl.1 rfl (Nat.le_of_ble_eq_true rfl) ⟨Nat.le_of_ble_eq_true rfl, Nat.le_of_ble_eq_true rfl⟩ (hcb hc hk23) w (rc_wC_3 w) (dq da_X6_atomic 116 rfl) (fun H locs rr w => ?_)
          have hc := hcd hc hk23
          exact xret_v E hr hlk w (Nat.le_of_add_right_le hc) (congrArg Prod.fst (os h)) (dq da_X6_atomic 117 rfl)
        · have h := ie c19 h
          refine lv_aload_n hx hb (dq da_X6_atomic 100 rfl) rfl (lv_at hl 5 rfl) ?_
          refine gt_wC_18_bus E w w_245 (dq da_X6_atomic 101 rfl) ?_
          refine lv_lload hx hb (dq da_X6_atomic 102 rfl) (lv_at hl 2 rfl) ?_
          refine lv_iload hx hb (dq da_X6_atomic 103 rfl) (lv_at hl 9 rfl) ?_
          refine cV0 E (c_X1_reserve l D cy ad _ _ _ ) w_994 w_995 w_996 w_3 w_997 rfl hd_X1_reserve rfl hl.1 rfl (Nat.le_of_ble_eq_true rfl) ⟨Nat.le_of_ble_eq_true rfl, Nat.le_of_ble_eq_true rfl⟩ (hcc hc) w (rc_wC_3 w) (dq da_X6_atomic 104 rfl) (fun H locs rr w => ?_)
          refine lv_goto (tgt := 228) hx hb (dq da_X6_atomic 105 rfl) (by decide) ?_
          exact xret_v E hr hlk w (Nat.le_of_add_right_le hc) (congrArg Prod.fst (os h)) (dq da_X6_atomic 117 rfl)
      · have h := it c12 h
        refine lv_aload_n hx hb (dq da_X6_atomic 76 rfl) rfl (lv_at hl 3 rfl) ?_
        refine lv_iload_n hx hb (dq da_X6_atomic 77 rfl) rfl (lv_at hl 4 rfl) ?_
        refine lv_lload hx hb (dq da_X6_atomic 78 rfl) (lv_at hl 0 rfl) ?_
        refine lv_iload hx hb (dq da_X6_atomic 79 rfl) (lv_at hl 7 rfl) ?_
        obtain ⟨y24, hy25, h⟩ := ob h
        obtain ⟨k26, h, hk27⟩ := ak0_of h
        refine cV0k E (c_X6_storeReserved l D cy ad _ _ _ _ hy25) w_986 w_988 w_p34 w_9 w_989 rfl hd_X6_storeReserved rfl hl.1 rfl (Nat.le_of_ble_eq_true rfl) ⟨Nat.le_of_ble_eq_true rfl, Nat.le_of_ble_eq_true rfl⟩ (hcb hc hk27) w (rc_wC_18 w) (dq da_X6_atomic 80 rfl) (fun H locs rr w => ?_)
        have hc := hcd hc hk27
        refine lv_goto (tgt := 228) hx hb (dq da_X6_atomic 81 rfl) (by decide) ?_
        exact xret_v E hr hlk w (Nat.le_of_add_right_le hc) (congrArg Prod.fst (os h)) (dq da_X6_atomic 117 rfl)
    · have h := it c11 h
      refine lv_aload_n hx hb (dq da_X6_atomic 67 rfl) rfl (lv_at hl 3 rfl) ?_
      refine lv_iload hx hb (dq da_X6_atomic 68 rfl) (lv_at hl 2 rfl) ?_
      refine callP E (c_X9_accessFault l _ ) w_768 w_738 w_18 w_739 hd_X9_accessFault rfl hl.1 rfl (Nat.le_of_ble_eq_true rfl) ⟨Nat.le_of_ble_eq_true rfl, Nat.le_of_ble_eq_true rfl⟩ (hcc hc) (dq da_X6_atomic 69 rfl) ?_
      refine lv_lload hx hb (dq da_X6_atomic 70 rfl) (lv_at hl 1 rfl) ?_
      refine cV0 E (c_X6_fail l D cy ad _ _ _ ) w_710 w_712 w_p16 w_9 w_713 rfl hd_X6_fail rfl hl.1 rfl (Nat.le_of_ble_eq_true rfl) ⟨Nat.le_of_ble_eq_true rfl, Nat.le_of_ble_eq_true rfl⟩ (hcc hc) w (rc_wC_18 w) (dq da_X6_atomic 71 rfl) (fun H locs rr w => ?_)
      refine lv_goto (tgt := 228) hx hb (dq da_X6_atomic 72 rfl) (by decide) ?_
      exact xret_v E hr hlk w (Nat.le_of_add_right_le hc) (congrArg Prod.fst (os h)) (dq da_X6_atomic 117 rfl)
  · have h := ie c10 h
    exact xret_v E hr hlk w (Nat.le_of_add_right_le hc) (congrArg Prod.fst (os h)) (dq da_X6_atomic 58 rfl)
def f_X6_atomic_b59 (x1 : Int32) (x2 : Int32) (x3 : Int32) (x4 : Int32) (u : St) : Option (St × Nat) := if x4 = (0 : Int32) then (f_X6_atomic_b74 x1 x3 x4 ((1 : Int32) <<< (x2 &&& 31)) (2 : Int32) u) else (f_X6_atomic_b74 x1 x3 x4 ((1 : Int32) <<< (x2 &&& 31)) (1 : Int32) u)
set_option maxRecDepth 100000 in
set_option maxHeartbeats 4000000 in
theorem b_X6_atomic_b59 {p : Program} {l : Launch} {e : Env} {s : State} {m : MethodId} {args : Array Value} {below : List Frame} {meth : Method} {c : Code} {D : va_G} {cy : ClassId × ClassId × ClassId} {ad : Nat → Nat} {A : Nat → Prop} {K : Nat} (E : CallFix p m c cX6_atomic 15 s args gw RX6) (hr : meth.sig.returnType = none) (hlk : meth.locks = false) {x1 : Int32} {x2 : Int32} {x3 : Int32} {x4 : Int32} {u : St} {u' : St} {k' : Nat} (h : f_X6_atomic_b59 x1 x2 x3 x4 u = some (u', k')) {ls : Array Slot} {H : Heap} {locs : List Loc} {rr : Nat → Nat} {cells : Nat} (hc : cells + k' ≤ K) (hl : lv_has ls 15 [(0, .ref (ad 18)), (1, .int x1), (2, .int x2), (3, .int x3), (4, .int x4)]) (w : WX (wC cy ad) D cy rr u A s H locs) : Wx (wC cy ad) D p l e 4 96 K s m args below meth c A u' none H locs cells 59 ls [] := by
  have hx := E.1
  have hb := E.2.1
  have hown := E.2.2.2.1
  have hts := E.2.2.2.2
  refine lv_iconst (v := 1) hx hb (dq da_X6_atomic 34 rfl) rfl ?_
  refine lv_iload_n hx hb (dq da_X6_atomic 35 rfl) rfl (lv_at hl 2 rfl) ?_
  refine lv_ishl hx hb (dq da_X6_atomic 36 rfl) ?_
  refine lv_istore (lv' := [(5, .int ((1 : Int32) <<< (x2 &&& 31))), (0, .ref (ad 18)), (1, .int x1), (2, .int x2), (3, .int x3), (4, .int x4)]) hx hb (dq da_X6_atomic 37 rfl) hl (by decide) rfl (fun ls hl => ?_)
  refine lv_iload hx hb (dq da_X6_atomic 38 rfl) (lv_at hl 5 rfl) ?_
  refine lv_if_eq (tgt := 73) hx hb (dq da_X6_atomic 39 rfl) (by decide) (fun c5 => ?_) (fun c5 => ?_)
  · have h := it c5 h
    refine lv_iconst (v := 2) hx hb (dq da_X6_atomic 42 rfl) rfl ?_
    exact b_X6_atomic_b74 E hr hlk h hc (lv_sub hl [1, 2, 4, 5, 0] rfl) w
  · have h := ie c5 h
    refine lv_iconst (v := 1) hx hb (dq da_X6_atomic 40 rfl) rfl ?_
    refine lv_goto (tgt := 74) hx hb (dq da_X6_atomic 41 rfl) (by decide) ?_
    exact b_X6_atomic_b74 E hr hlk h hc (lv_sub hl [1, 2, 4, 5, 0] rfl) w
def f_X6_atomic_b32 (x1 : Int32) (x2 : Int32) (x3 : Int32) (x4 : Int32) (u : St) : Option (St × Nat) := if (f_X0_isAtomic x3) = (0 : Int32) then (f_X6_atomic_b54 u) else (if x4 = (0 : Int32) then (f_X6_atomic_b59 x1 x2 x3 x4 u) else (if ((x1 >>> ((20 : Int32) &&& 31)) &&& (31 : Int32)) = (0 : Int32) then (f_X6_atomic_b59 x1 x2 x3 x4 u) else (f_X6_atomic_b54 u)))
set_option maxRecDepth 100000 in
set_option maxHeartbeats 4000000 in
theorem b_X6_atomic_b32 {p : Program} {l : Launch} {e : Env} {s : State} {m : MethodId} {args : Array Value} {below : List Frame} {meth : Method} {c : Code} {D : va_G} {cy : ClassId × ClassId × ClassId} {ad : Nat → Nat} {A : Nat → Prop} {K : Nat} (E : CallFix p m c cX6_atomic 15 s args gw RX6) (hr : meth.sig.returnType = none) (hlk : meth.locks = false) {x1 : Int32} {x2 : Int32} {x3 : Int32} {x4 : Int32} {u : St} {u' : St} {k' : Nat} (h : f_X6_atomic_b32 x1 x2 x3 x4 u = some (u', k')) {ls : Array Slot} {H : Heap} {locs : List Loc} {rr : Nat → Nat} {cells : Nat} (hc : cells + k' ≤ K) (hl : lv_has ls 15 [(0, .ref (ad 18)), (1, .int x1), (2, .int x2), (3, .int x3), (4, .int x4)]) (w : WX (wC cy ad) D cy rr u A s H locs) : Wx (wC cy ad) D p l e 4 96 K s m args below meth c A u' none H locs cells 32 ls [] := by
  have hx := E.1
  have hb := E.2.1
  have hown := E.2.2.2.1
  have hts := E.2.2.2.2
  refine lv_iload_n hx hb (dq da_X6_atomic 20 rfl) rfl (lv_at hl 3 rfl) ?_
  refine callP E (c_X0_isAtomic l _ ) w_983 w_984 w_17 w_985 hd_X0_isAtomic rfl hl.1 rfl (Nat.le_of_ble_eq_true rfl) ⟨Nat.le_of_ble_eq_true rfl, Nat.le_of_ble_eq_true rfl⟩ (hcc hc) (dq da_X6_atomic 21 rfl) ?_
  refine lv_if_eq (tgt := 54) hx hb (dq da_X6_atomic 22 rfl) (by decide) (fun c3 => ?_) (fun c3 => ?_)
  · have h := it c3 h
    exact b_X6_atomic_b54 E hr hlk h hc (lv_sub hl [0] rfl) w
  · have h := ie c3 h
    refine lv_iload hx hb (dq da_X6_atomic 23 rfl) (lv_at hl 4 rfl) ?_
    refine lv_if_eq (tgt := 59) hx hb (dq da_X6_atomic 24 rfl) (by decide) (fun c4 => ?_) (fun c4 => ?_)
    · have h := it c4 h
      exact b_X6_atomic_b59 E hr hlk h hc (lv_sub hl [0, 1, 2, 3, 4] rfl) w
    · have h := ie c4 h
      refine lv_iload_n hx hb (dq da_X6_atomic 25 rfl) rfl (lv_at hl 1 rfl) ?_
      refine lv_bipush (v := 20) hx hb (dq da_X6_atomic 26 rfl) rfl ?_
      refine lv_ishr hx hb (dq da_X6_atomic 27 rfl) ?_
      refine lv_bipush (v := 31) hx hb (dq da_X6_atomic 28 rfl) rfl ?_
      refine lv_iand hx hb (dq da_X6_atomic 29 rfl) ?_
      refine lv_if_eq (tgt := 59) hx hb (dq da_X6_atomic 30 rfl) (by decide) (fun c28 => ?_) (fun c28 => ?_)
      · have h := it c28 h
        exact b_X6_atomic_b59 E hr hlk h hc (lv_sub hl [0, 1, 2, 3, 4] rfl) w
      · have h := ie c28 h
        exact b_X6_atomic_b54 E hr hlk h hc (lv_sub hl [0] rfl) w
def f_X6_atomic_b20 (x1 : Int32) (x2 : Int32) (x3 : Int32) (s0 : Int32) (u : St) : Option (St × Nat) := if x2 = (2 : Int32) then (f_X6_atomic_b32 x1 x2 x3 s0 u) else (if x2 = (3 : Int32) then (f_X6_atomic_b32 x1 x2 x3 s0 u) else (f_X6_atomic_b54 u))
set_option maxRecDepth 100000 in
set_option maxHeartbeats 4000000 in
theorem b_X6_atomic_b20 {p : Program} {l : Launch} {e : Env} {s : State} {m : MethodId} {args : Array Value} {below : List Frame} {meth : Method} {c : Code} {D : va_G} {cy : ClassId × ClassId × ClassId} {ad : Nat → Nat} {A : Nat → Prop} {K : Nat} (E : CallFix p m c cX6_atomic 15 s args gw RX6) (hr : meth.sig.returnType = none) (hlk : meth.locks = false) {x1 : Int32} {x2 : Int32} {x3 : Int32} {s0 : Int32} {u : St} {u' : St} {k' : Nat} (h : f_X6_atomic_b20 x1 x2 x3 s0 u = some (u', k')) {ls : Array Slot} {H : Heap} {locs : List Loc} {rr : Nat → Nat} {cells : Nat} (hc : cells + k' ≤ K) (hl : lv_has ls 15 [(0, .ref (ad 18)), (1, .int x1), (2, .int x2), (3, .int x3)]) (w : WX (wC cy ad) D cy rr u A s H locs) : Wx (wC cy ad) D p l e 4 96 K s m args below meth c A u' none H locs cells 20 ls [.int s0] := by
  have hx := E.1
  have hb := E.2.1
  have hown := E.2.2.2.1
  have hts := E.2.2.2.2
  refine lv_istore (lv' := [(4, .int s0), (0, .ref (ad 18)), (1, .int x1), (2, .int x2), (3, .int x3)]) hx hb (dq da_X6_atomic 13 rfl) hl (by decide) rfl (fun ls hl => ?_)
  refine lv_iload_n hx hb (dq da_X6_atomic 14 rfl) rfl (lv_at hl 3 rfl) ?_
  refine lv_iconst (v := 2) hx hb (dq da_X6_atomic 15 rfl) rfl ?_
  refine lv_icmp_eq (tgt := 32) hx hb (dq da_X6_atomic 16 rfl) (by decide) (fun c2 => ?_) (fun c2 => ?_)
  · have h := it c2 h
    exact b_X6_atomic_b32 E hr hlk h hc (lv_sub hl [1, 2, 3, 4, 0] rfl) w
  · have h := ie c2 h
    refine lv_iload_n hx hb (dq da_X6_atomic 17 rfl) rfl (lv_at hl 3 rfl) ?_
    refine lv_iconst (v := 3) hx hb (dq da_X6_atomic 18 rfl) rfl ?_
    refine lv_icmp_ne (tgt := 54) hx hb (dq da_X6_atomic 19 rfl) (by decide) (fun c29 => ?_) (fun c29 => ?_)
    · have h := ie c29 h
      exact b_X6_atomic_b54 E hr hlk h hc (lv_sub hl [1] rfl) w
    · have h := it c29 h
      exact b_X6_atomic_b32 E hr hlk h hc (lv_sub hl [1, 2, 3, 4, 0] rfl) w
def f_X6_atomic (x1 : Int32) (u : St) : Option (St × Nat) := if (j_iushr x1 (27 : Int32)) = (2 : Int32) then (f_X6_atomic_b20 x1 (f_X6_f x1) (j_iushr x1 (27 : Int32)) (1 : Int32) u) else (f_X6_atomic_b20 x1 (f_X6_f x1) (j_iushr x1 (27 : Int32)) (0 : Int32) u)
set_option maxRecDepth 100000 in
set_option maxHeartbeats 4000000 in
theorem c_X6_atomic (l : Launch) (D : va_G) (cy : ClassId × ClassId × ClassId) (ad : Nat → Nat) (x1 : Int32) (u : St) {u' : St} {k' : Nat} (h : f_X6_atomic x1 u = some (u', k')) : MX (wC cy ad) D cy l yX6_atomic cX6_atomic 15 (none) 4 96 k' [.ref (ad 18), .int x1] u u' none := by
  refine entX (by decide +kernel) (Nat.le_of_ble_eq_true rfl) ?_
  intro p e s m args below meth c ls rr A E hr hlk hl w
  have hl : lv_has ls 15 [(0, .ref (ad 18)), (1, .int x1)] := hl
  have hc : 0 + k' ≤ k' := Nat.le_of_eq (Nat.zero_add k')
  have hx := E.1
  have hb := E.2.1
  have hown := E.2.2.2.1
  have hts := E.2.2.2.2
  refine lv_iload_n hx hb (dq da_X6_atomic 0 rfl) rfl (lv_at hl 1 rfl) ?_
  refine callP E (c_X6_f l _ ) w_836 w_837 w_9 w_838 hd_X6_f rfl hl.1 rfl (Nat.le_of_ble_eq_true rfl) ⟨Nat.le_of_ble_eq_true rfl, Nat.le_of_ble_eq_true rfl⟩ (hcc hc) (dq da_X6_atomic 1 rfl) ?_
  refine lv_istore_n (lv' := [(2, .int (f_X6_f x1)), (0, .ref (ad 18)), (1, .int x1)]) hx hb (dq da_X6_atomic 2 rfl) rfl hl (by decide) rfl (fun ls hl => ?_)
  refine lv_iload_n hx hb (dq da_X6_atomic 3 rfl) rfl (lv_at hl 2 rfl) ?_
  refine lv_bipush (v := 27) hx hb (dq da_X6_atomic 4 rfl) rfl ?_
  refine lv_iushr (v := (j_iushr x1 (27 : Int32))) hx hb (dq da_X6_atomic 5 rfl) rfl ?_
  refine lv_istore_n (lv' := [(3, .int (j_iushr x1 (27 : Int32))), (2, .int (f_X6_f x1)), (0, .ref (ad 18)), (1, .int x1)]) hx hb (dq da_X6_atomic 6 rfl) rfl hl (by decide) rfl (fun ls hl => ?_)
  refine lv_iload_n hx hb (dq da_X6_atomic 7 rfl) rfl (lv_at hl 0 rfl) ?_
  refine lv_iconst (v := 2) hx hb (dq da_X6_atomic 8 rfl) rfl ?_
  refine lv_icmp_ne (tgt := 19) hx hb (dq da_X6_atomic 9 rfl) (by decide) (fun c1 => ?_) (fun c1 => ?_)
  · have h := ie c1 h
    refine lv_iconst (v := 0) hx hb (dq da_X6_atomic 12 rfl) rfl ?_
    exact b_X6_atomic_b20 E hr hlk h hc (lv_sub hl [2, 3, 1, 0] rfl) w
  · have h := it c1 h
    refine lv_iconst (v := 1) hx hb (dq da_X6_atomic 10 rfl) rfl ?_
    refine lv_goto (tgt := 20) hx hb (dq da_X6_atomic 11 rfl) (by decide) ?_
    exact b_X6_atomic_b20 E hr hlk h hc (lv_sub hl [2, 3, 1, 0] rfl) w
def dl_X6_execute : List (Nat × Instr × Nat) := [(0, .iload_n 1, 1), (1, .bipush 127, 2), (3, .iand, 1), (4, .lookupswitch 278 #[(3, 191), (15, 247), (19, 207), (23, 138), (27, 215), (35, 199), (47, 239), (51, 223), (55, 124), (59, 231), (99, 183), (103, 175), (111, 157), (115, 255)], 124), (128, .aload_n 0, 1), (129, .iload_n 1, 1), (130, .iload_n 1, 1), (131, .sipush (-4096), 3), (134, .iand, 1), (135, .i2l, 1), (136, .invokevirtual 207, 3), (139, .goto 147, 3), (142, .aload_n 0, 1), (143, .iload_n 1, 1), (144, .aload_n 0, 1), (145, .getfield 17, 3), (148, .iload_n 1, 1), (149, .sipush (-4096), 3), (152, .iand, 1), (153, .i2l, 1), (154, .ladd, 1), (155, .invokevirtual 207, 3), (158, .goto 128, 3), (161, .aload_n 0, 1), (162, .iload_n 1, 1), (163, .aload_n 0, 1), (164, .getfield 17, 3), (167, .iload_n 1, 1), (168, .invokestatic 210, 3), (171, .i2l, 1), (172, .ladd, 1), (173, .invokevirtual 213, 3), (176, .goto 110, 3), (179, .aload_n 0, 1), (180, .iload_n 1, 1), (181, .invokevirtual 216, 3), (184, .goto 102, 3), (187, .aload_n 0, 1), (188, .iload_n 1, 1), (189, .invokevirtual 219, 3), (192, .goto 94, 3), (195, .aload_n 0, 1), (196, .iload_n 1, 1), (197, .invokevirtual 222, 3), (200, .goto 86, 3), (203, .aload_n 0, 1), (204, .iload_n 1, 1), (205, .invokevirtual 225, 3), (208, .goto 78, 3), (211, .aload_n 0, 1), (212, .iload_n 1, 1), (213, .invokevirtual 228, 3), (216, .goto 70, 3), (219, .aload_n 0, 1), (220, .iload_n 1, 1), (221, .invokevirtual 231, 3), (224, .goto 62, 3), (227, .aload_n 0, 1), (228, .iload_n 1, 1), (229, .invokevirtual 234, 3), (232, .goto 54, 3), (235, .aload_n 0, 1), (236, .iload_n 1, 1), (237, .invokevirtual 237, 3), (240, .goto 46, 3), (243, .aload_n 0, 1), (244, .iload_n 1, 1), (245, .invokevirtual 240, 3), (248, .goto 38, 3), (251, .aload_n 0, 1), (252, .iload_n 1, 1), (253, .invokevirtual 243, 3), (256, .goto 30, 3), (259, .iload_n 1, 1), (260, .invokestatic 246, 3), (263, .ifCond .ne 11, 3), (266, .aload_n 0, 1), (267, .iload_n 1, 1), (268, .invokevirtual 249, 3), (271, .goto 15, 3), (274, .aload_n 0, 1), (275, .iload_n 1, 1), (276, .invokevirtual 252, 3), (279, .goto 7, 3), (282, .aload_n 0, 1), (283, .invokevirtual 255, 3), (286, .return_, 1)]
theorem da_X6_execute : dkL cX6_execute dl_X6_execute = true := by decide +kernel
def f_X6_execute (x1 : Int32) (u : St) : Option (St × Nat) := if (x1 &&& (127 : Int32)) = (3 : Int32) then ((f_X6_loadRegister x1 u).bind (fun y2 => some (y2, 0))) else if (x1 &&& (127 : Int32)) = (15 : Int32) then (some ((f_X6_fence x1 u), 0)) else if (x1 &&& (127 : Int32)) = (19 : Int32) then ((f_X6_computeWithConstant x1 u).bind (fun y6 => some (y6, 0))) else if (x1 &&& (127 : Int32)) = (23 : Int32) then ((f_X6_putRd x1 ((gL u 24) + (x1 &&& (-4096 : Int32)).toInt64) u).bind (fun y9 => some (y9, 0))) else if (x1 &&& (127 : Int32)) = (27 : Int32) then ((f_X6_computeNarrowWithConstant x1 u).bind (fun y12 => some (y12, 0))) else if (x1 &&& (127 : Int32)) = (35 : Int32) then ((f_X6_storeRegister x1 u).bind (fun y15 => ak0 y15.2 (some (y15.1, 0)))) else if (x1 &&& (127 : Int32)) = (47 : Int32) then ((f_X6_atomic x1 u).bind (fun y20 => ak0 y20.2 (some (y20.1, 0)))) else if (x1 &&& (127 : Int32)) = (51 : Int32) then ((f_X6_compute x1 u).bind (fun y25 => some (y25, 0))) else if (x1 &&& (127 : Int32)) = (55 : Int32) then ((f_X6_putRd x1 ((x1 &&& (-4096 : Int32)).toInt64) u).bind (fun y28 => some (y28, 0))) else if (x1 &&& (127 : Int32)) = (59 : Int32) then ((f_X6_computeNarrow x1 u).bind (fun y31 => some (y31, 0))) else if (x1 &&& (127 : Int32)) = (99 : Int32) then ((f_X6_branch x1 u).bind (fun y34 => some (y34, 0))) else if (x1 &&& (127 : Int32)) = (103 : Int32) then ((f_X6_jumpByRegister x1 u).bind (fun y37 => some (y37, 0))) else if (x1 &&& (127 : Int32)) = (111 : Int32) then ((f_X6_jump x1 ((gL u 24) + (f_X6_jumpOffset x1).toInt64) u).bind (fun y40 => some (y40, 0))) else if (x1 &&& (127 : Int32)) = (115 : Int32) then (if (f_X6_f x1) = (0 : Int32) then (some ((f_X6_system x1 u), 0)) else ((f_X6_controlInstruction x1 u).bind (fun y44 => some (y44, 0)))) else (some ((f_X6_illegal u), 0))
set_option maxRecDepth 100000 in
set_option maxHeartbeats 4000000 in
theorem c_X6_execute (l : Launch) (D : va_G) (cy : ClassId × ClassId × ClassId) (ad : Nat → Nat) (x1 : Int32) (u : St) {u' : St} {k' : Nat} (h : f_X6_execute x1 u = some (u', k')) : MX (wC cy ad) D cy l yX6_execute cX6_execute 2 (none) 5 130 k' [.ref (ad 18), .int x1] u u' none := by
  refine entX (by decide +kernel) (Nat.le_of_ble_eq_true rfl) ?_
  intro p e s m args below meth c ls rr A E hr hlk hl w
  have hl : lv_has ls 2 [(0, .ref (ad 18)), (1, .int x1)] := hl
  have hc : 0 + k' ≤ k' := Nat.le_of_eq (Nat.zero_add k')
  have hx := E.1
  have hb := E.2.1
  have hown := E.2.2.2.1
  have hts := E.2.2.2.2
  refine lv_iload_n hx hb (dq da_X6_execute 0 rfl) rfl (lv_at hl 1 rfl) ?_
  refine lv_bipush (v := 127) hx hb (dq da_X6_execute 1 rfl) rfl ?_
  refine lv_iand hx hb (dq da_X6_execute 2 rfl) ?_
  by_cases c1 : (x1 &&& (127 : Int32)) = (3 : Int32)
  · have h := it c1 h
    refine lv_lookup (off := 191) (tgt := 195) hx hb (dq da_X6_execute 3 rfl) (by decide +kernel) (by rw [c1]; decide +kernel) (by decide) ?_
    refine lv_aload_n hx hb (dq da_X6_execute 41 rfl) rfl (lv_at hl 0 rfl) ?_
    refine lv_iload_n hx hb (dq da_X6_execute 42 rfl) rfl (lv_at hl 1 rfl) ?_
    obtain ⟨y2, hy3, h⟩ := ob h
    refine cV0 E (c_X6_loadRegister l D cy ad _ _ hy3) w_861 w_863 w_p25 w_9 w_864 rfl hd_X6_loadRegister rfl hl.1 rfl (Nat.le_of_ble_eq_true rfl) ⟨Nat.le_of_ble_eq_true rfl, Nat.le_of_ble_eq_true rfl⟩ (hcc hc) w (rc_wC_18 w) (dq da_X6_execute 43 rfl) (fun H locs rr w => ?_)
    refine lv_goto (tgt := 286) hx hb (dq da_X6_execute 44 rfl) (by decide) ?_
    exact xret_v E hr hlk w (Nat.le_of_add_right_le hc) (congrArg Prod.fst (os h)) (dq da_X6_execute 86 rfl)
  · have h := ie c1 h
    by_cases c4 : (x1 &&& (127 : Int32)) = (15 : Int32)
    · have h := it c4 h
      refine lv_lookup (off := 247) (tgt := 251) hx hb (dq da_X6_execute 3 rfl) (by decide +kernel) (by rw [c4]; decide +kernel) (by decide) ?_
      refine lv_aload_n hx hb (dq da_X6_execute 69 rfl) rfl (lv_at hl 0 rfl) ?_
      refine lv_iload_n hx hb (dq da_X6_execute 70 rfl) rfl (lv_at hl 1 rfl) ?_
      refine cV0 E (c_X6_fence l D cy ad _ _ ) w_1001 w_1003 w_p35 w_9 w_1004 rfl hd_X6_fence rfl hl.1 rfl (Nat.le_of_ble_eq_true rfl) ⟨Nat.le_of_ble_eq_true rfl, Nat.le_of_ble_eq_true rfl⟩ (hcc hc) w (rc_wC_18 w) (dq da_X6_execute 71 rfl) (fun H locs rr w => ?_)
      refine lv_goto (tgt := 286) hx hb (dq da_X6_execute 72 rfl) (by decide) ?_
      exact xret_v E hr hlk w (Nat.le_of_add_right_le hc) (congrArg Prod.fst (os h)) (dq da_X6_execute 86 rfl)
    · have h := ie c4 h
      by_cases c5 : (x1 &&& (127 : Int32)) = (19 : Int32)
      · have h := it c5 h
        refine lv_lookup (off := 207) (tgt := 211) hx hb (dq da_X6_execute 3 rfl) (by decide +kernel) (by rw [c5]; decide +kernel) (by decide) ?_
        refine lv_aload_n hx hb (dq da_X6_execute 49 rfl) rfl (lv_at hl 0 rfl) ?_
        refine lv_iload_n hx hb (dq da_X6_execute 50 rfl) rfl (lv_at hl 1 rfl) ?_
        obtain ⟨y6, hy7, h⟩ := ob h
        refine cV0 E (c_X6_computeWithConstant l D cy ad _ _ hy7) w_941 w_943 w_p29 w_9 w_944 rfl hd_X6_computeWithConstant rfl hl.1 rfl (Nat.le_of_ble_eq_true rfl) ⟨Nat.le_of_ble_eq_true rfl, Nat.le_of_ble_eq_true rfl⟩ (hcc hc) w (rc_wC_18 w) (dq da_X6_execute 51 rfl) (fun H locs rr w => ?_)
        refine lv_goto (tgt := 286) hx hb (dq da_X6_execute 52 rfl) (by decide) ?_
        exact xret_v E hr hlk w (Nat.le_of_add_right_le hc) (congrArg Prod.fst (os h)) (dq da_X6_execute 86 rfl)
      · have h := ie c5 h
        by_cases c8 : (x1 &&& (127 : Int32)) = (23 : Int32)
        · have h := it c8 h
          refine lv_lookup (off := 138) (tgt := 142) hx hb (dq da_X6_execute 3 rfl) (by decide +kernel) (by rw [c8]; decide +kernel) (by decide) ?_
          refine lv_aload_n hx hb (dq da_X6_execute 12 rfl) rfl (lv_at hl 0 rfl) ?_
          refine lv_iload_n hx hb (dq da_X6_execute 13 rfl) rfl (lv_at hl 1 rfl) ?_
          refine lv_aload_n hx hb (dq da_X6_execute 14 rfl) rfl (lv_at hl 0 rfl) ?_
          refine gt_wC_18_pc E w w_249 (dq da_X6_execute 15 rfl) ?_
          refine lv_iload_n hx hb (dq da_X6_execute 16 rfl) rfl (lv_at hl 1 rfl) ?_
          refine lv_sipush (v := (-4096)) hx hb (dq da_X6_execute 17 rfl) rfl ?_
          refine lv_iand hx hb (dq da_X6_execute 18 rfl) ?_
          refine lv_i2l (v := (x1 &&& (-4096 : Int32)).toInt64) hx hb (dq da_X6_execute 19 rfl) rfl ?_
          refine lv_ladd hx hb (dq da_X6_execute 20 rfl) ?_
          obtain ⟨y9, hy10, h⟩ := ob h
          refine cV0 E (c_X6_putRd l D cy ad _ _ _ hy10) w_820 w_822 w_p18 w_9 w_823 rfl hd_X6_putRd rfl hl.1 rfl (Nat.le_of_ble_eq_true rfl) ⟨Nat.le_of_ble_eq_true rfl, Nat.le_of_ble_eq_true rfl⟩ (hcc hc) w (rc_wC_18 w) (dq da_X6_execute 21 rfl) (fun H locs rr w => ?_)
          refine lv_goto (tgt := 286) hx hb (dq da_X6_execute 22 rfl) (by decide) ?_
          exact xret_v E hr hlk w (Nat.le_of_add_right_le hc) (congrArg Prod.fst (os h)) (dq da_X6_execute 86 rfl)
        · have h := ie c8 h
          by_cases c11 : (x1 &&& (127 : Int32)) = (27 : Int32)
          · have h := it c11 h
            refine lv_lookup (off := 215) (tgt := 219) hx hb (dq da_X6_execute 3 rfl) (by decide +kernel) (by rw [c11]; decide +kernel) (by decide) ?_
            refine lv_aload_n hx hb (dq da_X6_execute 53 rfl) rfl (lv_at hl 0 rfl) ?_
            refine lv_iload_n hx hb (dq da_X6_execute 54 rfl) rfl (lv_at hl 1 rfl) ?_
            obtain ⟨y12, hy13, h⟩ := ob h
            refine cV0 E (c_X6_computeNarrowWithConstant l D cy ad _ _ hy13) w_950 w_952 w_p30 w_9 w_953 rfl hd_X6_computeNarrowWithConstant rfl hl.1 rfl (Nat.le_of_ble_eq_true rfl) ⟨Nat.le_of_ble_eq_true rfl, Nat.le_of_ble_eq_true rfl⟩ (hcc hc) w (rc_wC_18 w) (dq da_X6_execute 55 rfl) (fun H locs rr w => ?_)
            refine lv_goto (tgt := 286) hx hb (dq da_X6_execute 56 rfl) (by decide) ?_
            exact xret_v E hr hlk w (Nat.le_of_add_right_le hc) (congrArg Prod.fst (os h)) (dq da_X6_execute 86 rfl)
          · have h := ie c11 h
            by_cases c14 : (x1 &&& (127 : Int32)) = (35 : Int32)
            · have h := it c14 h
              refine lv_lookup (off := 199) (tgt := 203) hx hb (dq da_X6_execute 3 rfl) (by decide +kernel) (by rw [c14]; decide +kernel) (by decide) ?_
              refine lv_aload_n hx hb (dq da_X6_execute 45 rfl) rfl (lv_at hl 0 rfl) ?_
              refine lv_iload_n hx hb (dq da_X6_execute 46 rfl) rfl (lv_at hl 1 rfl) ?_
              obtain ⟨y15, hy16, h⟩ := ob h
              obtain ⟨k17, h, hk18⟩ := ak0_of h
              refine cV0k E (c_X6_storeRegister l D cy ad _ _ hy16) w_915 w_917 w_p27 w_9 w_918 rfl hd_X6_storeRegister rfl hl.1 rfl (Nat.le_of_ble_eq_true rfl) ⟨Nat.le_of_ble_eq_true rfl, Nat.le_of_ble_eq_true rfl⟩ (hcb hc hk18) w (rc_wC_18 w) (dq da_X6_execute 47 rfl) (fun H locs rr w => ?_)
              have hc := hcd hc hk18
              refine lv_goto (tgt := 286) hx hb (dq da_X6_execute 48 rfl) (by decide) ?_
              exact xret_v E hr hlk w (Nat.le_of_add_right_le hc) (congrArg Prod.fst (os h)) (dq da_X6_execute 86 rfl)
            · have h := ie c14 h
              by_cases c19 : (x1 &&& (127 : Int32)) = (47 : Int32)
              · have h := it c19 h
                refine lv_lookup (off := 239) (tgt := 243) hx hb (dq da_X6_execute 3 rfl) (by decide +kernel) (by rw [c19]; decide +kernel) (by decide) ?_
                refine lv_aload_n hx hb (dq da_X6_execute 65 rfl) rfl (lv_at hl 0 rfl) ?_
                refine lv_iload_n hx hb (dq da_X6_execute 66 rfl) rfl (lv_at hl 1 rfl) ?_
                obtain ⟨y20, hy21, h⟩ := ob h
                obtain ⟨k22, h, hk23⟩ := ak0_of h
                refine cV0k E (c_X6_atomic l D cy ad _ _ hy21) w_979 w_981 w_p33 w_9 w_982 rfl hd_X6_atomic rfl hl.1 rfl (Nat.le_of_ble_eq_true rfl) ⟨Nat.le_of_ble_eq_true rfl, Nat.le_of_ble_eq_true rfl⟩ (hcb hc hk23) w (rc_wC_18 w) (dq da_X6_execute 67 rfl) (fun H locs rr w => ?_)
                have hc := hcd hc hk23
                refine lv_goto (tgt := 286) hx hb (dq da_X6_execute 68 rfl) (by decide) ?_
                exact xret_v E hr hlk w (Nat.le_of_add_right_le hc) (congrArg Prod.fst (os h)) (dq da_X6_execute 86 rfl)
              · have h := ie c19 h
                by_cases c24 : (x1 &&& (127 : Int32)) = (51 : Int32)
                · have h := it c24 h
                  refine lv_lookup (off := 223) (tgt := 227) hx hb (dq da_X6_execute 3 rfl) (by decide +kernel) (by rw [c24]; decide +kernel) (by decide) ?_
                  refine lv_aload_n hx hb (dq da_X6_execute 57 rfl) rfl (lv_at hl 0 rfl) ?_
                  refine lv_iload_n hx hb (dq da_X6_execute 58 rfl) rfl (lv_at hl 1 rfl) ?_
                  obtain ⟨y25, hy26, h⟩ := ob h
                  refine cV0 E (c_X6_compute l D cy ad _ _ hy26) w_957 w_959 w_p31 w_9 w_960 rfl hd_X6_compute rfl hl.1 rfl (Nat.le_of_ble_eq_true rfl) ⟨Nat.le_of_ble_eq_true rfl, Nat.le_of_ble_eq_true rfl⟩ (hcc hc) w (rc_wC_18 w) (dq da_X6_execute 59 rfl) (fun H locs rr w => ?_)
                  refine lv_goto (tgt := 286) hx hb (dq da_X6_execute 60 rfl) (by decide) ?_
                  exact xret_v E hr hlk w (Nat.le_of_add_right_le hc) (congrArg Prod.fst (os h)) (dq da_X6_execute 86 rfl)
                · have h := ie c24 h
                  by_cases c27 : (x1 &&& (127 : Int32)) = (55 : Int32)
                  · have h := it c27 h
                    refine lv_lookup (off := 124) (tgt := 128) hx hb (dq da_X6_execute 3 rfl) (by decide +kernel) (by rw [c27]; decide +kernel) (by decide) ?_
                    refine lv_aload_n hx hb (dq da_X6_execute 4 rfl) rfl (lv_at hl 0 rfl) ?_
                    refine lv_iload_n hx hb (dq da_X6_execute 5 rfl) rfl (lv_at hl 1 rfl) ?_
                    refine lv_iload_n hx hb (dq da_X6_execute 6 rfl) rfl (lv_at hl 1 rfl) ?_
                    refine lv_sipush (v := (-4096)) hx hb (dq da_X6_execute 7 rfl) rfl ?_
                    refine lv_iand hx hb (dq da_X6_execute 8 rfl) ?_
                    refine lv_i2l (v := (x1 &&& (-4096 : Int32)).toInt64) hx hb (dq da_X6_execute 9 rfl) rfl ?_
                    obtain ⟨y28, hy29, h⟩ := ob h
                    refine cV0 E (c_X6_putRd l D cy ad _ _ _ hy29) w_820 w_822 w_p18 w_9 w_823 rfl hd_X6_putRd rfl hl.1 rfl (Nat.le_of_ble_eq_true rfl) ⟨Nat.le_of_ble_eq_true rfl, Nat.le_of_ble_eq_true rfl⟩ (hcc hc) w (rc_wC_18 w) (dq da_X6_execute 10 rfl) (fun H locs rr w => ?_)
                    refine lv_goto (tgt := 286) hx hb (dq da_X6_execute 11 rfl) (by decide) ?_
                    exact xret_v E hr hlk w (Nat.le_of_add_right_le hc) (congrArg Prod.fst (os h)) (dq da_X6_execute 86 rfl)
                  · have h := ie c27 h
                    by_cases c30 : (x1 &&& (127 : Int32)) = (59 : Int32)
                    · have h := it c30 h
                      refine lv_lookup (off := 231) (tgt := 235) hx hb (dq da_X6_execute 3 rfl) (by decide +kernel) (by rw [c30]; decide +kernel) (by decide) ?_
                      refine lv_aload_n hx hb (dq da_X6_execute 61 rfl) rfl (lv_at hl 0 rfl) ?_
                      refine lv_iload_n hx hb (dq da_X6_execute 62 rfl) rfl (lv_at hl 1 rfl) ?_
                      obtain ⟨y31, hy32, h⟩ := ob h
                      refine cV0 E (c_X6_computeNarrow l D cy ad _ _ hy32) w_972 w_974 w_p32 w_9 w_975 rfl hd_X6_computeNarrow rfl hl.1 rfl (Nat.le_of_ble_eq_true rfl) ⟨Nat.le_of_ble_eq_true rfl, Nat.le_of_ble_eq_true rfl⟩ (hcc hc) w (rc_wC_18 w) (dq da_X6_execute 63 rfl) (fun H locs rr w => ?_)
                      refine lv_goto (tgt := 286) hx hb (dq da_X6_execute 64 rfl) (by decide) ?_
                      exact xret_v E hr hlk w (Nat.le_of_add_right_le hc) (congrArg Prod.fst (os h)) (dq da_X6_execute 86 rfl)
                    · have h := ie c30 h
                      by_cases c33 : (x1 &&& (127 : Int32)) = (99 : Int32)
                      · have h := it c33 h
                        refine lv_lookup (off := 183) (tgt := 187) hx hb (dq da_X6_execute 3 rfl) (by decide +kernel) (by rw [c33]; decide +kernel) (by decide) ?_
                        refine lv_aload_n hx hb (dq da_X6_execute 37 rfl) rfl (lv_at hl 0 rfl) ?_
                        refine lv_iload_n hx hb (dq da_X6_execute 38 rfl) rfl (lv_at hl 1 rfl) ?_
                        obtain ⟨y34, hy35, h⟩ := ob h
                        refine cV0 E (c_X6_branch l D cy ad _ _ hy35) w_849 w_851 w_p23 w_9 w_852 rfl hd_X6_branch rfl hl.1 rfl (Nat.le_of_ble_eq_true rfl) ⟨Nat.le_of_ble_eq_true rfl, Nat.le_of_ble_eq_true rfl⟩ (hcc hc) w (rc_wC_18 w) (dq da_X6_execute 39 rfl) (fun H locs rr w => ?_)
                        refine lv_goto (tgt := 286) hx hb (dq da_X6_execute 40 rfl) (by decide) ?_
                        exact xret_v E hr hlk w (Nat.le_of_add_right_le hc) (congrArg Prod.fst (os h)) (dq da_X6_execute 86 rfl)
                      · have h := ie c33 h
                        by_cases c36 : (x1 &&& (127 : Int32)) = (103 : Int32)
                        · have h := it c36 h
                          refine lv_lookup (off := 175) (tgt := 179) hx hb (dq da_X6_execute 3 rfl) (by decide +kernel) (by rw [c36]; decide +kernel) (by decide) ?_
                          refine lv_aload_n hx hb (dq da_X6_execute 33 rfl) rfl (lv_at hl 0 rfl) ?_
                          refine lv_iload_n hx hb (dq da_X6_execute 34 rfl) rfl (lv_at hl 1 rfl) ?_
                          obtain ⟨y37, hy38, h⟩ := ob h
                          refine cV0 E (c_X6_jumpByRegister l D cy ad _ _ hy38) w_832 w_834 w_p20 w_9 w_835 rfl hd_X6_jumpByRegister rfl hl.1 rfl (Nat.le_of_ble_eq_true rfl) ⟨Nat.le_of_ble_eq_true rfl, Nat.le_of_ble_eq_true rfl⟩ (hcc hc) w (rc_wC_18 w) (dq da_X6_execute 35 rfl) (fun H locs rr w => ?_)
                          refine lv_goto (tgt := 286) hx hb (dq da_X6_execute 36 rfl) (by decide) ?_
                          exact xret_v E hr hlk w (Nat.le_of_add_right_le hc) (congrArg Prod.fst (os h)) (dq da_X6_execute 86 rfl)
                        · have h := ie c36 h
                          by_cases c39 : (x1 &&& (127 : Int32)) = (111 : Int32)
                          · have h := it c39 h
                            refine lv_lookup (off := 157) (tgt := 161) hx hb (dq da_X6_execute 3 rfl) (by decide +kernel) (by rw [c39]; decide +kernel) (by decide) ?_
                            refine lv_aload_n hx hb (dq da_X6_execute 23 rfl) rfl (lv_at hl 0 rfl) ?_
                            refine lv_iload_n hx hb (dq da_X6_execute 24 rfl) rfl (lv_at hl 1 rfl) ?_
                            refine lv_aload_n hx hb (dq da_X6_execute 25 rfl) rfl (lv_at hl 0 rfl) ?_
                            refine gt_wC_18_pc E w w_249 (dq da_X6_execute 26 rfl) ?_
                            refine lv_iload_n hx hb (dq da_X6_execute 27 rfl) rfl (lv_at hl 1 rfl) ?_
                            refine callP E (c_X6_jumpOffset l _ ) w_824 w_825 w_9 w_826 hd_X6_jumpOffset rfl hl.1 rfl (Nat.le_of_ble_eq_true rfl) ⟨Nat.le_of_ble_eq_true rfl, Nat.le_of_ble_eq_true rfl⟩ (hcc hc) (dq da_X6_execute 28 rfl) ?_
                            refine lv_i2l (v := (f_X6_jumpOffset x1).toInt64) hx hb (dq da_X6_execute 29 rfl) rfl ?_
                            refine lv_ladd hx hb (dq da_X6_execute 30 rfl) ?_
                            obtain ⟨y40, hy41, h⟩ := ob h
                            refine cV0 E (c_X6_jump l D cy ad _ _ _ hy41) w_828 w_830 w_p19 w_9 w_831 rfl hd_X6_jump rfl hl.1 rfl (Nat.le_of_ble_eq_true rfl) ⟨Nat.le_of_ble_eq_true rfl, Nat.le_of_ble_eq_true rfl⟩ (hcc hc) w (rc_wC_18 w) (dq da_X6_execute 31 rfl) (fun H locs rr w => ?_)
                            refine lv_goto (tgt := 286) hx hb (dq da_X6_execute 32 rfl) (by decide) ?_
                            exact xret_v E hr hlk w (Nat.le_of_add_right_le hc) (congrArg Prod.fst (os h)) (dq da_X6_execute 86 rfl)
                          · have h := ie c39 h
                            by_cases c42 : (x1 &&& (127 : Int32)) = (115 : Int32)
                            · have h := it c42 h
                              refine lv_lookup (off := 255) (tgt := 259) hx hb (dq da_X6_execute 3 rfl) (by decide +kernel) (by rw [c42]; decide +kernel) (by decide) ?_
                              refine lv_iload_n hx hb (dq da_X6_execute 73 rfl) rfl (lv_at hl 1 rfl) ?_
                              refine callP E (c_X6_f l _ ) w_836 w_837 w_9 w_838 hd_X6_f rfl hl.1 rfl (Nat.le_of_ble_eq_true rfl) ⟨Nat.le_of_ble_eq_true rfl, Nat.le_of_ble_eq_true rfl⟩ (hcc hc) (dq da_X6_execute 74 rfl) ?_
                              refine lv_if_ne (tgt := 274) hx hb (dq da_X6_execute 75 rfl) (by decide) (fun c43 => ?_) (fun c43 => ?_)
                              · have h := ie c43 h
                                refine lv_aload_n hx hb (dq da_X6_execute 80 rfl) rfl (lv_at hl 0 rfl) ?_
                                refine lv_iload_n hx hb (dq da_X6_execute 81 rfl) rfl (lv_at hl 1 rfl) ?_
                                obtain ⟨y44, hy45, h⟩ := ob h
                                refine cV0 E (c_X6_controlInstruction l D cy ad _ _ hy45) w_1034 w_1036 w_p40 w_9 w_1037 rfl hd_X6_controlInstruction rfl hl.1 rfl (Nat.le_of_ble_eq_true rfl) ⟨Nat.le_of_ble_eq_true rfl, Nat.le_of_ble_eq_true rfl⟩ (hcc hc) w (rc_wC_18 w) (dq da_X6_execute 82 rfl) (fun H locs rr w => ?_)
                                refine lv_goto (tgt := 286) hx hb (dq da_X6_execute 83 rfl) (by decide) ?_
                                exact xret_v E hr hlk w (Nat.le_of_add_right_le hc) (congrArg Prod.fst (os h)) (dq da_X6_execute 86 rfl)
                              · have h := it c43 h
                                refine lv_aload_n hx hb (dq da_X6_execute 76 rfl) rfl (lv_at hl 0 rfl) ?_
                                refine lv_iload_n hx hb (dq da_X6_execute 77 rfl) rfl (lv_at hl 1 rfl) ?_
                                refine cV0 E (c_X6_system l D cy ad _ _ ) w_1005 w_1007 w_p36 w_9 w_1008 rfl hd_X6_system rfl hl.1 rfl (Nat.le_of_ble_eq_true rfl) ⟨Nat.le_of_ble_eq_true rfl, Nat.le_of_ble_eq_true rfl⟩ (hcc hc) w (rc_wC_18 w) (dq da_X6_execute 78 rfl) (fun H locs rr w => ?_)
                                refine lv_goto (tgt := 286) hx hb (dq da_X6_execute 79 rfl) (by decide) ?_
                                exact xret_v E hr hlk w (Nat.le_of_add_right_le hc) (congrArg Prod.fst (os h)) (dq da_X6_execute 86 rfl)
                            · have h := ie c42 h
                              refine lv_lookup (off := 278) (tgt := 282) hx hb (dq da_X6_execute 3 rfl) (by decide +kernel) (by show Op.lookupswitch.offset [(3, 191), (15, 247), (19, 207), (23, 138), (27, 215), (35, 199), (47, 239), (51, 223), (55, 124), (59, 231), (99, 183), (103, 175), (111, 157), (115, 255)] (278) _ = _; rw [lv_osw (k := (3 : Int32)) (a := 3) c1 rfl, lv_osw (k := (15 : Int32)) (a := 15) c4 rfl, lv_osw (k := (19 : Int32)) (a := 19) c5 rfl, lv_osw (k := (23 : Int32)) (a := 23) c8 rfl, lv_osw (k := (27 : Int32)) (a := 27) c11 rfl, lv_osw (k := (35 : Int32)) (a := 35) c14 rfl, lv_osw (k := (47 : Int32)) (a := 47) c19 rfl, lv_osw (k := (51 : Int32)) (a := 51) c24 rfl, lv_osw (k := (55 : Int32)) (a := 55) c27 rfl, lv_osw (k := (59 : Int32)) (a := 59) c30 rfl, lv_osw (k := (99 : Int32)) (a := 99) c33 rfl, lv_osw (k := (103 : Int32)) (a := 103) c36 rfl, lv_osw (k := (111 : Int32)) (a := 111) c39 rfl, lv_osw (k := (115 : Int32)) (a := 115) c42 rfl]; rfl) (by decide) ?_
                              refine lv_aload_n hx hb (dq da_X6_execute 84 rfl) rfl (lv_at hl 0 rfl) ?_
                              refine cV0 E (c_X6_illegal l D cy ad _ ) w_844 w_846 w_p22 w_9 w_847 rfl hd_X6_illegal rfl hl.1 rfl (Nat.le_of_ble_eq_true rfl) ⟨Nat.le_of_ble_eq_true rfl, Nat.le_of_ble_eq_true rfl⟩ (hcc hc) w (rc_wC_18 w) (dq da_X6_execute 85 rfl) (fun H locs rr w => ?_)
                              exact xret_v E hr hlk w (Nat.le_of_add_right_le hc) (congrArg Prod.fst (os h)) (dq da_X6_execute 86 rfl)
def dl_X6_advance : List (Nat × Instr × Nat) := [(0, .aload_n 0, 1), (1, .iconst (-1), 1), (2, .putfield 25, 3), (5, .aload_n 0, 1), (6, .invokevirtual 39, 3), (9, .istore_n 1, 1), (10, .iload_n 1, 1), (11, .iconst (-1), 1), (12, .if_icmp .eq 31, 3), (15, .aload_n 0, 1), (16, .dup, 1), (17, .getfield 43, 3), (20, .iconst 1, 1), (21, .iadd, 1), (22, .putfield 43, 3), (25, .aload_n 0, 1), (26, .bipush 64, 2), (28, .iload_n 1, 1), (29, .iadd, 1), (30, .putfield 28, 3), (33, .aload_n 0, 1), (34, .iload_n 1, 1), (35, .iconst 1, 1), (36, .lconst 0, 1), (37, .invokevirtual 46, 3), (40, .goto 84, 3), (43, .aload_n 0, 1), (44, .invokevirtual 50, 3), (47, .istore_n 2, 1), (48, .aload_n 0, 1), (49, .getfield 25, 3), (52, .iconst (-1), 1), (53, .if_icmp .ne 8, 3), (56, .aload_n 0, 1), (57, .iload_n 2, 1), (58, .invokevirtual 53, 3), (61, .aload_n 0, 1), (62, .getfield 25, 3), (65, .iconst (-1), 1), (66, .if_icmp .ne 27, 3), (69, .aload_n 0, 1), (70, .aload_n 0, 1), (71, .getfield 57, 3), (74, .putfield 17, 3), (77, .aload_n 0, 1), (78, .getfield 35, 3), (81, .dup, 1), (82, .getfield 60, 3), (85, .lconst 1, 1), (86, .ladd, 1), (87, .putfield 60, 3), (90, .goto 34, 3), (93, .aload_n 0, 1), (94, .dup, 1), (95, .getfield 65, 3), (98, .iconst 1, 1), (99, .iadd, 1), (100, .putfield 65, 3), (103, .aload_n 0, 1), (104, .aload_n 0, 1), (105, .getfield 25, 3), (108, .putfield 28, 3), (111, .aload_n 0, 1), (112, .aload_n 0, 1), (113, .getfield 25, 3), (116, .iconst 0, 1), (117, .aload_n 0, 1), (118, .getfield 68, 3), (121, .invokevirtual 46, 3), (124, .aload_n 0, 1), (125, .getfield 35, 3), (128, .dup, 1), (129, .getfield 71, 3), (132, .lconst 1, 1), (133, .ladd, 1), (134, .putfield 71, 3), (137, .aload_n 0, 1), (138, .getfield 31, 3), (141, .dup, 1), (142, .getfield 74, 3), (145, .lconst 1, 1), (146, .ladd, 1), (147, .putfield 74, 3), (150, .aload_n 0, 1), (151, .getfield 31, 3), (154, .invokevirtual 79, 3), (157, .iload_n 1, 1), (158, .iconst (-1), 1), (159, .if_icmp .ne 15, 3), (162, .aload_n 0, 1), (163, .getfield 25, 3), (166, .iconst (-1), 1), (167, .if_icmp .ne 7, 3), (170, .iconst 1, 1), (171, .goto 4, 3), (174, .iconst 0, 1), (175, .ireturn, 1)]
theorem da_X6_advance : dkL cX6_advance dl_X6_advance = true := by decide +kernel
def f_X6_advance_b174 (u : St) : Option (Int32 × St × Nat) := some ((0 : Int32), u, 0)
set_option maxRecDepth 100000 in
set_option maxHeartbeats 4000000 in
theorem b_X6_advance_b174 {p : Program} {l : Launch} {e : Env} {s : State} {m : MethodId} {args : Array Value} {below : List Frame} {meth : Method} {c : Code} {D : va_G} {cy : ClassId × ClassId × ClassId} {ad : Nat → Nat} {A : Nat → Prop} {K : Nat} (E : CallFix p m c cX6_advance 3 s args gw RX6) (hr : meth.sig.returnType = some .boolean) (hlk : meth.locks = false) {u : St} {r : Int32} {u' : St} {k' : Nat} (h : f_X6_advance_b174 u = some (r, u', k')) {ls : Array Slot} {H : Heap} {locs : List Loc} {rr : Nat → Nat} {cells : Nat} (hc : cells + k' ≤ K) (hl : lv_has ls 3 []) (w : WX (wC cy ad) D cy rr u A s H locs) : Wx (wC cy ad) D p l e 6 151 K s m args below meth c A u' (some (.int r)) H locs cells 174 ls [] := by
  have hx := E.1
  have hb := E.2.1
  have hown := E.2.2.2.1
  have hts := E.2.2.2.2
  refine lv_iconst (v := 0) hx hb (dq da_X6_advance 95 rfl) rfl ?_
  exact xret_z E hr hlk rfl w (Nat.le_of_add_right_le hc) (congrArg Prod.fst (os h)) (congrArg (fun q => q.2.1) (os h)) (dq da_X6_advance 96 rfl)
def f_X6_advance_b124 (x1 : Int32) (u : St) : Option (Int32 × St × Nat) := if x1 = (-1 : Int32) then (if (gI (f_X1_settle (sL (sL u 10 ((gL u 10) + (1 : Int64))) 2 ((gL (sL u 10 ((gL u 10) + (1 : Int64))) 2) + (1 : Int64)))) 18) = (-1 : Int32) then (some ((1 : Int32), (f_X1_settle (sL (sL u 10 ((gL u 10) + (1 : Int64))) 2 ((gL (sL u 10 ((gL u 10) + (1 : Int64))) 2) + (1 : Int64)))), 0)) else (f_X6_advance_b174 (f_X1_settle (sL (sL u 10 ((gL u 10) + (1 : Int64))) 2 ((gL (sL u 10 ((gL u 10) + (1 : Int64))) 2) + (1 : Int64)))))) else (f_X6_advance_b174 (f_X1_settle (sL (sL u 10 ((gL u 10) + (1 : Int64))) 2 ((gL (sL u 10 ((gL u 10) + (1 : Int64))) 2) + (1 : Int64)))))
set_option maxRecDepth 100000 in
set_option maxHeartbeats 4000000 in
theorem b_X6_advance_b124 {p : Program} {l : Launch} {e : Env} {s : State} {m : MethodId} {args : Array Value} {below : List Frame} {meth : Method} {c : Code} {D : va_G} {cy : ClassId × ClassId × ClassId} {ad : Nat → Nat} {A : Nat → Prop} {K : Nat} (E : CallFix p m c cX6_advance 3 s args gw RX6) (hr : meth.sig.returnType = some .boolean) (hlk : meth.locks = false) {x1 : Int32} {u : St} {r : Int32} {u' : St} {k' : Nat} (h : f_X6_advance_b124 x1 u = some (r, u', k')) {ls : Array Slot} {H : Heap} {locs : List Loc} {rr : Nat → Nat} {cells : Nat} (hc : cells + k' ≤ K) (hl : lv_has ls 3 [(0, .ref (ad 18)), (1, .int x1)]) (w : WX (wC cy ad) D cy rr u A s H locs) : Wx (wC cy ad) D p l e 6 151 K s m args below meth c A u' (some (.int r)) H locs cells 124 ls [] := by
  have hx := E.1
  have hb := E.2.1
  have hown := E.2.2.2.1
  have hts := E.2.2.2.2
  refine lv_aload_n hx hb (dq da_X6_advance 69 rfl) rfl (lv_at hl 0 rfl) ?_
  refine gt_wC_18_controls E w w_246 (dq da_X6_advance 70 rfl) ?_
  refine lv_dup hx hb (dq da_X6_advance 71 rfl) rfl ?_
  refine gtN_wC_15_cycle E w n_28 (dq da_X6_advance 72 rfl) ?_
  refine lv_lconst (v := 1) hx hb (dq da_X6_advance 73 rfl) rfl ?_
  refine lv_ladd hx hb (dq da_X6_advance 74 rfl) ?_
  refine ptN_wC_15_cycle E w n_28 (dq da_X6_advance 75 rfl) (fun H locs w => ?_)
  refine lv_aload_n hx hb (dq da_X6_advance 76 rfl) rfl (lv_at hl 0 rfl) ?_
  refine gt_wC_18_bus E w w_245 (dq da_X6_advance 77 rfl) ?_
  refine lv_dup hx hb (dq da_X6_advance 78 rfl) rfl ?_
  refine gtN_wC_3_time E w n_12 (dq da_X6_advance 79 rfl) ?_
  refine lv_lconst (v := 1) hx hb (dq da_X6_advance 80 rfl) rfl ?_
  refine lv_ladd hx hb (dq da_X6_advance 81 rfl) ?_
  refine ptN_wC_3_time E w n_12 (dq da_X6_advance 82 rfl) (fun H locs w => ?_)
  refine lv_aload_n hx hb (dq da_X6_advance 83 rfl) rfl (lv_at hl 0 rfl) ?_
  refine gt_wC_18_bus E w w_245 (dq da_X6_advance 84 rfl) ?_
  refine cV0 E (c_X1_settle l D cy ad _ ) w_1050 w_481 w_482 w_3 w_483 rfl hd_X1_settle rfl hl.1 rfl (Nat.le_of_ble_eq_true rfl) ⟨Nat.le_of_ble_eq_true rfl, Nat.le_of_ble_eq_true rfl⟩ (hcc hc) w (rc_wC_3 w) (dq da_X6_advance 85 rfl) (fun H locs rr w => ?_)
  refine lv_iload_n hx hb (dq da_X6_advance 86 rfl) rfl (lv_at hl 1 rfl) ?_
  refine lv_iconst (v := (-1)) hx hb (dq da_X6_advance 87 rfl) rfl ?_
  refine lv_icmp_ne (tgt := 174) hx hb (dq da_X6_advance 88 rfl) (by decide) (fun c8 => ?_) (fun c8 => ?_)
  · have h := ie c8 h
    exact b_X6_advance_b174 E hr hlk h hc (lv_sub hl [] rfl) w
  · have h := it c8 h
    refine lv_aload_n hx hb (dq da_X6_advance 89 rfl) rfl (lv_at hl 0 rfl) ?_
    refine gt_wC_18_cause E w w_255 (dq da_X6_advance 90 rfl) ?_
    refine lv_iconst (v := (-1)) hx hb (dq da_X6_advance 91 rfl) rfl ?_
    refine lv_icmp_ne (tgt := 174) hx hb (dq da_X6_advance 92 rfl) (by decide) (fun c9 => ?_) (fun c9 => ?_)
    · have h := ie c9 h
      exact b_X6_advance_b174 E hr hlk h hc (lv_sub hl [] rfl) w
    · have h := it c9 h
      refine lv_iconst (v := 1) hx hb (dq da_X6_advance 93 rfl) rfl ?_
      refine lv_goto (tgt := 175) hx hb (dq da_X6_advance 94 rfl) (by decide) ?_
      exact xret_z E hr hlk rfl w (Nat.le_of_add_right_le hc) (congrArg Prod.fst (os h)) (congrArg (fun q => q.2.1) (os h)) (dq da_X6_advance 96 rfl)
def f_X6_advance_b61 (x1 : Int32) (u : St) : Option (Int32 × St × Nat) := if (gI u 18) = (-1 : Int32) then (f_X6_advance_b124 x1 (sL (sL u 24 (gL u 25)) 11 ((gL (sL u 24 (gL u 25)) 11) + (1 : Int64)))) else (f_X6_advance_b124 x1 (f_X6_enter (gI (sI (sI u 19 ((gI u 19) + (1 : Int32))) 21 (gI (sI u 19 ((gI u 19) + (1 : Int32))) 18)) 18) (0 : Int32) (gL (sI (sI u 19 ((gI u 19) + (1 : Int32))) 21 (gI (sI u 19 ((gI u 19) + (1 : Int32))) 18)) 26) (sI (sI u 19 ((gI u 19) + (1 : Int32))) 21 (gI (sI u 19 ((gI u 19) + (1 : Int32))) 18))))
set_option maxRecDepth 100000 in
set_option maxHeartbeats 4000000 in
theorem b_X6_advance_b61 {p : Program} {l : Launch} {e : Env} {s : State} {m : MethodId} {args : Array Value} {below : List Frame} {meth : Method} {c : Code} {D : va_G} {cy : ClassId × ClassId × ClassId} {ad : Nat → Nat} {A : Nat → Prop} {K : Nat} (E : CallFix p m c cX6_advance 3 s args gw RX6) (hr : meth.sig.returnType = some .boolean) (hlk : meth.locks = false) {x1 : Int32} {u : St} {r : Int32} {u' : St} {k' : Nat} (h : f_X6_advance_b61 x1 u = some (r, u', k')) {ls : Array Slot} {H : Heap} {locs : List Loc} {rr : Nat → Nat} {cells : Nat} (hc : cells + k' ≤ K) (hl : lv_has ls 3 [(0, .ref (ad 18)), (1, .int x1)]) (w : WX (wC cy ad) D cy rr u A s H locs) : Wx (wC cy ad) D p l e 6 151 K s m args below meth c A u' (some (.int r)) H locs cells 61 ls [] := by
  have hx := E.1
  have hb := E.2.1
  have hown := E.2.2.2.1
  have hts := E.2.2.2.2
  refine lv_aload_n hx hb (dq da_X6_advance 36 rfl) rfl (lv_at hl 0 rfl) ?_
  refine gt_wC_18_cause E w w_255 (dq da_X6_advance 37 rfl) ?_
  refine lv_iconst (v := (-1)) hx hb (dq da_X6_advance 38 rfl) rfl ?_
  refine lv_icmp_ne (tgt := 93) hx hb (dq da_X6_advance 39 rfl) (by decide) (fun c7 => ?_) (fun c7 => ?_)
  · have h := ie c7 h
    refine lv_aload_n hx hb (dq da_X6_advance 52 rfl) rfl (lv_at hl 0 rfl) ?_
    refine lv_dup hx hb (dq da_X6_advance 53 rfl) rfl ?_
    refine gt_wC_18_traps E w w_257 (dq da_X6_advance 54 rfl) ?_
    refine lv_iconst (v := 1) hx hb (dq da_X6_advance 55 rfl) rfl ?_
    refine lv_iadd hx hb (dq da_X6_advance 56 rfl) ?_
    refine pt_wC_18_traps E w w_257 (dq da_X6_advance 57 rfl) (fun H locs w => ?_)
    refine lv_aload_n hx hb (dq da_X6_advance 58 rfl) rfl (lv_at hl 0 rfl) ?_
    refine lv_aload_n hx hb (dq da_X6_advance 59 rfl) rfl (lv_at hl 0 rfl) ?_
    refine gt_wC_18_cause E w w_255 (dq da_X6_advance 60 rfl) ?_
    refine pt_wC_18_latest E w w_261 (dq da_X6_advance 61 rfl) (fun H locs w => ?_)
    refine lv_aload_n hx hb (dq da_X6_advance 62 rfl) rfl (lv_at hl 0 rfl) ?_
    refine lv_aload_n hx hb (dq da_X6_advance 63 rfl) rfl (lv_at hl 0 rfl) ?_
    refine gt_wC_18_cause E w w_255 (dq da_X6_advance 64 rfl) ?_
    refine lv_iconst (v := 0) hx hb (dq da_X6_advance 65 rfl) rfl ?_
    refine lv_aload_n hx hb (dq da_X6_advance 66 rfl) rfl (lv_at hl 0 rfl) ?_
    refine gt_wC_18_value E w w_256 (dq da_X6_advance 67 rfl) ?_
    refine cV0 E (c_X6_enter l D cy ad _ _ _ _ ) w_674 w_676 w_p11 w_9 w_677 rfl hd_X6_enter rfl hl.1 rfl (Nat.le_of_ble_eq_true rfl) ⟨Nat.le_of_ble_eq_true rfl, Nat.le_of_ble_eq_true rfl⟩ (hcc hc) w (rc_wC_18 w) (dq da_X6_advance 68 rfl) (fun H locs rr w => ?_)
    exact b_X6_advance_b124 E hr hlk h hc (lv_sub hl [0, 1] rfl) w
  · have h := it c7 h
    refine lv_aload_n hx hb (dq da_X6_advance 40 rfl) rfl (lv_at hl 0 rfl) ?_
    refine lv_aload_n hx hb (dq da_X6_advance 41 rfl) rfl (lv_at hl 0 rfl) ?_
    refine gt_wC_18_next E w w_254 (dq da_X6_advance 42 rfl) ?_
    refine pt_wC_18_pc E w w_249 (dq da_X6_advance 43 rfl) (fun H locs w => ?_)
    refine lv_aload_n hx hb (dq da_X6_advance 44 rfl) rfl (lv_at hl 0 rfl) ?_
    refine gt_wC_18_controls E w w_246 (dq da_X6_advance 45 rfl) ?_
    refine lv_dup hx hb (dq da_X6_advance 46 rfl) rfl ?_
    refine gtN_wC_15_retired E w n_29 (dq da_X6_advance 47 rfl) ?_
    refine lv_lconst (v := 1) hx hb (dq da_X6_advance 48 rfl) rfl ?_
    refine lv_ladd hx hb (dq da_X6_advance 49 rfl) ?_
    refine ptN_wC_15_retired E w n_29 (dq da_X6_advance 50 rfl) (fun H locs w => ?_)
    refine lv_goto (tgt := 124) hx hb (dq da_X6_advance 51 rfl) (by decide) ?_
    exact b_X6_advance_b124 E hr hlk h hc (lv_sub hl [0, 1] rfl) w
def f_X6_advance (u : St) : Option (Int32 × St × Nat) := (f_X6_dueInterrupt (sI u 18 (-1 : Int32))).bind (fun y1 => if y1 = (-1 : Int32) then ((f_X6_fetched (sI u 18 (-1 : Int32))).bind (fun y4 => if (gI y4.2 18) = (-1 : Int32) then ((f_X6_execute y4.1 y4.2).bind (fun y10 => ak1 y10.2 (f_X6_advance_b61 y1 y10.1))) else (f_X6_advance_b61 y1 y4.2))) else (f_X6_advance_b124 y1 (f_X6_enter y1 (1 : Int32) (0 : Int64) (sI (sI (sI u 18 (-1 : Int32)) 20 ((gI (sI u 18 (-1 : Int32)) 20) + (1 : Int32))) 21 ((64 : Int32) + y1)))))
set_option maxRecDepth 100000 in
set_option maxHeartbeats 4000000 in
theorem c_X6_advance (l : Launch) (D : va_G) (cy : ClassId × ClassId × ClassId) (ad : Nat → Nat) (u : St) {r : Int32} {u' : St} {k' : Nat} (h : f_X6_advance u = some (r, u', k')) : MX (wC cy ad) D cy l yX6_advance cX6_advance 3 (some .boolean) 6 151 k' [.ref (ad 18)] u u' (some (.int (r))) := by
  refine entX (by decide +kernel) (Nat.le_of_ble_eq_true rfl) ?_
  intro p e s m args below meth c ls rr A E hr hlk hl w
  have hl : lv_has ls 3 [(0, .ref (ad 18))] := hl
  have hc : 0 + k' ≤ k' := Nat.le_of_eq (Nat.zero_add k')
  have hx := E.1
  have hb := E.2.1
  have hown := E.2.2.2.1
  have hts := E.2.2.2.2
  refine lv_aload_n hx hb (dq da_X6_advance 0 rfl) rfl (lv_at hl 0 rfl) ?_
  refine lv_iconst (v := (-1)) hx hb (dq da_X6_advance 1 rfl) rfl ?_
  refine pt_wC_18_cause E w w_255 (dq da_X6_advance 2 rfl) (fun H locs w => ?_)
  refine lv_aload_n hx hb (dq da_X6_advance 3 rfl) rfl (lv_at hl 0 rfl) ?_
  obtain ⟨y1, hy2, h⟩ := ob h
  refine cV1 E (c_X6_dueInterrupt l D cy ad _ hy2) w_657 w_659 w_p10 w_9 w_660 rfl hd_X6_dueInterrupt rfl hl.1 rfl (Nat.le_of_ble_eq_true rfl) ⟨Nat.le_of_ble_eq_true rfl, Nat.le_of_ble_eq_true rfl⟩ (hcc hc) w (rc_wC_18 w) (dq da_X6_advance 4 rfl) (fun H locs rr w => ?_)
  refine lv_istore_n (lv' := [(1, .int y1), (0, .ref (ad 18))]) hx hb (dq da_X6_advance 5 rfl) rfl hl (by decide) rfl (fun ls hl => ?_)
  refine lv_iload_n hx hb (dq da_X6_advance 6 rfl) rfl (lv_at hl 0 rfl) ?_
  refine lv_iconst (v := (-1)) hx hb (dq da_X6_advance 7 rfl) rfl ?_
  refine lv_icmp_eq (tgt := 43) hx hb (dq da_X6_advance 8 rfl) (by decide) (fun c3 => ?_) (fun c3 => ?_)
  · have h := it c3 h
    refine lv_aload_n hx hb (dq da_X6_advance 26 rfl) rfl (lv_at hl 1 rfl) ?_
    obtain ⟨y4, hy5, h⟩ := ob h
    refine cV1 E (c_X6_fetched l D cy ad _ hy5) w_698 w_700 w_p13 w_9 w_701 rfl hd_X6_fetched rfl hl.1 rfl (Nat.le_of_ble_eq_true rfl) ⟨Nat.le_of_ble_eq_true rfl, Nat.le_of_ble_eq_true rfl⟩ (hcc hc) w (rc_wC_18 w) (dq da_X6_advance 27 rfl) (fun H locs rr w => ?_)
    refine lv_istore_n (lv' := [(2, .int y4.1), (1, .int y1), (0, .ref (ad 18))]) hx hb (dq da_X6_advance 28 rfl) rfl hl (by decide) rfl (fun ls hl => ?_)
    refine lv_aload_n hx hb (dq da_X6_advance 29 rfl) rfl (lv_at hl 2 rfl) ?_
    refine gt_wC_18_cause E w w_255 (dq da_X6_advance 30 rfl) ?_
    refine lv_iconst (v := (-1)) hx hb (dq da_X6_advance 31 rfl) rfl ?_
    refine lv_icmp_ne (tgt := 61) hx hb (dq da_X6_advance 32 rfl) (by decide) (fun c6 => ?_) (fun c6 => ?_)
    · have h := ie c6 h
      exact b_X6_advance_b61 E hr hlk h hc (lv_sub hl [2, 1] rfl) w
    · have h := it c6 h
      refine lv_aload_n hx hb (dq da_X6_advance 33 rfl) rfl (lv_at hl 2 rfl) ?_
      refine lv_iload_n hx hb (dq da_X6_advance 34 rfl) rfl (lv_at hl 0 rfl) ?_
      obtain ⟨y10, hy11, h⟩ := ob h
      obtain ⟨k12, h, hk13⟩ := ak1_of h
      refine cV0k E (c_X6_execute l D cy ad _ _ hy11) w_816 w_818 w_p17 w_9 w_819 rfl hd_X6_execute rfl hl.1 rfl (Nat.le_of_ble_eq_true rfl) ⟨Nat.le_of_ble_eq_true rfl, Nat.le_of_ble_eq_true rfl⟩ (hcb hc hk13) w (rc_wC_18 w) (dq da_X6_advance 35 rfl) (fun H locs rr w => ?_)
      have hc := hcd hc hk13
      exact b_X6_advance_b61 E hr hlk h hc (lv_sub hl [2, 1] rfl) w
  · have h := ie c3 h
    refine lv_aload_n hx hb (dq da_X6_advance 9 rfl) rfl (lv_at hl 1 rfl) ?_
    refine lv_dup hx hb (dq da_X6_advance 10 rfl) rfl ?_
    refine gt_wC_18_interrupts E w w_259 (dq da_X6_advance 11 rfl) ?_
    refine lv_iconst (v := 1) hx hb (dq da_X6_advance 12 rfl) rfl ?_
    refine lv_iadd hx hb (dq da_X6_advance 13 rfl) ?_
    refine pt_wC_18_interrupts E w w_259 (dq da_X6_advance 14 rfl) (fun H locs w => ?_)
    refine lv_aload_n hx hb (dq da_X6_advance 15 rfl) rfl (lv_at hl 1 rfl) ?_
    refine lv_bipush (v := 64) hx hb (dq da_X6_advance 16 rfl) rfl ?_
    refine lv_iload_n hx hb (dq da_X6_advance 17 rfl) rfl (lv_at hl 0 rfl) ?_
    refine lv_iadd hx hb (dq da_X6_advance 18 rfl) ?_
    refine pt_wC_18_latest E w w_261 (dq da_X6_advance 19 rfl) (fun H locs w => ?_)
    refine lv_aload_n hx hb (dq da_X6_advance 20 rfl) rfl (lv_at hl 1 rfl) ?_
    refine lv_iload_n hx hb (dq da_X6_advance 21 rfl) rfl (lv_at hl 0 rfl) ?_
    refine lv_iconst (v := 1) hx hb (dq da_X6_advance 22 rfl) rfl ?_
    refine lv_lconst (v := 0) hx hb (dq da_X6_advance 23 rfl) rfl ?_
    refine cV0 E (c_X6_enter l D cy ad _ _ _ _ ) w_674 w_676 w_p11 w_9 w_677 rfl hd_X6_enter rfl hl.1 rfl (Nat.le_of_ble_eq_true rfl) ⟨Nat.le_of_ble_eq_true rfl, Nat.le_of_ble_eq_true rfl⟩ (hcc hc) w (rc_wC_18 w) (dq da_X6_advance 24 rfl) (fun H locs rr w => ?_)
    refine lv_goto (tgt := 124) hx hb (dq da_X6_advance 25 rfl) (by decide) ?_
    exact b_X6_advance_b124 E hr hlk h hc (lv_sub hl [1, 0] rfl) w

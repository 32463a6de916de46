theorem w_1294 : Cond.methodLink RX12 587 yX12_fails ∈ gw := gw_t6 94 rfl rfl
theorem w_1296 : Cond.instanceMethod yX12_fails ∈ gw := gw_t6 96 rfl rfl
theorem w_p45 : Cond.selects RX12 yX12_fails yX12_fails ∈ gw := gw_p 45 rfl rfl
theorem w_1297 : Cond.code yX12_fails cX12_fails 3 (some .boolean) ∈ gw := gw_t6 97 rfl rfl
theorem w_1106 : Cond.fieldLink RX12 558 "HartBoardModel" "taped" "I" ∈ gw := gw_t5 146 rfl rfl
theorem w_1260 : Cond.methodLink RX12 561 yX12_number ∈ gw := gw_t6 60 rfl rfl
theorem w_1262 : Cond.instanceMethod yX12_number ∈ gw := gw_t6 62 rfl rfl
theorem w_p43 : Cond.selects RX12 yX12_number yX12_number ∈ gw := gw_p 43 rfl rfl
theorem w_1263 : Cond.code yX12_number cX12_number 7 (some .long) ∈ gw := gw_t6 63 rfl rfl
theorem w_1270 : Cond.constantLong RX12 567 (18) ∈ gw := gw_t6 70 rfl rfl
theorem w_1271 : Cond.constantLong RX12 569 (243) ∈ gw := gw_t6 71 rfl rfl
theorem w_1272 : Cond.constantLong RX12 571 (20) ∈ gw := gw_t6 72 rfl rfl
theorem w_1273 : Cond.constantLong RX12 573 (56) ∈ gw := gw_t6 73 rfl rfl
theorem w_1274 : Cond.constantLong RX12 575 (54) ∈ gw := gw_t6 74 rfl rfl
theorem w_1279 : Cond.methodLink RX12 577 yX12_lies ∈ gw := gw_t6 79 rfl rfl
theorem w_1280 : Cond.static yX12_lies ∈ gw := gw_t6 80 rfl rfl
theorem w_1281 : Cond.code yX12_lies cX12_lies 6 (some .boolean) ∈ gw := gw_t6 81 rfl rfl
theorem w_1284 : Cond.constantLong RX12 582 (24) ∈ gw := gw_t6 84 rfl rfl
theorem w_1282 : Cond.constantLong RX12 580 (40) ∈ gw := gw_t6 82 rfl rfl
theorem w_1265 : Cond.methodLink RX12 564 yX12_magic ∈ gw := gw_t6 65 rfl rfl
theorem w_1266 : Cond.static yX12_magic ∈ gw := gw_t6 66 rfl rfl
theorem w_1267 : Cond.code yX12_magic cX12_magic 1 (some .int) ∈ gw := gw_t6 67 rfl rfl
theorem w_1256 : Cond.methodLink RX12 584 yX12_errorOf ∈ gw := gw_t6 56 rfl rfl
theorem w_1258 : Cond.instanceMethod yX12_errorOf ∈ gw := gw_t6 58 rfl rfl
theorem w_p42 : Cond.selects RX12 yX12_errorOf yX12_errorOf ∈ gw := gw_p 42 rfl rfl
theorem w_1259 : Cond.code yX12_errorOf cX12_errorOf 12 (some .int) ∈ gw := gw_t6 59 rfl rfl
theorem w_1403 : Cond.methodLink RX12 591 yX12_steps ∈ gw := gw_t6 203 rfl rfl
theorem w_1405 : Cond.instanceMethod yX12_steps ∈ gw := gw_t6 205 rfl rfl
theorem w_p54 : Cond.selects RX12 yX12_steps yX12_steps ∈ gw := gw_p 54 rfl rfl
theorem w_1406 : Cond.code yX12_steps cX12_steps 3 (some .boolean) ∈ gw := gw_t6 206 rfl rfl
def dl_X12_thrown : List (Nat × Instr × Nat) := [(0, .aload_n 0, 1), (1, .getfield 62, 3), (4, .ireturn, 1)]
theorem da_X12_thrown : dkL cX12_thrown dl_X12_thrown = true := by decide +kernel
def f_X12_thrown (u : St) : Int32 := (gI u 0)
set_option maxRecDepth 100000 in
set_option maxHeartbeats 4000000 in
theorem c_X12_thrown (l : Launch) (D : va_G) (cy : ClassId × ClassId × ClassId) (ad : Nat → Nat) (u : St) : MX (wM cy ad) D cy l yX12_thrown cX12_thrown 1 (some .int) 0 0 0 [.ref (ad 0)] u u (some (.int (f_X12_thrown u))) := by
  refine entX (by decide +kernel) (Nat.le_of_ble_eq_true rfl) ?_
  intro p e s m args below meth c ls rr A E hr hlk hl w
  have hl : lv_has ls 1 [(0, .ref (ad 0))] := hl
  generalize h : f_X12_thrown u = r
  have hx := E.1
  have hb := E.2.1
  have hown := E.2.2.2.1
  have hts := E.2.2.2.2
  refine lv_aload_n hx hb (dq da_X12_thrown 0 rfl) rfl (lv_at hl 0 rfl) ?_
  refine gt_wM_0_thrown E w w_1088 (dq da_X12_thrown 1 rfl) ?_
  exact xret_i E hr hlk w (by decide) h rfl (dq da_X12_thrown 2 rfl)
def dl_X12_feed : List (Nat × Instr × Nat) := [(0, .aload_n 0, 1), (1, .iload_n 1, 1), (2, .iconst 1, 1), (3, .if_icmp .lt 9, 3), (6, .iload_n 1, 1), (7, .bipush 8, 2), (9, .if_icmp .le 7, 3), (12, .iconst 1, 1), (13, .goto 4, 3), (16, .iconst 0, 1), (17, .iconst 1, 1), (18, .invokevirtual 587, 3), (21, .ifCond .ne 27, 3), (24, .aload_n 0, 1), (25, .aload_n 0, 1), (26, .getfield 558, 3), (29, .iload_n 1, 1), (30, .iadd, 1), (31, .ldc 43, 2), (33, .if_icmp .le 7, 3), (36, .iconst 1, 1), (37, .goto 4, 3), (40, .iconst 0, 1), (41, .iconst 2, 1), (42, .invokevirtual 587, 3), (45, .ifCond .eq 5, 3), (48, .iconst 0, 1), (49, .ireturn, 1), (50, .iconst 0, 1), (51, .istore 4, 2), (53, .iload 4, 2), (55, .iload_n 1, 1), (56, .if_icmp .ge 30, 3), (59, .aload_n 0, 1), (60, .getfield 44, 3), (63, .aload_n 0, 1), (64, .getfield 558, 3), (67, .iload 4, 2), (69, .iadd, 1), (70, .lload_n 2, 1), (71, .bipush 8, 2), (73, .iload 4, 2), (75, .imul, 1), (76, .lshr, 1), (77, .l2i, 1), (78, .i2b, 1), (79, .bastore, 1), (80, .iinc 4 1, 3), (83, .goto (-30), 3), (86, .aload_n 0, 1), (87, .dup, 1), (88, .getfield 558, 3), (91, .iload_n 1, 1), (92, .iadd, 1), (93, .putfield 558, 3), (96, .aload_n 0, 1), (97, .getfield 558, 3), (100, .ireturn, 1)]
theorem da_X12_feed : dkL cX12_feed dl_X12_feed = true := by decide +kernel
def f_X12_feed_b48 (u : St) : Option (Int32 × St) := some ((0 : Int32), u)
set_option maxRecDepth 100000 in
set_option maxHeartbeats 4000000 in
theorem b_X12_feed_b48 {p : Program} {l : Launch} {e : Env} {s : State} {m : MethodId} {args : Array Value} {below : List Frame} {meth : Method} {c : Code} {D : va_G} {cy : ClassId × ClassId × ClassId} {ad : Nat → Nat} {A : Nat → Prop} (E : CallFix p m c cX12_feed 5 s args gw RX12) (hr : meth.sig.returnType = some .int) (hlk : meth.locks = false) {u : St} {r : Int32} {u' : St} (h : f_X12_feed_b48 u = some (r, u')) {ls : Array Slot} {H : Heap} {locs : List Loc} {rr : Nat → Nat} (hl : lv_has ls 5 []) (w : WX (wM cy ad) D cy rr u A s H locs) : Wx (wM cy ad) D p l e 1 22 0 s m args below meth c A u' (some (.int r)) H locs 0 48 ls [] := by
  have hx := E.1
  have hb := E.2.1
  have hown := E.2.2.2.1
  have hts := E.2.2.2.2
  refine lv_iconst (v := 0) hx hb (dq da_X12_feed 26 rfl) rfl ?_
  exact xret_i E hr hlk w (by decide) (congrArg Prod.fst (os h)) (congrArg Prod.snd (os h)) (dq da_X12_feed 27 rfl)
def f_X12_feed_b53_s (k53 : Int32 → Int64 → Int32 → St → Option (Int32 × St)) (x1 : Int32) (x2 : Int64) (x4 : Int32) (u : St) : Option (Int32 × St) := if x1 ≤ x4 then (some ((gI (sI u 8 ((gI u 8) + x1)) 8), (sI u 8 ((gI u 8) + x1)))) else (if inB ((gI u 8) + x4) (gN u 5) then (k53 x1 x2 (x4 + (1 : Int32)) (sA u 4 ((gI u 8) + x4).toNatClampNeg (vp_nar .byte (((j_lshr x2 ((8 : Int32) * x4)).toInt32).toInt8.toInt32)))) else none)
set_option maxRecDepth 100000 in
set_option maxHeartbeats 4000000 in
theorem b_X12_feed_b53_s {p : Program} {l : Launch} {e : Env} {s : State} {m : MethodId} {args : Array Value} {below : List Frame} {meth : Method} {c : Code} {D : va_G} {cy : ClassId × ClassId × ClassId} {ad : Nat → Nat} {A : Nat → Prop} (E : CallFix p m c cX12_feed 5 s args gw RX12) (hr : meth.sig.returnType = some .int) (hlk : meth.locks = false) {k53 : Int32 → Int64 → Int32 → St → Option (Int32 × St)} (hk53 : ∀ (x1 : Int32) (x2 : Int64) (x4 : Int32) (u : St) (r : Int32) (u' : St), k53 x1 x2 x4 u = some (r, u') → ∀ (ls : Array Slot) (H : Heap) (locs : List Loc) (rr : Nat → Nat), lv_has ls 5 [(0, .ref (ad 0)), (1, .int x1), (2, .long x2), (4, .int x4)] → WX (wM cy ad) D cy rr u A s H locs → Wx (wM cy ad) D p l e 1 22 0 s m args below meth c A u' (some (.int r)) H locs 0 53 ls []) {x1 : Int32} {x2 : Int64} {x4 : Int32} {u : St} {r : Int32} {u' : St} (h : f_X12_feed_b53_s k53 x1 x2 x4 u = some (r, u')) {ls : Array Slot} {H : Heap} {locs : List Loc} {rr : Nat → Nat} (hl : lv_has ls 5 [(0, .ref (ad 0)), (1, .int x1), (2, .long x2), (4, .int x4)]) (w : WX (wM cy ad) D cy rr u A s H locs) : Wx (wM cy ad) D p l e 1 22 0 s m args below meth c A u' (some (.int r)) H locs 0 53 ls [] := by
  have hx := E.1
  have hb := E.2.1
  have hown := E.2.2.2.1
  have hts := E.2.2.2.2
  refine lv_iload hx hb (dq da_X12_feed 30 rfl) (lv_at hl 3 rfl) ?_
  refine lv_iload_n hx hb (dq da_X12_feed 31 rfl) rfl (lv_at hl 1 rfl) ?_
  refine lv_icmp_ge (tgt := 86) hx hb (dq da_X12_feed 32 rfl) (by decide) (fun c9 => ?_) (fun c9 => ?_)
  · have h := it c9 h
    refine lv_aload_n hx hb (dq da_X12_feed 49 rfl) rfl (lv_at hl 0 rfl) ?_
    refine lv_dup hx hb (dq da_X12_feed 50 rfl) rfl ?_
    refine gt_wM_0_taped E w w_1106 (dq da_X12_feed 51 rfl) ?_
    refine lv_iload_n hx hb (dq da_X12_feed 52 rfl) rfl (lv_at hl 1 rfl) ?_
    refine lv_iadd hx hb (dq da_X12_feed 53 rfl) ?_
    refine pt_wM_0_taped E w w_1106 (dq da_X12_feed 54 rfl) (fun H locs w => ?_)
    refine lv_aload_n hx hb (dq da_X12_feed 55 rfl) rfl (lv_at hl 0 rfl) ?_
    refine gt_wM_0_taped E w w_1106 (dq da_X12_feed 56 rfl) ?_
    exact xret_i E hr hlk w (by decide) (congrArg Prod.fst (os h)) (congrArg Prod.snd (os h)) (dq da_X12_feed 57 rfl)
  · have h := ie c9 h
    refine lv_aload_n hx hb (dq da_X12_feed 33 rfl) rfl (lv_at hl 0 rfl) ?_
    refine gt_wM_0_tape E w w_1105 (dq da_X12_feed 34 rfl) ?_
    refine lv_aload_n hx hb (dq da_X12_feed 35 rfl) rfl (lv_at hl 0 rfl) ?_
    refine gt_wM_0_taped E w w_1106 (dq da_X12_feed 36 rfl) ?_
    refine lv_iload hx hb (dq da_X12_feed 37 rfl) (lv_at hl 3 rfl) ?_
    refine lv_iadd hx hb (dq da_X12_feed 38 rfl) ?_
    refine lv_lload_n hx hb (dq da_X12_feed 39 rfl) rfl (lv_at hl 2 rfl) ?_
    refine lv_bipush (v := 8) hx hb (dq da_X12_feed 40 rfl) rfl ?_
    refine lv_iload hx hb (dq da_X12_feed 41 rfl) (lv_at hl 3 rfl) ?_
    refine lv_imul hx hb (dq da_X12_feed 42 rfl) ?_
    refine lv_lshr (v := (j_lshr x2 ((8 : Int32) * x4))) hx hb (dq da_X12_feed 43 rfl) rfl ?_
    refine lv_l2i (v := (j_lshr x2 ((8 : Int32) * x4)).toInt32) hx hb (dq da_X12_feed 44 rfl) rfl ?_
    refine lv_i2b (v := ((j_lshr x2 ((8 : Int32) * x4)).toInt32).toInt8.toInt32) hx hb (dq da_X12_feed 45 rfl) rfl ?_
    obtain ⟨hi10, h⟩ := oi h
    refine ast_wM_6 E w hi10 (dq da_X12_feed 46 rfl) (fun H locs w => ?_)
    refine lv_iinc (v := (x4 + (1 : Int32))) (lv' := [(4, .int (x4 + (1 : Int32))), (0, .ref (ad 0)), (1, .int x1), (2, .long x2)]) hx hb (dq da_X12_feed 47 rfl) hl (k := 3) rfl rfl (by decide) rfl (fun ls hl => ?_)
    refine lv_goto (tgt := 53) hx hb (dq da_X12_feed 48 rfl) (by decide) ?_
    exact hk53 _ _ _ _ _ _ h ls _ _ _ (lv_sub hl [1, 2, 3, 0] rfl) w
def f_X12_feed_b53 : Nat → Int32 → Int64 → Int32 → St → Option (Int32 × St)
  | 0 => fun _ _ _ _ => none
  | n + 1 => f_X12_feed_b53_s (f_X12_feed_b53 n)
theorem b_X12_feed_b53 {p : Program} {l : Launch} {e : Env} {s : State} {m : MethodId} {args : Array Value} {below : List Frame} {meth : Method} {c : Code} {D : va_G} {cy : ClassId × ClassId × ClassId} {ad : Nat → Nat} {A : Nat → Prop} (E : CallFix p m c cX12_feed 5 s args gw RX12) (hr : meth.sig.returnType = some .int) (hlk : meth.locks = false) : ∀ n : Nat, ∀ (x1 : Int32) (x2 : Int64) (x4 : Int32) (u : St) (r : Int32) (u' : St), f_X12_feed_b53 n x1 x2 x4 u = some (r, u') → ∀ (ls : Array Slot) (H : Heap) (locs : List Loc) (rr : Nat → Nat), lv_has ls 5 [(0, .ref (ad 0)), (1, .int x1), (2, .long x2), (4, .int x4)] → WX (wM cy ad) D cy rr u A s H locs → Wx (wM cy ad) D p l e 1 22 0 s m args below meth c A u' (some (.int r)) H locs 0 53 ls [] := by
  intro n
  induction n with
  | zero => intro x1 x2 x4 u r u' h; cases h
  | succ n ih => intro x1 x2 x4 u r u' h ls H locs rr hl w; exact b_X12_feed_b53_s E hr hlk ih h hl w
def f_X12_feed_b41 (x1 : Int32) (x2 : Int64) (s0 : Int32) (u : St) : Option (Int32 × St) := (f_X12_fails s0 (2 : Int32) u).bind (fun y6 => if y6.1 = (0 : Int32) then (f_X12_feed_b53 FU x1 x2 (0 : Int32) y6.2) else (f_X12_feed_b48 y6.2))
set_option maxRecDepth 100000 in
set_option maxHeartbeats 4000000 in
theorem b_X12_feed_b41 {p : Program} {l : Launch} {e : Env} {s : State} {m : MethodId} {args : Array Value} {below : List Frame} {meth : Method} {c : Code} {D : va_G} {cy : ClassId × ClassId × ClassId} {ad : Nat → Nat} {A : Nat → Prop} (E : CallFix p m c cX12_feed 5 s args gw RX12) (hr : meth.sig.returnType = some .int) (hlk : meth.locks = false) {x1 : Int32} {x2 : Int64} {s0 : Int32} {u : St} {r : Int32} {u' : St} (h : f_X12_feed_b41 x1 x2 s0 u = some (r, u')) {ls : Array Slot} {H : Heap} {locs : List Loc} {rr : Nat → Nat} (hl : lv_has ls 5 [(0, .ref (ad 0)), (1, .int x1), (2, .long x2)]) (w : WX (wM cy ad) D cy rr u A s H locs) : Wx (wM cy ad) D p l e 1 22 0 s m args below meth c A u' (some (.int r)) H locs 0 41 ls [.int s0, .ref (ad 0)] := by
  have hx := E.1
  have hb := E.2.1
  have hown := E.2.2.2.1
  have hts := E.2.2.2.2
  refine lv_iconst (v := 2) hx hb (dq da_X12_feed 23 rfl) rfl ?_
  obtain ⟨y6, hy7, h⟩ := ob h
  refine cV1 E (c_X12_fails l D cy ad _ _ _ hy7) w_1294 w_1296 w_p45 w_10 w_1297 rfl hd_X12_fails rfl hl.1 rfl (Nat.le_of_ble_eq_true rfl) ⟨Nat.le_of_ble_eq_true rfl, Nat.le_of_ble_eq_true rfl⟩ (by decide) w (rc_wM_0 w) (dq da_X12_feed 24 rfl) (fun H locs rr w => ?_)
  refine lv_if_eq (tgt := 50) hx hb (dq da_X12_feed 25 rfl) (by decide) (fun c8 => ?_) (fun c8 => ?_)
  · have h := it c8 h
    refine lv_iconst (v := 0) hx hb (dq da_X12_feed 28 rfl) rfl ?_
    refine lv_istore (lv' := [(4, .int (0 : Int32)), (0, .ref (ad 0)), (1, .int x1), (2, .long x2)]) hx hb (dq da_X12_feed 29 rfl) hl (by decide) rfl (fun ls hl => ?_)
    exact b_X12_feed_b53 E hr hlk FU _ _ _ _ _ _ h ls _ _ _ (lv_sub hl [1, 2, 3, 0] rfl) w
  · have h := ie c8 h
    exact b_X12_feed_b48 E hr hlk h (lv_sub hl [] rfl) w
def f_X12_feed_b17 (x1 : Int32) (x2 : Int64) (s0 : Int32) (u : St) : Option (Int32 × St) := (f_X12_fails s0 (1 : Int32) u).bind (fun y2 => if y2.1 = (0 : Int32) then (if ((gI y2.2 8) + x1) ≤ (65536 : Int32) then (f_X12_feed_b41 x1 x2 (0 : Int32) y2.2) else (f_X12_feed_b41 x1 x2 (1 : Int32) y2.2)) else (f_X12_feed_b48 y2.2))
set_option maxRecDepth 100000 in
set_option maxHeartbeats 4000000 in
theorem b_X12_feed_b17 {p : Program} {l : Launch} {e : Env} {s : State} {m : MethodId} {args : Array Value} {below : List Frame} {meth : Method} {c : Code} {D : va_G} {cy : ClassId × ClassId × ClassId} {ad : Nat → Nat} {A : Nat → Prop} (E : CallFix p m c cX12_feed 5 s args gw RX12) (hr : meth.sig.returnType = some .int) (hlk : meth.locks = false) {x1 : Int32} {x2 : Int64} {s0 : Int32} {u : St} {r : Int32} {u' : St} (h : f_X12_feed_b17 x1 x2 s0 u = some (r, u')) {ls : Array Slot} {H : Heap} {locs : List Loc} {rr : Nat → Nat} (hl : lv_has ls 5 [(0, .ref (ad 0)), (1, .int x1), (2, .long x2)]) (w : WX (wM cy ad) D cy rr u A s H locs) : Wx (wM cy ad) D p l e 1 22 0 s m args below meth c A u' (some (.int r)) H locs 0 17 ls [.int s0, .ref (ad 0)] := by
  have hx := E.1
  have hb := E.2.1
  have hown := E.2.2.2.1
  have hts := E.2.2.2.2
  refine lv_iconst (v := 1) hx hb (dq da_X12_feed 10 rfl) rfl ?_
  obtain ⟨y2, hy3, h⟩ := ob h
  refine cV1 E (c_X12_fails l D cy ad _ _ _ hy3) w_1294 w_1296 w_p45 w_10 w_1297 rfl hd_X12_fails rfl hl.1 rfl (Nat.le_of_ble_eq_true rfl) ⟨Nat.le_of_ble_eq_true rfl, Nat.le_of_ble_eq_true rfl⟩ (by decide) w (rc_wM_0 w) (dq da_X12_feed 11 rfl) (fun H locs rr w => ?_)
  refine lv_if_ne (tgt := 48) hx hb (dq da_X12_feed 12 rfl) (by decide) (fun c4 => ?_) (fun c4 => ?_)
  · have h := ie c4 h
    exact b_X12_feed_b48 E hr hlk h (lv_sub hl [] rfl) w
  · have h := it c4 h
    refine lv_aload_n hx hb (dq da_X12_feed 13 rfl) rfl (lv_at hl 0 rfl) ?_
    refine lv_aload_n hx hb (dq da_X12_feed 14 rfl) rfl (lv_at hl 0 rfl) ?_
    refine gt_wM_0_taped E w w_1106 (dq da_X12_feed 15 rfl) ?_
    refine lv_iload_n hx hb (dq da_X12_feed 16 rfl) rfl (lv_at hl 1 rfl) ?_
    refine lv_iadd hx hb (dq da_X12_feed 17 rfl) ?_
    refine lv_ldc hx hb hown (hts _ w_1087) (dq da_X12_feed 18 rfl) ?_
    refine lv_icmp_le (tgt := 40) hx hb (dq da_X12_feed 19 rfl) (by decide) (fun c5 => ?_) (fun c5 => ?_)
    · have h := it c5 h
      refine lv_iconst (v := 0) hx hb (dq da_X12_feed 22 rfl) rfl ?_
      exact b_X12_feed_b41 E hr hlk h (lv_sub hl [0, 1, 2] rfl) w
    · have h := ie c5 h
      refine lv_iconst (v := 1) hx hb (dq da_X12_feed 20 rfl) rfl ?_
      refine lv_goto (tgt := 41) hx hb (dq da_X12_feed 21 rfl) (by decide) ?_
      exact b_X12_feed_b41 E hr hlk h (lv_sub hl [0, 1, 2] rfl) w
def f_X12_feed_b12 (x1 : Int32) (x2 : Int64) (u : St) : Option (Int32 × St) := f_X12_feed_b17 x1 x2 (1 : Int32) u
set_option maxRecDepth 100000 in
set_option maxHeartbeats 4000000 in
theorem b_X12_feed_b12 {p : Program} {l : Launch} {e : Env} {s : State} {m : MethodId} {args : Array Value} {below : List Frame} {meth : Method} {c : Code} {D : va_G} {cy : ClassId × ClassId × ClassId} {ad : Nat → Nat} {A : Nat → Prop} (E : CallFix p m c cX12_feed 5 s args gw RX12) (hr : meth.sig.returnType = some .int) (hlk : meth.locks = false) {x1 : Int32} {x2 : Int64} {u : St} {r : Int32} {u' : St} (h : f_X12_feed_b12 x1 x2 u = some (r, u')) {ls : Array Slot} {H : Heap} {locs : List Loc} {rr : Nat → Nat} (hl : lv_has ls 5 [(0, .ref (ad 0)), (1, .int x1), (2, .long x2)]) (w : WX (wM cy ad) D cy rr u A s H locs) : Wx (wM cy ad) D p l e 1 22 0 s m args below meth c A u' (some (.int r)) H locs 0 12 ls [.ref (ad 0)] := by
  have hx := E.1
  have hb := E.2.1
  have hown := E.2.2.2.1
  have hts := E.2.2.2.2
  refine lv_iconst (v := 1) hx hb (dq da_X12_feed 7 rfl) rfl ?_
  refine lv_goto (tgt := 17) hx hb (dq da_X12_feed 8 rfl) (by decide) ?_
  exact b_X12_feed_b17 E hr hlk h (lv_sub hl [0, 1, 2] rfl) w
def f_X12_feed (x1 : Int32) (x2 : Int64) (u : St) : Option (Int32 × St) := if x1 < (1 : Int32) then (f_X12_feed_b12 x1 x2 u) else (if x1 ≤ (8 : Int32) then (f_X12_feed_b17 x1 x2 (0 : Int32) u) else (f_X12_feed_b12 x1 x2 u))
set_option maxRecDepth 100000 in
set_option maxHeartbeats 4000000 in
theorem c_X12_feed (l : Launch) (D : va_G) (cy : ClassId × ClassId × ClassId) (ad : Nat → Nat) (x1 : Int32) (x2 : Int64) (u : St) {r : Int32} {u' : St} (h : f_X12_feed x1 x2 u = some (r, u')) : MX (wM cy ad) D cy l yX12_feed cX12_feed 5 (some .int) 1 22 0 [.ref (ad 0), .int x1, .long x2] u u' (some (.int (r))) := by
  refine entX (by decide +kernel) (Nat.le_of_ble_eq_true rfl) ?_
  intro p e s m args below meth c ls rr A E hr hlk hl w
  have hl : lv_has ls 5 [(0, .ref (ad 0)), (1, .int x1), (2, .long x2)] := hl
  have hx := E.1
  have hb := E.2.1
  have hown := E.2.2.2.1
  have hts := E.2.2.2.2
  refine lv_aload_n hx hb (dq da_X12_feed 0 rfl) rfl (lv_at hl 0 rfl) ?_
  refine lv_iload_n hx hb (dq da_X12_feed 1 rfl) rfl (lv_at hl 1 rfl) ?_
  refine lv_iconst (v := 1) hx hb (dq da_X12_feed 2 rfl) rfl ?_
  refine lv_icmp_lt (tgt := 12) hx hb (dq da_X12_feed 3 rfl) (by decide) (fun c1 => ?_) (fun c1 => ?_)
  · have h := it c1 h
    exact b_X12_feed_b12 E hr hlk h (lv_sub hl [0, 1, 2] rfl) w
  · have h := ie c1 h
    refine lv_iload_n hx hb (dq da_X12_feed 4 rfl) rfl (lv_at hl 1 rfl) ?_
    refine lv_bipush (v := 8) hx hb (dq da_X12_feed 5 rfl) rfl ?_
    refine lv_icmp_le (tgt := 16) hx hb (dq da_X12_feed 6 rfl) (by decide) (fun c11 => ?_) (fun c11 => ?_)
    · have h := it c11 h
      refine lv_iconst (v := 0) hx hb (dq da_X12_feed 9 rfl) rfl ?_
      exact b_X12_feed_b17 E hr hlk h (lv_sub hl [0, 1, 2] rfl) w
    · have h := ie c11 h
      exact b_X12_feed_b12 E hr hlk h (lv_sub hl [0, 1, 2] rfl) w
def dl_X12_wipe : List (Nat × Instr × Nat) := [(0, .aload_n 0, 1), (1, .iconst 0, 1), (2, .putfield 62, 3), (5, .aload_n 0, 1), (6, .getfield 558, 3), (9, .istore_n 1, 1), (10, .aload_n 0, 1), (11, .iconst 0, 1), (12, .putfield 558, 3), (15, .iload_n 1, 1), (16, .ireturn, 1)]
theorem da_X12_wipe : dkL cX12_wipe dl_X12_wipe = true := by decide +kernel
def f_X12_wipe (u : St) : Int32 × St := ((gI (sI u 0 (0 : Int32)) 8), (sI (sI u 0 (0 : Int32)) 8 (0 : Int32)))
set_option maxRecDepth 100000 in
set_option maxHeartbeats 4000000 in
theorem c_X12_wipe (l : Launch) (D : va_G) (cy : ClassId × ClassId × ClassId) (ad : Nat → Nat) (u : St) : MX (wM cy ad) D cy l yX12_wipe cX12_wipe 2 (some .int) 0 0 0 [.ref (ad 0)] u ((f_X12_wipe u).2) (some (.int ((f_X12_wipe u).1))) := by
  refine entX (by decide +kernel) (Nat.le_of_ble_eq_true rfl) ?_
  intro p e s m args below meth c ls rr A E hr hlk hl w
  have hl : lv_has ls 2 [(0, .ref (ad 0))] := hl
  generalize h0 : f_X12_wipe u = q
  obtain ⟨r, u'⟩ := q
  have h := h0
  have hx := E.1
  have hb := E.2.1
  have hown := E.2.2.2.1
  have hts := E.2.2.2.2
  refine lv_aload_n hx hb (dq da_X12_wipe 0 rfl) rfl (lv_at hl 0 rfl) ?_
  refine lv_iconst (v := 0) hx hb (dq da_X12_wipe 1 rfl) rfl ?_
  refine pt_wM_0_thrown E w w_1088 (dq da_X12_wipe 2 rfl) (fun H locs w => ?_)
  refine lv_aload_n hx hb (dq da_X12_wipe 3 rfl) rfl (lv_at hl 0 rfl) ?_
  refine gt_wM_0_taped E w w_1106 (dq da_X12_wipe 4 rfl) ?_
  refine lv_istore_n (lv' := [(1, .int (gI (sI u 0 (0 : Int32)) 8)), (0, .ref (ad 0))]) hx hb (dq da_X12_wipe 5 rfl) rfl hl (by decide) rfl (fun ls hl => ?_)
  refine lv_aload_n hx hb (dq da_X12_wipe 6 rfl) rfl (lv_at hl 1 rfl) ?_
  refine lv_iconst (v := 0) hx hb (dq da_X12_wipe 7 rfl) rfl ?_
  refine pt_wM_0_taped E w w_1106 (dq da_X12_wipe 8 rfl) (fun H locs w => ?_)
  refine lv_iload_n hx hb (dq da_X12_wipe 9 rfl) rfl (lv_at hl 0 rfl) ?_
  exact xret_i E hr hlk w (by decide) (congrArg Prod.fst h) (congrArg Prod.snd h) (dq da_X12_wipe 10 rfl)
def dl_X12_type : List (Nat × Instr × Nat) := [(0, .aload_n 0, 1), (1, .aload_n 0, 1), (2, .getfield 154, 3), (5, .aload_n 0, 1), (6, .getfield 558, 3), (9, .iadd, 1), (10, .ldc 43, 2), (12, .if_icmp .le 7, 3), (15, .iconst 1, 1), (16, .goto 4, 3), (19, .iconst 0, 1), (20, .iconst 1, 1), (21, .invokevirtual 587, 3), (24, .ifCond .eq 5, 3), (27, .iconst 0, 1), (28, .ireturn, 1), (29, .iconst 0, 1), (30, .istore_n 1, 1), (31, .iload_n 1, 1), (32, .aload_n 0, 1), (33, .getfield 558, 3), (36, .if_icmp .ge 42, 3), (39, .aload_n 0, 1), (40, .getfield 47, 3), (43, .aload_n 0, 1), (44, .getfield 161, 3), (47, .aload_n 0, 1), (48, .getfield 154, 3), (51, .iadd, 1), (52, .ldc 43, 2), (54, .irem, 1), (55, .aload_n 0, 1), (56, .getfield 44, 3), (59, .iload_n 1, 1), (60, .baload, 1), (61, .bastore, 1), (62, .aload_n 0, 1), (63, .dup, 1), (64, .getfield 154, 3), (67, .iconst 1, 1), (68, .iadd, 1), (69, .putfield 154, 3), (72, .iinc 1 1, 3), (75, .goto (-44), 3), (78, .aload_n 0, 1), (79, .iconst 0, 1), (80, .putfield 558, 3), (83, .aload_n 0, 1), (84, .invokevirtual 364, 3), (87, .aload_n 0, 1), (88, .getfield 154, 3), (91, .ireturn, 1)]
theorem da_X12_type : dkL cX12_type dl_X12_type = true := by decide +kernel
def f_X12_type_b31_s (k31 : Int32 → St → Option (Int32 × St)) (x1 : Int32) (u : St) : Option (Int32 × St) := if (gI u 8) ≤ x1 then (some ((gI (f_X12_gather (sI u 8 (0 : Int32))) 10), (f_X12_gather (sI u 8 (0 : Int32))))) else (if inB x1 (gN u 5) then (if inB (((gI u 9) + (gI u 10)) - ((gI u 9) + (gI u 10)) / (65536 : Int32) * (65536 : Int32)) (gN u 6) then (k31 (x1 + (1 : Int32)) (sI (sA u 5 (((gI u 9) + (gI u 10)) - ((gI u 9) + (gI u 10)) / (65536 : Int32) * (65536 : Int32)).toNatClampNeg (vp_nar .byte (gA u 4 x1.toNatClampNeg))) 10 ((gI (sA u 5 (((gI u 9) + (gI u 10)) - ((gI u 9) + (gI u 10)) / (65536 : Int32) * (65536 : Int32)).toNatClampNeg (vp_nar .byte (gA u 4 x1.toNatClampNeg))) 10) + (1 : Int32)))) else none) else none)
set_option maxRecDepth 100000 in
set_option maxHeartbeats 4000000 in
theorem b_X12_type_b31_s {p : Program} {l : Launch} {e : Env} {s : State} {m : MethodId} {args : Array Value} {below : List Frame} {meth : Method} {c : Code} {D : va_G} {cy : ClassId × ClassId × ClassId} {ad : Nat → Nat} {A : Nat → Prop} (E : CallFix p m c cX12_type 2 s args gw RX12) (hr : meth.sig.returnType = some .int) (hlk : meth.locks = false) {k31 : Int32 → St → Option (Int32 × St)} (hk31 : ∀ (x1 : Int32) (u : St) (r : Int32) (u' : St), k31 x1 u = some (r, u') → ∀ (ls : Array Slot) (H : Heap) (locs : List Loc) (rr : Nat → Nat), lv_has ls 2 [(0, .ref (ad 0)), (1, .int x1)] → WX (wM cy ad) D cy rr u A s H locs → Wx (wM cy ad) D p l e 1 22 0 s m args below meth c A u' (some (.int r)) H locs 0 31 ls []) {x1 : Int32} {u : St} {r : Int32} {u' : St} (h : f_X12_type_b31_s k31 x1 u = some (r, u')) {ls : Array Slot} {H : Heap} {locs : List Loc} {rr : Nat → Nat} (hl : lv_has ls 2 [(0, .ref (ad 0)), (1, .int x1)]) (w : WX (wM cy ad) D cy rr u A s H locs) : Wx (wM cy ad) D p l e 1 22 0 s m args below meth c A u' (some (.int r)) H locs 0 31 ls [] := by
  have hx := E.1
  have hb := E.2.1
  have hown := E.2.2.2.1
  have hts := E.2.2.2.2
  refine lv_iload_n hx hb (dq da_X12_type 18 rfl) rfl (lv_at hl 1 rfl) ?_
  refine lv_aload_n hx hb (dq da_X12_type 19 rfl) rfl (lv_at hl 0 rfl) ?_
  refine gt_wM_0_taped E w w_1106 (dq da_X12_type 20 rfl) ?_
  refine lv_icmp_ge (tgt := 78) hx hb (dq da_X12_type 21 rfl) (by decide) (fun c5 => ?_) (fun c5 => ?_)
  · have h := it c5 h
    refine lv_aload_n hx hb (dq da_X12_type 44 rfl) rfl (lv_at hl 0 rfl) ?_
    refine lv_iconst (v := 0) hx hb (dq da_X12_type 45 rfl) rfl ?_
    refine pt_wM_0_taped E w w_1106 (dq da_X12_type 46 rfl) (fun H locs w => ?_)
    refine lv_aload_n hx hb (dq da_X12_type 47 rfl) rfl (lv_at hl 0 rfl) ?_
    refine cV0 E (c_X12_gather l D cy ad _ ) w_1306 w_1308 w_p46 w_10 w_1309 rfl hd_X12_gather rfl hl.1 rfl (Nat.le_of_ble_eq_true rfl) ⟨Nat.le_of_ble_eq_true rfl, Nat.le_of_ble_eq_true rfl⟩ (by decide) w (rc_wM_0 w) (dq da_X12_type 48 rfl) (fun H locs rr w => ?_)
    refine lv_aload_n hx hb (dq da_X12_type 49 rfl) rfl (lv_at hl 0 rfl) ?_
    refine gt_wM_0_inputLeft E w w_1109 (dq da_X12_type 50 rfl) ?_
    exact xret_i E hr hlk w (by decide) (congrArg Prod.fst (os h)) (congrArg Prod.snd (os h)) (dq da_X12_type 51 rfl)
  · have h := ie c5 h
    refine lv_aload_n hx hb (dq da_X12_type 22 rfl) rfl (lv_at hl 0 rfl) ?_
    refine gt_wM_0_input E w w_1107 (dq da_X12_type 23 rfl) ?_
    refine lv_aload_n hx hb (dq da_X12_type 24 rfl) rfl (lv_at hl 0 rfl) ?_
    refine gt_wM_0_inputFrom E w w_1108 (dq da_X12_type 25 rfl) ?_
    refine lv_aload_n hx hb (dq da_X12_type 26 rfl) rfl (lv_at hl 0 rfl) ?_
    refine gt_wM_0_inputLeft E w w_1109 (dq da_X12_type 27 rfl) ?_
    refine lv_iadd hx hb (dq da_X12_type 28 rfl) ?_
    refine lv_ldc hx hb hown (hts _ w_1087) (dq da_X12_type 29 rfl) ?_
    refine lv_irem hx hb (dq da_X12_type 30 rfl) (by decide) ?_
    refine lv_aload_n hx hb (dq da_X12_type 31 rfl) rfl (lv_at hl 0 rfl) ?_
    refine gt_wM_0_tape E w w_1105 (dq da_X12_type 32 rfl) ?_
    refine lv_iload_n hx hb (dq da_X12_type 33 rfl) rfl (lv_at hl 1 rfl) ?_
    obtain ⟨hi6, h⟩ := oi h
    refine ald_wM_6 E w hi6 (dq da_X12_type 34 rfl) ?_
    obtain ⟨hi7, h⟩ := oi h
    refine ast_wM_7 E w hi7 (dq da_X12_type 35 rfl) (fun H locs w => ?_)
    refine lv_aload_n hx hb (dq da_X12_type 36 rfl) rfl (lv_at hl 0 rfl) ?_
    refine lv_dup hx hb (dq da_X12_type 37 rfl) rfl ?_
    refine gt_wM_0_inputLeft E w w_1109 (dq da_X12_type 38 rfl) ?_
    refine lv_iconst (v := 1) hx hb (dq da_X12_type 39 rfl) rfl ?_
    refine lv_iadd hx hb (dq da_X12_type 40 rfl) ?_
    refine pt_wM_0_inputLeft E w w_1109 (dq da_X12_type 41 rfl) (fun H locs w => ?_)
    refine lv_iinc (v := (x1 + (1 : Int32))) (lv' := [(1, .int (x1 + (1 : Int32))), (0, .ref (ad 0))]) hx hb (dq da_X12_type 42 rfl) hl (k := 1) rfl rfl (by decide) rfl (fun ls hl => ?_)
    refine lv_goto (tgt := 31) hx hb (dq da_X12_type 43 rfl) (by decide) ?_
    exact hk31 _ _ _ _ h ls _ _ _ (lv_sub hl [1, 0] rfl) w
def f_X12_type_b31 : Nat → Int32 → St → Option (Int32 × St)
  | 0 => fun _ _ => none
  | n + 1 => f_X12_type_b31_s (f_X12_type_b31 n)
theorem b_X12_type_b31 {p : Program} {l : Launch} {e : Env} {s : State} {m : MethodId} {args : Array Value} {below : List Frame} {meth : Method} {c : Code} {D : va_G} {cy : ClassId × ClassId × ClassId} {ad : Nat → Nat} {A : Nat → Prop} (E : CallFix p m c cX12_type 2 s args gw RX12) (hr : meth.sig.returnType = some .int) (hlk : meth.locks = false) : ∀ n : Nat, ∀ (x1 : Int32) (u : St) (r : Int32) (u' : St), f_X12_type_b31 n x1 u = some (r, u') → ∀ (ls : Array Slot) (H : Heap) (locs : List Loc) (rr : Nat → Nat), lv_has ls 2 [(0, .ref (ad 0)), (1, .int x1)] → WX (wM cy ad) D cy rr u A s H locs → Wx (wM cy ad) D p l e 1 22 0 s m args below meth c A u' (some (.int r)) H locs 0 31 ls [] := by
  intro n
  induction n with
  | zero => intro x1 u r u' h; cases h
  | succ n ih => intro x1 u r u' h ls H locs rr hl w; exact b_X12_type_b31_s E hr hlk ih h hl w
def f_X12_type_b20 (s0 : Int32) (u : St) : Option (Int32 × St) := (f_X12_fails s0 (1 : Int32) u).bind (fun y2 => if y2.1 = (0 : Int32) then (f_X12_type_b31 FU (0 : Int32) y2.2) else (some ((0 : Int32), y2.2)))
set_option maxRecDepth 100000 in
set_option maxHeartbeats 4000000 in
theorem b_X12_type_b20 {p : Program} {l : Launch} {e : Env} {s : State} {m : MethodId} {args : Array Value} {below : List Frame} {meth : Method} {c : Code} {D : va_G} {cy : ClassId × ClassId × ClassId} {ad : Nat → Nat} {A : Nat → Prop} (E : CallFix p m c cX12_type 2 s args gw RX12) (hr : meth.sig.returnType = some .int) (hlk : meth.locks = false) {s0 : Int32} {u : St} {r : Int32} {u' : St} (h : f_X12_type_b20 s0 u = some (r, u')) {ls : Array Slot} {H : Heap} {locs : List Loc} {rr : Nat → Nat} (hl : lv_has ls 2 [(0, .ref (ad 0))]) (w : WX (wM cy ad) D cy rr u A s H locs) : Wx (wM cy ad) D p l e 1 22 0 s m args below meth c A u' (some (.int r)) H locs 0 20 ls [.int s0, .ref (ad 0)] := by
  have hx := E.1
  have hb := E.2.1
  have hown := E.2.2.2.1
  have hts := E.2.2.2.2
  refine lv_iconst (v := 1) hx hb (dq da_X12_type 11 rfl) rfl ?_
  obtain ⟨y2, hy3, h⟩ := ob h
  refine cV1 E (c_X12_fails l D cy ad _ _ _ hy3) w_1294 w_1296 w_p45 w_10 w_1297 rfl hd_X12_fails rfl hl.1 rfl (Nat.le_of_ble_eq_true rfl) ⟨Nat.le_of_ble_eq_true rfl, Nat.le_of_ble_eq_true rfl⟩ (by decide) w (rc_wM_0 w) (dq da_X12_type 12 rfl) (fun H locs rr w => ?_)
  refine lv_if_eq (tgt := 29) hx hb (dq da_X12_type 13 rfl) (by decide) (fun c4 => ?_) (fun c4 => ?_)
  · have h := it c4 h
    refine lv_iconst (v := 0) hx hb (dq da_X12_type 16 rfl) rfl ?_
    refine lv_istore_n (lv' := [(1, .int (0 : Int32)), (0, .ref (ad 0))]) hx hb (dq da_X12_type 17 rfl) rfl hl (by decide) rfl (fun ls hl => ?_)
    exact b_X12_type_b31 E hr hlk FU _ _ _ _ h ls _ _ _ (lv_sub hl [1, 0] rfl) w
  · have h := ie c4 h
    refine lv_iconst (v := 0) hx hb (dq da_X12_type 14 rfl) rfl ?_
    exact xret_i E hr hlk w (by decide) (congrArg Prod.fst (os h)) (congrArg Prod.snd (os h)) (dq da_X12_type 15 rfl)
def f_X12_type (u : St) : Option (Int32 × St) := if ((gI u 10) + (gI u 8)) ≤ (65536 : Int32) then (f_X12_type_b20 (0 : Int32) u) else (f_X12_type_b20 (1 : Int32) u)
set_option maxRecDepth 100000 in
set_option maxHeartbeats 4000000 in
theorem c_X12_type (l : Launch) (D : va_G) (cy : ClassId × ClassId × ClassId) (ad : Nat → Nat) (u : St) {r : Int32} {u' : St} (h : f_X12_type u = some (r, u')) : MX (wM cy ad) D cy l yX12_type cX12_type 2 (some .int) 1 22 0 [.ref (ad 0)] u u' (some (.int (r))) := by
  refine entX (by decide +kernel) (Nat.le_of_ble_eq_true rfl) ?_
  intro p e s m args below meth c ls rr A E hr hlk hl w
  have hl : lv_has ls 2 [(0, .ref (ad 0))] := hl
  have hx := E.1
  have hb := E.2.1
  have hown := E.2.2.2.1
  have hts := E.2.2.2.2
  refine lv_aload_n hx hb (dq da_X12_type 0 rfl) rfl (lv_at hl 0 rfl) ?_
  refine lv_aload_n hx hb (dq da_X12_type 1 rfl) rfl (lv_at hl 0 rfl) ?_
  refine gt_wM_0_inputLeft E w w_1109 (dq da_X12_type 2 rfl) ?_
  refine lv_aload_n hx hb (dq da_X12_type 3 rfl) rfl (lv_at hl 0 rfl) ?_
  refine gt_wM_0_taped E w w_1106 (dq da_X12_type 4 rfl) ?_
  refine lv_iadd hx hb (dq da_X12_type 5 rfl) ?_
  refine lv_ldc hx hb hown (hts _ w_1087) (dq da_X12_type 6 rfl) ?_
  refine lv_icmp_le (tgt := 19) hx hb (dq da_X12_type 7 rfl) (by decide) (fun c1 => ?_) (fun c1 => ?_)
  · have h := it c1 h
    refine lv_iconst (v := 0) hx hb (dq da_X12_type 10 rfl) rfl ?_
    exact b_X12_type_b20 E hr hlk h (lv_sub hl [0] rfl) w
  · have h := ie c1 h
    refine lv_iconst (v := 1) hx hb (dq da_X12_type 8 rfl) rfl ?_
    refine lv_goto (tgt := 20) hx hb (dq da_X12_type 9 rfl) (by decide) ?_
    exact b_X12_type_b20 E hr hlk h (lv_sub hl [0] rfl) w
def dl_X12_poke : List (Nat × Instr × Nat) := [(0, .aload_n 0, 1), (1, .iload_n 3, 1), (2, .iconst 1, 1), (3, .if_icmp .lt 9, 3), (6, .iload_n 3, 1), (7, .bipush 8, 2), (9, .if_icmp .le 7, 3), (12, .iconst 1, 1), (13, .goto 4, 3), (16, .iconst 0, 1), (17, .iconst 1, 1), (18, .invokevirtual 587, 3), (21, .ifCond .ne 25, 3), (24, .aload_n 0, 1), (25, .aload_n 0, 1), (26, .lload_n 1, 1), (27, .iload_n 3, 1), (28, .invokevirtual 103, 3), (31, .ifCond .ne 7, 3), (34, .iconst 1, 1), (35, .goto 4, 3), (38, .iconst 0, 1), (39, .iconst 2, 1), (40, .invokevirtual 587, 3), (43, .ifCond .eq 4, 3), (46, .return_, 1), (47, .aload_n 0, 1), (48, .lload_n 1, 1), (49, .iload_n 3, 1), (50, .lload 4, 2), (52, .invokevirtual 166, 3), (55, .return_, 1)]
theorem da_X12_poke : dkL cX12_poke dl_X12_poke = true := by decide +kernel
def f_X12_poke_b39 (x1 : Int64) (x3 : Int32) (x4 : Int64) (s0 : Int32) (u : St) : Option (St) := (f_X12_fails s0 (2 : Int32) u).bind (fun y6 => if y6.1 = (0 : Int32) then ((f_X12_setRam x1 x3 x4 y6.2).bind (fun y9 => some y9)) else (some y6.2))
set_option maxRecDepth 100000 in
set_option maxHeartbeats 4000000 in
theorem b_X12_poke_b39 {p : Program} {l : Launch} {e : Env} {s : State} {m : MethodId} {args : Array Value} {below : List Frame} {meth : Method} {c : Code} {D : va_G} {cy : ClassId × ClassId × ClassId} {ad : Nat → Nat} {A : Nat → Prop} (E : CallFix p m c cX12_poke 6 s args gw RX12) (hr : meth.sig.returnType = none) (hlk : meth.locks = false) {x1 : Int64} {x3 : Int32} {x4 : Int64} {s0 : Int32} {u : St} {u' : St} (h : f_X12_poke_b39 x1 x3 x4 s0 u = some u') {ls : Array Slot} {H : Heap} {locs : List Loc} {rr : Nat → Nat} (hl : lv_has ls 6 [(0, .ref (ad 0)), (1, .long x1), (3, .int x3), (4, .long x4)]) (w : WX (wM cy ad) D cy rr u A s H locs) : Wx (wM cy ad) D p l e 1 26 0 s m args below meth c A u' none H locs 0 39 ls [.int s0, .ref (ad 0)] := by
  have hx := E.1
  have hb := E.2.1
  have hown := E.2.2.2.1
  have hts := E.2.2.2.2
  refine lv_iconst (v := 2) hx hb (dq da_X12_poke 22 rfl) rfl ?_
  obtain ⟨y6, hy7, h⟩ := ob h
  refine cV1 E (c_X12_fails l D cy ad _ _ _ hy7) w_1294 w_1296 w_p45 w_10 w_1297 rfl hd_X12_fails rfl hl.1 rfl (Nat.le_of_ble_eq_true rfl) ⟨Nat.le_of_ble_eq_true rfl, Nat.le_of_ble_eq_true rfl⟩ (by decide) w (rc_wM_0 w) (dq da_X12_poke 23 rfl) (fun H locs rr w => ?_)
  refine lv_if_eq (tgt := 47) hx hb (dq da_X12_poke 24 rfl) (by decide) (fun c8 => ?_) (fun c8 => ?_)
  · have h := it c8 h
    refine lv_aload_n hx hb (dq da_X12_poke 26 rfl) rfl (lv_at hl 0 rfl) ?_
    refine lv_lload_n hx hb (dq da_X12_poke 27 rfl) rfl (lv_at hl 1 rfl) ?_
    refine lv_iload_n hx hb (dq da_X12_poke 28 rfl) rfl (lv_at hl 2 rfl) ?_
    refine lv_lload hx hb (dq da_X12_poke 29 rfl) (lv_at hl 3 rfl) ?_
    obtain ⟨y9, hy10, h⟩ := ob h
    refine cV0 E (c_X12_setRam l D cy ad _ _ _ _ hy10) w_1314 w_1316 w_p47 w_10 w_1317 rfl hd_X12_setRam rfl hl.1 rfl (Nat.le_of_ble_eq_true rfl) ⟨Nat.le_of_ble_eq_true rfl, Nat.le_of_ble_eq_true rfl⟩ (by decide) w (rc_wM_0 w) (dq da_X12_poke 30 rfl) (fun H locs rr w => ?_)
    exact xret_v E hr hlk w (by decide) (os h) (dq da_X12_poke 31 rfl)
  · have h := ie c8 h
    exact xret_v E hr hlk w (by decide) (os h) (dq da_X12_poke 25 rfl)
def f_X12_poke_b17 (x1 : Int64) (x3 : Int32) (x4 : Int64) (s0 : Int32) (u : St) : Option (St) := (f_X12_fails s0 (1 : Int32) u).bind (fun y2 => if y2.1 = (0 : Int32) then (if (f_X12_isRam x1 x3 y2.2) = (0 : Int32) then (f_X12_poke_b39 x1 x3 x4 (1 : Int32) y2.2) else (f_X12_poke_b39 x1 x3 x4 (0 : Int32) y2.2)) else (some y2.2))
set_option maxRecDepth 100000 in
set_option maxHeartbeats 4000000 in
theorem b_X12_poke_b17 {p : Program} {l : Launch} {e : Env} {s : State} {m : MethodId} {args : Array Value} {below : List Frame} {meth : Method} {c : Code} {D : va_G} {cy : ClassId × ClassId × ClassId} {ad : Nat → Nat} {A : Nat → Prop} (E : CallFix p m c cX12_poke 6 s args gw RX12) (hr : meth.sig.returnType = none) (hlk : meth.locks = false) {x1 : Int64} {x3 : Int32} {x4 : Int64} {s0 : Int32} {u : St} {u' : St} (h : f_X12_poke_b17 x1 x3 x4 s0 u = some u') {ls : Array Slot} {H : Heap} {locs : List Loc} {rr : Nat → Nat} (hl : lv_has ls 6 [(0, .ref (ad 0)), (1, .long x1), (3, .int x3), (4, .long x4)]) (w : WX (wM cy ad) D cy rr u A s H locs) : Wx (wM cy ad) D p l e 1 26 0 s m args below meth c A u' none H locs 0 17 ls [.int s0, .ref (ad 0)] := by
  have hx := E.1
  have hb := E.2.1
  have hown := E.2.2.2.1
  have hts := E.2.2.2.2
  refine lv_iconst (v := 1) hx hb (dq da_X12_poke 10 rfl) rfl ?_
  obtain ⟨y2, hy3, h⟩ := ob h
  refine cV1 E (c_X12_fails l D cy ad _ _ _ hy3) w_1294 w_1296 w_p45 w_10 w_1297 rfl hd_X12_fails rfl hl.1 rfl (Nat.le_of_ble_eq_true rfl) ⟨Nat.le_of_ble_eq_true rfl, Nat.le_of_ble_eq_true rfl⟩ (by decide) w (rc_wM_0 w) (dq da_X12_poke 11 rfl) (fun H locs rr w => ?_)
  refine lv_if_ne (tgt := 46) hx hb (dq da_X12_poke 12 rfl) (by decide) (fun c4 => ?_) (fun c4 => ?_)
  · have h := ie c4 h
    exact xret_v E hr hlk w (by decide) (os h) (dq da_X12_poke 25 rfl)
  · have h := it c4 h
    refine lv_aload_n hx hb (dq da_X12_poke 13 rfl) rfl (lv_at hl 0 rfl) ?_
    refine lv_aload_n hx hb (dq da_X12_poke 14 rfl) rfl (lv_at hl 0 rfl) ?_
    refine lv_lload_n hx hb (dq da_X12_poke 15 rfl) rfl (lv_at hl 1 rfl) ?_
    refine lv_iload_n hx hb (dq da_X12_poke 16 rfl) rfl (lv_at hl 2 rfl) ?_
    refine cV1 E (c_X12_isRam l D cy ad _ _ _ ) w_1286 w_1288 w_p44 w_10 w_1289 rfl hd_X12_isRam rfl hl.1 rfl (Nat.le_of_ble_eq_true rfl) ⟨Nat.le_of_ble_eq_true rfl, Nat.le_of_ble_eq_true rfl⟩ (by decide) w (rc_wM_0 w) (dq da_X12_poke 17 rfl) (fun H locs rr w => ?_)
    refine lv_if_ne (tgt := 38) hx hb (dq da_X12_poke 18 rfl) (by decide) (fun c5 => ?_) (fun c5 => ?_)
    · have h := ie c5 h
      refine lv_iconst (v := 0) hx hb (dq da_X12_poke 21 rfl) rfl ?_
      exact b_X12_poke_b39 E hr hlk h (lv_sub hl [0, 1, 2, 3] rfl) w
    · have h := it c5 h
      refine lv_iconst (v := 1) hx hb (dq da_X12_poke 19 rfl) rfl ?_
      refine lv_goto (tgt := 39) hx hb (dq da_X12_poke 20 rfl) (by decide) ?_
      exact b_X12_poke_b39 E hr hlk h (lv_sub hl [0, 1, 2, 3] rfl) w
def f_X12_poke_b12 (x1 : Int64) (x3 : Int32) (x4 : Int64) (u : St) : Option (St) := f_X12_poke_b17 x1 x3 x4 (1 : Int32) u
set_option maxRecDepth 100000 in
set_option maxHeartbeats 4000000 in
theorem b_X12_poke_b12 {p : Program} {l : Launch} {e : Env} {s : State} {m : MethodId} {args : Array Value} {below : List Frame} {meth : Method} {c : Code} {D : va_G} {cy : ClassId × ClassId × ClassId} {ad : Nat → Nat} {A : Nat → Prop} (E : CallFix p m c cX12_poke 6 s args gw RX12) (hr : meth.sig.returnType = none) (hlk : meth.locks = false) {x1 : Int64} {x3 : Int32} {x4 : Int64} {u : St} {u' : St} (h : f_X12_poke_b12 x1 x3 x4 u = some u') {ls : Array Slot} {H : Heap} {locs : List Loc} {rr : Nat → Nat} (hl : lv_has ls 6 [(0, .ref (ad 0)), (1, .long x1), (3, .int x3), (4, .long x4)]) (w : WX (wM cy ad) D cy rr u A s H locs) : Wx (wM cy ad) D p l e 1 26 0 s m args below meth c A u' none H locs 0 12 ls [.ref (ad 0)] := by
  have hx := E.1
  have hb := E.2.1
  have hown := E.2.2.2.1
  have hts := E.2.2.2.2
  refine lv_iconst (v := 1) hx hb (dq da_X12_poke 7 rfl) rfl ?_
  refine lv_goto (tgt := 17) hx hb (dq da_X12_poke 8 rfl) (by decide) ?_
  exact b_X12_poke_b17 E hr hlk h (lv_sub hl [0, 1, 2, 3] rfl) w
def f_X12_poke (x1 : Int64) (x3 : Int32) (x4 : Int64) (u : St) : Option (St) := if x3 < (1 : Int32) then (f_X12_poke_b12 x1 x3 x4 u) else (if x3 ≤ (8 : Int32) then (f_X12_poke_b17 x1 x3 x4 (0 : Int32) u) else (f_X12_poke_b12 x1 x3 x4 u))
set_option maxRecDepth 100000 in
set_option maxHeartbeats 4000000 in
theorem c_X12_poke (l : Launch) (D : va_G) (cy : ClassId × ClassId × ClassId) (ad : Nat → Nat) (x1 : Int64) (x3 : Int32) (x4 : Int64) (u : St) {u' : St} (h : f_X12_poke x1 x3 x4 u = some u') : MX (wM cy ad) D cy l yX12_poke cX12_poke 6 (none) 1 26 0 [.ref (ad 0), .long x1, .int x3, .long x4] u u' none := by
  refine entX (by decide +kernel) (Nat.le_of_ble_eq_true rfl) ?_
  intro p e s m args below meth c ls rr A E hr hlk hl w
  have hl : lv_has ls 6 [(0, .ref (ad 0)), (1, .long x1), (3, .int x3), (4, .long x4)] := hl
  have hx := E.1
  have hb := E.2.1
  have hown := E.2.2.2.1
  have hts := E.2.2.2.2
  refine lv_aload_n hx hb (dq da_X12_poke 0 rfl) rfl (lv_at hl 0 rfl) ?_
  refine lv_iload_n hx hb (dq da_X12_poke 1 rfl) rfl (lv_at hl 2 rfl) ?_
  refine lv_iconst (v := 1) hx hb (dq da_X12_poke 2 rfl) rfl ?_
  refine lv_icmp_lt (tgt := 12) hx hb (dq da_X12_poke 3 rfl) (by decide) (fun c1 => ?_) (fun c1 => ?_)
  · have h := it c1 h
    exact b_X12_poke_b12 E hr hlk h (lv_sub hl [0, 1, 2, 3] rfl) w
  · have h := ie c1 h
    refine lv_iload_n hx hb (dq da_X12_poke 4 rfl) rfl (lv_at hl 2 rfl) ?_
    refine lv_bipush (v := 8) hx hb (dq da_X12_poke 5 rfl) rfl ?_
    refine lv_icmp_le (tgt := 16) hx hb (dq da_X12_poke 6 rfl) (by decide) (fun c11 => ?_) (fun c11 => ?_)
    · have h := it c11 h
      refine lv_iconst (v := 0) hx hb (dq da_X12_poke 9 rfl) rfl ?_
      exact b_X12_poke_b17 E hr hlk h (lv_sub hl [0, 1, 2, 3] rfl) w
    · have h := ie c11 h
      exact b_X12_poke_b12 E hr hlk h (lv_sub hl [0, 1, 2, 3] rfl) w
def dl_X12_peek : List (Nat × Instr × Nat) := [(0, .aload_n 0, 1), (1, .aload_n 0, 1), (2, .lload_n 1, 1), (3, .bipush 8, 2), (5, .invokevirtual 103, 3), (8, .ifCond .ne 7, 3), (11, .iconst 1, 1), (12, .goto 4, 3), (15, .iconst 0, 1), (16, .iconst 1, 1), (17, .invokevirtual 587, 3), (20, .ifCond .eq 7, 3), (23, .lconst 0, 1), (24, .goto 10, 3), (27, .aload_n 0, 1), (28, .lload_n 1, 1), (29, .bipush 8, 2), (31, .invokevirtual 129, 3), (34, .lreturn, 1)]
theorem da_X12_peek : dkL cX12_peek dl_X12_peek = true := by decide +kernel
def f_X12_peek_b16 (x1 : Int64) (s0 : Int32) (u : St) : Option (Int64 × St) := (f_X12_fails s0 (1 : Int32) u).bind (fun y2 => if y2.1 = (0 : Int32) then ((f_X12_ramAt x1 (8 : Int32) y2.2).bind (fun y5 => some (y5, y2.2))) else (some ((0 : Int64), y2.2)))
set_option maxRecDepth 100000 in
set_option maxHeartbeats 4000000 in
theorem b_X12_peek_b16 {p : Program} {l : Launch} {e : Env} {s : State} {m : MethodId} {args : Array Value} {below : List Frame} {meth : Method} {c : Code} {D : va_G} {cy : ClassId × ClassId × ClassId} {ad : Nat → Nat} {A : Nat → Prop} (E : CallFix p m c cX12_peek 3 s args gw RX12) (hr : meth.sig.returnType = some .long) (hlk : meth.locks = false) {x1 : Int64} {s0 : Int32} {u : St} {r : Int64} {u' : St} (h : f_X12_peek_b16 x1 s0 u = some (r, u')) {ls : Array Slot} {H : Heap} {locs : List Loc} {rr : Nat → Nat} (hl : lv_has ls 3 [(0, .ref (ad 0)), (1, .long x1)]) (w : WX (wM cy ad) D cy rr u A s H locs) : Wx (wM cy ad) D p l e 1 26 0 s m args below meth c A u' (some (.long r)) H locs 0 16 ls [.int s0, .ref (ad 0)] := by
  have hx := E.1
  have hb := E.2.1
  have hown := E.2.2.2.1
  have hts := E.2.2.2.2
  refine lv_iconst (v := 1) hx hb (dq da_X12_peek 9 rfl) rfl ?_
  obtain ⟨y2, hy3, h⟩ := ob h
  refine cV1 E (c_X12_fails l D cy ad _ _ _ hy3) w_1294 w_1296 w_p45 w_10 w_1297 rfl hd_X12_fails rfl hl.1 rfl (Nat.le_of_ble_eq_true rfl) ⟨Nat.le_of_ble_eq_true rfl, Nat.le_of_ble_eq_true rfl⟩ (by decide) w (rc_wM_0 w) (dq da_X12_peek 10 rfl) (fun H locs rr w => ?_)
  refine lv_if_eq (tgt := 27) hx hb (dq da_X12_peek 11 rfl) (by decide) (fun c4 => ?_) (fun c4 => ?_)
  · have h := it c4 h
    refine lv_aload_n hx hb (dq da_X12_peek 14 rfl) rfl (lv_at hl 0 rfl) ?_
    refine lv_lload_n hx hb (dq da_X12_peek 15 rfl) rfl (lv_at hl 1 rfl) ?_
    refine lv_bipush (v := 8) hx hb (dq da_X12_peek 16 rfl) rfl ?_
    obtain ⟨y5, hy6, h⟩ := ob h
    refine cV1 E (c_X12_ramAt l D cy ad _ _ _ hy6) w_1322 w_1324 w_p48 w_10 w_1325 rfl hd_X12_ramAt rfl hl.1 rfl (Nat.le_of_ble_eq_true rfl) ⟨Nat.le_of_ble_eq_true rfl, Nat.le_of_ble_eq_true rfl⟩ (by decide) w (rc_wM_0 w) (dq da_X12_peek 17 rfl) (fun H locs rr w => ?_)
    exact xret_l E hr hlk w (by decide) (congrArg Prod.fst (os h)) (congrArg Prod.snd (os h)) (dq da_X12_peek 18 rfl)
  · have h := ie c4 h
    refine lv_lconst (v := 0) hx hb (dq da_X12_peek 12 rfl) rfl ?_
    refine lv_goto (tgt := 34) hx hb (dq da_X12_peek 13 rfl) (by decide) ?_
    exact xret_l E hr hlk w (by decide) (congrArg Prod.fst (os h)) (congrArg Prod.snd (os h)) (dq da_X12_peek 18 rfl)
def f_X12_peek (x1 : Int64) (u : St) : Option (Int64 × St) := if (f_X12_isRam x1 (8 : Int32) u) = (0 : Int32) then (f_X12_peek_b16 x1 (1 : Int32) u) else (f_X12_peek_b16 x1 (0 : Int32) u)
set_option maxRecDepth 100000 in
set_option maxHeartbeats 4000000 in
theorem c_X12_peek (l : Launch) (D : va_G) (cy : ClassId × ClassId × ClassId) (ad : Nat → Nat) (x1 : Int64) (u : St) {r : Int64} {u' : St} (h : f_X12_peek x1 u = some (r, u')) : MX (wM cy ad) D cy l yX12_peek cX12_peek 3 (some .long) 1 26 0 [.ref (ad 0), .long x1] u u' (some (.long (r))) := by
  refine entX (by decide +kernel) (Nat.le_of_ble_eq_true rfl) ?_
  intro p e s m args below meth c ls rr A E hr hlk hl w
  have hl : lv_has ls 3 [(0, .ref (ad 0)), (1, .long x1)] := hl
  have hx := E.1
  have hb := E.2.1
  have hown := E.2.2.2.1
  have hts := E.2.2.2.2
  refine lv_aload_n hx hb (dq da_X12_peek 0 rfl) rfl (lv_at hl 0 rfl) ?_
  refine lv_aload_n hx hb (dq da_X12_peek 1 rfl) rfl (lv_at hl 0 rfl) ?_
  refine lv_lload_n hx hb (dq da_X12_peek 2 rfl) rfl (lv_at hl 1 rfl) ?_
  refine lv_bipush (v := 8) hx hb (dq da_X12_peek 3 rfl) rfl ?_
  refine cV1 E (c_X12_isRam l D cy ad _ _ _ ) w_1286 w_1288 w_p44 w_10 w_1289 rfl hd_X12_isRam rfl hl.1 rfl (Nat.le_of_ble_eq_true rfl) ⟨Nat.le_of_ble_eq_true rfl, Nat.le_of_ble_eq_true rfl⟩ (by decide) w (rc_wM_0 w) (dq da_X12_peek 4 rfl) (fun H locs rr w => ?_)
  refine lv_if_ne (tgt := 15) hx hb (dq da_X12_peek 5 rfl) (by decide) (fun c1 => ?_) (fun c1 => ?_)
  · have h := ie c1 h
    refine lv_iconst (v := 0) hx hb (dq da_X12_peek 8 rfl) rfl ?_
    exact b_X12_peek_b16 E hr hlk h (lv_sub hl [0, 1] rfl) w
  · have h := it c1 h
    refine lv_iconst (v := 1) hx hb (dq da_X12_peek 6 rfl) rfl ?_
    refine lv_goto (tgt := 16) hx hb (dq da_X12_peek 7 rfl) (by decide) ?_
    exact b_X12_peek_b16 E hr hlk h (lv_sub hl [0, 1] rfl) w
def dl_X12_set : List (Nat × Instr × Nat) := [(0, .aload_n 0, 1), (1, .iload_n 1, 1), (2, .ifCond .lt 9, 3), (5, .iload_n 1, 1), (6, .bipush 32, 2), (8, .if_icmp .le 7, 3), (11, .iconst 1, 1), (12, .goto 4, 3), (15, .iconst 0, 1), (16, .iconst 1, 1), (17, .invokevirtual 587, 3), (20, .ifCond .eq 4, 3), (23, .return_, 1), (24, .iload_n 1, 1), (25, .bipush 32, 2), (27, .if_icmp .ne 15, 3), (30, .aload_n 0, 1), (31, .lload_n 2, 1), (32, .ldc2_w 331, 3), (35, .land, 1), (36, .putfield 20, 3), (39, .goto 14, 3), (42, .iload_n 1, 1), (43, .ifCond .le 10, 3), (46, .aload_n 0, 1), (47, .getfield 14, 3), (50, .iload_n 1, 1), (51, .lload_n 2, 1), (52, .lastore, 1), (53, .return_, 1)]
theorem da_X12_set : dkL cX12_set dl_X12_set = true := by decide +kernel
def f_X12_set_b16 (x1 : Int32) (x2 : Int64) (s0 : Int32) (u : St) : Option (St) := (f_X12_fails s0 (1 : Int32) u).bind (fun y2 => if y2.1 = (0 : Int32) then (if x1 = (32 : Int32) then (some (sL y2.2 0 (x2 &&& (-2 : Int64)))) else (if x1 ≤ (0 : Int32) then (some y2.2) else (if inB x1 (gN y2.2 1) then (some (sB y2.2 0 x1.toNatClampNeg x2)) else none))) else (some y2.2))
set_option maxRecDepth 100000 in
set_option maxHeartbeats 4000000 in
theorem b_X12_set_b16 {p : Program} {l : Launch} {e : Env} {s : State} {m : MethodId} {args : Array Value} {below : List Frame} {meth : Method} {c : Code} {D : va_G} {cy : ClassId × ClassId × ClassId} {ad : Nat → Nat} {A : Nat → Prop} (E : CallFix p m c cX12_set 4 s args gw RX12) (hr : meth.sig.returnType = none) (hlk : meth.locks = false) {x1 : Int32} {x2 : Int64} {s0 : Int32} {u : St} {u' : St} (h : f_X12_set_b16 x1 x2 s0 u = some u') {ls : Array Slot} {H : Heap} {locs : List Loc} {rr : Nat → Nat} (hl : lv_has ls 4 [(0, .ref (ad 0)), (1, .int x1), (2, .long x2)]) (w : WX (wM cy ad) D cy rr u A s H locs) : Wx (wM cy ad) D p l e 1 22 0 s m args below meth c A u' none H locs 0 16 ls [.int s0, .ref (ad 0)] := by
  have hx := E.1
  have hb := E.2.1
  have hown := E.2.2.2.1
  have hts := E.2.2.2.2
  refine lv_iconst (v := 1) hx hb (dq da_X12_set 9 rfl) rfl ?_
  obtain ⟨y2, hy3, h⟩ := ob h
  refine cV1 E (c_X12_fails l D cy ad _ _ _ hy3) w_1294 w_1296 w_p45 w_10 w_1297 rfl hd_X12_fails rfl hl.1 rfl (Nat.le_of_ble_eq_true rfl) ⟨Nat.le_of_ble_eq_true rfl, Nat.le_of_ble_eq_true rfl⟩ (by decide) w (rc_wM_0 w) (dq da_X12_set 10 rfl) (fun H locs rr w => ?_)
  refine lv_if_eq (tgt := 24) hx hb (dq da_X12_set 11 rfl) (by decide) (fun c4 => ?_) (fun c4 => ?_)
  · have h := it c4 h
    refine lv_iload_n hx hb (dq da_X12_set 13 rfl) rfl (lv_at hl 1 rfl) ?_
    refine lv_bipush (v := 32) hx hb (dq da_X12_set 14 rfl) rfl ?_
    refine lv_icmp_ne (tgt := 42) hx hb (dq da_X12_set 15 rfl) (by decide) (fun c5 => ?_) (fun c5 => ?_)
    · have h := ie c5 h
      refine lv_iload_n hx hb (dq da_X12_set 22 rfl) rfl (lv_at hl 1 rfl) ?_
      refine lv_if_le (tgt := 53) hx hb (dq da_X12_set 23 rfl) (by decide) (fun c6 => ?_) (fun c6 => ?_)
      · have h := it c6 h
        exact xret_v E hr hlk w (by decide) (os h) (dq da_X12_set 29 rfl)
      · have h := ie c6 h
        refine lv_aload_n hx hb (dq da_X12_set 24 rfl) rfl (lv_at hl 0 rfl) ?_
        refine gt_wM_0_x E w w_1091 (dq da_X12_set 25 rfl) ?_
        refine lv_iload_n hx hb (dq da_X12_set 26 rfl) rfl (lv_at hl 1 rfl) ?_
        refine lv_lload_n hx hb (dq da_X12_set 27 rfl) rfl (lv_at hl 2 rfl) ?_
        obtain ⟨hi7, h⟩ := oi h
        refine ast_wM_2 E w hi7 (dq da_X12_set 28 rfl) (fun H locs w => ?_)
        exact xret_v E hr hlk w (by decide) (os h) (dq da_X12_set 29 rfl)
    · have h := it c5 h
      refine lv_aload_n hx hb (dq da_X12_set 16 rfl) rfl (lv_at hl 0 rfl) ?_
      refine lv_lload_n hx hb (dq da_X12_set 17 rfl) rfl (lv_at hl 2 rfl) ?_
      refine lv_ldc2 hx hb hown (hts _ w_1330) (dq da_X12_set 18 rfl) ?_
      refine lv_land hx hb (dq da_X12_set 19 rfl) ?_
      refine pt_wM_0_pc E w w_1092 (dq da_X12_set 20 rfl) (fun H locs w => ?_)
      refine lv_goto (tgt := 53) hx hb (dq da_X12_set 21 rfl) (by decide) ?_
      exact xret_v E hr hlk w (by decide) (os h) (dq da_X12_set 29 rfl)
  · have h := ie c4 h
    exact xret_v E hr hlk w (by decide) (os h) (dq da_X12_set 12 rfl)
def f_X12_set_b11 (x1 : Int32) (x2 : Int64) (u : St) : Option (St) := f_X12_set_b16 x1 x2 (1 : Int32) u
set_option maxRecDepth 100000 in
set_option maxHeartbeats 4000000 in
theorem b_X12_set_b11 {p : Program} {l : Launch} {e : Env} {s : State} {m : MethodId} {args : Array Value} {below : List Frame} {meth : Method} {c : Code} {D : va_G} {cy : ClassId × ClassId × ClassId} {ad : Nat → Nat} {A : Nat → Prop} (E : CallFix p m c cX12_set 4 s args gw RX12) (hr : meth.sig.returnType = none) (hlk : meth.locks = false) {x1 : Int32} {x2 : Int64} {u : St} {u' : St} (h : f_X12_set_b11 x1 x2 u = some u') {ls : Array Slot} {H : Heap} {locs : List Loc} {rr : Nat → Nat} (hl : lv_has ls 4 [(0, .ref (ad 0)), (1, .int x1), (2, .long x2)]) (w : WX (wM cy ad) D cy rr u A s H locs) : Wx (wM cy ad) D p l e 1 22 0 s m args below meth c A u' none H locs 0 11 ls [.ref (ad 0)] := by
  have hx := E.1
  have hb := E.2.1
  have hown := E.2.2.2.1
  have hts := E.2.2.2.2
  refine lv_iconst (v := 1) hx hb (dq da_X12_set 6 rfl) rfl ?_
  refine lv_goto (tgt := 16) hx hb (dq da_X12_set 7 rfl) (by decide) ?_
  exact b_X12_set_b16 E hr hlk h (lv_sub hl [0, 1, 2] rfl) w
def f_X12_set (x1 : Int32) (x2 : Int64) (u : St) : Option (St) := if x1 < (0 : Int32) then (f_X12_set_b11 x1 x2 u) else (if x1 ≤ (32 : Int32) then (f_X12_set_b16 x1 x2 (0 : Int32) u) else (f_X12_set_b11 x1 x2 u))
set_option maxRecDepth 100000 in
set_option maxHeartbeats 4000000 in
theorem c_X12_set (l : Launch) (D : va_G) (cy : ClassId × ClassId × ClassId) (ad : Nat → Nat) (x1 : Int32) (x2 : Int64) (u : St) {u' : St} (h : f_X12_set x1 x2 u = some u') : MX (wM cy ad) D cy l yX12_set cX12_set 4 (none) 1 22 0 [.ref (ad 0), .int x1, .long x2] u u' none := by
  refine entX (by decide +kernel) (Nat.le_of_ble_eq_true rfl) ?_
  intro p e s m args below meth c ls rr A E hr hlk hl w
  have hl : lv_has ls 4 [(0, .ref (ad 0)), (1, .int x1), (2, .long x2)] := hl
  have hx := E.1
  have hb := E.2.1
  have hown := E.2.2.2.1
  have hts := E.2.2.2.2
  refine lv_aload_n hx hb (dq da_X12_set 0 rfl) rfl (lv_at hl 0 rfl) ?_
  refine lv_iload_n hx hb (dq da_X12_set 1 rfl) rfl (lv_at hl 1 rfl) ?_
  refine lv_if_lt (tgt := 11) hx hb (dq da_X12_set 2 rfl) (by decide) (fun c1 => ?_) (fun c1 => ?_)
  · have h := it c1 h
    exact b_X12_set_b11 E hr hlk h (lv_sub hl [0, 1, 2] rfl) w
  · have h := ie c1 h
    refine lv_iload_n hx hb (dq da_X12_set 3 rfl) rfl (lv_at hl 1 rfl) ?_
    refine lv_bipush (v := 32) hx hb (dq da_X12_set 4 rfl) rfl ?_
    refine lv_icmp_le (tgt := 15) hx hb (dq da_X12_set 5 rfl) (by decide) (fun c8 => ?_) (fun c8 => ?_)
    · have h := it c8 h
      refine lv_iconst (v := 0) hx hb (dq da_X12_set 8 rfl) rfl ?_
      exact b_X12_set_b16 E hr hlk h (lv_sub hl [0, 1, 2] rfl) w
    · have h := ie c8 h
      exact b_X12_set_b11 E hr hlk h (lv_sub hl [0, 1, 2] rfl) w
def dl_X12_get : List (Nat × Instr × Nat) := [(0, .aload_n 0, 1), (1, .iload_n 1, 1), (2, .ifCond .lt 9, 3), (5, .iload_n 1, 1), (6, .bipush 32, 2), (8, .if_icmp .le 7, 3), (11, .iconst 1, 1), (12, .goto 4, 3), (15, .iconst 0, 1), (16, .iconst 1, 1), (17, .invokevirtual 587, 3), (20, .ifCond .eq 5, 3), (23, .lconst 0, 1), (24, .lreturn, 1), (25, .iload_n 1, 1), (26, .bipush 32, 2), (28, .if_icmp .ne 10, 3), (31, .aload_n 0, 1), (32, .getfield 20, 3), (35, .goto 9, 3), (38, .aload_n 0, 1), (39, .getfield 14, 3), (42, .iload_n 1, 1), (43, .laload, 1), (44, .lreturn, 1)]
theorem da_X12_get : dkL cX12_get dl_X12_get = true := by decide +kernel
def f_X12_get_b16 (x1 : Int32) (s0 : Int32) (u : St) : Option (Int64 × St) := (f_X12_fails s0 (1 : Int32) u).bind (fun y2 => if y2.1 = (0 : Int32) then (if x1 = (32 : Int32) then (some ((gL y2.2 0), y2.2)) else (if inB x1 (gN y2.2 1) then (some ((gB y2.2 0 x1.toNatClampNeg), y2.2)) else none)) else (some ((0 : Int64), y2.2)))
set_option maxRecDepth 100000 in
set_option maxHeartbeats 4000000 in
theorem b_X12_get_b16 {p : Program} {l : Launch} {e : Env} {s : State} {m : MethodId} {args : Array Value} {below : List Frame} {meth : Method} {c : Code} {D : va_G} {cy : ClassId × ClassId × ClassId} {ad : Nat → Nat} {A : Nat → Prop} (E : CallFix p m c cX12_get 2 s args gw RX12) (hr : meth.sig.returnType = some .long) (hlk : meth.locks = false) {x1 : Int32} {s0 : Int32} {u : St} {r : Int64} {u' : St} (h : f_X12_get_b16 x1 s0 u = some (r, u')) {ls : Array Slot} {H : Heap} {locs : List Loc} {rr : Nat → Nat} (hl : lv_has ls 2 [(0, .ref (ad 0)), (1, .int x1)]) (w : WX (wM cy ad) D cy rr u A s H locs) : Wx (wM cy ad) D p l e 1 22 0 s m args below meth c A u' (some (.long r)) H locs 0 16 ls [.int s0, .ref (ad 0)] := by
  have hx := E.1
  have hb := E.2.1
  have hown := E.2.2.2.1
  have hts := E.2.2.2.2
  refine lv_iconst (v := 1) hx hb (dq da_X12_get 9 rfl) rfl ?_
  obtain ⟨y2, hy3, h⟩ := ob h
  refine cV1 E (c_X12_fails l D cy ad _ _ _ hy3) w_1294 w_1296 w_p45 w_10 w_1297 rfl hd_X12_fails rfl hl.1 rfl (Nat.le_of_ble_eq_true rfl) ⟨Nat.le_of_ble_eq_true rfl, Nat.le_of_ble_eq_true rfl⟩ (by decide) w (rc_wM_0 w) (dq da_X12_get 10 rfl) (fun H locs rr w => ?_)
  refine lv_if_eq (tgt := 25) hx hb (dq da_X12_get 11 rfl) (by decide) (fun c4 => ?_) (fun c4 => ?_)
  · have h := it c4 h
    refine lv_iload_n hx hb (dq da_X12_get 14 rfl) rfl (lv_at hl 1 rfl) ?_
    refine lv_bipush (v := 32) hx hb (dq da_X12_get 15 rfl) rfl ?_
    refine lv_icmp_ne (tgt := 38) hx hb (dq da_X12_get 16 rfl) (by decide) (fun c5 => ?_) (fun c5 => ?_)
    · have h := ie c5 h
      refine lv_aload_n hx hb (dq da_X12_get 20 rfl) rfl (lv_at hl 0 rfl) ?_
      refine gt_wM_0_x E w w_1091 (dq da_X12_get 21 rfl) ?_
      refine lv_iload_n hx hb (dq da_X12_get 22 rfl) rfl (lv_at hl 1 rfl) ?_
      obtain ⟨hi6, h⟩ := oi h
      refine ald_wM_2 E w hi6 (dq da_X12_get 23 rfl) ?_
      exact xret_l E hr hlk w (by decide) (congrArg Prod.fst (os h)) (congrArg Prod.snd (os h)) (dq da_X12_get 24 rfl)
    · have h := it c5 h
      refine lv_aload_n hx hb (dq da_X12_get 17 rfl) rfl (lv_at hl 0 rfl) ?_
      refine gt_wM_0_pc E w w_1092 (dq da_X12_get 18 rfl) ?_
      refine lv_goto (tgt := 44) hx hb (dq da_X12_get 19 rfl) (by decide) ?_
      exact xret_l E hr hlk w (by decide) (congrArg Prod.fst (os h)) (congrArg Prod.snd (os h)) (dq da_X12_get 24 rfl)
  · have h := ie c4 h
    refine lv_lconst (v := 0) hx hb (dq da_X12_get 12 rfl) rfl ?_
    exact xret_l E hr hlk w (by decide) (congrArg Prod.fst (os h)) (congrArg Prod.snd (os h)) (dq da_X12_get 13 rfl)
def f_X12_get_b11 (x1 : Int32) (u : St) : Option (Int64 × St) := f_X12_get_b16 x1 (1 : Int32) u
set_option maxRecDepth 100000 in
set_option maxHeartbeats 4000000 in
theorem b_X12_get_b11 {p : Program} {l : Launch} {e : Env} {s : State} {m : MethodId} {args : Array Value} {below : List Frame} {meth : Method} {c : Code} {D : va_G} {cy : ClassId × ClassId × ClassId} {ad : Nat → Nat} {A : Nat → Prop} (E : CallFix p m c cX12_get 2 s args gw RX12) (hr : meth.sig.returnType = some .long) (hlk : meth.locks = false) {x1 : Int32} {u : St} {r : Int64} {u' : St} (h : f_X12_get_b11 x1 u = some (r, u')) {ls : Array Slot} {H : Heap} {locs : List Loc} {rr : Nat → Nat} (hl : lv_has ls 2 [(0, .ref (ad 0)), (1, .int x1)]) (w : WX (wM cy ad) D cy rr u A s H locs) : Wx (wM cy ad) D p l e 1 22 0 s m args below meth c A u' (some (.long r)) H locs 0 11 ls [.ref (ad 0)] := by
  have hx := E.1
  have hb := E.2.1
  have hown := E.2.2.2.1
  have hts := E.2.2.2.2
  refine lv_iconst (v := 1) hx hb (dq da_X12_get 6 rfl) rfl ?_
  refine lv_goto (tgt := 16) hx hb (dq da_X12_get 7 rfl) (by decide) ?_
  exact b_X12_get_b16 E hr hlk h (lv_sub hl [0, 1] rfl) w
def f_X12_get (x1 : Int32) (u : St) : Option (Int64 × St) := if x1 < (0 : Int32) then (f_X12_get_b11 x1 u) else (if x1 ≤ (32 : Int32) then (f_X12_get_b16 x1 (0 : Int32) u) else (f_X12_get_b11 x1 u))
set_option maxRecDepth 100000 in
set_option maxHeartbeats 4000000 in
theorem c_X12_get (l : Launch) (D : va_G) (cy : ClassId × ClassId × ClassId) (ad : Nat → Nat) (x1 : Int32) (u : St) {r : Int64} {u' : St} (h : f_X12_get x1 u = some (r, u')) : MX (wM cy ad) D cy l yX12_get cX12_get 2 (some .long) 1 22 0 [.ref (ad 0), .int x1] u u' (some (.long (r))) := by
  refine entX (by decide +kernel) (Nat.le_of_ble_eq_true rfl) ?_
  intro p e s m args below meth c ls rr A E hr hlk hl w
  have hl : lv_has ls 2 [(0, .ref (ad 0)), (1, .int x1)] := hl
  have hx := E.1
  have hb := E.2.1
  have hown := E.2.2.2.1
  have hts := E.2.2.2.2
  refine lv_aload_n hx hb (dq da_X12_get 0 rfl) rfl (lv_at hl 0 rfl) ?_
  refine lv_iload_n hx hb (dq da_X12_get 1 rfl) rfl (lv_at hl 1 rfl) ?_
  refine lv_if_lt (tgt := 11) hx hb (dq da_X12_get 2 rfl) (by decide) (fun c1 => ?_) (fun c1 => ?_)
  · have h := it c1 h
    exact b_X12_get_b11 E hr hlk h (lv_sub hl [0, 1] rfl) w
  · have h := ie c1 h
    refine lv_iload_n hx hb (dq da_X12_get 3 rfl) rfl (lv_at hl 1 rfl) ?_
    refine lv_bipush (v := 32) hx hb (dq da_X12_get 4 rfl) rfl ?_
    refine lv_icmp_le (tgt := 15) hx hb (dq da_X12_get 5 rfl) (by decide) (fun c7 => ?_) (fun c7 => ?_)
    · have h := it c7 h
      refine lv_iconst (v := 0) hx hb (dq da_X12_get 8 rfl) rfl ?_
      exact b_X12_get_b16 E hr hlk h (lv_sub hl [0, 1] rfl) w
    · have h := ie c7 h
      exact b_X12_get_b11 E hr hlk h (lv_sub hl [0, 1] rfl) w
def dl_X12_lower : List (Nat × Instr × Nat) := [(0, .aload_n 0, 1), (1, .iload_n 1, 1), (2, .ifCond .eq 17, 3), (5, .iload_n 1, 1), (6, .iconst 1, 1), (7, .if_icmp .eq 12, 3), (10, .iload_n 1, 1), (11, .iconst 3, 1), (12, .if_icmp .eq 7, 3), (15, .iconst 1, 1), (16, .goto 4, 3), (19, .iconst 0, 1), (20, .iconst 1, 1), (21, .invokevirtual 587, 3), (24, .ifCond .eq 4, 3), (27, .return_, 1), (28, .aload_n 0, 1), (29, .iload_n 1, 1), (30, .putfield 24, 3), (33, .return_, 1)]
theorem da_X12_lower : dkL cX12_lower dl_X12_lower = true := by decide +kernel
def f_X12_lower_b20 (x1 : Int32) (s0 : Int32) (u : St) : Option (St) := (f_X12_fails s0 (1 : Int32) u).bind (fun y2 => if y2.1 = (0 : Int32) then (some (sI y2.2 2 x1)) else (some y2.2))
set_option maxRecDepth 100000 in
set_option maxHeartbeats 4000000 in
theorem b_X12_lower_b20 {p : Program} {l : Launch} {e : Env} {s : State} {m : MethodId} {args : Array Value} {below : List Frame} {meth : Method} {c : Code} {D : va_G} {cy : ClassId × ClassId × ClassId} {ad : Nat → Nat} {A : Nat → Prop} (E : CallFix p m c cX12_lower 2 s args gw RX12) (hr : meth.sig.returnType = none) (hlk : meth.locks = false) {x1 : Int32} {s0 : Int32} {u : St} {u' : St} (h : f_X12_lower_b20 x1 s0 u = some u') {ls : Array Slot} {H : Heap} {locs : List Loc} {rr : Nat → Nat} (hl : lv_has ls 2 [(0, .ref (ad 0)), (1, .int x1)]) (w : WX (wM cy ad) D cy rr u A s H locs) : Wx (wM cy ad) D p l e 1 22 0 s m args below meth c A u' none H locs 0 20 ls [.int s0, .ref (ad 0)] := by
  have hx := E.1
  have hb := E.2.1
  have hown := E.2.2.2.1
  have hts := E.2.2.2.2
  refine lv_iconst (v := 1) hx hb (dq da_X12_lower 12 rfl) rfl ?_
  obtain ⟨y2, hy3, h⟩ := ob h
  refine cV1 E (c_X12_fails l D cy ad _ _ _ hy3) w_1294 w_1296 w_p45 w_10 w_1297 rfl hd_X12_fails rfl hl.1 rfl (Nat.le_of_ble_eq_true rfl) ⟨Nat.le_of_ble_eq_true rfl, Nat.le_of_ble_eq_true rfl⟩ (by decide) w (rc_wM_0 w) (dq da_X12_lower 13 rfl) (fun H locs rr w => ?_)
  refine lv_if_eq (tgt := 28) hx hb (dq da_X12_lower 14 rfl) (by decide) (fun c4 => ?_) (fun c4 => ?_)
  · have h := it c4 h
    refine lv_aload_n hx hb (dq da_X12_lower 16 rfl) rfl (lv_at hl 0 rfl) ?_
    refine lv_iload_n hx hb (dq da_X12_lower 17 rfl) rfl (lv_at hl 1 rfl) ?_
    refine pt_wM_0_privilege E w w_1093 (dq da_X12_lower 18 rfl) (fun H locs w => ?_)
    exact xret_v E hr hlk w (by decide) (os h) (dq da_X12_lower 19 rfl)
  · have h := ie c4 h
    exact xret_v E hr hlk w (by decide) (os h) (dq da_X12_lower 15 rfl)
def f_X12_lower_b19 (x1 : Int32) (u : St) : Option (St) := f_X12_lower_b20 x1 (0 : Int32) u
set_option maxRecDepth 100000 in
set_option maxHeartbeats 4000000 in
theorem b_X12_lower_b19 {p : Program} {l : Launch} {e : Env} {s : State} {m : MethodId} {args : Array Value} {below : List Frame} {meth : Method} {c : Code} {D : va_G} {cy : ClassId × ClassId × ClassId} {ad : Nat → Nat} {A : Nat → Prop} (E : CallFix p m c cX12_lower 2 s args gw RX12) (hr : meth.sig.returnType = none) (hlk : meth.locks = false) {x1 : Int32} {u : St} {u' : St} (h : f_X12_lower_b19 x1 u = some u') {ls : Array Slot} {H : Heap} {locs : List Loc} {rr : Nat → Nat} (hl : lv_has ls 2 [(0, .ref (ad 0)), (1, .int x1)]) (w : WX (wM cy ad) D cy rr u A s H locs) : Wx (wM cy ad) D p l e 1 22 0 s m args below meth c A u' none H locs 0 19 ls [.ref (ad 0)] := by
  have hx := E.1
  have hb := E.2.1
  have hown := E.2.2.2.1
  have hts := E.2.2.2.2
  refine lv_iconst (v := 0) hx hb (dq da_X12_lower 11 rfl) rfl ?_
  exact b_X12_lower_b20 E hr hlk h (lv_sub hl [0, 1] rfl) w
def f_X12_lower (x1 : Int32) (u : St) : Option (St) := if x1 = (0 : Int32) then (f_X12_lower_b19 x1 u) else (if x1 = (1 : Int32) then (f_X12_lower_b19 x1 u) else (if x1 = (3 : Int32) then (f_X12_lower_b19 x1 u) else (f_X12_lower_b20 x1 (1 : Int32) u)))
set_option maxRecDepth 100000 in
set_option maxHeartbeats 4000000 in
theorem c_X12_lower (l : Launch) (D : va_G) (cy : ClassId × ClassId × ClassId) (ad : Nat → Nat) (x1 : Int32) (u : St) {u' : St} (h : f_X12_lower x1 u = some u') : MX (wM cy ad) D cy l yX12_lower cX12_lower 2 (none) 1 22 0 [.ref (ad 0), .int x1] u u' none := by
  refine entX (by decide +kernel) (Nat.le_of_ble_eq_true rfl) ?_
  intro p e s m args below meth c ls rr A E hr hlk hl w
  have hl : lv_has ls 2 [(0, .ref (ad 0)), (1, .int x1)] := hl
  have hx := E.1
  have hb := E.2.1
  have hown := E.2.2.2.1
  have hts := E.2.2.2.2
  refine lv_aload_n hx hb (dq da_X12_lower 0 rfl) rfl (lv_at hl 0 rfl) ?_
  refine lv_iload_n hx hb (dq da_X12_lower 1 rfl) rfl (lv_at hl 1 rfl) ?_
  refine lv_if_eq (tgt := 19) hx hb (dq da_X12_lower 2 rfl) (by decide) (fun c1 => ?_) (fun c1 => ?_)
  · have h := it c1 h
    exact b_X12_lower_b19 E hr hlk h (lv_sub hl [0, 1] rfl) w
  · have h := ie c1 h
    refine lv_iload_n hx hb (dq da_X12_lower 3 rfl) rfl (lv_at hl 1 rfl) ?_
    refine lv_iconst (v := 1) hx hb (dq da_X12_lower 4 rfl) rfl ?_
    refine lv_icmp_eq (tgt := 19) hx hb (dq da_X12_lower 5 rfl) (by decide) (fun c5 => ?_) (fun c5 => ?_)
    · have h := it c5 h
      exact b_X12_lower_b19 E hr hlk h (lv_sub hl [0, 1] rfl) w
    · have h := ie c5 h
      refine lv_iload_n hx hb (dq da_X12_lower 6 rfl) rfl (lv_at hl 1 rfl) ?_
      refine lv_iconst (v := 3) hx hb (dq da_X12_lower 7 rfl) rfl ?_
      refine lv_icmp_eq (tgt := 19) hx hb (dq da_X12_lower 8 rfl) (by decide) (fun c6 => ?_) (fun c6 => ?_)
      · have h := it c6 h
        exact b_X12_lower_b19 E hr hlk h (lv_sub hl [0, 1] rfl) w
      · have h := ie c6 h
        refine lv_iconst (v := 1) hx hb (dq da_X12_lower 9 rfl) rfl ?_
        refine lv_goto (tgt := 20) hx hb (dq da_X12_lower 10 rfl) (by decide) ?_
        exact b_X12_lower_b20 E hr hlk h (lv_sub hl [0, 1] rfl) w
def dl_X12_control : List (Nat × Instr × Nat) := [(0, .aload_n 0, 1), (1, .iload_n 1, 1), (2, .invokestatic 335, 3), (5, .ifCond .ne 7, 3), (8, .iconst 1, 1), (9, .goto 4, 3), (12, .iconst 0, 1), (13, .iconst 1, 1), (14, .invokevirtual 587, 3), (17, .ifCond .eq 7, 3), (20, .lconst 0, 1), (21, .goto 8, 3), (24, .aload_n 0, 1), (25, .iload_n 1, 1), (26, .invokevirtual 467, 3), (29, .lreturn, 1)]
theorem da_X12_control : dkL cX12_control dl_X12_control = true := by decide +kernel
def f_X12_control_b13 (x1 : Int32) (s0 : Int32) (u : St) : Option (Int64 × St) := (f_X12_fails s0 (1 : Int32) u).bind (fun y4 => if y4.1 = (0 : Int32) then ((f_X12_controlOf x1 y4.2).bind (fun y7 => some (y7, y4.2))) else (some ((0 : Int64), y4.2)))
set_option maxRecDepth 100000 in
set_option maxHeartbeats 4000000 in
theorem b_X12_control_b13 {p : Program} {l : Launch} {e : Env} {s : State} {m : MethodId} {args : Array Value} {below : List Frame} {meth : Method} {c : Code} {D : va_G} {cy : ClassId × ClassId × ClassId} {ad : Nat → Nat} {A : Nat → Prop} (E : CallFix p m c cX12_control 2 s args gw RX12) (hr : meth.sig.returnType = some .long) (hlk : meth.locks = false) {x1 : Int32} {s0 : Int32} {u : St} {r : Int64} {u' : St} (h : f_X12_control_b13 x1 s0 u = some (r, u')) {ls : Array Slot} {H : Heap} {locs : List Loc} {rr : Nat → Nat} (hl : lv_has ls 2 [(0, .ref (ad 0)), (1, .int x1)]) (w : WX (wM cy ad) D cy rr u A s H locs) : Wx (wM cy ad) D p l e 3 64 0 s m args below meth c A u' (some (.long r)) H locs 0 13 ls [.int s0, .ref (ad 0)] := by
  have hx := E.1
  have hb := E.2.1
  have hown := E.2.2.2.1
  have hts := E.2.2.2.2
  refine lv_iconst (v := 1) hx hb (dq da_X12_control 7 rfl) rfl ?_
  obtain ⟨y4, hy5, h⟩ := ob h
  refine cV1 E (c_X12_fails l D cy ad _ _ _ hy5) w_1294 w_1296 w_p45 w_10 w_1297 rfl hd_X12_fails rfl hl.1 rfl (Nat.le_of_ble_eq_true rfl) ⟨Nat.le_of_ble_eq_true rfl, Nat.le_of_ble_eq_true rfl⟩ (by decide) w (rc_wM_0 w) (dq da_X12_control 8 rfl) (fun H locs rr w => ?_)
  refine lv_if_eq (tgt := 24) hx hb (dq da_X12_control 9 rfl) (by decide) (fun c6 => ?_) (fun c6 => ?_)
  · have h := it c6 h
    refine lv_aload_n hx hb (dq da_X12_control 12 rfl) rfl (lv_at hl 0 rfl) ?_
    refine lv_iload_n hx hb (dq da_X12_control 13 rfl) rfl (lv_at hl 1 rfl) ?_
    obtain ⟨y7, hy8, h⟩ := ob h
    refine cV1 E (c_X12_controlOf l D cy ad _ _ hy8) w_1348 w_1350 w_p49 w_10 w_1351 rfl hd_X12_controlOf rfl hl.1 rfl (Nat.le_of_ble_eq_true rfl) ⟨Nat.le_of_ble_eq_true rfl, Nat.le_of_ble_eq_true rfl⟩ (by decide) w (rc_wM_0 w) (dq da_X12_control 14 rfl) (fun H locs rr w => ?_)
    exact xret_l E hr hlk w (by decide) (congrArg Prod.fst (os h)) (congrArg Prod.snd (os h)) (dq da_X12_control 15 rfl)
  · have h := ie c6 h
    refine lv_lconst (v := 0) hx hb (dq da_X12_control 10 rfl) rfl ?_
    refine lv_goto (tgt := 29) hx hb (dq da_X12_control 11 rfl) (by decide) ?_
    exact xret_l E hr hlk w (by decide) (congrArg Prod.fst (os h)) (congrArg Prod.snd (os h)) (dq da_X12_control 15 rfl)
def f_X12_control (x1 : Int32) (u : St) : Option (Int64 × St) := (f_X12_isControl x1).bind (fun y1 => if y1 = (0 : Int32) then (f_X12_control_b13 x1 (1 : Int32) u) else (f_X12_control_b13 x1 (0 : Int32) u))
set_option maxRecDepth 100000 in
set_option maxHeartbeats 4000000 in
theorem c_X12_control (l : Launch) (D : va_G) (cy : ClassId × ClassId × ClassId) (ad : Nat → Nat) (x1 : Int32) (u : St) {r : Int64} {u' : St} (h : f_X12_control x1 u = some (r, u')) : MX (wM cy ad) D cy l yX12_control cX12_control 2 (some .long) 3 64 0 [.ref (ad 0), .int x1] u u' (some (.long (r))) := by
  refine entX (by decide +kernel) (Nat.le_of_ble_eq_true rfl) ?_
  intro p e s m args below meth c ls rr A E hr hlk hl w
  have hl : lv_has ls 2 [(0, .ref (ad 0)), (1, .int x1)] := hl
  have hx := E.1
  have hb := E.2.1
  have hown := E.2.2.2.1
  have hts := E.2.2.2.2
  refine lv_aload_n hx hb (dq da_X12_control 0 rfl) rfl (lv_at hl 0 rfl) ?_
  refine lv_iload_n hx hb (dq da_X12_control 1 rfl) rfl (lv_at hl 1 rfl) ?_
  obtain ⟨y1, hy2, h⟩ := ob h
  refine callP E (c_X12_isControl l _ hy2) w_1343 w_1344 w_10 w_1345 hd_X12_isControl rfl hl.1 rfl (Nat.le_of_ble_eq_true rfl) ⟨Nat.le_of_ble_eq_true rfl, Nat.le_of_ble_eq_true rfl⟩ (by decide) (dq da_X12_control 2 rfl) ?_
  refine lv_if_ne (tgt := 12) hx hb (dq da_X12_control 3 rfl) (by decide) (fun c3 => ?_) (fun c3 => ?_)
  · have h := ie c3 h
    refine lv_iconst (v := 0) hx hb (dq da_X12_control 6 rfl) rfl ?_
    exact b_X12_control_b13 E hr hlk h (lv_sub hl [0, 1] rfl) w
  · have h := it c3 h
    refine lv_iconst (v := 1) hx hb (dq da_X12_control 4 rfl) rfl ?_
    refine lv_goto (tgt := 13) hx hb (dq da_X12_control 5 rfl) (by decide) ?_
    exact b_X12_control_b13 E hr hlk h (lv_sub hl [0, 1] rfl) w
def dl_X12_order : List (Nat × Instr × Nat) := [(0, .aload_n 0, 1), (1, .iload_n 1, 1), (2, .invokestatic 335, 3), (5, .ifCond .ne 7, 3), (8, .iconst 1, 1), (9, .goto 4, 3), (12, .iconst 0, 1), (13, .iconst 1, 1), (14, .invokevirtual 587, 3), (17, .ifCond .eq 4, 3), (20, .return_, 1), (21, .aload_n 0, 1), (22, .iload_n 1, 1), (23, .lload_n 2, 1), (24, .invokevirtual 470, 3), (27, .return_, 1)]
theorem da_X12_order : dkL cX12_order dl_X12_order = true := by decide +kernel
def f_X12_order_b13 (x1 : Int32) (x2 : Int64) (s0 : Int32) (u : St) : Option (St) := (f_X12_fails s0 (1 : Int32) u).bind (fun y4 => if y4.1 = (0 : Int32) then (some (f_X12_writeControl x1 x2 y4.2)) else (some y4.2))
set_option maxRecDepth 100000 in
set_option maxHeartbeats 4000000 in
theorem b_X12_order_b13 {p : Program} {l : Launch} {e : Env} {s : State} {m : MethodId} {args : Array Value} {below : List Frame} {meth : Method} {c : Code} {D : va_G} {cy : ClassId × ClassId × ClassId} {ad : Nat → Nat} {A : Nat → Prop} (E : CallFix p m c cX12_order 4 s args gw RX12) (hr : meth.sig.returnType = none) (hlk : meth.locks = false) {x1 : Int32} {x2 : Int64} {s0 : Int32} {u : St} {u' : St} (h : f_X12_order_b13 x1 x2 s0 u = some u') {ls : Array Slot} {H : Heap} {locs : List Loc} {rr : Nat → Nat} (hl : lv_has ls 4 [(0, .ref (ad 0)), (1, .int x1), (2, .long x2)]) (w : WX (wM cy ad) D cy rr u A s H locs) : Wx (wM cy ad) D p l e 3 70 0 s m args below meth c A u' none H locs 0 13 ls [.int s0, .ref (ad 0)] := by
  have hx := E.1
  have hb := E.2.1
  have hown := E.2.2.2.1
  have hts := E.2.2.2.2
  refine lv_iconst (v := 1) hx hb (dq da_X12_order 7 rfl) rfl ?_
  obtain ⟨y4, hy5, h⟩ := ob h
  refine cV1 E (c_X12_fails l D cy ad _ _ _ hy5) w_1294 w_1296 w_p45 w_10 w_1297 rfl hd_X12_fails rfl hl.1 rfl (Nat.le_of_ble_eq_true rfl) ⟨Nat.le_of_ble_eq_true rfl, Nat.le_of_ble_eq_true rfl⟩ (by decide) w (rc_wM_0 w) (dq da_X12_order 8 rfl) (fun H locs rr w => ?_)
  refine lv_if_eq (tgt := 21) hx hb (dq da_X12_order 9 rfl) (by decide) (fun c6 => ?_) (fun c6 => ?_)
  · have h := it c6 h
    refine lv_aload_n hx hb (dq da_X12_order 11 rfl) rfl (lv_at hl 0 rfl) ?_
    refine lv_iload_n hx hb (dq da_X12_order 12 rfl) rfl (lv_at hl 1 rfl) ?_
    refine lv_lload_n hx hb (dq da_X12_order 13 rfl) rfl (lv_at hl 2 rfl) ?_
    refine cV0 E (c_X12_writeControl l D cy ad _ _ _ ) w_1375 w_1377 w_p52 w_10 w_1378 rfl hd_X12_writeControl rfl hl.1 rfl (Nat.le_of_ble_eq_true rfl) ⟨Nat.le_of_ble_eq_true rfl, Nat.le_of_ble_eq_true rfl⟩ (by decide) w (rc_wM_0 w) (dq da_X12_order 14 rfl) (fun H locs rr w => ?_)
    exact xret_v E hr hlk w (by decide) (os h) (dq da_X12_order 15 rfl)
  · have h := ie c6 h
    exact xret_v E hr hlk w (by decide) (os h) (dq da_X12_order 10 rfl)
def f_X12_order (x1 : Int32) (x2 : Int64) (u : St) : Option (St) := (f_X12_isControl x1).bind (fun y1 => if y1 = (0 : Int32) then (f_X12_order_b13 x1 x2 (1 : Int32) u) else (f_X12_order_b13 x1 x2 (0 : Int32) u))
set_option maxRecDepth 100000 in
set_option maxHeartbeats 4000000 in
theorem c_X12_order (l : Launch) (D : va_G) (cy : ClassId × ClassId × ClassId) (ad : Nat → Nat) (x1 : Int32) (x2 : Int64) (u : St) {u' : St} (h : f_X12_order x1 x2 u = some u') : MX (wM cy ad) D cy l yX12_order cX12_order 4 (none) 3 70 0 [.ref (ad 0), .int x1, .long x2] u u' none := by
  refine entX (by decide +kernel) (Nat.le_of_ble_eq_true rfl) ?_
  intro p e s m args below meth c ls rr A E hr hlk hl w
  have hl : lv_has ls 4 [(0, .ref (ad 0)), (1, .int x1), (2, .long x2)] := hl
  have hx := E.1
  have hb := E.2.1
  have hown := E.2.2.2.1
  have hts := E.2.2.2.2
  refine lv_aload_n hx hb (dq da_X12_order 0 rfl) rfl (lv_at hl 0 rfl) ?_
  refine lv_iload_n hx hb (dq da_X12_order 1 rfl) rfl (lv_at hl 1 rfl) ?_
  obtain ⟨y1, hy2, h⟩ := ob h
  refine callP E (c_X12_isControl l _ hy2) w_1343 w_1344 w_10 w_1345 hd_X12_isControl rfl hl.1 rfl (Nat.le_of_ble_eq_true rfl) ⟨Nat.le_of_ble_eq_true rfl, Nat.le_of_ble_eq_true rfl⟩ (by decide) (dq da_X12_order 2 rfl) ?_
  refine lv_if_ne (tgt := 12) hx hb (dq da_X12_order 3 rfl) (by decide) (fun c3 => ?_) (fun c3 => ?_)
  · have h := ie c3 h
    refine lv_iconst (v := 0) hx hb (dq da_X12_order 6 rfl) rfl ?_
    exact b_X12_order_b13 E hr hlk h (lv_sub hl [0, 1, 2] rfl) w
  · have h := it c3 h
    refine lv_iconst (v := 1) hx hb (dq da_X12_order 4 rfl) rfl ?_
    refine lv_goto (tgt := 13) hx hb (dq da_X12_order 5 rfl) (by decide) ?_
    exact b_X12_order_b13 E hr hlk h (lv_sub hl [0, 1, 2] rfl) w
def dl_X12_raise : List (Nat × Instr × Nat) := [(0, .aload_n 0, 1), (1, .iload_n 1, 1), (2, .iconst 2, 1), (3, .if_icmp .lt 9, 3), (6, .iload_n 1, 1), (7, .bipush 7, 2), (9, .if_icmp .le 7, 3), (12, .iconst 1, 1), (13, .goto 4, 3), (16, .iconst 0, 1), (17, .iconst 1, 1), (18, .invokevirtual 587, 3), (21, .ifCond .eq 4, 3), (24, .return_, 1), (25, .aload_n 0, 1), (26, .iload_n 2, 1), (27, .ifCond .eq 14, 3), (30, .aload_n 0, 1), (31, .getfield 189, 3), (34, .iconst 1, 1), (35, .iload_n 1, 1), (36, .ishl, 1), (37, .ior, 1), (38, .goto 13, 3), (41, .aload_n 0, 1), (42, .getfield 189, 3), (45, .iconst 1, 1), (46, .iload_n 1, 1), (47, .ishl, 1), (48, .iconst (-1), 1), (49, .ixor, 1), (50, .iand, 1), (51, .putfield 189, 3), (54, .aload_n 0, 1), (55, .invokevirtual 364, 3), (58, .return_, 1)]
theorem da_X12_raise : dkL cX12_raise dl_X12_raise = true := by decide +kernel
def f_X12_raise_b51 (s0 : Int32) (u : St) : Option (St) := some (f_X12_gather (sI u 7 s0))
set_option maxRecDepth 100000 in
set_option maxHeartbeats 4000000 in
theorem b_X12_raise_b51 {p : Program} {l : Launch} {e : Env} {s : State} {m : MethodId} {args : Array Value} {below : List Frame} {meth : Method} {c : Code} {D : va_G} {cy : ClassId × ClassId × ClassId} {ad : Nat → Nat} {A : Nat → Prop} (E : CallFix p m c cX12_raise 3 s args gw RX12) (hr : meth.sig.returnType = none) (hlk : meth.locks = false) {s0 : Int32} {u : St} {u' : St} (h : f_X12_raise_b51 s0 u = some u') {ls : Array Slot} {H : Heap} {locs : List Loc} {rr : Nat → Nat} (hl : lv_has ls 3 [(0, .ref (ad 0))]) (w : WX (wM cy ad) D cy rr u A s H locs) : Wx (wM cy ad) D p l e 1 22 0 s m args below meth c A u' none H locs 0 51 ls [.int s0, .ref (ad 0)] := by
  have hx := E.1
  have hb := E.2.1
  have hown := E.2.2.2.1
  have hts := E.2.2.2.2
  refine pt_wM_0_levels E w w_1104 (dq da_X12_raise 32 rfl) (fun H locs w => ?_)
  refine lv_aload_n hx hb (dq da_X12_raise 33 rfl) rfl (lv_at hl 0 rfl) ?_
  refine cV0 E (c_X12_gather l D cy ad _ ) w_1306 w_1308 w_p46 w_10 w_1309 rfl hd_X12_gather rfl hl.1 rfl (Nat.le_of_ble_eq_true rfl) ⟨Nat.le_of_ble_eq_true rfl, Nat.le_of_ble_eq_true rfl⟩ (by decide) w (rc_wM_0 w) (dq da_X12_raise 34 rfl) (fun H locs rr w => ?_)
  exact xret_v E hr hlk w (by decide) (os h) (dq da_X12_raise 35 rfl)
def f_X12_raise_b17 (x1 : Int32) (x2 : Int32) (s0 : Int32) (u : St) : Option (St) := (f_X12_fails s0 (1 : Int32) u).bind (fun y2 => if y2.1 = (0 : Int32) then (if x2 = (0 : Int32) then (f_X12_raise_b51 ((gI y2.2 7) &&& (((1 : Int32) <<< (x1 &&& 31)) ^^^ (-1 : Int32))) y2.2) else (f_X12_raise_b51 ((gI y2.2 7) ||| ((1 : Int32) <<< (x1 &&& 31))) y2.2)) else (some y2.2))
set_option maxRecDepth 100000 in
set_option maxHeartbeats 4000000 in
theorem b_X12_raise_b17 {p : Program} {l : Launch} {e : Env} {s : State} {m : MethodId} {args : Array Value} {below : List Frame} {meth : Method} {c : Code} {D : va_G} {cy : ClassId × ClassId × ClassId} {ad : Nat → Nat} {A : Nat → Prop} (E : CallFix p m c cX12_raise 3 s args gw RX12) (hr : meth.sig.returnType = none) (hlk : meth.locks = false) {x1 : Int32} {x2 : Int32} {s0 : Int32} {u : St} {u' : St} (h : f_X12_raise_b17 x1 x2 s0 u = some u') {ls : Array Slot} {H : Heap} {locs : List Loc} {rr : Nat → Nat} (hl : lv_has ls 3 [(0, .ref (ad 0)), (1, .int x1), (2, .int x2)]) (w : WX (wM cy ad) D cy rr u A s H locs) : Wx (wM cy ad) D p l e 1 22 0 s m args below meth c A u' none H locs 0 17 ls [.int s0, .ref (ad 0)] := by
  have hx := E.1
  have hb := E.2.1
  have hown := E.2.2.2.1
  have hts := E.2.2.2.2
  refine lv_iconst (v := 1) hx hb (dq da_X12_raise 10 rfl) rfl ?_
  obtain ⟨y2, hy3, h⟩ := ob h
  refine cV1 E (c_X12_fails l D cy ad _ _ _ hy3) w_1294 w_1296 w_p45 w_10 w_1297 rfl hd_X12_fails rfl hl.1 rfl (Nat.le_of_ble_eq_true rfl) ⟨Nat.le_of_ble_eq_true rfl, Nat.le_of_ble_eq_true rfl⟩ (by decide) w (rc_wM_0 w) (dq da_X12_raise 11 rfl) (fun H locs rr w => ?_)
  refine lv_if_eq (tgt := 25) hx hb (dq da_X12_raise 12 rfl) (by decide) (fun c4 => ?_) (fun c4 => ?_)
  · have h := it c4 h
    refine lv_aload_n hx hb (dq da_X12_raise 14 rfl) rfl (lv_at hl 0 rfl) ?_
    refine lv_iload_n hx hb (dq da_X12_raise 15 rfl) rfl (lv_at hl 2 rfl) ?_
    refine lv_if_eq (tgt := 41) hx hb (dq da_X12_raise 16 rfl) (by decide) (fun c5 => ?_) (fun c5 => ?_)
    · have h := it c5 h
      refine lv_aload_n hx hb (dq da_X12_raise 24 rfl) rfl (lv_at hl 0 rfl) ?_
      refine gt_wM_0_levels E w w_1104 (dq da_X12_raise 25 rfl) ?_
      refine lv_iconst (v := 1) hx hb (dq da_X12_raise 26 rfl) rfl ?_
      refine lv_iload_n hx hb (dq da_X12_raise 27 rfl) rfl (lv_at hl 1 rfl) ?_
      refine lv_ishl hx hb (dq da_X12_raise 28 rfl) ?_
      refine lv_iconst (v := (-1)) hx hb (dq da_X12_raise 29 rfl) rfl ?_
      refine lv_ixor hx hb (dq da_X12_raise 30 rfl) ?_
      refine lv_iand hx hb (dq da_X12_raise 31 rfl) ?_
      exact b_X12_raise_b51 E hr hlk h (lv_sub hl [0] rfl) w
    · have h := ie c5 h
      refine lv_aload_n hx hb (dq da_X12_raise 17 rfl) rfl (lv_at hl 0 rfl) ?_
      refine gt_wM_0_levels E w w_1104 (dq da_X12_raise 18 rfl) ?_
      refine lv_iconst (v := 1) hx hb (dq da_X12_raise 19 rfl) rfl ?_
      refine lv_iload_n hx hb (dq da_X12_raise 20 rfl) rfl (lv_at hl 1 rfl) ?_
      refine lv_ishl hx hb (dq da_X12_raise 21 rfl) ?_
      refine lv_ior hx hb (dq da_X12_raise 22 rfl) ?_
      refine lv_goto (tgt := 51) hx hb (dq da_X12_raise 23 rfl) (by decide) ?_
      exact b_X12_raise_b51 E hr hlk h (lv_sub hl [0] rfl) w
  · have h := ie c4 h
    exact xret_v E hr hlk w (by decide) (os h) (dq da_X12_raise 13 rfl)
def f_X12_raise_b12 (x1 : Int32) (x2 : Int32) (u : St) : Option (St) := f_X12_raise_b17 x1 x2 (1 : Int32) u
set_option maxRecDepth 100000 in
set_option maxHeartbeats 4000000 in
theorem b_X12_raise_b12 {p : Program} {l : Launch} {e : Env} {s : State} {m : MethodId} {args : Array Value} {below : List Frame} {meth : Method} {c : Code} {D : va_G} {cy : ClassId × ClassId × ClassId} {ad : Nat → Nat} {A : Nat → Prop} (E : CallFix p m c cX12_raise 3 s args gw RX12) (hr : meth.sig.returnType = none) (hlk : meth.locks = false) {x1 : Int32} {x2 : Int32} {u : St} {u' : St} (h : f_X12_raise_b12 x1 x2 u = some u') {ls : Array Slot} {H : Heap} {locs : List Loc} {rr : Nat → Nat} (hl : lv_has ls 3 [(0, .ref (ad 0)), (1, .int x1), (2, .int x2)]) (w : WX (wM cy ad) D cy rr u A s H locs) : Wx (wM cy ad) D p l e 1 22 0 s m args below meth c A u' none H locs 0 12 ls [.ref (ad 0)] := by
  have hx := E.1
  have hb := E.2.1
  have hown := E.2.2.2.1
  have hts := E.2.2.2.2
  refine lv_iconst (v := 1) hx hb (dq da_X12_raise 7 rfl) rfl ?_
  refine lv_goto (tgt := 17) hx hb (dq da_X12_raise 8 rfl) (by decide) ?_
  exact b_X12_raise_b17 E hr hlk h (lv_sub hl [0, 1, 2] rfl) w
def f_X12_raise (x1 : Int32) (x2 : Int32) (u : St) : Option (St) := if x1 < (2 : Int32) then (f_X12_raise_b12 x1 x2 u) else (if x1 ≤ (7 : Int32) then (f_X12_raise_b17 x1 x2 (0 : Int32) u) else (f_X12_raise_b12 x1 x2 u))
set_option maxRecDepth 100000 in
set_option maxHeartbeats 4000000 in
theorem c_X12_raise (l : Launch) (D : va_G) (cy : ClassId × ClassId × ClassId) (ad : Nat → Nat) (x1 : Int32) (x2 : Int32) (u : St) {u' : St} (h : f_X12_raise x1 x2 u = some u') : MX (wM cy ad) D cy l yX12_raise cX12_raise 3 (none) 1 22 0 [.ref (ad 0), .int x1, .int x2] u u' none := by
  refine entX (by decide +kernel) (Nat.le_of_ble_eq_true rfl) ?_
  intro p e s m args below meth c ls rr A E hr hlk hl w
  have hl : lv_has ls 3 [(0, .ref (ad 0)), (1, .int x1), (2, .int x2)] := hl
  have hx := E.1
  have hb := E.2.1
  have hown := E.2.2.2.1
  have hts := E.2.2.2.2
  refine lv_aload_n hx hb (dq da_X12_raise 0 rfl) rfl (lv_at hl 0 rfl) ?_
  refine lv_iload_n hx hb (dq da_X12_raise 1 rfl) rfl (lv_at hl 1 rfl) ?_
  refine lv_iconst (v := 2) hx hb (dq da_X12_raise 2 rfl) rfl ?_
  refine lv_icmp_lt (tgt := 12) hx hb (dq da_X12_raise 3 rfl) (by decide) (fun c1 => ?_) (fun c1 => ?_)
  · have h := it c1 h
    exact b_X12_raise_b12 E hr hlk h (lv_sub hl [0, 1, 2] rfl) w
  · have h := ie c1 h
    refine lv_iload_n hx hb (dq da_X12_raise 4 rfl) rfl (lv_at hl 1 rfl) ?_
    refine lv_bipush (v := 7) hx hb (dq da_X12_raise 5 rfl) rfl ?_
    refine lv_icmp_le (tgt := 16) hx hb (dq da_X12_raise 6 rfl) (by decide) (fun c6 => ?_) (fun c6 => ?_)
    · have h := it c6 h
      refine lv_iconst (v := 0) hx hb (dq da_X12_raise 9 rfl) rfl ?_
      exact b_X12_raise_b17 E hr hlk h (lv_sub hl [0, 1, 2] rfl) w
    · have h := ie c6 h
      exact b_X12_raise_b12 E hr hlk h (lv_sub hl [0, 1, 2] rfl) w
def dl_X12_look : List (Nat × Instr × Nat) := [(0, .aload_n 0, 1), (1, .iload_n 1, 1), (2, .ifCond .lt 9, 3), (5, .iload_n 1, 1), (6, .bipush 10, 2), (8, .if_icmp .le 7, 3), (11, .iconst 1, 1), (12, .goto 4, 3), (15, .iconst 0, 1), (16, .iconst 1, 1), (17, .invokevirtual 587, 3), (20, .ifCond .eq 5, 3), (23, .iconst 0, 1), (24, .ireturn, 1), (25, .iload_n 1, 1), (26, .tableswitch 104 0 9 #[54, 59, 64, 69, 74, 79, 84, 89, 94, 99], 54), (80, .aload_n 0, 1), (81, .getfield 24, 3), (84, .ireturn, 1), (85, .aload_n 0, 1), (86, .getfield 154, 3), (89, .ireturn, 1), (90, .aload_n 0, 1), (91, .getfield 176, 3), (94, .ireturn, 1), (95, .aload_n 0, 1), (96, .getfield 341, 3), (99, .ireturn, 1), (100, .aload_n 0, 1), (101, .getfield 338, 3), (104, .ireturn, 1), (105, .aload_n 0, 1), (106, .getfield 53, 3), (109, .ireturn, 1), (110, .aload_n 0, 1), (111, .getfield 558, 3), (114, .ireturn, 1), (115, .aload_n 0, 1), (116, .getfield 170, 3), (119, .ireturn, 1), (120, .aload_n 0, 1), (121, .getfield 59, 3), (124, .ireturn, 1), (125, .aload_n 0, 1), (126, .getfield 77, 3), (129, .ireturn, 1), (130, .aload_n 0, 1), (131, .getfield 80, 3), (134, .ireturn, 1)]
theorem da_X12_look : dkL cX12_look dl_X12_look = true := by decide +kernel
def f_X12_look_b16 (x1 : Int32) (s0 : Int32) (u : St) : Option (Int32 × St) := (f_X12_fails s0 (1 : Int32) u).bind (fun y2 => if y2.1 = (0 : Int32) then (if x1 = (0 : Int32) then (some ((gI y2.2 2), y2.2)) else if x1 = (1 : Int32) then (some ((gI y2.2 10), y2.2)) else if x1 = (2 : Int32) then (some ((gI y2.2 11), y2.2)) else if x1 = (3 : Int32) then (some ((gI y2.2 13), y2.2)) else if x1 = (4 : Int32) then (some ((gI y2.2 14), y2.2)) else if x1 = (5 : Int32) then (some ((gI y2.2 15), y2.2)) else if x1 = (6 : Int32) then (some ((gI y2.2 8), y2.2)) else if x1 = (7 : Int32) then (some ((gI y2.2 3), y2.2)) else if x1 = (8 : Int32) then (some ((gI y2.2 1), y2.2)) else if x1 = (9 : Int32) then (some ((gI y2.2 5), y2.2)) else (some ((gI y2.2 6), y2.2))) else (some ((0 : Int32), y2.2)))
set_option maxRecDepth 100000 in
set_option maxHeartbeats 4000000 in
theorem b_X12_look_b16 {p : Program} {l : Launch} {e : Env} {s : State} {m : MethodId} {args : Array Value} {below : List Frame} {meth : Method} {c : Code} {D : va_G} {cy : ClassId × ClassId × ClassId} {ad : Nat → Nat} {A : Nat → Prop} (E : CallFix p m c cX12_look 2 s args gw RX12) (hr : meth.sig.returnType = some .int) (hlk : meth.locks = false) {x1 : Int32} {s0 : Int32} {u : St} {r : Int32} {u' : St} (h : f_X12_look_b16 x1 s0 u = some (r, u')) {ls : Array Slot} {H : Heap} {locs : List Loc} {rr : Nat → Nat} (hl : lv_has ls 2 [(0, .ref (ad 0)), (1, .int x1)]) (w : WX (wM cy ad) D cy rr u A s H locs) : Wx (wM cy ad) D p l e 1 22 0 s m args below meth c A u' (some (.int r)) H locs 0 16 ls [.int s0, .ref (ad 0)] := by
  have hx := E.1
  have hb := E.2.1
  have hown := E.2.2.2.1
  have hts := E.2.2.2.2
  refine lv_iconst (v := 1) hx hb (dq da_X12_look 9 rfl) rfl ?_
  obtain ⟨y2, hy3, h⟩ := ob h
  refine cV1 E (c_X12_fails l D cy ad _ _ _ hy3) w_1294 w_1296 w_p45 w_10 w_1297 rfl hd_X12_fails rfl hl.1 rfl (Nat.le_of_ble_eq_true rfl) ⟨Nat.le_of_ble_eq_true rfl, Nat.le_of_ble_eq_true rfl⟩ (by decide) w (rc_wM_0 w) (dq da_X12_look 10 rfl) (fun H locs rr w => ?_)
  refine lv_if_eq (tgt := 25) hx hb (dq da_X12_look 11 rfl) (by decide) (fun c4 => ?_) (fun c4 => ?_)
  · have h := it c4 h
    refine lv_iload_n hx hb (dq da_X12_look 14 rfl) rfl (lv_at hl 1 rfl) ?_
    by_cases c5 : x1 = (0 : Int32)
    · have h := it c5 h
      refine lv_tableIn (off := 54) (tgt := 80) hx hb (dq da_X12_look 15 rfl) (by rw [c5]; decide +kernel) (by rw [c5]; decide +kernel) (by rw [c5]; decide +kernel) (by decide) ?_
      refine lv_aload_n hx hb (dq da_X12_look 16 rfl) rfl (lv_at hl 0 rfl) ?_
      refine gt_wM_0_privilege E w w_1093 (dq da_X12_look 17 rfl) ?_
      exact xret_i E hr hlk w (by decide) (congrArg Prod.fst (os h)) (congrArg Prod.snd (os h)) (dq da_X12_look 18 rfl)
    · have h := ie c5 h
      by_cases c6 : x1 = (1 : Int32)
      · have h := it c6 h
        refine lv_tableIn (off := 59) (tgt := 85) hx hb (dq da_X12_look 15 rfl) (by rw [c6]; decide +kernel) (by rw [c6]; decide +kernel) (by rw [c6]; decide +kernel) (by decide) ?_
        refine lv_aload_n hx hb (dq da_X12_look 19 rfl) rfl (lv_at hl 0 rfl) ?_
        refine gt_wM_0_inputLeft E w w_1109 (dq da_X12_look 20 rfl) ?_
        exact xret_i E hr hlk w (by decide) (congrArg Prod.fst (os h)) (congrArg Prod.snd (os h)) (dq da_X12_look 21 rfl)
      · have h := ie c6 h
        by_cases c7 : x1 = (2 : Int32)
        · have h := it c7 h
          refine lv_tableIn (off := 64) (tgt := 90) hx hb (dq da_X12_look 15 rfl) (by rw [c7]; decide +kernel) (by rw [c7]; decide +kernel) (by rw [c7]; decide +kernel) (by decide) ?_
          refine lv_aload_n hx hb (dq da_X12_look 22 rfl) rfl (lv_at hl 0 rfl) ?_
          refine gt_wM_0_sent E w w_1111 (dq da_X12_look 23 rfl) ?_
          exact xret_i E hr hlk w (by decide) (congrArg Prod.fst (os h)) (congrArg Prod.snd (os h)) (dq da_X12_look 24 rfl)
        · have h := ie c7 h
          by_cases c8 : x1 = (3 : Int32)
          · have h := it c8 h
            refine lv_tableIn (off := 69) (tgt := 95) hx hb (dq da_X12_look 15 rfl) (by rw [c8]; decide +kernel) (by rw [c8]; decide +kernel) (by rw [c8]; decide +kernel) (by decide) ?_
            refine lv_aload_n hx hb (dq da_X12_look 25 rfl) rfl (lv_at hl 0 rfl) ?_
            refine gt_wM_0_traps E w w_1133 (dq da_X12_look 26 rfl) ?_
            exact xret_i E hr hlk w (by decide) (congrArg Prod.fst (os h)) (congrArg Prod.snd (os h)) (dq da_X12_look 27 rfl)
          · have h := ie c8 h
            by_cases c9 : x1 = (4 : Int32)
            · have h := it c9 h
              refine lv_tableIn (off := 74) (tgt := 100) hx hb (dq da_X12_look 15 rfl) (by rw [c9]; decide +kernel) (by rw [c9]; decide +kernel) (by rw [c9]; decide +kernel) (by decide) ?_
              refine lv_aload_n hx hb (dq da_X12_look 28 rfl) rfl (lv_at hl 0 rfl) ?_
              refine gt_wM_0_interrupts E w w_1134 (dq da_X12_look 29 rfl) ?_
              exact xret_i E hr hlk w (by decide) (congrArg Prod.fst (os h)) (congrArg Prod.snd (os h)) (dq da_X12_look 30 rfl)
            · have h := ie c9 h
              by_cases c10 : x1 = (5 : Int32)
              · have h := it c10 h
                refine lv_tableIn (off := 79) (tgt := 105) hx hb (dq da_X12_look 15 rfl) (by rw [c10]; decide +kernel) (by rw [c10]; decide +kernel) (by rw [c10]; decide +kernel) (by decide) ?_
                refine lv_aload_n hx hb (dq da_X12_look 31 rfl) rfl (lv_at hl 0 rfl) ?_
                refine gt_wM_0_latest E w w_1135 (dq da_X12_look 32 rfl) ?_
                exact xret_i E hr hlk w (by decide) (congrArg Prod.fst (os h)) (congrArg Prod.snd (os h)) (dq da_X12_look 33 rfl)
              · have h := ie c10 h
                by_cases c11 : x1 = (6 : Int32)
                · have h := it c11 h
                  refine lv_tableIn (off := 84) (tgt := 110) hx hb (dq da_X12_look 15 rfl) (by rw [c11]; decide +kernel) (by rw [c11]; decide +kernel) (by rw [c11]; decide +kernel) (by decide) ?_
                  refine lv_aload_n hx hb (dq da_X12_look 34 rfl) rfl (lv_at hl 0 rfl) ?_
                  refine gt_wM_0_taped E w w_1106 (dq da_X12_look 35 rfl) ?_
                  exact xret_i E hr hlk w (by decide) (congrArg Prod.fst (os h)) (congrArg Prod.snd (os h)) (dq da_X12_look 36 rfl)
                · have h := ie c11 h
                  by_cases c12 : x1 = (7 : Int32)
                  · have h := it c12 h
                    refine lv_tableIn (off := 89) (tgt := 115) hx hb (dq da_X12_look 15 rfl) (by rw [c12]; decide +kernel) (by rw [c12]; decide +kernel) (by rw [c12]; decide +kernel) (by decide) ?_
                    refine lv_aload_n hx hb (dq da_X12_look 37 rfl) rfl (lv_at hl 0 rfl) ?_
                    refine gt_wM_0_heldSize E w w_1095 (dq da_X12_look 38 rfl) ?_
                    exact xret_i E hr hlk w (by decide) (congrArg Prod.fst (os h)) (congrArg Prod.snd (os h)) (dq da_X12_look 39 rfl)
                  · have h := ie c12 h
                    by_cases c13 : x1 = (8 : Int32)
                    · have h := it c13 h
                      refine lv_tableIn (off := 94) (tgt := 120) hx hb (dq da_X12_look 15 rfl) (by rw [c13]; decide +kernel) (by rw [c13]; decide +kernel) (by rw [c13]; decide +kernel) (by decide) ?_
                      refine lv_aload_n hx hb (dq da_X12_look 40 rfl) rfl (lv_at hl 0 rfl) ?_
                      refine gt_wM_0_pages E w w_1089 (dq da_X12_look 41 rfl) ?_
                      exact xret_i E hr hlk w (by decide) (congrArg Prod.fst (os h)) (congrArg Prod.snd (os h)) (dq da_X12_look 42 rfl)
                    · have h := ie c13 h
                      by_cases c14 : x1 = (9 : Int32)
                      · have h := it c14 h
                        refine lv_tableIn (off := 99) (tgt := 125) hx hb (dq da_X12_look 15 rfl) (by rw [c14]; decide +kernel) (by rw [c14]; decide +kernel) (by rw [c14]; decide +kernel) (by decide) ?_
                        refine lv_aload_n hx hb (dq da_X12_look 43 rfl) rfl (lv_at hl 0 rfl) ?_
                        refine gt_wM_0_pending E w w_1100 (dq da_X12_look 44 rfl) ?_
                        exact xret_i E hr hlk w (by decide) (congrArg Prod.fst (os h)) (congrArg Prod.snd (os h)) (dq da_X12_look 45 rfl)
                      · have h := ie c14 h
                        refine lv_tableOut (tgt := 130) hx hb (dq da_X12_look 15 rfl) (by have := lv_neT (k := (0 : Int32)) (a := 0) c5 rfl; have := lv_neT (k := (1 : Int32)) (a := 1) c6 rfl; have := lv_neT (k := (2 : Int32)) (a := 2) c7 rfl; have := lv_neT (k := (3 : Int32)) (a := 3) c8 rfl; have := lv_neT (k := (4 : Int32)) (a := 4) c9 rfl; have := lv_neT (k := (5 : Int32)) (a := 5) c10 rfl; have := lv_neT (k := (6 : Int32)) (a := 6) c11 rfl; have := lv_neT (k := (7 : Int32)) (a := 7) c12 rfl; have := lv_neT (k := (8 : Int32)) (a := 8) c13 rfl; have := lv_neT (k := (9 : Int32)) (a := 9) c14 rfl; omega) (by decide) ?_
                        refine lv_aload_n hx hb (dq da_X12_look 46 rfl) rfl (lv_at hl 0 rfl) ?_
                        refine gt_wM_0_claimed E w w_1101 (dq da_X12_look 47 rfl) ?_
                        exact xret_i E hr hlk w (by decide) (congrArg Prod.fst (os h)) (congrArg Prod.snd (os h)) (dq da_X12_look 48 rfl)
  · have h := ie c4 h
    refine lv_iconst (v := 0) hx hb (dq da_X12_look 12 rfl) rfl ?_
    exact xret_i E hr hlk w (by decide) (congrArg Prod.fst (os h)) (congrArg Prod.snd (os h)) (dq da_X12_look 13 rfl)
def f_X12_look_b11 (x1 : Int32) (u : St) : Option (Int32 × St) := f_X12_look_b16 x1 (1 : Int32) u
set_option maxRecDepth 100000 in
set_option maxHeartbeats 4000000 in
theorem b_X12_look_b11 {p : Program} {l : Launch} {e : Env} {s : State} {m : MethodId} {args : Array Value} {below : List Frame} {meth : Method} {c : Code} {D : va_G} {cy : ClassId × ClassId × ClassId} {ad : Nat → Nat} {A : Nat → Prop} (E : CallFix p m c cX12_look 2 s args gw RX12) (hr : meth.sig.returnType = some .int) (hlk : meth.locks = false) {x1 : Int32} {u : St} {r : Int32} {u' : St} (h : f_X12_look_b11 x1 u = some (r, u')) {ls : Array Slot} {H : Heap} {locs : List Loc} {rr : Nat → Nat} (hl : lv_has ls 2 [(0, .ref (ad 0)), (1, .int x1)]) (w : WX (wM cy ad) D cy rr u A s H locs) : Wx (wM cy ad) D p l e 1 22 0 s m args below meth c A u' (some (.int r)) H locs 0 11 ls [.ref (ad 0)] := by
  have hx := E.1
  have hb := E.2.1
  have hown := E.2.2.2.1
  have hts := E.2.2.2.2
  refine lv_iconst (v := 1) hx hb (dq da_X12_look 6 rfl) rfl ?_
  refine lv_goto (tgt := 16) hx hb (dq da_X12_look 7 rfl) (by decide) ?_
  exact b_X12_look_b16 E hr hlk h (lv_sub hl [0, 1] rfl) w
def f_X12_look (x1 : Int32) (u : St) : Option (Int32 × St) := if x1 < (0 : Int32) then (f_X12_look_b11 x1 u) else (if x1 ≤ (10 : Int32) then (f_X12_look_b16 x1 (0 : Int32) u) else (f_X12_look_b11 x1 u))
set_option maxRecDepth 100000 in
set_option maxHeartbeats 4000000 in
theorem c_X12_look (l : Launch) (D : va_G) (cy : ClassId × ClassId × ClassId) (ad : Nat → Nat) (x1 : Int32) (u : St) {r : Int32} {u' : St} (h : f_X12_look x1 u = some (r, u')) : MX (wM cy ad) D cy l yX12_look cX12_look 2 (some .int) 1 22 0 [.ref (ad 0), .int x1] u u' (some (.int (r))) := by
  refine entX (by decide +kernel) (Nat.le_of_ble_eq_true rfl) ?_
  intro p e s m args below meth c ls rr A E hr hlk hl w
  have hl : lv_has ls 2 [(0, .ref (ad 0)), (1, .int x1)] := hl
  have hx := E.1
  have hb := E.2.1
  have hown := E.2.2.2.1
  have hts := E.2.2.2.2
  refine lv_aload_n hx hb (dq da_X12_look 0 rfl) rfl (lv_at hl 0 rfl) ?_
  refine lv_iload_n hx hb (dq da_X12_look 1 rfl) rfl (lv_at hl 1 rfl) ?_
  refine lv_if_lt (tgt := 11) hx hb (dq da_X12_look 2 rfl) (by decide) (fun c1 => ?_) (fun c1 => ?_)
  · have h := it c1 h
    exact b_X12_look_b11 E hr hlk h (lv_sub hl [0, 1] rfl) w
  · have h := ie c1 h
    refine lv_iload_n hx hb (dq da_X12_look 3 rfl) rfl (lv_at hl 1 rfl) ?_
    refine lv_bipush (v := 10) hx hb (dq da_X12_look 4 rfl) rfl ?_
    refine lv_icmp_le (tgt := 15) hx hb (dq da_X12_look 5 rfl) (by decide) (fun c15 => ?_) (fun c15 => ?_)
    · have h := it c15 h
      refine lv_iconst (v := 0) hx hb (dq da_X12_look 8 rfl) rfl ?_
      exact b_X12_look_b16 E hr hlk h (lv_sub hl [0, 1] rfl) w
    · have h := ie c15 h
      exact b_X12_look_b11 E hr hlk h (lv_sub hl [0, 1] rfl) w
def dl_X12_out : List (Nat × Instr × Nat) := [(0, .aload_n 0, 1), (1, .iload_n 1, 1), (2, .ifCond .lt 11, 3), (5, .iload_n 1, 1), (6, .aload_n 0, 1), (7, .getfield 176, 3), (10, .if_icmp .lt 7, 3), (13, .iconst 1, 1), (14, .goto 4, 3), (17, .iconst 0, 1), (18, .iconst 1, 1), (19, .invokevirtual 587, 3), (22, .ifCond .eq 7, 3), (25, .iconst 0, 1), (26, .goto 13, 3), (29, .aload_n 0, 1), (30, .getfield 50, 3), (33, .iload_n 1, 1), (34, .baload, 1), (35, .sipush 255, 3), (38, .iand, 1), (39, .ireturn, 1)]
theorem da_X12_out : dkL cX12_out dl_X12_out = true := by decide +kernel
def f_X12_out_b18 (x1 : Int32) (s0 : Int32) (u : St) : Option (Int32 × St) := (f_X12_fails s0 (1 : Int32) u).bind (fun y2 => if y2.1 = (0 : Int32) then (if inB x1 (gN y2.2 7) then (some (((gA y2.2 6 x1.toNatClampNeg) &&& (255 : Int32)), y2.2)) else none) else (some ((0 : Int32), y2.2)))
set_option maxRecDepth 100000 in
set_option maxHeartbeats 4000000 in
theorem b_X12_out_b18 {p : Program} {l : Launch} {e : Env} {s : State} {m : MethodId} {args : Array Value} {below : List Frame} {meth : Method} {c : Code} {D : va_G} {cy : ClassId × ClassId × ClassId} {ad : Nat → Nat} {A : Nat → Prop} (E : CallFix p m c cX12_out 2 s args gw RX12) (hr : meth.sig.returnType = some .int) (hlk : meth.locks = false) {x1 : Int32} {s0 : Int32} {u : St} {r : Int32} {u' : St} (h : f_X12_out_b18 x1 s0 u = some (r, u')) {ls : Array Slot} {H : Heap} {locs : List Loc} {rr : Nat → Nat} (hl : lv_has ls 2 [(0, .ref (ad 0)), (1, .int x1)]) (w : WX (wM cy ad) D cy rr u A s H locs) : Wx (wM cy ad) D p l e 1 22 0 s m args below meth c A u' (some (.int r)) H locs 0 18 ls [.int s0, .ref (ad 0)] := by
  have hx := E.1
  have hb := E.2.1
  have hown := E.2.2.2.1
  have hts := E.2.2.2.2
  refine lv_iconst (v := 1) hx hb (dq da_X12_out 10 rfl) rfl ?_
  obtain ⟨y2, hy3, h⟩ := ob h
  refine cV1 E (c_X12_fails l D cy ad _ _ _ hy3) w_1294 w_1296 w_p45 w_10 w_1297 rfl hd_X12_fails rfl hl.1 rfl (Nat.le_of_ble_eq_true rfl) ⟨Nat.le_of_ble_eq_true rfl, Nat.le_of_ble_eq_true rfl⟩ (by decide) w (rc_wM_0 w) (dq da_X12_out 11 rfl) (fun H locs rr w => ?_)
  refine lv_if_eq (tgt := 29) hx hb (dq da_X12_out 12 rfl) (by decide) (fun c4 => ?_) (fun c4 => ?_)
  · have h := it c4 h
    refine lv_aload_n hx hb (dq da_X12_out 15 rfl) rfl (lv_at hl 0 rfl) ?_
    refine gt_wM_0_output E w w_1110 (dq da_X12_out 16 rfl) ?_
    refine lv_iload_n hx hb (dq da_X12_out 17 rfl) rfl (lv_at hl 1 rfl) ?_
    obtain ⟨hi5, h⟩ := oi h
    refine ald_wM_8 E w hi5 (dq da_X12_out 18 rfl) ?_
    refine lv_sipush (v := 255) hx hb (dq da_X12_out 19 rfl) rfl ?_
    refine lv_iand hx hb (dq da_X12_out 20 rfl) ?_
    exact xret_i E hr hlk w (by decide) (congrArg Prod.fst (os h)) (congrArg Prod.snd (os h)) (dq da_X12_out 21 rfl)
  · have h := ie c4 h
    refine lv_iconst (v := 0) hx hb (dq da_X12_out 13 rfl) rfl ?_
    refine lv_goto (tgt := 39) hx hb (dq da_X12_out 14 rfl) (by decide) ?_
    exact xret_i E hr hlk w (by decide) (congrArg Prod.fst (os h)) (congrArg Prod.snd (os h)) (dq da_X12_out 21 rfl)
def f_X12_out_b13 (x1 : Int32) (u : St) : Option (Int32 × St) := f_X12_out_b18 x1 (1 : Int32) u
set_option maxRecDepth 100000 in
set_option maxHeartbeats 4000000 in
theorem b_X12_out_b13 {p : Program} {l : Launch} {e : Env} {s : State} {m : MethodId} {args : Array Value} {below : List Frame} {meth : Method} {c : Code} {D : va_G} {cy : ClassId × ClassId × ClassId} {ad : Nat → Nat} {A : Nat → Prop} (E : CallFix p m c cX12_out 2 s args gw RX12) (hr : meth.sig.returnType = some .int) (hlk : meth.locks = false) {x1 : Int32} {u : St} {r : Int32} {u' : St} (h : f_X12_out_b13 x1 u = some (r, u')) {ls : Array Slot} {H : Heap} {locs : List Loc} {rr : Nat → Nat} (hl : lv_has ls 2 [(0, .ref (ad 0)), (1, .int x1)]) (w : WX (wM cy ad) D cy rr u A s H locs) : Wx (wM cy ad) D p l e 1 22 0 s m args below meth c A u' (some (.int r)) H locs 0 13 ls [.ref (ad 0)] := by
  have hx := E.1
  have hb := E.2.1
  have hown := E.2.2.2.1
  have hts := E.2.2.2.2
  refine lv_iconst (v := 1) hx hb (dq da_X12_out 7 rfl) rfl ?_
  refine lv_goto (tgt := 18) hx hb (dq da_X12_out 8 rfl) (by decide) ?_
  exact b_X12_out_b18 E hr hlk h (lv_sub hl [0, 1] rfl) w
def f_X12_out (x1 : Int32) (u : St) : Option (Int32 × St) := if x1 < (0 : Int32) then (f_X12_out_b13 x1 u) else (if x1 < (gI u 11) then (f_X12_out_b18 x1 (0 : Int32) u) else (f_X12_out_b13 x1 u))
set_option maxRecDepth 100000 in
set_option maxHeartbeats 4000000 in
theorem c_X12_out (l : Launch) (D : va_G) (cy : ClassId × ClassId × ClassId) (ad : Nat → Nat) (x1 : Int32) (u : St) {r : Int32} {u' : St} (h : f_X12_out x1 u = some (r, u')) : MX (wM cy ad) D cy l yX12_out cX12_out 2 (some .int) 1 22 0 [.ref (ad 0), .int x1] u u' (some (.int (r))) := by
  refine entX (by decide +kernel) (Nat.le_of_ble_eq_true rfl) ?_
  intro p e s m args below meth c ls rr A E hr hlk hl w
  have hl : lv_has ls 2 [(0, .ref (ad 0)), (1, .int x1)] := hl
  have hx := E.1
  have hb := E.2.1
  have hown := E.2.2.2.1
  have hts := E.2.2.2.2
  refine lv_aload_n hx hb (dq da_X12_out 0 rfl) rfl (lv_at hl 0 rfl) ?_
  refine lv_iload_n hx hb (dq da_X12_out 1 rfl) rfl (lv_at hl 1 rfl) ?_
  refine lv_if_lt (tgt := 13) hx hb (dq da_X12_out 2 rfl) (by decide) (fun c1 => ?_) (fun c1 => ?_)
  · have h := it c1 h
    exact b_X12_out_b13 E hr hlk h (lv_sub hl [0, 1] rfl) w
  · have h := ie c1 h
    refine lv_iload_n hx hb (dq da_X12_out 3 rfl) rfl (lv_at hl 1 rfl) ?_
    refine lv_aload_n hx hb (dq da_X12_out 4 rfl) rfl (lv_at hl 0 rfl) ?_
    refine gt_wM_0_sent E w w_1111 (dq da_X12_out 5 rfl) ?_
    refine lv_icmp_lt (tgt := 17) hx hb (dq da_X12_out 6 rfl) (by decide) (fun c6 => ?_) (fun c6 => ?_)
    · have h := it c6 h
      refine lv_iconst (v := 0) hx hb (dq da_X12_out 9 rfl) rfl ?_
      exact b_X12_out_b18 E hr hlk h (lv_sub hl [0, 1] rfl) w
    · have h := ie c6 h
      exact b_X12_out_b13 E hr hlk h (lv_sub hl [0, 1] rfl) w
def dl_X12_translate : List (Nat × Instr × Nat) := [(0, .aload_n 0, 1), (1, .iload_n 3, 1), (2, .ifCond .lt 8, 3), (5, .iload_n 3, 1), (6, .iconst 2, 1), (7, .if_icmp .le 7, 3), (10, .iconst 1, 1), (11, .goto 4, 3), (14, .iconst 0, 1), (15, .iconst 1, 1), (16, .invokevirtual 587, 3), (19, .ifCond .eq 7, 3), (22, .lconst 0, 1), (23, .goto 9, 3), (26, .aload_n 0, 1), (27, .lload_n 1, 1), (28, .iload_n 3, 1), (29, .invokevirtual 219, 3), (32, .lreturn, 1)]
theorem da_X12_translate : dkL cX12_translate dl_X12_translate = true := by decide +kernel
def f_X12_translate_b15 (x1 : Int64) (x3 : Int32) (s0 : Int32) (u : St) : Option (Int64 × St) := (f_X12_fails s0 (1 : Int32) u).bind (fun y2 => if y2.1 = (0 : Int32) then ((f_X12_translated x1 x3 y2.2).bind (fun y5 => some (y5, y2.2))) else (some ((0 : Int64), y2.2)))
set_option maxRecDepth 100000 in
set_option maxHeartbeats 4000000 in
theorem b_X12_translate_b15 {p : Program} {l : Launch} {e : Env} {s : State} {m : MethodId} {args : Array Value} {below : List Frame} {meth : Method} {c : Code} {D : va_G} {cy : ClassId × ClassId × ClassId} {ad : Nat → Nat} {A : Nat → Prop} (E : CallFix p m c cX12_translate 4 s args gw RX12) (hr : meth.sig.returnType = some .long) (hlk : meth.locks = false) {x1 : Int64} {x3 : Int32} {s0 : Int32} {u : St} {r : Int64} {u' : St} (h : f_X12_translate_b15 x1 x3 s0 u = some (r, u')) {ls : Array Slot} {H : Heap} {locs : List Loc} {rr : Nat → Nat} (hl : lv_has ls 4 [(0, .ref (ad 0)), (1, .long x1), (3, .int x3)]) (w : WX (wM cy ad) D cy rr u A s H locs) : Wx (wM cy ad) D p l e 2 64 0 s m args below meth c A u' (some (.long r)) H locs 0 15 ls [.int s0, .ref (ad 0)] := by
  have hx := E.1
  have hb := E.2.1
  have hown := E.2.2.2.1
  have hts := E.2.2.2.2
  refine lv_iconst (v := 1) hx hb (dq da_X12_translate 9 rfl) rfl ?_
  obtain ⟨y2, hy3, h⟩ := ob h
  refine cV1 E (c_X12_fails l D cy ad _ _ _ hy3) w_1294 w_1296 w_p45 w_10 w_1297 rfl hd_X12_fails rfl hl.1 rfl (Nat.le_of_ble_eq_true rfl) ⟨Nat.le_of_ble_eq_true rfl, Nat.le_of_ble_eq_true rfl⟩ (by decide) w (rc_wM_0 w) (dq da_X12_translate 10 rfl) (fun H locs rr w => ?_)
  refine lv_if_eq (tgt := 26) hx hb (dq da_X12_translate 11 rfl) (by decide) (fun c4 => ?_) (fun c4 => ?_)
  · have h := it c4 h
    refine lv_aload_n hx hb (dq da_X12_translate 14 rfl) rfl (lv_at hl 0 rfl) ?_
    refine lv_lload_n hx hb (dq da_X12_translate 15 rfl) rfl (lv_at hl 1 rfl) ?_
    refine lv_iload_n hx hb (dq da_X12_translate 16 rfl) rfl (lv_at hl 2 rfl) ?_
    obtain ⟨y5, hy6, h⟩ := ob h
    refine cV1 E (c_X12_translated l D cy ad _ _ _ hy6) w_1436 w_1438 w_p61 w_10 w_1439 rfl hd_X12_translated rfl hl.1 rfl (Nat.le_of_ble_eq_true rfl) ⟨Nat.le_of_ble_eq_true rfl, Nat.le_of_ble_eq_true rfl⟩ (by decide) w (rc_wM_0 w) (dq da_X12_translate 17 rfl) (fun H locs rr w => ?_)
    exact xret_l E hr hlk w (by decide) (congrArg Prod.fst (os h)) (congrArg Prod.snd (os h)) (dq da_X12_translate 18 rfl)
  · have h := ie c4 h
    refine lv_lconst (v := 0) hx hb (dq da_X12_translate 12 rfl) rfl ?_
    refine lv_goto (tgt := 32) hx hb (dq da_X12_translate 13 rfl) (by decide) ?_
    exact xret_l E hr hlk w (by decide) (congrArg Prod.fst (os h)) (congrArg Prod.snd (os h)) (dq da_X12_translate 18 rfl)
def f_X12_translate_b10 (x1 : Int64) (x3 : Int32) (u : St) : Option (Int64 × St) := f_X12_translate_b15 x1 x3 (1 : Int32) u
set_option maxRecDepth 100000 in
set_option maxHeartbeats 4000000 in
theorem b_X12_translate_b10 {p : Program} {l : Launch} {e : Env} {s : State} {m : MethodId} {args : Array Value} {below : List Frame} {meth : Method} {c : Code} {D : va_G} {cy : ClassId × ClassId × ClassId} {ad : Nat → Nat} {A : Nat → Prop} (E : CallFix p m c cX12_translate 4 s args gw RX12) (hr : meth.sig.returnType = some .long) (hlk : meth.locks = false) {x1 : Int64} {x3 : Int32} {u : St} {r : Int64} {u' : St} (h : f_X12_translate_b10 x1 x3 u = some (r, u')) {ls : Array Slot} {H : Heap} {locs : List Loc} {rr : Nat → Nat} (hl : lv_has ls 4 [(0, .ref (ad 0)), (1, .long x1), (3, .int x3)]) (w : WX (wM cy ad) D cy rr u A s H locs) : Wx (wM cy ad) D p l e 2 64 0 s m args below meth c A u' (some (.long r)) H locs 0 10 ls [.ref (ad 0)] := by
  have hx := E.1
  have hb := E.2.1
  have hown := E.2.2.2.1
  have hts := E.2.2.2.2
  refine lv_iconst (v := 1) hx hb (dq da_X12_translate 6 rfl) rfl ?_
  refine lv_goto (tgt := 15) hx hb (dq da_X12_translate 7 rfl) (by decide) ?_
  exact b_X12_translate_b15 E hr hlk h (lv_sub hl [0, 1, 2] rfl) w
def f_X12_translate (x1 : Int64) (x3 : Int32) (u : St) : Option (Int64 × St) := if x3 < (0 : Int32) then (f_X12_translate_b10 x1 x3 u) else (if x3 ≤ (2 : Int32) then (f_X12_translate_b15 x1 x3 (0 : Int32) u) else (f_X12_translate_b10 x1 x3 u))
set_option maxRecDepth 100000 in
set_option maxHeartbeats 4000000 in
theorem c_X12_translate (l : Launch) (D : va_G) (cy : ClassId × ClassId × ClassId) (ad : Nat → Nat) (x1 : Int64) (x3 : Int32) (u : St) {r : Int64} {u' : St} (h : f_X12_translate x1 x3 u = some (r, u')) : MX (wM cy ad) D cy l yX12_translate cX12_translate 4 (some .long) 2 64 0 [.ref (ad 0), .long x1, .int x3] u u' (some (.long (r))) := by
  refine entX (by decide +kernel) (Nat.le_of_ble_eq_true rfl) ?_
  intro p e s m args below meth c ls rr A E hr hlk hl w
  have hl : lv_has ls 4 [(0, .ref (ad 0)), (1, .long x1), (3, .int x3)] := hl
  have hx := E.1
  have hb := E.2.1
  have hown := E.2.2.2.1
  have hts := E.2.2.2.2
  refine lv_aload_n hx hb (dq da_X12_translate 0 rfl) rfl (lv_at hl 0 rfl) ?_
  refine lv_iload_n hx hb (dq da_X12_translate 1 rfl) rfl (lv_at hl 2 rfl) ?_
  refine lv_if_lt (tgt := 10) hx hb (dq da_X12_translate 2 rfl) (by decide) (fun c1 => ?_) (fun c1 => ?_)
  · have h := it c1 h
    exact b_X12_translate_b10 E hr hlk h (lv_sub hl [0, 1, 2] rfl) w
  · have h := ie c1 h
    refine lv_iload_n hx hb (dq da_X12_translate 3 rfl) rfl (lv_at hl 2 rfl) ?_
    refine lv_iconst (v := 2) hx hb (dq da_X12_translate 4 rfl) rfl ?_
    refine lv_icmp_le (tgt := 14) hx hb (dq da_X12_translate 5 rfl) (by decide) (fun c7 => ?_) (fun c7 => ?_)
    · have h := it c7 h
      refine lv_iconst (v := 0) hx hb (dq da_X12_translate 8 rfl) rfl ?_
      exact b_X12_translate_b15 E hr hlk h (lv_sub hl [0, 1, 2] rfl) w
    · have h := ie c7 h
      exact b_X12_translate_b10 E hr hlk h (lv_sub hl [0, 1, 2] rfl) w
def dl_X12_number : List (Nat × Instr × Nat) := [(0, .lconst 0, 1), (1, .lstore 4, 2), (3, .iload_n 3, 1), (4, .iconst 1, 1), (5, .isub, 1), (6, .istore 6, 2), (8, .iload 6, 2), (10, .ifCond .lt 32, 3), (13, .lload 4, 2), (15, .bipush 8, 2), (17, .lshl, 1), (18, .aload_n 0, 1), (19, .getfield 44, 3), (22, .lload_n 1, 1), (23, .l2i, 1), (24, .iload 6, 2), (26, .iadd, 1), (27, .baload, 1), (28, .i2l, 1), (29, .ldc2_w 75, 3), (32, .land, 1), (33, .lor, 1), (34, .lstore 4, 2), (36, .iinc 6 (-1), 3), (39, .goto (-31), 3), (42, .lload 4, 2), (44, .lreturn, 1)]
theorem da_X12_number : dkL cX12_number dl_X12_number = true := by decide +kernel
def f_X12_number_b8_s (k8 : Int64 → Int64 → Int32 → St → Option (Int64)) (x1 : Int64) (x4 : Int64) (x6 : Int32) (u : St) : Option (Int64) := if x6 < (0 : Int32) then (some x4) else (if inB (x1.toInt32 + x6) (gN u 5) then (k8 x1 ((j_lshl x4 (8 : Int32)) ||| ((gA u 4 (x1.toInt32 + x6).toNatClampNeg).toInt64 &&& (255 : Int64))) (x6 + (-1 : Int32)) u) else none)
set_option maxRecDepth 100000 in
set_option maxHeartbeats 4000000 in
theorem b_X12_number_b8_s {p : Program} {l : Launch} {e : Env} {s : State} {m : MethodId} {args : Array Value} {below : List Frame} {meth : Method} {c : Code} {D : va_G} {cy : ClassId × ClassId × ClassId} {ad : Nat → Nat} {A : Nat → Prop} (E : CallFix p m c cX12_number 7 s args gw RX12) (hr : meth.sig.returnType = some .long) (hlk : meth.locks = false) {k8 : Int64 → Int64 → Int32 → St → Option (Int64)} (hk8 : ∀ (x1 : Int64) (x4 : Int64) (x6 : Int32) (u : St) (r : Int64), k8 x1 x4 x6 u = some r → ∀ (ls : Array Slot) (H : Heap) (locs : List Loc) (rr : Nat → Nat), lv_has ls 7 [(0, .ref (ad 0)), (1, .long x1), (4, .long x4), (6, .int x6)] → WX (wM cy ad) D cy rr u A s H locs → Wx (wM cy ad) D p l e 0 0 0 s m args below meth c A u (some (.long r)) H locs 0 8 ls []) {x1 : Int64} {x4 : Int64} {x6 : Int32} {u : St} {r : Int64} (h : f_X12_number_b8_s k8 x1 x4 x6 u = some r) {ls : Array Slot} {H : Heap} {locs : List Loc} {rr : Nat → Nat} (hl : lv_has ls 7 [(0, .ref (ad 0)), (1, .long x1), (4, .long x4), (6, .int x6)]) (w : WX (wM cy ad) D cy rr u A s H locs) : Wx (wM cy ad) D p l e 0 0 0 s m args below meth c A u (some (.long r)) H locs 0 8 ls [] := by
  have hx := E.1
  have hb := E.2.1
  have hown := E.2.2.2.1
  have hts := E.2.2.2.2
  refine lv_iload hx hb (dq da_X12_number 6 rfl) (lv_at hl 3 rfl) ?_
  refine lv_if_lt (tgt := 42) hx hb (dq da_X12_number 7 rfl) (by decide) (fun c1 => ?_) (fun c1 => ?_)
  · have h := it c1 h
    refine lv_lload hx hb (dq da_X12_number 25 rfl) (lv_at hl 2 rfl) ?_
    exact xret_l E hr hlk w (by decide) (os h) rfl (dq da_X12_number 26 rfl)
  · have h := ie c1 h
    refine lv_lload hx hb (dq da_X12_number 8 rfl) (lv_at hl 2 rfl) ?_
    refine lv_bipush (v := 8) hx hb (dq da_X12_number 9 rfl) rfl ?_
    refine lv_lshl (v := (j_lshl x4 (8 : Int32))) hx hb (dq da_X12_number 10 rfl) rfl ?_
    refine lv_aload_n hx hb (dq da_X12_number 11 rfl) rfl (lv_at hl 0 rfl) ?_
    refine gt_wM_0_tape E w w_1105 (dq da_X12_number 12 rfl) ?_
    refine lv_lload_n hx hb (dq da_X12_number 13 rfl) rfl (lv_at hl 1 rfl) ?_
    refine lv_l2i (v := x1.toInt32) hx hb (dq da_X12_number 14 rfl) rfl ?_
    refine lv_iload hx hb (dq da_X12_number 15 rfl) (lv_at hl 3 rfl) ?_
    refine lv_iadd hx hb (dq da_X12_number 16 rfl) ?_
    obtain ⟨hi2, h⟩ := oi h
    refine ald_wM_6 E w hi2 (dq da_X12_number 17 rfl) ?_
    refine lv_i2l (v := (gA u 4 (x1.toInt32 + x6).toNatClampNeg).toInt64) hx hb (dq da_X12_number 18 rfl) rfl ?_
    refine lv_ldc2 hx hb hown (hts _ w_1264) (dq da_X12_number 19 rfl) ?_
    refine lv_land hx hb (dq da_X12_number 20 rfl) ?_
    refine lv_lor hx hb (dq da_X12_number 21 rfl) ?_
    refine lv_lstore (lv' := [(4, .long ((j_lshl x4 (8 : Int32)) ||| ((gA u 4 (x1.toInt32 + x6).toNatClampNeg).toInt64 &&& (255 : Int64)))), (0, .ref (ad 0)), (1, .long x1), (6, .int x6)]) hx hb (dq da_X12_number 22 rfl) hl (by decide) rfl (fun ls hl => ?_)
    refine lv_iinc (v := (x6 + (-1 : Int32))) (lv' := [(6, .int (x6 + (-1 : Int32))), (4, .long ((j_lshl x4 (8 : Int32)) ||| ((gA u 4 (x1.toInt32 + x6).toNatClampNeg).toInt64 &&& (255 : Int64)))), (0, .ref (ad 0)), (1, .long x1)]) hx hb (dq da_X12_number 23 rfl) hl (k := 3) rfl rfl (by decide) rfl (fun ls hl => ?_)
    refine lv_goto (tgt := 8) hx hb (dq da_X12_number 24 rfl) (by decide) ?_
    exact hk8 _ _ _ _ _ h ls _ _ _ (lv_sub hl [2, 3, 1, 0] rfl) w
def f_X12_number_b8 : Nat → Int64 → Int64 → Int32 → St → Option (Int64)
  | 0 => fun _ _ _ _ => none
  | n + 1 => f_X12_number_b8_s (f_X12_number_b8 n)
theorem b_X12_number_b8 {p : Program} {l : Launch} {e : Env} {s : State} {m : MethodId} {args : Array Value} {below : List Frame} {meth : Method} {c : Code} {D : va_G} {cy : ClassId × ClassId × ClassId} {ad : Nat → Nat} {A : Nat → Prop} (E : CallFix p m c cX12_number 7 s args gw RX12) (hr : meth.sig.returnType = some .long) (hlk : meth.locks = false) : ∀ n : Nat, ∀ (x1 : Int64) (x4 : Int64) (x6 : Int32) (u : St) (r : Int64), f_X12_number_b8 n x1 x4 x6 u = some r → ∀ (ls : Array Slot) (H : Heap) (locs : List Loc) (rr : Nat → Nat), lv_has ls 7 [(0, .ref (ad 0)), (1, .long x1), (4, .long x4), (6, .int x6)] → WX (wM cy ad) D cy rr u A s H locs → Wx (wM cy ad) D p l e 0 0 0 s m args below meth c A u (some (.long r)) H locs 0 8 ls [] := by
  intro n
  induction n with
  | zero => intro x1 x4 x6 u r h; cases h
  | succ n ih => intro x1 x4 x6 u r h ls H locs rr hl w; exact b_X12_number_b8_s E hr hlk ih h hl w
def f_X12_number (x1 : Int64) (x3 : Int32) (u : St) : Option (Int64) := f_X12_number_b8 FU x1 (0 : Int64) (x3 - (1 : Int32)) u
set_option maxRecDepth 100000 in
set_option maxHeartbeats 4000000 in
theorem c_X12_number (l : Launch) (D : va_G) (cy : ClassId × ClassId × ClassId) (ad : Nat → Nat) (x1 : Int64) (x3 : Int32) (u : St) {r : Int64} (h : f_X12_number x1 x3 u = some r) : MX (wM cy ad) D cy l yX12_number cX12_number 7 (some .long) 0 0 0 [.ref (ad 0), .long x1, .int x3] u u (some (.long (r))) := by
  refine entX (by decide +kernel) (Nat.le_of_ble_eq_true rfl) ?_
  intro p e s m args below meth c ls rr A E hr hlk hl w
  have hl : lv_has ls 7 [(0, .ref (ad 0)), (1, .long x1), (3, .int x3)] := hl
  have hx := E.1
  have hb := E.2.1
  have hown := E.2.2.2.1
  have hts := E.2.2.2.2
  refine lv_lconst (v := 0) hx hb (dq da_X12_number 0 rfl) rfl ?_
  refine lv_lstore (lv' := [(4, .long (0 : Int64)), (0, .ref (ad 0)), (1, .long x1), (3, .int x3)]) hx hb (dq da_X12_number 1 rfl) hl (by decide) rfl (fun ls hl => ?_)
  refine lv_iload_n hx hb (dq da_X12_number 2 rfl) rfl (lv_at hl 3 rfl) ?_
  refine lv_iconst (v := 1) hx hb (dq da_X12_number 3 rfl) rfl ?_
  refine lv_isub hx hb (dq da_X12_number 4 rfl) ?_
  refine lv_istore (lv' := [(6, .int (x3 - (1 : Int32))), (4, .long (0 : Int64)), (0, .ref (ad 0)), (1, .long x1), (3, .int x3)]) hx hb (dq da_X12_number 5 rfl) hl (by decide) rfl (fun ls hl => ?_)
  exact b_X12_number_b8 E hr hlk FU _ _ _ _ _ h ls _ _ _ (lv_sub hl [2, 3, 1, 0] rfl) w
def dl_X12_errorOf : List (Nat × Instr × Nat) := [(0, .aload_n 0, 1), (1, .getfield 558, 3), (4, .bipush 64, 2), (6, .if_icmp .ge 5, 3), (9, .iconst 1, 1), (10, .ireturn, 1), (11, .iconst 0, 1), (12, .istore_n 1, 1), (13, .iload_n 1, 1), (14, .bipush 7, 2), (16, .if_icmp .ge 27, 3), (19, .aload_n 0, 1), (20, .iload_n 1, 1), (21, .i2l, 1), (22, .iconst 1, 1), (23, .invokevirtual 561, 3), (26, .iload_n 1, 1), (27, .invokestatic 564, 3), (30, .i2l, 1), (31, .lcmp, 1), (32, .ifCond .eq 5, 3), (35, .iconst 2, 1), (36, .ireturn, 1), (37, .iinc 1 1, 3), (40, .goto (-27), 3), (43, .aload_n 0, 1), (44, .ldc2_w 438, 3), (47, .iconst 2, 1), (48, .invokevirtual 561, 3), (51, .ldc2_w 313, 3), (54, .lcmp, 1), (55, .ifCond .ne 31, 3), (58, .aload_n 0, 1), (59, .ldc2_w 567, 3), (62, .iconst 2, 1), (63, .invokevirtual 561, 3), (66, .ldc2_w 569, 3), (69, .lcmp, 1), (70, .ifCond .ne 16, 3), (73, .aload_n 0, 1), (74, .ldc2_w 571, 3), (77, .iconst 4, 1), (78, .invokevirtual 561, 3), (81, .lconst 1, 1), (82, .lcmp, 1), (83, .ifCond .eq 5, 3), (86, .iconst 3, 1), (87, .ireturn, 1), (88, .aload_n 0, 1), (89, .ldc2_w 573, 3), (92, .iconst 2, 1), (93, .invokevirtual 561, 3), (96, .lstore_n 1, 1), (97, .aload_n 0, 1), (98, .ldc2_w 575, 3), (101, .iconst 2, 1), (102, .invokevirtual 561, 3), (105, .ldc2_w 573, 3), (108, .lcmp, 1), (109, .ifCond .ne 14, 3), (112, .lload_n 1, 1), (113, .lconst 1, 1), (114, .ldc2_w 438, 3), (117, .invokestatic 87, 3), (120, .ifCond .ne 5, 3), (123, .iconst 4, 1), (124, .ireturn, 1), (125, .aload_n 0, 1), (126, .ldc2_w 440, 3), (129, .bipush 8, 2), (131, .invokevirtual 561, 3), (134, .lstore_n 3, 1), (135, .lload_n 3, 1), (136, .ldc2_w 573, 3), (139, .lload_n 1, 1), (140, .lmul, 1), (141, .aload_n 0, 1), (142, .getfield 558, 3), (145, .i2l, 1), (146, .invokestatic 577, 3), (149, .ifCond .ne 5, 3), (152, .iconst 5, 1), (153, .ireturn, 1), (154, .iconst 0, 1), (155, .istore 5, 2), (157, .iload 5, 2), (159, .i2l, 1), (160, .lload_n 1, 1), (161, .lcmp, 1), (162, .ifCond .ge 138, 3), (165, .lload_n 3, 1), (166, .ldc2_w 573, 3), (169, .iload 5, 2), (171, .i2l, 1), (172, .lmul, 1), (173, .ladd, 1), (174, .lstore 6, 2), (176, .aload_n 0, 1), (177, .lload 6, 2), (179, .iconst 4, 1), (180, .invokevirtual 561, 3), (183, .lconst 1, 1), (184, .lcmp, 1), (185, .ifCond .eq 6, 3), (188, .goto 106, 3), (191, .aload_n 0, 1), (192, .lload 6, 2), (194, .ldc2_w 440, 3), (197, .ladd, 1), (198, .bipush 8, 2), (200, .invokevirtual 561, 3), (203, .lstore 8, 2), (205, .aload_n 0, 1), (206, .lload 6, 2), (208, .ldc2_w 580, 3), (211, .ladd, 1), (212, .bipush 8, 2), (214, .invokevirtual 561, 3), (217, .lstore 10, 2), (219, .aload_n 0, 1), (220, .lload 6, 2), (222, .ldc2_w 203, 3), (225, .ladd, 1), (226, .bipush 8, 2), (228, .invokevirtual 561, 3), (231, .lload 8, 2), (233, .aload_n 0, 1), (234, .getfield 558, 3), (237, .i2l, 1), (238, .invokestatic 577, 3), (241, .ifCond .ne 6, 3), (244, .bipush 6, 2), (246, .ireturn, 1), (247, .aload_n 0, 1), (248, .lload 6, 2), (250, .ldc2_w 582, 3), (253, .ladd, 1), (254, .bipush 8, 2), (256, .invokevirtual 561, 3), (259, .ldc2_w 18, 3), (262, .lsub, 1), (263, .lload 10, 2), (265, .ldc2_w 73, 3), (268, .aload_n 0, 1), (269, .getfield 59, 3), (272, .i2l, 1), (273, .lmul, 1), (274, .invokestatic 577, 3), (277, .ifCond .ne 6, 3), (280, .bipush 7, 2), (282, .ireturn, 1), (283, .lload 8, 2), (285, .lload 10, 2), (287, .lcmp, 1), (288, .ifCond .le 6, 3), (291, .bipush 8, 2), (293, .ireturn, 1), (294, .iinc 5 1, 3), (297, .goto (-140), 3), (300, .aload_n 0, 1), (301, .ldc2_w 582, 3), (304, .bipush 8, 2), (306, .invokevirtual 561, 3), (309, .lstore 5, 2), (311, .aload_n 0, 1), (312, .lload 5, 2), (314, .iconst 1, 1), (315, .invokevirtual 103, 3), (318, .ifCond .eq 16, 3), (321, .lload 5, 2), (323, .lconst 1, 1), (324, .land, 1), (325, .lconst 0, 1), (326, .lcmp, 1), (327, .ifCond .ne 7, 3), (330, .iconst 0, 1), (331, .goto 5, 3), (334, .bipush 9, 2), (336, .ireturn, 1)]
theorem da_X12_errorOf : dkL cX12_errorOf dl_X12_errorOf = true := by decide +kernel
def f_X12_errorOf_b86 (u : St) : Option (Int32) := some (3 : Int32)
set_option maxRecDepth 100000 in
set_option maxHeartbeats 4000000 in
theorem b_X12_errorOf_b86 {p : Program} {l : Launch} {e : Env} {s : State} {m : MethodId} {args : Array Value} {below : List Frame} {meth : Method} {c : Code} {D : va_G} {cy : ClassId × ClassId × ClassId} {ad : Nat → Nat} {A : Nat → Prop} (E : CallFix p m c cX12_errorOf 12 s args gw RX12) (hr : meth.sig.returnType = some .int) (hlk : meth.locks = false) {u : St} {r : Int32} (h : f_X12_errorOf_b86 u = some r) {ls : Array Slot} {H : Heap} {locs : List Loc} {rr : Nat → Nat} (hl : lv_has ls 12 []) (w : WX (wM cy ad) D cy rr u A s H locs) : Wx (wM cy ad) D p l e 2 50 0 s m args below meth c A u (some (.int r)) H locs 0 86 ls [] := by
  have hx := E.1
  have hb := E.2.1
  have hown := E.2.2.2.1
  have hts := E.2.2.2.2
  refine lv_iconst (v := 3) hx hb (dq da_X12_errorOf 46 rfl) rfl ?_
  exact xret_i E hr hlk w (by decide) (os h) rfl (dq da_X12_errorOf 47 rfl)
def f_X12_errorOf_b123 (u : St) : Option (Int32) := some (4 : Int32)
set_option maxRecDepth 100000 in
set_option maxHeartbeats 4000000 in
theorem b_X12_errorOf_b123 {p : Program} {l : Launch} {e : Env} {s : State} {m : MethodId} {args : Array Value} {below : List Frame} {meth : Method} {c : Code} {D : va_G} {cy : ClassId × ClassId × ClassId} {ad : Nat → Nat} {A : Nat → Prop} (E : CallFix p m c cX12_errorOf 12 s args gw RX12) (hr : meth.sig.returnType = some .int) (hlk : meth.locks = false) {u : St} {r : Int32} (h : f_X12_errorOf_b123 u = some r) {ls : Array Slot} {H : Heap} {locs : List Loc} {rr : Nat → Nat} (hl : lv_has ls 12 []) (w : WX (wM cy ad) D cy rr u A s H locs) : Wx (wM cy ad) D p l e 2 50 0 s m args below meth c A u (some (.int r)) H locs 0 123 ls [] := by
  have hx := E.1
  have hb := E.2.1
  have hown := E.2.2.2.1
  have hts := E.2.2.2.2
  refine lv_iconst (v := 4) hx hb (dq da_X12_errorOf 65 rfl) rfl ?_
  exact xret_i E hr hlk w (by decide) (os h) rfl (dq da_X12_errorOf 66 rfl)
def f_X12_errorOf_b334 (u : St) : Option (Int32) := some (9 : Int32)
set_option maxRecDepth 100000 in
set_option maxHeartbeats 4000000 in
theorem b_X12_errorOf_b334 {p : Program} {l : Launch} {e : Env} {s : State} {m : MethodId} {args : Array Value} {below : List Frame} {meth : Method} {c : Code} {D : va_G} {cy : ClassId × ClassId × ClassId} {ad : Nat → Nat} {A : Nat → Prop} (E : CallFix p m c cX12_errorOf 12 s args gw RX12) (hr : meth.sig.returnType = some .int) (hlk : meth.locks = false) {u : St} {r : Int32} (h : f_X12_errorOf_b334 u = some r) {ls : Array Slot} {H : Heap} {locs : List Loc} {rr : Nat → Nat} (hl : lv_has ls 12 []) (w : WX (wM cy ad) D cy rr u A s H locs) : Wx (wM cy ad) D p l e 2 50 0 s m args below meth c A u (some (.int r)) H locs 0 334 ls [] := by
  have hx := E.1
  have hb := E.2.1
  have hown := E.2.2.2.1
  have hts := E.2.2.2.2
  refine lv_bipush (v := 9) hx hb (dq da_X12_errorOf 177 rfl) rfl ?_
  exact xret_i E hr hlk w (by decide) (os h) rfl (dq da_X12_errorOf 178 rfl)
def f_X12_errorOf_b294 (k157 : Int64 → Int64 → Int32 → St → Option (Int32)) (x1 : Int64) (x3 : Int64) (x5 : Int32) (u : St) : Option (Int32) := k157 x1 x3 (x5 + (1 : Int32)) u
set_option maxRecDepth 100000 in
set_option maxHeartbeats 4000000 in
theorem b_X12_errorOf_b294 {p : Program} {l : Launch} {e : Env} {s : State} {m : MethodId} {args : Array Value} {below : List Frame} {meth : Method} {c : Code} {D : va_G} {cy : ClassId × ClassId × ClassId} {ad : Nat → Nat} {A : Nat → Prop} (E : CallFix p m c cX12_errorOf 12 s args gw RX12) (hr : meth.sig.returnType = some .int) (hlk : meth.locks = false) {k157 : Int64 → Int64 → Int32 → St → Option (Int32)} (hk157 : ∀ (x1 : Int64) (x3 : Int64) (x5 : Int32) (u : St) (r : Int32), k157 x1 x3 x5 u = some r → ∀ (ls : Array Slot) (H : Heap) (locs : List Loc) (rr : Nat → Nat), lv_has ls 12 [(0, .ref (ad 0)), (1, .long x1), (3, .long x3), (5, .int x5)] → WX (wM cy ad) D cy rr u A s H locs → Wx (wM cy ad) D p l e 2 50 0 s m args below meth c A u (some (.int r)) H locs 0 157 ls []) {x1 : Int64} {x3 : Int64} {x5 : Int32} {u : St} {r : Int32} (h : f_X12_errorOf_b294 k157 x1 x3 x5 u = some r) {ls : Array Slot} {H : Heap} {locs : List Loc} {rr : Nat → Nat} (hl : lv_has ls 12 [(0, .ref (ad 0)), (1, .long x1), (3, .long x3), (5, .int x5)]) (w : WX (wM cy ad) D cy rr u A s H locs) : Wx (wM cy ad) D p l e 2 50 0 s m args below meth c A u (some (.int r)) H locs 0 294 ls [] := by
  have hx := E.1
  have hb := E.2.1
  have hown := E.2.2.2.1
  have hts := E.2.2.2.2
  refine lv_iinc (v := (x5 + (1 : Int32))) (lv' := [(5, .int (x5 + (1 : Int32))), (0, .ref (ad 0)), (1, .long x1), (3, .long x3)]) hx hb (dq da_X12_errorOf 157 rfl) hl (k := 3) rfl rfl (by decide) rfl (fun ls hl => ?_)
  refine lv_goto (tgt := 157) hx hb (dq da_X12_errorOf 158 rfl) (by decide) ?_
  exact hk157 _ _ _ _ _ h ls _ _ _ (lv_sub hl [1, 2, 3, 0] rfl) w
def f_X12_errorOf_b157_s (k157 : Int64 → Int64 → Int32 → St → Option (Int32)) (x1 : Int64) (x3 : Int64) (x5 : Int32) (u : St) : Option (Int32) := if x1 ≤ x5.toInt64 then ((f_X12_number (24 : Int64) (8 : Int32) u).bind (fun y22 => if (f_X12_isRam y22 (1 : Int32) u) = (0 : Int32) then (f_X12_errorOf_b334 u) else (if (y22 &&& (1 : Int64)) = (0 : Int64) then (some (0 : Int32)) else (f_X12_errorOf_b334 u)))) else ((f_X12_number (x3 + ((56 : Int64) * x5.toInt64)) (4 : Int32) u).bind (fun y26 => if y26 = (1 : Int64) then ((f_X12_number ((x3 + ((56 : Int64) * x5.toInt64)) + (32 : Int64)) (8 : Int32) u).bind (fun y29 => (f_X12_number ((x3 + ((56 : Int64) * x5.toInt64)) + (40 : Int64)) (8 : Int32) u).bind (fun y31 => (f_X12_number ((x3 + ((56 : Int64) * x5.toInt64)) + (8 : Int64)) (8 : Int32) u).bind (fun y33 => if (f_X12_lies y33 y29 ((gI u 8).toInt64)) = (0 : Int32) then (some (6 : Int32)) else ((f_X12_number ((x3 + ((56 : Int64) * x5.toInt64)) + (24 : Int64)) (8 : Int32) u).bind (fun y36 => if (f_X12_lies (y36 - (2147483648 : Int64)) y31 ((4096 : Int64) * (gI u 1).toInt64)) = (0 : Int32) then (some (7 : Int32)) else (if y29 ≤ y31 then (f_X12_errorOf_b294 k157 x1 x3 x5 u) else (some (8 : Int32))))))))) else (f_X12_errorOf_b294 k157 x1 x3 x5 u)))
set_option maxRecDepth 100000 in
set_option maxHeartbeats 4000000 in
theorem b_X12_errorOf_b157_s {p : Program} {l : Launch} {e : Env} {s : State} {m : MethodId} {args : Array Value} {below : List Frame} {meth : Method} {c : Code} {D : va_G} {cy : ClassId × ClassId × ClassId} {ad : Nat → Nat} {A : Nat → Prop} (E : CallFix p m c cX12_errorOf 12 s args gw RX12) (hr : meth.sig.returnType = some .int) (hlk : meth.locks = false) {k157 : Int64 → Int64 → Int32 → St → Option (Int32)} (hk157 : ∀ (x1 : Int64) (x3 : Int64) (x5 : Int32) (u : St) (r : Int32), k157 x1 x3 x5 u = some r → ∀ (ls : Array Slot) (H : Heap) (locs : List Loc) (rr : Nat → Nat), lv_has ls 12 [(0, .ref (ad 0)), (1, .long x1), (3, .long x3), (5, .int x5)] → WX (wM cy ad) D cy rr u A s H locs → Wx (wM cy ad) D p l e 2 50 0 s m args below meth c A u (some (.int r)) H locs 0 157 ls []) {x1 : Int64} {x3 : Int64} {x5 : Int32} {u : St} {r : Int32} (h : f_X12_errorOf_b157_s k157 x1 x3 x5 u = some r) {ls : Array Slot} {H : Heap} {locs : List Loc} {rr : Nat → Nat} (hl : lv_has ls 12 [(0, .ref (ad 0)), (1, .long x1), (3, .long x3), (5, .int x5)]) (w : WX (wM cy ad) D cy rr u A s H locs) : Wx (wM cy ad) D p l e 2 50 0 s m args below meth c A u (some (.int r)) H locs 0 157 ls [] := by
  have hx := E.1
  have hb := E.2.1
  have hown := E.2.2.2.1
  have hts := E.2.2.2.2
  refine lv_iload hx hb (dq da_X12_errorOf 85 rfl) (lv_at hl 3 rfl) ?_
  refine lv_i2l (v := x5.toInt64) hx hb (dq da_X12_errorOf 86 rfl) rfl ?_
  refine lv_lload_n hx hb (dq da_X12_errorOf 87 rfl) rfl (lv_at hl 1 rfl) ?_
  refine lc_ge (tgt := 300) hx hb (dq da_X12_errorOf 88 rfl) (dq da_X12_errorOf 89 rfl) (by decide) (fun c21 => ?_) (fun c21 => ?_)
  · have h := it c21 h
    refine lv_aload_n hx hb (dq da_X12_errorOf 159 rfl) rfl (lv_at hl 0 rfl) ?_
    refine lv_ldc2 hx hb hown (hts _ w_1284) (dq da_X12_errorOf 160 rfl) ?_
    refine lv_bipush (v := 8) hx hb (dq da_X12_errorOf 161 rfl) rfl ?_
    obtain ⟨y22, hy23, h⟩ := ob h
    refine cV1 E (c_X12_number l D cy ad _ _ _ hy23) w_1260 w_1262 w_p43 w_10 w_1263 rfl hd_X12_number rfl hl.1 rfl (Nat.le_of_ble_eq_true rfl) ⟨Nat.le_of_ble_eq_true rfl, Nat.le_of_ble_eq_true rfl⟩ (by decide) w (rc_wM_0 w) (dq da_X12_errorOf 162 rfl) (fun H locs rr w => ?_)
    refine lv_lstore (lv' := [(5, .long y22), (0, .ref (ad 0)), (1, .long x1), (3, .long x3)]) hx hb (dq da_X12_errorOf 163 rfl) hl (by decide) rfl (fun ls hl => ?_)
    refine lv_aload_n hx hb (dq da_X12_errorOf 164 rfl) rfl (lv_at hl 1 rfl) ?_
    refine lv_lload hx hb (dq da_X12_errorOf 165 rfl) (lv_at hl 0 rfl) ?_
    refine lv_iconst (v := 1) hx hb (dq da_X12_errorOf 166 rfl) rfl ?_
    refine cV1 E (c_X12_isRam l D cy ad _ _ _ ) w_1286 w_1288 w_p44 w_10 w_1289 rfl hd_X12_isRam rfl hl.1 rfl (Nat.le_of_ble_eq_true rfl) ⟨Nat.le_of_ble_eq_true rfl, Nat.le_of_ble_eq_true rfl⟩ (by decide) w (rc_wM_0 w) (dq da_X12_errorOf 167 rfl) (fun H locs rr w => ?_)
    refine lv_if_eq (tgt := 334) hx hb (dq da_X12_errorOf 168 rfl) (by decide) (fun c24 => ?_) (fun c24 => ?_)
    · have h := it c24 h
      exact b_X12_errorOf_b334 E hr hlk h (lv_sub hl [] rfl) w
    · have h := ie c24 h
      refine lv_lload hx hb (dq da_X12_errorOf 169 rfl) (lv_at hl 0 rfl) ?_
      refine lv_lconst (v := 1) hx hb (dq da_X12_errorOf 170 rfl) rfl ?_
      refine lv_land hx hb (dq da_X12_errorOf 171 rfl) ?_
      refine lv_lconst (v := 0) hx hb (dq da_X12_errorOf 172 rfl) rfl ?_
      refine lc_ne (tgt := 334) hx hb (dq da_X12_errorOf 173 rfl) (dq da_X12_errorOf 174 rfl) (by decide) (fun c25 => ?_) (fun c25 => ?_)
      · have h := ie c25 h
        exact b_X12_errorOf_b334 E hr hlk h (lv_sub hl [] rfl) w
      · have h := it c25 h
        refine lv_iconst (v := 0) hx hb (dq da_X12_errorOf 175 rfl) rfl ?_
        refine lv_goto (tgt := 336) hx hb (dq da_X12_errorOf 176 rfl) (by decide) ?_
        exact xret_i E hr hlk w (by decide) (os h) rfl (dq da_X12_errorOf 178 rfl)
  · have h := ie c21 h
    refine lv_lload_n hx hb (dq da_X12_errorOf 90 rfl) rfl (lv_at hl 2 rfl) ?_
    refine lv_ldc2 hx hb hown (hts _ w_1273) (dq da_X12_errorOf 91 rfl) ?_
    refine lv_iload hx hb (dq da_X12_errorOf 92 rfl) (lv_at hl 3 rfl) ?_
    refine lv_i2l (v := x5.toInt64) hx hb (dq da_X12_errorOf 93 rfl) rfl ?_
    refine lv_lmul hx hb (dq da_X12_errorOf 94 rfl) ?_
    refine lv_ladd hx hb (dq da_X12_errorOf 95 rfl) ?_
    refine lv_lstore (lv' := [(6, .long (x3 + ((56 : Int64) * x5.toInt64))), (0, .ref (ad 0)), (1, .long x1), (3, .long x3), (5, .int x5)]) hx hb (dq da_X12_errorOf 96 rfl) hl (by decide) rfl (fun ls hl => ?_)
    refine lv_aload_n hx hb (dq da_X12_errorOf 97 rfl) rfl (lv_at hl 1 rfl) ?_
    refine lv_lload hx hb (dq da_X12_errorOf 98 rfl) (lv_at hl 0 rfl) ?_
    refine lv_iconst (v := 4) hx hb (dq da_X12_errorOf 99 rfl) rfl ?_
    obtain ⟨y26, hy27, h⟩ := ob h
    refine cV1 E (c_X12_number l D cy ad _ _ _ hy27) w_1260 w_1262 w_p43 w_10 w_1263 rfl hd_X12_number rfl hl.1 rfl (Nat.le_of_ble_eq_true rfl) ⟨Nat.le_of_ble_eq_true rfl, Nat.le_of_ble_eq_true rfl⟩ (by decide) w (rc_wM_0 w) (dq da_X12_errorOf 100 rfl) (fun H locs rr w => ?_)
    refine lv_lconst (v := 1) hx hb (dq da_X12_errorOf 101 rfl) rfl ?_
    refine lc_eq (tgt := 191) hx hb (dq da_X12_errorOf 102 rfl) (dq da_X12_errorOf 103 rfl) (by decide) (fun c28 => ?_) (fun c28 => ?_)
    · have h := it c28 h
      refine lv_aload_n hx hb (dq da_X12_errorOf 105 rfl) rfl (lv_at hl 1 rfl) ?_
      refine lv_lload hx hb (dq da_X12_errorOf 106 rfl) (lv_at hl 0 rfl) ?_
      refine lv_ldc2 hx hb hown (hts _ w_1278) (dq da_X12_errorOf 107 rfl) ?_
      refine lv_ladd hx hb (dq da_X12_errorOf 108 rfl) ?_
      refine lv_bipush (v := 8) hx hb (dq da_X12_errorOf 109 rfl) rfl ?_
      obtain ⟨y29, hy30, h⟩ := ob h
      refine cV1 E (c_X12_number l D cy ad _ _ _ hy30) w_1260 w_1262 w_p43 w_10 w_1263 rfl hd_X12_number rfl hl.1 rfl (Nat.le_of_ble_eq_true rfl) ⟨Nat.le_of_ble_eq_true rfl, Nat.le_of_ble_eq_true rfl⟩ (by decide) w (rc_wM_0 w) (dq da_X12_errorOf 110 rfl) (fun H locs rr w => ?_)
      refine lv_lstore (lv' := [(8, .long y29), (6, .long (x3 + ((56 : Int64) * x5.toInt64))), (0, .ref (ad 0)), (1, .long x1), (3, .long x3), (5, .int x5)]) hx hb (dq da_X12_errorOf 111 rfl) hl (by decide) rfl (fun ls hl => ?_)
      refine lv_aload_n hx hb (dq da_X12_errorOf 112 rfl) rfl (lv_at hl 2 rfl) ?_
      refine lv_lload hx hb (dq da_X12_errorOf 113 rfl) (lv_at hl 1 rfl) ?_
      refine lv_ldc2 hx hb hown (hts _ w_1282) (dq da_X12_errorOf 114 rfl) ?_
      refine lv_ladd hx hb (dq da_X12_errorOf 115 rfl) ?_
      refine lv_bipush (v := 8) hx hb (dq da_X12_errorOf 116 rfl) rfl ?_
      obtain ⟨y31, hy32, h⟩ := ob h
      refine cV1 E (c_X12_number l D cy ad _ _ _ hy32) w_1260 w_1262 w_p43 w_10 w_1263 rfl hd_X12_number rfl hl.1 rfl (Nat.le_of_ble_eq_true rfl) ⟨Nat.le_of_ble_eq_true rfl, Nat.le_of_ble_eq_true rfl⟩ (by decide) w (rc_wM_0 w) (dq da_X12_errorOf 117 rfl) (fun H locs rr w => ?_)
      refine lv_lstore (lv' := [(10, .long y31), (8, .long y29), (6, .long (x3 + ((56 : Int64) * x5.toInt64))), (0, .ref (ad 0)), (1, .long x1), (3, .long x3), (5, .int x5)]) hx hb (dq da_X12_errorOf 118 rfl) hl (by decide) rfl (fun ls hl => ?_)
      refine lv_aload_n hx hb (dq da_X12_errorOf 119 rfl) rfl (lv_at hl 3 rfl) ?_
      refine lv_lload hx hb (dq da_X12_errorOf 120 rfl) (lv_at hl 2 rfl) ?_
      refine lv_ldc2 hx hb hown (hts _ w_1283) (dq da_X12_errorOf 121 rfl) ?_
      refine lv_ladd hx hb (dq da_X12_errorOf 122 rfl) ?_
      refine lv_bipush (v := 8) hx hb (dq da_X12_errorOf 123 rfl) rfl ?_
      obtain ⟨y33, hy34, h⟩ := ob h
      refine cV1 E (c_X12_number l D cy ad _ _ _ hy34) w_1260 w_1262 w_p43 w_10 w_1263 rfl hd_X12_number rfl hl.1 rfl (Nat.le_of_ble_eq_true rfl) ⟨Nat.le_of_ble_eq_true rfl, Nat.le_of_ble_eq_true rfl⟩ (by decide) w (rc_wM_0 w) (dq da_X12_errorOf 124 rfl) (fun H locs rr w => ?_)
      refine lv_lload hx hb (dq da_X12_errorOf 125 rfl) (lv_at hl 1 rfl) ?_
      refine lv_aload_n hx hb (dq da_X12_errorOf 126 rfl) rfl (lv_at hl 3 rfl) ?_
      refine gt_wM_0_taped E w w_1106 (dq da_X12_errorOf 127 rfl) ?_
      refine lv_i2l (v := (gI u 8).toInt64) hx hb (dq da_X12_errorOf 128 rfl) rfl ?_
      refine callP E (c_X12_lies l _ _ _ ) w_1279 w_1280 w_10 w_1281 hd_X12_lies rfl hl.1 rfl (Nat.le_of_ble_eq_true rfl) ⟨Nat.le_of_ble_eq_true rfl, Nat.le_of_ble_eq_true rfl⟩ (by decide) (dq da_X12_errorOf 129 rfl) ?_
      refine lv_if_ne (tgt := 247) hx hb (dq da_X12_errorOf 130 rfl) (by decide) (fun c35 => ?_) (fun c35 => ?_)
      · have h := ie c35 h
        refine lv_aload_n hx hb (dq da_X12_errorOf 133 rfl) rfl (lv_at hl 3 rfl) ?_
        refine lv_lload hx hb (dq da_X12_errorOf 134 rfl) (lv_at hl 2 rfl) ?_
        refine lv_ldc2 hx hb hown (hts _ w_1284) (dq da_X12_errorOf 135 rfl) ?_
        refine lv_ladd hx hb (dq da_X12_errorOf 136 rfl) ?_
        refine lv_bipush (v := 8) hx hb (dq da_X12_errorOf 137 rfl) rfl ?_
        obtain ⟨y36, hy37, h⟩ := ob h
        refine cV1 E (c_X12_number l D cy ad _ _ _ hy37) w_1260 w_1262 w_p43 w_10 w_1263 rfl hd_X12_number rfl hl.1 rfl (Nat.le_of_ble_eq_true rfl) ⟨Nat.le_of_ble_eq_true rfl, Nat.le_of_ble_eq_true rfl⟩ (by decide) w (rc_wM_0 w) (dq da_X12_errorOf 138 rfl) (fun H locs rr w => ?_)
        refine lv_ldc2 hx hb hown (hts _ w_1085) (dq da_X12_errorOf 139 rfl) ?_
        refine lv_lsub hx hb (dq da_X12_errorOf 140 rfl) ?_
        refine lv_lload hx hb (dq da_X12_errorOf 141 rfl) (lv_at hl 0 rfl) ?_
        refine lv_ldc2 hx hb hown (hts _ w_1285) (dq da_X12_errorOf 142 rfl) ?_
        refine lv_aload_n hx hb (dq da_X12_errorOf 143 rfl) rfl (lv_at hl 3 rfl) ?_
        refine gt_wM_0_pages E w w_1089 (dq da_X12_errorOf 144 rfl) ?_
        refine lv_i2l (v := (gI u 1).toInt64) hx hb (dq da_X12_errorOf 145 rfl) rfl ?_
        refine lv_lmul hx hb (dq da_X12_errorOf 146 rfl) ?_
        refine callP E (c_X12_lies l _ _ _ ) w_1279 w_1280 w_10 w_1281 hd_X12_lies rfl hl.1 rfl (Nat.le_of_ble_eq_true rfl) ⟨Nat.le_of_ble_eq_true rfl, Nat.le_of_ble_eq_true rfl⟩ (by decide) (dq da_X12_errorOf 147 rfl) ?_
        refine lv_if_ne (tgt := 283) hx hb (dq da_X12_errorOf 148 rfl) (by decide) (fun c38 => ?_) (fun c38 => ?_)
        · have h := ie c38 h
          refine lv_lload hx hb (dq da_X12_errorOf 151 rfl) (lv_at hl 1 rfl) ?_
          refine lv_lload hx hb (dq da_X12_errorOf 152 rfl) (lv_at hl 0 rfl) ?_
          refine lc_le (tgt := 294) hx hb (dq da_X12_errorOf 153 rfl) (dq da_X12_errorOf 154 rfl) (by decide) (fun c39 => ?_) (fun c39 => ?_)
          · have h := it c39 h
            exact b_X12_errorOf_b294 E hr hlk hk157 h (lv_sub hl [3, 4, 5, 6] rfl) w
          · have h := ie c39 h
            refine lv_bipush (v := 8) hx hb (dq da_X12_errorOf 155 rfl) rfl ?_
            exact xret_i E hr hlk w (by decide) (os h) rfl (dq da_X12_errorOf 156 rfl)
        · have h := it c38 h
          refine lv_bipush (v := 7) hx hb (dq da_X12_errorOf 149 rfl) rfl ?_
          exact xret_i E hr hlk w (by decide) (os h) rfl (dq da_X12_errorOf 150 rfl)
      · have h := it c35 h
        refine lv_bipush (v := 6) hx hb (dq da_X12_errorOf 131 rfl) rfl ?_
        exact xret_i E hr hlk w (by decide) (os h) rfl (dq da_X12_errorOf 132 rfl)
    · have h := ie c28 h
      refine lv_goto (tgt := 294) hx hb (dq da_X12_errorOf 104 rfl) (by decide) ?_
      exact b_X12_errorOf_b294 E hr hlk hk157 h (lv_sub hl [1, 2, 3, 4] rfl) w
def f_X12_errorOf_b157 : Nat → Int64 → Int64 → Int32 → St → Option (Int32)
  | 0 => fun _ _ _ _ => none
  | n + 1 => f_X12_errorOf_b157_s (f_X12_errorOf_b157 n)
theorem b_X12_errorOf_b157 {p : Program} {l : Launch} {e : Env} {s : State} {m : MethodId} {args : Array Value} {below : List Frame} {meth : Method} {c : Code} {D : va_G} {cy : ClassId × ClassId × ClassId} {ad : Nat → Nat} {A : Nat → Prop} (E : CallFix p m c cX12_errorOf 12 s args gw RX12) (hr : meth.sig.returnType = some .int) (hlk : meth.locks = false) : ∀ n : Nat, ∀ (x1 : Int64) (x3 : Int64) (x5 : Int32) (u : St) (r : Int32), f_X12_errorOf_b157 n x1 x3 x5 u = some r → ∀ (ls : Array Slot) (H : Heap) (locs : List Loc) (rr : Nat → Nat), lv_has ls 12 [(0, .ref (ad 0)), (1, .long x1), (3, .long x3), (5, .int x5)] → WX (wM cy ad) D cy rr u A s H locs → Wx (wM cy ad) D p l e 2 50 0 s m args below meth c A u (some (.int r)) H locs 0 157 ls [] := by
  intro n
  induction n with
  | zero => intro x1 x3 x5 u r h; cases h
  | succ n ih => intro x1 x3 x5 u r h ls H locs rr hl w; exact b_X12_errorOf_b157_s E hr hlk ih h hl w
def f_X12_errorOf_b13_s (k13 : Int32 → St → Option (Int32)) (x1 : Int32) (u : St) : Option (Int32) := if (7 : Int32) ≤ x1 then ((f_X12_number (16 : Int64) (2 : Int32) u).bind (fun y3 => if y3 = (2 : Int64) then ((f_X12_number (18 : Int64) (2 : Int32) u).bind (fun y6 => if y6 = (243 : Int64) then ((f_X12_number (20 : Int64) (4 : Int32) u).bind (fun y9 => if y9 = (1 : Int64) then ((f_X12_number (56 : Int64) (2 : Int32) u).bind (fun y12 => (f_X12_number (54 : Int64) (2 : Int32) u).bind (fun y14 => if y14 = (56 : Int64) then (if (f_X12_in y12 (1 : Int64) (16 : Int64)) = (0 : Int32) then (f_X12_errorOf_b123 u) else ((f_X12_number (32 : Int64) (8 : Int32) u).bind (fun y18 => if (f_X12_lies y18 ((56 : Int64) * y12) ((gI u 8).toInt64)) = (0 : Int32) then (some (5 : Int32)) else (f_X12_errorOf_b157 FU y12 y18 (0 : Int32) u)))) else (f_X12_errorOf_b123 u)))) else (f_X12_errorOf_b86 u))) else (f_X12_errorOf_b86 u))) else (f_X12_errorOf_b86 u))) else ((f_X12_number x1.toInt64 (1 : Int32) u).bind (fun y40 => if y40 = (f_X12_magic x1).toInt64 then (k13 (x1 + (1 : Int32)) u) else (some (2 : Int32))))
set_option maxRecDepth 100000 in
set_option maxHeartbeats 4000000 in
theorem b_X12_errorOf_b13_s {p : Program} {l : Launch} {e : Env} {s : State} {m : MethodId} {args : Array Value} {below : List Frame} {meth : Method} {c : Code} {D : va_G} {cy : ClassId × ClassId × ClassId} {ad : Nat → Nat} {A : Nat → Prop} (E : CallFix p m c cX12_errorOf 12 s args gw RX12) (hr : meth.sig.returnType = some .int) (hlk : meth.locks = false) {k13 : Int32 → St → Option (Int32)} (hk13 : ∀ (x1 : Int32) (u : St) (r : Int32), k13 x1 u = some r → ∀ (ls : Array Slot) (H : Heap) (locs : List Loc) (rr : Nat → Nat), lv_has ls 12 [(0, .ref (ad 0)), (1, .int x1)] → WX (wM cy ad) D cy rr u A s H locs → Wx (wM cy ad) D p l e 2 50 0 s m args below meth c A u (some (.int r)) H locs 0 13 ls []) {x1 : Int32} {u : St} {r : Int32} (h : f_X12_errorOf_b13_s k13 x1 u = some r) {ls : Array Slot} {H : Heap} {locs : List Loc} {rr : Nat → Nat} (hl : lv_has ls 12 [(0, .ref (ad 0)), (1, .int x1)]) (w : WX (wM cy ad) D cy rr u A s H locs) : Wx (wM cy ad) D p l e 2 50 0 s m args below meth c A u (some (.int r)) H locs 0 13 ls [] := by
  have hx := E.1
  have hb := E.2.1
  have hown := E.2.2.2.1
  have hts := E.2.2.2.2
  refine lv_iload_n hx hb (dq da_X12_errorOf 8 rfl) rfl (lv_at hl 1 rfl) ?_
  refine lv_bipush (v := 7) hx hb (dq da_X12_errorOf 9 rfl) rfl ?_
  refine lv_icmp_ge (tgt := 43) hx hb (dq da_X12_errorOf 10 rfl) (by decide) (fun c2 => ?_) (fun c2 => ?_)
  · have h := it c2 h
    refine lv_aload_n hx hb (dq da_X12_errorOf 25 rfl) rfl (lv_at hl 0 rfl) ?_
    refine lv_ldc2 hx hb hown (hts _ w_1268) (dq da_X12_errorOf 26 rfl) ?_
    refine lv_iconst (v := 2) hx hb (dq da_X12_errorOf 27 rfl) rfl ?_
    obtain ⟨y3, hy4, h⟩ := ob h
    refine cV1 E (c_X12_number l D cy ad _ _ _ hy4) w_1260 w_1262 w_p43 w_10 w_1263 rfl hd_X12_number rfl hl.1 rfl (Nat.le_of_ble_eq_true rfl) ⟨Nat.le_of_ble_eq_true rfl, Nat.le_of_ble_eq_true rfl⟩ (by decide) w (rc_wM_0 w) (dq da_X12_errorOf 28 rfl) (fun H locs rr w => ?_)
    refine lv_ldc2 hx hb hown (hts _ w_1269) (dq da_X12_errorOf 29 rfl) ?_
    refine lc_ne (tgt := 86) hx hb (dq da_X12_errorOf 30 rfl) (dq da_X12_errorOf 31 rfl) (by decide) (fun c5 => ?_) (fun c5 => ?_)
    · have h := ie c5 h
      exact b_X12_errorOf_b86 E hr hlk h (lv_sub hl [] rfl) w
    · have h := it c5 h
      refine lv_aload_n hx hb (dq da_X12_errorOf 32 rfl) rfl (lv_at hl 0 rfl) ?_
      refine lv_ldc2 hx hb hown (hts _ w_1270) (dq da_X12_errorOf 33 rfl) ?_
      refine lv_iconst (v := 2) hx hb (dq da_X12_errorOf 34 rfl) rfl ?_
      obtain ⟨y6, hy7, h⟩ := ob h
      refine cV1 E (c_X12_number l D cy ad _ _ _ hy7) w_1260 w_1262 w_p43 w_10 w_1263 rfl hd_X12_number rfl hl.1 rfl (Nat.le_of_ble_eq_true rfl) ⟨Nat.le_of_ble_eq_true rfl, Nat.le_of_ble_eq_true rfl⟩ (by decide) w (rc_wM_0 w) (dq da_X12_errorOf 35 rfl) (fun H locs rr w => ?_)
      refine lv_ldc2 hx hb hown (hts _ w_1271) (dq da_X12_errorOf 36 rfl) ?_
      refine lc_ne (tgt := 86) hx hb (dq da_X12_errorOf 37 rfl) (dq da_X12_errorOf 38 rfl) (by decide) (fun c8 => ?_) (fun c8 => ?_)
      · have h := ie c8 h
        exact b_X12_errorOf_b86 E hr hlk h (lv_sub hl [] rfl) w
      · have h := it c8 h
        refine lv_aload_n hx hb (dq da_X12_errorOf 39 rfl) rfl (lv_at hl 0 rfl) ?_
        refine lv_ldc2 hx hb hown (hts _ w_1272) (dq da_X12_errorOf 40 rfl) ?_
        refine lv_iconst (v := 4) hx hb (dq da_X12_errorOf 41 rfl) rfl ?_
        obtain ⟨y9, hy10, h⟩ := ob h
        refine cV1 E (c_X12_number l D cy ad _ _ _ hy10) w_1260 w_1262 w_p43 w_10 w_1263 rfl hd_X12_number rfl hl.1 rfl (Nat.le_of_ble_eq_true rfl) ⟨Nat.le_of_ble_eq_true rfl, Nat.le_of_ble_eq_true rfl⟩ (by decide) w (rc_wM_0 w) (dq da_X12_errorOf 42 rfl) (fun H locs rr w => ?_)
        refine lv_lconst (v := 1) hx hb (dq da_X12_errorOf 43 rfl) rfl ?_
        refine lc_eq (tgt := 88) hx hb (dq da_X12_errorOf 44 rfl) (dq da_X12_errorOf 45 rfl) (by decide) (fun c11 => ?_) (fun c11 => ?_)
        · have h := it c11 h
          refine lv_aload_n hx hb (dq da_X12_errorOf 48 rfl) rfl (lv_at hl 0 rfl) ?_
          refine lv_ldc2 hx hb hown (hts _ w_1273) (dq da_X12_errorOf 49 rfl) ?_
          refine lv_iconst (v := 2) hx hb (dq da_X12_errorOf 50 rfl) rfl ?_
          obtain ⟨y12, hy13, h⟩ := ob h
          refine cV1 E (c_X12_number l D cy ad _ _ _ hy13) w_1260 w_1262 w_p43 w_10 w_1263 rfl hd_X12_number rfl hl.1 rfl (Nat.le_of_ble_eq_true rfl) ⟨Nat.le_of_ble_eq_true rfl, Nat.le_of_ble_eq_true rfl⟩ (by decide) w (rc_wM_0 w) (dq da_X12_errorOf 51 rfl) (fun H locs rr w => ?_)
          refine lv_lstore_n (lv' := [(1, .long y12), (0, .ref (ad 0))]) hx hb (dq da_X12_errorOf 52 rfl) rfl hl (by decide) rfl (fun ls hl => ?_)
          refine lv_aload_n hx hb (dq da_X12_errorOf 53 rfl) rfl (lv_at hl 1 rfl) ?_
          refine lv_ldc2 hx hb hown (hts _ w_1274) (dq da_X12_errorOf 54 rfl) ?_
          refine lv_iconst (v := 2) hx hb (dq da_X12_errorOf 55 rfl) rfl ?_
          obtain ⟨y14, hy15, h⟩ := ob h
          refine cV1 E (c_X12_number l D cy ad _ _ _ hy15) w_1260 w_1262 w_p43 w_10 w_1263 rfl hd_X12_number rfl hl.1 rfl (Nat.le_of_ble_eq_true rfl) ⟨Nat.le_of_ble_eq_true rfl, Nat.le_of_ble_eq_true rfl⟩ (by decide) w (rc_wM_0 w) (dq da_X12_errorOf 56 rfl) (fun H locs rr w => ?_)
          refine lv_ldc2 hx hb hown (hts _ w_1273) (dq da_X12_errorOf 57 rfl) ?_
          refine lc_ne (tgt := 123) hx hb (dq da_X12_errorOf 58 rfl) (dq da_X12_errorOf 59 rfl) (by decide) (fun c16 => ?_) (fun c16 => ?_)
          · have h := ie c16 h
            exact b_X12_errorOf_b123 E hr hlk h (lv_sub hl [] rfl) w
          · have h := it c16 h
            refine lv_lload_n hx hb (dq da_X12_errorOf 60 rfl) rfl (lv_at hl 0 rfl) ?_
            refine lv_lconst (v := 1) hx hb (dq da_X12_errorOf 61 rfl) rfl ?_
            refine lv_ldc2 hx hb hown (hts _ w_1268) (dq da_X12_errorOf 62 rfl) ?_
            refine callP E (c_X12_in l _ _ _ ) w_1275 w_1276 w_10 w_1277 hd_X12_in rfl hl.1 rfl (Nat.le_of_ble_eq_true rfl) ⟨Nat.le_of_ble_eq_true rfl, Nat.le_of_ble_eq_true rfl⟩ (by decide) (dq da_X12_errorOf 63 rfl) ?_
            refine lv_if_ne (tgt := 125) hx hb (dq da_X12_errorOf 64 rfl) (by decide) (fun c17 => ?_) (fun c17 => ?_)
            · have h := ie c17 h
              refine lv_aload_n hx hb (dq da_X12_errorOf 67 rfl) rfl (lv_at hl 1 rfl) ?_
              refine lv_ldc2 hx hb hown (hts _ w_1278) (dq da_X12_errorOf 68 rfl) ?_
              refine lv_bipush (v := 8) hx hb (dq da_X12_errorOf 69 rfl) rfl ?_
              obtain ⟨y18, hy19, h⟩ := ob h
              refine cV1 E (c_X12_number l D cy ad _ _ _ hy19) w_1260 w_1262 w_p43 w_10 w_1263 rfl hd_X12_number rfl hl.1 rfl (Nat.le_of_ble_eq_true rfl) ⟨Nat.le_of_ble_eq_true rfl, Nat.le_of_ble_eq_true rfl⟩ (by decide) w (rc_wM_0 w) (dq da_X12_errorOf 70 rfl) (fun H locs rr w => ?_)
              refine lv_lstore_n (lv' := [(3, .long y18), (1, .long y12), (0, .ref (ad 0))]) hx hb (dq da_X12_errorOf 71 rfl) rfl hl (by decide) rfl (fun ls hl => ?_)
              refine lv_lload_n hx hb (dq da_X12_errorOf 72 rfl) rfl (lv_at hl 0 rfl) ?_
              refine lv_ldc2 hx hb hown (hts _ w_1273) (dq da_X12_errorOf 73 rfl) ?_
              refine lv_lload_n hx hb (dq da_X12_errorOf 74 rfl) rfl (lv_at hl 1 rfl) ?_
              refine lv_lmul hx hb (dq da_X12_errorOf 75 rfl) ?_
              refine lv_aload_n hx hb (dq da_X12_errorOf 76 rfl) rfl (lv_at hl 2 rfl) ?_
              refine gt_wM_0_taped E w w_1106 (dq da_X12_errorOf 77 rfl) ?_
              refine lv_i2l (v := (gI u 8).toInt64) hx hb (dq da_X12_errorOf 78 rfl) rfl ?_
              refine callP E (c_X12_lies l _ _ _ ) w_1279 w_1280 w_10 w_1281 hd_X12_lies rfl hl.1 rfl (Nat.le_of_ble_eq_true rfl) ⟨Nat.le_of_ble_eq_true rfl, Nat.le_of_ble_eq_true rfl⟩ (by decide) (dq da_X12_errorOf 79 rfl) ?_
              refine lv_if_ne (tgt := 154) hx hb (dq da_X12_errorOf 80 rfl) (by decide) (fun c20 => ?_) (fun c20 => ?_)
              · have h := ie c20 h
                refine lv_iconst (v := 0) hx hb (dq da_X12_errorOf 83 rfl) rfl ?_
                refine lv_istore (lv' := [(5, .int (0 : Int32)), (3, .long y18), (1, .long y12), (0, .ref (ad 0))]) hx hb (dq da_X12_errorOf 84 rfl) hl (by decide) rfl (fun ls hl => ?_)
                exact b_X12_errorOf_b157 E hr hlk FU _ _ _ _ _ h ls _ _ _ (lv_sub hl [3, 2, 1, 0] rfl) w
              · have h := it c20 h
                refine lv_iconst (v := 5) hx hb (dq da_X12_errorOf 81 rfl) rfl ?_
                exact xret_i E hr hlk w (by decide) (os h) rfl (dq da_X12_errorOf 82 rfl)
            · have h := it c17 h
              exact b_X12_errorOf_b123 E hr hlk h (lv_sub hl [] rfl) w
        · have h := ie c11 h
          exact b_X12_errorOf_b86 E hr hlk h (lv_sub hl [] rfl) w
  · have h := ie c2 h
    refine lv_aload_n hx hb (dq da_X12_errorOf 11 rfl) rfl (lv_at hl 0 rfl) ?_
    refine lv_iload_n hx hb (dq da_X12_errorOf 12 rfl) rfl (lv_at hl 1 rfl) ?_
    refine lv_i2l (v := x1.toInt64) hx hb (dq da_X12_errorOf 13 rfl) rfl ?_
    refine lv_iconst (v := 1) hx hb (dq da_X12_errorOf 14 rfl) rfl ?_
    obtain ⟨y40, hy41, h⟩ := ob h
    refine cV1 E (c_X12_number l D cy ad _ _ _ hy41) w_1260 w_1262 w_p43 w_10 w_1263 rfl hd_X12_number rfl hl.1 rfl (Nat.le_of_ble_eq_true rfl) ⟨Nat.le_of_ble_eq_true rfl, Nat.le_of_ble_eq_true rfl⟩ (by decide) w (rc_wM_0 w) (dq da_X12_errorOf 15 rfl) (fun H locs rr w => ?_)
    refine lv_iload_n hx hb (dq da_X12_errorOf 16 rfl) rfl (lv_at hl 1 rfl) ?_
    refine callP E (c_X12_magic l _ ) w_1265 w_1266 w_10 w_1267 hd_X12_magic rfl hl.1 rfl (Nat.le_of_ble_eq_true rfl) ⟨Nat.le_of_ble_eq_true rfl, Nat.le_of_ble_eq_true rfl⟩ (by decide) (dq da_X12_errorOf 17 rfl) ?_
    refine lv_i2l (v := (f_X12_magic x1).toInt64) hx hb (dq da_X12_errorOf 18 rfl) rfl ?_
    refine lc_eq (tgt := 37) hx hb (dq da_X12_errorOf 19 rfl) (dq da_X12_errorOf 20 rfl) (by decide) (fun c42 => ?_) (fun c42 => ?_)
    · have h := it c42 h
      refine lv_iinc (v := (x1 + (1 : Int32))) (lv' := [(1, .int (x1 + (1 : Int32))), (0, .ref (ad 0))]) hx hb (dq da_X12_errorOf 23 rfl) hl (k := 1) rfl rfl (by decide) rfl (fun ls hl => ?_)
      refine lv_goto (tgt := 13) hx hb (dq da_X12_errorOf 24 rfl) (by decide) ?_
      exact hk13 _ _ _ h ls _ _ _ (lv_sub hl [1, 0] rfl) w
    · have h := ie c42 h
      refine lv_iconst (v := 2) hx hb (dq da_X12_errorOf 21 rfl) rfl ?_
      exact xret_i E hr hlk w (by decide) (os h) rfl (dq da_X12_errorOf 22 rfl)
def f_X12_errorOf_b13 : Nat → Int32 → St → Option (Int32)
  | 0 => fun _ _ => none
  | n + 1 => f_X12_errorOf_b13_s (f_X12_errorOf_b13 n)
theorem b_X12_errorOf_b13 {p : Program} {l : Launch} {e : Env} {s : State} {m : MethodId} {args : Array Value} {below : List Frame} {meth : Method} {c : Code} {D : va_G} {cy : ClassId × ClassId × ClassId} {ad : Nat → Nat} {A : Nat → Prop} (E : CallFix p m c cX12_errorOf 12 s args gw RX12) (hr : meth.sig.returnType = some .int) (hlk : meth.locks = false) : ∀ n : Nat, ∀ (x1 : Int32) (u : St) (r : Int32), f_X12_errorOf_b13 n x1 u = some r → ∀ (ls : Array Slot) (H : Heap) (locs : List Loc) (rr : Nat → Nat), lv_has ls 12 [(0, .ref (ad 0)), (1, .int x1)] → WX (wM cy ad) D cy rr u A s H locs → Wx (wM cy ad) D p l e 2 50 0 s m args below meth c A u (some (.int r)) H locs 0 13 ls [] := by
  intro n
  induction n with
  | zero => intro x1 u r h; cases h
  | succ n ih => intro x1 u r h ls H locs rr hl w; exact b_X12_errorOf_b13_s E hr hlk ih h hl w
def f_X12_errorOf (u : St) : Option (Int32) := if (64 : Int32) ≤ (gI u 8) then (f_X12_errorOf_b13 FU (0 : Int32) u) else (some (1 : Int32))
set_option maxRecDepth 100000 in
set_option maxHeartbeats 4000000 in
theorem c_X12_errorOf (l : Launch) (D : va_G) (cy : ClassId × ClassId × ClassId) (ad : Nat → Nat) (u : St) {r : Int32} (h : f_X12_errorOf u = some r) : MX (wM cy ad) D cy l yX12_errorOf cX12_errorOf 12 (some .int) 2 50 0 [.ref (ad 0)] u u (some (.int (r))) := by
  refine entX (by decide +kernel) (Nat.le_of_ble_eq_true rfl) ?_
  intro p e s m args below meth c ls rr A E hr hlk hl w
  have hl : lv_has ls 12 [(0, .ref (ad 0))] := hl
  have hx := E.1
  have hb := E.2.1
  have hown := E.2.2.2.1
  have hts := E.2.2.2.2
  refine lv_aload_n hx hb (dq da_X12_errorOf 0 rfl) rfl (lv_at hl 0 rfl) ?_
  refine gt_wM_0_taped E w w_1106 (dq da_X12_errorOf 1 rfl) ?_
  refine lv_bipush (v := 64) hx hb (dq da_X12_errorOf 2 rfl) rfl ?_
  refine lv_icmp_ge (tgt := 11) hx hb (dq da_X12_errorOf 3 rfl) (by decide) (fun c1 => ?_) (fun c1 => ?_)
  · have h := it c1 h
    refine lv_iconst (v := 0) hx hb (dq da_X12_errorOf 6 rfl) rfl ?_
    refine lv_istore_n (lv' := [(1, .int (0 : Int32)), (0, .ref (ad 0))]) hx hb (dq da_X12_errorOf 7 rfl) rfl hl (by decide) rfl (fun ls hl => ?_)
    exact b_X12_errorOf_b13 E hr hlk FU _ _ _ h ls _ _ _ (lv_sub hl [1, 0] rfl) w
  · have h := ie c1 h
    refine lv_iconst (v := 1) hx hb (dq da_X12_errorOf 4 rfl) rfl ?_
    exact xret_i E hr hlk w (by decide) (os h) rfl (dq da_X12_errorOf 5 rfl)
def dl_X12_load : List (Nat × Instr × Nat) := [(0, .aload_n 0, 1), (1, .iconst 0, 1), (2, .putfield 62, 3), (5, .aload_n 0, 1), (6, .invokevirtual 584, 3), (9, .istore_n 1, 1), (10, .iload_n 1, 1), (11, .ifCond .le 5, 3), (14, .iload_n 1, 1), (15, .ireturn, 1), (16, .aload_n 0, 1), (17, .ldc2_w 440, 3), (20, .bipush 8, 2), (22, .invokevirtual 561, 3), (25, .lstore_n 2, 1), (26, .iconst 0, 1), (27, .istore 4, 2), (29, .iload 4, 2), (31, .i2l, 1), (32, .aload_n 0, 1), (33, .ldc2_w 573, 3), (36, .iconst 2, 1), (37, .invokevirtual 561, 3), (40, .lcmp, 1), (41, .ifCond .ge 148, 3), (44, .lload_n 2, 1), (45, .ldc2_w 573, 3), (48, .iload 4, 2), (50, .i2l, 1), (51, .lmul, 1), (52, .ladd, 1), (53, .lstore 5, 2), (55, .aload_n 0, 1), (56, .lload 5, 2), (58, .iconst 4, 1), (59, .invokevirtual 561, 3), (62, .lconst 1, 1), (63, .lcmp, 1), (64, .ifCond .eq 6, 3), (67, .goto 116, 3), (70, .aload_n 0, 1), (71, .lload 5, 2), (73, .ldc2_w 203, 3), (76, .ladd, 1), (77, .bipush 8, 2), (79, .invokevirtual 561, 3), (82, .lstore 7, 2), (84, .aload_n 0, 1), (85, .lload 5, 2), (87, .ldc2_w 440, 3), (90, .ladd, 1), (91, .bipush 8, 2), (93, .invokevirtual 561, 3), (96, .lstore 9, 2), (98, .aload_n 0, 1), (99, .lload 5, 2), (101, .ldc2_w 582, 3), (104, .ladd, 1), (105, .bipush 8, 2), (107, .invokevirtual 561, 3), (110, .ldc2_w 18, 3), (113, .lsub, 1), (114, .l2i, 1), (115, .istore 11, 2), (117, .aload_n 0, 1), (118, .lload 5, 2), (120, .ldc2_w 580, 3), (123, .ladd, 1), (124, .bipush 8, 2), (126, .invokevirtual 561, 3), (129, .lstore 12, 2), (131, .iconst 0, 1), (132, .istore 14, 2), (134, .iload 14, 2), (136, .i2l, 1), (137, .lload 12, 2), (139, .lcmp, 1), (140, .ifCond .ge 43, 3), (143, .aload_n 0, 1), (144, .getfield 8, 3), (147, .iload 11, 2), (149, .iload 14, 2), (151, .iadd, 1), (152, .iload 14, 2), (154, .i2l, 1), (155, .lload 9, 2), (157, .lcmp, 1), (158, .ifCond .ge 17, 3), (161, .aload_n 0, 1), (162, .getfield 44, 3), (165, .lload 7, 2), (167, .l2i, 1), (168, .iload 14, 2), (170, .iadd, 1), (171, .baload, 1), (172, .goto 4, 3), (175, .iconst 0, 1), (176, .bastore, 1), (177, .iinc 14 1, 3), (180, .goto (-46), 3), (183, .iinc 4 1, 3), (186, .goto (-157), 3), (189, .aload_n 0, 1), (190, .aload_n 0, 1), (191, .ldc2_w 582, 3), (194, .bipush 8, 2), (196, .invokevirtual 561, 3), (199, .putfield 20, 3), (202, .aload_n 0, 1), (203, .iconst 3, 1), (204, .putfield 24, 3), (207, .aload_n 0, 1), (208, .iconst 0, 1), (209, .putfield 170, 3), (212, .iconst 0, 1), (213, .ireturn, 1)]
theorem da_X12_load : dkL cX12_load dl_X12_load = true := by decide +kernel
def f_X12_load_b183 (k29 : Int64 → Int32 → St → Option (Int32 × St)) (x2 : Int64) (x4 : Int32) (u : St) : Option (Int32 × St) := k29 x2 (x4 + (1 : Int32)) u
set_option maxRecDepth 100000 in
set_option maxHeartbeats 4000000 in
theorem b_X12_load_b183 {p : Program} {l : Launch} {e : Env} {s : State} {m : MethodId} {args : Array Value} {below : List Frame} {meth : Method} {c : Code} {D : va_G} {cy : ClassId × ClassId × ClassId} {ad : Nat → Nat} {A : Nat → Prop} (E : CallFix p m c cX12_load 15 s args gw RX12) (hr : meth.sig.returnType = some .int) (hlk : meth.locks = false) {k29 : Int64 → Int32 → St → Option (Int32 × St)} (hk29 : ∀ (x2 : Int64) (x4 : Int32) (u : St) (r : Int32) (u' : St), k29 x2 x4 u = some (r, u') → ∀ (ls : Array Slot) (H : Heap) (locs : List Loc) (rr : Nat → Nat), lv_has ls 15 [(0, .ref (ad 0)), (2, .long x2), (4, .int x4)] → WX (wM cy ad) D cy rr u A s H locs → Wx (wM cy ad) D p l e 3 81 0 s m args below meth c A u' (some (.int r)) H locs 0 29 ls []) {x2 : Int64} {x4 : Int32} {u : St} {r : Int32} {u' : St} (h : f_X12_load_b183 k29 x2 x4 u = some (r, u')) {ls : Array Slot} {H : Heap} {locs : List Loc} {rr : Nat → Nat} (hl : lv_has ls 15 [(0, .ref (ad 0)), (2, .long x2), (4, .int x4)]) (w : WX (wM cy ad) D cy rr u A s H locs) : Wx (wM cy ad) D p l e 3 81 0 s m args below meth c A u' (some (.int r)) H locs 0 183 ls [] := by
  have hx := E.1
  have hb := E.2.1
  have hown := E.2.2.2.1
  have hts := E.2.2.2.2
  refine lv_iinc (v := (x4 + (1 : Int32))) (lv' := [(4, .int (x4 + (1 : Int32))), (0, .ref (ad 0)), (2, .long x2)]) hx hb (dq da_X12_load 100 rfl) hl (k := 2) rfl rfl (by decide) rfl (fun ls hl => ?_)
  refine lv_goto (tgt := 29) hx hb (dq da_X12_load 101 rfl) (by decide) ?_
  exact hk29 _ _ _ _ _ h ls _ _ _ (lv_sub hl [1, 2, 0] rfl) w
def f_X12_load_b176 (k29 : Int64 → Int32 → St → Option (Int32 × St)) (k134 : Int64 → Int32 → Int64 → Int64 → Int32 → Int64 → Int32 → St → Option (Int32 × St)) (x2 : Int64) (x4 : Int32) (x7 : Int64) (x9 : Int64) (x11 : Int32) (x12 : Int64) (x14 : Int32) (s0 : Int32) (s1 : Int32) (u : St) : Option (Int32 × St) := if inB s1 (gN u 0) then (k134 x2 x4 x7 x9 x11 x12 (x14 + (1 : Int32)) (sA u 0 s1.toNatClampNeg (vp_nar .byte s0))) else none
set_option maxRecDepth 100000 in
set_option maxHeartbeats 4000000 in
theorem b_X12_load_b176 {p : Program} {l : Launch} {e : Env} {s : State} {m : MethodId} {args : Array Value} {below : List Frame} {meth : Method} {c : Code} {D : va_G} {cy : ClassId × ClassId × ClassId} {ad : Nat → Nat} {A : Nat → Prop} (E : CallFix p m c cX12_load 15 s args gw RX12) (hr : meth.sig.returnType = some .int) (hlk : meth.locks = false) {k29 : Int64 → Int32 → St → Option (Int32 × St)} {k134 : Int64 → Int32 → Int64 → Int64 → Int32 → Int64 → Int32 → St → Option (Int32 × St)} (hk29 : ∀ (x2 : Int64) (x4 : Int32) (u : St) (r : Int32) (u' : St), k29 x2 x4 u = some (r, u') → ∀ (ls : Array Slot) (H : Heap) (locs : List Loc) (rr : Nat → Nat), lv_has ls 15 [(0, .ref (ad 0)), (2, .long x2), (4, .int x4)] → WX (wM cy ad) D cy rr u A s H locs → Wx (wM cy ad) D p l e 3 81 0 s m args below meth c A u' (some (.int r)) H locs 0 29 ls []) (hk134 : ∀ (x2 : Int64) (x4 : Int32) (x7 : Int64) (x9 : Int64) (x11 : Int32) (x12 : Int64) (x14 : Int32) (u : St) (r : Int32) (u' : St), k134 x2 x4 x7 x9 x11 x12 x14 u = some (r, u') → ∀ (ls : Array Slot) (H : Heap) (locs : List Loc) (rr : Nat → Nat), lv_has ls 15 [(0, .ref (ad 0)), (2, .long x2), (4, .int x4), (7, .long x7), (9, .long x9), (11, .int x11), (12, .long x12), (14, .int x14)] → WX (wM cy ad) D cy rr u A s H locs → Wx (wM cy ad) D p l e 3 81 0 s m args below meth c A u' (some (.int r)) H locs 0 134 ls []) {x2 : Int64} {x4 : Int32} {x7 : Int64} {x9 : Int64} {x11 : Int32} {x12 : Int64} {x14 : Int32} {s0 : Int32} {s1 : Int32} {u : St} {r : Int32} {u' : St} (h : f_X12_load_b176 k29 k134 x2 x4 x7 x9 x11 x12 x14 s0 s1 u = some (r, u')) {ls : Array Slot} {H : Heap} {locs : List Loc} {rr : Nat → Nat} (hl : lv_has ls 15 [(0, .ref (ad 0)), (2, .long x2), (4, .int x4), (7, .long x7), (9, .long x9), (11, .int x11), (12, .long x12), (14, .int x14)]) (w : WX (wM cy ad) D cy rr u A s H locs) : Wx (wM cy ad) D p l e 3 81 0 s m args below meth c A u' (some (.int r)) H locs 0 176 ls [.int s0, .int s1, .ref (ad 1)] := by
  have hx := E.1
  have hb := E.2.1
  have hown := E.2.2.2.1
  have hts := E.2.2.2.2
  obtain ⟨hi24, h⟩ := oi h
  refine ast_wM_1 E w hi24 (dq da_X12_load 97 rfl) (fun H locs w => ?_)
  refine lv_iinc (v := (x14 + (1 : Int32))) (lv' := [(14, .int (x14 + (1 : Int32))), (0, .ref (ad 0)), (2, .long x2), (4, .int x4), (7, .long x7), (9, .long x9), (11, .int x11), (12, .long x12)]) hx hb (dq da_X12_load 98 rfl) hl (k := 7) rfl rfl (by decide) rfl (fun ls hl => ?_)
  refine lv_goto (tgt := 134) hx hb (dq da_X12_load 99 rfl) (by decide) ?_
  exact hk134 _ _ _ _ _ _ _ _ _ _ h ls _ _ _ (lv_sub hl [1, 2, 3, 4, 5, 6, 7, 0] rfl) w
def f_X12_load_b134_s (k29 : Int64 → Int32 → St → Option (Int32 × St)) (k134 : Int64 → Int32 → Int64 → Int64 → Int32 → Int64 → Int32 → St → Option (Int32 × St)) (x2 : Int64) (x4 : Int32) (x7 : Int64) (x9 : Int64) (x11 : Int32) (x12 : Int64) (x14 : Int32) (u : St) : Option (Int32 × St) := if x12 ≤ x14.toInt64 then (f_X12_load_b183 k29 x2 x4 u) else (if x9 ≤ x14.toInt64 then (f_X12_load_b176 k29 k134 x2 x4 x7 x9 x11 x12 x14 (0 : Int32) (x11 + x14) u) else (if inB (x7.toInt32 + x14) (gN u 5) then (f_X12_load_b176 k29 k134 x2 x4 x7 x9 x11 x12 x14 (gA u 4 (x7.toInt32 + x14).toNatClampNeg) (x11 + x14) u) else none))
set_option maxRecDepth 100000 in
set_option maxHeartbeats 4000000 in
theorem b_X12_load_b134_s {p : Program} {l : Launch} {e : Env} {s : State} {m : MethodId} {args : Array Value} {below : List Frame} {meth : Method} {c : Code} {D : va_G} {cy : ClassId × ClassId × ClassId} {ad : Nat → Nat} {A : Nat → Prop} (E : CallFix p m c cX12_load 15 s args gw RX12) (hr : meth.sig.returnType = some .int) (hlk : meth.locks = false) {k29 : Int64 → Int32 → St → Option (Int32 × St)} {k134 : Int64 → Int32 → Int64 → Int64 → Int32 → Int64 → Int32 → St → Option (Int32 × St)} (hk29 : ∀ (x2 : Int64) (x4 : Int32) (u : St) (r : Int32) (u' : St), k29 x2 x4 u = some (r, u') → ∀ (ls : Array Slot) (H : Heap) (locs : List Loc) (rr : Nat → Nat), lv_has ls 15 [(0, .ref (ad 0)), (2, .long x2), (4, .int x4)] → WX (wM cy ad) D cy rr u A s H locs → Wx (wM cy ad) D p l e 3 81 0 s m args below meth c A u' (some (.int r)) H locs 0 29 ls []) (hk134 : ∀ (x2 : Int64) (x4 : Int32) (x7 : Int64) (x9 : Int64) (x11 : Int32) (x12 : Int64) (x14 : Int32) (u : St) (r : Int32) (u' : St), k134 x2 x4 x7 x9 x11 x12 x14 u = some (r, u') → ∀ (ls : Array Slot) (H : Heap) (locs : List Loc) (rr : Nat → Nat), lv_has ls 15 [(0, .ref (ad 0)), (2, .long x2), (4, .int x4), (7, .long x7), (9, .long x9), (11, .int x11), (12, .long x12), (14, .int x14)] → WX (wM cy ad) D cy rr u A s H locs → Wx (wM cy ad) D p l e 3 81 0 s m args below meth c A u' (some (.int r)) H locs 0 134 ls []) {x2 : Int64} {x4 : Int32} {x7 : Int64} {x9 : Int64} {x11 : Int32} {x12 : Int64} {x14 : Int32} {u : St} {r : Int32} {u' : St} (h : f_X12_load_b134_s k29 k134 x2 x4 x7 x9 x11 x12 x14 u = some (r, u')) {ls : Array Slot} {H : Heap} {locs : List Loc} {rr : Nat → Nat} (hl : lv_has ls 15 [(0, .ref (ad 0)), (2, .long x2), (4, .int x4), (7, .long x7), (9, .long x9), (11, .int x11), (12, .long x12), (14, .int x14)]) (w : WX (wM cy ad) D cy rr u A s H locs) : Wx (wM cy ad) D p l e 3 81 0 s m args below meth c A u' (some (.int r)) H locs 0 134 ls [] := by
  have hx := E.1
  have hb := E.2.1
  have hown := E.2.2.2.1
  have hts := E.2.2.2.2
  refine lv_iload hx hb (dq da_X12_load 73 rfl) (lv_at hl 7 rfl) ?_
  refine lv_i2l (v := x14.toInt64) hx hb (dq da_X12_load 74 rfl) rfl ?_
  refine lv_lload hx hb (dq da_X12_load 75 rfl) (lv_at hl 6 rfl) ?_
  refine lc_ge (tgt := 183) hx hb (dq da_X12_load 76 rfl) (dq da_X12_load 77 rfl) (by decide) (fun c22 => ?_) (fun c22 => ?_)
  · have h := it c22 h
    exact b_X12_load_b183 E hr hlk hk29 h (lv_sub hl [0, 1, 2] rfl) w
  · have h := ie c22 h
    refine lv_aload_n hx hb (dq da_X12_load 78 rfl) rfl (lv_at hl 0 rfl) ?_
    refine gt_wM_0_ram E w w_1090 (dq da_X12_load 79 rfl) ?_
    refine lv_iload hx hb (dq da_X12_load 80 rfl) (lv_at hl 5 rfl) ?_
    refine lv_iload hx hb (dq da_X12_load 81 rfl) (lv_at hl 7 rfl) ?_
    refine lv_iadd hx hb (dq da_X12_load 82 rfl) ?_
    refine lv_iload hx hb (dq da_X12_load 83 rfl) (lv_at hl 7 rfl) ?_
    refine lv_i2l (v := x14.toInt64) hx hb (dq da_X12_load 84 rfl) rfl ?_
    refine lv_lload hx hb (dq da_X12_load 85 rfl) (lv_at hl 4 rfl) ?_
    refine lc_ge (tgt := 175) hx hb (dq da_X12_load 86 rfl) (dq da_X12_load 87 rfl) (by decide) (fun c23 => ?_) (fun c23 => ?_)
    · have h := it c23 h
      refine lv_iconst (v := 0) hx hb (dq da_X12_load 96 rfl) rfl ?_
      exact b_X12_load_b176 E hr hlk hk29 hk134 h (lv_sub hl [0, 1, 2, 3, 4, 5, 6, 7] rfl) w
    · have h := ie c23 h
      refine lv_aload_n hx hb (dq da_X12_load 88 rfl) rfl (lv_at hl 0 rfl) ?_
      refine gt_wM_0_tape E w w_1105 (dq da_X12_load 89 rfl) ?_
      refine lv_lload hx hb (dq da_X12_load 90 rfl) (lv_at hl 3 rfl) ?_
      refine lv_l2i (v := x7.toInt32) hx hb (dq da_X12_load 91 rfl) rfl ?_
      refine lv_iload hx hb (dq da_X12_load 92 rfl) (lv_at hl 7 rfl) ?_
      refine lv_iadd hx hb (dq da_X12_load 93 rfl) ?_
      obtain ⟨hi25, h⟩ := oi h
      refine ald_wM_6 E w hi25 (dq da_X12_load 94 rfl) ?_
      refine lv_goto (tgt := 176) hx hb (dq da_X12_load 95 rfl) (by decide) ?_
      exact b_X12_load_b176 E hr hlk hk29 hk134 h (lv_sub hl [0, 1, 2, 3, 4, 5, 6, 7] rfl) w
def f_X12_load_b134 (k29 : Int64 → Int32 → St → Option (Int32 × St)) : Nat → Int64 → Int32 → Int64 → Int64 → Int32 → Int64 → Int32 → St → Option (Int32 × St)
  | 0 => fun _ _ _ _ _ _ _ _ => none
  | n + 1 => f_X12_load_b134_s k29 (f_X12_load_b134 k29 n)
theorem b_X12_load_b134 {p : Program} {l : Launch} {e : Env} {s : State} {m : MethodId} {args : Array Value} {below : List Frame} {meth : Method} {c : Code} {D : va_G} {cy : ClassId × ClassId × ClassId} {ad : Nat → Nat} {A : Nat → Prop} (E : CallFix p m c cX12_load 15 s args gw RX12) (hr : meth.sig.returnType = some .int) (hlk : meth.locks = false) {k29 : Int64 → Int32 → St → Option (Int32 × St)} (hk29 : ∀ (x2 : Int64) (x4 : Int32) (u : St) (r : Int32) (u' : St), k29 x2 x4 u = some (r, u') → ∀ (ls : Array Slot) (H : Heap) (locs : List Loc) (rr : Nat → Nat), lv_has ls 15 [(0, .ref (ad 0)), (2, .long x2), (4, .int x4)] → WX (wM cy ad) D cy rr u A s H locs → Wx (wM cy ad) D p l e 3 81 0 s m args below meth c A u' (some (.int r)) H locs 0 29 ls []) : ∀ n : Nat, ∀ (x2 : Int64) (x4 : Int32) (x7 : Int64) (x9 : Int64) (x11 : Int32) (x12 : Int64) (x14 : Int32) (u : St) (r : Int32) (u' : St), f_X12_load_b134 k29 n x2 x4 x7 x9 x11 x12 x14 u = some (r, u') → ∀ (ls : Array Slot) (H : Heap) (locs : List Loc) (rr : Nat → Nat), lv_has ls 15 [(0, .ref (ad 0)), (2, .long x2), (4, .int x4), (7, .long x7), (9, .long x9), (11, .int x11), (12, .long x12), (14, .int x14)] → WX (wM cy ad) D cy rr u A s H locs → Wx (wM cy ad) D p l e 3 81 0 s m args below meth c A u' (some (.int r)) H locs 0 134 ls [] := by
  intro n
  induction n with
  | zero => intro x2 x4 x7 x9 x11 x12 x14 u r u' h; cases h
  | succ n ih => intro x2 x4 x7 x9 x11 x12 x14 u r u' h ls H locs rr hl w; exact b_X12_load_b134_s E hr hlk hk29 ih h hl w
def f_X12_load_b29_s (k29 : Int64 → Int32 → St → Option (Int32 × St)) (x2 : Int64) (x4 : Int32) (u : St) : Option (Int32 × St) := (f_X12_number (56 : Int64) (2 : Int32) u).bind (fun y6 => if y6 ≤ x4.toInt64 then ((f_X12_number (24 : Int64) (8 : Int32) u).bind (fun y9 => some ((0 : Int32), (sI (sI (sL u 0 y9) 2 (3 : Int32)) 3 (0 : Int32))))) else ((f_X12_number (x2 + ((56 : Int64) * x4.toInt64)) (4 : Int32) u).bind (fun y11 => if y11 = (1 : Int64) then ((f_X12_number ((x2 + ((56 : Int64) * x4.toInt64)) + (8 : Int64)) (8 : Int32) u).bind (fun y14 => (f_X12_number ((x2 + ((56 : Int64) * x4.toInt64)) + (32 : Int64)) (8 : Int32) u).bind (fun y16 => (f_X12_number ((x2 + ((56 : Int64) * x4.toInt64)) + (24 : Int64)) (8 : Int32) u).bind (fun y18 => (f_X12_number ((x2 + ((56 : Int64) * x4.toInt64)) + (40 : Int64)) (8 : Int32) u).bind (fun y20 => f_X12_load_b134 k29 FU x2 x4 y14 y16 ((y18 - (2147483648 : Int64)).toInt32) y20 (0 : Int32) u))))) else (f_X12_load_b183 k29 x2 x4 u))))
set_option maxRecDepth 100000 in
set_option maxHeartbeats 4000000 in
theorem b_X12_load_b29_s {p : Program} {l : Launch} {e : Env} {s : State} {m : MethodId} {args : Array Value} {below : List Frame} {meth : Method} {c : Code} {D : va_G} {cy : ClassId × ClassId × ClassId} {ad : Nat → Nat} {A : Nat → Prop} (E : CallFix p m c cX12_load 15 s args gw RX12) (hr : meth.sig.returnType = some .int) (hlk : meth.locks = false) {k29 : Int64 → Int32 → St → Option (Int32 × St)} (hk29 : ∀ (x2 : Int64) (x4 : Int32) (u : St) (r : Int32) (u' : St), k29 x2 x4 u = some (r, u') → ∀ (ls : Array Slot) (H : Heap) (locs : List Loc) (rr : Nat → Nat), lv_has ls 15 [(0, .ref (ad 0)), (2, .long x2), (4, .int x4)] → WX (wM cy ad) D cy rr u A s H locs → Wx (wM cy ad) D p l e 3 81 0 s m args below meth c A u' (some (.int r)) H locs 0 29 ls []) {x2 : Int64} {x4 : Int32} {u : St} {r : Int32} {u' : St} (h : f_X12_load_b29_s k29 x2 x4 u = some (r, u')) {ls : Array Slot} {H : Heap} {locs : List Loc} {rr : Nat → Nat} (hl : lv_has ls 15 [(0, .ref (ad 0)), (2, .long x2), (4, .int x4)]) (w : WX (wM cy ad) D cy rr u A s H locs) : Wx (wM cy ad) D p l e 3 81 0 s m args below meth c A u' (some (.int r)) H locs 0 29 ls [] := by
  have hx := E.1
  have hb := E.2.1
  have hown := E.2.2.2.1
  have hts := E.2.2.2.2
  refine lv_iload hx hb (dq da_X12_load 17 rfl) (lv_at hl 2 rfl) ?_
  refine lv_i2l (v := x4.toInt64) hx hb (dq da_X12_load 18 rfl) rfl ?_
  refine lv_aload_n hx hb (dq da_X12_load 19 rfl) rfl (lv_at hl 0 rfl) ?_
  refine lv_ldc2 hx hb hown (hts _ w_1273) (dq da_X12_load 20 rfl) ?_
  refine lv_iconst (v := 2) hx hb (dq da_X12_load 21 rfl) rfl ?_
  obtain ⟨y6, hy7, h⟩ := ob h
  refine cV1 E (c_X12_number l D cy ad _ _ _ hy7) w_1260 w_1262 w_p43 w_10 w_1263 rfl hd_X12_number rfl hl.1 rfl (Nat.le_of_ble_eq_true rfl) ⟨Nat.le_of_ble_eq_true rfl, Nat.le_of_ble_eq_true rfl⟩ (by decide) w (rc_wM_0 w) (dq da_X12_load 22 rfl) (fun H locs rr w => ?_)
  refine lc_ge (tgt := 189) hx hb (dq da_X12_load 23 rfl) (dq da_X12_load 24 rfl) (by decide) (fun c8 => ?_) (fun c8 => ?_)
  · have h := it c8 h
    refine lv_aload_n hx hb (dq da_X12_load 102 rfl) rfl (lv_at hl 0 rfl) ?_
    refine lv_aload_n hx hb (dq da_X12_load 103 rfl) rfl (lv_at hl 0 rfl) ?_
    refine lv_ldc2 hx hb hown (hts _ w_1284) (dq da_X12_load 104 rfl) ?_
    refine lv_bipush (v := 8) hx hb (dq da_X12_load 105 rfl) rfl ?_
    obtain ⟨y9, hy10, h⟩ := ob h
    refine cV1 E (c_X12_number l D cy ad _ _ _ hy10) w_1260 w_1262 w_p43 w_10 w_1263 rfl hd_X12_number rfl hl.1 rfl (Nat.le_of_ble_eq_true rfl) ⟨Nat.le_of_ble_eq_true rfl, Nat.le_of_ble_eq_true rfl⟩ (by decide) w (rc_wM_0 w) (dq da_X12_load 106 rfl) (fun H locs rr w => ?_)
    refine pt_wM_0_pc E w w_1092 (dq da_X12_load 107 rfl) (fun H locs w => ?_)
    refine lv_aload_n hx hb (dq da_X12_load 108 rfl) rfl (lv_at hl 0 rfl) ?_
    refine lv_iconst (v := 3) hx hb (dq da_X12_load 109 rfl) rfl ?_
    refine pt_wM_0_privilege E w w_1093 (dq da_X12_load 110 rfl) (fun H locs w => ?_)
    refine lv_aload_n hx hb (dq da_X12_load 111 rfl) rfl (lv_at hl 0 rfl) ?_
    refine lv_iconst (v := 0) hx hb (dq da_X12_load 112 rfl) rfl ?_
    refine pt_wM_0_heldSize E w w_1095 (dq da_X12_load 113 rfl) (fun H locs w => ?_)
    refine lv_iconst (v := 0) hx hb (dq da_X12_load 114 rfl) rfl ?_
    exact xret_i E hr hlk w (by decide) (congrArg Prod.fst (os h)) (congrArg Prod.snd (os h)) (dq da_X12_load 115 rfl)
  · have h := ie c8 h
    refine lv_lload_n hx hb (dq da_X12_load 25 rfl) rfl (lv_at hl 1 rfl) ?_
    refine lv_ldc2 hx hb hown (hts _ w_1273) (dq da_X12_load 26 rfl) ?_
    refine lv_iload hx hb (dq da_X12_load 27 rfl) (lv_at hl 2 rfl) ?_
    refine lv_i2l (v := x4.toInt64) hx hb (dq da_X12_load 28 rfl) rfl ?_
    refine lv_lmul hx hb (dq da_X12_load 29 rfl) ?_
    refine lv_ladd hx hb (dq da_X12_load 30 rfl) ?_
    refine lv_lstore (lv' := [(5, .long (x2 + ((56 : Int64) * x4.toInt64))), (0, .ref (ad 0)), (2, .long x2), (4, .int x4)]) hx hb (dq da_X12_load 31 rfl) hl (by decide) rfl (fun ls hl => ?_)
    refine lv_aload_n hx hb (dq da_X12_load 32 rfl) rfl (lv_at hl 1 rfl) ?_
    refine lv_lload hx hb (dq da_X12_load 33 rfl) (lv_at hl 0 rfl) ?_
    refine lv_iconst (v := 4) hx hb (dq da_X12_load 34 rfl) rfl ?_
    obtain ⟨y11, hy12, h⟩ := ob h
    refine cV1 E (c_X12_number l D cy ad _ _ _ hy12) w_1260 w_1262 w_p43 w_10 w_1263 rfl hd_X12_number rfl hl.1 rfl (Nat.le_of_ble_eq_true rfl) ⟨Nat.le_of_ble_eq_true rfl, Nat.le_of_ble_eq_true rfl⟩ (by decide) w (rc_wM_0 w) (dq da_X12_load 35 rfl) (fun H locs rr w => ?_)
    refine lv_lconst (v := 1) hx hb (dq da_X12_load 36 rfl) rfl ?_
    refine lc_eq (tgt := 70) hx hb (dq da_X12_load 37 rfl) (dq da_X12_load 38 rfl) (by decide) (fun c13 => ?_) (fun c13 => ?_)
    · have h := it c13 h
      refine lv_aload_n hx hb (dq da_X12_load 40 rfl) rfl (lv_at hl 1 rfl) ?_
      refine lv_lload hx hb (dq da_X12_load 41 rfl) (lv_at hl 0 rfl) ?_
      refine lv_ldc2 hx hb hown (hts _ w_1283) (dq da_X12_load 42 rfl) ?_
      refine lv_ladd hx hb (dq da_X12_load 43 rfl) ?_
      refine lv_bipush (v := 8) hx hb (dq da_X12_load 44 rfl) rfl ?_
      obtain ⟨y14, hy15, h⟩ := ob h
      refine cV1 E (c_X12_number l D cy ad _ _ _ hy15) w_1260 w_1262 w_p43 w_10 w_1263 rfl hd_X12_number rfl hl.1 rfl (Nat.le_of_ble_eq_true rfl) ⟨Nat.le_of_ble_eq_true rfl, Nat.le_of_ble_eq_true rfl⟩ (by decide) w (rc_wM_0 w) (dq da_X12_load 45 rfl) (fun H locs rr w => ?_)
      refine lv_lstore (lv' := [(7, .long y14), (5, .long (x2 + ((56 : Int64) * x4.toInt64))), (0, .ref (ad 0)), (2, .long x2), (4, .int x4)]) hx hb (dq da_X12_load 46 rfl) hl (by decide) rfl (fun ls hl => ?_)
      refine lv_aload_n hx hb (dq da_X12_load 47 rfl) rfl (lv_at hl 2 rfl) ?_
      refine lv_lload hx hb (dq da_X12_load 48 rfl) (lv_at hl 1 rfl) ?_
      refine lv_ldc2 hx hb hown (hts _ w_1278) (dq da_X12_load 49 rfl) ?_
      refine lv_ladd hx hb (dq da_X12_load 50 rfl) ?_
      refine lv_bipush (v := 8) hx hb (dq da_X12_load 51 rfl) rfl ?_
      obtain ⟨y16, hy17, h⟩ := ob h
      refine cV1 E (c_X12_number l D cy ad _ _ _ hy17) w_1260 w_1262 w_p43 w_10 w_1263 rfl hd_X12_number rfl hl.1 rfl (Nat.le_of_ble_eq_true rfl) ⟨Nat.le_of_ble_eq_true rfl, Nat.le_of_ble_eq_true rfl⟩ (by decide) w (rc_wM_0 w) (dq da_X12_load 52 rfl) (fun H locs rr w => ?_)
      refine lv_lstore (lv' := [(9, .long y16), (7, .long y14), (5, .long (x2 + ((56 : Int64) * x4.toInt64))), (0, .ref (ad 0)), (2, .long x2), (4, .int x4)]) hx hb (dq da_X12_load 53 rfl) hl (by decide) rfl (fun ls hl => ?_)
      refine lv_aload_n hx hb (dq da_X12_load 54 rfl) rfl (lv_at hl 3 rfl) ?_
      refine lv_lload hx hb (dq da_X12_load 55 rfl) (lv_at hl 2 rfl) ?_
      refine lv_ldc2 hx hb hown (hts _ w_1284) (dq da_X12_load 56 rfl) ?_
      refine lv_ladd hx hb (dq da_X12_load 57 rfl) ?_
      refine lv_bipush (v := 8) hx hb (dq da_X12_load 58 rfl) rfl ?_
      obtain ⟨y18, hy19, h⟩ := ob h
      refine cV1 E (c_X12_number l D cy ad _ _ _ hy19) w_1260 w_1262 w_p43 w_10 w_1263 rfl hd_X12_number rfl hl.1 rfl (Nat.le_of_ble_eq_true rfl) ⟨Nat.le_of_ble_eq_true rfl, Nat.le_of_ble_eq_true rfl⟩ (by decide) w (rc_wM_0 w) (dq da_X12_load 59 rfl) (fun H locs rr w => ?_)
      refine lv_ldc2 hx hb hown (hts _ w_1085) (dq da_X12_load 60 rfl) ?_
      refine lv_lsub hx hb (dq da_X12_load 61 rfl) ?_
      refine lv_l2i (v := (y18 - (2147483648 : Int64)).toInt32) hx hb (dq da_X12_load 62 rfl) rfl ?_
      refine lv_istore (lv' := [(11, .int ((y18 - (2147483648 : Int64)).toInt32)), (9, .long y16), (7, .long y14), (5, .long (x2 + ((56 : Int64) * x4.toInt64))), (0, .ref (ad 0)), (2, .long x2), (4, .int x4)]) hx hb (dq da_X12_load 63 rfl) hl (by decide) rfl (fun ls hl => ?_)
      refine lv_aload_n hx hb (dq da_X12_load 64 rfl) rfl (lv_at hl 4 rfl) ?_
      refine lv_lload hx hb (dq da_X12_load 65 rfl) (lv_at hl 3 rfl) ?_
      refine lv_ldc2 hx hb hown (hts _ w_1282) (dq da_X12_load 66 rfl) ?_
      refine lv_ladd hx hb (dq da_X12_load 67 rfl) ?_
      refine lv_bipush (v := 8) hx hb (dq da_X12_load 68 rfl) rfl ?_
      obtain ⟨y20, hy21, h⟩ := ob h
      refine cV1 E (c_X12_number l D cy ad _ _ _ hy21) w_1260 w_1262 w_p43 w_10 w_1263 rfl hd_X12_number rfl hl.1 rfl (Nat.le_of_ble_eq_true rfl) ⟨Nat.le_of_ble_eq_true rfl, Nat.le_of_ble_eq_true rfl⟩ (by decide) w (rc_wM_0 w) (dq da_X12_load 69 rfl) (fun H locs rr w => ?_)
      refine lv_lstore (lv' := [(12, .long y20), (11, .int ((y18 - (2147483648 : Int64)).toInt32)), (9, .long y16), (7, .long y14), (5, .long (x2 + ((56 : Int64) * x4.toInt64))), (0, .ref (ad 0)), (2, .long x2), (4, .int x4)]) hx hb (dq da_X12_load 70 rfl) hl (by decide) rfl (fun ls hl => ?_)
      refine lv_iconst (v := 0) hx hb (dq da_X12_load 71 rfl) rfl ?_
      refine lv_istore (lv' := [(14, .int (0 : Int32)), (12, .long y20), (11, .int ((y18 - (2147483648 : Int64)).toInt32)), (9, .long y16), (7, .long y14), (5, .long (x2 + ((56 : Int64) * x4.toInt64))), (0, .ref (ad 0)), (2, .long x2), (4, .int x4)]) hx hb (dq da_X12_load 72 rfl) hl (by decide) rfl (fun ls hl => ?_)
      exact b_X12_load_b134 E hr hlk hk29 FU _ _ _ _ _ _ _ _ _ _ h ls _ _ _ (lv_sub hl [6, 7, 8, 4, 3, 2, 1, 0] rfl) w
    · have h := ie c13 h
      refine lv_goto (tgt := 183) hx hb (dq da_X12_load 39 rfl) (by decide) ?_
      exact b_X12_load_b183 E hr hlk hk29 h (lv_sub hl [1, 2, 3] rfl) w
def f_X12_load_b29 : Nat → Int64 → Int32 → St → Option (Int32 × St)
  | 0 => fun _ _ _ => none
  | n + 1 => f_X12_load_b29_s (f_X12_load_b29 n)
theorem b_X12_load_b29 {p : Program} {l : Launch} {e : Env} {s : State} {m : MethodId} {args : Array Value} {below : List Frame} {meth : Method} {c : Code} {D : va_G} {cy : ClassId × ClassId × ClassId} {ad : Nat → Nat} {A : Nat → Prop} (E : CallFix p m c cX12_load 15 s args gw RX12) (hr : meth.sig.returnType = some .int) (hlk : meth.locks = false) : ∀ n : Nat, ∀ (x2 : Int64) (x4 : Int32) (u : St) (r : Int32) (u' : St), f_X12_load_b29 n x2 x4 u = some (r, u') → ∀ (ls : Array Slot) (H : Heap) (locs : List Loc) (rr : Nat → Nat), lv_has ls 15 [(0, .ref (ad 0)), (2, .long x2), (4, .int x4)] → WX (wM cy ad) D cy rr u A s H locs → Wx (wM cy ad) D p l e 3 81 0 s m args below meth c A u' (some (.int r)) H locs 0 29 ls [] := by
  intro n
  induction n with
  | zero => intro x2 x4 u r u' h; cases h
  | succ n ih => intro x2 x4 u r u' h ls H locs rr hl w; exact b_X12_load_b29_s E hr hlk ih h hl w
def f_X12_load (u : St) : Option (Int32 × St) := (f_X12_errorOf (sI u 0 (0 : Int32))).bind (fun y1 => if y1 ≤ (0 : Int32) then ((f_X12_number (32 : Int64) (8 : Int32) (sI u 0 (0 : Int32))).bind (fun y4 => f_X12_load_b29 FU y4 (0 : Int32) (sI u 0 (0 : Int32)))) else (some (y1, (sI u 0 (0 : Int32)))))
set_option maxRecDepth 100000 in
set_option maxHeartbeats 4000000 in
theorem c_X12_load (l : Launch) (D : va_G) (cy : ClassId × ClassId × ClassId) (ad : Nat → Nat) (u : St) {r : Int32} {u' : St} (h : f_X12_load u = some (r, u')) : MX (wM cy ad) D cy l yX12_load cX12_load 15 (some .int) 3 81 0 [.ref (ad 0)] u u' (some (.int (r))) := by
  refine entX (by decide +kernel) (Nat.le_of_ble_eq_true rfl) ?_
  intro p e s m args below meth c ls rr A E hr hlk hl w
  have hl : lv_has ls 15 [(0, .ref (ad 0))] := hl
  have hx := E.1
  have hb := E.2.1
  have hown := E.2.2.2.1
  have hts := E.2.2.2.2
  refine lv_aload_n hx hb (dq da_X12_load 0 rfl) rfl (lv_at hl 0 rfl) ?_
  refine lv_iconst (v := 0) hx hb (dq da_X12_load 1 rfl) rfl ?_
  refine pt_wM_0_thrown E w w_1088 (dq da_X12_load 2 rfl) (fun H locs w => ?_)
  refine lv_aload_n hx hb (dq da_X12_load 3 rfl) rfl (lv_at hl 0 rfl) ?_
  obtain ⟨y1, hy2, h⟩ := ob h
  refine cV1 E (c_X12_errorOf l D cy ad _ hy2) w_1256 w_1258 w_p42 w_10 w_1259 rfl hd_X12_errorOf rfl hl.1 rfl (Nat.le_of_ble_eq_true rfl) ⟨Nat.le_of_ble_eq_true rfl, Nat.le_of_ble_eq_true rfl⟩ (by decide) w (rc_wM_0 w) (dq da_X12_load 4 rfl) (fun H locs rr w => ?_)
  refine lv_istore_n (lv' := [(1, .int y1), (0, .ref (ad 0))]) hx hb (dq da_X12_load 5 rfl) rfl hl (by decide) rfl (fun ls hl => ?_)
  refine lv_iload_n hx hb (dq da_X12_load 6 rfl) rfl (lv_at hl 0 rfl) ?_
  refine lv_if_le (tgt := 16) hx hb (dq da_X12_load 7 rfl) (by decide) (fun c3 => ?_) (fun c3 => ?_)
  · have h := it c3 h
    refine lv_aload_n hx hb (dq da_X12_load 10 rfl) rfl (lv_at hl 1 rfl) ?_
    refine lv_ldc2 hx hb hown (hts _ w_1278) (dq da_X12_load 11 rfl) ?_
    refine lv_bipush (v := 8) hx hb (dq da_X12_load 12 rfl) rfl ?_
    obtain ⟨y4, hy5, h⟩ := ob h
    refine cV1 E (c_X12_number l D cy ad _ _ _ hy5) w_1260 w_1262 w_p43 w_10 w_1263 rfl hd_X12_number rfl hl.1 rfl (Nat.le_of_ble_eq_true rfl) ⟨Nat.le_of_ble_eq_true rfl, Nat.le_of_ble_eq_true rfl⟩ (by decide) w (rc_wM_0 w) (dq da_X12_load 13 rfl) (fun H locs rr w => ?_)
    refine lv_lstore_n (lv' := [(2, .long y4), (1, .int y1), (0, .ref (ad 0))]) hx hb (dq da_X12_load 14 rfl) rfl hl (by decide) rfl (fun ls hl => ?_)
    refine lv_iconst (v := 0) hx hb (dq da_X12_load 15 rfl) rfl ?_
    refine lv_istore (lv' := [(4, .int (0 : Int32)), (2, .long y4), (1, .int y1), (0, .ref (ad 0))]) hx hb (dq da_X12_load 16 rfl) hl (by decide) rfl (fun ls hl => ?_)
    exact b_X12_load_b29 E hr hlk FU _ _ _ _ _ h ls _ _ _ (lv_sub hl [3, 1, 0] rfl) w
  · have h := ie c3 h
    refine lv_iload_n hx hb (dq da_X12_load 8 rfl) rfl (lv_at hl 0 rfl) ?_
    exact xret_i E hr hlk w (by decide) (congrArg Prod.fst (os h)) (congrArg Prod.snd (os h)) (dq da_X12_load 9 rfl)
def dl_X12_step : List (Nat × Instr × Nat) := [(0, .aload_n 0, 1), (1, .iload_n 1, 1), (2, .ifCond .lt 10, 3), (5, .iload_n 1, 1), (6, .sipush 4096, 3), (9, .if_icmp .le 7, 3), (12, .iconst 1, 1), (13, .goto 4, 3), (16, .iconst 0, 1), (17, .iconst 1, 1), (18, .invokevirtual 587, 3), (21, .ifCond .eq 5, 3), (24, .iconst 0, 1), (25, .ireturn, 1), (26, .iconst 0, 1), (27, .istore_n 2, 1), (28, .iconst 0, 1), (29, .istore_n 3, 1), (30, .iload_n 3, 1), (31, .iload_n 1, 1), (32, .if_icmp .ge 24, 3), (35, .iload_n 2, 1), (36, .aload_n 0, 1), (37, .invokevirtual 591, 3), (40, .ifCond .eq 7, 3), (43, .iconst 1, 1), (44, .goto 4, 3), (47, .iconst 0, 1), (48, .iadd, 1), (49, .istore_n 2, 1), (50, .iinc 3 1, 3), (53, .goto (-23), 3), (56, .iload_n 2, 1), (57, .ireturn, 1)]
theorem da_X12_step : dkL cX12_step dl_X12_step = true := by decide +kernel
def f_X12_step_b48 (k30 : Int32 → Int32 → Int32 → St → Option (Int32 × St)) (x1 : Int32) (x3 : Int32) (s0 : Int32) (s1 : Int32) (u : St) : Option (Int32 × St) := k30 x1 (s1 + s0) (x3 + (1 : Int32)) u
set_option maxRecDepth 100000 in
set_option maxHeartbeats 4000000 in
theorem b_X12_step_b48 {p : Program} {l : Launch} {e : Env} {s : State} {m : MethodId} {args : Array Value} {below : List Frame} {meth : Method} {c : Code} {D : va_G} {cy : ClassId × ClassId × ClassId} {ad : Nat → Nat} {A : Nat → Prop} (E : CallFix p m c cX12_step 4 s args gw RX12) (hr : meth.sig.returnType = some .int) (hlk : meth.locks = false) {k30 : Int32 → Int32 → Int32 → St → Option (Int32 × St)} (hk30 : ∀ (x1 : Int32) (x2 : Int32) (x3 : Int32) (u : St) (r : Int32) (u' : St), k30 x1 x2 x3 u = some (r, u') → ∀ (ls : Array Slot) (H : Heap) (locs : List Loc) (rr : Nat → Nat), lv_has ls 4 [(0, .ref (ad 0)), (1, .int x1), (2, .int x2), (3, .int x3)] → WX (wM cy ad) D cy rr u A s H locs → Wx (wM cy ad) D p l e 8 211 0 s m args below meth c A u' (some (.int r)) H locs 0 30 ls []) {x1 : Int32} {x3 : Int32} {s0 : Int32} {s1 : Int32} {u : St} {r : Int32} {u' : St} (h : f_X12_step_b48 k30 x1 x3 s0 s1 u = some (r, u')) {ls : Array Slot} {H : Heap} {locs : List Loc} {rr : Nat → Nat} (hl : lv_has ls 4 [(0, .ref (ad 0)), (1, .int x1), (3, .int x3)]) (w : WX (wM cy ad) D cy rr u A s H locs) : Wx (wM cy ad) D p l e 8 211 0 s m args below meth c A u' (some (.int r)) H locs 0 48 ls [.int s0, .int s1] := by
  have hx := E.1
  have hb := E.2.1
  have hown := E.2.2.2.1
  have hts := E.2.2.2.2
  refine lv_iadd hx hb (dq da_X12_step 28 rfl) ?_
  refine lv_istore_n (lv' := [(2, .int (s1 + s0)), (0, .ref (ad 0)), (1, .int x1), (3, .int x3)]) hx hb (dq da_X12_step 29 rfl) rfl hl (by decide) rfl (fun ls hl => ?_)
  refine lv_iinc (v := (x3 + (1 : Int32))) (lv' := [(3, .int (x3 + (1 : Int32))), (2, .int (s1 + s0)), (0, .ref (ad 0)), (1, .int x1)]) hx hb (dq da_X12_step 30 rfl) hl (k := 3) rfl rfl (by decide) rfl (fun ls hl => ?_)
  refine lv_goto (tgt := 30) hx hb (dq da_X12_step 31 rfl) (by decide) ?_
  exact hk30 _ _ _ _ _ _ h ls _ _ _ (lv_sub hl [2, 3, 1, 0] rfl) w
def f_X12_step_b30_s (k30 : Int32 → Int32 → Int32 → St → Option (Int32 × St)) (x1 : Int32) (x2 : Int32) (x3 : Int32) (u : St) : Option (Int32 × St) := if x1 ≤ x3 then (some (x2, u)) else ((f_X12_steps u).bind (fun y6 => if y6.1 = (0 : Int32) then (f_X12_step_b48 k30 x1 x3 (0 : Int32) x2 y6.2) else (f_X12_step_b48 k30 x1 x3 (1 : Int32) x2 y6.2)))
set_option maxRecDepth 100000 in
set_option maxHeartbeats 4000000 in
theorem b_X12_step_b30_s {p : Program} {l : Launch} {e : Env} {s : State} {m : MethodId} {args : Array Value} {below : List Frame} {meth : Method} {c : Code} {D : va_G} {cy : ClassId × ClassId × ClassId} {ad : Nat → Nat} {A : Nat → Prop} (E : CallFix p m c cX12_step 4 s args gw RX12) (hr : meth.sig.returnType = some .int) (hlk : meth.locks = false) {k30 : Int32 → Int32 → Int32 → St → Option (Int32 × St)} (hk30 : ∀ (x1 : Int32) (x2 : Int32) (x3 : Int32) (u : St) (r : Int32) (u' : St), k30 x1 x2 x3 u = some (r, u') → ∀ (ls : Array Slot) (H : Heap) (locs : List Loc) (rr : Nat → Nat), lv_has ls 4 [(0, .ref (ad 0)), (1, .int x1), (2, .int x2), (3, .int x3)] → WX (wM cy ad) D cy rr u A s H locs → Wx (wM cy ad) D p l e 8 211 0 s m args below meth c A u' (some (.int r)) H locs 0 30 ls []) {x1 : Int32} {x2 : Int32} {x3 : Int32} {u : St} {r : Int32} {u' : St} (h : f_X12_step_b30_s k30 x1 x2 x3 u = some (r, u')) {ls : Array Slot} {H : Heap} {locs : List Loc} {rr : Nat → Nat} (hl : lv_has ls 4 [(0, .ref (ad 0)), (1, .int x1), (2, .int x2), (3, .int x3)]) (w : WX (wM cy ad) D cy rr u A s H locs) : Wx (wM cy ad) D p l e 8 211 0 s m args below meth c A u' (some (.int r)) H locs 0 30 ls [] := by
  have hx := E.1
  have hb := E.2.1
  have hown := E.2.2.2.1
  have hts := E.2.2.2.2
  refine lv_iload_n hx hb (dq da_X12_step 18 rfl) rfl (lv_at hl 3 rfl) ?_
  refine lv_iload_n hx hb (dq da_X12_step 19 rfl) rfl (lv_at hl 1 rfl) ?_
  refine lv_icmp_ge (tgt := 56) hx hb (dq da_X12_step 20 rfl) (by decide) (fun c5 => ?_) (fun c5 => ?_)
  · have h := it c5 h
    refine lv_iload_n hx hb (dq da_X12_step 32 rfl) rfl (lv_at hl 2 rfl) ?_
    exact xret_i E hr hlk w (by decide) (congrArg Prod.fst (os h)) (congrArg Prod.snd (os h)) (dq da_X12_step 33 rfl)
  · have h := ie c5 h
    refine lv_iload_n hx hb (dq da_X12_step 21 rfl) rfl (lv_at hl 2 rfl) ?_
    refine lv_aload_n hx hb (dq da_X12_step 22 rfl) rfl (lv_at hl 0 rfl) ?_
    obtain ⟨y6, hy7, h⟩ := ob h
    refine cV1 E (c_X12_steps l D cy ad _ hy7) w_1403 w_1405 w_p54 w_10 w_1406 rfl hd_X12_steps rfl hl.1 rfl (Nat.le_of_ble_eq_true rfl) ⟨Nat.le_of_ble_eq_true rfl, Nat.le_of_ble_eq_true rfl⟩ (by decide) w (rc_wM_0 w) (dq da_X12_step 23 rfl) (fun H locs rr w => ?_)
    refine lv_if_eq (tgt := 47) hx hb (dq da_X12_step 24 rfl) (by decide) (fun c8 => ?_) (fun c8 => ?_)
    · have h := it c8 h
      refine lv_iconst (v := 0) hx hb (dq da_X12_step 27 rfl) rfl ?_
      exact b_X12_step_b48 E hr hlk hk30 h (lv_sub hl [0, 1, 3] rfl) w
    · have h := ie c8 h
      refine lv_iconst (v := 1) hx hb (dq da_X12_step 25 rfl) rfl ?_
      refine lv_goto (tgt := 48) hx hb (dq da_X12_step 26 rfl) (by decide) ?_
      exact b_X12_step_b48 E hr hlk hk30 h (lv_sub hl [0, 1, 3] rfl) w
def f_X12_step_b30 : Nat → Int32 → Int32 → Int32 → St → Option (Int32 × St)
  | 0 => fun _ _ _ _ => none
  | n + 1 => f_X12_step_b30_s (f_X12_step_b30 n)
theorem b_X12_step_b30 {p : Program} {l : Launch} {e : Env} {s : State} {m : MethodId} {args : Array Value} {below : List Frame} {meth : Method} {c : Code} {D : va_G} {cy : ClassId × ClassId × ClassId} {ad : Nat → Nat} {A : Nat → Prop} (E : CallFix p m c cX12_step 4 s args gw RX12) (hr : meth.sig.returnType = some .int) (hlk : meth.locks = false) : ∀ n : Nat, ∀ (x1 : Int32) (x2 : Int32) (x3 : Int32) (u : St) (r : Int32) (u' : St), f_X12_step_b30 n x1 x2 x3 u = some (r, u') → ∀ (ls : Array Slot) (H : Heap) (locs : List Loc) (rr : Nat → Nat), lv_has ls 4 [(0, .ref (ad 0)), (1, .int x1), (2, .int x2), (3, .int x3)] → WX (wM cy ad) D cy rr u A s H locs → Wx (wM cy ad) D p l e 8 211 0 s m args below meth c A u' (some (.int r)) H locs 0 30 ls [] := by
  intro n
  induction n with
  | zero => intro x1 x2 x3 u r u' h; cases h
  | succ n ih => intro x1 x2 x3 u r u' h ls H locs rr hl w; exact b_X12_step_b30_s E hr hlk ih h hl w
def f_X12_step_b17 (x1 : Int32) (s0 : Int32) (u : St) : Option (Int32 × St) := (f_X12_fails s0 (1 : Int32) u).bind (fun y2 => if y2.1 = (0 : Int32) then (f_X12_step_b30 FU x1 (0 : Int32) (0 : Int32) y2.2) else (some ((0 : Int32), y2.2)))
set_option maxRecDepth 100000 in
set_option maxHeartbeats 4000000 in
theorem b_X12_step_b17 {p : Program} {l : Launch} {e : Env} {s : State} {m : MethodId} {args : Array Value} {below : List Frame} {meth : Method} {c : Code} {D : va_G} {cy : ClassId × ClassId × ClassId} {ad : Nat → Nat} {A : Nat → Prop} (E : CallFix p m c cX12_step 4 s args gw RX12) (hr : meth.sig.returnType = some .int) (hlk : meth.locks = false) {x1 : Int32} {s0 : Int32} {u : St} {r : Int32} {u' : St} (h : f_X12_step_b17 x1 s0 u = some (r, u')) {ls : Array Slot} {H : Heap} {locs : List Loc} {rr : Nat → Nat} (hl : lv_has ls 4 [(0, .ref (ad 0)), (1, .int x1)]) (w : WX (wM cy ad) D cy rr u A s H locs) : Wx (wM cy ad) D p l e 8 211 0 s m args below meth c A u' (some (.int r)) H locs 0 17 ls [.int s0, .ref (ad 0)] := by
  have hx := E.1
  have hb := E.2.1
  have hown := E.2.2.2.1
  have hts := E.2.2.2.2
  refine lv_iconst (v := 1) hx hb (dq da_X12_step 9 rfl) rfl ?_
  obtain ⟨y2, hy3, h⟩ := ob h
  refine cV1 E (c_X12_fails l D cy ad _ _ _ hy3) w_1294 w_1296 w_p45 w_10 w_1297 rfl hd_X12_fails rfl hl.1 rfl (Nat.le_of_ble_eq_true rfl) ⟨Nat.le_of_ble_eq_true rfl, Nat.le_of_ble_eq_true rfl⟩ (by decide) w (rc_wM_0 w) (dq da_X12_step 10 rfl) (fun H locs rr w => ?_)
  refine lv_if_eq (tgt := 26) hx hb (dq da_X12_step 11 rfl) (by decide) (fun c4 => ?_) (fun c4 => ?_)
  · have h := it c4 h
    refine lv_iconst (v := 0) hx hb (dq da_X12_step 14 rfl) rfl ?_
    refine lv_istore_n (lv' := [(2, .int (0 : Int32)), (0, .ref (ad 0)), (1, .int x1)]) hx hb (dq da_X12_step 15 rfl) rfl hl (by decide) rfl (fun ls hl => ?_)
    refine lv_iconst (v := 0) hx hb (dq da_X12_step 16 rfl) rfl ?_
    refine lv_istore_n (lv' := [(3, .int (0 : Int32)), (2, .int (0 : Int32)), (0, .ref (ad 0)), (1, .int x1)]) hx hb (dq da_X12_step 17 rfl) rfl hl (by decide) rfl (fun ls hl => ?_)
    exact b_X12_step_b30 E hr hlk FU _ _ _ _ _ _ h ls _ _ _ (lv_sub hl [2, 3, 1, 0] rfl) w
  · have h := ie c4 h
    refine lv_iconst (v := 0) hx hb (dq da_X12_step 12 rfl) rfl ?_
    exact xret_i E hr hlk w (by decide) (congrArg Prod.fst (os h)) (congrArg Prod.snd (os h)) (dq da_X12_step 13 rfl)
def f_X12_step_b12 (x1 : Int32) (u : St) : Option (Int32 × St) := f_X12_step_b17 x1 (1 : Int32) u
set_option maxRecDepth 100000 in
set_option maxHeartbeats 4000000 in
theorem b_X12_step_b12 {p : Program} {l : Launch} {e : Env} {s : State} {m : MethodId} {args : Array Value} {below : List Frame} {meth : Method} {c : Code} {D : va_G} {cy : ClassId × ClassId × ClassId} {ad : Nat → Nat} {A : Nat → Prop} (E : CallFix p m c cX12_step 4 s args gw RX12) (hr : meth.sig.returnType = some .int) (hlk : meth.locks = false) {x1 : Int32} {u : St} {r : Int32} {u' : St} (h : f_X12_step_b12 x1 u = some (r, u')) {ls : Array Slot} {H : Heap} {locs : List Loc} {rr : Nat → Nat} (hl : lv_has ls 4 [(0, .ref (ad 0)), (1, .int x1)]) (w : WX (wM cy ad) D cy rr u A s H locs) : Wx (wM cy ad) D p l e 8 211 0 s m args below meth c A u' (some (.int r)) H locs 0 12 ls [.ref (ad 0)] := by
  have hx := E.1
  have hb := E.2.1
  have hown := E.2.2.2.1
  have hts := E.2.2.2.2
  refine lv_iconst (v := 1) hx hb (dq da_X12_step 6 rfl) rfl ?_
  refine lv_goto (tgt := 17) hx hb (dq da_X12_step 7 rfl) (by decide) ?_
  exact b_X12_step_b17 E hr hlk h (lv_sub hl [0, 1] rfl) w
def f_X12_step (x1 : Int32) (u : St) : Option (Int32 × St) := if x1 < (0 : Int32) then (f_X12_step_b12 x1 u) else (if x1 ≤ (4096 : Int32) then (f_X12_step_b17 x1 (0 : Int32) u) else (f_X12_step_b12 x1 u))
set_option maxRecDepth 100000 in
set_option maxHeartbeats 4000000 in
theorem c_X12_step (l : Launch) (D : va_G) (cy : ClassId × ClassId × ClassId) (ad : Nat → Nat) (x1 : Int32) (u : St) {r : Int32} {u' : St} (h : f_X12_step x1 u = some (r, u')) : MX (wM cy ad) D cy l yX12_step cX12_step 4 (some .int) 8 211 0 [.ref (ad 0), .int x1] u u' (some (.int (r))) := by
  refine entX (by decide +kernel) (Nat.le_of_ble_eq_true rfl) ?_
  intro p e s m args below meth c ls rr A E hr hlk hl w
  have hl : lv_has ls 4 [(0, .ref (ad 0)), (1, .int x1)] := hl
  have hx := E.1
  have hb := E.2.1
  have hown := E.2.2.2.1
  have hts := E.2.2.2.2
  refine lv_aload_n hx hb (dq da_X12_step 0 rfl) rfl (lv_at hl 0 rfl) ?_
  refine lv_iload_n hx hb (dq da_X12_step 1 rfl) rfl (lv_at hl 1 rfl) ?_
  refine lv_if_lt (tgt := 12) hx hb (dq da_X12_step 2 rfl) (by decide) (fun c1 => ?_) (fun c1 => ?_)
  · have h := it c1 h
    exact b_X12_step_b12 E hr hlk h (lv_sub hl [0, 1] rfl) w
  · have h := ie c1 h
    refine lv_iload_n hx hb (dq da_X12_step 3 rfl) rfl (lv_at hl 1 rfl) ?_
    refine lv_sipush (v := 4096) hx hb (dq da_X12_step 4 rfl) rfl ?_
    refine lv_icmp_le (tgt := 16) hx hb (dq da_X12_step 5 rfl) (by decide) (fun c9 => ?_) (fun c9 => ?_)
    · have h := it c9 h
      refine lv_iconst (v := 0) hx hb (dq da_X12_step 8 rfl) rfl ?_
      exact b_X12_step_b17 E hr hlk h (lv_sub hl [0, 1] rfl) w
    · have h := ie c9 h
      exact b_X12_step_b12 E hr hlk h (lv_sub hl [0, 1] rfl) w

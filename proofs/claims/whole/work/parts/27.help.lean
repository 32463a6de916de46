def RL : String := "HartBoardLaw"
abbrev cL_feed : ByteArray := method_3_code
def yL_feed : MethodName := ⟨RL, "feed", "(LHartBoard;IJ[J)I"⟩
theorem hd_L_feed : hdOK yL_feed 4 := ⟨by decide +kernel, by decide +kernel, by decide +kernel⟩
def hh_feed : List (Nat × Nat × Nat × Nat) := [(0, 11, 14, 13), (0, 11, 18, 15)]
abbrev cL_type : ByteArray := method_4_code
def yL_type : MethodName := ⟨RL, "type", "(LHartBoard;[J)I"⟩
theorem hd_L_type : hdOK yL_type 2 := ⟨by decide +kernel, by decide +kernel, by decide +kernel⟩
def hh_type : List (Nat × Nat × Nat × Nat) := [(0, 8, 11, 15)]
abbrev cL_poke : ByteArray := method_5_code
def yL_poke : MethodName := ⟨RL, "poke", "(LHartBoard;JIJ)I"⟩
theorem hd_L_poke : hdOK yL_poke 4 := ⟨by decide +kernel, by decide +kernel, by decide +kernel⟩
def hh_poke : List (Nat × Nat × Nat × Nat) := [(0, 8, 11, 13), (0, 8, 15, 25)]
abbrev cL_peek : ByteArray := method_6_code
def yL_peek : MethodName := ⟨RL, "peek", "(LHartBoard;J[J)I"⟩
theorem hd_L_peek : hdOK yL_peek 3 := ⟨by decide +kernel, by decide +kernel, by decide +kernel⟩
def hh_peek : List (Nat × Nat × Nat × Nat) := [(0, 8, 11, 25)]
abbrev cL_set : ByteArray := method_7_code
def yL_set : MethodName := ⟨RL, "set", "(LHartBoard;IJ)I"⟩
theorem hd_L_set : hdOK yL_set 3 := ⟨by decide +kernel, by decide +kernel, by decide +kernel⟩
def hh_set : List (Nat × Nat × Nat × Nat) := [(0, 6, 9, 13)]
abbrev cL_get : ByteArray := method_8_code
def yL_get : MethodName := ⟨RL, "get", "(LHartBoard;I[J)I"⟩
theorem hd_L_get : hdOK yL_get 3 := ⟨by decide +kernel, by decide +kernel, by decide +kernel⟩
def hh_get : List (Nat × Nat × Nat × Nat) := [(0, 8, 11, 13)]
abbrev cL_lower : ByteArray := method_9_code
def yL_lower : MethodName := ⟨RL, "lower", "(LHartBoard;I)I"⟩
theorem hd_L_lower : hdOK yL_lower 2 := ⟨by decide +kernel, by decide +kernel, by decide +kernel⟩
def hh_lower : List (Nat × Nat × Nat × Nat) := [(0, 5, 8, 13)]
abbrev cL_control : ByteArray := method_10_code
def yL_control : MethodName := ⟨RL, "control", "(LHartBoard;I[J)I"⟩
theorem hd_L_control : hdOK yL_control 3 := ⟨by decide +kernel, by decide +kernel, by decide +kernel⟩
def hh_control : List (Nat × Nat × Nat × Nat) := [(0, 8, 11, 13)]
abbrev cL_order : ByteArray := method_11_code
def yL_order : MethodName := ⟨RL, "order", "(LHartBoard;IJ)I"⟩
theorem hd_L_order : hdOK yL_order 3 := ⟨by decide +kernel, by decide +kernel, by decide +kernel⟩
def hh_order : List (Nat × Nat × Nat × Nat) := [(0, 6, 9, 13)]
abbrev cL_raise : ByteArray := method_12_code
def yL_raise : MethodName := ⟨RL, "raise", "(LHartBoard;IZ)I"⟩
theorem hd_L_raise : hdOK yL_raise 3 := ⟨by decide +kernel, by decide +kernel, by decide +kernel⟩
def hh_raise : List (Nat × Nat × Nat × Nat) := [(0, 6, 9, 13)]
abbrev cL_step : ByteArray := method_13_code
def yL_step : MethodName := ⟨RL, "step", "(LHartBoard;I[J)I"⟩
theorem hd_L_step : hdOK yL_step 3 := ⟨by decide +kernel, by decide +kernel, by decide +kernel⟩
def hh_step : List (Nat × Nat × Nat × Nat) := [(0, 9, 12, 13)]
abbrev cL_translate : ByteArray := method_14_code
def yL_translate : MethodName := ⟨RL, "translate", "(LHartBoard;JI[J)I"⟩
theorem hd_L_translate : hdOK yL_translate 4 := ⟨by decide +kernel, by decide +kernel, by decide +kernel⟩
def hh_translate : List (Nat × Nat × Nat × Nat) := [(0, 10, 13, 13)]
abbrev cL_look : ByteArray := method_15_code
def yL_look : MethodName := ⟨RL, "look", "(LHartBoard;I[J)I"⟩
theorem hd_L_look : hdOK yL_look 3 := ⟨by decide +kernel, by decide +kernel, by decide +kernel⟩
def hh_look : List (Nat × Nat × Nat × Nat) := [(0, 9, 12, 13)]
abbrev cL_out : ByteArray := method_16_code
def yL_out : MethodName := ⟨RL, "out", "(LHartBoard;I[J)I"⟩
theorem hd_L_out : hdOK yL_out 3 := ⟨by decide +kernel, by decide +kernel, by decide +kernel⟩
def hh_out : List (Nat × Nat × Nat × Nat) := [(0, 9, 12, 25)]
abbrev cL_cell : ByteArray := method_2_code
def yL_cell : MethodName := ⟨RL, "cell", "([II)I"⟩
theorem hd_L_cell : hdOK yL_cell 2 := ⟨by decide +kernel, by decide +kernel, by decide +kernel⟩
theorem w_381 : Cond.methodLink RL 7 yX11_feed ∈ gw := gw_t2 141 rfl rfl
theorem w_382 : Cond.instanceMethod yX11_feed ∈ gw := gw_t2 142 rfl rfl
theorem w_383 : Cond.selects RX11 yX11_feed yX11_feed ∈ gw := gw_t2 143 rfl rfl
theorem w_384 : Cond.code yX11_feed cX11_feed 5 (some .int) ∈ gw := gw_t2 144 rfl rfl
theorem w_379 : Cond.classLink RL 13 "java/lang/IllegalArgumentException" ∈ gw := gw_t2 139 rfl rfl
theorem w_380 : Cond.classLink RL 15 "java/lang/IllegalStateException" ∈ gw := gw_t2 140 rfl rfl
theorem w_475 : Cond.methodLink RL 17 yX11_type ∈ gw := gw_t2 235 rfl rfl
theorem w_476 : Cond.instanceMethod yX11_type ∈ gw := gw_t2 236 rfl rfl
theorem w_477 : Cond.selects RX11 yX11_type yX11_type ∈ gw := gw_t2 237 rfl rfl
theorem w_478 : Cond.code yX11_type cX11_type 4 (some .int) ∈ gw := gw_t2 238 rfl rfl
theorem w_497 : Cond.methodLink RL 21 yX11_poke ∈ gw := gw_t3 17 rfl rfl
theorem w_498 : Cond.instanceMethod yX11_poke ∈ gw := gw_t3 18 rfl rfl
theorem w_499 : Cond.selects RX11 yX11_poke yX11_poke ∈ gw := gw_t3 19 rfl rfl
theorem w_500 : Cond.code yX11_poke cX11_poke 8 (none) ∈ gw := gw_t3 20 rfl rfl
theorem w_496 : Cond.classLink RL 25 "java/util/NoSuchElementException" ∈ gw := gw_t3 16 rfl rfl
theorem w_520 : Cond.methodLink RL 27 yX11_peek ∈ gw := gw_t3 40 rfl rfl
theorem w_521 : Cond.instanceMethod yX11_peek ∈ gw := gw_t3 41 rfl rfl
theorem w_522 : Cond.selects RX11 yX11_peek yX11_peek ∈ gw := gw_t3 42 rfl rfl
theorem w_523 : Cond.code yX11_peek cX11_peek 7 (some .long) ∈ gw := gw_t3 43 rfl rfl
theorem w_531 : Cond.methodLink RL 31 yX11_set ∈ gw := gw_t3 51 rfl rfl
theorem w_532 : Cond.instanceMethod yX11_set ∈ gw := gw_t3 52 rfl rfl
theorem w_533 : Cond.selects RX11 yX11_set yX11_set ∈ gw := gw_t3 53 rfl rfl
theorem w_534 : Cond.code yX11_set cX11_set 4 (none) ∈ gw := gw_t3 54 rfl rfl
theorem w_540 : Cond.methodLink RL 35 yX11_get ∈ gw := gw_t3 60 rfl rfl
theorem w_541 : Cond.instanceMethod yX11_get ∈ gw := gw_t3 61 rfl rfl
theorem w_542 : Cond.selects RX11 yX11_get yX11_get ∈ gw := gw_t3 62 rfl rfl
theorem w_543 : Cond.code yX11_get cX11_get 2 (some .long) ∈ gw := gw_t3 63 rfl rfl
theorem w_547 : Cond.methodLink RL 39 yX11_lower ∈ gw := gw_t3 67 rfl rfl
theorem w_548 : Cond.instanceMethod yX11_lower ∈ gw := gw_t3 68 rfl rfl
theorem w_549 : Cond.selects RX11 yX11_lower yX11_lower ∈ gw := gw_t3 69 rfl rfl
theorem w_550 : Cond.code yX11_lower cX11_lower 2 (none) ∈ gw := gw_t3 70 rfl rfl
theorem w_555 : Cond.methodLink RL 43 yX11_control ∈ gw := gw_t3 75 rfl rfl
theorem w_556 : Cond.instanceMethod yX11_control ∈ gw := gw_t3 76 rfl rfl
theorem w_557 : Cond.selects RX11 yX11_control yX11_control ∈ gw := gw_t3 77 rfl rfl
theorem w_558 : Cond.code yX11_control cX11_control 2 (some .long) ∈ gw := gw_t3 78 rfl rfl
theorem w_594 : Cond.methodLink RL 46 yX11_order ∈ gw := gw_t3 114 rfl rfl
theorem w_595 : Cond.instanceMethod yX11_order ∈ gw := gw_t3 115 rfl rfl
theorem w_596 : Cond.selects RX11 yX11_order yX11_order ∈ gw := gw_t3 116 rfl rfl
theorem w_597 : Cond.code yX11_order cX11_order 4 (none) ∈ gw := gw_t3 117 rfl rfl
theorem w_636 : Cond.methodLink RL 49 yX11_raise ∈ gw := gw_t3 156 rfl rfl
theorem w_637 : Cond.instanceMethod yX11_raise ∈ gw := gw_t3 157 rfl rfl
theorem w_638 : Cond.selects RX11 yX11_raise yX11_raise ∈ gw := gw_t3 158 rfl rfl
theorem w_639 : Cond.code yX11_raise cX11_raise 3 (none) ∈ gw := gw_t3 159 rfl rfl
theorem w_648 : Cond.methodLink RL 53 yX11_step ∈ gw := gw_t3 168 rfl rfl
theorem w_649 : Cond.instanceMethod yX11_step ∈ gw := gw_t3 169 rfl rfl
theorem w_650 : Cond.selects RX11 yX11_step yX11_step ∈ gw := gw_t3 170 rfl rfl
theorem w_651 : Cond.code yX11_step cX11_step 4 (some .int) ∈ gw := gw_t3 171 rfl rfl
theorem w_1054 : Cond.methodLink RL 57 yX11_translate ∈ gw := gw_t5 94 rfl rfl
theorem w_1055 : Cond.instanceMethod yX11_translate ∈ gw := gw_t5 95 rfl rfl
theorem w_1056 : Cond.selects RX11 yX11_translate yX11_translate ∈ gw := gw_t5 96 rfl rfl
theorem w_1057 : Cond.code yX11_translate cX11_translate 5 (some .long) ∈ gw := gw_t5 97 rfl rfl
theorem w_1065 : Cond.methodLink RL 61 yX11_look ∈ gw := gw_t5 105 rfl rfl
theorem w_1066 : Cond.instanceMethod yX11_look ∈ gw := gw_t5 106 rfl rfl
theorem w_1067 : Cond.selects RX11 yX11_look yX11_look ∈ gw := gw_t5 107 rfl rfl
theorem w_1068 : Cond.code yX11_look cX11_look 2 (some .int) ∈ gw := gw_t5 108 rfl rfl
theorem w_1073 : Cond.methodLink RL 64 yX11_out ∈ gw := gw_t5 113 rfl rfl
theorem w_1074 : Cond.instanceMethod yX11_out ∈ gw := gw_t5 114 rfl rfl
theorem w_1075 : Cond.selects RX11 yX11_out yX11_out ∈ gw := gw_t5 115 rfl rfl
theorem w_1076 : Cond.code yX11_out cX11_out 3 (some .int) ∈ gw := gw_t5 116 rfl rfl
/-- the catching row of a method's table takes what was thrown (the kit's vx_catch, proved at the end over the whole library) -/
def CatchP : Prop := ∀ (p : Program) (l : Launch) (e : Env) (R : Room) (s : State) (m : MethodId) (args : Array Value) (below : List Frame) (meth : Method) (c : Code) (H : Heap) (locs : List Loc) (cells slots : Nat) (Q : State → Prop) (own name E : String) (ce : Cell) (q : Addr) (pc : Nat) (ls : Array Slot) (rest : List Value), s.vm.findClass own = some m.cls → ∀ (pre : List ExceptionTableEntry) (x : ExceptionTableEntry) (suf : List ExceptionTableEntry), c.exceptionTable.toList = pre ++ x :: suf →
  (∀ z ∈ pre, covers z pc = false ∨ (z.catchType ≠ 0 ∧ ∃ nm : String, (Cond.classLink own z.catchType nm).before args s = true ∧ va_Nc E nm s)) → covers x pc = true → x.catchType ≠ 0 →
  (Cond.classLink own x.catchType name).before args s = true → (Cond.castable E name).before args s = true → H[q]? = some ce → ce.vm = .none → s.vm.findClass E = some ce.cls →
  W p l e R s m args below meth c H locs cells slots Q (F0 m x.handlerPc ls [.ref q]) → vx_W p l e R s m args below meth c H locs cells slots Q (F0 m pc ls rest) q
def dl_L_feed : List (Nat × Instr × Nat) := [(0, .aload 4, 2), (2, .iconst 0, 1), (3, .aload_n 0, 1), (4, .iload_n 1, 1), (5, .lload_n 2, 1), (6, .invokevirtual 7, 3), (9, .i2l, 1), (10, .lastore, 1), (11, .goto 11, 3), (14, .astore 5, 2), (16, .iconst 1, 1), (17, .ireturn, 1), (18, .astore 5, 2), (20, .iconst 2, 1), (21, .ireturn, 1), (22, .iconst 0, 1), (23, .ireturn, 1)]
theorem da_L_feed : dkL cL_feed dl_L_feed = true := by decide +kernel
set_option maxRecDepth 100000 in
set_option maxHeartbeats 4000000 in
theorem c_L_feed_R (l : Launch) (D : va_G) (cy : ClassId × ClassId × ClassId) (ad : Nat → Nat) (ob : Nat) (f : Nat → Int64) (x1 : Int32) (x2 : Int64) (u : St) {r : Int32} {u' : St} {k' : Nat} (h : f_X11_feed x1 x2 u = some (.inr (r, u', k'))) : MH l yL_feed cL_feed 6 hh_feed 7 106 k' k' D cy ad [(ob, .inl (cy.2.2, 1, .inr (.inl f)))] [(ob, .inl (cy.2.2, 1, .inr (.inl (vp_updL f 0 r.toInt64))))] [.ref (ad 0), .int x1, .long x2, .ref ob] u u' 0 := by
  refine entH (by decide +kernel) (Nat.le_of_ble_eq_true rfl) ?_
  intro p e s m args below meth c ls rr A E hr hlk htab hl w
  have hl : lv_has ls 6 [(0, .ref (ad 0)), (1, .int x1), (2, .long x2), (4, .ref ob)] := hl
  have hx := E.1
  have hb := E.2.1
  have hown := E.2.2.2.1
  have hts := E.2.2.2.2
  refine lv_aload hx hb (dq da_L_feed 0 rfl) (lv_at hl 3 rfl) ?_
  refine lv_iconst (v := 0) hx hb (dq da_L_feed 1 rfl) rfl ?_
  refine lv_aload_n hx hb (dq da_L_feed 2 rfl) rfl (lv_at hl 0 rfl) ?_
  refine lv_iload_n hx hb (dq da_L_feed 3 rfl) rfl (lv_at hl 1 rfl) ?_
  refine lv_lload_n hx hb (dq da_L_feed 4 rfl) rfl (lv_at hl 2 rfl) ?_
  refine zV1 (Wd := wC cy ad) E (c_X11_feed l D cy ad _ _ _ h) w_381 w_382 w_383 w_1 w_384 rfl hd_X11_feed rfl hl.1 rfl (Nat.le_of_ble_eq_true rfl) ⟨Nat.le_of_ble_eq_true rfl, Nat.le_of_ble_eq_true rfl⟩ ⟨Nat.le_of_eq (Nat.zero_add _), Nat.le_of_eq (Nat.zero_add _)⟩ w (rc_wC_0 w.x) (dq da_L_feed 5 rfl) (fun H locs rr w => ?_)
  refine lv_i2l (v := r.toInt64) hx hb (dq da_L_feed 6 rfl) rfl ?_
  refine zst E w (dq da_L_feed 7 rfl) (fun H locs w => ?_)
  refine lv_goto (tgt := 22) hx hb (dq da_L_feed 8 rfl) (by decide) ?_
  refine lv_iconst (v := 0) hx hb (dq da_L_feed 15 rfl) rfl ?_
  exact hret E hr hlk w (Nat.le_of_eq (Nat.zero_add _)) (Nat.le_of_eq (Nat.zero_add _)) rfl (dq da_L_feed 16 rfl)
set_option maxRecDepth 100000 in
set_option maxHeartbeats 4000000 in
theorem c_L_feed_T0 (l : Launch) (hca : CatchP) (hl0 : l.stackTraces = false) (D : va_G) (cy : ClassId × ClassId × ClassId) (ad : Nat → Nat) (ob : Nat) (f : Nat → Int64) (x1 : Int32) (x2 : Int64) (u : St) (h : f_X11_feed x1 x2 u = some (.inl 0)) : MH l yL_feed cL_feed 6 hh_feed 7 106 1 6 D cy ad [(ob, .inl (cy.2.2, 1, .inr (.inl f)))] [(ob, .inl (cy.2.2, 1, .inr (.inl f)))] [.ref (ad 0), .int x1, .long x2, .ref ob] u u 1 := by
  refine entH (by decide +kernel) (Nat.le_of_ble_eq_true rfl) ?_
  intro p e s m args below meth c ls rr A E hr hlk htab hl w
  have hl : lv_has ls 6 [(0, .ref (ad 0)), (1, .int x1), (2, .long x2), (4, .ref ob)] := hl
  have hx := E.1
  have hb := E.2.1
  have hown := E.2.2.2.1
  have hts := E.2.2.2.2
  refine lv_aload hx hb (dq da_L_feed 0 rfl) (lv_at hl 3 rfl) ?_
  refine lv_iconst (v := 0) hx hb (dq da_L_feed 1 rfl) rfl ?_
  refine lv_aload_n hx hb (dq da_L_feed 2 rfl) rfl (lv_at hl 0 rfl) ?_
  refine lv_iload_n hx hb (dq da_L_feed 3 rfl) rfl (lv_at hl 1 rfl) ?_
  refine lv_lload_n hx hb (dq da_L_feed 4 rfl) rfl (lv_at hl 2 rfl) ?_
  refine zT (Wd := wC cy ad) E (c_X11_feed_t l hl0 D cy ad _ _ _ h) w_381 w_382 w_383 w_1 w_384 rfl hd_X11_feed rfl hl.1 rfl (Nat.le_of_ble_eq_true rfl) ⟨Nat.le_of_ble_eq_true rfl, Nat.le_of_ble_eq_true rfl⟩ ⟨Nat.le_of_ble_eq_true rfl, Nat.le_of_ble_eq_true rfl⟩ w (rc_wC_0 w.x) (dq da_L_feed 5 rfl) (fun H locs rr q9 ce w hq9 hv9 hc9 => ?_)
  refine hca p l e _ s m args below meth c H locs _ _ _ RL "java/lang/IllegalArgumentException" "java/lang/IllegalArgumentException" ce q9 6 ls _ hown [] ⟨0, 11, 14, 13⟩ [⟨0, 11, 18, 15⟩] htab (fun z hz => nomatch hz) (by decide) (by decide) (hts _ w_379) (va_Nw.use rfl (w.2.2.2.2.2.2.1.1 (.castable "java/lang/IllegalArgumentException" "java/lang/IllegalArgumentException") (by decide +kernel))) hq9 hv9 hc9 ?_
  refine lv_astore (lv' := [(5, .ref q9), (0, .ref (ad 0)), (1, .int x1), (2, .long x2), (4, .ref ob)]) hx hb (dq da_L_feed 9 rfl) hl (by decide) rfl (fun ls hl => ?_)
  refine lv_iconst (v := 1) hx hb (dq da_L_feed 10 rfl) rfl ?_
  exact hret E hr hlk w (Nat.le_of_ble_eq_true rfl) (Nat.le_of_ble_eq_true rfl) rfl (dq da_L_feed 11 rfl)
set_option maxRecDepth 100000 in
set_option maxHeartbeats 4000000 in
theorem c_L_feed_T1 (l : Launch) (hca : CatchP) (hl0 : l.stackTraces = false) (D : va_G) (cy : ClassId × ClassId × ClassId) (ad : Nat → Nat) (ob : Nat) (f : Nat → Int64) (x1 : Int32) (x2 : Int64) (u : St) (h : f_X11_feed x1 x2 u = some (.inl 1)) : MH l yL_feed cL_feed 6 hh_feed 7 106 1 6 D cy ad [(ob, .inl (cy.2.2, 1, .inr (.inl f)))] [(ob, .inl (cy.2.2, 1, .inr (.inl f)))] [.ref (ad 0), .int x1, .long x2, .ref ob] u u 2 := by
  refine entH (by decide +kernel) (Nat.le_of_ble_eq_true rfl) ?_
  intro p e s m args below meth c ls rr A E hr hlk htab hl w
  have hl : lv_has ls 6 [(0, .ref (ad 0)), (1, .int x1), (2, .long x2), (4, .ref ob)] := hl
  have hx := E.1
  have hb := E.2.1
  have hown := E.2.2.2.1
  have hts := E.2.2.2.2
  refine lv_aload hx hb (dq da_L_feed 0 rfl) (lv_at hl 3 rfl) ?_
  refine lv_iconst (v := 0) hx hb (dq da_L_feed 1 rfl) rfl ?_
  refine lv_aload_n hx hb (dq da_L_feed 2 rfl) rfl (lv_at hl 0 rfl) ?_
  refine lv_iload_n hx hb (dq da_L_feed 3 rfl) rfl (lv_at hl 1 rfl) ?_
  refine lv_lload_n hx hb (dq da_L_feed 4 rfl) rfl (lv_at hl 2 rfl) ?_
  refine zT (Wd := wC cy ad) E (c_X11_feed_t l hl0 D cy ad _ _ _ h) w_381 w_382 w_383 w_1 w_384 rfl hd_X11_feed rfl hl.1 rfl (Nat.le_of_ble_eq_true rfl) ⟨Nat.le_of_ble_eq_true rfl, Nat.le_of_ble_eq_true rfl⟩ ⟨Nat.le_of_ble_eq_true rfl, Nat.le_of_ble_eq_true rfl⟩ w (rc_wC_0 w.x) (dq da_L_feed 5 rfl) (fun H locs rr q9 ce w hq9 hv9 hc9 => ?_)
  refine hca p l e _ s m args below meth c H locs _ _ _ RL "java/lang/IllegalStateException" "java/lang/IllegalStateException" ce q9 6 ls _ hown [⟨0, 11, 14, 13⟩] ⟨0, 11, 18, 15⟩ [] htab (fun z hz => by rw [List.mem_singleton] at hz; subst hz; exact Or.inr ⟨by decide, _, hts _ w_379, w.2.2.2.2.2.2.1.2.2.1⟩) (by decide) (by decide) (hts _ w_380) (va_Nw.use rfl (w.2.2.2.2.2.2.1.1 (.castable "java/lang/IllegalStateException" "java/lang/IllegalStateException") (by decide +kernel))) hq9 hv9 hc9 ?_
  refine lv_astore (lv' := [(5, .ref q9), (0, .ref (ad 0)), (1, .int x1), (2, .long x2), (4, .ref ob)]) hx hb (dq da_L_feed 12 rfl) hl (by decide) rfl (fun ls hl => ?_)
  refine lv_iconst (v := 2) hx hb (dq da_L_feed 13 rfl) rfl ?_
  exact hret E hr hlk w (Nat.le_of_ble_eq_true rfl) (Nat.le_of_ble_eq_true rfl) rfl (dq da_L_feed 14 rfl)
def dl_L_type : List (Nat × Instr × Nat) := [(0, .aload_n 1, 1), (1, .iconst 0, 1), (2, .aload_n 0, 1), (3, .invokevirtual 17, 3), (6, .i2l, 1), (7, .lastore, 1), (8, .goto 6, 3), (11, .astore_n 2, 1), (12, .iconst 1, 1), (13, .ireturn, 1), (14, .iconst 0, 1), (15, .ireturn, 1)]
theorem da_L_type : dkL cL_type dl_L_type = true := by decide +kernel
set_option maxRecDepth 100000 in
set_option maxHeartbeats 4000000 in
theorem c_L_type_R (l : Launch) (D : va_G) (cy : ClassId × ClassId × ClassId) (ad : Nat → Nat) (ob : Nat) (f : Nat → Int64) (u : St) {r : Int32} {u' : St} {k' : Nat} (h : f_X11_type u = some (.inr (r, u', k'))) : MH l yL_type cL_type 3 hh_type 7 105 k' k' D cy ad [(ob, .inl (cy.2.2, 1, .inr (.inl f)))] [(ob, .inl (cy.2.2, 1, .inr (.inl (vp_updL f 0 r.toInt64))))] [.ref (ad 0), .ref ob] u u' 0 := by
  refine entH (by decide +kernel) (Nat.le_of_ble_eq_true rfl) ?_
  intro p e s m args below meth c ls rr A E hr hlk htab hl w
  have hl : lv_has ls 3 [(0, .ref (ad 0)), (1, .ref ob)] := hl
  have hx := E.1
  have hb := E.2.1
  have hown := E.2.2.2.1
  have hts := E.2.2.2.2
  refine lv_aload_n hx hb (dq da_L_type 0 rfl) rfl (lv_at hl 1 rfl) ?_
  refine lv_iconst (v := 0) hx hb (dq da_L_type 1 rfl) rfl ?_
  refine lv_aload_n hx hb (dq da_L_type 2 rfl) rfl (lv_at hl 0 rfl) ?_
  refine zV1 (Wd := wC cy ad) E (c_X11_type l D cy ad _ h) w_475 w_476 w_477 w_1 w_478 rfl hd_X11_type rfl hl.1 rfl (Nat.le_of_ble_eq_true rfl) ⟨Nat.le_of_ble_eq_true rfl, Nat.le_of_ble_eq_true rfl⟩ ⟨Nat.le_of_eq (Nat.zero_add _), Nat.le_of_eq (Nat.zero_add _)⟩ w (rc_wC_0 w.x) (dq da_L_type 3 rfl) (fun H locs rr w => ?_)
  refine lv_i2l (v := r.toInt64) hx hb (dq da_L_type 4 rfl) rfl ?_
  refine zst E w (dq da_L_type 5 rfl) (fun H locs w => ?_)
  refine lv_goto (tgt := 14) hx hb (dq da_L_type 6 rfl) (by decide) ?_
  refine lv_iconst (v := 0) hx hb (dq da_L_type 10 rfl) rfl ?_
  exact hret E hr hlk w (Nat.le_of_eq (Nat.zero_add _)) (Nat.le_of_eq (Nat.zero_add _)) rfl (dq da_L_type 11 rfl)
set_option maxRecDepth 100000 in
set_option maxHeartbeats 4000000 in
theorem c_L_type_T1 (l : Launch) (hca : CatchP) (hl0 : l.stackTraces = false) (D : va_G) (cy : ClassId × ClassId × ClassId) (ad : Nat → Nat) (ob : Nat) (f : Nat → Int64) (u : St) (h : f_X11_type u = some (.inl 1)) : MH l yL_type cL_type 3 hh_type 7 105 1 6 D cy ad [(ob, .inl (cy.2.2, 1, .inr (.inl f)))] [(ob, .inl (cy.2.2, 1, .inr (.inl f)))] [.ref (ad 0), .ref ob] u u 1 := by
  refine entH (by decide +kernel) (Nat.le_of_ble_eq_true rfl) ?_
  intro p e s m args below meth c ls rr A E hr hlk htab hl w
  have hl : lv_has ls 3 [(0, .ref (ad 0)), (1, .ref ob)] := hl
  have hx := E.1
  have hb := E.2.1
  have hown := E.2.2.2.1
  have hts := E.2.2.2.2
  refine lv_aload_n hx hb (dq da_L_type 0 rfl) rfl (lv_at hl 1 rfl) ?_
  refine lv_iconst (v := 0) hx hb (dq da_L_type 1 rfl) rfl ?_
  refine lv_aload_n hx hb (dq da_L_type 2 rfl) rfl (lv_at hl 0 rfl) ?_
  refine zT (Wd := wC cy ad) E (c_X11_type_t l hl0 D cy ad _ h) w_475 w_476 w_477 w_1 w_478 rfl hd_X11_type rfl hl.1 rfl (Nat.le_of_ble_eq_true rfl) ⟨Nat.le_of_ble_eq_true rfl, Nat.le_of_ble_eq_true rfl⟩ ⟨Nat.le_of_ble_eq_true rfl, Nat.le_of_ble_eq_true rfl⟩ w (rc_wC_0 w.x) (dq da_L_type 3 rfl) (fun H locs rr q9 ce w hq9 hv9 hc9 => ?_)
  refine hca p l e _ s m args below meth c H locs _ _ _ RL "java/lang/IllegalStateException" "java/lang/IllegalStateException" ce q9 3 ls _ hown [] ⟨0, 8, 11, 15⟩ [] htab (fun z hz => nomatch hz) (by decide) (by decide) (hts _ w_380) (va_Nw.use rfl (w.2.2.2.2.2.2.1.1 (.castable "java/lang/IllegalStateException" "java/lang/IllegalStateException") (by decide +kernel))) hq9 hv9 hc9 ?_
  refine lv_astore_n (lv' := [(2, .ref q9), (0, .ref (ad 0)), (1, .ref ob)]) hx hb (dq da_L_type 7 rfl) rfl hl (by decide) rfl (fun ls hl => ?_)
  refine lv_iconst (v := 1) hx hb (dq da_L_type 8 rfl) rfl ?_
  exact hret E hr hlk w (Nat.le_of_ble_eq_true rfl) (Nat.le_of_ble_eq_true rfl) rfl (dq da_L_type 9 rfl)
def dl_L_poke : List (Nat × Instr × Nat) := [(0, .aload_n 0, 1), (1, .lload_n 1, 1), (2, .iload_n 3, 1), (3, .lload 4, 2), (5, .invokevirtual 21, 3), (8, .goto 11, 3), (11, .astore 6, 2), (13, .iconst 1, 1), (14, .ireturn, 1), (15, .astore 6, 2), (17, .iconst 2, 1), (18, .ireturn, 1), (19, .iconst 0, 1), (20, .ireturn, 1)]
theorem da_L_poke : dkL cL_poke dl_L_poke = true := by decide +kernel
set_option maxRecDepth 100000 in
set_option maxHeartbeats 4000000 in
theorem c_L_poke_R (l : Launch) (D : va_G) (cy : ClassId × ClassId × ClassId) (ad : Nat → Nat) (x1 : Int64) (x3 : Int32) (x4 : Int64) (u : St) {u' : St} (h : f_X11_poke x1 x3 x4 u = some (.inr u')) : MH l yL_poke cL_poke 7 hh_poke 7 109 0 0 D cy ad [] [] [.ref (ad 0), .long x1, .int x3, .long x4] u u' 0 := by
  refine entH (by decide +kernel) (Nat.le_of_ble_eq_true rfl) ?_
  intro p e s m args below meth c ls rr A E hr hlk htab hl w
  have hl : lv_has ls 7 [(0, .ref (ad 0)), (1, .long x1), (3, .int x3), (4, .long x4)] := hl
  have hx := E.1
  have hb := E.2.1
  have hown := E.2.2.2.1
  have hts := E.2.2.2.2
  refine lv_aload_n hx hb (dq da_L_poke 0 rfl) rfl (lv_at hl 0 rfl) ?_
  refine lv_lload_n hx hb (dq da_L_poke 1 rfl) rfl (lv_at hl 1 rfl) ?_
  refine lv_iload_n hx hb (dq da_L_poke 2 rfl) rfl (lv_at hl 2 rfl) ?_
  refine lv_lload hx hb (dq da_L_poke 3 rfl) (lv_at hl 3 rfl) ?_
  refine zV0 (Wd := wC cy ad) E (c_X11_poke l D cy ad _ _ _ _ h) w_497 w_498 w_499 w_1 w_500 rfl hd_X11_poke rfl hl.1 rfl (Nat.le_of_ble_eq_true rfl) ⟨Nat.le_of_ble_eq_true rfl, Nat.le_of_ble_eq_true rfl⟩ ⟨Nat.le_refl _, Nat.le_refl _⟩ w (rc_wC_0 w.x) (dq da_L_poke 4 rfl) (fun H locs rr w => ?_)
  refine lv_goto (tgt := 19) hx hb (dq da_L_poke 5 rfl) (by decide) ?_
  refine lv_iconst (v := 0) hx hb (dq da_L_poke 12 rfl) rfl ?_
  exact hret E hr hlk w (Nat.le_of_ble_eq_true rfl) (Nat.le_of_ble_eq_true rfl) rfl (dq da_L_poke 13 rfl)
set_option maxRecDepth 100000 in
set_option maxHeartbeats 4000000 in
theorem c_L_poke_T0 (l : Launch) (hca : CatchP) (hl0 : l.stackTraces = false) (D : va_G) (cy : ClassId × ClassId × ClassId) (ad : Nat → Nat) (x1 : Int64) (x3 : Int32) (x4 : Int64) (u : St) (h : f_X11_poke x1 x3 x4 u = some (.inl 0)) : MH l yL_poke cL_poke 7 hh_poke 7 109 1 6 D cy ad [] [] [.ref (ad 0), .long x1, .int x3, .long x4] u u 1 := by
  refine entH (by decide +kernel) (Nat.le_of_ble_eq_true rfl) ?_
  intro p e s m args below meth c ls rr A E hr hlk htab hl w
  have hl : lv_has ls 7 [(0, .ref (ad 0)), (1, .long x1), (3, .int x3), (4, .long x4)] := hl
  have hx := E.1
  have hb := E.2.1
  have hown := E.2.2.2.1
  have hts := E.2.2.2.2
  refine lv_aload_n hx hb (dq da_L_poke 0 rfl) rfl (lv_at hl 0 rfl) ?_
  refine lv_lload_n hx hb (dq da_L_poke 1 rfl) rfl (lv_at hl 1 rfl) ?_
  refine lv_iload_n hx hb (dq da_L_poke 2 rfl) rfl (lv_at hl 2 rfl) ?_
  refine lv_lload hx hb (dq da_L_poke 3 rfl) (lv_at hl 3 rfl) ?_
  refine zT (Wd := wC cy ad) E (c_X11_poke_t l hl0 D cy ad _ _ _ _ h) w_497 w_498 w_499 w_1 w_500 rfl hd_X11_poke rfl hl.1 rfl (Nat.le_of_ble_eq_true rfl) ⟨Nat.le_of_ble_eq_true rfl, Nat.le_of_ble_eq_true rfl⟩ ⟨Nat.le_of_ble_eq_true rfl, Nat.le_of_ble_eq_true rfl⟩ w (rc_wC_0 w.x) (dq da_L_poke 4 rfl) (fun H locs rr q9 ce w hq9 hv9 hc9 => ?_)
  refine hca p l e _ s m args below meth c H locs _ _ _ RL "java/lang/IllegalArgumentException" "java/lang/IllegalArgumentException" ce q9 5 ls _ hown [] ⟨0, 8, 11, 13⟩ [⟨0, 8, 15, 25⟩] htab (fun z hz => nomatch hz) (by decide) (by decide) (hts _ w_379) (va_Nw.use rfl (w.2.2.2.2.2.2.1.1 (.castable "java/lang/IllegalArgumentException" "java/lang/IllegalArgumentException") (by decide +kernel))) hq9 hv9 hc9 ?_
  refine lv_astore (lv' := [(6, .ref q9), (0, .ref (ad 0)), (1, .long x1), (3, .int x3), (4, .long x4)]) hx hb (dq da_L_poke 6 rfl) hl (by decide) rfl (fun ls hl => ?_)
  refine lv_iconst (v := 1) hx hb (dq da_L_poke 7 rfl) rfl ?_
  exact hret E hr hlk w (Nat.le_of_ble_eq_true rfl) (Nat.le_of_ble_eq_true rfl) rfl (dq da_L_poke 8 rfl)
set_option maxRecDepth 100000 in
set_option maxHeartbeats 4000000 in
theorem c_L_poke_T2 (l : Launch) (hca : CatchP) (hl0 : l.stackTraces = false) (D : va_G) (cy : ClassId × ClassId × ClassId) (ad : Nat → Nat) (x1 : Int64) (x3 : Int32) (x4 : Int64) (u : St) (h : f_X11_poke x1 x3 x4 u = some (.inl 2)) : MH l yL_poke cL_poke 7 hh_poke 7 109 1 6 D cy ad [] [] [.ref (ad 0), .long x1, .int x3, .long x4] u u 2 := by
  refine entH (by decide +kernel) (Nat.le_of_ble_eq_true rfl) ?_
  intro p e s m args below meth c ls rr A E hr hlk htab hl w
  have hl : lv_has ls 7 [(0, .ref (ad 0)), (1, .long x1), (3, .int x3), (4, .long x4)] := hl
  have hx := E.1
  have hb := E.2.1
  have hown := E.2.2.2.1
  have hts := E.2.2.2.2
  refine lv_aload_n hx hb (dq da_L_poke 0 rfl) rfl (lv_at hl 0 rfl) ?_
  refine lv_lload_n hx hb (dq da_L_poke 1 rfl) rfl (lv_at hl 1 rfl) ?_
  refine lv_iload_n hx hb (dq da_L_poke 2 rfl) rfl (lv_at hl 2 rfl) ?_
  refine lv_lload hx hb (dq da_L_poke 3 rfl) (lv_at hl 3 rfl) ?_
  refine zT (Wd := wC cy ad) E (c_X11_poke_t l hl0 D cy ad _ _ _ _ h) w_497 w_498 w_499 w_1 w_500 rfl hd_X11_poke rfl hl.1 rfl (Nat.le_of_ble_eq_true rfl) ⟨Nat.le_of_ble_eq_true rfl, Nat.le_of_ble_eq_true rfl⟩ ⟨Nat.le_of_ble_eq_true rfl, Nat.le_of_ble_eq_true rfl⟩ w (rc_wC_0 w.x) (dq da_L_poke 4 rfl) (fun H locs rr q9 ce w hq9 hv9 hc9 => ?_)
  refine hca p l e _ s m args below meth c H locs _ _ _ RL "java/util/NoSuchElementException" "java/util/NoSuchElementException" ce q9 5 ls _ hown [⟨0, 8, 11, 13⟩] ⟨0, 8, 15, 25⟩ [] htab (fun z hz => by rw [List.mem_singleton] at hz; subst hz; exact Or.inr ⟨by decide, _, hts _ w_379, w.2.2.2.2.2.2.1.2.2.2⟩) (by decide) (by decide) (hts _ w_496) (va_Nw.use rfl (w.2.2.2.2.2.2.1.1 (.castable "java/util/NoSuchElementException" "java/util/NoSuchElementException") (by decide +kernel))) hq9 hv9 hc9 ?_
  refine lv_astore (lv' := [(6, .ref q9), (0, .ref (ad 0)), (1, .long x1), (3, .int x3), (4, .long x4)]) hx hb (dq da_L_poke 9 rfl) hl (by decide) rfl (fun ls hl => ?_)
  refine lv_iconst (v := 2) hx hb (dq da_L_poke 10 rfl) rfl ?_
  exact hret E hr hlk w (Nat.le_of_ble_eq_true rfl) (Nat.le_of_ble_eq_true rfl) rfl (dq da_L_poke 11 rfl)
def dl_L_peek : List (Nat × Instr × Nat) := [(0, .aload_n 3, 1), (1, .iconst 0, 1), (2, .aload_n 0, 1), (3, .lload_n 1, 1), (4, .invokevirtual 27, 3), (7, .lastore, 1), (8, .goto 7, 3), (11, .astore 4, 2), (13, .iconst 1, 1), (14, .ireturn, 1), (15, .iconst 0, 1), (16, .ireturn, 1)]
theorem da_L_peek : dkL cL_peek dl_L_peek = true := by decide +kernel
set_option maxRecDepth 100000 in
set_option maxHeartbeats 4000000 in
theorem c_L_peek_R (l : Launch) (D : va_G) (cy : ClassId × ClassId × ClassId) (ad : Nat → Nat) (ob : Nat) (f : Nat → Int64) (x1 : Int64) (u : St) {r : Int64} (h : f_X11_peek x1 u = some (.inr r)) : MH l yL_peek cL_peek 5 hh_peek 7 108 0 0 D cy ad [(ob, .inl (cy.2.2, 1, .inr (.inl f)))] [(ob, .inl (cy.2.2, 1, .inr (.inl (vp_updL f 0 r))))] [.ref (ad 0), .long x1, .ref ob] u u 0 := by
  refine entH (by decide +kernel) (Nat.le_of_ble_eq_true rfl) ?_
  intro p e s m args below meth c ls rr A E hr hlk htab hl w
  have hl : lv_has ls 5 [(0, .ref (ad 0)), (1, .long x1), (3, .ref ob)] := hl
  have hx := E.1
  have hb := E.2.1
  have hown := E.2.2.2.1
  have hts := E.2.2.2.2
  refine lv_aload_n hx hb (dq da_L_peek 0 rfl) rfl (lv_at hl 2 rfl) ?_
  refine lv_iconst (v := 0) hx hb (dq da_L_peek 1 rfl) rfl ?_
  refine lv_aload_n hx hb (dq da_L_peek 2 rfl) rfl (lv_at hl 0 rfl) ?_
  refine lv_lload_n hx hb (dq da_L_peek 3 rfl) rfl (lv_at hl 1 rfl) ?_
  refine zV1 (Wd := wC cy ad) E (c_X11_peek l D cy ad _ _ h) w_520 w_521 w_522 w_1 w_523 rfl hd_X11_peek rfl hl.1 rfl (Nat.le_of_ble_eq_true rfl) ⟨Nat.le_of_ble_eq_true rfl, Nat.le_of_ble_eq_true rfl⟩ ⟨Nat.le_refl _, Nat.le_refl _⟩ w (rc_wC_0 w.x) (dq da_L_peek 4 rfl) (fun H locs rr w => ?_)
  refine zst E w (dq da_L_peek 5 rfl) (fun H locs w => ?_)
  refine lv_goto (tgt := 15) hx hb (dq da_L_peek 6 rfl) (by decide) ?_
  refine lv_iconst (v := 0) hx hb (dq da_L_peek 10 rfl) rfl ?_
  exact hret E hr hlk w (Nat.le_of_ble_eq_true rfl) (Nat.le_of_ble_eq_true rfl) rfl (dq da_L_peek 11 rfl)
set_option maxRecDepth 100000 in
set_option maxHeartbeats 4000000 in
theorem c_L_peek_T2 (l : Launch) (hca : CatchP) (hl0 : l.stackTraces = false) (D : va_G) (cy : ClassId × ClassId × ClassId) (ad : Nat → Nat) (ob : Nat) (f : Nat → Int64) (x1 : Int64) (u : St) (h : f_X11_peek x1 u = some (.inl 2)) : MH l yL_peek cL_peek 5 hh_peek 7 108 1 6 D cy ad [(ob, .inl (cy.2.2, 1, .inr (.inl f)))] [(ob, .inl (cy.2.2, 1, .inr (.inl f)))] [.ref (ad 0), .long x1, .ref ob] u u 1 := by
  refine entH (by decide +kernel) (Nat.le_of_ble_eq_true rfl) ?_
  intro p e s m args below meth c ls rr A E hr hlk htab hl w
  have hl : lv_has ls 5 [(0, .ref (ad 0)), (1, .long x1), (3, .ref ob)] := hl
  have hx := E.1
  have hb := E.2.1
  have hown := E.2.2.2.1
  have hts := E.2.2.2.2
  refine lv_aload_n hx hb (dq da_L_peek 0 rfl) rfl (lv_at hl 2 rfl) ?_
  refine lv_iconst (v := 0) hx hb (dq da_L_peek 1 rfl) rfl ?_
  refine lv_aload_n hx hb (dq da_L_peek 2 rfl) rfl (lv_at hl 0 rfl) ?_
  refine lv_lload_n hx hb (dq da_L_peek 3 rfl) rfl (lv_at hl 1 rfl) ?_
  refine zT (Wd := wC cy ad) E (c_X11_peek_t l hl0 D cy ad _ _ h) w_520 w_521 w_522 w_1 w_523 rfl hd_X11_peek rfl hl.1 rfl (Nat.le_of_ble_eq_true rfl) ⟨Nat.le_of_ble_eq_true rfl, Nat.le_of_ble_eq_true rfl⟩ ⟨Nat.le_of_ble_eq_true rfl, Nat.le_of_ble_eq_true rfl⟩ w (rc_wC_0 w.x) (dq da_L_peek 4 rfl) (fun H locs rr q9 ce w hq9 hv9 hc9 => ?_)
  refine hca p l e _ s m args below meth c H locs _ _ _ RL "java/util/NoSuchElementException" "java/util/NoSuchElementException" ce q9 4 ls _ hown [] ⟨0, 8, 11, 25⟩ [] htab (fun z hz => nomatch hz) (by decide) (by decide) (hts _ w_496) (va_Nw.use rfl (w.2.2.2.2.2.2.1.1 (.castable "java/util/NoSuchElementException" "java/util/NoSuchElementException") (by decide +kernel))) hq9 hv9 hc9 ?_
  refine lv_astore (lv' := [(4, .ref q9), (0, .ref (ad 0)), (1, .long x1), (3, .ref ob)]) hx hb (dq da_L_peek 7 rfl) hl (by decide) rfl (fun ls hl => ?_)
  refine lv_iconst (v := 1) hx hb (dq da_L_peek 8 rfl) rfl ?_
  exact hret E hr hlk w (Nat.le_of_ble_eq_true rfl) (Nat.le_of_ble_eq_true rfl) rfl (dq da_L_peek 9 rfl)
def dl_L_set : List (Nat × Instr × Nat) := [(0, .aload_n 0, 1), (1, .iload_n 1, 1), (2, .lload_n 2, 1), (3, .invokevirtual 31, 3), (6, .goto 7, 3), (9, .astore 4, 2), (11, .iconst 1, 1), (12, .ireturn, 1), (13, .iconst 0, 1), (14, .ireturn, 1)]
theorem da_L_set : dkL cL_set dl_L_set = true := by decide +kernel
set_option maxRecDepth 100000 in
set_option maxHeartbeats 4000000 in
theorem c_L_set_R (l : Launch) (D : va_G) (cy : ClassId × ClassId × ClassId) (ad : Nat → Nat) (x1 : Int32) (x2 : Int64) (u : St) {u' : St} (h : f_X11_set x1 x2 u = some (.inr u')) : MH l yL_set cL_set 5 hh_set 7 105 0 0 D cy ad [] [] [.ref (ad 0), .int x1, .long x2] u u' 0 := by
  refine entH (by decide +kernel) (Nat.le_of_ble_eq_true rfl) ?_
  intro p e s m args below meth c ls rr A E hr hlk htab hl w
  have hl : lv_has ls 5 [(0, .ref (ad 0)), (1, .int x1), (2, .long x2)] := hl
  have hx := E.1
  have hb := E.2.1
  have hown := E.2.2.2.1
  have hts := E.2.2.2.2
  refine lv_aload_n hx hb (dq da_L_set 0 rfl) rfl (lv_at hl 0 rfl) ?_
  refine lv_iload_n hx hb (dq da_L_set 1 rfl) rfl (lv_at hl 1 rfl) ?_
  refine lv_lload_n hx hb (dq da_L_set 2 rfl) rfl (lv_at hl 2 rfl) ?_
  refine zV0 (Wd := wC cy ad) E (c_X11_set l D cy ad _ _ _ h) w_531 w_532 w_533 w_1 w_534 rfl hd_X11_set rfl hl.1 rfl (Nat.le_of_ble_eq_true rfl) ⟨Nat.le_of_ble_eq_true rfl, Nat.le_of_ble_eq_true rfl⟩ ⟨Nat.le_refl _, Nat.le_refl _⟩ w (rc_wC_0 w.x) (dq da_L_set 3 rfl) (fun H locs rr w => ?_)
  refine lv_goto (tgt := 13) hx hb (dq da_L_set 4 rfl) (by decide) ?_
  refine lv_iconst (v := 0) hx hb (dq da_L_set 8 rfl) rfl ?_
  exact hret E hr hlk w (Nat.le_of_ble_eq_true rfl) (Nat.le_of_ble_eq_true rfl) rfl (dq da_L_set 9 rfl)
set_option maxRecDepth 100000 in
set_option maxHeartbeats 4000000 in
theorem c_L_set_T0 (l : Launch) (hca : CatchP) (hl0 : l.stackTraces = false) (D : va_G) (cy : ClassId × ClassId × ClassId) (ad : Nat → Nat) (x1 : Int32) (x2 : Int64) (u : St) (h : f_X11_set x1 x2 u = some (.inl 0)) : MH l yL_set cL_set 5 hh_set 7 105 1 6 D cy ad [] [] [.ref (ad 0), .int x1, .long x2] u u 1 := by
  refine entH (by decide +kernel) (Nat.le_of_ble_eq_true rfl) ?_
  intro p e s m args below meth c ls rr A E hr hlk htab hl w
  have hl : lv_has ls 5 [(0, .ref (ad 0)), (1, .int x1), (2, .long x2)] := hl
  have hx := E.1
  have hb := E.2.1
  have hown := E.2.2.2.1
  have hts := E.2.2.2.2
  refine lv_aload_n hx hb (dq da_L_set 0 rfl) rfl (lv_at hl 0 rfl) ?_
  refine lv_iload_n hx hb (dq da_L_set 1 rfl) rfl (lv_at hl 1 rfl) ?_
  refine lv_lload_n hx hb (dq da_L_set 2 rfl) rfl (lv_at hl 2 rfl) ?_
  refine zT (Wd := wC cy ad) E (c_X11_set_t l hl0 D cy ad _ _ _ h) w_531 w_532 w_533 w_1 w_534 rfl hd_X11_set rfl hl.1 rfl (Nat.le_of_ble_eq_true rfl) ⟨Nat.le_of_ble_eq_true rfl, Nat.le_of_ble_eq_true rfl⟩ ⟨Nat.le_of_ble_eq_true rfl, Nat.le_of_ble_eq_true rfl⟩ w (rc_wC_0 w.x) (dq da_L_set 3 rfl) (fun H locs rr q9 ce w hq9 hv9 hc9 => ?_)
  refine hca p l e _ s m args below meth c H locs _ _ _ RL "java/lang/IllegalArgumentException" "java/lang/IllegalArgumentException" ce q9 3 ls _ hown [] ⟨0, 6, 9, 13⟩ [] htab (fun z hz => nomatch hz) (by decide) (by decide) (hts _ w_379) (va_Nw.use rfl (w.2.2.2.2.2.2.1.1 (.castable "java/lang/IllegalArgumentException" "java/lang/IllegalArgumentException") (by decide +kernel))) hq9 hv9 hc9 ?_
  refine lv_astore (lv' := [(4, .ref q9), (0, .ref (ad 0)), (1, .int x1), (2, .long x2)]) hx hb (dq da_L_set 5 rfl) hl (by decide) rfl (fun ls hl => ?_)
  refine lv_iconst (v := 1) hx hb (dq da_L_set 6 rfl) rfl ?_
  exact hret E hr hlk w (Nat.le_of_ble_eq_true rfl) (Nat.le_of_ble_eq_true rfl) rfl (dq da_L_set 7 rfl)
def dl_L_get : List (Nat × Instr × Nat) := [(0, .aload_n 2, 1), (1, .iconst 0, 1), (2, .aload_n 0, 1), (3, .iload_n 1, 1), (4, .invokevirtual 35, 3), (7, .lastore, 1), (8, .goto 6, 3), (11, .astore_n 3, 1), (12, .iconst 1, 1), (13, .ireturn, 1), (14, .iconst 0, 1), (15, .ireturn, 1)]
theorem da_L_get : dkL cL_get dl_L_get = true := by decide +kernel
set_option maxRecDepth 100000 in
set_option maxHeartbeats 4000000 in
theorem c_L_get_R (l : Launch) (D : va_G) (cy : ClassId × ClassId × ClassId) (ad : Nat → Nat) (ob : Nat) (f : Nat → Int64) (x1 : Int32) (u : St) {r : Int64} (h : f_X11_get x1 u = some (.inr r)) : MH l yL_get cL_get 4 hh_get 7 103 0 0 D cy ad [(ob, .inl (cy.2.2, 1, .inr (.inl f)))] [(ob, .inl (cy.2.2, 1, .inr (.inl (vp_updL f 0 r))))] [.ref (ad 0), .int x1, .ref ob] u u 0 := by
  refine entH (by decide +kernel) (Nat.le_of_ble_eq_true rfl) ?_
  intro p e s m args below meth c ls rr A E hr hlk htab hl w
  have hl : lv_has ls 4 [(0, .ref (ad 0)), (1, .int x1), (2, .ref ob)] := hl
  have hx := E.1
  have hb := E.2.1
  have hown := E.2.2.2.1
  have hts := E.2.2.2.2
  refine lv_aload_n hx hb (dq da_L_get 0 rfl) rfl (lv_at hl 2 rfl) ?_
  refine lv_iconst (v := 0) hx hb (dq da_L_get 1 rfl) rfl ?_
  refine lv_aload_n hx hb (dq da_L_get 2 rfl) rfl (lv_at hl 0 rfl) ?_
  refine lv_iload_n hx hb (dq da_L_get 3 rfl) rfl (lv_at hl 1 rfl) ?_
  refine zV1 (Wd := wC cy ad) E (c_X11_get l D cy ad _ _ h) w_540 w_541 w_542 w_1 w_543 rfl hd_X11_get rfl hl.1 rfl (Nat.le_of_ble_eq_true rfl) ⟨Nat.le_of_ble_eq_true rfl, Nat.le_of_ble_eq_true rfl⟩ ⟨Nat.le_refl _, Nat.le_refl _⟩ w (rc_wC_0 w.x) (dq da_L_get 4 rfl) (fun H locs rr w => ?_)
  refine zst E w (dq da_L_get 5 rfl) (fun H locs w => ?_)
  refine lv_goto (tgt := 14) hx hb (dq da_L_get 6 rfl) (by decide) ?_
  refine lv_iconst (v := 0) hx hb (dq da_L_get 10 rfl) rfl ?_
  exact hret E hr hlk w (Nat.le_of_ble_eq_true rfl) (Nat.le_of_ble_eq_true rfl) rfl (dq da_L_get 11 rfl)
set_option maxRecDepth 100000 in
set_option maxHeartbeats 4000000 in
theorem c_L_get_T0 (l : Launch) (hca : CatchP) (hl0 : l.stackTraces = false) (D : va_G) (cy : ClassId × ClassId × ClassId) (ad : Nat → Nat) (ob : Nat) (f : Nat → Int64) (x1 : Int32) (u : St) (h : f_X11_get x1 u = some (.inl 0)) : MH l yL_get cL_get 4 hh_get 7 103 1 6 D cy ad [(ob, .inl (cy.2.2, 1, .inr (.inl f)))] [(ob, .inl (cy.2.2, 1, .inr (.inl f)))] [.ref (ad 0), .int x1, .ref ob] u u 1 := by
  refine entH (by decide +kernel) (Nat.le_of_ble_eq_true rfl) ?_
  intro p e s m args below meth c ls rr A E hr hlk htab hl w
  have hl : lv_has ls 4 [(0, .ref (ad 0)), (1, .int x1), (2, .ref ob)] := hl
  have hx := E.1
  have hb := E.2.1
  have hown := E.2.2.2.1
  have hts := E.2.2.2.2
  refine lv_aload_n hx hb (dq da_L_get 0 rfl) rfl (lv_at hl 2 rfl) ?_
  refine lv_iconst (v := 0) hx hb (dq da_L_get 1 rfl) rfl ?_
  refine lv_aload_n hx hb (dq da_L_get 2 rfl) rfl (lv_at hl 0 rfl) ?_
  refine lv_iload_n hx hb (dq da_L_get 3 rfl) rfl (lv_at hl 1 rfl) ?_
  refine zT (Wd := wC cy ad) E (c_X11_get_t l hl0 D cy ad _ _ h) w_540 w_541 w_542 w_1 w_543 rfl hd_X11_get rfl hl.1 rfl (Nat.le_of_ble_eq_true rfl) ⟨Nat.le_of_ble_eq_true rfl, Nat.le_of_ble_eq_true rfl⟩ ⟨Nat.le_of_ble_eq_true rfl, Nat.le_of_ble_eq_true rfl⟩ w (rc_wC_0 w.x) (dq da_L_get 4 rfl) (fun H locs rr q9 ce w hq9 hv9 hc9 => ?_)
  refine hca p l e _ s m args below meth c H locs _ _ _ RL "java/lang/IllegalArgumentException" "java/lang/IllegalArgumentException" ce q9 4 ls _ hown [] ⟨0, 8, 11, 13⟩ [] htab (fun z hz => nomatch hz) (by decide) (by decide) (hts _ w_379) (va_Nw.use rfl (w.2.2.2.2.2.2.1.1 (.castable "java/lang/IllegalArgumentException" "java/lang/IllegalArgumentException") (by decide +kernel))) hq9 hv9 hc9 ?_
  refine lv_astore_n (lv' := [(3, .ref q9), (0, .ref (ad 0)), (1, .int x1), (2, .ref ob)]) hx hb (dq da_L_get 7 rfl) rfl hl (by decide) rfl (fun ls hl => ?_)
  refine lv_iconst (v := 1) hx hb (dq da_L_get 8 rfl) rfl ?_
  exact hret E hr hlk w (Nat.le_of_ble_eq_true rfl) (Nat.le_of_ble_eq_true rfl) rfl (dq da_L_get 9 rfl)
def dl_L_lower : List (Nat × Instr × Nat) := [(0, .aload_n 0, 1), (1, .iload_n 1, 1), (2, .invokevirtual 39, 3), (5, .goto 6, 3), (8, .astore_n 2, 1), (9, .iconst 1, 1), (10, .ireturn, 1), (11, .iconst 0, 1), (12, .ireturn, 1)]
theorem da_L_lower : dkL cL_lower dl_L_lower = true := by decide +kernel
set_option maxRecDepth 100000 in
set_option maxHeartbeats 4000000 in
theorem c_L_lower_R (l : Launch) (D : va_G) (cy : ClassId × ClassId × ClassId) (ad : Nat → Nat) (x1 : Int32) (u : St) {u' : St} (h : f_X11_lower x1 u = some (.inr u')) : MH l yL_lower cL_lower 3 hh_lower 7 103 0 0 D cy ad [] [] [.ref (ad 0), .int x1] u u' 0 := by
  refine entH (by decide +kernel) (Nat.le_of_ble_eq_true rfl) ?_
  intro p e s m args below meth c ls rr A E hr hlk htab hl w
  have hl : lv_has ls 3 [(0, .ref (ad 0)), (1, .int x1)] := hl
  have hx := E.1
  have hb := E.2.1
  have hown := E.2.2.2.1
  have hts := E.2.2.2.2
  refine lv_aload_n hx hb (dq da_L_lower 0 rfl) rfl (lv_at hl 0 rfl) ?_
  refine lv_iload_n hx hb (dq da_L_lower 1 rfl) rfl (lv_at hl 1 rfl) ?_
  refine zV0 (Wd := wC cy ad) E (c_X11_lower l D cy ad _ _ h) w_547 w_548 w_549 w_1 w_550 rfl hd_X11_lower rfl hl.1 rfl (Nat.le_of_ble_eq_true rfl) ⟨Nat.le_of_ble_eq_true rfl, Nat.le_of_ble_eq_true rfl⟩ ⟨Nat.le_refl _, Nat.le_refl _⟩ w (rc_wC_0 w.x) (dq da_L_lower 2 rfl) (fun H locs rr w => ?_)
  refine lv_goto (tgt := 11) hx hb (dq da_L_lower 3 rfl) (by decide) ?_
  refine lv_iconst (v := 0) hx hb (dq da_L_lower 7 rfl) rfl ?_
  exact hret E hr hlk w (Nat.le_of_ble_eq_true rfl) (Nat.le_of_ble_eq_true rfl) rfl (dq da_L_lower 8 rfl)
set_option maxRecDepth 100000 in
set_option maxHeartbeats 4000000 in
theorem c_L_lower_T0 (l : Launch) (hca : CatchP) (hl0 : l.stackTraces = false) (D : va_G) (cy : ClassId × ClassId × ClassId) (ad : Nat → Nat) (x1 : Int32) (u : St) (h : f_X11_lower x1 u = some (.inl 0)) : MH l yL_lower cL_lower 3 hh_lower 7 103 1 6 D cy ad [] [] [.ref (ad 0), .int x1] u u 1 := by
  refine entH (by decide +kernel) (Nat.le_of_ble_eq_true rfl) ?_
  intro p e s m args below meth c ls rr A E hr hlk htab hl w
  have hl : lv_has ls 3 [(0, .ref (ad 0)), (1, .int x1)] := hl
  have hx := E.1
  have hb := E.2.1
  have hown := E.2.2.2.1
  have hts := E.2.2.2.2
  refine lv_aload_n hx hb (dq da_L_lower 0 rfl) rfl (lv_at hl 0 rfl) ?_
  refine lv_iload_n hx hb (dq da_L_lower 1 rfl) rfl (lv_at hl 1 rfl) ?_
  refine zT (Wd := wC cy ad) E (c_X11_lower_t l hl0 D cy ad _ _ h) w_547 w_548 w_549 w_1 w_550 rfl hd_X11_lower rfl hl.1 rfl (Nat.le_of_ble_eq_true rfl) ⟨Nat.le_of_ble_eq_true rfl, Nat.le_of_ble_eq_true rfl⟩ ⟨Nat.le_of_ble_eq_true rfl, Nat.le_of_ble_eq_true rfl⟩ w (rc_wC_0 w.x) (dq da_L_lower 2 rfl) (fun H locs rr q9 ce w hq9 hv9 hc9 => ?_)
  refine hca p l e _ s m args below meth c H locs _ _ _ RL "java/lang/IllegalArgumentException" "java/lang/IllegalArgumentException" ce q9 2 ls _ hown [] ⟨0, 5, 8, 13⟩ [] htab (fun z hz => nomatch hz) (by decide) (by decide) (hts _ w_379) (va_Nw.use rfl (w.2.2.2.2.2.2.1.1 (.castable "java/lang/IllegalArgumentException" "java/lang/IllegalArgumentException") (by decide +kernel))) hq9 hv9 hc9 ?_
  refine lv_astore_n (lv' := [(2, .ref q9), (0, .ref (ad 0)), (1, .int x1)]) hx hb (dq da_L_lower 4 rfl) rfl hl (by decide) rfl (fun ls hl => ?_)
  refine lv_iconst (v := 1) hx hb (dq da_L_lower 5 rfl) rfl ?_
  exact hret E hr hlk w (Nat.le_of_ble_eq_true rfl) (Nat.le_of_ble_eq_true rfl) rfl (dq da_L_lower 6 rfl)
def dl_L_control : List (Nat × Instr × Nat) := [(0, .aload_n 2, 1), (1, .iconst 0, 1), (2, .aload_n 0, 1), (3, .iload_n 1, 1), (4, .invokevirtual 43, 3), (7, .lastore, 1), (8, .goto 6, 3), (11, .astore_n 3, 1), (12, .iconst 1, 1), (13, .ireturn, 1), (14, .iconst 0, 1), (15, .ireturn, 1)]
theorem da_L_control : dkL cL_control dl_L_control = true := by decide +kernel
set_option maxRecDepth 100000 in
set_option maxHeartbeats 4000000 in
theorem c_L_control_R (l : Launch) (D : va_G) (cy : ClassId × ClassId × ClassId) (ad : Nat → Nat) (ob : Nat) (f : Nat → Int64) (x1 : Int32) (u : St) {r : Int64} (h : f_X11_control x1 u = some (.inr r)) : MH l yL_control cL_control 4 hh_control 7 103 0 0 D cy ad [(ob, .inl (cy.2.2, 1, .inr (.inl f)))] [(ob, .inl (cy.2.2, 1, .inr (.inl (vp_updL f 0 r))))] [.ref (ad 0), .int x1, .ref ob] u u 0 := by
  refine entH (by decide +kernel) (Nat.le_of_ble_eq_true rfl) ?_
  intro p e s m args below meth c ls rr A E hr hlk htab hl w
  have hl : lv_has ls 4 [(0, .ref (ad 0)), (1, .int x1), (2, .ref ob)] := hl
  have hx := E.1
  have hb := E.2.1
  have hown := E.2.2.2.1
  have hts := E.2.2.2.2
  refine lv_aload_n hx hb (dq da_L_control 0 rfl) rfl (lv_at hl 2 rfl) ?_
  refine lv_iconst (v := 0) hx hb (dq da_L_control 1 rfl) rfl ?_
  refine lv_aload_n hx hb (dq da_L_control 2 rfl) rfl (lv_at hl 0 rfl) ?_
  refine lv_iload_n hx hb (dq da_L_control 3 rfl) rfl (lv_at hl 1 rfl) ?_
  refine zV1 (Wd := wC cy ad) E (c_X11_control l D cy ad _ _ h) w_555 w_556 w_557 w_1 w_558 rfl hd_X11_control rfl hl.1 rfl (Nat.le_of_ble_eq_true rfl) ⟨Nat.le_of_ble_eq_true rfl, Nat.le_of_ble_eq_true rfl⟩ ⟨Nat.le_refl _, Nat.le_refl _⟩ w (rc_wC_0 w.x) (dq da_L_control 4 rfl) (fun H locs rr w => ?_)
  refine zst E w (dq da_L_control 5 rfl) (fun H locs w => ?_)
  refine lv_goto (tgt := 14) hx hb (dq da_L_control 6 rfl) (by decide) ?_
  refine lv_iconst (v := 0) hx hb (dq da_L_control 10 rfl) rfl ?_
  exact hret E hr hlk w (Nat.le_of_ble_eq_true rfl) (Nat.le_of_ble_eq_true rfl) rfl (dq da_L_control 11 rfl)
set_option maxRecDepth 100000 in
set_option maxHeartbeats 4000000 in
theorem c_L_control_T0 (l : Launch) (hca : CatchP) (hl0 : l.stackTraces = false) (D : va_G) (cy : ClassId × ClassId × ClassId) (ad : Nat → Nat) (ob : Nat) (f : Nat → Int64) (x1 : Int32) (u : St) (h : f_X11_control x1 u = some (.inl 0)) : MH l yL_control cL_control 4 hh_control 7 103 1 6 D cy ad [(ob, .inl (cy.2.2, 1, .inr (.inl f)))] [(ob, .inl (cy.2.2, 1, .inr (.inl f)))] [.ref (ad 0), .int x1, .ref ob] u u 1 := by
  refine entH (by decide +kernel) (Nat.le_of_ble_eq_true rfl) ?_
  intro p e s m args below meth c ls rr A E hr hlk htab hl w
  have hl : lv_has ls 4 [(0, .ref (ad 0)), (1, .int x1), (2, .ref ob)] := hl
  have hx := E.1
  have hb := E.2.1
  have hown := E.2.2.2.1
  have hts := E.2.2.2.2
  refine lv_aload_n hx hb (dq da_L_control 0 rfl) rfl (lv_at hl 2 rfl) ?_
  refine lv_iconst (v := 0) hx hb (dq da_L_control 1 rfl) rfl ?_
  refine lv_aload_n hx hb (dq da_L_control 2 rfl) rfl (lv_at hl 0 rfl) ?_
  refine lv_iload_n hx hb (dq da_L_control 3 rfl) rfl (lv_at hl 1 rfl) ?_
  refine zT (Wd := wC cy ad) E (c_X11_control_t l hl0 D cy ad _ _ h) w_555 w_556 w_557 w_1 w_558 rfl hd_X11_control rfl hl.1 rfl (Nat.le_of_ble_eq_true rfl) ⟨Nat.le_of_ble_eq_true rfl, Nat.le_of_ble_eq_true rfl⟩ ⟨Nat.le_of_ble_eq_true rfl, Nat.le_of_ble_eq_true rfl⟩ w (rc_wC_0 w.x) (dq da_L_control 4 rfl) (fun H locs rr q9 ce w hq9 hv9 hc9 => ?_)
  refine hca p l e _ s m args below meth c H locs _ _ _ RL "java/lang/IllegalArgumentException" "java/lang/IllegalArgumentException" ce q9 4 ls _ hown [] ⟨0, 8, 11, 13⟩ [] htab (fun z hz => nomatch hz) (by decide) (by decide) (hts _ w_379) (va_Nw.use rfl (w.2.2.2.2.2.2.1.1 (.castable "java/lang/IllegalArgumentException" "java/lang/IllegalArgumentException") (by decide +kernel))) hq9 hv9 hc9 ?_
  refine lv_astore_n (lv' := [(3, .ref q9), (0, .ref (ad 0)), (1, .int x1), (2, .ref ob)]) hx hb (dq da_L_control 7 rfl) rfl hl (by decide) rfl (fun ls hl => ?_)
  refine lv_iconst (v := 1) hx hb (dq da_L_control 8 rfl) rfl ?_
  exact hret E hr hlk w (Nat.le_of_ble_eq_true rfl) (Nat.le_of_ble_eq_true rfl) rfl (dq da_L_control 9 rfl)
def dl_L_order : List (Nat × Instr × Nat) := [(0, .aload_n 0, 1), (1, .iload_n 1, 1), (2, .lload_n 2, 1), (3, .invokevirtual 46, 3), (6, .goto 7, 3), (9, .astore 4, 2), (11, .iconst 1, 1), (12, .ireturn, 1), (13, .iconst 0, 1), (14, .ireturn, 1)]
theorem da_L_order : dkL cL_order dl_L_order = true := by decide +kernel
set_option maxRecDepth 100000 in
set_option maxHeartbeats 4000000 in
theorem c_L_order_R (l : Launch) (D : va_G) (cy : ClassId × ClassId × ClassId) (ad : Nat → Nat) (x1 : Int32) (x2 : Int64) (u : St) {u' : St} (h : f_X11_order x1 x2 u = some (.inr u')) : MH l yL_order cL_order 5 hh_order 7 105 0 0 D cy ad [] [] [.ref (ad 0), .int x1, .long x2] u u' 0 := by
  refine entH (by decide +kernel) (Nat.le_of_ble_eq_true rfl) ?_
  intro p e s m args below meth c ls rr A E hr hlk htab hl w
  have hl : lv_has ls 5 [(0, .ref (ad 0)), (1, .int x1), (2, .long x2)] := hl
  have hx := E.1
  have hb := E.2.1
  have hown := E.2.2.2.1
  have hts := E.2.2.2.2
  refine lv_aload_n hx hb (dq da_L_order 0 rfl) rfl (lv_at hl 0 rfl) ?_
  refine lv_iload_n hx hb (dq da_L_order 1 rfl) rfl (lv_at hl 1 rfl) ?_
  refine lv_lload_n hx hb (dq da_L_order 2 rfl) rfl (lv_at hl 2 rfl) ?_
  refine zV0 (Wd := wC cy ad) E (c_X11_order l D cy ad _ _ _ h) w_594 w_595 w_596 w_1 w_597 rfl hd_X11_order rfl hl.1 rfl (Nat.le_of_ble_eq_true rfl) ⟨Nat.le_of_ble_eq_true rfl, Nat.le_of_ble_eq_true rfl⟩ ⟨Nat.le_refl _, Nat.le_refl _⟩ w (rc_wC_0 w.x) (dq da_L_order 3 rfl) (fun H locs rr w => ?_)
  refine lv_goto (tgt := 13) hx hb (dq da_L_order 4 rfl) (by decide) ?_
  refine lv_iconst (v := 0) hx hb (dq da_L_order 8 rfl) rfl ?_
  exact hret E hr hlk w (Nat.le_of_ble_eq_true rfl) (Nat.le_of_ble_eq_true rfl) rfl (dq da_L_order 9 rfl)
set_option maxRecDepth 100000 in
set_option maxHeartbeats 4000000 in
theorem c_L_order_T0 (l : Launch) (hca : CatchP) (hl0 : l.stackTraces = false) (D : va_G) (cy : ClassId × ClassId × ClassId) (ad : Nat → Nat) (x1 : Int32) (x2 : Int64) (u : St) (h : f_X11_order x1 x2 u = some (.inl 0)) : MH l yL_order cL_order 5 hh_order 7 105 1 6 D cy ad [] [] [.ref (ad 0), .int x1, .long x2] u u 1 := by
  refine entH (by decide +kernel) (Nat.le_of_ble_eq_true rfl) ?_
  intro p e s m args below meth c ls rr A E hr hlk htab hl w
  have hl : lv_has ls 5 [(0, .ref (ad 0)), (1, .int x1), (2, .long x2)] := hl
  have hx := E.1
  have hb := E.2.1
  have hown := E.2.2.2.1
  have hts := E.2.2.2.2
  refine lv_aload_n hx hb (dq da_L_order 0 rfl) rfl (lv_at hl 0 rfl) ?_
  refine lv_iload_n hx hb (dq da_L_order 1 rfl) rfl (lv_at hl 1 rfl) ?_
  refine lv_lload_n hx hb (dq da_L_order 2 rfl) rfl (lv_at hl 2 rfl) ?_
  refine zT (Wd := wC cy ad) E (c_X11_order_t l hl0 D cy ad _ _ _ h) w_594 w_595 w_596 w_1 w_597 rfl hd_X11_order rfl hl.1 rfl (Nat.le_of_ble_eq_true rfl) ⟨Nat.le_of_ble_eq_true rfl, Nat.le_of_ble_eq_true rfl⟩ ⟨Nat.le_of_ble_eq_true rfl, Nat.le_of_ble_eq_true rfl⟩ w (rc_wC_0 w.x) (dq da_L_order 3 rfl) (fun H locs rr q9 ce w hq9 hv9 hc9 => ?_)
  refine hca p l e _ s m args below meth c H locs _ _ _ RL "java/lang/IllegalArgumentException" "java/lang/IllegalArgumentException" ce q9 3 ls _ hown [] ⟨0, 6, 9, 13⟩ [] htab (fun z hz => nomatch hz) (by decide) (by decide) (hts _ w_379) (va_Nw.use rfl (w.2.2.2.2.2.2.1.1 (.castable "java/lang/IllegalArgumentException" "java/lang/IllegalArgumentException") (by decide +kernel))) hq9 hv9 hc9 ?_
  refine lv_astore (lv' := [(4, .ref q9), (0, .ref (ad 0)), (1, .int x1), (2, .long x2)]) hx hb (dq da_L_order 5 rfl) hl (by decide) rfl (fun ls hl => ?_)
  refine lv_iconst (v := 1) hx hb (dq da_L_order 6 rfl) rfl ?_
  exact hret E hr hlk w (Nat.le_of_ble_eq_true rfl) (Nat.le_of_ble_eq_true rfl) rfl (dq da_L_order 7 rfl)
def dl_L_raise : List (Nat × Instr × Nat) := [(0, .aload_n 0, 1), (1, .iload_n 1, 1), (2, .iload_n 2, 1), (3, .invokevirtual 49, 3), (6, .goto 6, 3), (9, .astore_n 3, 1), (10, .iconst 1, 1), (11, .ireturn, 1), (12, .iconst 0, 1), (13, .ireturn, 1)]
theorem da_L_raise : dkL cL_raise dl_L_raise = true := by decide +kernel
set_option maxRecDepth 100000 in
set_option maxHeartbeats 4000000 in
theorem c_L_raise_R (l : Launch) (D : va_G) (cy : ClassId × ClassId × ClassId) (ad : Nat → Nat) (x1 : Int32) (x2 : Int32) (u : St) {u' : St} (h : f_X11_raise x1 x2 u = some (.inr u')) : MH l yL_raise cL_raise 4 hh_raise 7 104 0 0 D cy ad [] [] [.ref (ad 0), .int x1, .int x2] u u' 0 := by
  refine entH (by decide +kernel) (Nat.le_of_ble_eq_true rfl) ?_
  intro p e s m args below meth c ls rr A E hr hlk htab hl w
  have hl : lv_has ls 4 [(0, .ref (ad 0)), (1, .int x1), (2, .int x2)] := hl
  have hx := E.1
  have hb := E.2.1
  have hown := E.2.2.2.1
  have hts := E.2.2.2.2
  refine lv_aload_n hx hb (dq da_L_raise 0 rfl) rfl (lv_at hl 0 rfl) ?_
  refine lv_iload_n hx hb (dq da_L_raise 1 rfl) rfl (lv_at hl 1 rfl) ?_
  refine lv_iload_n hx hb (dq da_L_raise 2 rfl) rfl (lv_at hl 2 rfl) ?_
  refine zV0 (Wd := wC cy ad) E (c_X11_raise l D cy ad _ _ _ h) w_636 w_637 w_638 w_1 w_639 rfl hd_X11_raise rfl hl.1 rfl (Nat.le_of_ble_eq_true rfl) ⟨Nat.le_of_ble_eq_true rfl, Nat.le_of_ble_eq_true rfl⟩ ⟨Nat.le_refl _, Nat.le_refl _⟩ w (rc_wC_0 w.x) (dq da_L_raise 3 rfl) (fun H locs rr w => ?_)
  refine lv_goto (tgt := 12) hx hb (dq da_L_raise 4 rfl) (by decide) ?_
  refine lv_iconst (v := 0) hx hb (dq da_L_raise 8 rfl) rfl ?_
  exact hret E hr hlk w (Nat.le_of_ble_eq_true rfl) (Nat.le_of_ble_eq_true rfl) rfl (dq da_L_raise 9 rfl)
set_option maxRecDepth 100000 in
set_option maxHeartbeats 4000000 in
theorem c_L_raise_T0 (l : Launch) (hca : CatchP) (hl0 : l.stackTraces = false) (D : va_G) (cy : ClassId × ClassId × ClassId) (ad : Nat → Nat) (x1 : Int32) (x2 : Int32) (u : St) (h : f_X11_raise x1 x2 u = some (.inl 0)) : MH l yL_raise cL_raise 4 hh_raise 7 104 1 6 D cy ad [] [] [.ref (ad 0), .int x1, .int x2] u u 1 := by
  refine entH (by decide +kernel) (Nat.le_of_ble_eq_true rfl) ?_
  intro p e s m args below meth c ls rr A E hr hlk htab hl w
  have hl : lv_has ls 4 [(0, .ref (ad 0)), (1, .int x1), (2, .int x2)] := hl
  have hx := E.1
  have hb := E.2.1
  have hown := E.2.2.2.1
  have hts := E.2.2.2.2
  refine lv_aload_n hx hb (dq da_L_raise 0 rfl) rfl (lv_at hl 0 rfl) ?_
  refine lv_iload_n hx hb (dq da_L_raise 1 rfl) rfl (lv_at hl 1 rfl) ?_
  refine lv_iload_n hx hb (dq da_L_raise 2 rfl) rfl (lv_at hl 2 rfl) ?_
  refine zT (Wd := wC cy ad) E (c_X11_raise_t l hl0 D cy ad _ _ _ h) w_636 w_637 w_638 w_1 w_639 rfl hd_X11_raise rfl hl.1 rfl (Nat.le_of_ble_eq_true rfl) ⟨Nat.le_of_ble_eq_true rfl, Nat.le_of_ble_eq_true rfl⟩ ⟨Nat.le_of_ble_eq_true rfl, Nat.le_of_ble_eq_true rfl⟩ w (rc_wC_0 w.x) (dq da_L_raise 3 rfl) (fun H locs rr q9 ce w hq9 hv9 hc9 => ?_)
  refine hca p l e _ s m args below meth c H locs _ _ _ RL "java/lang/IllegalArgumentException" "java/lang/IllegalArgumentException" ce q9 3 ls _ hown [] ⟨0, 6, 9, 13⟩ [] htab (fun z hz => nomatch hz) (by decide) (by decide) (hts _ w_379) (va_Nw.use rfl (w.2.2.2.2.2.2.1.1 (.castable "java/lang/IllegalArgumentException" "java/lang/IllegalArgumentException") (by decide +kernel))) hq9 hv9 hc9 ?_
  refine lv_astore_n (lv' := [(3, .ref q9), (0, .ref (ad 0)), (1, .int x1), (2, .int x2)]) hx hb (dq da_L_raise 5 rfl) rfl hl (by decide) rfl (fun ls hl => ?_)
  refine lv_iconst (v := 1) hx hb (dq da_L_raise 6 rfl) rfl ?_
  exact hret E hr hlk w (Nat.le_of_ble_eq_true rfl) (Nat.le_of_ble_eq_true rfl) rfl (dq da_L_raise 7 rfl)
def dl_L_step : List (Nat × Instr × Nat) := [(0, .aload_n 2, 1), (1, .iconst 0, 1), (2, .aload_n 0, 1), (3, .iload_n 1, 1), (4, .invokevirtual 53, 3), (7, .i2l, 1), (8, .lastore, 1), (9, .goto 6, 3), (12, .astore_n 3, 1), (13, .iconst 1, 1), (14, .ireturn, 1), (15, .iconst 0, 1), (16, .ireturn, 1)]
theorem da_L_step : dkL cL_step dl_L_step = true := by decide +kernel
set_option maxRecDepth 100000 in
set_option maxHeartbeats 4000000 in
theorem c_L_step_R (l : Launch) (D : va_G) (cy : ClassId × ClassId × ClassId) (ad : Nat → Nat) (ob : Nat) (f : Nat → Int64) (x1 : Int32) (u : St) {r : Int32} {u' : St} {k' : Nat} (h : f_X11_step x1 u = some (.inr (r, u', k'))) : MH l yL_step cL_step 4 hh_step 8 196 k' k' D cy ad [(ob, .inl (cy.2.2, 1, .inr (.inl f)))] [(ob, .inl (cy.2.2, 1, .inr (.inl (vp_updL f 0 r.toInt64))))] [.ref (ad 0), .int x1, .ref ob] u u' 0 := by
  refine entH (by decide +kernel) (Nat.le_of_ble_eq_true rfl) ?_
  intro p e s m args below meth c ls rr A E hr hlk htab hl w
  have hl : lv_has ls 4 [(0, .ref (ad 0)), (1, .int x1), (2, .ref ob)] := hl
  have hx := E.1
  have hb := E.2.1
  have hown := E.2.2.2.1
  have hts := E.2.2.2.2
  refine lv_aload_n hx hb (dq da_L_step 0 rfl) rfl (lv_at hl 2 rfl) ?_
  refine lv_iconst (v := 0) hx hb (dq da_L_step 1 rfl) rfl ?_
  refine lv_aload_n hx hb (dq da_L_step 2 rfl) rfl (lv_at hl 0 rfl) ?_
  refine lv_iload_n hx hb (dq da_L_step 3 rfl) rfl (lv_at hl 1 rfl) ?_
  refine zV1 (Wd := wC cy ad) E (c_X11_step l D cy ad _ _ h) w_648 w_649 w_650 w_1 w_651 rfl hd_X11_step rfl hl.1 rfl (Nat.le_of_ble_eq_true rfl) ⟨Nat.le_of_ble_eq_true rfl, Nat.le_of_ble_eq_true rfl⟩ ⟨Nat.le_of_eq (Nat.zero_add _), Nat.le_of_eq (Nat.zero_add _)⟩ w (rc_wC_0 w.x) (dq da_L_step 4 rfl) (fun H locs rr w => ?_)
  refine lv_i2l (v := r.toInt64) hx hb (dq da_L_step 5 rfl) rfl ?_
  refine zst E w (dq da_L_step 6 rfl) (fun H locs w => ?_)
  refine lv_goto (tgt := 15) hx hb (dq da_L_step 7 rfl) (by decide) ?_
  refine lv_iconst (v := 0) hx hb (dq da_L_step 11 rfl) rfl ?_
  exact hret E hr hlk w (Nat.le_of_eq (Nat.zero_add _)) (Nat.le_of_eq (Nat.zero_add _)) rfl (dq da_L_step 12 rfl)
set_option maxRecDepth 100000 in
set_option maxHeartbeats 4000000 in
theorem c_L_step_T0 (l : Launch) (hca : CatchP) (hl0 : l.stackTraces = false) (D : va_G) (cy : ClassId × ClassId × ClassId) (ad : Nat → Nat) (ob : Nat) (f : Nat → Int64) (x1 : Int32) (u : St) (h : f_X11_step x1 u = some (.inl 0)) : MH l yL_step cL_step 4 hh_step 8 196 1 6 D cy ad [(ob, .inl (cy.2.2, 1, .inr (.inl f)))] [(ob, .inl (cy.2.2, 1, .inr (.inl f)))] [.ref (ad 0), .int x1, .ref ob] u u 1 := by
  refine entH (by decide +kernel) (Nat.le_of_ble_eq_true rfl) ?_
  intro p e s m args below meth c ls rr A E hr hlk htab hl w
  have hl : lv_has ls 4 [(0, .ref (ad 0)), (1, .int x1), (2, .ref ob)] := hl
  have hx := E.1
  have hb := E.2.1
  have hown := E.2.2.2.1
  have hts := E.2.2.2.2
  refine lv_aload_n hx hb (dq da_L_step 0 rfl) rfl (lv_at hl 2 rfl) ?_
  refine lv_iconst (v := 0) hx hb (dq da_L_step 1 rfl) rfl ?_
  refine lv_aload_n hx hb (dq da_L_step 2 rfl) rfl (lv_at hl 0 rfl) ?_
  refine lv_iload_n hx hb (dq da_L_step 3 rfl) rfl (lv_at hl 1 rfl) ?_
  refine zT (Wd := wC cy ad) E (c_X11_step_t l hl0 D cy ad _ _ h) w_648 w_649 w_650 w_1 w_651 rfl hd_X11_step rfl hl.1 rfl (Nat.le_of_ble_eq_true rfl) ⟨Nat.le_of_ble_eq_true rfl, Nat.le_of_ble_eq_true rfl⟩ ⟨Nat.le_of_ble_eq_true rfl, Nat.le_of_ble_eq_true rfl⟩ w (rc_wC_0 w.x) (dq da_L_step 4 rfl) (fun H locs rr q9 ce w hq9 hv9 hc9 => ?_)
  refine hca p l e _ s m args below meth c H locs _ _ _ RL "java/lang/IllegalArgumentException" "java/lang/IllegalArgumentException" ce q9 4 ls _ hown [] ⟨0, 9, 12, 13⟩ [] htab (fun z hz => nomatch hz) (by decide) (by decide) (hts _ w_379) (va_Nw.use rfl (w.2.2.2.2.2.2.1.1 (.castable "java/lang/IllegalArgumentException" "java/lang/IllegalArgumentException") (by decide +kernel))) hq9 hv9 hc9 ?_
  refine lv_astore_n (lv' := [(3, .ref q9), (0, .ref (ad 0)), (1, .int x1), (2, .ref ob)]) hx hb (dq da_L_step 8 rfl) rfl hl (by decide) rfl (fun ls hl => ?_)
  refine lv_iconst (v := 1) hx hb (dq da_L_step 9 rfl) rfl ?_
  exact hret E hr hlk w (Nat.le_of_ble_eq_true rfl) (Nat.le_of_ble_eq_true rfl) rfl (dq da_L_step 10 rfl)
def dl_L_translate : List (Nat × Instr × Nat) := [(0, .aload 4, 2), (2, .iconst 0, 1), (3, .aload_n 0, 1), (4, .lload_n 1, 1), (5, .iload_n 3, 1), (6, .invokevirtual 57, 3), (9, .lastore, 1), (10, .goto 7, 3), (13, .astore 5, 2), (15, .iconst 1, 1), (16, .ireturn, 1), (17, .iconst 0, 1), (18, .ireturn, 1)]
theorem da_L_translate : dkL cL_translate dl_L_translate = true := by decide +kernel
set_option maxRecDepth 100000 in
set_option maxHeartbeats 4000000 in
theorem c_L_translate_R (l : Launch) (D : va_G) (cy : ClassId × ClassId × ClassId) (ad : Nat → Nat) (ob : Nat) (f : Nat → Int64) (x1 : Int64) (x3 : Int32) (u : St) {r : Int64} (h : f_X11_translate x1 x3 u = some (.inr r)) : MH l yL_translate cL_translate 6 hh_translate 7 106 0 0 D cy ad [(ob, .inl (cy.2.2, 1, .inr (.inl f)))] [(ob, .inl (cy.2.2, 1, .inr (.inl (vp_updL f 0 r))))] [.ref (ad 0), .long x1, .int x3, .ref ob] u u 0 := by
  refine entH (by decide +kernel) (Nat.le_of_ble_eq_true rfl) ?_
  intro p e s m args below meth c ls rr A E hr hlk htab hl w
  have hl : lv_has ls 6 [(0, .ref (ad 0)), (1, .long x1), (3, .int x3), (4, .ref ob)] := hl
  have hx := E.1
  have hb := E.2.1
  have hown := E.2.2.2.1
  have hts := E.2.2.2.2
  refine lv_aload hx hb (dq da_L_translate 0 rfl) (lv_at hl 3 rfl) ?_
  refine lv_iconst (v := 0) hx hb (dq da_L_translate 1 rfl) rfl ?_
  refine lv_aload_n hx hb (dq da_L_translate 2 rfl) rfl (lv_at hl 0 rfl) ?_
  refine lv_lload_n hx hb (dq da_L_translate 3 rfl) rfl (lv_at hl 1 rfl) ?_
  refine lv_iload_n hx hb (dq da_L_translate 4 rfl) rfl (lv_at hl 2 rfl) ?_
  refine zV1 (Wd := wC cy ad) E (c_X11_translate l D cy ad _ _ _ h) w_1054 w_1055 w_1056 w_1 w_1057 rfl hd_X11_translate rfl hl.1 rfl (Nat.le_of_ble_eq_true rfl) ⟨Nat.le_of_ble_eq_true rfl, Nat.le_of_ble_eq_true rfl⟩ ⟨Nat.le_refl _, Nat.le_refl _⟩ w (rc_wC_0 w.x) (dq da_L_translate 5 rfl) (fun H locs rr w => ?_)
  refine zst E w (dq da_L_translate 6 rfl) (fun H locs w => ?_)
  refine lv_goto (tgt := 17) hx hb (dq da_L_translate 7 rfl) (by decide) ?_
  refine lv_iconst (v := 0) hx hb (dq da_L_translate 11 rfl) rfl ?_
  exact hret E hr hlk w (Nat.le_of_ble_eq_true rfl) (Nat.le_of_ble_eq_true rfl) rfl (dq da_L_translate 12 rfl)
set_option maxRecDepth 100000 in
set_option maxHeartbeats 4000000 in
theorem c_L_translate_T0 (l : Launch) (hca : CatchP) (hl0 : l.stackTraces = false) (D : va_G) (cy : ClassId × ClassId × ClassId) (ad : Nat → Nat) (ob : Nat) (f : Nat → Int64) (x1 : Int64) (x3 : Int32) (u : St) (h : f_X11_translate x1 x3 u = some (.inl 0)) : MH l yL_translate cL_translate 6 hh_translate 7 106 1 6 D cy ad [(ob, .inl (cy.2.2, 1, .inr (.inl f)))] [(ob, .inl (cy.2.2, 1, .inr (.inl f)))] [.ref (ad 0), .long x1, .int x3, .ref ob] u u 1 := by
  refine entH (by decide +kernel) (Nat.le_of_ble_eq_true rfl) ?_
  intro p e s m args below meth c ls rr A E hr hlk htab hl w
  have hl : lv_has ls 6 [(0, .ref (ad 0)), (1, .long x1), (3, .int x3), (4, .ref ob)] := hl
  have hx := E.1
  have hb := E.2.1
  have hown := E.2.2.2.1
  have hts := E.2.2.2.2
  refine lv_aload hx hb (dq da_L_translate 0 rfl) (lv_at hl 3 rfl) ?_
  refine lv_iconst (v := 0) hx hb (dq da_L_translate 1 rfl) rfl ?_
  refine lv_aload_n hx hb (dq da_L_translate 2 rfl) rfl (lv_at hl 0 rfl) ?_
  refine lv_lload_n hx hb (dq da_L_translate 3 rfl) rfl (lv_at hl 1 rfl) ?_
  refine lv_iload_n hx hb (dq da_L_translate 4 rfl) rfl (lv_at hl 2 rfl) ?_
  refine zT (Wd := wC cy ad) E (c_X11_translate_t l hl0 D cy ad _ _ _ h) w_1054 w_1055 w_1056 w_1 w_1057 rfl hd_X11_translate rfl hl.1 rfl (Nat.le_of_ble_eq_true rfl) ⟨Nat.le_of_ble_eq_true rfl, Nat.le_of_ble_eq_true rfl⟩ ⟨Nat.le_of_ble_eq_true rfl, Nat.le_of_ble_eq_true rfl⟩ w (rc_wC_0 w.x) (dq da_L_translate 5 rfl) (fun H locs rr q9 ce w hq9 hv9 hc9 => ?_)
  refine hca p l e _ s m args below meth c H locs _ _ _ RL "java/lang/IllegalArgumentException" "java/lang/IllegalArgumentException" ce q9 6 ls _ hown [] ⟨0, 10, 13, 13⟩ [] htab (fun z hz => nomatch hz) (by decide) (by decide) (hts _ w_379) (va_Nw.use rfl (w.2.2.2.2.2.2.1.1 (.castable "java/lang/IllegalArgumentException" "java/lang/IllegalArgumentException") (by decide +kernel))) hq9 hv9 hc9 ?_
  refine lv_astore (lv' := [(5, .ref q9), (0, .ref (ad 0)), (1, .long x1), (3, .int x3), (4, .ref ob)]) hx hb (dq da_L_translate 8 rfl) hl (by decide) rfl (fun ls hl => ?_)
  refine lv_iconst (v := 1) hx hb (dq da_L_translate 9 rfl) rfl ?_
  exact hret E hr hlk w (Nat.le_of_ble_eq_true rfl) (Nat.le_of_ble_eq_true rfl) rfl (dq da_L_translate 10 rfl)
def dl_L_look : List (Nat × Instr × Nat) := [(0, .aload_n 2, 1), (1, .iconst 0, 1), (2, .aload_n 0, 1), (3, .iload_n 1, 1), (4, .invokevirtual 61, 3), (7, .i2l, 1), (8, .lastore, 1), (9, .goto 6, 3), (12, .astore_n 3, 1), (13, .iconst 1, 1), (14, .ireturn, 1), (15, .iconst 0, 1), (16, .ireturn, 1)]
theorem da_L_look : dkL cL_look dl_L_look = true := by decide +kernel
set_option maxRecDepth 100000 in
set_option maxHeartbeats 4000000 in
theorem c_L_look_R (l : Launch) (D : va_G) (cy : ClassId × ClassId × ClassId) (ad : Nat → Nat) (ob : Nat) (f : Nat → Int64) (x1 : Int32) (u : St) {r : Int32} (h : f_X11_look x1 u = some (.inr r)) : MH l yL_look cL_look 4 hh_look 7 103 0 0 D cy ad [(ob, .inl (cy.2.2, 1, .inr (.inl f)))] [(ob, .inl (cy.2.2, 1, .inr (.inl (vp_updL f 0 r.toInt64))))] [.ref (ad 0), .int x1, .ref ob] u u 0 := by
  refine entH (by decide +kernel) (Nat.le_of_ble_eq_true rfl) ?_
  intro p e s m args below meth c ls rr A E hr hlk htab hl w
  have hl : lv_has ls 4 [(0, .ref (ad 0)), (1, .int x1), (2, .ref ob)] := hl
  have hx := E.1
  have hb := E.2.1
  have hown := E.2.2.2.1
  have hts := E.2.2.2.2
  refine lv_aload_n hx hb (dq da_L_look 0 rfl) rfl (lv_at hl 2 rfl) ?_
  refine lv_iconst (v := 0) hx hb (dq da_L_look 1 rfl) rfl ?_
  refine lv_aload_n hx hb (dq da_L_look 2 rfl) rfl (lv_at hl 0 rfl) ?_
  refine lv_iload_n hx hb (dq da_L_look 3 rfl) rfl (lv_at hl 1 rfl) ?_
  refine zV1 (Wd := wC cy ad) E (c_X11_look l D cy ad _ _ h) w_1065 w_1066 w_1067 w_1 w_1068 rfl hd_X11_look rfl hl.1 rfl (Nat.le_of_ble_eq_true rfl) ⟨Nat.le_of_ble_eq_true rfl, Nat.le_of_ble_eq_true rfl⟩ ⟨Nat.le_refl _, Nat.le_refl _⟩ w (rc_wC_0 w.x) (dq da_L_look 4 rfl) (fun H locs rr w => ?_)
  refine lv_i2l (v := r.toInt64) hx hb (dq da_L_look 5 rfl) rfl ?_
  refine zst E w (dq da_L_look 6 rfl) (fun H locs w => ?_)
  refine lv_goto (tgt := 15) hx hb (dq da_L_look 7 rfl) (by decide) ?_
  refine lv_iconst (v := 0) hx hb (dq da_L_look 11 rfl) rfl ?_
  exact hret E hr hlk w (Nat.le_of_ble_eq_true rfl) (Nat.le_of_ble_eq_true rfl) rfl (dq da_L_look 12 rfl)
set_option maxRecDepth 100000 in
set_option maxHeartbeats 4000000 in
theorem c_L_look_T0 (l : Launch) (hca : CatchP) (hl0 : l.stackTraces = false) (D : va_G) (cy : ClassId × ClassId × ClassId) (ad : Nat → Nat) (ob : Nat) (f : Nat → Int64) (x1 : Int32) (u : St) (h : f_X11_look x1 u = some (.inl 0)) : MH l yL_look cL_look 4 hh_look 7 103 1 6 D cy ad [(ob, .inl (cy.2.2, 1, .inr (.inl f)))] [(ob, .inl (cy.2.2, 1, .inr (.inl f)))] [.ref (ad 0), .int x1, .ref ob] u u 1 := by
  refine entH (by decide +kernel) (Nat.le_of_ble_eq_true rfl) ?_
  intro p e s m args below meth c ls rr A E hr hlk htab hl w
  have hl : lv_has ls 4 [(0, .ref (ad 0)), (1, .int x1), (2, .ref ob)] := hl
  have hx := E.1
  have hb := E.2.1
  have hown := E.2.2.2.1
  have hts := E.2.2.2.2
  refine lv_aload_n hx hb (dq da_L_look 0 rfl) rfl (lv_at hl 2 rfl) ?_
  refine lv_iconst (v := 0) hx hb (dq da_L_look 1 rfl) rfl ?_
  refine lv_aload_n hx hb (dq da_L_look 2 rfl) rfl (lv_at hl 0 rfl) ?_
  refine lv_iload_n hx hb (dq da_L_look 3 rfl) rfl (lv_at hl 1 rfl) ?_
  refine zT (Wd := wC cy ad) E (c_X11_look_t l hl0 D cy ad _ _ h) w_1065 w_1066 w_1067 w_1 w_1068 rfl hd_X11_look rfl hl.1 rfl (Nat.le_of_ble_eq_true rfl) ⟨Nat.le_of_ble_eq_true rfl, Nat.le_of_ble_eq_true rfl⟩ ⟨Nat.le_of_ble_eq_true rfl, Nat.le_of_ble_eq_true rfl⟩ w (rc_wC_0 w.x) (dq da_L_look 4 rfl) (fun H locs rr q9 ce w hq9 hv9 hc9 => ?_)
  refine hca p l e _ s m args below meth c H locs _ _ _ RL "java/lang/IllegalArgumentException" "java/lang/IllegalArgumentException" ce q9 4 ls _ hown [] ⟨0, 9, 12, 13⟩ [] htab (fun z hz => nomatch hz) (by decide) (by decide) (hts _ w_379) (va_Nw.use rfl (w.2.2.2.2.2.2.1.1 (.castable "java/lang/IllegalArgumentException" "java/lang/IllegalArgumentException") (by decide +kernel))) hq9 hv9 hc9 ?_
  refine lv_astore_n (lv' := [(3, .ref q9), (0, .ref (ad 0)), (1, .int x1), (2, .ref ob)]) hx hb (dq da_L_look 8 rfl) rfl hl (by decide) rfl (fun ls hl => ?_)
  refine lv_iconst (v := 1) hx hb (dq da_L_look 9 rfl) rfl ?_
  exact hret E hr hlk w (Nat.le_of_ble_eq_true rfl) (Nat.le_of_ble_eq_true rfl) rfl (dq da_L_look 10 rfl)
def dl_L_out : List (Nat × Instr × Nat) := [(0, .aload_n 2, 1), (1, .iconst 0, 1), (2, .aload_n 0, 1), (3, .iload_n 1, 1), (4, .invokevirtual 64, 3), (7, .i2l, 1), (8, .lastore, 1), (9, .goto 6, 3), (12, .astore_n 3, 1), (13, .iconst 1, 1), (14, .ireturn, 1), (15, .iconst 0, 1), (16, .ireturn, 1)]
theorem da_L_out : dkL cL_out dl_L_out = true := by decide +kernel
set_option maxRecDepth 100000 in
set_option maxHeartbeats 4000000 in
theorem c_L_out_R (l : Launch) (D : va_G) (cy : ClassId × ClassId × ClassId) (ad : Nat → Nat) (ob : Nat) (f : Nat → Int64) (x1 : Int32) (u : St) {r : Int32} (h : f_X11_out x1 u = some (.inr r)) : MH l yL_out cL_out 4 hh_out 7 104 0 0 D cy ad [(ob, .inl (cy.2.2, 1, .inr (.inl f)))] [(ob, .inl (cy.2.2, 1, .inr (.inl (vp_updL f 0 r.toInt64))))] [.ref (ad 0), .int x1, .ref ob] u u 0 := by
  refine entH (by decide +kernel) (Nat.le_of_ble_eq_true rfl) ?_
  intro p e s m args below meth c ls rr A E hr hlk htab hl w
  have hl : lv_has ls 4 [(0, .ref (ad 0)), (1, .int x1), (2, .ref ob)] := hl
  have hx := E.1
  have hb := E.2.1
  have hown := E.2.2.2.1
  have hts := E.2.2.2.2
  refine lv_aload_n hx hb (dq da_L_out 0 rfl) rfl (lv_at hl 2 rfl) ?_
  refine lv_iconst (v := 0) hx hb (dq da_L_out 1 rfl) rfl ?_
  refine lv_aload_n hx hb (dq da_L_out 2 rfl) rfl (lv_at hl 0 rfl) ?_
  refine lv_iload_n hx hb (dq da_L_out 3 rfl) rfl (lv_at hl 1 rfl) ?_
  refine zV1 (Wd := wC cy ad) E (c_X11_out l D cy ad _ _ h) w_1073 w_1074 w_1075 w_1 w_1076 rfl hd_X11_out rfl hl.1 rfl (Nat.le_of_ble_eq_true rfl) ⟨Nat.le_of_ble_eq_true rfl, Nat.le_of_ble_eq_true rfl⟩ ⟨Nat.le_refl _, Nat.le_refl _⟩ w (rc_wC_0 w.x) (dq da_L_out 4 rfl) (fun H locs rr w => ?_)
  refine lv_i2l (v := r.toInt64) hx hb (dq da_L_out 5 rfl) rfl ?_
  refine zst E w (dq da_L_out 6 rfl) (fun H locs w => ?_)
  refine lv_goto (tgt := 15) hx hb (dq da_L_out 7 rfl) (by decide) ?_
  refine lv_iconst (v := 0) hx hb (dq da_L_out 11 rfl) rfl ?_
  exact hret E hr hlk w (Nat.le_of_ble_eq_true rfl) (Nat.le_of_ble_eq_true rfl) rfl (dq da_L_out 12 rfl)
set_option maxRecDepth 100000 in
set_option maxHeartbeats 4000000 in
theorem c_L_out_T2 (l : Launch) (hca : CatchP) (hl0 : l.stackTraces = false) (D : va_G) (cy : ClassId × ClassId × ClassId) (ad : Nat → Nat) (ob : Nat) (f : Nat → Int64) (x1 : Int32) (u : St) (h : f_X11_out x1 u = some (.inl 2)) : MH l yL_out cL_out 4 hh_out 7 104 1 6 D cy ad [(ob, .inl (cy.2.2, 1, .inr (.inl f)))] [(ob, .inl (cy.2.2, 1, .inr (.inl f)))] [.ref (ad 0), .int x1, .ref ob] u u 1 := by
  refine entH (by decide +kernel) (Nat.le_of_ble_eq_true rfl) ?_
  intro p e s m args below meth c ls rr A E hr hlk htab hl w
  have hl : lv_has ls 4 [(0, .ref (ad 0)), (1, .int x1), (2, .ref ob)] := hl
  have hx := E.1
  have hb := E.2.1
  have hown := E.2.2.2.1
  have hts := E.2.2.2.2
  refine lv_aload_n hx hb (dq da_L_out 0 rfl) rfl (lv_at hl 2 rfl) ?_
  refine lv_iconst (v := 0) hx hb (dq da_L_out 1 rfl) rfl ?_
  refine lv_aload_n hx hb (dq da_L_out 2 rfl) rfl (lv_at hl 0 rfl) ?_
  refine lv_iload_n hx hb (dq da_L_out 3 rfl) rfl (lv_at hl 1 rfl) ?_
  refine zT (Wd := wC cy ad) E (c_X11_out_t l hl0 D cy ad _ _ h) w_1073 w_1074 w_1075 w_1 w_1076 rfl hd_X11_out rfl hl.1 rfl (Nat.le_of_ble_eq_true rfl) ⟨Nat.le_of_ble_eq_true rfl, Nat.le_of_ble_eq_true rfl⟩ ⟨Nat.le_of_ble_eq_true rfl, Nat.le_of_ble_eq_true rfl⟩ w (rc_wC_0 w.x) (dq da_L_out 4 rfl) (fun H locs rr q9 ce w hq9 hv9 hc9 => ?_)
  refine hca p l e _ s m args below meth c H locs _ _ _ RL "java/util/NoSuchElementException" "java/util/NoSuchElementException" ce q9 4 ls _ hown [] ⟨0, 9, 12, 25⟩ [] htab (fun z hz => nomatch hz) (by decide) (by decide) (hts _ w_496) (va_Nw.use rfl (w.2.2.2.2.2.2.1.1 (.castable "java/util/NoSuchElementException" "java/util/NoSuchElementException") (by decide +kernel))) hq9 hv9 hc9 ?_
  refine lv_astore_n (lv' := [(3, .ref q9), (0, .ref (ad 0)), (1, .int x1), (2, .ref ob)]) hx hb (dq da_L_out 8 rfl) rfl hl (by decide) rfl (fun ls hl => ?_)
  refine lv_iconst (v := 1) hx hb (dq da_L_out 9 rfl) rfl ?_
  exact hret E hr hlk w (Nat.le_of_ble_eq_true rfl) (Nat.le_of_ble_eq_true rfl) rfl (dq da_L_out 10 rfl)

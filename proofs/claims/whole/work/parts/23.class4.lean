theorem w_30 : Cond.constant RX11 11 (65536) ∈ gw := gw_t1 30 rfl rfl
theorem w_468 : Cond.methodLink RX11 65 yX2_append ∈ gw := gw_t2 228 rfl rfl
theorem n_9 : Cond.fieldLinkNest RX11 77 "HartBoard$Bus" "line" "LHartBoard$Line;" "HartBoard" ∈ nl := List.mem_append_left _ (List.mem_of_getElem? (i := 9) rfl)
theorem n_3 : Cond.fieldLinkNest RX11 81 "HartBoard$Line" "input" "LHartBoard$Bytes;" "HartBoard" ∈ nl := List.mem_append_left _ (List.mem_of_getElem? (i := 3) rfl)
theorem w_480 : Cond.methodLink RX11 92 yX1_settle ∈ gw := gw_t3 0 rfl rfl
theorem w_524 : Cond.methodLink RX11 112 yX10_read ∈ gw := gw_t3 44 rfl rfl
theorem n_30 : Cond.fieldLinkNest RX11 124 "HartBoard$Hart" "registers" "[J" "HartBoard" ∈ nl := List.mem_append_left _ (List.mem_of_getElem? (i := 30) rfl)
theorem w_536 : Cond.constantLong RX11 118 (-2) ∈ gw := gw_t3 56 rfl rfl
theorem w_559 : Cond.methodLink RX11 134 yX4_knows ∈ gw := gw_t3 79 rfl rfl
theorem w_290 : Cond.fieldLink RX11 36 "HartBoard" "controls" "LHartBoard$Controls;" ∈ gw := gw_t2 50 rfl rfl
theorem w_563 : Cond.methodLink RX11 140 yX4_read ∈ gw := gw_t3 83 rfl rfl
theorem w_598 : Cond.methodLink RX11 143 yX4_write ∈ gw := gw_t3 118 rfl rfl
theorem n_8 : Cond.fieldLinkNest RX11 148 "HartBoard$Bus" "controller" "LHartBoard$Controller;" "HartBoard" ∈ nl := List.mem_append_left _ (List.mem_of_getElem? (i := 8) rfl)
theorem w_641 : Cond.methodLink RX11 152 yX3_drive ∈ gw := gw_t3 161 rfl rfl
theorem w_642 : Cond.instanceMethod yX3_drive ∈ gw := gw_t3 162 rfl rfl
theorem w_643 : Cond.selects RX3 yX3_drive yX3_drive ∈ gw := gw_t3 163 rfl rfl
theorem w_644 : Cond.code yX3_drive cX3_drive 4 (none) ∈ gw := gw_t3 164 rfl rfl
theorem w_653 : Cond.methodLink RX11 160 yX6_advance ∈ gw := gw_t3 173 rfl rfl
theorem w_654 : Cond.instanceMethod yX6_advance ∈ gw := gw_t3 174 rfl rfl
theorem w_655 : Cond.selects RX6 yX6_advance yX6_advance ∈ gw := gw_t3 175 rfl rfl
theorem w_656 : Cond.code yX6_advance cX6_advance 3 (some .boolean) ∈ gw := gw_t3 176 rfl rfl
theorem w_1059 : Cond.methodLink RX11 166 yX6_privilegeFor ∈ gw := gw_t5 99 rfl rfl
theorem w_1060 : Cond.methodLink RX11 169 yX4_pages ∈ gw := gw_t5 100 rfl rfl
theorem w_1061 : Cond.methodLink RX11 172 yX9_physical ∈ gw := gw_t5 101 rfl rfl
theorem n_4 : Cond.fieldLinkNest RX11 178 "HartBoard$Line" "output" "LHartBoard$Bytes;" "HartBoard" ∈ nl := List.mem_append_left _ (List.mem_of_getElem? (i := 4) rfl)
theorem n_33 : Cond.fieldLinkNest RX11 181 "HartBoard$Hart" "traps" "I" "HartBoard" ∈ nl := List.mem_append_left _ (List.mem_of_getElem? (i := 33) rfl)
theorem n_34 : Cond.fieldLinkNest RX11 184 "HartBoard$Hart" "interrupts" "I" "HartBoard" ∈ nl := List.mem_append_left _ (List.mem_of_getElem? (i := 34) rfl)
theorem n_35 : Cond.fieldLinkNest RX11 187 "HartBoard$Hart" "latest" "I" "HartBoard" ∈ nl := List.mem_append_left _ (List.mem_of_getElem? (i := 35) rfl)
theorem n_15 : Cond.fieldLinkNest RX11 190 "HartBoard$Bus" "reservedSize" "I" "HartBoard" ∈ nl := List.mem_append_left _ (List.mem_of_getElem? (i := 15) rfl)
theorem n_1 : Cond.fieldLinkNest RX11 195 "HartBoard$Controller" "pending" "I" "HartBoard" ∈ nl := List.mem_append_left _ (List.mem_of_getElem? (i := 1) rfl)
theorem n_2 : Cond.fieldLinkNest RX11 198 "HartBoard$Controller" "claimed" "I" "HartBoard" ∈ nl := List.mem_append_left _ (List.mem_of_getElem? (i := 2) rfl)
def dl_X11_feed : List (Nat × Instr × Nat) := [(0, .iload_n 1, 1), (1, .iconst 1, 1), (2, .if_icmp .lt 9, 3), (5, .iload_n 1, 1), (6, .bipush 8, 2), (8, .if_icmp .le 13, 3), (11, .new 49, 3), (14, .dup, 1), (15, .ldc 51, 2), (17, .invokespecial 53, 3), (20, .athrow, 1), (21, .aload_n 0, 1), (22, .getfield 15, 3), (25, .invokevirtual 56, 3), (28, .iload_n 1, 1), (29, .iadd, 1), (30, .ldc 11, 2), (32, .if_icmp .le 13, 3), (35, .new 60, 3), (38, .dup, 1), (39, .ldc 62, 2), (41, .invokespecial 64, 3), (44, .athrow, 1), (45, .iconst 0, 1), (46, .istore 4, 2), (48, .iload 4, 2), (50, .iload_n 1, 1), (51, .if_icmp .ge 24, 3), (54, .aload_n 0, 1), (55, .getfield 15, 3), (58, .lload_n 2, 1), (59, .bipush 8, 2), (61, .iload 4, 2), (63, .imul, 1), (64, .lushr, 1), (65, .l2i, 1), (66, .invokevirtual 65, 3), (69, .iinc 4 1, 3), (72, .goto (-24), 3), (75, .aload_n 0, 1), (76, .getfield 15, 3), (79, .invokevirtual 56, 3), (82, .ireturn, 1)]
theorem da_X11_feed : dkL cX11_feed dl_X11_feed = true := by decide +kernel
def f_X11_feed_b11 (u : St) : Option (Nat ⊕ (Int32 × St × Nat)) := some (.inl 0)
set_option maxRecDepth 100000 in
set_option maxHeartbeats 4000000 in
theorem b_X11_feed_b11 {p : Program} {l : Launch} {e : Env} {s : State} {m : MethodId} {args : Array Value} {below : List Frame} {meth : Method} {c : Code} {D : va_G} {cy : ClassId × ClassId × ClassId} {ad : Nat → Nat} {A : Nat → Prop} {K : Nat} (E : CallFix p m c cX11_feed 5 s args gw RX11) (hr : meth.sig.returnType = some .int) (hlk : meth.locks = false) {u : St} {r : Int32} {u' : St} {k' : Nat} (h : f_X11_feed_b11 u = some (.inr (r, u', k'))) {ls : Array Slot} {H : Heap} {locs : List Loc} {rr : Nat → Nat} {cells : Nat} (hc : cells + k' ≤ K) (hl : lv_has ls 5 []) (w : WX (wC cy ad) D cy rr u A s H locs) : Wx (wC cy ad) D p l e 6 82 K s m args below meth c A u' (some (.int r)) H locs cells 11 ls [] := by
  have hx := E.1
  have hb := E.2.1
  have hown := E.2.2.2.1
  have hts := E.2.2.2.2
  cases h
def f_X11_feed_b48_s (k48 : Int32 → Int64 → Int32 → St → Option (Int32 × St × Nat)) (x1 : Int32) (x2 : Int64) (x4 : Int32) (u : St) : Option (Int32 × St × Nat) := if x1 ≤ x4 then (some ((f_X2_size_o1 u), u, 0)) else ((f_X2_append_o1 ((j_lushr x2 ((8 : Int32) * x4)).toInt32) u).bind (fun y5 => ak1 y5.2 (k48 x1 x2 (x4 + (1 : Int32)) y5.1)))
set_option maxRecDepth 100000 in
set_option maxHeartbeats 4000000 in
theorem b_X11_feed_b48_s {p : Program} {l : Launch} {e : Env} {s : State} {m : MethodId} {args : Array Value} {below : List Frame} {meth : Method} {c : Code} {D : va_G} {cy : ClassId × ClassId × ClassId} {ad : Nat → Nat} {A : Nat → Prop} {K : Nat} (E : CallFix p m c cX11_feed 5 s args gw RX11) (hr : meth.sig.returnType = some .int) (hlk : meth.locks = false) {k48 : Int32 → Int64 → Int32 → St → Option (Int32 × St × Nat)} (hk48 : ∀ (x1 : Int32) (x2 : Int64) (x4 : Int32) (u : St) (r : Int32) (u' : St) (k' : Nat), k48 x1 x2 x4 u = some (r, u', k') → ∀ (ls : Array Slot) (H : Heap) (locs : List Loc) (rr : Nat → Nat) (cells : Nat), cells + k' ≤ K → lv_has ls 5 [(0, .ref (ad 0)), (1, .int x1), (2, .long x2), (4, .int x4)] → WX (wC cy ad) D cy rr u A s H locs → Wx (wC cy ad) D p l e 6 82 K s m args below meth c A u' (some (.int r)) H locs cells 48 ls []) {x1 : Int32} {x2 : Int64} {x4 : Int32} {u : St} {r : Int32} {u' : St} {k' : Nat} (h : f_X11_feed_b48_s k48 x1 x2 x4 u = some (r, u', k')) {ls : Array Slot} {H : Heap} {locs : List Loc} {rr : Nat → Nat} {cells : Nat} (hc : cells + k' ≤ K) (hl : lv_has ls 5 [(0, .ref (ad 0)), (1, .int x1), (2, .long x2), (4, .int x4)]) (w : WX (wC cy ad) D cy rr u A s H locs) : Wx (wC cy ad) D p l e 6 82 K s m args below meth c A u' (some (.int r)) H locs cells 48 ls [] := by
  have hx := E.1
  have hb := E.2.1
  have hown := E.2.2.2.1
  have hts := E.2.2.2.2
  refine lv_iload hx hb (dq da_X11_feed 25 rfl) (lv_at hl 3 rfl) ?_
  refine lv_iload_n hx hb (dq da_X11_feed 26 rfl) rfl (lv_at hl 1 rfl) ?_
  refine lv_icmp_ge (tgt := 75) hx hb (dq da_X11_feed 27 rfl) (by decide) (fun c4 => ?_) (fun c4 => ?_)
  · have h := it c4 h
    refine lv_aload_n hx hb (dq da_X11_feed 39 rfl) rfl (lv_at hl 0 rfl) ?_
    refine gt_wC_0_tape E w w_288 (dq da_X11_feed 40 rfl) ?_
    refine cV1 E (c_X2_size_o1 l D cy ad _ ) w_305 w_306 w_307 w_2 w_308 rfl hd_X2_size rfl hl.1 rfl (Nat.le_of_ble_eq_true rfl) ⟨Nat.le_of_ble_eq_true rfl, Nat.le_of_ble_eq_true rfl⟩ (hcc hc) w (rc_wC_1 w) (dq da_X11_feed 41 rfl) (fun H locs rr w => ?_)
    exact xret_i E hr hlk w (Nat.le_of_add_right_le hc) (congrArg Prod.fst (os h)) (congrArg (fun q => q.2.1) (os h)) (dq da_X11_feed 42 rfl)
  · have h := ie c4 h
    refine lv_aload_n hx hb (dq da_X11_feed 28 rfl) rfl (lv_at hl 0 rfl) ?_
    refine gt_wC_0_tape E w w_288 (dq da_X11_feed 29 rfl) ?_
    refine lv_lload_n hx hb (dq da_X11_feed 30 rfl) rfl (lv_at hl 2 rfl) ?_
    refine lv_bipush (v := 8) hx hb (dq da_X11_feed 31 rfl) rfl ?_
    refine lv_iload hx hb (dq da_X11_feed 32 rfl) (lv_at hl 3 rfl) ?_
    refine lv_imul hx hb (dq da_X11_feed 33 rfl) ?_
    refine lv_lushr (v := (j_lushr x2 ((8 : Int32) * x4))) hx hb (dq da_X11_feed 34 rfl) rfl ?_
    refine lv_l2i (v := (j_lushr x2 ((8 : Int32) * x4)).toInt32) hx hb (dq da_X11_feed 35 rfl) rfl ?_
    obtain ⟨y5, hy6, h⟩ := ob h
    obtain ⟨k7, h, hk8⟩ := ak1_of h
    refine cV0k E (c_X2_append_o1 l D cy ad _ _ hy6) w_468 w_469 w_470 w_2 w_471 rfl hd_X2_append rfl hl.1 rfl (Nat.le_of_ble_eq_true rfl) ⟨Nat.le_of_ble_eq_true rfl, Nat.le_of_ble_eq_true rfl⟩ (hcb hc hk8) w (rc_wC_1 w) (dq da_X11_feed 36 rfl) (fun H locs rr w => ?_)
    have hc := hcd hc hk8
    refine lv_iinc (v := (x4 + (1 : Int32))) (lv' := [(4, .int (x4 + (1 : Int32))), (0, .ref (ad 0)), (1, .int x1), (2, .long x2)]) hx hb (dq da_X11_feed 37 rfl) hl (k := 3) rfl rfl (by decide) rfl (fun ls hl => ?_)
    refine lv_goto (tgt := 48) hx hb (dq da_X11_feed 38 rfl) (by decide) ?_
    exact hk48 _ _ _ _ _ _ _ h ls _ _ _ _ hc (lv_sub hl [1, 2, 3, 0] rfl) w
def f_X11_feed_b48 : Nat → Int32 → Int64 → Int32 → St → Option (Int32 × St × Nat)
  | 0 => fun _ _ _ _ => none
  | n + 1 => f_X11_feed_b48_s (f_X11_feed_b48 n)
theorem b_X11_feed_b48 {p : Program} {l : Launch} {e : Env} {s : State} {m : MethodId} {args : Array Value} {below : List Frame} {meth : Method} {c : Code} {D : va_G} {cy : ClassId × ClassId × ClassId} {ad : Nat → Nat} {A : Nat → Prop} {K : Nat} (E : CallFix p m c cX11_feed 5 s args gw RX11) (hr : meth.sig.returnType = some .int) (hlk : meth.locks = false) : ∀ n : Nat, ∀ (x1 : Int32) (x2 : Int64) (x4 : Int32) (u : St) (r : Int32) (u' : St) (k' : Nat), f_X11_feed_b48 n x1 x2 x4 u = some (r, u', k') → ∀ (ls : Array Slot) (H : Heap) (locs : List Loc) (rr : Nat → Nat) (cells : Nat), cells + k' ≤ K → lv_has ls 5 [(0, .ref (ad 0)), (1, .int x1), (2, .long x2), (4, .int x4)] → WX (wC cy ad) D cy rr u A s H locs → Wx (wC cy ad) D p l e 6 82 K s m args below meth c A u' (some (.int r)) H locs cells 48 ls [] := by
  intro n
  induction n with
  | zero => intro x1 x2 x4 u r u' k' h; cases h
  | succ n ih => intro x1 x2 x4 u r u' k' h ls H locs rr cells hc hl w; exact b_X11_feed_b48_s E hr hlk ih h hc hl w
def f_X11_feed (x1 : Int32) (x2 : Int64) (u : St) : Option (Nat ⊕ (Int32 × St × Nat)) := if x1 < (1 : Int32) then (f_X11_feed_b11 u) else (if x1 ≤ (8 : Int32) then (if ((f_X2_size_o1 u) + x1) ≤ (65536 : Int32) then (rI (f_X11_feed_b48 FU x1 x2 (0 : Int32) u)) else (some (.inl 1))) else (f_X11_feed_b11 u))
set_option maxRecDepth 100000 in
set_option maxHeartbeats 4000000 in
theorem c_X11_feed (l : Launch) (D : va_G) (cy : ClassId × ClassId × ClassId) (ad : Nat → Nat) (x1 : Int32) (x2 : Int64) (u : St) {r : Int32} {u' : St} {k' : Nat} (h : f_X11_feed x1 x2 u = some (.inr (r, u', k'))) : MX (wC cy ad) D cy l yX11_feed cX11_feed 5 (some .int) 6 82 k' [.ref (ad 0), .int x1, .long x2] u u' (some (.int (r))) := by
  refine entX (by decide +kernel) (Nat.le_of_ble_eq_true rfl) ?_
  intro p e s m args below meth c ls rr A E hr hlk hl w
  have hl : lv_has ls 5 [(0, .ref (ad 0)), (1, .int x1), (2, .long x2)] := hl
  have hc : 0 + k' ≤ k' := Nat.le_of_eq (Nat.zero_add k')
  have hx := E.1
  have hb := E.2.1
  have hown := E.2.2.2.1
  have hts := E.2.2.2.2
  refine lv_iload_n hx hb (dq da_X11_feed 0 rfl) rfl (lv_at hl 1 rfl) ?_
  refine lv_iconst (v := 1) hx hb (dq da_X11_feed 1 rfl) rfl ?_
  refine lv_icmp_lt (tgt := 11) hx hb (dq da_X11_feed 2 rfl) (by decide) (fun c1 => ?_) (fun c1 => ?_)
  · have h := it c1 h
    exact b_X11_feed_b11 E hr hlk h hc (lv_sub hl [] rfl) w
  · have h := ie c1 h
    refine lv_iload_n hx hb (dq da_X11_feed 3 rfl) rfl (lv_at hl 1 rfl) ?_
    refine lv_bipush (v := 8) hx hb (dq da_X11_feed 4 rfl) rfl ?_
    refine lv_icmp_le (tgt := 21) hx hb (dq da_X11_feed 5 rfl) (by decide) (fun c2 => ?_) (fun c2 => ?_)
    · have h := it c2 h
      refine lv_aload_n hx hb (dq da_X11_feed 11 rfl) rfl (lv_at hl 0 rfl) ?_
      refine gt_wC_0_tape E w w_288 (dq da_X11_feed 12 rfl) ?_
      refine cV1 E (c_X2_size_o1 l D cy ad _ ) w_305 w_306 w_307 w_2 w_308 rfl hd_X2_size rfl hl.1 rfl (Nat.le_of_ble_eq_true rfl) ⟨Nat.le_of_ble_eq_true rfl, Nat.le_of_ble_eq_true rfl⟩ (hcc hc) w (rc_wC_1 w) (dq da_X11_feed 13 rfl) (fun H locs rr w => ?_)
      refine lv_iload_n hx hb (dq da_X11_feed 14 rfl) rfl (lv_at hl 1 rfl) ?_
      refine lv_iadd hx hb (dq da_X11_feed 15 rfl) ?_
      refine lv_ldc hx hb hown (hts _ w_30) (dq da_X11_feed 16 rfl) ?_
      refine lv_icmp_le (tgt := 45) hx hb (dq da_X11_feed 17 rfl) (by decide) (fun c3 => ?_) (fun c3 => ?_)
      · have h := it c3 h
        have h := rI_of h
        refine lv_iconst (v := 0) hx hb (dq da_X11_feed 23 rfl) rfl ?_
        refine lv_istore (lv' := [(4, .int (0 : Int32)), (0, .ref (ad 0)), (1, .int x1), (2, .long x2)]) hx hb (dq da_X11_feed 24 rfl) hl (by decide) rfl (fun ls hl => ?_)
        exact b_X11_feed_b48 E hr hlk FU _ _ _ _ _ _ _ h ls _ _ _ _ hc (lv_sub hl [1, 2, 3, 0] rfl) w
      · have h := ie c3 h
        cases h
    · have h := ie c2 h
      exact b_X11_feed_b11 E hr hlk h hc (lv_sub hl [] rfl) w
set_option maxRecDepth 100000 in
set_option maxHeartbeats 4000000 in
theorem b_X11_feed_b11_t {p : Program} {l : Launch} {e : Env} {s : State} {m : MethodId} {args : Array Value} {below : List Frame} {meth : Method} {c : Code} {D : va_G} {cy : ClassId × ClassId × ClassId} {ad : Nat → Nat} {A : Nat → Prop} (E : CallFix p m c cX11_feed 5 s args gw RX11) (hr : meth.sig.returnType = some .int) (hlk : meth.locks = false) (hl0 : l.stackTraces = false) (hno : ∀ x ∈ c.exceptionTable.toList, False) (tx : TX s) (z : ZX A s s.heap) {u : St} {cd : Nat} (h : f_X11_feed_b11 u = some (.inl cd)) {ls : Array Slot} {H : Heap} {locs : List Loc} {rr : Nat → Nat} (hl : lv_has ls 5 []) (w : WX (wC cy ad) D cy rr u A s H locs) : Wt (wC cy ad) D p l e 6 82 s m args below meth c A u cd H locs 11 ls [] := by
  have hx := E.1
  have hb := E.2.1
  have hown := E.2.2.2.1
  have hts := E.2.2.2.2
  obtain rfl := Sum.inl.inj (os h)
  exact thr_0 E hlk hl0 hno tx z w (List.mem_of_getElem? (i := 0) rfl) hl.1 (by decide) (by decide) (dq da_X11_feed 6 rfl) (dq da_X11_feed 7 rfl) (dq da_X11_feed 8 rfl) (dq da_X11_feed 9 rfl) (dq da_X11_feed 10 rfl)
set_option maxRecDepth 100000 in
set_option maxHeartbeats 4000000 in
theorem c_X11_feed_t (l : Launch) (hl0 : l.stackTraces = false) (D : va_G) (cy : ClassId × ClassId × ClassId) (ad : Nat → Nat) (x1 : Int32) (x2 : Int64) (u : St) {cd : Nat} (h : f_X11_feed x1 x2 u = some (.inl cd)) : MT (wC cy ad) D cy l yX11_feed cX11_feed 5 (some .int) 6 82 [.ref (ad 0), .int x1, .long x2] u cd := by
  refine entT (by decide +kernel) (Nat.le_of_ble_eq_true rfl) ?_
  intro p e s m args below meth c ls rr A E hr hlk hno tx z hl w
  have hl : lv_has ls 5 [(0, .ref (ad 0)), (1, .int x1), (2, .long x2)] := hl
  have hx := E.1
  have hb := E.2.1
  have hown := E.2.2.2.1
  have hts := E.2.2.2.2
  refine lv_iload_n hx hb (dq da_X11_feed 0 rfl) rfl (lv_at hl 1 rfl) ?_
  refine lv_iconst (v := 1) hx hb (dq da_X11_feed 1 rfl) rfl ?_
  refine lv_icmp_lt (tgt := 11) hx hb (dq da_X11_feed 2 rfl) (by decide) (fun c1 => ?_) (fun c1 => ?_)
  · have h := it c1 h
    exact b_X11_feed_b11_t E hr hlk hl0 hno tx z h (lv_sub hl [] rfl) w
  · have h := ie c1 h
    refine lv_iload_n hx hb (dq da_X11_feed 3 rfl) rfl (lv_at hl 1 rfl) ?_
    refine lv_bipush (v := 8) hx hb (dq da_X11_feed 4 rfl) rfl ?_
    refine lv_icmp_le (tgt := 21) hx hb (dq da_X11_feed 5 rfl) (by decide) (fun c2 => ?_) (fun c2 => ?_)
    · have h := it c2 h
      refine lv_aload_n hx hb (dq da_X11_feed 11 rfl) rfl (lv_at hl 0 rfl) ?_
      refine gt_wC_0_tape E w w_288 (dq da_X11_feed 12 rfl) ?_
      refine cV1 E (c_X2_size_o1 l D cy ad _ ) w_305 w_306 w_307 w_2 w_308 rfl hd_X2_size rfl hl.1 rfl (Nat.le_of_ble_eq_true rfl) ⟨Nat.le_of_ble_eq_true rfl, Nat.le_of_ble_eq_true rfl⟩ (by decide) w (rc_wC_1 w) (dq da_X11_feed 13 rfl) (fun H locs rr w => ?_)
      refine lv_iload_n hx hb (dq da_X11_feed 14 rfl) rfl (lv_at hl 1 rfl) ?_
      refine lv_iadd hx hb (dq da_X11_feed 15 rfl) ?_
      refine lv_ldc hx hb hown (hts _ w_30) (dq da_X11_feed 16 rfl) ?_
      refine lv_icmp_le (tgt := 45) hx hb (dq da_X11_feed 17 rfl) (by decide) (fun c3 => ?_) (fun c3 => ?_)
      · have h := it c3 h
        exact (rI_no h).elim
      · have h := ie c3 h
        obtain rfl := Sum.inl.inj (os h)
        exact thr_1 E hlk hl0 hno tx z w (List.mem_of_getElem? (i := 1) rfl) hl.1 (by decide) (by decide) (dq da_X11_feed 18 rfl) (dq da_X11_feed 19 rfl) (dq da_X11_feed 20 rfl) (dq da_X11_feed 21 rfl) (dq da_X11_feed 22 rfl)
    · have h := ie c2 h
      exact b_X11_feed_b11_t E hr hlk hl0 hno tx z h (lv_sub hl [] rfl) w
def dl_X11_type : List (Nat × Instr × Nat) := [(0, .aload_n 0, 1), (1, .getfield 27, 3), (4, .getfield 77, 3), (7, .getfield 81, 3), (10, .astore_n 1, 1), (11, .aload_n 1, 1), (12, .invokevirtual 56, 3), (15, .aload_n 0, 1), (16, .getfield 15, 3), (19, .invokevirtual 56, 3), (22, .iadd, 1), (23, .ldc 11, 2), (25, .if_icmp .le 13, 3), (28, .new 60, 3), (31, .dup, 1), (32, .ldc 86, 2), (34, .invokespecial 64, 3), (37, .athrow, 1), (38, .aload_n 0, 1), (39, .getfield 15, 3), (42, .invokevirtual 56, 3), (45, .istore_n 2, 1), (46, .iconst 0, 1), (47, .istore_n 3, 1), (48, .iload_n 3, 1), (49, .iload_n 2, 1), (50, .if_icmp .ge 21, 3), (53, .aload_n 1, 1), (54, .aload_n 0, 1), (55, .getfield 15, 3), (58, .iload_n 3, 1), (59, .invokevirtual 88, 3), (62, .invokevirtual 65, 3), (65, .iinc 3 1, 3), (68, .goto (-20), 3), (71, .aload_n 0, 1), (72, .getfield 15, 3), (75, .invokevirtual 68, 3), (78, .aload_n 0, 1), (79, .getfield 27, 3), (82, .invokevirtual 92, 3), (85, .aload_n 1, 1), (86, .invokevirtual 56, 3), (89, .ireturn, 1)]
theorem da_X11_type : dkL cX11_type dl_X11_type = true := by decide +kernel
def f_X11_type_b48_s (k48 : Int32 → Int32 → St → Option (Int32 × St × Nat)) (x2 : Int32) (x3 : Int32) (u : St) : Option (Int32 × St × Nat) := if x2 ≤ x3 then (some ((f_X2_size_o11 (f_X1_settle (f_X2_clear_o1 u))), (f_X1_settle (f_X2_clear_o1 u)), 0)) else ((f_X2_byteAt_o1 x3 u).bind (fun y3 => (f_X2_append_o11 y3 u).bind (fun y5 => ak1 y5.2 (k48 x2 (x3 + (1 : Int32)) y5.1))))
set_option maxRecDepth 100000 in
set_option maxHeartbeats 4000000 in
theorem b_X11_type_b48_s {p : Program} {l : Launch} {e : Env} {s : State} {m : MethodId} {args : Array Value} {below : List Frame} {meth : Method} {c : Code} {D : va_G} {cy : ClassId × ClassId × ClassId} {ad : Nat → Nat} {A : Nat → Prop} {K : Nat} (E : CallFix p m c cX11_type 4 s args gw RX11) (hr : meth.sig.returnType = some .int) (hlk : meth.locks = false) {k48 : Int32 → Int32 → St → Option (Int32 × St × Nat)} (hk48 : ∀ (x2 : Int32) (x3 : Int32) (u : St) (r : Int32) (u' : St) (k' : Nat), k48 x2 x3 u = some (r, u', k') → ∀ (ls : Array Slot) (H : Heap) (locs : List Loc) (rr : Nat → Nat) (cells : Nat), cells + k' ≤ K → lv_has ls 4 [(0, .ref (ad 0)), (1, .ref (ad 11)), (2, .int x2), (3, .int x3)] → WX (wC cy ad) D cy rr u A s H locs → Wx (wC cy ad) D p l e 6 82 K s m args below meth c A u' (some (.int r)) H locs cells 48 ls []) {x2 : Int32} {x3 : Int32} {u : St} {r : Int32} {u' : St} {k' : Nat} (h : f_X11_type_b48_s k48 x2 x3 u = some (r, u', k')) {ls : Array Slot} {H : Heap} {locs : List Loc} {rr : Nat → Nat} {cells : Nat} (hc : cells + k' ≤ K) (hl : lv_has ls 4 [(0, .ref (ad 0)), (1, .ref (ad 11)), (2, .int x2), (3, .int x3)]) (w : WX (wC cy ad) D cy rr u A s H locs) : Wx (wC cy ad) D p l e 6 82 K s m args below meth c A u' (some (.int r)) H locs cells 48 ls [] := by
  have hx := E.1
  have hb := E.2.1
  have hown := E.2.2.2.1
  have hts := E.2.2.2.2
  refine lv_iload_n hx hb (dq da_X11_type 24 rfl) rfl (lv_at hl 3 rfl) ?_
  refine lv_iload_n hx hb (dq da_X11_type 25 rfl) rfl (lv_at hl 2 rfl) ?_
  refine lv_icmp_ge (tgt := 71) hx hb (dq da_X11_type 26 rfl) (by decide) (fun c2 => ?_) (fun c2 => ?_)
  · have h := it c2 h
    refine lv_aload_n hx hb (dq da_X11_type 35 rfl) rfl (lv_at hl 0 rfl) ?_
    refine gt_wC_0_tape E w w_288 (dq da_X11_type 36 rfl) ?_
    refine cV0 E (c_X2_clear_o1 l D cy ad _ ) w_309 w_310 w_311 w_2 w_312 rfl hd_X2_clear rfl hl.1 rfl (Nat.le_of_ble_eq_true rfl) ⟨Nat.le_of_ble_eq_true rfl, Nat.le_of_ble_eq_true rfl⟩ (hcc hc) w (rc_wC_1 w) (dq da_X11_type 37 rfl) (fun H locs rr w => ?_)
    refine lv_aload_n hx hb (dq da_X11_type 38 rfl) rfl (lv_at hl 0 rfl) ?_
    refine gt_wC_0_bus E w w_289 (dq da_X11_type 39 rfl) ?_
    refine cV0 E (c_X1_settle l D cy ad _ ) w_480 w_481 w_482 w_3 w_483 rfl hd_X1_settle rfl hl.1 rfl (Nat.le_of_ble_eq_true rfl) ⟨Nat.le_of_ble_eq_true rfl, Nat.le_of_ble_eq_true rfl⟩ (hcc hc) w (rc_wC_3 w) (dq da_X11_type 40 rfl) (fun H locs rr w => ?_)
    refine lv_aload_n hx hb (dq da_X11_type 41 rfl) rfl (lv_at hl 1 rfl) ?_
    refine cV1 E (c_X2_size_o11 l D cy ad _ ) w_305 w_306 w_307 w_2 w_308 rfl hd_X2_size rfl hl.1 rfl (Nat.le_of_ble_eq_true rfl) ⟨Nat.le_of_ble_eq_true rfl, Nat.le_of_ble_eq_true rfl⟩ (hcc hc) w (rc_wC_11 w) (dq da_X11_type 42 rfl) (fun H locs rr w => ?_)
    exact xret_i E hr hlk w (Nat.le_of_add_right_le hc) (congrArg Prod.fst (os h)) (congrArg (fun q => q.2.1) (os h)) (dq da_X11_type 43 rfl)
  · have h := ie c2 h
    refine lv_aload_n hx hb (dq da_X11_type 27 rfl) rfl (lv_at hl 1 rfl) ?_
    refine lv_aload_n hx hb (dq da_X11_type 28 rfl) rfl (lv_at hl 0 rfl) ?_
    refine gt_wC_0_tape E w w_288 (dq da_X11_type 29 rfl) ?_
    refine lv_iload_n hx hb (dq da_X11_type 30 rfl) rfl (lv_at hl 3 rfl) ?_
    obtain ⟨y3, hy4, h⟩ := ob h
    refine cV1 E (c_X2_byteAt_o1 l D cy ad _ _ hy4) w_358 w_326 w_327 w_2 w_328 rfl hd_X2_byteAt rfl hl.1 rfl (Nat.le_of_ble_eq_true rfl) ⟨Nat.le_of_ble_eq_true rfl, Nat.le_of_ble_eq_true rfl⟩ (hcc hc) w (rc_wC_1 w) (dq da_X11_type 31 rfl) (fun H locs rr w => ?_)
    obtain ⟨y5, hy6, h⟩ := ob h
    obtain ⟨k7, h, hk8⟩ := ak1_of h
    refine cV0k E (c_X2_append_o11 l D cy ad _ _ hy6) w_468 w_469 w_470 w_2 w_471 rfl hd_X2_append rfl hl.1 rfl (Nat.le_of_ble_eq_true rfl) ⟨Nat.le_of_ble_eq_true rfl, Nat.le_of_ble_eq_true rfl⟩ (hcb hc hk8) w (rc_wC_11 w) (dq da_X11_type 32 rfl) (fun H locs rr w => ?_)
    have hc := hcd hc hk8
    refine lv_iinc (v := (x3 + (1 : Int32))) (lv' := [(3, .int (x3 + (1 : Int32))), (0, .ref (ad 0)), (1, .ref (ad 11)), (2, .int x2)]) hx hb (dq da_X11_type 33 rfl) hl (k := 3) rfl rfl (by decide) rfl (fun ls hl => ?_)
    refine lv_goto (tgt := 48) hx hb (dq da_X11_type 34 rfl) (by decide) ?_
    exact hk48 _ _ _ _ _ _ h ls _ _ _ _ hc (lv_sub hl [1, 2, 3, 0] rfl) w
def f_X11_type_b48 : Nat → Int32 → Int32 → St → Option (Int32 × St × Nat)
  | 0 => fun _ _ _ => none
  | n + 1 => f_X11_type_b48_s (f_X11_type_b48 n)
theorem b_X11_type_b48 {p : Program} {l : Launch} {e : Env} {s : State} {m : MethodId} {args : Array Value} {below : List Frame} {meth : Method} {c : Code} {D : va_G} {cy : ClassId × ClassId × ClassId} {ad : Nat → Nat} {A : Nat → Prop} {K : Nat} (E : CallFix p m c cX11_type 4 s args gw RX11) (hr : meth.sig.returnType = some .int) (hlk : meth.locks = false) : ∀ n : Nat, ∀ (x2 : Int32) (x3 : Int32) (u : St) (r : Int32) (u' : St) (k' : Nat), f_X11_type_b48 n x2 x3 u = some (r, u', k') → ∀ (ls : Array Slot) (H : Heap) (locs : List Loc) (rr : Nat → Nat) (cells : Nat), cells + k' ≤ K → lv_has ls 4 [(0, .ref (ad 0)), (1, .ref (ad 11)), (2, .int x2), (3, .int x3)] → WX (wC cy ad) D cy rr u A s H locs → Wx (wC cy ad) D p l e 6 82 K s m args below meth c A u' (some (.int r)) H locs cells 48 ls [] := by
  intro n
  induction n with
  | zero => intro x2 x3 u r u' k' h; cases h
  | succ n ih => intro x2 x3 u r u' k' h ls H locs rr cells hc hl w; exact b_X11_type_b48_s E hr hlk ih h hc hl w
def f_X11_type (u : St) : Option (Nat ⊕ (Int32 × St × Nat)) := if ((f_X2_size_o11 u) + (f_X2_size_o1 u)) ≤ (65536 : Int32) then (rI (f_X11_type_b48 FU (f_X2_size_o1 u) (0 : Int32) u)) else (some (.inl 1))
set_option maxRecDepth 100000 in
set_option maxHeartbeats 4000000 in
theorem c_X11_type (l : Launch) (D : va_G) (cy : ClassId × ClassId × ClassId) (ad : Nat → Nat) (u : St) {r : Int32} {u' : St} {k' : Nat} (h : f_X11_type u = some (.inr (r, u', k'))) : MX (wC cy ad) D cy l yX11_type cX11_type 4 (some .int) 6 82 k' [.ref (ad 0)] u u' (some (.int (r))) := by
  refine entX (by decide +kernel) (Nat.le_of_ble_eq_true rfl) ?_
  intro p e s m args below meth c ls rr A E hr hlk hl w
  have hl : lv_has ls 4 [(0, .ref (ad 0))] := hl
  have hc : 0 + k' ≤ k' := Nat.le_of_eq (Nat.zero_add k')
  have hx := E.1
  have hb := E.2.1
  have hown := E.2.2.2.1
  have hts := E.2.2.2.2
  refine lv_aload_n hx hb (dq da_X11_type 0 rfl) rfl (lv_at hl 0 rfl) ?_
  refine gt_wC_0_bus E w w_289 (dq da_X11_type 1 rfl) ?_
  refine gtN_wC_3_line E w n_9 (dq da_X11_type 2 rfl) ?_
  refine gtN_wC_10_input E w n_3 (dq da_X11_type 3 rfl) ?_
  refine lv_astore_n (lv' := [(1, .ref (ad 11)), (0, .ref (ad 0))]) hx hb (dq da_X11_type 4 rfl) rfl hl (by decide) rfl (fun ls hl => ?_)
  refine lv_aload_n hx hb (dq da_X11_type 5 rfl) rfl (lv_at hl 0 rfl) ?_
  refine cV1 E (c_X2_size_o11 l D cy ad _ ) w_305 w_306 w_307 w_2 w_308 rfl hd_X2_size rfl hl.1 rfl (Nat.le_of_ble_eq_true rfl) ⟨Nat.le_of_ble_eq_true rfl, Nat.le_of_ble_eq_true rfl⟩ (hcc hc) w (rc_wC_11 w) (dq da_X11_type 6 rfl) (fun H locs rr w => ?_)
  refine lv_aload_n hx hb (dq da_X11_type 7 rfl) rfl (lv_at hl 1 rfl) ?_
  refine gt_wC_0_tape E w w_288 (dq da_X11_type 8 rfl) ?_
  refine cV1 E (c_X2_size_o1 l D cy ad _ ) w_305 w_306 w_307 w_2 w_308 rfl hd_X2_size rfl hl.1 rfl (Nat.le_of_ble_eq_true rfl) ⟨Nat.le_of_ble_eq_true rfl, Nat.le_of_ble_eq_true rfl⟩ (hcc hc) w (rc_wC_1 w) (dq da_X11_type 9 rfl) (fun H locs rr w => ?_)
  refine lv_iadd hx hb (dq da_X11_type 10 rfl) ?_
  refine lv_ldc hx hb hown (hts _ w_30) (dq da_X11_type 11 rfl) ?_
  refine lv_icmp_le (tgt := 38) hx hb (dq da_X11_type 12 rfl) (by decide) (fun c1 => ?_) (fun c1 => ?_)
  · have h := it c1 h
    have h := rI_of h
    refine lv_aload_n hx hb (dq da_X11_type 18 rfl) rfl (lv_at hl 1 rfl) ?_
    refine gt_wC_0_tape E w w_288 (dq da_X11_type 19 rfl) ?_
    refine cV1 E (c_X2_size_o1 l D cy ad _ ) w_305 w_306 w_307 w_2 w_308 rfl hd_X2_size rfl hl.1 rfl (Nat.le_of_ble_eq_true rfl) ⟨Nat.le_of_ble_eq_true rfl, Nat.le_of_ble_eq_true rfl⟩ (hcc hc) w (rc_wC_1 w) (dq da_X11_type 20 rfl) (fun H locs rr w => ?_)
    refine lv_istore_n (lv' := [(2, .int (f_X2_size_o1 u)), (1, .ref (ad 11)), (0, .ref (ad 0))]) hx hb (dq da_X11_type 21 rfl) rfl hl (by decide) rfl (fun ls hl => ?_)
    refine lv_iconst (v := 0) hx hb (dq da_X11_type 22 rfl) rfl ?_
    refine lv_istore_n (lv' := [(3, .int (0 : Int32)), (2, .int (f_X2_size_o1 u)), (1, .ref (ad 11)), (0, .ref (ad 0))]) hx hb (dq da_X11_type 23 rfl) rfl hl (by decide) rfl (fun ls hl => ?_)
    exact b_X11_type_b48 E hr hlk FU _ _ _ _ _ _ h ls _ _ _ _ hc (lv_sub hl [3, 2, 1, 0] rfl) w
  · have h := ie c1 h
    cases h
set_option maxRecDepth 100000 in
set_option maxHeartbeats 4000000 in
theorem c_X11_type_t (l : Launch) (hl0 : l.stackTraces = false) (D : va_G) (cy : ClassId × ClassId × ClassId) (ad : Nat → Nat) (u : St) {cd : Nat} (h : f_X11_type u = some (.inl cd)) : MT (wC cy ad) D cy l yX11_type cX11_type 4 (some .int) 6 82 [.ref (ad 0)] u cd := by
  refine entT (by decide +kernel) (Nat.le_of_ble_eq_true rfl) ?_
  intro p e s m args below meth c ls rr A E hr hlk hno tx z hl w
  have hl : lv_has ls 4 [(0, .ref (ad 0))] := hl
  have hx := E.1
  have hb := E.2.1
  have hown := E.2.2.2.1
  have hts := E.2.2.2.2
  refine lv_aload_n hx hb (dq da_X11_type 0 rfl) rfl (lv_at hl 0 rfl) ?_
  refine gt_wC_0_bus E w w_289 (dq da_X11_type 1 rfl) ?_
  refine gtN_wC_3_line E w n_9 (dq da_X11_type 2 rfl) ?_
  refine gtN_wC_10_input E w n_3 (dq da_X11_type 3 rfl) ?_
  refine lv_astore_n (lv' := [(1, .ref (ad 11)), (0, .ref (ad 0))]) hx hb (dq da_X11_type 4 rfl) rfl hl (by decide) rfl (fun ls hl => ?_)
  refine lv_aload_n hx hb (dq da_X11_type 5 rfl) rfl (lv_at hl 0 rfl) ?_
  refine cV1 E (c_X2_size_o11 l D cy ad _ ) w_305 w_306 w_307 w_2 w_308 rfl hd_X2_size rfl hl.1 rfl (Nat.le_of_ble_eq_true rfl) ⟨Nat.le_of_ble_eq_true rfl, Nat.le_of_ble_eq_true rfl⟩ (by decide) w (rc_wC_11 w) (dq da_X11_type 6 rfl) (fun H locs rr w => ?_)
  refine lv_aload_n hx hb (dq da_X11_type 7 rfl) rfl (lv_at hl 1 rfl) ?_
  refine gt_wC_0_tape E w w_288 (dq da_X11_type 8 rfl) ?_
  refine cV1 E (c_X2_size_o1 l D cy ad _ ) w_305 w_306 w_307 w_2 w_308 rfl hd_X2_size rfl hl.1 rfl (Nat.le_of_ble_eq_true rfl) ⟨Nat.le_of_ble_eq_true rfl, Nat.le_of_ble_eq_true rfl⟩ (by decide) w (rc_wC_1 w) (dq da_X11_type 9 rfl) (fun H locs rr w => ?_)
  refine lv_iadd hx hb (dq da_X11_type 10 rfl) ?_
  refine lv_ldc hx hb hown (hts _ w_30) (dq da_X11_type 11 rfl) ?_
  refine lv_icmp_le (tgt := 38) hx hb (dq da_X11_type 12 rfl) (by decide) (fun c1 => ?_) (fun c1 => ?_)
  · have h := it c1 h
    exact (rI_no h).elim
  · have h := ie c1 h
    obtain rfl := Sum.inl.inj (os h)
    exact thr_1 E hlk hl0 hno tx z w (List.mem_of_getElem? (i := 2) rfl) hl.1 (by decide) (by decide) (dq da_X11_type 13 rfl) (dq da_X11_type 14 rfl) (dq da_X11_type 15 rfl) (dq da_X11_type 16 rfl) (dq da_X11_type 17 rfl)
def dl_X11_poke : List (Nat × Instr × Nat) := [(0, .iload_n 3, 1), (1, .iconst 1, 1), (2, .if_icmp .lt 9, 3), (5, .iload_n 3, 1), (6, .bipush 8, 2), (8, .if_icmp .le 13, 3), (11, .new 49, 3), (14, .dup, 1), (15, .ldc 51, 2), (17, .invokespecial 53, 3), (20, .athrow, 1), (21, .aload_n 0, 1), (22, .getfield 27, 3), (25, .getfield 95, 3), (28, .lload_n 1, 1), (29, .iload_n 3, 1), (30, .invokevirtual 99, 3), (33, .istore 6, 2), (35, .iload 6, 2), (37, .iconst (-1), 1), (38, .if_icmp .ne 13, 3), (41, .new 103, 3), (44, .dup, 1), (45, .ldc 105, 2), (47, .invokespecial 107, 3), (50, .athrow, 1), (51, .iconst 0, 1), (52, .istore 7, 2), (54, .iload 7, 2), (56, .iload_n 3, 1), (57, .if_icmp .ge 33, 3), (60, .aload_n 0, 1), (61, .getfield 27, 3), (64, .getfield 95, 3), (67, .iload 6, 2), (69, .iload 7, 2), (71, .iadd, 1), (72, .iconst 1, 1), (73, .lload 4, 2), (75, .bipush 8, 2), (77, .iload 7, 2), (79, .imul, 1), (80, .lushr, 1), (81, .invokevirtual 108, 3), (84, .iinc 7 1, 3), (87, .goto (-33), 3), (90, .return_, 1)]
theorem da_X11_poke : dkL cX11_poke dl_X11_poke = true := by decide +kernel
def f_X11_poke_b11 (u : St) : Option (Nat ⊕ (St)) := some (.inl 0)
set_option maxRecDepth 100000 in
set_option maxHeartbeats 4000000 in
theorem b_X11_poke_b11 {p : Program} {l : Launch} {e : Env} {s : State} {m : MethodId} {args : Array Value} {below : List Frame} {meth : Method} {c : Code} {D : va_G} {cy : ClassId × ClassId × ClassId} {ad : Nat → Nat} {A : Nat → Prop} (E : CallFix p m c cX11_poke 8 s args gw RX11) (hr : meth.sig.returnType = none) (hlk : meth.locks = false) {u : St} {u' : St} (h : f_X11_poke_b11 u = some (.inr u')) {ls : Array Slot} {H : Heap} {locs : List Loc} {rr : Nat → Nat} (hl : lv_has ls 8 []) (w : WX (wC cy ad) D cy rr u A s H locs) : Wx (wC cy ad) D p l e 6 82 0 s m args below meth c A u' none H locs 0 11 ls [] := by
  have hx := E.1
  have hb := E.2.1
  have hown := E.2.2.2.1
  have hts := E.2.2.2.2
  cases h
def f_X11_poke_b54_s (k54 : Int32 → Int64 → Int32 → Int32 → St → Option (St)) (x3 : Int32) (x4 : Int64) (x6 : Int32) (x7 : Int32) (u : St) : Option (St) := if x3 ≤ x7 then (some u) else ((f_X10_write (x6 + x7) (1 : Int32) (j_lushr x4 ((8 : Int32) * x7)) u).bind (fun y5 => k54 x3 x4 x6 (x7 + (1 : Int32)) y5))
set_option maxRecDepth 100000 in
set_option maxHeartbeats 4000000 in
theorem b_X11_poke_b54_s {p : Program} {l : Launch} {e : Env} {s : State} {m : MethodId} {args : Array Value} {below : List Frame} {meth : Method} {c : Code} {D : va_G} {cy : ClassId × ClassId × ClassId} {ad : Nat → Nat} {A : Nat → Prop} (E : CallFix p m c cX11_poke 8 s args gw RX11) (hr : meth.sig.returnType = none) (hlk : meth.locks = false) {k54 : Int32 → Int64 → Int32 → Int32 → St → Option (St)} (hk54 : ∀ (x3 : Int32) (x4 : Int64) (x6 : Int32) (x7 : Int32) (u : St) (u' : St), k54 x3 x4 x6 x7 u = some u' → ∀ (ls : Array Slot) (H : Heap) (locs : List Loc) (rr : Nat → Nat), lv_has ls 8 [(0, .ref (ad 0)), (3, .int x3), (4, .long x4), (6, .int x6), (7, .int x7)] → WX (wC cy ad) D cy rr u A s H locs → Wx (wC cy ad) D p l e 6 82 0 s m args below meth c A u' none H locs 0 54 ls []) {x3 : Int32} {x4 : Int64} {x6 : Int32} {x7 : Int32} {u : St} {u' : St} (h : f_X11_poke_b54_s k54 x3 x4 x6 x7 u = some u') {ls : Array Slot} {H : Heap} {locs : List Loc} {rr : Nat → Nat} (hl : lv_has ls 8 [(0, .ref (ad 0)), (3, .int x3), (4, .long x4), (6, .int x6), (7, .int x7)]) (w : WX (wC cy ad) D cy rr u A s H locs) : Wx (wC cy ad) D p l e 6 82 0 s m args below meth c A u' none H locs 0 54 ls [] := by
  have hx := E.1
  have hb := E.2.1
  have hown := E.2.2.2.1
  have hts := E.2.2.2.2
  refine lv_iload hx hb (dq da_X11_poke 28 rfl) (lv_at hl 4 rfl) ?_
  refine lv_iload_n hx hb (dq da_X11_poke 29 rfl) rfl (lv_at hl 1 rfl) ?_
  refine lv_icmp_ge (tgt := 90) hx hb (dq da_X11_poke 30 rfl) (by decide) (fun c4 => ?_) (fun c4 => ?_)
  · have h := it c4 h
    exact xret_v E hr hlk w (by decide) (os h) (dq da_X11_poke 46 rfl)
  · have h := ie c4 h
    refine lv_aload_n hx hb (dq da_X11_poke 31 rfl) rfl (lv_at hl 0 rfl) ?_
    refine gt_wC_0_bus E w w_289 (dq da_X11_poke 32 rfl) ?_
    refine gtN_wC_3_ram E w n_5 (dq da_X11_poke 33 rfl) ?_
    refine lv_iload hx hb (dq da_X11_poke 34 rfl) (lv_at hl 3 rfl) ?_
    refine lv_iload hx hb (dq da_X11_poke 35 rfl) (lv_at hl 4 rfl) ?_
    refine lv_iadd hx hb (dq da_X11_poke 36 rfl) ?_
    refine lv_iconst (v := 1) hx hb (dq da_X11_poke 37 rfl) rfl ?_
    refine lv_lload hx hb (dq da_X11_poke 38 rfl) (lv_at hl 2 rfl) ?_
    refine lv_bipush (v := 8) hx hb (dq da_X11_poke 39 rfl) rfl ?_
    refine lv_iload hx hb (dq da_X11_poke 40 rfl) (lv_at hl 4 rfl) ?_
    refine lv_imul hx hb (dq da_X11_poke 41 rfl) ?_
    refine lv_lushr (v := (j_lushr x4 ((8 : Int32) * x7))) hx hb (dq da_X11_poke 42 rfl) rfl ?_
    obtain ⟨y5, hy6, h⟩ := ob h
    refine cV0 E (c_X10_write l D cy ad _ _ _ _ hy6) w_359 w_360 w_361 w_4 w_362 rfl hd_X10_write rfl hl.1 rfl (Nat.le_of_ble_eq_true rfl) ⟨Nat.le_of_ble_eq_true rfl, Nat.le_of_ble_eq_true rfl⟩ (by decide) w (rc_wC_4 w) (dq da_X11_poke 43 rfl) (fun H locs rr w => ?_)
    refine lv_iinc (v := (x7 + (1 : Int32))) (lv' := [(7, .int (x7 + (1 : Int32))), (0, .ref (ad 0)), (3, .int x3), (4, .long x4), (6, .int x6)]) hx hb (dq da_X11_poke 44 rfl) hl (k := 4) rfl rfl (by decide) rfl (fun ls hl => ?_)
    refine lv_goto (tgt := 54) hx hb (dq da_X11_poke 45 rfl) (by decide) ?_
    exact hk54 _ _ _ _ _ _ h ls _ _ _ (lv_sub hl [1, 2, 3, 4, 0] rfl) w
def f_X11_poke_b54 : Nat → Int32 → Int64 → Int32 → Int32 → St → Option (St)
  | 0 => fun _ _ _ _ _ => none
  | n + 1 => f_X11_poke_b54_s (f_X11_poke_b54 n)
theorem b_X11_poke_b54 {p : Program} {l : Launch} {e : Env} {s : State} {m : MethodId} {args : Array Value} {below : List Frame} {meth : Method} {c : Code} {D : va_G} {cy : ClassId × ClassId × ClassId} {ad : Nat → Nat} {A : Nat → Prop} (E : CallFix p m c cX11_poke 8 s args gw RX11) (hr : meth.sig.returnType = none) (hlk : meth.locks = false) : ∀ n : Nat, ∀ (x3 : Int32) (x4 : Int64) (x6 : Int32) (x7 : Int32) (u : St) (u' : St), f_X11_poke_b54 n x3 x4 x6 x7 u = some u' → ∀ (ls : Array Slot) (H : Heap) (locs : List Loc) (rr : Nat → Nat), lv_has ls 8 [(0, .ref (ad 0)), (3, .int x3), (4, .long x4), (6, .int x6), (7, .int x7)] → WX (wC cy ad) D cy rr u A s H locs → Wx (wC cy ad) D p l e 6 82 0 s m args below meth c A u' none H locs 0 54 ls [] := by
  intro n
  induction n with
  | zero => intro x3 x4 x6 x7 u u' h; cases h
  | succ n ih => intro x3 x4 x6 x7 u u' h ls H locs rr hl w; exact b_X11_poke_b54_s E hr hlk ih h hl w
def f_X11_poke (x1 : Int64) (x3 : Int32) (x4 : Int64) (u : St) : Option (Nat ⊕ (St)) := if x3 < (1 : Int32) then (f_X11_poke_b11 u) else (if x3 ≤ (8 : Int32) then (if (f_X10_place x1 x3 u) = (-1 : Int32) then (some (.inl 2)) else (rI (f_X11_poke_b54 FU x3 x4 (f_X10_place x1 x3 u) (0 : Int32) u))) else (f_X11_poke_b11 u))
set_option maxRecDepth 100000 in
set_option maxHeartbeats 4000000 in
theorem c_X11_poke (l : Launch) (D : va_G) (cy : ClassId × ClassId × ClassId) (ad : Nat → Nat) (x1 : Int64) (x3 : Int32) (x4 : Int64) (u : St) {u' : St} (h : f_X11_poke x1 x3 x4 u = some (.inr u')) : MX (wC cy ad) D cy l yX11_poke cX11_poke 8 (none) 6 82 0 [.ref (ad 0), .long x1, .int x3, .long x4] u u' none := by
  refine entX (by decide +kernel) (Nat.le_of_ble_eq_true rfl) ?_
  intro p e s m args below meth c ls rr A E hr hlk hl w
  have hl : lv_has ls 8 [(0, .ref (ad 0)), (1, .long x1), (3, .int x3), (4, .long x4)] := hl
  have hx := E.1
  have hb := E.2.1
  have hown := E.2.2.2.1
  have hts := E.2.2.2.2
  refine lv_iload_n hx hb (dq da_X11_poke 0 rfl) rfl (lv_at hl 2 rfl) ?_
  refine lv_iconst (v := 1) hx hb (dq da_X11_poke 1 rfl) rfl ?_
  refine lv_icmp_lt (tgt := 11) hx hb (dq da_X11_poke 2 rfl) (by decide) (fun c1 => ?_) (fun c1 => ?_)
  · have h := it c1 h
    exact b_X11_poke_b11 E hr hlk h (lv_sub hl [] rfl) w
  · have h := ie c1 h
    refine lv_iload_n hx hb (dq da_X11_poke 3 rfl) rfl (lv_at hl 2 rfl) ?_
    refine lv_bipush (v := 8) hx hb (dq da_X11_poke 4 rfl) rfl ?_
    refine lv_icmp_le (tgt := 21) hx hb (dq da_X11_poke 5 rfl) (by decide) (fun c2 => ?_) (fun c2 => ?_)
    · have h := it c2 h
      refine lv_aload_n hx hb (dq da_X11_poke 11 rfl) rfl (lv_at hl 0 rfl) ?_
      refine gt_wC_0_bus E w w_289 (dq da_X11_poke 12 rfl) ?_
      refine gtN_wC_3_ram E w n_5 (dq da_X11_poke 13 rfl) ?_
      refine lv_lload_n hx hb (dq da_X11_poke 14 rfl) rfl (lv_at hl 1 rfl) ?_
      refine lv_iload_n hx hb (dq da_X11_poke 15 rfl) rfl (lv_at hl 2 rfl) ?_
      refine cV1 E (c_X10_place l D cy ad _ _ _ ) w_345 w_346 w_347 w_4 w_348 rfl hd_X10_place rfl hl.1 rfl (Nat.le_of_ble_eq_true rfl) ⟨Nat.le_of_ble_eq_true rfl, Nat.le_of_ble_eq_true rfl⟩ (by decide) w (rc_wC_4 w) (dq da_X11_poke 16 rfl) (fun H locs rr w => ?_)
      refine lv_istore (lv' := [(6, .int (f_X10_place x1 x3 u)), (0, .ref (ad 0)), (1, .long x1), (3, .int x3), (4, .long x4)]) hx hb (dq da_X11_poke 17 rfl) hl (by decide) rfl (fun ls hl => ?_)
      refine lv_iload hx hb (dq da_X11_poke 18 rfl) (lv_at hl 0 rfl) ?_
      refine lv_iconst (v := (-1)) hx hb (dq da_X11_poke 19 rfl) rfl ?_
      refine lv_icmp_ne (tgt := 51) hx hb (dq da_X11_poke 20 rfl) (by decide) (fun c3 => ?_) (fun c3 => ?_)
      · have h := ie c3 h
        have h := rI_of h
        refine lv_iconst (v := 0) hx hb (dq da_X11_poke 26 rfl) rfl ?_
        refine lv_istore (lv' := [(7, .int (0 : Int32)), (6, .int (f_X10_place x1 x3 u)), (0, .ref (ad 0)), (1, .long x1), (3, .int x3), (4, .long x4)]) hx hb (dq da_X11_poke 27 rfl) hl (by decide) rfl (fun ls hl => ?_)
        exact b_X11_poke_b54 E hr hlk FU _ _ _ _ _ _ h ls _ _ _ (lv_sub hl [2, 4, 5, 1, 0] rfl) w
      · have h := it c3 h
        cases h
    · have h := ie c2 h
      exact b_X11_poke_b11 E hr hlk h (lv_sub hl [] rfl) w
set_option maxRecDepth 100000 in
set_option maxHeartbeats 4000000 in
theorem b_X11_poke_b11_t {p : Program} {l : Launch} {e : Env} {s : State} {m : MethodId} {args : Array Value} {below : List Frame} {meth : Method} {c : Code} {D : va_G} {cy : ClassId × ClassId × ClassId} {ad : Nat → Nat} {A : Nat → Prop} (E : CallFix p m c cX11_poke 8 s args gw RX11) (hr : meth.sig.returnType = none) (hlk : meth.locks = false) (hl0 : l.stackTraces = false) (hno : ∀ x ∈ c.exceptionTable.toList, False) (tx : TX s) (z : ZX A s s.heap) {u : St} {cd : Nat} (h : f_X11_poke_b11 u = some (.inl cd)) {ls : Array Slot} {H : Heap} {locs : List Loc} {rr : Nat → Nat} (hl : lv_has ls 8 []) (w : WX (wC cy ad) D cy rr u A s H locs) : Wt (wC cy ad) D p l e 6 82 s m args below meth c A u cd H locs 11 ls [] := by
  have hx := E.1
  have hb := E.2.1
  have hown := E.2.2.2.1
  have hts := E.2.2.2.2
  obtain rfl := Sum.inl.inj (os h)
  exact thr_0 E hlk hl0 hno tx z w (List.mem_of_getElem? (i := 0) rfl) hl.1 (by decide) (by decide) (dq da_X11_poke 6 rfl) (dq da_X11_poke 7 rfl) (dq da_X11_poke 8 rfl) (dq da_X11_poke 9 rfl) (dq da_X11_poke 10 rfl)
set_option maxRecDepth 100000 in
set_option maxHeartbeats 4000000 in
theorem c_X11_poke_t (l : Launch) (hl0 : l.stackTraces = false) (D : va_G) (cy : ClassId × ClassId × ClassId) (ad : Nat → Nat) (x1 : Int64) (x3 : Int32) (x4 : Int64) (u : St) {cd : Nat} (h : f_X11_poke x1 x3 x4 u = some (.inl cd)) : MT (wC cy ad) D cy l yX11_poke cX11_poke 8 (none) 6 82 [.ref (ad 0), .long x1, .int x3, .long x4] u cd := by
  refine entT (by decide +kernel) (Nat.le_of_ble_eq_true rfl) ?_
  intro p e s m args below meth c ls rr A E hr hlk hno tx z hl w
  have hl : lv_has ls 8 [(0, .ref (ad 0)), (1, .long x1), (3, .int x3), (4, .long x4)] := hl
  have hx := E.1
  have hb := E.2.1
  have hown := E.2.2.2.1
  have hts := E.2.2.2.2
  refine lv_iload_n hx hb (dq da_X11_poke 0 rfl) rfl (lv_at hl 2 rfl) ?_
  refine lv_iconst (v := 1) hx hb (dq da_X11_poke 1 rfl) rfl ?_
  refine lv_icmp_lt (tgt := 11) hx hb (dq da_X11_poke 2 rfl) (by decide) (fun c1 => ?_) (fun c1 => ?_)
  · have h := it c1 h
    exact b_X11_poke_b11_t E hr hlk hl0 hno tx z h (lv_sub hl [] rfl) w
  · have h := ie c1 h
    refine lv_iload_n hx hb (dq da_X11_poke 3 rfl) rfl (lv_at hl 2 rfl) ?_
    refine lv_bipush (v := 8) hx hb (dq da_X11_poke 4 rfl) rfl ?_
    refine lv_icmp_le (tgt := 21) hx hb (dq da_X11_poke 5 rfl) (by decide) (fun c2 => ?_) (fun c2 => ?_)
    · have h := it c2 h
      refine lv_aload_n hx hb (dq da_X11_poke 11 rfl) rfl (lv_at hl 0 rfl) ?_
      refine gt_wC_0_bus E w w_289 (dq da_X11_poke 12 rfl) ?_
      refine gtN_wC_3_ram E w n_5 (dq da_X11_poke 13 rfl) ?_
      refine lv_lload_n hx hb (dq da_X11_poke 14 rfl) rfl (lv_at hl 1 rfl) ?_
      refine lv_iload_n hx hb (dq da_X11_poke 15 rfl) rfl (lv_at hl 2 rfl) ?_
      refine cV1 E (c_X10_place l D cy ad _ _ _ ) w_345 w_346 w_347 w_4 w_348 rfl hd_X10_place rfl hl.1 rfl (Nat.le_of_ble_eq_true rfl) ⟨Nat.le_of_ble_eq_true rfl, Nat.le_of_ble_eq_true rfl⟩ (by decide) w (rc_wC_4 w) (dq da_X11_poke 16 rfl) (fun H locs rr w => ?_)
      refine lv_istore (lv' := [(6, .int (f_X10_place x1 x3 u)), (0, .ref (ad 0)), (1, .long x1), (3, .int x3), (4, .long x4)]) hx hb (dq da_X11_poke 17 rfl) hl (by decide) rfl (fun ls hl => ?_)
      refine lv_iload hx hb (dq da_X11_poke 18 rfl) (lv_at hl 0 rfl) ?_
      refine lv_iconst (v := (-1)) hx hb (dq da_X11_poke 19 rfl) rfl ?_
      refine lv_icmp_ne (tgt := 51) hx hb (dq da_X11_poke 20 rfl) (by decide) (fun c3 => ?_) (fun c3 => ?_)
      · have h := ie c3 h
        exact (rI_no h).elim
      · have h := it c3 h
        obtain rfl := Sum.inl.inj (os h)
        exact thr_2 E hlk hl0 hno tx z w (List.mem_of_getElem? (i := 3) rfl) hl.1 (by decide) (by decide) (dq da_X11_poke 21 rfl) (dq da_X11_poke 22 rfl) (dq da_X11_poke 23 rfl) (dq da_X11_poke 24 rfl) (dq da_X11_poke 25 rfl)
    · have h := ie c2 h
      exact b_X11_poke_b11_t E hr hlk hl0 hno tx z h (lv_sub hl [] rfl) w
def dl_X11_peek : List (Nat × Instr × Nat) := [(0, .aload_n 0, 1), (1, .getfield 27, 3), (4, .getfield 95, 3), (7, .lload_n 1, 1), (8, .bipush 8, 2), (10, .invokevirtual 99, 3), (13, .istore_n 3, 1), (14, .iload_n 3, 1), (15, .iconst (-1), 1), (16, .if_icmp .ne 13, 3), (19, .new 103, 3), (22, .dup, 1), (23, .ldc 105, 2), (25, .invokespecial 107, 3), (28, .athrow, 1), (29, .lconst 0, 1), (30, .lstore 4, 2), (32, .bipush 7, 2), (34, .istore 6, 2), (36, .iload 6, 2), (38, .ifCond .lt 32, 3), (41, .lload 4, 2), (43, .bipush 8, 2), (45, .lshl, 1), (46, .aload_n 0, 1), (47, .getfield 27, 3), (50, .getfield 95, 3), (53, .iload_n 3, 1), (54, .iload 6, 2), (56, .iadd, 1), (57, .iconst 1, 1), (58, .invokevirtual 112, 3), (61, .lor, 1), (62, .lstore 4, 2), (64, .iinc 6 (-1), 3), (67, .goto (-31), 3), (70, .lload 4, 2), (72, .lreturn, 1)]
theorem da_X11_peek : dkL cX11_peek dl_X11_peek = true := by decide +kernel
def f_X11_peek_b36_s (k36 : Int32 → Int64 → Int32 → St → Option (Int64)) (x3 : Int32) (x4 : Int64) (x6 : Int32) (u : St) : Option (Int64) := if x6 < (0 : Int32) then (some x4) else ((f_X10_read (x3 + x6) (1 : Int32) u).bind (fun y3 => k36 x3 ((j_lshl x4 (8 : Int32)) ||| y3) (x6 + (-1 : Int32)) u))
set_option maxRecDepth 100000 in
set_option maxHeartbeats 4000000 in
theorem b_X11_peek_b36_s {p : Program} {l : Launch} {e : Env} {s : State} {m : MethodId} {args : Array Value} {below : List Frame} {meth : Method} {c : Code} {D : va_G} {cy : ClassId × ClassId × ClassId} {ad : Nat → Nat} {A : Nat → Prop} (E : CallFix p m c cX11_peek 7 s args gw RX11) (hr : meth.sig.returnType = some .long) (hlk : meth.locks = false) {k36 : Int32 → Int64 → Int32 → St → Option (Int64)} (hk36 : ∀ (x3 : Int32) (x4 : Int64) (x6 : Int32) (u : St) (r : Int64), k36 x3 x4 x6 u = some r → ∀ (ls : Array Slot) (H : Heap) (locs : List Loc) (rr : Nat → Nat), lv_has ls 7 [(0, .ref (ad 0)), (3, .int x3), (4, .long x4), (6, .int x6)] → WX (wC cy ad) D cy rr u A s H locs → Wx (wC cy ad) D p l e 6 82 0 s m args below meth c A u (some (.long r)) H locs 0 36 ls []) {x3 : Int32} {x4 : Int64} {x6 : Int32} {u : St} {r : Int64} (h : f_X11_peek_b36_s k36 x3 x4 x6 u = some r) {ls : Array Slot} {H : Heap} {locs : List Loc} {rr : Nat → Nat} (hl : lv_has ls 7 [(0, .ref (ad 0)), (3, .int x3), (4, .long x4), (6, .int x6)]) (w : WX (wC cy ad) D cy rr u A s H locs) : Wx (wC cy ad) D p l e 6 82 0 s m args below meth c A u (some (.long r)) H locs 0 36 ls [] := by
  have hx := E.1
  have hb := E.2.1
  have hown := E.2.2.2.1
  have hts := E.2.2.2.2
  refine lv_iload hx hb (dq da_X11_peek 19 rfl) (lv_at hl 3 rfl) ?_
  refine lv_if_lt (tgt := 70) hx hb (dq da_X11_peek 20 rfl) (by decide) (fun c2 => ?_) (fun c2 => ?_)
  · have h := it c2 h
    refine lv_lload hx hb (dq da_X11_peek 36 rfl) (lv_at hl 2 rfl) ?_
    exact xret_l E hr hlk w (by decide) (os h) rfl (dq da_X11_peek 37 rfl)
  · have h := ie c2 h
    refine lv_lload hx hb (dq da_X11_peek 21 rfl) (lv_at hl 2 rfl) ?_
    refine lv_bipush (v := 8) hx hb (dq da_X11_peek 22 rfl) rfl ?_
    refine lv_lshl (v := (j_lshl x4 (8 : Int32))) hx hb (dq da_X11_peek 23 rfl) rfl ?_
    refine lv_aload_n hx hb (dq da_X11_peek 24 rfl) rfl (lv_at hl 0 rfl) ?_
    refine gt_wC_0_bus E w w_289 (dq da_X11_peek 25 rfl) ?_
    refine gtN_wC_3_ram E w n_5 (dq da_X11_peek 26 rfl) ?_
    refine lv_iload_n hx hb (dq da_X11_peek 27 rfl) rfl (lv_at hl 1 rfl) ?_
    refine lv_iload hx hb (dq da_X11_peek 28 rfl) (lv_at hl 3 rfl) ?_
    refine lv_iadd hx hb (dq da_X11_peek 29 rfl) ?_
    refine lv_iconst (v := 1) hx hb (dq da_X11_peek 30 rfl) rfl ?_
    obtain ⟨y3, hy4, h⟩ := ob h
    refine cV1 E (c_X10_read l D cy ad _ _ _ hy4) w_524 w_525 w_526 w_4 w_527 rfl hd_X10_read rfl hl.1 rfl (Nat.le_of_ble_eq_true rfl) ⟨Nat.le_of_ble_eq_true rfl, Nat.le_of_ble_eq_true rfl⟩ (by decide) w (rc_wC_4 w) (dq da_X11_peek 31 rfl) (fun H locs rr w => ?_)
    refine lv_lor hx hb (dq da_X11_peek 32 rfl) ?_
    refine lv_lstore (lv' := [(4, .long ((j_lshl x4 (8 : Int32)) ||| y3)), (0, .ref (ad 0)), (3, .int x3), (6, .int x6)]) hx hb (dq da_X11_peek 33 rfl) hl (by decide) rfl (fun ls hl => ?_)
    refine lv_iinc (v := (x6 + (-1 : Int32))) (lv' := [(6, .int (x6 + (-1 : Int32))), (4, .long ((j_lshl x4 (8 : Int32)) ||| y3)), (0, .ref (ad 0)), (3, .int x3)]) hx hb (dq da_X11_peek 34 rfl) hl (k := 3) rfl rfl (by decide) rfl (fun ls hl => ?_)
    refine lv_goto (tgt := 36) hx hb (dq da_X11_peek 35 rfl) (by decide) ?_
    exact hk36 _ _ _ _ _ h ls _ _ _ (lv_sub hl [2, 3, 1, 0] rfl) w
def f_X11_peek_b36 : Nat → Int32 → Int64 → Int32 → St → Option (Int64)
  | 0 => fun _ _ _ _ => none
  | n + 1 => f_X11_peek_b36_s (f_X11_peek_b36 n)
theorem b_X11_peek_b36 {p : Program} {l : Launch} {e : Env} {s : State} {m : MethodId} {args : Array Value} {below : List Frame} {meth : Method} {c : Code} {D : va_G} {cy : ClassId × ClassId × ClassId} {ad : Nat → Nat} {A : Nat → Prop} (E : CallFix p m c cX11_peek 7 s args gw RX11) (hr : meth.sig.returnType = some .long) (hlk : meth.locks = false) : ∀ n : Nat, ∀ (x3 : Int32) (x4 : Int64) (x6 : Int32) (u : St) (r : Int64), f_X11_peek_b36 n x3 x4 x6 u = some r → ∀ (ls : Array Slot) (H : Heap) (locs : List Loc) (rr : Nat → Nat), lv_has ls 7 [(0, .ref (ad 0)), (3, .int x3), (4, .long x4), (6, .int x6)] → WX (wC cy ad) D cy rr u A s H locs → Wx (wC cy ad) D p l e 6 82 0 s m args below meth c A u (some (.long r)) H locs 0 36 ls [] := by
  intro n
  induction n with
  | zero => intro x3 x4 x6 u r h; cases h
  | succ n ih => intro x3 x4 x6 u r h ls H locs rr hl w; exact b_X11_peek_b36_s E hr hlk ih h hl w
def f_X11_peek (x1 : Int64) (u : St) : Option (Nat ⊕ (Int64)) := if (f_X10_place x1 (8 : Int32) u) = (-1 : Int32) then (some (.inl 2)) else (rI (f_X11_peek_b36 FU (f_X10_place x1 (8 : Int32) u) (0 : Int64) (7 : Int32) u))
set_option maxRecDepth 100000 in
set_option maxHeartbeats 4000000 in
theorem c_X11_peek (l : Launch) (D : va_G) (cy : ClassId × ClassId × ClassId) (ad : Nat → Nat) (x1 : Int64) (u : St) {r : Int64} (h : f_X11_peek x1 u = some (.inr r)) : MX (wC cy ad) D cy l yX11_peek cX11_peek 7 (some .long) 6 82 0 [.ref (ad 0), .long x1] u u (some (.long (r))) := by
  refine entX (by decide +kernel) (Nat.le_of_ble_eq_true rfl) ?_
  intro p e s m args below meth c ls rr A E hr hlk hl w
  have hl : lv_has ls 7 [(0, .ref (ad 0)), (1, .long x1)] := hl
  have hx := E.1
  have hb := E.2.1
  have hown := E.2.2.2.1
  have hts := E.2.2.2.2
  refine lv_aload_n hx hb (dq da_X11_peek 0 rfl) rfl (lv_at hl 0 rfl) ?_
  refine gt_wC_0_bus E w w_289 (dq da_X11_peek 1 rfl) ?_
  refine gtN_wC_3_ram E w n_5 (dq da_X11_peek 2 rfl) ?_
  refine lv_lload_n hx hb (dq da_X11_peek 3 rfl) rfl (lv_at hl 1 rfl) ?_
  refine lv_bipush (v := 8) hx hb (dq da_X11_peek 4 rfl) rfl ?_
  refine cV1 E (c_X10_place l D cy ad _ _ _ ) w_345 w_346 w_347 w_4 w_348 rfl hd_X10_place rfl hl.1 rfl (Nat.le_of_ble_eq_true rfl) ⟨Nat.le_of_ble_eq_true rfl, Nat.le_of_ble_eq_true rfl⟩ (by decide) w (rc_wC_4 w) (dq da_X11_peek 5 rfl) (fun H locs rr w => ?_)
  refine lv_istore_n (lv' := [(3, .int (f_X10_place x1 (8 : Int32) u)), (0, .ref (ad 0)), (1, .long x1)]) hx hb (dq da_X11_peek 6 rfl) rfl hl (by decide) rfl (fun ls hl => ?_)
  refine lv_iload_n hx hb (dq da_X11_peek 7 rfl) rfl (lv_at hl 0 rfl) ?_
  refine lv_iconst (v := (-1)) hx hb (dq da_X11_peek 8 rfl) rfl ?_
  refine lv_icmp_ne (tgt := 29) hx hb (dq da_X11_peek 9 rfl) (by decide) (fun c1 => ?_) (fun c1 => ?_)
  · have h := ie c1 h
    have h := rI_of h
    refine lv_lconst (v := 0) hx hb (dq da_X11_peek 15 rfl) rfl ?_
    refine lv_lstore (lv' := [(4, .long (0 : Int64)), (3, .int (f_X10_place x1 (8 : Int32) u)), (0, .ref (ad 0)), (1, .long x1)]) hx hb (dq da_X11_peek 16 rfl) hl (by decide) rfl (fun ls hl => ?_)
    refine lv_bipush (v := 7) hx hb (dq da_X11_peek 17 rfl) rfl ?_
    refine lv_istore (lv' := [(6, .int (7 : Int32)), (4, .long (0 : Int64)), (3, .int (f_X10_place x1 (8 : Int32) u)), (0, .ref (ad 0)), (1, .long x1)]) hx hb (dq da_X11_peek 18 rfl) hl (by decide) rfl (fun ls hl => ?_)
    exact b_X11_peek_b36 E hr hlk FU _ _ _ _ _ h ls _ _ _ (lv_sub hl [3, 2, 1, 0] rfl) w
  · have h := it c1 h
    cases h
set_option maxRecDepth 100000 in
set_option maxHeartbeats 4000000 in
theorem c_X11_peek_t (l : Launch) (hl0 : l.stackTraces = false) (D : va_G) (cy : ClassId × ClassId × ClassId) (ad : Nat → Nat) (x1 : Int64) (u : St) {cd : Nat} (h : f_X11_peek x1 u = some (.inl cd)) : MT (wC cy ad) D cy l yX11_peek cX11_peek 7 (some .long) 6 82 [.ref (ad 0), .long x1] u cd := by
  refine entT (by decide +kernel) (Nat.le_of_ble_eq_true rfl) ?_
  intro p e s m args below meth c ls rr A E hr hlk hno tx z hl w
  have hl : lv_has ls 7 [(0, .ref (ad 0)), (1, .long x1)] := hl
  have hx := E.1
  have hb := E.2.1
  have hown := E.2.2.2.1
  have hts := E.2.2.2.2
  refine lv_aload_n hx hb (dq da_X11_peek 0 rfl) rfl (lv_at hl 0 rfl) ?_
  refine gt_wC_0_bus E w w_289 (dq da_X11_peek 1 rfl) ?_
  refine gtN_wC_3_ram E w n_5 (dq da_X11_peek 2 rfl) ?_
  refine lv_lload_n hx hb (dq da_X11_peek 3 rfl) rfl (lv_at hl 1 rfl) ?_
  refine lv_bipush (v := 8) hx hb (dq da_X11_peek 4 rfl) rfl ?_
  refine cV1 E (c_X10_place l D cy ad _ _ _ ) w_345 w_346 w_347 w_4 w_348 rfl hd_X10_place rfl hl.1 rfl (Nat.le_of_ble_eq_true rfl) ⟨Nat.le_of_ble_eq_true rfl, Nat.le_of_ble_eq_true rfl⟩ (by decide) w (rc_wC_4 w) (dq da_X11_peek 5 rfl) (fun H locs rr w => ?_)
  refine lv_istore_n (lv' := [(3, .int (f_X10_place x1 (8 : Int32) u)), (0, .ref (ad 0)), (1, .long x1)]) hx hb (dq da_X11_peek 6 rfl) rfl hl (by decide) rfl (fun ls hl => ?_)
  refine lv_iload_n hx hb (dq da_X11_peek 7 rfl) rfl (lv_at hl 0 rfl) ?_
  refine lv_iconst (v := (-1)) hx hb (dq da_X11_peek 8 rfl) rfl ?_
  refine lv_icmp_ne (tgt := 29) hx hb (dq da_X11_peek 9 rfl) (by decide) (fun c1 => ?_) (fun c1 => ?_)
  · have h := ie c1 h
    exact (rI_no h).elim
  · have h := it c1 h
    obtain rfl := Sum.inl.inj (os h)
    exact thr_2 E hlk hl0 hno tx z w (List.mem_of_getElem? (i := 3) rfl) hl.1 (by decide) (by decide) (dq da_X11_peek 10 rfl) (dq da_X11_peek 11 rfl) (dq da_X11_peek 12 rfl) (dq da_X11_peek 13 rfl) (dq da_X11_peek 14 rfl)
def dl_X11_set : List (Nat × Instr × Nat) := [(0, .iload_n 1, 1), (1, .ifCond .lt 9, 3), (4, .iload_n 1, 1), (5, .bipush 32, 2), (7, .if_icmp .le 13, 3), (10, .new 49, 3), (13, .dup, 1), (14, .ldc 116, 2), (16, .invokespecial 53, 3), (19, .athrow, 1), (20, .iload_n 1, 1), (21, .bipush 32, 2), (23, .if_icmp .ne 18, 3), (26, .aload_n 0, 1), (27, .getfield 45, 3), (30, .lload_n 2, 1), (31, .ldc2_w 118, 3), (34, .land, 1), (35, .putfield 120, 3), (38, .goto 17, 3), (41, .iload_n 1, 1), (42, .ifCond .eq 13, 3), (45, .aload_n 0, 1), (46, .getfield 45, 3), (49, .getfield 124, 3), (52, .iload_n 1, 1), (53, .lload_n 2, 1), (54, .lastore, 1), (55, .return_, 1)]
theorem da_X11_set : dkL cX11_set dl_X11_set = true := by decide +kernel
def f_X11_set_b10 (u : St) : Option (Nat ⊕ (St)) := some (.inl 0)
set_option maxRecDepth 100000 in
set_option maxHeartbeats 4000000 in
theorem b_X11_set_b10 {p : Program} {l : Launch} {e : Env} {s : State} {m : MethodId} {args : Array Value} {below : List Frame} {meth : Method} {c : Code} {D : va_G} {cy : ClassId × ClassId × ClassId} {ad : Nat → Nat} {A : Nat → Prop} (E : CallFix p m c cX11_set 4 s args gw RX11) (hr : meth.sig.returnType = none) (hlk : meth.locks = false) {u : St} {u' : St} (h : f_X11_set_b10 u = some (.inr u')) {ls : Array Slot} {H : Heap} {locs : List Loc} {rr : Nat → Nat} (hl : lv_has ls 4 []) (w : WX (wC cy ad) D cy rr u A s H locs) : Wx (wC cy ad) D p l e 6 82 0 s m args below meth c A u' none H locs 0 10 ls [] := by
  have hx := E.1
  have hb := E.2.1
  have hown := E.2.2.2.1
  have hts := E.2.2.2.2
  cases h
def f_X11_set (x1 : Int32) (x2 : Int64) (u : St) : Option (Nat ⊕ (St)) := if x1 < (0 : Int32) then (f_X11_set_b10 u) else (if x1 ≤ (32 : Int32) then (rI (if x1 = (32 : Int32) then (some (sL u 24 (x2 &&& (-2 : Int64)))) else (if x1 = (0 : Int32) then (some u) else (if inB x1 (gN u 7) then (some (sB u 1 x1.toNatClampNeg x2)) else none)))) else (f_X11_set_b10 u))
set_option maxRecDepth 100000 in
set_option maxHeartbeats 4000000 in
theorem c_X11_set (l : Launch) (D : va_G) (cy : ClassId × ClassId × ClassId) (ad : Nat → Nat) (x1 : Int32) (x2 : Int64) (u : St) {u' : St} (h : f_X11_set x1 x2 u = some (.inr u')) : MX (wC cy ad) D cy l yX11_set cX11_set 4 (none) 6 82 0 [.ref (ad 0), .int x1, .long x2] u u' none := by
  refine entX (by decide +kernel) (Nat.le_of_ble_eq_true rfl) ?_
  intro p e s m args below meth c ls rr A E hr hlk hl w
  have hl : lv_has ls 4 [(0, .ref (ad 0)), (1, .int x1), (2, .long x2)] := hl
  have hx := E.1
  have hb := E.2.1
  have hown := E.2.2.2.1
  have hts := E.2.2.2.2
  refine lv_iload_n hx hb (dq da_X11_set 0 rfl) rfl (lv_at hl 1 rfl) ?_
  refine lv_if_lt (tgt := 10) hx hb (dq da_X11_set 1 rfl) (by decide) (fun c1 => ?_) (fun c1 => ?_)
  · have h := it c1 h
    exact b_X11_set_b10 E hr hlk h (lv_sub hl [] rfl) w
  · have h := ie c1 h
    refine lv_iload_n hx hb (dq da_X11_set 2 rfl) rfl (lv_at hl 1 rfl) ?_
    refine lv_bipush (v := 32) hx hb (dq da_X11_set 3 rfl) rfl ?_
    refine lv_icmp_le (tgt := 20) hx hb (dq da_X11_set 4 rfl) (by decide) (fun c2 => ?_) (fun c2 => ?_)
    · have h := it c2 h
      have h := rI_of h
      refine lv_iload_n hx hb (dq da_X11_set 10 rfl) rfl (lv_at hl 1 rfl) ?_
      refine lv_bipush (v := 32) hx hb (dq da_X11_set 11 rfl) rfl ?_
      refine lv_icmp_ne (tgt := 41) hx hb (dq da_X11_set 12 rfl) (by decide) (fun c3 => ?_) (fun c3 => ?_)
      · have h := ie c3 h
        refine lv_iload_n hx hb (dq da_X11_set 20 rfl) rfl (lv_at hl 1 rfl) ?_
        refine lv_if_eq (tgt := 55) hx hb (dq da_X11_set 21 rfl) (by decide) (fun c4 => ?_) (fun c4 => ?_)
        · have h := it c4 h
          exact xret_v E hr hlk w (by decide) (os h) (dq da_X11_set 28 rfl)
        · have h := ie c4 h
          refine lv_aload_n hx hb (dq da_X11_set 22 rfl) rfl (lv_at hl 0 rfl) ?_
          refine gt_wC_0_hart E w w_291 (dq da_X11_set 23 rfl) ?_
          refine gtN_wC_18_registers E w n_30 (dq da_X11_set 24 rfl) ?_
          refine lv_iload_n hx hb (dq da_X11_set 25 rfl) rfl (lv_at hl 1 rfl) ?_
          refine lv_lload_n hx hb (dq da_X11_set 26 rfl) rfl (lv_at hl 2 rfl) ?_
          obtain ⟨hi5, h⟩ := oi h
          refine ast_wC_19 E w hi5 (dq da_X11_set 27 rfl) (fun H locs w => ?_)
          exact xret_v E hr hlk w (by decide) (os h) (dq da_X11_set 28 rfl)
      · have h := it c3 h
        refine lv_aload_n hx hb (dq da_X11_set 13 rfl) rfl (lv_at hl 0 rfl) ?_
        refine gt_wC_0_hart E w w_291 (dq da_X11_set 14 rfl) ?_
        refine lv_lload_n hx hb (dq da_X11_set 15 rfl) rfl (lv_at hl 2 rfl) ?_
        refine lv_ldc2 hx hb hown (hts _ w_536) (dq da_X11_set 16 rfl) ?_
        refine lv_land hx hb (dq da_X11_set 17 rfl) ?_
        refine ptN_wC_18_pc E w n_31 (dq da_X11_set 18 rfl) (fun H locs w => ?_)
        refine lv_goto (tgt := 55) hx hb (dq da_X11_set 19 rfl) (by decide) ?_
        exact xret_v E hr hlk w (by decide) (os h) (dq da_X11_set 28 rfl)
    · have h := ie c2 h
      exact b_X11_set_b10 E hr hlk h (lv_sub hl [] rfl) w
set_option maxRecDepth 100000 in
set_option maxHeartbeats 4000000 in
theorem b_X11_set_b10_t {p : Program} {l : Launch} {e : Env} {s : State} {m : MethodId} {args : Array Value} {below : List Frame} {meth : Method} {c : Code} {D : va_G} {cy : ClassId × ClassId × ClassId} {ad : Nat → Nat} {A : Nat → Prop} (E : CallFix p m c cX11_set 4 s args gw RX11) (hr : meth.sig.returnType = none) (hlk : meth.locks = false) (hl0 : l.stackTraces = false) (hno : ∀ x ∈ c.exceptionTable.toList, False) (tx : TX s) (z : ZX A s s.heap) {u : St} {cd : Nat} (h : f_X11_set_b10 u = some (.inl cd)) {ls : Array Slot} {H : Heap} {locs : List Loc} {rr : Nat → Nat} (hl : lv_has ls 4 []) (w : WX (wC cy ad) D cy rr u A s H locs) : Wt (wC cy ad) D p l e 6 82 s m args below meth c A u cd H locs 10 ls [] := by
  have hx := E.1
  have hb := E.2.1
  have hown := E.2.2.2.1
  have hts := E.2.2.2.2
  obtain rfl := Sum.inl.inj (os h)
  exact thr_0 E hlk hl0 hno tx z w (List.mem_of_getElem? (i := 4) rfl) hl.1 (by decide) (by decide) (dq da_X11_set 5 rfl) (dq da_X11_set 6 rfl) (dq da_X11_set 7 rfl) (dq da_X11_set 8 rfl) (dq da_X11_set 9 rfl)
set_option maxRecDepth 100000 in
set_option maxHeartbeats 4000000 in
theorem c_X11_set_t (l : Launch) (hl0 : l.stackTraces = false) (D : va_G) (cy : ClassId × ClassId × ClassId) (ad : Nat → Nat) (x1 : Int32) (x2 : Int64) (u : St) {cd : Nat} (h : f_X11_set x1 x2 u = some (.inl cd)) : MT (wC cy ad) D cy l yX11_set cX11_set 4 (none) 6 82 [.ref (ad 0), .int x1, .long x2] u cd := by
  refine entT (by decide +kernel) (Nat.le_of_ble_eq_true rfl) ?_
  intro p e s m args below meth c ls rr A E hr hlk hno tx z hl w
  have hl : lv_has ls 4 [(0, .ref (ad 0)), (1, .int x1), (2, .long x2)] := hl
  have hx := E.1
  have hb := E.2.1
  have hown := E.2.2.2.1
  have hts := E.2.2.2.2
  refine lv_iload_n hx hb (dq da_X11_set 0 rfl) rfl (lv_at hl 1 rfl) ?_
  refine lv_if_lt (tgt := 10) hx hb (dq da_X11_set 1 rfl) (by decide) (fun c1 => ?_) (fun c1 => ?_)
  · have h := it c1 h
    exact b_X11_set_b10_t E hr hlk hl0 hno tx z h (lv_sub hl [] rfl) w
  · have h := ie c1 h
    refine lv_iload_n hx hb (dq da_X11_set 2 rfl) rfl (lv_at hl 1 rfl) ?_
    refine lv_bipush (v := 32) hx hb (dq da_X11_set 3 rfl) rfl ?_
    refine lv_icmp_le (tgt := 20) hx hb (dq da_X11_set 4 rfl) (by decide) (fun c2 => ?_) (fun c2 => ?_)
    · have h := it c2 h
      exact (rI_no h).elim
    · have h := ie c2 h
      exact b_X11_set_b10_t E hr hlk hl0 hno tx z h (lv_sub hl [] rfl) w
def dl_X11_get : List (Nat × Instr × Nat) := [(0, .iload_n 1, 1), (1, .ifCond .lt 9, 3), (4, .iload_n 1, 1), (5, .bipush 32, 2), (7, .if_icmp .le 13, 3), (10, .new 49, 3), (13, .dup, 1), (14, .ldc 116, 2), (16, .invokespecial 53, 3), (19, .athrow, 1), (20, .iload_n 1, 1), (21, .bipush 32, 2), (23, .if_icmp .ne 13, 3), (26, .aload_n 0, 1), (27, .getfield 45, 3), (30, .getfield 120, 3), (33, .goto 12, 3), (36, .aload_n 0, 1), (37, .getfield 45, 3), (40, .getfield 124, 3), (43, .iload_n 1, 1), (44, .laload, 1), (45, .lreturn, 1)]
theorem da_X11_get : dkL cX11_get dl_X11_get = true := by decide +kernel
def f_X11_get_b10 (u : St) : Option (Nat ⊕ (Int64)) := some (.inl 0)
set_option maxRecDepth 100000 in
set_option maxHeartbeats 4000000 in
theorem b_X11_get_b10 {p : Program} {l : Launch} {e : Env} {s : State} {m : MethodId} {args : Array Value} {below : List Frame} {meth : Method} {c : Code} {D : va_G} {cy : ClassId × ClassId × ClassId} {ad : Nat → Nat} {A : Nat → Prop} (E : CallFix p m c cX11_get 2 s args gw RX11) (hr : meth.sig.returnType = some .long) (hlk : meth.locks = false) {u : St} {r : Int64} (h : f_X11_get_b10 u = some (.inr r)) {ls : Array Slot} {H : Heap} {locs : List Loc} {rr : Nat → Nat} (hl : lv_has ls 2 []) (w : WX (wC cy ad) D cy rr u A s H locs) : Wx (wC cy ad) D p l e 6 82 0 s m args below meth c A u (some (.long r)) H locs 0 10 ls [] := by
  have hx := E.1
  have hb := E.2.1
  have hown := E.2.2.2.1
  have hts := E.2.2.2.2
  cases h
def f_X11_get (x1 : Int32) (u : St) : Option (Nat ⊕ (Int64)) := if x1 < (0 : Int32) then (f_X11_get_b10 u) else (if x1 ≤ (32 : Int32) then (rI (if x1 = (32 : Int32) then (some (gL u 24)) else (if inB x1 (gN u 7) then (some (gB u 1 x1.toNatClampNeg)) else none))) else (f_X11_get_b10 u))
set_option maxRecDepth 100000 in
set_option maxHeartbeats 4000000 in
theorem c_X11_get (l : Launch) (D : va_G) (cy : ClassId × ClassId × ClassId) (ad : Nat → Nat) (x1 : Int32) (u : St) {r : Int64} (h : f_X11_get x1 u = some (.inr r)) : MX (wC cy ad) D cy l yX11_get cX11_get 2 (some .long) 6 82 0 [.ref (ad 0), .int x1] u u (some (.long (r))) := by
  refine entX (by decide +kernel) (Nat.le_of_ble_eq_true rfl) ?_
  intro p e s m args below meth c ls rr A E hr hlk hl w
  have hl : lv_has ls 2 [(0, .ref (ad 0)), (1, .int x1)] := hl
  have hx := E.1
  have hb := E.2.1
  have hown := E.2.2.2.1
  have hts := E.2.2.2.2
  refine lv_iload_n hx hb (dq da_X11_get 0 rfl) rfl (lv_at hl 1 rfl) ?_
  refine lv_if_lt (tgt := 10) hx hb (dq da_X11_get 1 rfl) (by decide) (fun c1 => ?_) (fun c1 => ?_)
  · have h := it c1 h
    exact b_X11_get_b10 E hr hlk h (lv_sub hl [] rfl) w
  · have h := ie c1 h
    refine lv_iload_n hx hb (dq da_X11_get 2 rfl) rfl (lv_at hl 1 rfl) ?_
    refine lv_bipush (v := 32) hx hb (dq da_X11_get 3 rfl) rfl ?_
    refine lv_icmp_le (tgt := 20) hx hb (dq da_X11_get 4 rfl) (by decide) (fun c2 => ?_) (fun c2 => ?_)
    · have h := it c2 h
      have h := rI_of h
      refine lv_iload_n hx hb (dq da_X11_get 10 rfl) rfl (lv_at hl 1 rfl) ?_
      refine lv_bipush (v := 32) hx hb (dq da_X11_get 11 rfl) rfl ?_
      refine lv_icmp_ne (tgt := 36) hx hb (dq da_X11_get 12 rfl) (by decide) (fun c3 => ?_) (fun c3 => ?_)
      · have h := ie c3 h
        refine lv_aload_n hx hb (dq da_X11_get 17 rfl) rfl (lv_at hl 0 rfl) ?_
        refine gt_wC_0_hart E w w_291 (dq da_X11_get 18 rfl) ?_
        refine gtN_wC_18_registers E w n_30 (dq da_X11_get 19 rfl) ?_
        refine lv_iload_n hx hb (dq da_X11_get 20 rfl) rfl (lv_at hl 1 rfl) ?_
        obtain ⟨hi4, h⟩ := oi h
        refine ald_wC_19 E w hi4 (dq da_X11_get 21 rfl) ?_
        exact xret_l E hr hlk w (by decide) (os h) rfl (dq da_X11_get 22 rfl)
      · have h := it c3 h
        refine lv_aload_n hx hb (dq da_X11_get 13 rfl) rfl (lv_at hl 0 rfl) ?_
        refine gt_wC_0_hart E w w_291 (dq da_X11_get 14 rfl) ?_
        refine gtN_wC_18_pc E w n_31 (dq da_X11_get 15 rfl) ?_
        refine lv_goto (tgt := 45) hx hb (dq da_X11_get 16 rfl) (by decide) ?_
        exact xret_l E hr hlk w (by decide) (os h) rfl (dq da_X11_get 22 rfl)
    · have h := ie c2 h
      exact b_X11_get_b10 E hr hlk h (lv_sub hl [] rfl) w
set_option maxRecDepth 100000 in
set_option maxHeartbeats 4000000 in
theorem b_X11_get_b10_t {p : Program} {l : Launch} {e : Env} {s : State} {m : MethodId} {args : Array Value} {below : List Frame} {meth : Method} {c : Code} {D : va_G} {cy : ClassId × ClassId × ClassId} {ad : Nat → Nat} {A : Nat → Prop} (E : CallFix p m c cX11_get 2 s args gw RX11) (hr : meth.sig.returnType = some .long) (hlk : meth.locks = false) (hl0 : l.stackTraces = false) (hno : ∀ x ∈ c.exceptionTable.toList, False) (tx : TX s) (z : ZX A s s.heap) {u : St} {cd : Nat} (h : f_X11_get_b10 u = some (.inl cd)) {ls : Array Slot} {H : Heap} {locs : List Loc} {rr : Nat → Nat} (hl : lv_has ls 2 []) (w : WX (wC cy ad) D cy rr u A s H locs) : Wt (wC cy ad) D p l e 6 82 s m args below meth c A u cd H locs 10 ls [] := by
  have hx := E.1
  have hb := E.2.1
  have hown := E.2.2.2.1
  have hts := E.2.2.2.2
  obtain rfl := Sum.inl.inj (os h)
  exact thr_0 E hlk hl0 hno tx z w (List.mem_of_getElem? (i := 4) rfl) hl.1 (by decide) (by decide) (dq da_X11_get 5 rfl) (dq da_X11_get 6 rfl) (dq da_X11_get 7 rfl) (dq da_X11_get 8 rfl) (dq da_X11_get 9 rfl)
set_option maxRecDepth 100000 in
set_option maxHeartbeats 4000000 in
theorem c_X11_get_t (l : Launch) (hl0 : l.stackTraces = false) (D : va_G) (cy : ClassId × ClassId × ClassId) (ad : Nat → Nat) (x1 : Int32) (u : St) {cd : Nat} (h : f_X11_get x1 u = some (.inl cd)) : MT (wC cy ad) D cy l yX11_get cX11_get 2 (some .long) 6 82 [.ref (ad 0), .int x1] u cd := by
  refine entT (by decide +kernel) (Nat.le_of_ble_eq_true rfl) ?_
  intro p e s m args below meth c ls rr A E hr hlk hno tx z hl w
  have hl : lv_has ls 2 [(0, .ref (ad 0)), (1, .int x1)] := hl
  have hx := E.1
  have hb := E.2.1
  have hown := E.2.2.2.1
  have hts := E.2.2.2.2
  refine lv_iload_n hx hb (dq da_X11_get 0 rfl) rfl (lv_at hl 1 rfl) ?_
  refine lv_if_lt (tgt := 10) hx hb (dq da_X11_get 1 rfl) (by decide) (fun c1 => ?_) (fun c1 => ?_)
  · have h := it c1 h
    exact b_X11_get_b10_t E hr hlk hl0 hno tx z h (lv_sub hl [] rfl) w
  · have h := ie c1 h
    refine lv_iload_n hx hb (dq da_X11_get 2 rfl) rfl (lv_at hl 1 rfl) ?_
    refine lv_bipush (v := 32) hx hb (dq da_X11_get 3 rfl) rfl ?_
    refine lv_icmp_le (tgt := 20) hx hb (dq da_X11_get 4 rfl) (by decide) (fun c2 => ?_) (fun c2 => ?_)
    · have h := it c2 h
      exact (rI_no h).elim
    · have h := ie c2 h
      exact b_X11_get_b10_t E hr hlk hl0 hno tx z h (lv_sub hl [] rfl) w
def dl_X11_lower : List (Nat × Instr × Nat) := [(0, .iload_n 1, 1), (1, .ifCond .eq 23, 3), (4, .iload_n 1, 1), (5, .iconst 1, 1), (6, .if_icmp .eq 18, 3), (9, .iload_n 1, 1), (10, .iconst 3, 1), (11, .if_icmp .eq 13, 3), (14, .new 49, 3), (17, .dup, 1), (18, .ldc 128, 2), (20, .invokespecial 53, 3), (23, .athrow, 1), (24, .aload_n 0, 1), (25, .getfield 45, 3), (28, .iload_n 1, 1), (29, .putfield 130, 3), (32, .return_, 1)]
theorem da_X11_lower : dkL cX11_lower dl_X11_lower = true := by decide +kernel
def f_X11_lower_b24 (x1 : Int32) (u : St) : Option (St) := some (sI u 16 x1)
set_option maxRecDepth 100000 in
set_option maxHeartbeats 4000000 in
theorem b_X11_lower_b24 {p : Program} {l : Launch} {e : Env} {s : State} {m : MethodId} {args : Array Value} {below : List Frame} {meth : Method} {c : Code} {D : va_G} {cy : ClassId × ClassId × ClassId} {ad : Nat → Nat} {A : Nat → Prop} (E : CallFix p m c cX11_lower 2 s args gw RX11) (hr : meth.sig.returnType = none) (hlk : meth.locks = false) {x1 : Int32} {u : St} {u' : St} (h : f_X11_lower_b24 x1 u = some u') {ls : Array Slot} {H : Heap} {locs : List Loc} {rr : Nat → Nat} (hl : lv_has ls 2 [(0, .ref (ad 0)), (1, .int x1)]) (w : WX (wC cy ad) D cy rr u A s H locs) : Wx (wC cy ad) D p l e 6 82 0 s m args below meth c A u' none H locs 0 24 ls [] := by
  have hx := E.1
  have hb := E.2.1
  have hown := E.2.2.2.1
  have hts := E.2.2.2.2
  refine lv_aload_n hx hb (dq da_X11_lower 13 rfl) rfl (lv_at hl 0 rfl) ?_
  refine gt_wC_0_hart E w w_291 (dq da_X11_lower 14 rfl) ?_
  refine lv_iload_n hx hb (dq da_X11_lower 15 rfl) rfl (lv_at hl 1 rfl) ?_
  refine ptN_wC_18_privilege E w n_32 (dq da_X11_lower 16 rfl) (fun H locs w => ?_)
  exact xret_v E hr hlk w (by decide) (os h) (dq da_X11_lower 17 rfl)
def f_X11_lower (x1 : Int32) (u : St) : Option (Nat ⊕ (St)) := if x1 = (0 : Int32) then (rI (f_X11_lower_b24 x1 u)) else (if x1 = (1 : Int32) then (rI (f_X11_lower_b24 x1 u)) else (if x1 = (3 : Int32) then (rI (f_X11_lower_b24 x1 u)) else (some (.inl 0))))
set_option maxRecDepth 100000 in
set_option maxHeartbeats 4000000 in
theorem c_X11_lower (l : Launch) (D : va_G) (cy : ClassId × ClassId × ClassId) (ad : Nat → Nat) (x1 : Int32) (u : St) {u' : St} (h : f_X11_lower x1 u = some (.inr u')) : MX (wC cy ad) D cy l yX11_lower cX11_lower 2 (none) 6 82 0 [.ref (ad 0), .int x1] u u' none := by
  refine entX (by decide +kernel) (Nat.le_of_ble_eq_true rfl) ?_
  intro p e s m args below meth c ls rr A E hr hlk hl w
  have hl : lv_has ls 2 [(0, .ref (ad 0)), (1, .int x1)] := hl
  have hx := E.1
  have hb := E.2.1
  have hown := E.2.2.2.1
  have hts := E.2.2.2.2
  refine lv_iload_n hx hb (dq da_X11_lower 0 rfl) rfl (lv_at hl 1 rfl) ?_
  refine lv_if_eq (tgt := 24) hx hb (dq da_X11_lower 1 rfl) (by decide) (fun c1 => ?_) (fun c1 => ?_)
  · have h := it c1 h
    have h := rI_of h
    exact b_X11_lower_b24 E hr hlk h (lv_sub hl [0, 1] rfl) w
  · have h := ie c1 h
    refine lv_iload_n hx hb (dq da_X11_lower 2 rfl) rfl (lv_at hl 1 rfl) ?_
    refine lv_iconst (v := 1) hx hb (dq da_X11_lower 3 rfl) rfl ?_
    refine lv_icmp_eq (tgt := 24) hx hb (dq da_X11_lower 4 rfl) (by decide) (fun c2 => ?_) (fun c2 => ?_)
    · have h := it c2 h
      have h := rI_of h
      exact b_X11_lower_b24 E hr hlk h (lv_sub hl [0, 1] rfl) w
    · have h := ie c2 h
      refine lv_iload_n hx hb (dq da_X11_lower 5 rfl) rfl (lv_at hl 1 rfl) ?_
      refine lv_iconst (v := 3) hx hb (dq da_X11_lower 6 rfl) rfl ?_
      refine lv_icmp_eq (tgt := 24) hx hb (dq da_X11_lower 7 rfl) (by decide) (fun c3 => ?_) (fun c3 => ?_)
      · have h := it c3 h
        have h := rI_of h
        exact b_X11_lower_b24 E hr hlk h (lv_sub hl [0, 1] rfl) w
      · have h := ie c3 h
        cases h
set_option maxRecDepth 100000 in
set_option maxHeartbeats 4000000 in
theorem c_X11_lower_t (l : Launch) (hl0 : l.stackTraces = false) (D : va_G) (cy : ClassId × ClassId × ClassId) (ad : Nat → Nat) (x1 : Int32) (u : St) {cd : Nat} (h : f_X11_lower x1 u = some (.inl cd)) : MT (wC cy ad) D cy l yX11_lower cX11_lower 2 (none) 6 82 [.ref (ad 0), .int x1] u cd := by
  refine entT (by decide +kernel) (Nat.le_of_ble_eq_true rfl) ?_
  intro p e s m args below meth c ls rr A E hr hlk hno tx z hl w
  have hl : lv_has ls 2 [(0, .ref (ad 0)), (1, .int x1)] := hl
  have hx := E.1
  have hb := E.2.1
  have hown := E.2.2.2.1
  have hts := E.2.2.2.2
  refine lv_iload_n hx hb (dq da_X11_lower 0 rfl) rfl (lv_at hl 1 rfl) ?_
  refine lv_if_eq (tgt := 24) hx hb (dq da_X11_lower 1 rfl) (by decide) (fun c1 => ?_) (fun c1 => ?_)
  · have h := it c1 h
    exact (rI_no h).elim
  · have h := ie c1 h
    refine lv_iload_n hx hb (dq da_X11_lower 2 rfl) rfl (lv_at hl 1 rfl) ?_
    refine lv_iconst (v := 1) hx hb (dq da_X11_lower 3 rfl) rfl ?_
    refine lv_icmp_eq (tgt := 24) hx hb (dq da_X11_lower 4 rfl) (by decide) (fun c2 => ?_) (fun c2 => ?_)
    · have h := it c2 h
      exact (rI_no h).elim
    · have h := ie c2 h
      refine lv_iload_n hx hb (dq da_X11_lower 5 rfl) rfl (lv_at hl 1 rfl) ?_
      refine lv_iconst (v := 3) hx hb (dq da_X11_lower 6 rfl) rfl ?_
      refine lv_icmp_eq (tgt := 24) hx hb (dq da_X11_lower 7 rfl) (by decide) (fun c3 => ?_) (fun c3 => ?_)
      · have h := it c3 h
        exact (rI_no h).elim
      · have h := ie c3 h
        obtain rfl := Sum.inl.inj (os h)
        exact thr_0 E hlk hl0 hno tx z w (List.mem_of_getElem? (i := 5) rfl) hl.1 (by decide) (by decide) (dq da_X11_lower 8 rfl) (dq da_X11_lower 9 rfl) (dq da_X11_lower 10 rfl) (dq da_X11_lower 11 rfl) (dq da_X11_lower 12 rfl)
def dl_X11_control : List (Nat × Instr × Nat) := [(0, .iload_n 1, 1), (1, .invokestatic 134, 3), (4, .ifCond .ne 13, 3), (7, .new 49, 3), (10, .dup, 1), (11, .ldc 138, 2), (13, .invokespecial 53, 3), (16, .athrow, 1), (17, .aload_n 0, 1), (18, .getfield 36, 3), (21, .iload_n 1, 1), (22, .invokevirtual 140, 3), (25, .lreturn, 1)]
theorem da_X11_control : dkL cX11_control dl_X11_control = true := by decide +kernel
def f_X11_control (x1 : Int32) (u : St) : Option (Nat ⊕ (Int64)) := if (f_X4_knows x1) = (0 : Int32) then (some (.inl 0)) else (rI ((f_X4_read x1 u).bind (fun y2 => some y2)))
set_option maxRecDepth 100000 in
set_option maxHeartbeats 4000000 in
theorem c_X11_control (l : Launch) (D : va_G) (cy : ClassId × ClassId × ClassId) (ad : Nat → Nat) (x1 : Int32) (u : St) {r : Int64} (h : f_X11_control x1 u = some (.inr r)) : MX (wC cy ad) D cy l yX11_control cX11_control 2 (some .long) 6 82 0 [.ref (ad 0), .int x1] u u (some (.long (r))) := by
  refine entX (by decide +kernel) (Nat.le_of_ble_eq_true rfl) ?_
  intro p e s m args below meth c ls rr A E hr hlk hl w
  have hl : lv_has ls 2 [(0, .ref (ad 0)), (1, .int x1)] := hl
  have hx := E.1
  have hb := E.2.1
  have hown := E.2.2.2.1
  have hts := E.2.2.2.2
  refine lv_iload_n hx hb (dq da_X11_control 0 rfl) rfl (lv_at hl 1 rfl) ?_
  refine callP E (c_X4_knows l _ ) w_559 w_560 w_7 w_561 hd_X4_knows rfl hl.1 rfl (Nat.le_of_ble_eq_true rfl) ⟨Nat.le_of_ble_eq_true rfl, Nat.le_of_ble_eq_true rfl⟩ (by decide) (dq da_X11_control 1 rfl) ?_
  refine lv_if_ne (tgt := 17) hx hb (dq da_X11_control 2 rfl) (by decide) (fun c1 => ?_) (fun c1 => ?_)
  · have h := ie c1 h
    have h := rI_of h
    refine lv_aload_n hx hb (dq da_X11_control 8 rfl) rfl (lv_at hl 0 rfl) ?_
    refine gt_wC_0_controls E w w_290 (dq da_X11_control 9 rfl) ?_
    refine lv_iload_n hx hb (dq da_X11_control 10 rfl) rfl (lv_at hl 1 rfl) ?_
    obtain ⟨y2, hy3, h⟩ := ob h
    refine cV1 E (c_X4_read l D cy ad _ _ hy3) w_563 w_564 w_565 w_7 w_566 rfl hd_X4_read rfl hl.1 rfl (Nat.le_of_ble_eq_true rfl) ⟨Nat.le_of_ble_eq_true rfl, Nat.le_of_ble_eq_true rfl⟩ (by decide) w (rc_wC_15 w) (dq da_X11_control 11 rfl) (fun H locs rr w => ?_)
    exact xret_l E hr hlk w (by decide) (os h) rfl (dq da_X11_control 12 rfl)
  · have h := it c1 h
    cases h
set_option maxRecDepth 100000 in
set_option maxHeartbeats 4000000 in
theorem c_X11_control_t (l : Launch) (hl0 : l.stackTraces = false) (D : va_G) (cy : ClassId × ClassId × ClassId) (ad : Nat → Nat) (x1 : Int32) (u : St) {cd : Nat} (h : f_X11_control x1 u = some (.inl cd)) : MT (wC cy ad) D cy l yX11_control cX11_control 2 (some .long) 6 82 [.ref (ad 0), .int x1] u cd := by
  refine entT (by decide +kernel) (Nat.le_of_ble_eq_true rfl) ?_
  intro p e s m args below meth c ls rr A E hr hlk hno tx z hl w
  have hl : lv_has ls 2 [(0, .ref (ad 0)), (1, .int x1)] := hl
  have hx := E.1
  have hb := E.2.1
  have hown := E.2.2.2.1
  have hts := E.2.2.2.2
  refine lv_iload_n hx hb (dq da_X11_control 0 rfl) rfl (lv_at hl 1 rfl) ?_
  refine callP E (c_X4_knows l _ ) w_559 w_560 w_7 w_561 hd_X4_knows rfl hl.1 rfl (Nat.le_of_ble_eq_true rfl) ⟨Nat.le_of_ble_eq_true rfl, Nat.le_of_ble_eq_true rfl⟩ (by decide) (dq da_X11_control 1 rfl) ?_
  refine lv_if_ne (tgt := 17) hx hb (dq da_X11_control 2 rfl) (by decide) (fun c1 => ?_) (fun c1 => ?_)
  · have h := ie c1 h
    exact (rI_no h).elim
  · have h := it c1 h
    obtain rfl := Sum.inl.inj (os h)
    exact thr_0 E hlk hl0 hno tx z w (List.mem_of_getElem? (i := 6) rfl) hl.1 (by decide) (by decide) (dq da_X11_control 3 rfl) (dq da_X11_control 4 rfl) (dq da_X11_control 5 rfl) (dq da_X11_control 6 rfl) (dq da_X11_control 7 rfl)
def dl_X11_order : List (Nat × Instr × Nat) := [(0, .iload_n 1, 1), (1, .invokestatic 134, 3), (4, .ifCond .ne 13, 3), (7, .new 49, 3), (10, .dup, 1), (11, .ldc 138, 2), (13, .invokespecial 53, 3), (16, .athrow, 1), (17, .aload_n 0, 1), (18, .getfield 36, 3), (21, .iload_n 1, 1), (22, .lload_n 2, 1), (23, .invokevirtual 143, 3), (26, .return_, 1)]
theorem da_X11_order : dkL cX11_order dl_X11_order = true := by decide +kernel
def f_X11_order (x1 : Int32) (x2 : Int64) (u : St) : Option (Nat ⊕ (St)) := if (f_X4_knows x1) = (0 : Int32) then (some (.inl 0)) else (rI (some (f_X4_write x1 x2 u)))
set_option maxRecDepth 100000 in
set_option maxHeartbeats 4000000 in
theorem c_X11_order (l : Launch) (D : va_G) (cy : ClassId × ClassId × ClassId) (ad : Nat → Nat) (x1 : Int32) (x2 : Int64) (u : St) {u' : St} (h : f_X11_order x1 x2 u = some (.inr u')) : MX (wC cy ad) D cy l yX11_order cX11_order 4 (none) 6 82 0 [.ref (ad 0), .int x1, .long x2] u u' none := by
  refine entX (by decide +kernel) (Nat.le_of_ble_eq_true rfl) ?_
  intro p e s m args below meth c ls rr A E hr hlk hl w
  have hl : lv_has ls 4 [(0, .ref (ad 0)), (1, .int x1), (2, .long x2)] := hl
  have hx := E.1
  have hb := E.2.1
  have hown := E.2.2.2.1
  have hts := E.2.2.2.2
  refine lv_iload_n hx hb (dq da_X11_order 0 rfl) rfl (lv_at hl 1 rfl) ?_
  refine callP E (c_X4_knows l _ ) w_559 w_560 w_7 w_561 hd_X4_knows rfl hl.1 rfl (Nat.le_of_ble_eq_true rfl) ⟨Nat.le_of_ble_eq_true rfl, Nat.le_of_ble_eq_true rfl⟩ (by decide) (dq da_X11_order 1 rfl) ?_
  refine lv_if_ne (tgt := 17) hx hb (dq da_X11_order 2 rfl) (by decide) (fun c1 => ?_) (fun c1 => ?_)
  · have h := ie c1 h
    have h := rI_of h
    refine lv_aload_n hx hb (dq da_X11_order 8 rfl) rfl (lv_at hl 0 rfl) ?_
    refine gt_wC_0_controls E w w_290 (dq da_X11_order 9 rfl) ?_
    refine lv_iload_n hx hb (dq da_X11_order 10 rfl) rfl (lv_at hl 1 rfl) ?_
    refine lv_lload_n hx hb (dq da_X11_order 11 rfl) rfl (lv_at hl 2 rfl) ?_
    refine cV0 E (c_X4_write l D cy ad _ _ _ ) w_598 w_599 w_600 w_7 w_601 rfl hd_X4_write rfl hl.1 rfl (Nat.le_of_ble_eq_true rfl) ⟨Nat.le_of_ble_eq_true rfl, Nat.le_of_ble_eq_true rfl⟩ (by decide) w (rc_wC_15 w) (dq da_X11_order 12 rfl) (fun H locs rr w => ?_)
    exact xret_v E hr hlk w (by decide) (os h) (dq da_X11_order 13 rfl)
  · have h := it c1 h
    cases h
set_option maxRecDepth 100000 in
set_option maxHeartbeats 4000000 in
theorem c_X11_order_t (l : Launch) (hl0 : l.stackTraces = false) (D : va_G) (cy : ClassId × ClassId × ClassId) (ad : Nat → Nat) (x1 : Int32) (x2 : Int64) (u : St) {cd : Nat} (h : f_X11_order x1 x2 u = some (.inl cd)) : MT (wC cy ad) D cy l yX11_order cX11_order 4 (none) 6 82 [.ref (ad 0), .int x1, .long x2] u cd := by
  refine entT (by decide +kernel) (Nat.le_of_ble_eq_true rfl) ?_
  intro p e s m args below meth c ls rr A E hr hlk hno tx z hl w
  have hl : lv_has ls 4 [(0, .ref (ad 0)), (1, .int x1), (2, .long x2)] := hl
  have hx := E.1
  have hb := E.2.1
  have hown := E.2.2.2.1
  have hts := E.2.2.2.2
  refine lv_iload_n hx hb (dq da_X11_order 0 rfl) rfl (lv_at hl 1 rfl) ?_
  refine callP E (c_X4_knows l _ ) w_559 w_560 w_7 w_561 hd_X4_knows rfl hl.1 rfl (Nat.le_of_ble_eq_true rfl) ⟨Nat.le_of_ble_eq_true rfl, Nat.le_of_ble_eq_true rfl⟩ (by decide) (dq da_X11_order 1 rfl) ?_
  refine lv_if_ne (tgt := 17) hx hb (dq da_X11_order 2 rfl) (by decide) (fun c1 => ?_) (fun c1 => ?_)
  · have h := ie c1 h
    exact (rI_no h).elim
  · have h := it c1 h
    obtain rfl := Sum.inl.inj (os h)
    exact thr_0 E hlk hl0 hno tx z w (List.mem_of_getElem? (i := 6) rfl) hl.1 (by decide) (by decide) (dq da_X11_order 3 rfl) (dq da_X11_order 4 rfl) (dq da_X11_order 5 rfl) (dq da_X11_order 6 rfl) (dq da_X11_order 7 rfl)
def dl_X11_raise : List (Nat × Instr × Nat) := [(0, .iload_n 1, 1), (1, .iconst 2, 1), (2, .if_icmp .lt 9, 3), (5, .iload_n 1, 1), (6, .bipush 7, 2), (8, .if_icmp .le 13, 3), (11, .new 49, 3), (14, .dup, 1), (15, .ldc 146, 2), (17, .invokespecial 53, 3), (20, .athrow, 1), (21, .aload_n 0, 1), (22, .getfield 27, 3), (25, .getfield 148, 3), (28, .iload_n 1, 1), (29, .iload_n 2, 1), (30, .invokevirtual 152, 3), (33, .aload_n 0, 1), (34, .getfield 27, 3), (37, .invokevirtual 92, 3), (40, .return_, 1)]
theorem da_X11_raise : dkL cX11_raise dl_X11_raise = true := by decide +kernel
def f_X11_raise_b11 (u : St) : Option (Nat ⊕ (St)) := some (.inl 0)
set_option maxRecDepth 100000 in
set_option maxHeartbeats 4000000 in
theorem b_X11_raise_b11 {p : Program} {l : Launch} {e : Env} {s : State} {m : MethodId} {args : Array Value} {below : List Frame} {meth : Method} {c : Code} {D : va_G} {cy : ClassId × ClassId × ClassId} {ad : Nat → Nat} {A : Nat → Prop} (E : CallFix p m c cX11_raise 3 s args gw RX11) (hr : meth.sig.returnType = none) (hlk : meth.locks = false) {u : St} {u' : St} (h : f_X11_raise_b11 u = some (.inr u')) {ls : Array Slot} {H : Heap} {locs : List Loc} {rr : Nat → Nat} (hl : lv_has ls 3 []) (w : WX (wC cy ad) D cy rr u A s H locs) : Wx (wC cy ad) D p l e 6 82 0 s m args below meth c A u' none H locs 0 11 ls [] := by
  have hx := E.1
  have hb := E.2.1
  have hown := E.2.2.2.1
  have hts := E.2.2.2.2
  cases h
def f_X11_raise (x1 : Int32) (x2 : Int32) (u : St) : Option (Nat ⊕ (St)) := if x1 < (2 : Int32) then (f_X11_raise_b11 u) else (if x1 ≤ (7 : Int32) then (rI (some (f_X1_settle (f_X3_drive x1 x2 u)))) else (f_X11_raise_b11 u))
set_option maxRecDepth 100000 in
set_option maxHeartbeats 4000000 in
theorem c_X11_raise (l : Launch) (D : va_G) (cy : ClassId × ClassId × ClassId) (ad : Nat → Nat) (x1 : Int32) (x2 : Int32) (u : St) {u' : St} (h : f_X11_raise x1 x2 u = some (.inr u')) : MX (wC cy ad) D cy l yX11_raise cX11_raise 3 (none) 6 82 0 [.ref (ad 0), .int x1, .int x2] u u' none := by
  refine entX (by decide +kernel) (Nat.le_of_ble_eq_true rfl) ?_
  intro p e s m args below meth c ls rr A E hr hlk hl w
  have hl : lv_has ls 3 [(0, .ref (ad 0)), (1, .int x1), (2, .int x2)] := hl
  have hx := E.1
  have hb := E.2.1
  have hown := E.2.2.2.1
  have hts := E.2.2.2.2
  refine lv_iload_n hx hb (dq da_X11_raise 0 rfl) rfl (lv_at hl 1 rfl) ?_
  refine lv_iconst (v := 2) hx hb (dq da_X11_raise 1 rfl) rfl ?_
  refine lv_icmp_lt (tgt := 11) hx hb (dq da_X11_raise 2 rfl) (by decide) (fun c1 => ?_) (fun c1 => ?_)
  · have h := it c1 h
    exact b_X11_raise_b11 E hr hlk h (lv_sub hl [] rfl) w
  · have h := ie c1 h
    refine lv_iload_n hx hb (dq da_X11_raise 3 rfl) rfl (lv_at hl 1 rfl) ?_
    refine lv_bipush (v := 7) hx hb (dq da_X11_raise 4 rfl) rfl ?_
    refine lv_icmp_le (tgt := 21) hx hb (dq da_X11_raise 5 rfl) (by decide) (fun c2 => ?_) (fun c2 => ?_)
    · have h := it c2 h
      have h := rI_of h
      refine lv_aload_n hx hb (dq da_X11_raise 11 rfl) rfl (lv_at hl 0 rfl) ?_
      refine gt_wC_0_bus E w w_289 (dq da_X11_raise 12 rfl) ?_
      refine gtN_wC_3_controller E w n_8 (dq da_X11_raise 13 rfl) ?_
      refine lv_iload_n hx hb (dq da_X11_raise 14 rfl) rfl (lv_at hl 1 rfl) ?_
      refine lv_iload_n hx hb (dq da_X11_raise 15 rfl) rfl (lv_at hl 2 rfl) ?_
      refine cV0 E (c_X3_drive l D cy ad _ _ _ ) w_641 w_642 w_643 w_5 w_644 rfl hd_X3_drive rfl hl.1 rfl (Nat.le_of_ble_eq_true rfl) ⟨Nat.le_of_ble_eq_true rfl, Nat.le_of_ble_eq_true rfl⟩ (by decide) w (rc_wC_6 w) (dq da_X11_raise 16 rfl) (fun H locs rr w => ?_)
      refine lv_aload_n hx hb (dq da_X11_raise 17 rfl) rfl (lv_at hl 0 rfl) ?_
      refine gt_wC_0_bus E w w_289 (dq da_X11_raise 18 rfl) ?_
      refine cV0 E (c_X1_settle l D cy ad _ ) w_480 w_481 w_482 w_3 w_483 rfl hd_X1_settle rfl hl.1 rfl (Nat.le_of_ble_eq_true rfl) ⟨Nat.le_of_ble_eq_true rfl, Nat.le_of_ble_eq_true rfl⟩ (by decide) w (rc_wC_3 w) (dq da_X11_raise 19 rfl) (fun H locs rr w => ?_)
      exact xret_v E hr hlk w (by decide) (os h) (dq da_X11_raise 20 rfl)
    · have h := ie c2 h
      exact b_X11_raise_b11 E hr hlk h (lv_sub hl [] rfl) w
set_option maxRecDepth 100000 in
set_option maxHeartbeats 4000000 in
theorem b_X11_raise_b11_t {p : Program} {l : Launch} {e : Env} {s : State} {m : MethodId} {args : Array Value} {below : List Frame} {meth : Method} {c : Code} {D : va_G} {cy : ClassId × ClassId × ClassId} {ad : Nat → Nat} {A : Nat → Prop} (E : CallFix p m c cX11_raise 3 s args gw RX11) (hr : meth.sig.returnType = none) (hlk : meth.locks = false) (hl0 : l.stackTraces = false) (hno : ∀ x ∈ c.exceptionTable.toList, False) (tx : TX s) (z : ZX A s s.heap) {u : St} {cd : Nat} (h : f_X11_raise_b11 u = some (.inl cd)) {ls : Array Slot} {H : Heap} {locs : List Loc} {rr : Nat → Nat} (hl : lv_has ls 3 []) (w : WX (wC cy ad) D cy rr u A s H locs) : Wt (wC cy ad) D p l e 6 82 s m args below meth c A u cd H locs 11 ls [] := by
  have hx := E.1
  have hb := E.2.1
  have hown := E.2.2.2.1
  have hts := E.2.2.2.2
  obtain rfl := Sum.inl.inj (os h)
  exact thr_0 E hlk hl0 hno tx z w (List.mem_of_getElem? (i := 7) rfl) hl.1 (by decide) (by decide) (dq da_X11_raise 6 rfl) (dq da_X11_raise 7 rfl) (dq da_X11_raise 8 rfl) (dq da_X11_raise 9 rfl) (dq da_X11_raise 10 rfl)
set_option maxRecDepth 100000 in
set_option maxHeartbeats 4000000 in
theorem c_X11_raise_t (l : Launch) (hl0 : l.stackTraces = false) (D : va_G) (cy : ClassId × ClassId × ClassId) (ad : Nat → Nat) (x1 : Int32) (x2 : Int32) (u : St) {cd : Nat} (h : f_X11_raise x1 x2 u = some (.inl cd)) : MT (wC cy ad) D cy l yX11_raise cX11_raise 3 (none) 6 82 [.ref (ad 0), .int x1, .int x2] u cd := by
  refine entT (by decide +kernel) (Nat.le_of_ble_eq_true rfl) ?_
  intro p e s m args below meth c ls rr A E hr hlk hno tx z hl w
  have hl : lv_has ls 3 [(0, .ref (ad 0)), (1, .int x1), (2, .int x2)] := hl
  have hx := E.1
  have hb := E.2.1
  have hown := E.2.2.2.1
  have hts := E.2.2.2.2
  refine lv_iload_n hx hb (dq da_X11_raise 0 rfl) rfl (lv_at hl 1 rfl) ?_
  refine lv_iconst (v := 2) hx hb (dq da_X11_raise 1 rfl) rfl ?_
  refine lv_icmp_lt (tgt := 11) hx hb (dq da_X11_raise 2 rfl) (by decide) (fun c1 => ?_) (fun c1 => ?_)
  · have h := it c1 h
    exact b_X11_raise_b11_t E hr hlk hl0 hno tx z h (lv_sub hl [] rfl) w
  · have h := ie c1 h
    refine lv_iload_n hx hb (dq da_X11_raise 3 rfl) rfl (lv_at hl 1 rfl) ?_
    refine lv_bipush (v := 7) hx hb (dq da_X11_raise 4 rfl) rfl ?_
    refine lv_icmp_le (tgt := 21) hx hb (dq da_X11_raise 5 rfl) (by decide) (fun c2 => ?_) (fun c2 => ?_)
    · have h := it c2 h
      exact (rI_no h).elim
    · have h := ie c2 h
      exact b_X11_raise_b11_t E hr hlk hl0 hno tx z h (lv_sub hl [] rfl) w
def dl_X11_step : List (Nat × Instr × Nat) := [(0, .iload_n 1, 1), (1, .ifCond .lt 10, 3), (4, .iload_n 1, 1), (5, .sipush 4096, 3), (8, .if_icmp .le 13, 3), (11, .new 49, 3), (14, .dup, 1), (15, .ldc 158, 2), (17, .invokespecial 53, 3), (20, .athrow, 1), (21, .iconst 0, 1), (22, .istore_n 2, 1), (23, .iconst 0, 1), (24, .istore_n 3, 1), (25, .iload_n 3, 1), (26, .iload_n 1, 1), (27, .if_icmp .ge 22, 3), (30, .aload_n 0, 1), (31, .getfield 45, 3), (34, .invokevirtual 160, 3), (37, .ifCond .eq 6, 3), (40, .iinc 2 1, 3), (43, .iinc 3 1, 3), (46, .goto (-21), 3), (49, .iload_n 2, 1), (50, .ireturn, 1)]
theorem da_X11_step : dkL cX11_step dl_X11_step = true := by decide +kernel
def f_X11_step_b11 (u : St) : Option (Nat ⊕ (Int32 × St × Nat)) := some (.inl 0)
set_option maxRecDepth 100000 in
set_option maxHeartbeats 4000000 in
theorem b_X11_step_b11 {p : Program} {l : Launch} {e : Env} {s : State} {m : MethodId} {args : Array Value} {below : List Frame} {meth : Method} {c : Code} {D : va_G} {cy : ClassId × ClassId × ClassId} {ad : Nat → Nat} {A : Nat → Prop} {K : Nat} (E : CallFix p m c cX11_step 4 s args gw RX11) (hr : meth.sig.returnType = some .int) (hlk : meth.locks = false) {u : St} {r : Int32} {u' : St} {k' : Nat} (h : f_X11_step_b11 u = some (.inr (r, u', k'))) {ls : Array Slot} {H : Heap} {locs : List Loc} {rr : Nat → Nat} {cells : Nat} (hc : cells + k' ≤ K) (hl : lv_has ls 4 []) (w : WX (wC cy ad) D cy rr u A s H locs) : Wx (wC cy ad) D p l e 7 173 K s m args below meth c A u' (some (.int r)) H locs cells 11 ls [] := by
  have hx := E.1
  have hb := E.2.1
  have hown := E.2.2.2.1
  have hts := E.2.2.2.2
  cases h
def f_X11_step_b43 (k25 : Int32 → Int32 → Int32 → St → Option (Int32 × St × Nat)) (x1 : Int32) (x2 : Int32) (x3 : Int32) (u : St) : Option (Int32 × St × Nat) := k25 x1 x2 (x3 + (1 : Int32)) u
set_option maxRecDepth 100000 in
set_option maxHeartbeats 4000000 in
theorem b_X11_step_b43 {p : Program} {l : Launch} {e : Env} {s : State} {m : MethodId} {args : Array Value} {below : List Frame} {meth : Method} {c : Code} {D : va_G} {cy : ClassId × ClassId × ClassId} {ad : Nat → Nat} {A : Nat → Prop} {K : Nat} (E : CallFix p m c cX11_step 4 s args gw RX11) (hr : meth.sig.returnType = some .int) (hlk : meth.locks = false) {k25 : Int32 → Int32 → Int32 → St → Option (Int32 × St × Nat)} (hk25 : ∀ (x1 : Int32) (x2 : Int32) (x3 : Int32) (u : St) (r : Int32) (u' : St) (k' : Nat), k25 x1 x2 x3 u = some (r, u', k') → ∀ (ls : Array Slot) (H : Heap) (locs : List Loc) (rr : Nat → Nat) (cells : Nat), cells + k' ≤ K → lv_has ls 4 [(0, .ref (ad 0)), (1, .int x1), (2, .int x2), (3, .int x3)] → WX (wC cy ad) D cy rr u A s H locs → Wx (wC cy ad) D p l e 7 173 K s m args below meth c A u' (some (.int r)) H locs cells 25 ls []) {x1 : Int32} {x2 : Int32} {x3 : Int32} {u : St} {r : Int32} {u' : St} {k' : Nat} (h : f_X11_step_b43 k25 x1 x2 x3 u = some (r, u', k')) {ls : Array Slot} {H : Heap} {locs : List Loc} {rr : Nat → Nat} {cells : Nat} (hc : cells + k' ≤ K) (hl : lv_has ls 4 [(0, .ref (ad 0)), (1, .int x1), (2, .int x2), (3, .int x3)]) (w : WX (wC cy ad) D cy rr u A s H locs) : Wx (wC cy ad) D p l e 7 173 K s m args below meth c A u' (some (.int r)) H locs cells 43 ls [] := by
  have hx := E.1
  have hb := E.2.1
  have hown := E.2.2.2.1
  have hts := E.2.2.2.2
  refine lv_iinc (v := (x3 + (1 : Int32))) (lv' := [(3, .int (x3 + (1 : Int32))), (0, .ref (ad 0)), (1, .int x1), (2, .int x2)]) hx hb (dq da_X11_step 22 rfl) hl (k := 3) rfl rfl (by decide) rfl (fun ls hl => ?_)
  refine lv_goto (tgt := 25) hx hb (dq da_X11_step 23 rfl) (by decide) ?_
  exact hk25 _ _ _ _ _ _ _ h ls _ _ _ _ hc (lv_sub hl [1, 2, 3, 0] rfl) w
def f_X11_step_b25_s (k25 : Int32 → Int32 → Int32 → St → Option (Int32 × St × Nat)) (x1 : Int32) (x2 : Int32) (x3 : Int32) (u : St) : Option (Int32 × St × Nat) := if x1 ≤ x3 then (some (x2, u, 0)) else ((f_X6_advance u).bind (fun y4 => ak1 y4.2.2 (if y4.1 = (0 : Int32) then (f_X11_step_b43 k25 x1 x2 x3 y4.2.1) else (f_X11_step_b43 k25 x1 (x2 + (1 : Int32)) x3 y4.2.1))))
set_option maxRecDepth 100000 in
set_option maxHeartbeats 4000000 in
theorem b_X11_step_b25_s {p : Program} {l : Launch} {e : Env} {s : State} {m : MethodId} {args : Array Value} {below : List Frame} {meth : Method} {c : Code} {D : va_G} {cy : ClassId × ClassId × ClassId} {ad : Nat → Nat} {A : Nat → Prop} {K : Nat} (E : CallFix p m c cX11_step 4 s args gw RX11) (hr : meth.sig.returnType = some .int) (hlk : meth.locks = false) {k25 : Int32 → Int32 → Int32 → St → Option (Int32 × St × Nat)} (hk25 : ∀ (x1 : Int32) (x2 : Int32) (x3 : Int32) (u : St) (r : Int32) (u' : St) (k' : Nat), k25 x1 x2 x3 u = some (r, u', k') → ∀ (ls : Array Slot) (H : Heap) (locs : List Loc) (rr : Nat → Nat) (cells : Nat), cells + k' ≤ K → lv_has ls 4 [(0, .ref (ad 0)), (1, .int x1), (2, .int x2), (3, .int x3)] → WX (wC cy ad) D cy rr u A s H locs → Wx (wC cy ad) D p l e 7 173 K s m args below meth c A u' (some (.int r)) H locs cells 25 ls []) {x1 : Int32} {x2 : Int32} {x3 : Int32} {u : St} {r : Int32} {u' : St} {k' : Nat} (h : f_X11_step_b25_s k25 x1 x2 x3 u = some (r, u', k')) {ls : Array Slot} {H : Heap} {locs : List Loc} {rr : Nat → Nat} {cells : Nat} (hc : cells + k' ≤ K) (hl : lv_has ls 4 [(0, .ref (ad 0)), (1, .int x1), (2, .int x2), (3, .int x3)]) (w : WX (wC cy ad) D cy rr u A s H locs) : Wx (wC cy ad) D p l e 7 173 K s m args below meth c A u' (some (.int r)) H locs cells 25 ls [] := by
  have hx := E.1
  have hb := E.2.1
  have hown := E.2.2.2.1
  have hts := E.2.2.2.2
  refine lv_iload_n hx hb (dq da_X11_step 14 rfl) rfl (lv_at hl 3 rfl) ?_
  refine lv_iload_n hx hb (dq da_X11_step 15 rfl) rfl (lv_at hl 1 rfl) ?_
  refine lv_icmp_ge (tgt := 49) hx hb (dq da_X11_step 16 rfl) (by decide) (fun c3 => ?_) (fun c3 => ?_)
  · have h := it c3 h
    refine lv_iload_n hx hb (dq da_X11_step 24 rfl) rfl (lv_at hl 2 rfl) ?_
    exact xret_i E hr hlk w (Nat.le_of_add_right_le hc) (congrArg Prod.fst (os h)) (congrArg (fun q => q.2.1) (os h)) (dq da_X11_step 25 rfl)
  · have h := ie c3 h
    refine lv_aload_n hx hb (dq da_X11_step 17 rfl) rfl (lv_at hl 0 rfl) ?_
    refine gt_wC_0_hart E w w_291 (dq da_X11_step 18 rfl) ?_
    obtain ⟨y4, hy5, h⟩ := ob h
    obtain ⟨k6, h, hk7⟩ := ak1_of h
    refine cV1k E (c_X6_advance l D cy ad _ hy5) w_653 w_654 w_655 w_9 w_656 rfl hd_X6_advance rfl hl.1 rfl (Nat.le_of_ble_eq_true rfl) ⟨Nat.le_of_ble_eq_true rfl, Nat.le_of_ble_eq_true rfl⟩ (hcb hc hk7) w (rc_wC_18 w) (dq da_X11_step 19 rfl) (fun H locs rr w => ?_)
    have hc := hcd hc hk7
    refine lv_if_eq (tgt := 43) hx hb (dq da_X11_step 20 rfl) (by decide) (fun c8 => ?_) (fun c8 => ?_)
    · have h := it c8 h
      exact b_X11_step_b43 E hr hlk hk25 h hc (lv_sub hl [0, 1, 2, 3] rfl) w
    · have h := ie c8 h
      refine lv_iinc (v := (x2 + (1 : Int32))) (lv' := [(2, .int (x2 + (1 : Int32))), (0, .ref (ad 0)), (1, .int x1), (3, .int x3)]) hx hb (dq da_X11_step 21 rfl) hl (k := 2) rfl rfl (by decide) rfl (fun ls hl => ?_)
      exact b_X11_step_b43 E hr hlk hk25 h hc (lv_sub hl [1, 2, 0, 3] rfl) w
def f_X11_step_b25 : Nat → Int32 → Int32 → Int32 → St → Option (Int32 × St × Nat)
  | 0 => fun _ _ _ _ => none
  | n + 1 => f_X11_step_b25_s (f_X11_step_b25 n)
theorem b_X11_step_b25 {p : Program} {l : Launch} {e : Env} {s : State} {m : MethodId} {args : Array Value} {below : List Frame} {meth : Method} {c : Code} {D : va_G} {cy : ClassId × ClassId × ClassId} {ad : Nat → Nat} {A : Nat → Prop} {K : Nat} (E : CallFix p m c cX11_step 4 s args gw RX11) (hr : meth.sig.returnType = some .int) (hlk : meth.locks = false) : ∀ n : Nat, ∀ (x1 : Int32) (x2 : Int32) (x3 : Int32) (u : St) (r : Int32) (u' : St) (k' : Nat), f_X11_step_b25 n x1 x2 x3 u = some (r, u', k') → ∀ (ls : Array Slot) (H : Heap) (locs : List Loc) (rr : Nat → Nat) (cells : Nat), cells + k' ≤ K → lv_has ls 4 [(0, .ref (ad 0)), (1, .int x1), (2, .int x2), (3, .int x3)] → WX (wC cy ad) D cy rr u A s H locs → Wx (wC cy ad) D p l e 7 173 K s m args below meth c A u' (some (.int r)) H locs cells 25 ls [] := by
  intro n
  induction n with
  | zero => intro x1 x2 x3 u r u' k' h; cases h
  | succ n ih => intro x1 x2 x3 u r u' k' h ls H locs rr cells hc hl w; exact b_X11_step_b25_s E hr hlk ih h hc hl w
def f_X11_step (x1 : Int32) (u : St) : Option (Nat ⊕ (Int32 × St × Nat)) := if x1 < (0 : Int32) then (f_X11_step_b11 u) else (if x1 ≤ (4096 : Int32) then (rI (f_X11_step_b25 FU x1 (0 : Int32) (0 : Int32) u)) else (f_X11_step_b11 u))
set_option maxRecDepth 100000 in
set_option maxHeartbeats 4000000 in
theorem c_X11_step (l : Launch) (D : va_G) (cy : ClassId × ClassId × ClassId) (ad : Nat → Nat) (x1 : Int32) (u : St) {r : Int32} {u' : St} {k' : Nat} (h : f_X11_step x1 u = some (.inr (r, u', k'))) : MX (wC cy ad) D cy l yX11_step cX11_step 4 (some .int) 7 173 k' [.ref (ad 0), .int x1] u u' (some (.int (r))) := by
  refine entX (by decide +kernel) (Nat.le_of_ble_eq_true rfl) ?_
  intro p e s m args below meth c ls rr A E hr hlk hl w
  have hl : lv_has ls 4 [(0, .ref (ad 0)), (1, .int x1)] := hl
  have hc : 0 + k' ≤ k' := Nat.le_of_eq (Nat.zero_add k')
  have hx := E.1
  have hb := E.2.1
  have hown := E.2.2.2.1
  have hts := E.2.2.2.2
  refine lv_iload_n hx hb (dq da_X11_step 0 rfl) rfl (lv_at hl 1 rfl) ?_
  refine lv_if_lt (tgt := 11) hx hb (dq da_X11_step 1 rfl) (by decide) (fun c1 => ?_) (fun c1 => ?_)
  · have h := it c1 h
    exact b_X11_step_b11 E hr hlk h hc (lv_sub hl [] rfl) w
  · have h := ie c1 h
    refine lv_iload_n hx hb (dq da_X11_step 2 rfl) rfl (lv_at hl 1 rfl) ?_
    refine lv_sipush (v := 4096) hx hb (dq da_X11_step 3 rfl) rfl ?_
    refine lv_icmp_le (tgt := 21) hx hb (dq da_X11_step 4 rfl) (by decide) (fun c2 => ?_) (fun c2 => ?_)
    · have h := it c2 h
      have h := rI_of h
      refine lv_iconst (v := 0) hx hb (dq da_X11_step 10 rfl) rfl ?_
      refine lv_istore_n (lv' := [(2, .int (0 : Int32)), (0, .ref (ad 0)), (1, .int x1)]) hx hb (dq da_X11_step 11 rfl) rfl hl (by decide) rfl (fun ls hl => ?_)
      refine lv_iconst (v := 0) hx hb (dq da_X11_step 12 rfl) rfl ?_
      refine lv_istore_n (lv' := [(3, .int (0 : Int32)), (2, .int (0 : Int32)), (0, .ref (ad 0)), (1, .int x1)]) hx hb (dq da_X11_step 13 rfl) rfl hl (by decide) rfl (fun ls hl => ?_)
      exact b_X11_step_b25 E hr hlk FU _ _ _ _ _ _ _ h ls _ _ _ _ hc (lv_sub hl [2, 3, 1, 0] rfl) w
    · have h := ie c2 h
      exact b_X11_step_b11 E hr hlk h hc (lv_sub hl [] rfl) w
set_option maxRecDepth 100000 in
set_option maxHeartbeats 4000000 in
theorem b_X11_step_b11_t {p : Program} {l : Launch} {e : Env} {s : State} {m : MethodId} {args : Array Value} {below : List Frame} {meth : Method} {c : Code} {D : va_G} {cy : ClassId × ClassId × ClassId} {ad : Nat → Nat} {A : Nat → Prop} (E : CallFix p m c cX11_step 4 s args gw RX11) (hr : meth.sig.returnType = some .int) (hlk : meth.locks = false) (hl0 : l.stackTraces = false) (hno : ∀ x ∈ c.exceptionTable.toList, False) (tx : TX s) (z : ZX A s s.heap) {u : St} {cd : Nat} (h : f_X11_step_b11 u = some (.inl cd)) {ls : Array Slot} {H : Heap} {locs : List Loc} {rr : Nat → Nat} (hl : lv_has ls 4 []) (w : WX (wC cy ad) D cy rr u A s H locs) : Wt (wC cy ad) D p l e 7 173 s m args below meth c A u cd H locs 11 ls [] := by
  have hx := E.1
  have hb := E.2.1
  have hown := E.2.2.2.1
  have hts := E.2.2.2.2
  obtain rfl := Sum.inl.inj (os h)
  exact thr_0 E hlk hl0 hno tx z w (List.mem_of_getElem? (i := 8) rfl) hl.1 (by decide) (by decide) (dq da_X11_step 5 rfl) (dq da_X11_step 6 rfl) (dq da_X11_step 7 rfl) (dq da_X11_step 8 rfl) (dq da_X11_step 9 rfl)
set_option maxRecDepth 100000 in
set_option maxHeartbeats 4000000 in
theorem c_X11_step_t (l : Launch) (hl0 : l.stackTraces = false) (D : va_G) (cy : ClassId × ClassId × ClassId) (ad : Nat → Nat) (x1 : Int32) (u : St) {cd : Nat} (h : f_X11_step x1 u = some (.inl cd)) : MT (wC cy ad) D cy l yX11_step cX11_step 4 (some .int) 7 173 [.ref (ad 0), .int x1] u cd := by
  refine entT (by decide +kernel) (Nat.le_of_ble_eq_true rfl) ?_
  intro p e s m args below meth c ls rr A E hr hlk hno tx z hl w
  have hl : lv_has ls 4 [(0, .ref (ad 0)), (1, .int x1)] := hl
  have hx := E.1
  have hb := E.2.1
  have hown := E.2.2.2.1
  have hts := E.2.2.2.2
  refine lv_iload_n hx hb (dq da_X11_step 0 rfl) rfl (lv_at hl 1 rfl) ?_
  refine lv_if_lt (tgt := 11) hx hb (dq da_X11_step 1 rfl) (by decide) (fun c1 => ?_) (fun c1 => ?_)
  · have h := it c1 h
    exact b_X11_step_b11_t E hr hlk hl0 hno tx z h (lv_sub hl [] rfl) w
  · have h := ie c1 h
    refine lv_iload_n hx hb (dq da_X11_step 2 rfl) rfl (lv_at hl 1 rfl) ?_
    refine lv_sipush (v := 4096) hx hb (dq da_X11_step 3 rfl) rfl ?_
    refine lv_icmp_le (tgt := 21) hx hb (dq da_X11_step 4 rfl) (by decide) (fun c2 => ?_) (fun c2 => ?_)
    · have h := it c2 h
      exact (rI_no h).elim
    · have h := ie c2 h
      exact b_X11_step_b11_t E hr hlk hl0 hno tx z h (lv_sub hl [] rfl) w
def dl_X11_translate : List (Nat × Instr × Nat) := [(0, .iload_n 3, 1), (1, .ifCond .lt 8, 3), (4, .iload_n 3, 1), (5, .iconst 2, 1), (6, .if_icmp .le 13, 3), (9, .new 49, 3), (12, .dup, 1), (13, .ldc 164, 2), (15, .invokespecial 53, 3), (18, .athrow, 1), (19, .aload_n 0, 1), (20, .getfield 45, 3), (23, .iload_n 3, 1), (24, .invokevirtual 166, 3), (27, .istore 4, 2), (29, .aload_n 0, 1), (30, .getfield 36, 3), (33, .iload 4, 2), (35, .invokevirtual 169, 3), (38, .ifCond .eq 24, 3), (41, .aload_n 0, 1), (42, .getfield 36, 3), (45, .aload_n 0, 1), (46, .getfield 27, 3), (49, .getfield 95, 3), (52, .lload_n 1, 1), (53, .iload_n 3, 1), (54, .iload 4, 2), (56, .invokestatic 172, 3), (59, .goto 4, 3), (62, .lload_n 1, 1), (63, .lreturn, 1)]
theorem da_X11_translate : dkL cX11_translate dl_X11_translate = true := by decide +kernel
def f_X11_translate_b9 (u : St) : Option (Nat ⊕ (Int64)) := some (.inl 0)
set_option maxRecDepth 100000 in
set_option maxHeartbeats 4000000 in
theorem b_X11_translate_b9 {p : Program} {l : Launch} {e : Env} {s : State} {m : MethodId} {args : Array Value} {below : List Frame} {meth : Method} {c : Code} {D : va_G} {cy : ClassId × ClassId × ClassId} {ad : Nat → Nat} {A : Nat → Prop} (E : CallFix p m c cX11_translate 5 s args gw RX11) (hr : meth.sig.returnType = some .long) (hlk : meth.locks = false) {u : St} {r : Int64} (h : f_X11_translate_b9 u = some (.inr r)) {ls : Array Slot} {H : Heap} {locs : List Loc} {rr : Nat → Nat} (hl : lv_has ls 5 []) (w : WX (wC cy ad) D cy rr u A s H locs) : Wx (wC cy ad) D p l e 6 82 0 s m args below meth c A u (some (.long r)) H locs 0 9 ls [] := by
  have hx := E.1
  have hb := E.2.1
  have hown := E.2.2.2.1
  have hts := E.2.2.2.2
  cases h
def f_X11_translate (x1 : Int64) (x3 : Int32) (u : St) : Option (Nat ⊕ (Int64)) := if x3 < (0 : Int32) then (f_X11_translate_b9 u) else (if x3 ≤ (2 : Int32) then (rI (if (f_X4_pages (f_X6_privilegeFor x3 u) u) = (0 : Int32) then (some x1) else ((f_X9_physical x1 x3 (f_X6_privilegeFor x3 u) u).bind (fun y4 => some y4)))) else (f_X11_translate_b9 u))
set_option maxRecDepth 100000 in
set_option maxHeartbeats 4000000 in
theorem c_X11_translate (l : Launch) (D : va_G) (cy : ClassId × ClassId × ClassId) (ad : Nat → Nat) (x1 : Int64) (x3 : Int32) (u : St) {r : Int64} (h : f_X11_translate x1 x3 u = some (.inr r)) : MX (wC cy ad) D cy l yX11_translate cX11_translate 5 (some .long) 6 82 0 [.ref (ad 0), .long x1, .int x3] u u (some (.long (r))) := by
  refine entX (by decide +kernel) (Nat.le_of_ble_eq_true rfl) ?_
  intro p e s m args below meth c ls rr A E hr hlk hl w
  have hl : lv_has ls 5 [(0, .ref (ad 0)), (1, .long x1), (3, .int x3)] := hl
  have hx := E.1
  have hb := E.2.1
  have hown := E.2.2.2.1
  have hts := E.2.2.2.2
  refine lv_iload_n hx hb (dq da_X11_translate 0 rfl) rfl (lv_at hl 2 rfl) ?_
  refine lv_if_lt (tgt := 9) hx hb (dq da_X11_translate 1 rfl) (by decide) (fun c1 => ?_) (fun c1 => ?_)
  · have h := it c1 h
    exact b_X11_translate_b9 E hr hlk h (lv_sub hl [] rfl) w
  · have h := ie c1 h
    refine lv_iload_n hx hb (dq da_X11_translate 2 rfl) rfl (lv_at hl 2 rfl) ?_
    refine lv_iconst (v := 2) hx hb (dq da_X11_translate 3 rfl) rfl ?_
    refine lv_icmp_le (tgt := 19) hx hb (dq da_X11_translate 4 rfl) (by decide) (fun c2 => ?_) (fun c2 => ?_)
    · have h := it c2 h
      have h := rI_of h
      refine lv_aload_n hx hb (dq da_X11_translate 10 rfl) rfl (lv_at hl 0 rfl) ?_
      refine gt_wC_0_hart E w w_291 (dq da_X11_translate 11 rfl) ?_
      refine lv_iload_n hx hb (dq da_X11_translate 12 rfl) rfl (lv_at hl 2 rfl) ?_
      refine cV1 E (c_X6_privilegeFor l D cy ad _ _ ) w_1059 w_715 w_716 w_9 w_717 rfl hd_X6_privilegeFor rfl hl.1 rfl (Nat.le_of_ble_eq_true rfl) ⟨Nat.le_of_ble_eq_true rfl, Nat.le_of_ble_eq_true rfl⟩ (by decide) w (rc_wC_18 w) (dq da_X11_translate 13 rfl) (fun H locs rr w => ?_)
      refine lv_istore (lv' := [(4, .int (f_X6_privilegeFor x3 u)), (0, .ref (ad 0)), (1, .long x1), (3, .int x3)]) hx hb (dq da_X11_translate 14 rfl) hl (by decide) rfl (fun ls hl => ?_)
      refine lv_aload_n hx hb (dq da_X11_translate 15 rfl) rfl (lv_at hl 1 rfl) ?_
      refine gt_wC_0_controls E w w_290 (dq da_X11_translate 16 rfl) ?_
      refine lv_iload hx hb (dq da_X11_translate 17 rfl) (lv_at hl 0 rfl) ?_
      refine cV1 E (c_X4_pages l D cy ad _ _ ) w_1060 w_724 w_725 w_7 w_726 rfl hd_X4_pages rfl hl.1 rfl (Nat.le_of_ble_eq_true rfl) ⟨Nat.le_of_ble_eq_true rfl, Nat.le_of_ble_eq_true rfl⟩ (by decide) w (rc_wC_15 w) (dq da_X11_translate 18 rfl) (fun H locs rr w => ?_)
      refine lv_if_eq (tgt := 62) hx hb (dq da_X11_translate 19 rfl) (by decide) (fun c3 => ?_) (fun c3 => ?_)
      · have h := it c3 h
        refine lv_lload_n hx hb (dq da_X11_translate 30 rfl) rfl (lv_at hl 2 rfl) ?_
        exact xret_l E hr hlk w (by decide) (os h) rfl (dq da_X11_translate 31 rfl)
      · have h := ie c3 h
        refine lv_aload_n hx hb (dq da_X11_translate 20 rfl) rfl (lv_at hl 1 rfl) ?_
        refine gt_wC_0_controls E w w_290 (dq da_X11_translate 21 rfl) ?_
        refine lv_aload_n hx hb (dq da_X11_translate 22 rfl) rfl (lv_at hl 1 rfl) ?_
        refine gt_wC_0_bus E w w_289 (dq da_X11_translate 23 rfl) ?_
        refine gtN_wC_3_ram E w n_5 (dq da_X11_translate 24 rfl) ?_
        refine lv_lload_n hx hb (dq da_X11_translate 25 rfl) rfl (lv_at hl 2 rfl) ?_
        refine lv_iload_n hx hb (dq da_X11_translate 26 rfl) rfl (lv_at hl 3 rfl) ?_
        refine lv_iload hx hb (dq da_X11_translate 27 rfl) (lv_at hl 0 rfl) ?_
        obtain ⟨y4, hy5, h⟩ := ob h
        refine cS1 E (c_X9_physical l D cy ad _ _ _ _ hy5) w_1061 w_728 w_18 w_729 hd_X9_physical rfl hl.1 rfl (Nat.le_of_ble_eq_true rfl) ⟨Nat.le_of_ble_eq_true rfl, Nat.le_of_ble_eq_true rfl⟩ (by decide) w (dq da_X11_translate 28 rfl) (fun H locs rr w => ?_)
        refine lv_goto (tgt := 63) hx hb (dq da_X11_translate 29 rfl) (by decide) ?_
        exact xret_l E hr hlk w (by decide) (os h) rfl (dq da_X11_translate 31 rfl)
    · have h := ie c2 h
      exact b_X11_translate_b9 E hr hlk h (lv_sub hl [] rfl) w
set_option maxRecDepth 100000 in
set_option maxHeartbeats 4000000 in
theorem b_X11_translate_b9_t {p : Program} {l : Launch} {e : Env} {s : State} {m : MethodId} {args : Array Value} {below : List Frame} {meth : Method} {c : Code} {D : va_G} {cy : ClassId × ClassId × ClassId} {ad : Nat → Nat} {A : Nat → Prop} (E : CallFix p m c cX11_translate 5 s args gw RX11) (hr : meth.sig.returnType = some .long) (hlk : meth.locks = false) (hl0 : l.stackTraces = false) (hno : ∀ x ∈ c.exceptionTable.toList, False) (tx : TX s) (z : ZX A s s.heap) {u : St} {cd : Nat} (h : f_X11_translate_b9 u = some (.inl cd)) {ls : Array Slot} {H : Heap} {locs : List Loc} {rr : Nat → Nat} (hl : lv_has ls 5 []) (w : WX (wC cy ad) D cy rr u A s H locs) : Wt (wC cy ad) D p l e 6 82 s m args below meth c A u cd H locs 9 ls [] := by
  have hx := E.1
  have hb := E.2.1
  have hown := E.2.2.2.1
  have hts := E.2.2.2.2
  obtain rfl := Sum.inl.inj (os h)
  exact thr_0 E hlk hl0 hno tx z w (List.mem_of_getElem? (i := 9) rfl) hl.1 (by decide) (by decide) (dq da_X11_translate 5 rfl) (dq da_X11_translate 6 rfl) (dq da_X11_translate 7 rfl) (dq da_X11_translate 8 rfl) (dq da_X11_translate 9 rfl)
set_option maxRecDepth 100000 in
set_option maxHeartbeats 4000000 in
theorem c_X11_translate_t (l : Launch) (hl0 : l.stackTraces = false) (D : va_G) (cy : ClassId × ClassId × ClassId) (ad : Nat → Nat) (x1 : Int64) (x3 : Int32) (u : St) {cd : Nat} (h : f_X11_translate x1 x3 u = some (.inl cd)) : MT (wC cy ad) D cy l yX11_translate cX11_translate 5 (some .long) 6 82 [.ref (ad 0), .long x1, .int x3] u cd := by
  refine entT (by decide +kernel) (Nat.le_of_ble_eq_true rfl) ?_
  intro p e s m args below meth c ls rr A E hr hlk hno tx z hl w
  have hl : lv_has ls 5 [(0, .ref (ad 0)), (1, .long x1), (3, .int x3)] := hl
  have hx := E.1
  have hb := E.2.1
  have hown := E.2.2.2.1
  have hts := E.2.2.2.2
  refine lv_iload_n hx hb (dq da_X11_translate 0 rfl) rfl (lv_at hl 2 rfl) ?_
  refine lv_if_lt (tgt := 9) hx hb (dq da_X11_translate 1 rfl) (by decide) (fun c1 => ?_) (fun c1 => ?_)
  · have h := it c1 h
    exact b_X11_translate_b9_t E hr hlk hl0 hno tx z h (lv_sub hl [] rfl) w
  · have h := ie c1 h
    refine lv_iload_n hx hb (dq da_X11_translate 2 rfl) rfl (lv_at hl 2 rfl) ?_
    refine lv_iconst (v := 2) hx hb (dq da_X11_translate 3 rfl) rfl ?_
    refine lv_icmp_le (tgt := 19) hx hb (dq da_X11_translate 4 rfl) (by decide) (fun c2 => ?_) (fun c2 => ?_)
    · have h := it c2 h
      exact (rI_no h).elim
    · have h := ie c2 h
      exact b_X11_translate_b9_t E hr hlk hl0 hno tx z h (lv_sub hl [] rfl) w
def dl_X11_look : List (Nat × Instr × Nat) := [(0, .iload_n 1, 1), (1, .tableswitch 172 0 10 #[59, 67, 81, 95, 103, 111, 119, 127, 135, 150, 161], 59), (60, .aload_n 0, 1), (61, .getfield 45, 3), (64, .getfield 130, 3), (67, .ireturn, 1), (68, .aload_n 0, 1), (69, .getfield 27, 3), (72, .getfield 77, 3), (75, .getfield 81, 3), (78, .invokevirtual 56, 3), (81, .ireturn, 1), (82, .aload_n 0, 1), (83, .getfield 27, 3), (86, .getfield 77, 3), (89, .getfield 178, 3), (92, .invokevirtual 56, 3), (95, .ireturn, 1), (96, .aload_n 0, 1), (97, .getfield 45, 3), (100, .getfield 181, 3), (103, .ireturn, 1), (104, .aload_n 0, 1), (105, .getfield 45, 3), (108, .getfield 184, 3), (111, .ireturn, 1), (112, .aload_n 0, 1), (113, .getfield 45, 3), (116, .getfield 187, 3), (119, .ireturn, 1), (120, .aload_n 0, 1), (121, .getfield 15, 3), (124, .invokevirtual 56, 3), (127, .ireturn, 1), (128, .aload_n 0, 1), (129, .getfield 27, 3), (132, .getfield 190, 3), (135, .ireturn, 1), (136, .aload_n 0, 1), (137, .getfield 27, 3), (140, .getfield 95, 3), (143, .getfield 193, 3), (146, .sipush 4096, 3), (149, .idiv, 1), (150, .ireturn, 1), (151, .aload_n 0, 1), (152, .getfield 27, 3), (155, .getfield 148, 3), (158, .getfield 195, 3), (161, .ireturn, 1), (162, .aload_n 0, 1), (163, .getfield 27, 3), (166, .getfield 148, 3), (169, .getfield 198, 3), (172, .ireturn, 1), (173, .new 49, 3), (176, .dup, 1), (177, .ldc 201, 2), (179, .invokespecial 53, 3), (182, .athrow, 1)]
theorem da_X11_look : dkL cX11_look dl_X11_look = true := by decide +kernel
def f_X11_look (x1 : Int32) (u : St) : Option (Nat ⊕ (Int32)) := if x1 = (0 : Int32) then (rI (some (gI u 16))) else if x1 = (1 : Int32) then (rI (some (f_X2_size_o11 u))) else if x1 = (2 : Int32) then (rI (some (f_X2_size_o13 u))) else if x1 = (3 : Int32) then (rI (some (gI u 19))) else if x1 = (4 : Int32) then (rI (some (gI u 20))) else if x1 = (5 : Int32) then (rI (some (gI u 21))) else if x1 = (6 : Int32) then (rI (some (f_X2_size_o1 u))) else if x1 = (7 : Int32) then (rI (some (gI u 4))) else if x1 = (8 : Int32) then (rI (some ((gI u 5) / (4096 : Int32)))) else if x1 = (9 : Int32) then (rI (some (gI u 7))) else if x1 = (10 : Int32) then (rI (some (gI u 8))) else (some (.inl 0))
set_option maxRecDepth 100000 in
set_option maxHeartbeats 4000000 in
theorem c_X11_look (l : Launch) (D : va_G) (cy : ClassId × ClassId × ClassId) (ad : Nat → Nat) (x1 : Int32) (u : St) {r : Int32} (h : f_X11_look x1 u = some (.inr r)) : MX (wC cy ad) D cy l yX11_look cX11_look 2 (some .int) 6 82 0 [.ref (ad 0), .int x1] u u (some (.int (r))) := by
  refine entX (by decide +kernel) (Nat.le_of_ble_eq_true rfl) ?_
  intro p e s m args below meth c ls rr A E hr hlk hl w
  have hl : lv_has ls 2 [(0, .ref (ad 0)), (1, .int x1)] := hl
  have hx := E.1
  have hb := E.2.1
  have hown := E.2.2.2.1
  have hts := E.2.2.2.2
  refine lv_iload_n hx hb (dq da_X11_look 0 rfl) rfl (lv_at hl 1 rfl) ?_
  by_cases c1 : x1 = (0 : Int32)
  · have h := it c1 h
    refine lv_tableIn (off := 59) (tgt := 60) hx hb (dq da_X11_look 1 rfl) (by rw [c1]; decide +kernel) (by rw [c1]; decide +kernel) (by rw [c1]; decide +kernel) (by decide) ?_
    have h := rI_of h
    refine lv_aload_n hx hb (dq da_X11_look 2 rfl) rfl (lv_at hl 0 rfl) ?_
    refine gt_wC_0_hart E w w_291 (dq da_X11_look 3 rfl) ?_
    refine gtN_wC_18_privilege E w n_32 (dq da_X11_look 4 rfl) ?_
    exact xret_i E hr hlk w (by decide) (os h) rfl (dq da_X11_look 5 rfl)
  · have h := ie c1 h
    by_cases c2 : x1 = (1 : Int32)
    · have h := it c2 h
      refine lv_tableIn (off := 67) (tgt := 68) hx hb (dq da_X11_look 1 rfl) (by rw [c2]; decide +kernel) (by rw [c2]; decide +kernel) (by rw [c2]; decide +kernel) (by decide) ?_
      have h := rI_of h
      refine lv_aload_n hx hb (dq da_X11_look 6 rfl) rfl (lv_at hl 0 rfl) ?_
      refine gt_wC_0_bus E w w_289 (dq da_X11_look 7 rfl) ?_
      refine gtN_wC_3_line E w n_9 (dq da_X11_look 8 rfl) ?_
      refine gtN_wC_10_input E w n_3 (dq da_X11_look 9 rfl) ?_
      refine cV1 E (c_X2_size_o11 l D cy ad _ ) w_305 w_306 w_307 w_2 w_308 rfl hd_X2_size rfl hl.1 rfl (Nat.le_of_ble_eq_true rfl) ⟨Nat.le_of_ble_eq_true rfl, Nat.le_of_ble_eq_true rfl⟩ (by decide) w (rc_wC_11 w) (dq da_X11_look 10 rfl) (fun H locs rr w => ?_)
      exact xret_i E hr hlk w (by decide) (os h) rfl (dq da_X11_look 11 rfl)
    · have h := ie c2 h
      by_cases c3 : x1 = (2 : Int32)
      · have h := it c3 h
        refine lv_tableIn (off := 81) (tgt := 82) hx hb (dq da_X11_look 1 rfl) (by rw [c3]; decide +kernel) (by rw [c3]; decide +kernel) (by rw [c3]; decide +kernel) (by decide) ?_
        have h := rI_of h
        refine lv_aload_n hx hb (dq da_X11_look 12 rfl) rfl (lv_at hl 0 rfl) ?_
        refine gt_wC_0_bus E w w_289 (dq da_X11_look 13 rfl) ?_
        refine gtN_wC_3_line E w n_9 (dq da_X11_look 14 rfl) ?_
        refine gtN_wC_10_output E w n_4 (dq da_X11_look 15 rfl) ?_
        refine cV1 E (c_X2_size_o13 l D cy ad _ ) w_305 w_306 w_307 w_2 w_308 rfl hd_X2_size rfl hl.1 rfl (Nat.le_of_ble_eq_true rfl) ⟨Nat.le_of_ble_eq_true rfl, Nat.le_of_ble_eq_true rfl⟩ (by decide) w (rc_wC_13 w) (dq da_X11_look 16 rfl) (fun H locs rr w => ?_)
        exact xret_i E hr hlk w (by decide) (os h) rfl (dq da_X11_look 17 rfl)
      · have h := ie c3 h
        by_cases c4 : x1 = (3 : Int32)
        · have h := it c4 h
          refine lv_tableIn (off := 95) (tgt := 96) hx hb (dq da_X11_look 1 rfl) (by rw [c4]; decide +kernel) (by rw [c4]; decide +kernel) (by rw [c4]; decide +kernel) (by decide) ?_
          have h := rI_of h
          refine lv_aload_n hx hb (dq da_X11_look 18 rfl) rfl (lv_at hl 0 rfl) ?_
          refine gt_wC_0_hart E w w_291 (dq da_X11_look 19 rfl) ?_
          refine gtN_wC_18_traps E w n_33 (dq da_X11_look 20 rfl) ?_
          exact xret_i E hr hlk w (by decide) (os h) rfl (dq da_X11_look 21 rfl)
        · have h := ie c4 h
          by_cases c5 : x1 = (4 : Int32)
          · have h := it c5 h
            refine lv_tableIn (off := 103) (tgt := 104) hx hb (dq da_X11_look 1 rfl) (by rw [c5]; decide +kernel) (by rw [c5]; decide +kernel) (by rw [c5]; decide +kernel) (by decide) ?_
            have h := rI_of h
            refine lv_aload_n hx hb (dq da_X11_look 22 rfl) rfl (lv_at hl 0 rfl) ?_
            refine gt_wC_0_hart E w w_291 (dq da_X11_look 23 rfl) ?_
            refine gtN_wC_18_interrupts E w n_34 (dq da_X11_look 24 rfl) ?_
            exact xret_i E hr hlk w (by decide) (os h) rfl (dq da_X11_look 25 rfl)
          · have h := ie c5 h
            by_cases c6 : x1 = (5 : Int32)
            · have h := it c6 h
              refine lv_tableIn (off := 111) (tgt := 112) hx hb (dq da_X11_look 1 rfl) (by rw [c6]; decide +kernel) (by rw [c6]; decide +kernel) (by rw [c6]; decide +kernel) (by decide) ?_
              have h := rI_of h
              refine lv_aload_n hx hb (dq da_X11_look 26 rfl) rfl (lv_at hl 0 rfl) ?_
              refine gt_wC_0_hart E w w_291 (dq da_X11_look 27 rfl) ?_
              refine gtN_wC_18_latest E w n_35 (dq da_X11_look 28 rfl) ?_
              exact xret_i E hr hlk w (by decide) (os h) rfl (dq da_X11_look 29 rfl)
            · have h := ie c6 h
              by_cases c7 : x1 = (6 : Int32)
              · have h := it c7 h
                refine lv_tableIn (off := 119) (tgt := 120) hx hb (dq da_X11_look 1 rfl) (by rw [c7]; decide +kernel) (by rw [c7]; decide +kernel) (by rw [c7]; decide +kernel) (by decide) ?_
                have h := rI_of h
                refine lv_aload_n hx hb (dq da_X11_look 30 rfl) rfl (lv_at hl 0 rfl) ?_
                refine gt_wC_0_tape E w w_288 (dq da_X11_look 31 rfl) ?_
                refine cV1 E (c_X2_size_o1 l D cy ad _ ) w_305 w_306 w_307 w_2 w_308 rfl hd_X2_size rfl hl.1 rfl (Nat.le_of_ble_eq_true rfl) ⟨Nat.le_of_ble_eq_true rfl, Nat.le_of_ble_eq_true rfl⟩ (by decide) w (rc_wC_1 w) (dq da_X11_look 32 rfl) (fun H locs rr w => ?_)
                exact xret_i E hr hlk w (by decide) (os h) rfl (dq da_X11_look 33 rfl)
              · have h := ie c7 h
                by_cases c8 : x1 = (7 : Int32)
                · have h := it c8 h
                  refine lv_tableIn (off := 127) (tgt := 128) hx hb (dq da_X11_look 1 rfl) (by rw [c8]; decide +kernel) (by rw [c8]; decide +kernel) (by rw [c8]; decide +kernel) (by decide) ?_
                  have h := rI_of h
                  refine lv_aload_n hx hb (dq da_X11_look 34 rfl) rfl (lv_at hl 0 rfl) ?_
                  refine gt_wC_0_bus E w w_289 (dq da_X11_look 35 rfl) ?_
                  refine gtN_wC_3_reservedSize E w n_15 (dq da_X11_look 36 rfl) ?_
                  exact xret_i E hr hlk w (by decide) (os h) rfl (dq da_X11_look 37 rfl)
                · have h := ie c8 h
                  by_cases c9 : x1 = (8 : Int32)
                  · have h := it c9 h
                    refine lv_tableIn (off := 135) (tgt := 136) hx hb (dq da_X11_look 1 rfl) (by rw [c9]; decide +kernel) (by rw [c9]; decide +kernel) (by rw [c9]; decide +kernel) (by decide) ?_
                    have h := rI_of h
                    refine lv_aload_n hx hb (dq da_X11_look 38 rfl) rfl (lv_at hl 0 rfl) ?_
                    refine gt_wC_0_bus E w w_289 (dq da_X11_look 39 rfl) ?_
                    refine gtN_wC_3_ram E w n_5 (dq da_X11_look 40 rfl) ?_
                    refine gtN_wC_4_size E w n_0 (dq da_X11_look 41 rfl) ?_
                    refine lv_sipush (v := 4096) hx hb (dq da_X11_look 42 rfl) rfl ?_
                    refine lv_idiv hx hb (dq da_X11_look 43 rfl) (by decide) ?_
                    exact xret_i E hr hlk w (by decide) (os h) rfl (dq da_X11_look 44 rfl)
                  · have h := ie c9 h
                    by_cases c10 : x1 = (9 : Int32)
                    · have h := it c10 h
                      refine lv_tableIn (off := 150) (tgt := 151) hx hb (dq da_X11_look 1 rfl) (by rw [c10]; decide +kernel) (by rw [c10]; decide +kernel) (by rw [c10]; decide +kernel) (by decide) ?_
                      have h := rI_of h
                      refine lv_aload_n hx hb (dq da_X11_look 45 rfl) rfl (lv_at hl 0 rfl) ?_
                      refine gt_wC_0_bus E w w_289 (dq da_X11_look 46 rfl) ?_
                      refine gtN_wC_3_controller E w n_8 (dq da_X11_look 47 rfl) ?_
                      refine gtN_wC_6_pending E w n_1 (dq da_X11_look 48 rfl) ?_
                      exact xret_i E hr hlk w (by decide) (os h) rfl (dq da_X11_look 49 rfl)
                    · have h := ie c10 h
                      by_cases c11 : x1 = (10 : Int32)
                      · have h := it c11 h
                        refine lv_tableIn (off := 161) (tgt := 162) hx hb (dq da_X11_look 1 rfl) (by rw [c11]; decide +kernel) (by rw [c11]; decide +kernel) (by rw [c11]; decide +kernel) (by decide) ?_
                        have h := rI_of h
                        refine lv_aload_n hx hb (dq da_X11_look 50 rfl) rfl (lv_at hl 0 rfl) ?_
                        refine gt_wC_0_bus E w w_289 (dq da_X11_look 51 rfl) ?_
                        refine gtN_wC_3_controller E w n_8 (dq da_X11_look 52 rfl) ?_
                        refine gtN_wC_6_claimed E w n_2 (dq da_X11_look 53 rfl) ?_
                        exact xret_i E hr hlk w (by decide) (os h) rfl (dq da_X11_look 54 rfl)
                      · have h := ie c11 h
                        refine lv_tableOut (tgt := 173) hx hb (dq da_X11_look 1 rfl) (by have := lv_neT (k := (0 : Int32)) (a := 0) c1 rfl; have := lv_neT (k := (1 : Int32)) (a := 1) c2 rfl; have := lv_neT (k := (2 : Int32)) (a := 2) c3 rfl; have := lv_neT (k := (3 : Int32)) (a := 3) c4 rfl; have := lv_neT (k := (4 : Int32)) (a := 4) c5 rfl; have := lv_neT (k := (5 : Int32)) (a := 5) c6 rfl; have := lv_neT (k := (6 : Int32)) (a := 6) c7 rfl; have := lv_neT (k := (7 : Int32)) (a := 7) c8 rfl; have := lv_neT (k := (8 : Int32)) (a := 8) c9 rfl; have := lv_neT (k := (9 : Int32)) (a := 9) c10 rfl; have := lv_neT (k := (10 : Int32)) (a := 10) c11 rfl; omega) (by decide) ?_
                        cases h
set_option maxRecDepth 100000 in
set_option maxHeartbeats 4000000 in
theorem c_X11_look_t (l : Launch) (hl0 : l.stackTraces = false) (D : va_G) (cy : ClassId × ClassId × ClassId) (ad : Nat → Nat) (x1 : Int32) (u : St) {cd : Nat} (h : f_X11_look x1 u = some (.inl cd)) : MT (wC cy ad) D cy l yX11_look cX11_look 2 (some .int) 6 82 [.ref (ad 0), .int x1] u cd := by
  refine entT (by decide +kernel) (Nat.le_of_ble_eq_true rfl) ?_
  intro p e s m args below meth c ls rr A E hr hlk hno tx z hl w
  have hl : lv_has ls 2 [(0, .ref (ad 0)), (1, .int x1)] := hl
  have hx := E.1
  have hb := E.2.1
  have hown := E.2.2.2.1
  have hts := E.2.2.2.2
  refine lv_iload_n hx hb (dq da_X11_look 0 rfl) rfl (lv_at hl 1 rfl) ?_
  by_cases c1 : x1 = (0 : Int32)
  · have h := it c1 h
    refine lv_tableIn (off := 59) (tgt := 60) hx hb (dq da_X11_look 1 rfl) (by rw [c1]; decide +kernel) (by rw [c1]; decide +kernel) (by rw [c1]; decide +kernel) (by decide) ?_
    exact (rI_no h).elim
  · have h := ie c1 h
    by_cases c2 : x1 = (1 : Int32)
    · have h := it c2 h
      refine lv_tableIn (off := 67) (tgt := 68) hx hb (dq da_X11_look 1 rfl) (by rw [c2]; decide +kernel) (by rw [c2]; decide +kernel) (by rw [c2]; decide +kernel) (by decide) ?_
      exact (rI_no h).elim
    · have h := ie c2 h
      by_cases c3 : x1 = (2 : Int32)
      · have h := it c3 h
        refine lv_tableIn (off := 81) (tgt := 82) hx hb (dq da_X11_look 1 rfl) (by rw [c3]; decide +kernel) (by rw [c3]; decide +kernel) (by rw [c3]; decide +kernel) (by decide) ?_
        exact (rI_no h).elim
      · have h := ie c3 h
        by_cases c4 : x1 = (3 : Int32)
        · have h := it c4 h
          refine lv_tableIn (off := 95) (tgt := 96) hx hb (dq da_X11_look 1 rfl) (by rw [c4]; decide +kernel) (by rw [c4]; decide +kernel) (by rw [c4]; decide +kernel) (by decide) ?_
          exact (rI_no h).elim
        · have h := ie c4 h
          by_cases c5 : x1 = (4 : Int32)
          · have h := it c5 h
            refine lv_tableIn (off := 103) (tgt := 104) hx hb (dq da_X11_look 1 rfl) (by rw [c5]; decide +kernel) (by rw [c5]; decide +kernel) (by rw [c5]; decide +kernel) (by decide) ?_
            exact (rI_no h).elim
          · have h := ie c5 h
            by_cases c6 : x1 = (5 : Int32)
            · have h := it c6 h
              refine lv_tableIn (off := 111) (tgt := 112) hx hb (dq da_X11_look 1 rfl) (by rw [c6]; decide +kernel) (by rw [c6]; decide +kernel) (by rw [c6]; decide +kernel) (by decide) ?_
              exact (rI_no h).elim
            · have h := ie c6 h
              by_cases c7 : x1 = (6 : Int32)
              · have h := it c7 h
                refine lv_tableIn (off := 119) (tgt := 120) hx hb (dq da_X11_look 1 rfl) (by rw [c7]; decide +kernel) (by rw [c7]; decide +kernel) (by rw [c7]; decide +kernel) (by decide) ?_
                exact (rI_no h).elim
              · have h := ie c7 h
                by_cases c8 : x1 = (7 : Int32)
                · have h := it c8 h
                  refine lv_tableIn (off := 127) (tgt := 128) hx hb (dq da_X11_look 1 rfl) (by rw [c8]; decide +kernel) (by rw [c8]; decide +kernel) (by rw [c8]; decide +kernel) (by decide) ?_
                  exact (rI_no h).elim
                · have h := ie c8 h
                  by_cases c9 : x1 = (8 : Int32)
                  · have h := it c9 h
                    refine lv_tableIn (off := 135) (tgt := 136) hx hb (dq da_X11_look 1 rfl) (by rw [c9]; decide +kernel) (by rw [c9]; decide +kernel) (by rw [c9]; decide +kernel) (by decide) ?_
                    exact (rI_no h).elim
                  · have h := ie c9 h
                    by_cases c10 : x1 = (9 : Int32)
                    · have h := it c10 h
                      refine lv_tableIn (off := 150) (tgt := 151) hx hb (dq da_X11_look 1 rfl) (by rw [c10]; decide +kernel) (by rw [c10]; decide +kernel) (by rw [c10]; decide +kernel) (by decide) ?_
                      exact (rI_no h).elim
                    · have h := ie c10 h
                      by_cases c11 : x1 = (10 : Int32)
                      · have h := it c11 h
                        refine lv_tableIn (off := 161) (tgt := 162) hx hb (dq da_X11_look 1 rfl) (by rw [c11]; decide +kernel) (by rw [c11]; decide +kernel) (by rw [c11]; decide +kernel) (by decide) ?_
                        exact (rI_no h).elim
                      · have h := ie c11 h
                        refine lv_tableOut (tgt := 173) hx hb (dq da_X11_look 1 rfl) (by have := lv_neT (k := (0 : Int32)) (a := 0) c1 rfl; have := lv_neT (k := (1 : Int32)) (a := 1) c2 rfl; have := lv_neT (k := (2 : Int32)) (a := 2) c3 rfl; have := lv_neT (k := (3 : Int32)) (a := 3) c4 rfl; have := lv_neT (k := (4 : Int32)) (a := 4) c5 rfl; have := lv_neT (k := (5 : Int32)) (a := 5) c6 rfl; have := lv_neT (k := (6 : Int32)) (a := 6) c7 rfl; have := lv_neT (k := (7 : Int32)) (a := 7) c8 rfl; have := lv_neT (k := (8 : Int32)) (a := 8) c9 rfl; have := lv_neT (k := (9 : Int32)) (a := 9) c10 rfl; have := lv_neT (k := (10 : Int32)) (a := 10) c11 rfl; omega) (by decide) ?_
                        obtain rfl := Sum.inl.inj (os h)
                        exact thr_0 E hlk hl0 hno tx z w (List.mem_of_getElem? (i := 10) rfl) hl.1 (by decide) (by decide) (dq da_X11_look 55 rfl) (dq da_X11_look 56 rfl) (dq da_X11_look 57 rfl) (dq da_X11_look 58 rfl) (dq da_X11_look 59 rfl)
def dl_X11_out : List (Nat × Instr × Nat) := [(0, .aload_n 0, 1), (1, .getfield 27, 3), (4, .getfield 77, 3), (7, .getfield 178, 3), (10, .astore_n 2, 1), (11, .iload_n 1, 1), (12, .ifCond .lt 11, 3), (15, .iload_n 1, 1), (16, .aload_n 2, 1), (17, .invokevirtual 56, 3), (20, .if_icmp .lt 13, 3), (23, .new 103, 3), (26, .dup, 1), (27, .ldc 203, 2), (29, .invokespecial 107, 3), (32, .athrow, 1), (33, .aload_n 2, 1), (34, .iload_n 1, 1), (35, .invokevirtual 88, 3), (38, .ireturn, 1)]
theorem da_X11_out : dkL cX11_out dl_X11_out = true := by decide +kernel
def f_X11_out_b23 (u : St) : Option (Nat ⊕ (Int32)) := some (.inl 2)
set_option maxRecDepth 100000 in
set_option maxHeartbeats 4000000 in
theorem b_X11_out_b23 {p : Program} {l : Launch} {e : Env} {s : State} {m : MethodId} {args : Array Value} {below : List Frame} {meth : Method} {c : Code} {D : va_G} {cy : ClassId × ClassId × ClassId} {ad : Nat → Nat} {A : Nat → Prop} (E : CallFix p m c cX11_out 3 s args gw RX11) (hr : meth.sig.returnType = some .int) (hlk : meth.locks = false) {u : St} {r : Int32} (h : f_X11_out_b23 u = some (.inr r)) {ls : Array Slot} {H : Heap} {locs : List Loc} {rr : Nat → Nat} (hl : lv_has ls 3 []) (w : WX (wC cy ad) D cy rr u A s H locs) : Wx (wC cy ad) D p l e 6 82 0 s m args below meth c A u (some (.int r)) H locs 0 23 ls [] := by
  have hx := E.1
  have hb := E.2.1
  have hown := E.2.2.2.1
  have hts := E.2.2.2.2
  cases h
def f_X11_out (x1 : Int32) (u : St) : Option (Nat ⊕ (Int32)) := if x1 < (0 : Int32) then (f_X11_out_b23 u) else (if x1 < (f_X2_size_o13 u) then (rI ((f_X2_byteAt_o13 x1 u).bind (fun y3 => some y3))) else (f_X11_out_b23 u))
set_option maxRecDepth 100000 in
set_option maxHeartbeats 4000000 in
theorem c_X11_out (l : Launch) (D : va_G) (cy : ClassId × ClassId × ClassId) (ad : Nat → Nat) (x1 : Int32) (u : St) {r : Int32} (h : f_X11_out x1 u = some (.inr r)) : MX (wC cy ad) D cy l yX11_out cX11_out 3 (some .int) 6 82 0 [.ref (ad 0), .int x1] u u (some (.int (r))) := by
  refine entX (by decide +kernel) (Nat.le_of_ble_eq_true rfl) ?_
  intro p e s m args below meth c ls rr A E hr hlk hl w
  have hl : lv_has ls 3 [(0, .ref (ad 0)), (1, .int x1)] := hl
  have hx := E.1
  have hb := E.2.1
  have hown := E.2.2.2.1
  have hts := E.2.2.2.2
  refine lv_aload_n hx hb (dq da_X11_out 0 rfl) rfl (lv_at hl 0 rfl) ?_
  refine gt_wC_0_bus E w w_289 (dq da_X11_out 1 rfl) ?_
  refine gtN_wC_3_line E w n_9 (dq da_X11_out 2 rfl) ?_
  refine gtN_wC_10_output E w n_4 (dq da_X11_out 3 rfl) ?_
  refine lv_astore_n (lv' := [(2, .ref (ad 13)), (0, .ref (ad 0)), (1, .int x1)]) hx hb (dq da_X11_out 4 rfl) rfl hl (by decide) rfl (fun ls hl => ?_)
  refine lv_iload_n hx hb (dq da_X11_out 5 rfl) rfl (lv_at hl 2 rfl) ?_
  refine lv_if_lt (tgt := 23) hx hb (dq da_X11_out 6 rfl) (by decide) (fun c1 => ?_) (fun c1 => ?_)
  · have h := it c1 h
    exact b_X11_out_b23 E hr hlk h (lv_sub hl [] rfl) w
  · have h := ie c1 h
    refine lv_iload_n hx hb (dq da_X11_out 7 rfl) rfl (lv_at hl 2 rfl) ?_
    refine lv_aload_n hx hb (dq da_X11_out 8 rfl) rfl (lv_at hl 0 rfl) ?_
    refine cV1 E (c_X2_size_o13 l D cy ad _ ) w_305 w_306 w_307 w_2 w_308 rfl hd_X2_size rfl hl.1 rfl (Nat.le_of_ble_eq_true rfl) ⟨Nat.le_of_ble_eq_true rfl, Nat.le_of_ble_eq_true rfl⟩ (by decide) w (rc_wC_13 w) (dq da_X11_out 9 rfl) (fun H locs rr w => ?_)
    refine lv_icmp_lt (tgt := 33) hx hb (dq da_X11_out 10 rfl) (by decide) (fun c2 => ?_) (fun c2 => ?_)
    · have h := it c2 h
      have h := rI_of h
      refine lv_aload_n hx hb (dq da_X11_out 16 rfl) rfl (lv_at hl 0 rfl) ?_
      refine lv_iload_n hx hb (dq da_X11_out 17 rfl) rfl (lv_at hl 2 rfl) ?_
      obtain ⟨y3, hy4, h⟩ := ob h
      refine cV1 E (c_X2_byteAt_o13 l D cy ad _ _ hy4) w_358 w_326 w_327 w_2 w_328 rfl hd_X2_byteAt rfl hl.1 rfl (Nat.le_of_ble_eq_true rfl) ⟨Nat.le_of_ble_eq_true rfl, Nat.le_of_ble_eq_true rfl⟩ (by decide) w (rc_wC_13 w) (dq da_X11_out 18 rfl) (fun H locs rr w => ?_)
      exact xret_i E hr hlk w (by decide) (os h) rfl (dq da_X11_out 19 rfl)
    · have h := ie c2 h
      exact b_X11_out_b23 E hr hlk h (lv_sub hl [] rfl) w
set_option maxRecDepth 100000 in
set_option maxHeartbeats 4000000 in
theorem b_X11_out_b23_t {p : Program} {l : Launch} {e : Env} {s : State} {m : MethodId} {args : Array Value} {below : List Frame} {meth : Method} {c : Code} {D : va_G} {cy : ClassId × ClassId × ClassId} {ad : Nat → Nat} {A : Nat → Prop} (E : CallFix p m c cX11_out 3 s args gw RX11) (hr : meth.sig.returnType = some .int) (hlk : meth.locks = false) (hl0 : l.stackTraces = false) (hno : ∀ x ∈ c.exceptionTable.toList, False) (tx : TX s) (z : ZX A s s.heap) {u : St} {cd : Nat} (h : f_X11_out_b23 u = some (.inl cd)) {ls : Array Slot} {H : Heap} {locs : List Loc} {rr : Nat → Nat} (hl : lv_has ls 3 []) (w : WX (wC cy ad) D cy rr u A s H locs) : Wt (wC cy ad) D p l e 6 82 s m args below meth c A u cd H locs 23 ls [] := by
  have hx := E.1
  have hb := E.2.1
  have hown := E.2.2.2.1
  have hts := E.2.2.2.2
  obtain rfl := Sum.inl.inj (os h)
  exact thr_2 E hlk hl0 hno tx z w (List.mem_of_getElem? (i := 11) rfl) hl.1 (by decide) (by decide) (dq da_X11_out 11 rfl) (dq da_X11_out 12 rfl) (dq da_X11_out 13 rfl) (dq da_X11_out 14 rfl) (dq da_X11_out 15 rfl)
set_option maxRecDepth 100000 in
set_option maxHeartbeats 4000000 in
theorem c_X11_out_t (l : Launch) (hl0 : l.stackTraces = false) (D : va_G) (cy : ClassId × ClassId × ClassId) (ad : Nat → Nat) (x1 : Int32) (u : St) {cd : Nat} (h : f_X11_out x1 u = some (.inl cd)) : MT (wC cy ad) D cy l yX11_out cX11_out 3 (some .int) 6 82 [.ref (ad 0), .int x1] u cd := by
  refine entT (by decide +kernel) (Nat.le_of_ble_eq_true rfl) ?_
  intro p e s m args below meth c ls rr A E hr hlk hno tx z hl w
  have hl : lv_has ls 3 [(0, .ref (ad 0)), (1, .int x1)] := hl
  have hx := E.1
  have hb := E.2.1
  have hown := E.2.2.2.1
  have hts := E.2.2.2.2
  refine lv_aload_n hx hb (dq da_X11_out 0 rfl) rfl (lv_at hl 0 rfl) ?_
  refine gt_wC_0_bus E w w_289 (dq da_X11_out 1 rfl) ?_
  refine gtN_wC_3_line E w n_9 (dq da_X11_out 2 rfl) ?_
  refine gtN_wC_10_output E w n_4 (dq da_X11_out 3 rfl) ?_
  refine lv_astore_n (lv' := [(2, .ref (ad 13)), (0, .ref (ad 0)), (1, .int x1)]) hx hb (dq da_X11_out 4 rfl) rfl hl (by decide) rfl (fun ls hl => ?_)
  refine lv_iload_n hx hb (dq da_X11_out 5 rfl) rfl (lv_at hl 2 rfl) ?_
  refine lv_if_lt (tgt := 23) hx hb (dq da_X11_out 6 rfl) (by decide) (fun c1 => ?_) (fun c1 => ?_)
  · have h := it c1 h
    exact b_X11_out_b23_t E hr hlk hl0 hno tx z h (lv_sub hl [] rfl) w
  · have h := ie c1 h
    refine lv_iload_n hx hb (dq da_X11_out 7 rfl) rfl (lv_at hl 2 rfl) ?_
    refine lv_aload_n hx hb (dq da_X11_out 8 rfl) rfl (lv_at hl 0 rfl) ?_
    refine cV1 E (c_X2_size_o13 l D cy ad _ ) w_305 w_306 w_307 w_2 w_308 rfl hd_X2_size rfl hl.1 rfl (Nat.le_of_ble_eq_true rfl) ⟨Nat.le_of_ble_eq_true rfl, Nat.le_of_ble_eq_true rfl⟩ (by decide) w (rc_wC_13 w) (dq da_X11_out 9 rfl) (fun H locs rr w => ?_)
    refine lv_icmp_lt (tgt := 33) hx hb (dq da_X11_out 10 rfl) (by decide) (fun c2 => ?_) (fun c2 => ?_)
    · have h := it c2 h
      exact (rI_no h).elim
    · have h := ie c2 h
      exact b_X11_out_b23_t E hr hlk hl0 hno tx z h (lv_sub hl [] rfl) w

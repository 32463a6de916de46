theorem w_170 : Cond.methodLink RX7 1 Lib.objectInit ∈ gw := gw_t1 170 rfl rfl
theorem w_26 : Cond.instanceMethod Lib.objectInit ∈ gw := gw_t1 26 rfl rfl
theorem w_27 : Cond.code Lib.objectInit ⟨#[0xb1]⟩ 1 none ∈ gw := gw_t1 27 rfl rfl
theorem w_34 : Cond.methodLink RX2 1 Lib.objectInit ∈ gw := gw_t1 34 rfl rfl
theorem w_48 : Cond.arrayClass .byte ∈ gw := gw_t1 48 rfl rfl
theorem w_75 : Cond.methodLink RX3 1 Lib.objectInit ∈ gw := gw_t1 75 rfl rfl
theorem w_97 : Cond.arrayClass .int ∈ gw := gw_t1 97 rfl rfl
theorem w_56 : Cond.methodLink RX10 3 Lib.objectInit ∈ gw := gw_t1 56 rfl rfl
theorem w_65 : Cond.arrayClass .long ∈ gw := gw_t1 65 rfl rfl
theorem w_103 : Cond.methodLink RX8 3 Lib.objectInit ∈ gw := gw_t1 103 rfl rfl
theorem w_104 : Cond.classLink RX8 9 RX2 ∈ gw := gw_t1 104 rfl rfl
theorem w_29 : Cond.instantiable RX2 4 ∈ gw := gw_t1 29 rfl rfl
theorem w_105 : Cond.constant RX8 11 (65536) ∈ gw := gw_t1 105 rfl rfl
theorem w_106 : Cond.methodLink RX8 12 yX2_init ∈ gw := gw_t1 106 rfl rfl
theorem w_32 : Cond.instanceMethod yX2_init ∈ gw := gw_t1 32 rfl rfl
theorem w_33 : Cond.code yX2_init cX2_init 2 (none) ∈ gw := gw_t1 33 rfl rfl
theorem w_164 : Cond.methodLink RX4 5 Lib.objectInit ∈ gw := gw_t1 164 rfl rfl
theorem w_165 : Cond.classLink RX4 11 RX7 ∈ gw := gw_t1 165 rfl rfl
theorem w_166 : Cond.instantiable RX7 6 ∈ gw := gw_t1 166 rfl rfl
theorem w_168 : Cond.instanceMethod yX7_init ∈ gw := gw_t1 168 rfl rfl
theorem w_169 : Cond.code yX7_init cX7_init 1 (none) ∈ gw := gw_t1 169 rfl rfl
theorem w_243 : Cond.methodLink RX6 3 Lib.objectInit ∈ gw := gw_t2 3 rfl rfl
theorem w_244 : Cond.constantLong RX6 15 (2147483648) ∈ gw := gw_t2 4 rfl rfl
theorem w_69 : Cond.methodLink RX1 3 Lib.objectInit ∈ gw := gw_t1 69 rfl rfl
theorem w_70 : Cond.classLink RX1 9 RX3 ∈ gw := gw_t1 70 rfl rfl
theorem w_71 : Cond.instantiable RX3 6 ∈ gw := gw_t1 71 rfl rfl
theorem w_73 : Cond.instanceMethod yX3_init ∈ gw := gw_t1 73 rfl rfl
theorem w_74 : Cond.code yX3_init cX3_init 1 (none) ∈ gw := gw_t1 74 rfl rfl
theorem w_98 : Cond.classLink RX1 18 RX8 ∈ gw := gw_t1 98 rfl rfl
theorem w_99 : Cond.instantiable RX8 3 ∈ gw := gw_t1 99 rfl rfl
theorem w_101 : Cond.instanceMethod yX8_init ∈ gw := gw_t1 101 rfl rfl
theorem w_102 : Cond.code yX8_init cX8_init 1 (none) ∈ gw := gw_t1 102 rfl rfl
def dl_X7_init : List (Nat × Instr × Nat) := [(0, .aload_n 0, 1), (1, .invokespecial 1, 3), (4, .return_, 1)]
theorem da_X7_init : dkL cX7_init dl_X7_init = true := by decide +kernel
def W1_X7_init (cy : ClassId × ClassId × ClassId) (h0 : Nat) (rr : Nat → Nat) : va_W := [(h0, .inr (5, [.long (0 : Int64), .long (0 : Int64), .long (0 : Int64), .long (0 : Int64), .long (0 : Int64), .long (0 : Int64)]))]
set_option maxRecDepth 100000 in
set_option maxHeartbeats 4000000 in
theorem c_X7_init (l : Launch) (D : va_G) (cy : ClassId × ClassId × ClassId) (h0 : Nat) : MY [(h0, .inr (5, [.long (0 : Int64), .long (0 : Int64), .long (0 : Int64), .long (0 : Int64), .long (0 : Int64), .long (0 : Int64)]))] (W1_X7_init cy h0) D cy l yX7_init cX7_init 1 1 12 0 0 [.ref (h0)] := by
  refine entY (by decide +kernel) rfl (Nat.le_of_ble_eq_true rfl) ?_
  intro p e s m args below meth c ls A E hr hlk hinm hl w
  have hl : lv_has ls 1 [(0, .ref (h0))] := hl
  have hx := E.1
  have hb := E.2.1
  have hown := E.2.2.2.1
  have hts := E.2.2.2.2
  refine lv_aload_n hx hb (dq da_X7_init 0 rfl) rfl (lv_at hl 0 rfl) ?_
  refine yobj E w_170 w_26 w_27 hl.1 ⟨Nat.le_of_ble_eq_true rfl, Nat.le_of_ble_eq_true rfl⟩ (dq da_X7_init 1 rfl) ?_
  exact yret (rr := fun i => 0) E hr hlk w rfl (Nat.le_of_ble_eq_true rfl) (Nat.le_of_ble_eq_true rfl) (dq da_X7_init 2 rfl)
def dl_X2_init : List (Nat × Instr × Nat) := [(0, .aload_n 0, 1), (1, .invokespecial 1, 3), (4, .aload_n 0, 1), (5, .bipush 64, 2), (7, .newarray .byte, 2), (9, .putfield 9, 3), (12, .aload_n 0, 1), (13, .iload_n 1, 1), (14, .putfield 13, 3), (17, .return_, 1)]
theorem da_X2_init : dkL cX2_init dl_X2_init = true := by decide +kernel
def W1_X2_init (cy : ClassId × ClassId × ClassId) (h0 : Nat) (x1 : Int32) (rr : Nat → Nat) : va_W := [(h0, .inr (1, [.int x1, .ref (rr 0), .int (0 : Int32), .int (0 : Int32)])), (rr 0, .inl (cy.1, 64, .inl (fun _ => 0)))]
set_option maxRecDepth 100000 in
set_option maxHeartbeats 4000000 in
theorem c_X2_init (l : Launch) (D : va_G) (cy : ClassId × ClassId × ClassId) (h0 : Nat) (x1 : Int32) : MY [(h0, .inr (1, [.int (0 : Int32), .null, .int (0 : Int32), .int (0 : Int32)]))] (W1_X2_init cy h0 x1) D cy l yX2_init cX2_init 2 1 12 1 64 [.ref (h0), .int x1] := by
  refine entY (by decide +kernel) rfl (Nat.le_of_ble_eq_true rfl) ?_
  intro p e s m args below meth c ls A E hr hlk hinm hl w
  have hl : lv_has ls 2 [(0, .ref (h0)), (1, .int x1)] := hl
  have hx := E.1
  have hb := E.2.1
  have hown := E.2.2.2.1
  have hts := E.2.2.2.2
  refine lv_aload_n hx hb (dq da_X2_init 0 rfl) rfl (lv_at hl 0 rfl) ?_
  refine yobj E w_34 w_26 w_27 hl.1 ⟨Nat.le_of_ble_eq_true rfl, Nat.le_of_ble_eq_true rfl⟩ (dq da_X2_init 1 rfl) ?_
  refine lv_aload_n hx hb (dq da_X2_init 2 rfl) rfl (lv_at hl 0 rfl) ?_
  refine lv_bipush (v := 64) hx hb (dq da_X2_init 3 rfl) rfl ?_
  refine ynwa (N := 64) (ty := .byte) (k := 0) (a0 := (64, .inl (fun _ => 0))) E w w_48 rfl rfl (fun _ _ h9 => h9) (fun _ => rfl) (by decide) rfl (by decide) (Nat.le_of_ble_eq_true rfl) (Nat.le_of_ble_eq_true rfl) (dq da_X2_init 4 rfl) (fun q1 H w => ?_)
  have w : WY [(h0, .inr (1, [.int (0 : Int32), .null, .int (0 : Int32), .int (0 : Int32)])), (q1, .inl (cy.1, 64, .inl (fun _ => 0)))] D cy A s H _ := w
  refine yput (C := RX2) (T := TX2) (N := 4) (k := 1) (q0 := 0) (ty := (.array .byte)) (ws' := [(h0, .inr (1, [.int (0 : Int32), .ref (q1), .int (0 : Int32), .int (0 : Int32)])), (q1, .inl (cy.1, 64, .inl (fun _ => 0)))]) E w inG_X2 tyX2 tyX2_ok nmX2 rfl rfl (by decide) w_36 rfl (by decide +kernel) rfl rfl (Nat.le_of_ble_eq_true rfl) rfl (dq da_X2_init 5 rfl) (fun H locs w => ?_)
  refine lv_aload_n hx hb (dq da_X2_init 6 rfl) rfl (lv_at hl 0 rfl) ?_
  refine lv_iload_n hx hb (dq da_X2_init 7 rfl) rfl (lv_at hl 1 rfl) ?_
  refine yputF (C := RX2) (T := TX2) (N := 4) (k := 0) (q0 := 0) (ty := .int) (ws' := [(h0, .inr (1, [.int x1, .ref (q1), .int (0 : Int32), .int (0 : Int32)])), (q1, .inl (cy.1, 64, .inl (fun _ => 0)))]) E hinm w inG_X2 tyX2 tyX2_ok nmX2 rfl rfl (by decide) w_35 rfl rfl (by decide +kernel) rfl rfl (Nat.le_of_ble_eq_true rfl) rfl (dq da_X2_init 8 rfl) (fun H locs w => ?_)
  exact yret (rr := fun i => if i = 0 then q1 else 0) E hr hlk w rfl (Nat.le_of_ble_eq_true rfl) (Nat.le_of_ble_eq_true rfl) (dq da_X2_init 9 rfl)
def dl_X3_init : List (Nat × Instr × Nat) := [(0, .aload_n 0, 1), (1, .invokespecial 1, 3), (4, .aload_n 0, 1), (5, .bipush 8, 2), (7, .newarray .int, 2), (9, .putfield 9, 3), (12, .aload_n 0, 1), (13, .iconst 2, 1), (14, .newarray .int, 2), (16, .putfield 13, 3), (19, .aload_n 0, 1), (20, .iconst 2, 1), (21, .newarray .int, 2), (23, .putfield 16, 3), (26, .return_, 1)]
theorem da_X3_init : dkL cX3_init dl_X3_init = true := by decide +kernel
def W1_X3_init (cy : ClassId × ClassId × ClassId) (h0 : Nat) (rr : Nat → Nat) : va_W := [(h0, .inr (2, [.ref (rr 0), .ref (rr 1), .ref (rr 2), .int (0 : Int32), .int (0 : Int32), .int (0 : Int32)])), (rr 0, .inl (cy.2.1, 8, .inl (fun _ => 0))), (rr 1, .inl (cy.2.1, 2, .inl (fun _ => 0))), (rr 2, .inl (cy.2.1, 2, .inl (fun _ => 0)))]
set_option maxRecDepth 100000 in
set_option maxHeartbeats 4000000 in
theorem c_X3_init (l : Launch) (D : va_G) (cy : ClassId × ClassId × ClassId) (h0 : Nat) : MY [(h0, .inr (2, [.null, .null, .null, .int (0 : Int32), .int (0 : Int32), .int (0 : Int32)]))] (W1_X3_init cy h0) D cy l yX3_init cX3_init 1 1 12 3 12 [.ref (h0)] := by
  refine entY (by decide +kernel) rfl (Nat.le_of_ble_eq_true rfl) ?_
  intro p e s m args below meth c ls A E hr hlk hinm hl w
  have hl : lv_has ls 1 [(0, .ref (h0))] := hl
  have hx := E.1
  have hb := E.2.1
  have hown := E.2.2.2.1
  have hts := E.2.2.2.2
  refine lv_aload_n hx hb (dq da_X3_init 0 rfl) rfl (lv_at hl 0 rfl) ?_
  refine yobj E w_75 w_26 w_27 hl.1 ⟨Nat.le_of_ble_eq_true rfl, Nat.le_of_ble_eq_true rfl⟩ (dq da_X3_init 1 rfl) ?_
  refine lv_aload_n hx hb (dq da_X3_init 2 rfl) rfl (lv_at hl 0 rfl) ?_
  refine lv_bipush (v := 8) hx hb (dq da_X3_init 3 rfl) rfl ?_
  refine ynwa (N := 8) (ty := .int) (k := 1) (a0 := (8, .inl (fun _ => 0))) E w w_97 rfl rfl (fun _ _ h9 => h9) (fun _ => rfl) (by decide) rfl (by decide) (Nat.le_of_ble_eq_true rfl) (Nat.le_of_ble_eq_true rfl) (dq da_X3_init 4 rfl) (fun q1 H w => ?_)
  have w : WY [(h0, .inr (2, [.null, .null, .null, .int (0 : Int32), .int (0 : Int32), .int (0 : Int32)])), (q1, .inl (cy.2.1, 8, .inl (fun _ => 0)))] D cy A s H _ := w
  refine yputF (C := RX3) (T := TX3) (N := 6) (k := 0) (q0 := 0) (ty := (.array .int)) (ws' := [(h0, .inr (2, [.ref (q1), .null, .null, .int (0 : Int32), .int (0 : Int32), .int (0 : Int32)])), (q1, .inl (cy.2.1, 8, .inl (fun _ => 0)))]) E hinm w inG_X3 tyX3 tyX3_ok nmX3 rfl rfl (by decide) w_76 rfl rfl (by decide +kernel) rfl rfl (Nat.le_of_ble_eq_true rfl) rfl (dq da_X3_init 5 rfl) (fun H locs w => ?_)
  refine lv_aload_n hx hb (dq da_X3_init 6 rfl) rfl (lv_at hl 0 rfl) ?_
  refine lv_iconst (v := 2) hx hb (dq da_X3_init 7 rfl) rfl ?_
  refine ynwa (N := 2) (ty := .int) (k := 1) (a0 := (2, .inl (fun _ => 0))) E w w_97 rfl rfl (fun _ _ h9 => h9) (fun _ => rfl) (by decide) rfl (by decide) (Nat.le_of_ble_eq_true rfl) (Nat.le_of_ble_eq_true rfl) (dq da_X3_init 8 rfl) (fun q2 H w => ?_)
  have w : WY [(h0, .inr (2, [.ref (q1), .null, .null, .int (0 : Int32), .int (0 : Int32), .int (0 : Int32)])), (q1, .inl (cy.2.1, 8, .inl (fun _ => 0))), (q2, .inl (cy.2.1, 2, .inl (fun _ => 0)))] D cy A s H _ := w
  refine yputF (C := RX3) (T := TX3) (N := 6) (k := 1) (q0 := 0) (ty := (.array .int)) (ws' := [(h0, .inr (2, [.ref (q1), .ref (q2), .null, .int (0 : Int32), .int (0 : Int32), .int (0 : Int32)])), (q1, .inl (cy.2.1, 8, .inl (fun _ => 0))), (q2, .inl (cy.2.1, 2, .inl (fun _ => 0)))]) E hinm w inG_X3 tyX3 tyX3_ok nmX3 rfl rfl (by decide) w_77 rfl rfl (by decide +kernel) rfl rfl (Nat.le_of_ble_eq_true rfl) rfl (dq da_X3_init 9 rfl) (fun H locs w => ?_)
  refine lv_aload_n hx hb (dq da_X3_init 10 rfl) rfl (lv_at hl 0 rfl) ?_
  refine lv_iconst (v := 2) hx hb (dq da_X3_init 11 rfl) rfl ?_
  refine ynwa (N := 2) (ty := .int) (k := 1) (a0 := (2, .inl (fun _ => 0))) E w w_97 rfl rfl (fun _ _ h9 => h9) (fun _ => rfl) (by decide) rfl (by decide) (Nat.le_of_ble_eq_true rfl) (Nat.le_of_ble_eq_true rfl) (dq da_X3_init 12 rfl) (fun q3 H w => ?_)
  have w : WY [(h0, .inr (2, [.ref (q1), .ref (q2), .null, .int (0 : Int32), .int (0 : Int32), .int (0 : Int32)])), (q1, .inl (cy.2.1, 8, .inl (fun _ => 0))), (q2, .inl (cy.2.1, 2, .inl (fun _ => 0))), (q3, .inl (cy.2.1, 2, .inl (fun _ => 0)))] D cy A s H _ := w
  refine yputF (C := RX3) (T := TX3) (N := 6) (k := 2) (q0 := 0) (ty := (.array .int)) (ws' := [(h0, .inr (2, [.ref (q1), .ref (q2), .ref (q3), .int (0 : Int32), .int (0 : Int32), .int (0 : Int32)])), (q1, .inl (cy.2.1, 8, .inl (fun _ => 0))), (q2, .inl (cy.2.1, 2, .inl (fun _ => 0))), (q3, .inl (cy.2.1, 2, .inl (fun _ => 0)))]) E hinm w inG_X3 tyX3 tyX3_ok nmX3 rfl rfl (by decide) w_78 rfl rfl (by decide +kernel) rfl rfl (Nat.le_of_ble_eq_true rfl) rfl (dq da_X3_init 13 rfl) (fun H locs w => ?_)
  exact yret (rr := fun i => if i = 0 then q1 else if i = 1 then q2 else if i = 2 then q3 else 0) E hr hlk w rfl (Nat.le_of_ble_eq_true rfl) (Nat.le_of_ble_eq_true rfl) (dq da_X3_init 14 rfl)
def dl_X10_init : List (Nat × Instr × Nat) := [(0, .aload_n 0, 1), (1, .invokespecial 3, 3), (4, .aload_n 0, 1), (5, .iload_n 1, 1), (6, .sipush 4096, 3), (9, .imul, 1), (10, .putfield 9, 3), (13, .aload_n 0, 1), (14, .iload_n 1, 1), (15, .sipush 512, 3), (18, .imul, 1), (19, .newarray .long, 2), (21, .putfield 15, 3), (24, .return_, 1)]
theorem da_X10_init : dkL cX10_init dl_X10_init = true := by decide +kernel
def W1_X10_init (cy : ClassId × ClassId × ClassId) (h0 : Nat) (x1 : Int32) (rr : Nat → Nat) : va_W := [(h0, .inr (7, [.int (x1 * (4096 : Int32)), .ref (rr 0)])), (rr 0, .inl (cy.2.2, (x1 * (512 : Int32)).toNatClampNeg, .inr (.inl (fun _ => 0))))]
set_option maxRecDepth 100000 in
set_option maxHeartbeats 4000000 in
theorem c_X10_init (l : Launch) (D : va_G) (cy : ClassId × ClassId × ClassId) (h0 : Nat) (x1 : Int32) (hpn : ¬ x1 * 512 < 0) (hpN : (x1 * 512).toNatClampNeg ≤ 40000) : MY [(h0, .inr (7, [.int (0 : Int32), .null]))] (W1_X10_init cy h0 x1) D cy l yX10_init cX10_init 2 1 12 1 40000 [.ref (h0), .int x1] := by
  refine entY (by decide +kernel) rfl (Nat.le_of_ble_eq_true rfl) ?_
  intro p e s m args below meth c ls A E hr hlk hinm hl w
  have hl : lv_has ls 2 [(0, .ref (h0)), (1, .int x1)] := hl
  have hx := E.1
  have hb := E.2.1
  have hown := E.2.2.2.1
  have hts := E.2.2.2.2
  refine lv_aload_n hx hb (dq da_X10_init 0 rfl) rfl (lv_at hl 0 rfl) ?_
  refine yobj E w_56 w_26 w_27 hl.1 ⟨Nat.le_of_ble_eq_true rfl, Nat.le_of_ble_eq_true rfl⟩ (dq da_X10_init 1 rfl) ?_
  refine lv_aload_n hx hb (dq da_X10_init 2 rfl) rfl (lv_at hl 0 rfl) ?_
  refine lv_iload_n hx hb (dq da_X10_init 3 rfl) rfl (lv_at hl 1 rfl) ?_
  refine lv_sipush (v := 4096) hx hb (dq da_X10_init 4 rfl) rfl ?_
  refine lv_imul hx hb (dq da_X10_init 5 rfl) ?_
  refine yputF (C := RX10) (T := TX10) (N := 2) (k := 0) (q0 := 0) (ty := .int) (ws' := [(h0, .inr (7, [.int (x1 * (4096 : Int32)), .null]))]) E hinm w inG_X10 tyX10 tyX10_ok nmX10 rfl rfl (by decide) w_57 rfl rfl (by decide +kernel) rfl rfl (Nat.le_of_ble_eq_true rfl) rfl (dq da_X10_init 6 rfl) (fun H locs w => ?_)
  refine lv_aload_n hx hb (dq da_X10_init 7 rfl) rfl (lv_at hl 0 rfl) ?_
  refine lv_iload_n hx hb (dq da_X10_init 8 rfl) rfl (lv_at hl 1 rfl) ?_
  refine lv_sipush (v := 512) hx hb (dq da_X10_init 9 rfl) rfl ?_
  refine lv_imul hx hb (dq da_X10_init 10 rfl) ?_
  refine ynwa (N := (x1 * (512 : Int32)).toNatClampNeg) (ty := .long) (k := 2) (a0 := ((x1 * (512 : Int32)).toNatClampNeg, .inr (.inl (fun _ => 0)))) E w w_65 rfl rfl (fun _ _ h9 => h9) (fun _ => rfl) hpn rfl (by show _ * 8 ≤ _; omega) (Nat.le_of_ble_eq_true rfl) (by show 0 + _ ≤ 40000; omega) (dq da_X10_init 11 rfl) (fun q1 H w => ?_)
  refine W.widen (k := 1) (n := 40000) (Nat.le_refl _) (by omega) ?_
  have w : WY [(h0, .inr (7, [.int (x1 * (4096 : Int32)), .null])), (q1, .inl (cy.2.2, (x1 * (512 : Int32)).toNatClampNeg, .inr (.inl (fun _ => 0))))] D cy A s H _ := w
  refine yputF (C := RX10) (T := TX10) (N := 2) (k := 1) (q0 := 0) (ty := (.array .long)) (ws' := [(h0, .inr (7, [.int (x1 * (4096 : Int32)), .ref (q1)])), (q1, .inl (cy.2.2, (x1 * (512 : Int32)).toNatClampNeg, .inr (.inl (fun _ => 0))))]) E hinm w inG_X10 tyX10 tyX10_ok nmX10 rfl rfl (by decide) w_59 rfl rfl (by decide +kernel) rfl rfl (Nat.le_of_ble_eq_true rfl) rfl (dq da_X10_init 12 rfl) (fun H locs w => ?_)
  exact yret (rr := fun i => if i = 0 then q1 else 0) E hr hlk w rfl (Nat.le_of_ble_eq_true rfl) (Nat.le_of_ble_eq_true rfl) (dq da_X10_init 13 rfl)
def dl_X8_init : List (Nat × Instr × Nat) := [(0, .aload_n 0, 1), (1, .invokespecial 3, 3), (4, .aload_n 0, 1), (5, .new 9, 3), (8, .dup, 1), (9, .ldc 11, 2), (11, .invokespecial 12, 3), (14, .putfield 15, 3), (17, .aload_n 0, 1), (18, .new 9, 3), (21, .dup, 1), (22, .sipush 4096, 3), (25, .invokespecial 12, 3), (28, .putfield 21, 3), (31, .return_, 1)]
theorem da_X8_init : dkL cX8_init dl_X8_init = true := by decide +kernel
def W1_X8_init (cy : ClassId × ClassId × ClassId) (h0 : Nat) (rr : Nat → Nat) : va_W := [(h0, .inr (6, [.ref (rr 0), .ref (rr 2), .int (0 : Int32)])), (rr 0, .inr (1, [.int (65536 : Int32), .ref (rr 1), .int (0 : Int32), .int (0 : Int32)])), (rr 1, .inl (cy.1, 64, .inl (fun _ => 0))), (rr 2, .inr (1, [.int (4096 : Int32), .ref (rr 3), .int (0 : Int32), .int (0 : Int32)])), (rr 3, .inl (cy.1, 64, .inl (fun _ => 0)))]
set_option maxRecDepth 100000 in
set_option maxHeartbeats 4000000 in
theorem c_X8_init (l : Launch) (D : va_G) (cy : ClassId × ClassId × ClassId) (h0 : Nat) : MY [(h0, .inr (6, [.null, .null, .int (0 : Int32)]))] (W1_X8_init cy h0) D cy l yX8_init cX8_init 1 2 50 4 136 [.ref (h0)] := by
  refine entY (by decide +kernel) rfl (Nat.le_of_ble_eq_true rfl) ?_
  intro p e s m args below meth c ls A E hr hlk hinm hl w
  have hl : lv_has ls 1 [(0, .ref (h0))] := hl
  have hx := E.1
  have hb := E.2.1
  have hown := E.2.2.2.1
  have hts := E.2.2.2.2
  refine lv_aload_n hx hb (dq da_X8_init 0 rfl) rfl (lv_at hl 0 rfl) ?_
  refine yobj E w_103 w_26 w_27 hl.1 ⟨Nat.le_of_ble_eq_true rfl, Nat.le_of_ble_eq_true rfl⟩ (dq da_X8_init 1 rfl) ?_
  refine lv_aload_n hx hb (dq da_X8_init 2 rfl) rfl (lv_at hl 0 rfl) ?_
  refine ynew (ci := 1) (fs := [.int (0 : Int32), .null, .int (0 : Int32), .int (0 : Int32)]) (C := RX2) (T := TX2) (N := 4) E w inG_X2 tyX2 tyX2_ok w_104 w_29 w_2 rfl (fun j hj => by rcases (show j = 0 ∨ j = 1 ∨ j = 2 ∨ j = 3 by omega) with rfl | rfl | rfl | rfl <;> rfl) (Nat.le_of_ble_eq_true rfl) (Nat.le_of_ble_eq_true rfl) (dq da_X8_init 3 rfl) (fun q1 H w => ?_)
  have w : WY [(h0, .inr (6, [.null, .null, .int (0 : Int32)])), (q1, .inr (1, [.int (0 : Int32), .null, .int (0 : Int32), .int (0 : Int32)]))] D cy A s H _ := w
  refine lv_dup hx hb (dq da_X8_init 4 rfl) rfl ?_
  refine lv_ldc hx hb hown (hts _ w_105) (dq da_X8_init 5 rfl) ?_
  refine ycallI (wr := [(h0, .inr (6, [.null, .null, .int (0 : Int32)]))]) E (c_X2_init l D cy q1 (65536 : Int32)) w_106 w_32 w_2 w_33 rfl hd_X2_init rfl hl.1 rfl (Nat.le_of_ble_eq_true rfl) ⟨Nat.le_of_ble_eq_true rfl, Nat.le_of_ble_eq_true rfl⟩ ⟨Nat.le_of_ble_eq_true rfl, Nat.le_of_ble_eq_true rfl⟩ w 1 [0] rfl rfl (by decide) (by decide) (dq da_X8_init 6 rfl) (fun H locs r2 w => ?_)
  have w : WY [(h0, .inr (6, [.null, .null, .int (0 : Int32)])), (q1, .inr (1, [.int (65536 : Int32), .ref (r2 0), .int (0 : Int32), .int (0 : Int32)])), (r2 0, .inl (cy.1, 64, .inl (fun _ => 0)))] D cy A s H _ := w
  refine yputF (C := RX8) (T := TX8) (N := 3) (k := 0) (q0 := 0) (ty := (.object "HartBoard$Bytes")) (ws' := [(h0, .inr (6, [.ref (q1), .null, .int (0 : Int32)])), (q1, .inr (1, [.int (65536 : Int32), .ref (r2 0), .int (0 : Int32), .int (0 : Int32)])), (r2 0, .inl (cy.1, 64, .inl (fun _ => 0)))]) E hinm w inG_X8 tyX8 tyX8_ok nmX8 rfl rfl (by decide) w_107 rfl rfl (by decide +kernel) rfl rfl (Nat.le_of_ble_eq_true rfl) rfl (dq da_X8_init 7 rfl) (fun H locs w => ?_)
  refine lv_aload_n hx hb (dq da_X8_init 8 rfl) rfl (lv_at hl 0 rfl) ?_
  refine ynew (ci := 1) (fs := [.int (0 : Int32), .null, .int (0 : Int32), .int (0 : Int32)]) (C := RX2) (T := TX2) (N := 4) E w inG_X2 tyX2 tyX2_ok w_104 w_29 w_2 rfl (fun j hj => by rcases (show j = 0 ∨ j = 1 ∨ j = 2 ∨ j = 3 by omega) with rfl | rfl | rfl | rfl <;> rfl) (Nat.le_of_ble_eq_true rfl) (Nat.le_of_ble_eq_true rfl) (dq da_X8_init 9 rfl) (fun q3 H w => ?_)
  have w : WY [(h0, .inr (6, [.ref (q1), .null, .int (0 : Int32)])), (q1, .inr (1, [.int (65536 : Int32), .ref (r2 0), .int (0 : Int32), .int (0 : Int32)])), (r2 0, .inl (cy.1, 64, .inl (fun _ => 0))), (q3, .inr (1, [.int (0 : Int32), .null, .int (0 : Int32), .int (0 : Int32)]))] D cy A s H _ := w
  refine lv_dup hx hb (dq da_X8_init 10 rfl) rfl ?_
  refine lv_sipush (v := 4096) hx hb (dq da_X8_init 11 rfl) rfl ?_
  refine ycallI (wr := [(h0, .inr (6, [.ref (q1), .null, .int (0 : Int32)])), (q1, .inr (1, [.int (65536 : Int32), .ref (r2 0), .int (0 : Int32), .int (0 : Int32)])), (r2 0, .inl (cy.1, 64, .inl (fun _ => 0)))]) E (c_X2_init l D cy q3 (4096 : Int32)) w_106 w_32 w_2 w_33 rfl hd_X2_init rfl hl.1 rfl (Nat.le_of_ble_eq_true rfl) ⟨Nat.le_of_ble_eq_true rfl, Nat.le_of_ble_eq_true rfl⟩ ⟨Nat.le_of_ble_eq_true rfl, Nat.le_of_ble_eq_true rfl⟩ w 3 [0, 1, 2] rfl rfl (by decide) (by decide) (dq da_X8_init 12 rfl) (fun H locs r4 w => ?_)
  have w : WY [(h0, .inr (6, [.ref (q1), .null, .int (0 : Int32)])), (q1, .inr (1, [.int (65536 : Int32), .ref (r2 0), .int (0 : Int32), .int (0 : Int32)])), (r2 0, .inl (cy.1, 64, .inl (fun _ => 0))), (q3, .inr (1, [.int (4096 : Int32), .ref (r4 0), .int (0 : Int32), .int (0 : Int32)])), (r4 0, .inl (cy.1, 64, .inl (fun _ => 0)))] D cy A s H _ := w
  refine yputF (C := RX8) (T := TX8) (N := 3) (k := 1) (q0 := 0) (ty := (.object "HartBoard$Bytes")) (ws' := [(h0, .inr (6, [.ref (q1), .ref (q3), .int (0 : Int32)])), (q1, .inr (1, [.int (65536 : Int32), .ref (r2 0), .int (0 : Int32), .int (0 : Int32)])), (r2 0, .inl (cy.1, 64, .inl (fun _ => 0))), (q3, .inr (1, [.int (4096 : Int32), .ref (r4 0), .int (0 : Int32), .int (0 : Int32)])), (r4 0, .inl (cy.1, 64, .inl (fun _ => 0)))]) E hinm w inG_X8 tyX8 tyX8_ok nmX8 rfl rfl (by decide) w_109 rfl rfl (by decide +kernel) rfl rfl (Nat.le_of_ble_eq_true rfl) rfl (dq da_X8_init 13 rfl) (fun H locs w => ?_)
  exact yret (rr := fun i => if i = 0 then q1 else if i = 1 then r2 0 else if i = 2 then q3 else if i = 3 then r4 0 else 0) E hr hlk w rfl (Nat.le_of_ble_eq_true rfl) (Nat.le_of_ble_eq_true rfl) (dq da_X8_init 14 rfl)
def dl_X4_init : List (Nat × Instr × Nat) := [(0, .aload_n 0, 1), (1, .invokespecial 5, 3), (4, .aload_n 0, 1), (5, .new 11, 3), (8, .dup, 1), (9, .invokespecial 13, 3), (12, .putfield 14, 3), (15, .aload_n 0, 1), (16, .new 11, 3), (19, .dup, 1), (20, .invokespecial 13, 3), (23, .putfield 18, 3), (26, .aload_n 0, 1), (27, .aload_n 1, 1), (28, .putfield 21, 3), (31, .return_, 1)]
theorem da_X4_init : dkL cX4_init dl_X4_init = true := by decide +kernel
def W1_X4_init (cy : ClassId × ClassId × ClassId) (h0 : Nat) (h1 : Nat) (rr : Nat → Nat) : va_W := [(h0, .inr (3, [.ref (h1), .ref (rr 0), .ref (rr 1), .long (0 : Int64), .long (0 : Int64), .long (0 : Int64), .long (0 : Int64), .long (0 : Int64), .long (0 : Int64), .long (0 : Int64), .long (0 : Int64)])), (rr 0, .inr (5, [.long (0 : Int64), .long (0 : Int64), .long (0 : Int64), .long (0 : Int64), .long (0 : Int64), .long (0 : Int64)])), (rr 1, .inr (5, [.long (0 : Int64), .long (0 : Int64), .long (0 : Int64), .long (0 : Int64), .long (0 : Int64), .long (0 : Int64)]))]
set_option maxRecDepth 100000 in
set_option maxHeartbeats 4000000 in
theorem c_X4_init (l : Launch) (D : va_G) (cy : ClassId × ClassId × ClassId) (h0 : Nat) (h1 : Nat) : MY [(h0, .inr (3, [.null, .null, .null, .long (0 : Int64), .long (0 : Int64), .long (0 : Int64), .long (0 : Int64), .long (0 : Int64), .long (0 : Int64), .long (0 : Int64), .long (0 : Int64)]))] (W1_X4_init cy h0 h1) D cy l yX4_init cX4_init 2 2 50 2 12 [.ref (h0), .ref (h1)] := by
  refine entY (by decide +kernel) rfl (Nat.le_of_ble_eq_true rfl) ?_
  intro p e s m args below meth c ls A E hr hlk hinm hl w
  have hl : lv_has ls 2 [(0, .ref (h0)), (1, .ref (h1))] := hl
  have hx := E.1
  have hb := E.2.1
  have hown := E.2.2.2.1
  have hts := E.2.2.2.2
  refine lv_aload_n hx hb (dq da_X4_init 0 rfl) rfl (lv_at hl 0 rfl) ?_
  refine yobj E w_164 w_26 w_27 hl.1 ⟨Nat.le_of_ble_eq_true rfl, Nat.le_of_ble_eq_true rfl⟩ (dq da_X4_init 1 rfl) ?_
  refine lv_aload_n hx hb (dq da_X4_init 2 rfl) rfl (lv_at hl 0 rfl) ?_
  refine ynew (ci := 5) (fs := [.long (0 : Int64), .long (0 : Int64), .long (0 : Int64), .long (0 : Int64), .long (0 : Int64), .long (0 : Int64)]) (C := RX7) (T := TX7) (N := 6) E w inG_X7 tyX7 tyX7_ok w_165 w_166 w_8 rfl (fun j hj => by rcases (show j = 0 ∨ j = 1 ∨ j = 2 ∨ j = 3 ∨ j = 4 ∨ j = 5 by omega) with rfl | rfl | rfl | rfl | rfl | rfl <;> rfl) (Nat.le_of_ble_eq_true rfl) (Nat.le_of_ble_eq_true rfl) (dq da_X4_init 3 rfl) (fun q1 H w => ?_)
  have w : WY [(h0, .inr (3, [.null, .null, .null, .long (0 : Int64), .long (0 : Int64), .long (0 : Int64), .long (0 : Int64), .long (0 : Int64), .long (0 : Int64), .long (0 : Int64), .long (0 : Int64)])), (q1, .inr (5, [.long (0 : Int64), .long (0 : Int64), .long (0 : Int64), .long (0 : Int64), .long (0 : Int64), .long (0 : Int64)]))] D cy A s H _ := w
  refine lv_dup hx hb (dq da_X4_init 4 rfl) rfl ?_
  refine ycallN (wr := [(h0, .inr (3, [.null, .null, .null, .long (0 : Int64), .long (0 : Int64), .long (0 : Int64), .long (0 : Int64), .long (0 : Int64), .long (0 : Int64), .long (0 : Int64), .long (0 : Int64)]))]) E (c_X7_init l D cy q1) (List.mem_append_right _ (List.mem_of_getElem? (i := 2) rfl)) w_168 w_8 w_169 rfl hd_X7_init rfl hl.1 rfl (Nat.le_of_ble_eq_true rfl) ⟨Nat.le_of_ble_eq_true rfl, Nat.le_of_ble_eq_true rfl⟩ ⟨Nat.le_of_ble_eq_true rfl, Nat.le_of_ble_eq_true rfl⟩ w 1 [0] rfl rfl (by decide) (by decide) (dq da_X4_init 5 rfl) (fun H locs r2 w => ?_)
  have w : WY [(h0, .inr (3, [.null, .null, .null, .long (0 : Int64), .long (0 : Int64), .long (0 : Int64), .long (0 : Int64), .long (0 : Int64), .long (0 : Int64), .long (0 : Int64), .long (0 : Int64)])), (q1, .inr (5, [.long (0 : Int64), .long (0 : Int64), .long (0 : Int64), .long (0 : Int64), .long (0 : Int64), .long (0 : Int64)]))] D cy A s H _ := w
  refine yputF (C := RX4) (T := TX4) (N := 11) (k := 1) (q0 := 0) (ty := (.object "HartBoard$Level")) (ws' := [(h0, .inr (3, [.null, .ref (q1), .null, .long (0 : Int64), .long (0 : Int64), .long (0 : Int64), .long (0 : Int64), .long (0 : Int64), .long (0 : Int64), .long (0 : Int64), .long (0 : Int64)])), (q1, .inr (5, [.long (0 : Int64), .long (0 : Int64), .long (0 : Int64), .long (0 : Int64), .long (0 : Int64), .long (0 : Int64)]))]) E hinm w inG_X4 tyX4 tyX4_ok nmX4 rfl rfl (by decide) w_196 rfl rfl (by decide +kernel) rfl rfl (Nat.le_of_ble_eq_true rfl) rfl (dq da_X4_init 6 rfl) (fun H locs w => ?_)
  refine lv_aload_n hx hb (dq da_X4_init 7 rfl) rfl (lv_at hl 0 rfl) ?_
  refine ynew (ci := 5) (fs := [.long (0 : Int64), .long (0 : Int64), .long (0 : Int64), .long (0 : Int64), .long (0 : Int64), .long (0 : Int64)]) (C := RX7) (T := TX7) (N := 6) E w inG_X7 tyX7 tyX7_ok w_165 w_166 w_8 rfl (fun j hj => by rcases (show j = 0 ∨ j = 1 ∨ j = 2 ∨ j = 3 ∨ j = 4 ∨ j = 5 by omega) with rfl | rfl | rfl | rfl | rfl | rfl <;> rfl) (Nat.le_of_ble_eq_true rfl) (Nat.le_of_ble_eq_true rfl) (dq da_X4_init 8 rfl) (fun q3 H w => ?_)
  have w : WY [(h0, .inr (3, [.null, .ref (q1), .null, .long (0 : Int64), .long (0 : Int64), .long (0 : Int64), .long (0 : Int64), .long (0 : Int64), .long (0 : Int64), .long (0 : Int64), .long (0 : Int64)])), (q1, .inr (5, [.long (0 : Int64), .long (0 : Int64), .long (0 : Int64), .long (0 : Int64), .long (0 : Int64), .long (0 : Int64)])), (q3, .inr (5, [.long (0 : Int64), .long (0 : Int64), .long (0 : Int64), .long (0 : Int64), .long (0 : Int64), .long (0 : Int64)]))] D cy A s H _ := w
  refine lv_dup hx hb (dq da_X4_init 9 rfl) rfl ?_
  refine ycallN (wr := [(h0, .inr (3, [.null, .ref (q1), .null, .long (0 : Int64), .long (0 : Int64), .long (0 : Int64), .long (0 : Int64), .long (0 : Int64), .long (0 : Int64), .long (0 : Int64), .long (0 : Int64)])), (q1, .inr (5, [.long (0 : Int64), .long (0 : Int64), .long (0 : Int64), .long (0 : Int64), .long (0 : Int64), .long (0 : Int64)]))]) E (c_X7_init l D cy q3) (List.mem_append_right _ (List.mem_of_getElem? (i := 2) rfl)) w_168 w_8 w_169 rfl hd_X7_init rfl hl.1 rfl (Nat.le_of_ble_eq_true rfl) ⟨Nat.le_of_ble_eq_true rfl, Nat.le_of_ble_eq_true rfl⟩ ⟨Nat.le_of_ble_eq_true rfl, Nat.le_of_ble_eq_true rfl⟩ w 2 [0, 1] rfl rfl (by decide) (by decide) (dq da_X4_init 10 rfl) (fun H locs r4 w => ?_)
  have w : WY [(h0, .inr (3, [.null, .ref (q1), .null, .long (0 : Int64), .long (0 : Int64), .long (0 : Int64), .long (0 : Int64), .long (0 : Int64), .long (0 : Int64), .long (0 : Int64), .long (0 : Int64)])), (q1, .inr (5, [.long (0 : Int64), .long (0 : Int64), .long (0 : Int64), .long (0 : Int64), .long (0 : Int64), .long (0 : Int64)])), (q3, .inr (5, [.long (0 : Int64), .long (0 : Int64), .long (0 : Int64), .long (0 : Int64), .long (0 : Int64), .long (0 : Int64)]))] D cy A s H _ := w
  refine yputF (C := RX4) (T := TX4) (N := 11) (k := 2) (q0 := 0) (ty := (.object "HartBoard$Level")) (ws' := [(h0, .inr (3, [.null, .ref (q1), .ref (q3), .long (0 : Int64), .long (0 : Int64), .long (0 : Int64), .long (0 : Int64), .long (0 : Int64), .long (0 : Int64), .long (0 : Int64), .long (0 : Int64)])), (q1, .inr (5, [.long (0 : Int64), .long (0 : Int64), .long (0 : Int64), .long (0 : Int64), .long (0 : Int64), .long (0 : Int64)])), (q3, .inr (5, [.long (0 : Int64), .long (0 : Int64), .long (0 : Int64), .long (0 : Int64), .long (0 : Int64), .long (0 : Int64)]))]) E hinm w inG_X4 tyX4 tyX4_ok nmX4 rfl rfl (by decide) w_198 rfl rfl (by decide +kernel) rfl rfl (Nat.le_of_ble_eq_true rfl) rfl (dq da_X4_init 11 rfl) (fun H locs w => ?_)
  refine lv_aload_n hx hb (dq da_X4_init 12 rfl) rfl (lv_at hl 0 rfl) ?_
  refine lv_aload_n hx hb (dq da_X4_init 13 rfl) rfl (lv_at hl 1 rfl) ?_
  refine yputF (C := RX4) (T := TX4) (N := 11) (k := 0) (q0 := 0) (ty := (.object "HartBoard$Bus")) (ws' := [(h0, .inr (3, [.ref (h1), .ref (q1), .ref (q3), .long (0 : Int64), .long (0 : Int64), .long (0 : Int64), .long (0 : Int64), .long (0 : Int64), .long (0 : Int64), .long (0 : Int64), .long (0 : Int64)])), (q1, .inr (5, [.long (0 : Int64), .long (0 : Int64), .long (0 : Int64), .long (0 : Int64), .long (0 : Int64), .long (0 : Int64)])), (q3, .inr (5, [.long (0 : Int64), .long (0 : Int64), .long (0 : Int64), .long (0 : Int64), .long (0 : Int64), .long (0 : Int64)]))]) E hinm w inG_X4 tyX4 tyX4_ok nmX4 rfl rfl (by decide) w_195 rfl rfl (by decide +kernel) rfl rfl (Nat.le_of_ble_eq_true rfl) rfl (dq da_X4_init 14 rfl) (fun H locs w => ?_)
  exact yret (rr := fun i => if i = 0 then q1 else if i = 1 then q3 else 0) E hr hlk w rfl (Nat.le_of_ble_eq_true rfl) (Nat.le_of_ble_eq_true rfl) (dq da_X4_init 15 rfl)
def dl_X6_init : List (Nat × Instr × Nat) := [(0, .aload_n 0, 1), (1, .invokespecial 3, 3), (4, .aload_n 0, 1), (5, .bipush 32, 2), (7, .newarray .long, 2), (9, .putfield 9, 3), (12, .aload_n 0, 1), (13, .ldc2_w 15, 3), (16, .putfield 17, 3), (19, .aload_n 0, 1), (20, .iconst 3, 1), (21, .putfield 21, 3), (24, .aload_n 0, 1), (25, .iconst (-1), 1), (26, .putfield 25, 3), (29, .aload_n 0, 1), (30, .iconst (-1), 1), (31, .putfield 28, 3), (34, .aload_n 0, 1), (35, .aload_n 1, 1), (36, .putfield 31, 3), (39, .aload_n 0, 1), (40, .aload_n 2, 1), (41, .putfield 35, 3), (44, .return_, 1)]
theorem da_X6_init : dkL cX6_init dl_X6_init = true := by decide +kernel
def W1_X6_init (cy : ClassId × ClassId × ClassId) (h0 : Nat) (h1 : Nat) (h2 : Nat) (rr : Nat → Nat) : va_W := [(h0, .inr (4, [.ref (h1), .ref (h2), .ref (rr 0), .long (2147483648 : Int64), .int (3 : Int32), .int (0 : Int32), .long (0 : Int64), .int (-1 : Int32), .long (0 : Int64), .int (0 : Int32), .int (0 : Int32), .int (-1 : Int32)])), (rr 0, .inl (cy.2.2, 32, .inr (.inl (fun _ => 0))))]
set_option maxRecDepth 100000 in
set_option maxHeartbeats 4000000 in
theorem c_X6_init (l : Launch) (D : va_G) (cy : ClassId × ClassId × ClassId) (h0 : Nat) (h1 : Nat) (h2 : Nat) : MY [(h0, .inr (4, [.null, .null, .null, .long (0 : Int64), .int (0 : Int32), .int (0 : Int32), .long (0 : Int64), .int (0 : Int32), .long (0 : Int64), .int (0 : Int32), .int (0 : Int32), .int (0 : Int32)]))] (W1_X6_init cy h0 h1 h2) D cy l yX6_init cX6_init 3 1 13 1 32 [.ref (h0), .ref (h1), .ref (h2)] := by
  refine entY (by decide +kernel) rfl (Nat.le_of_ble_eq_true rfl) ?_
  intro p e s m args below meth c ls A E hr hlk hinm hl w
  have hl : lv_has ls 3 [(0, .ref (h0)), (1, .ref (h1)), (2, .ref (h2))] := hl
  have hx := E.1
  have hb := E.2.1
  have hown := E.2.2.2.1
  have hts := E.2.2.2.2
  refine lv_aload_n hx hb (dq da_X6_init 0 rfl) rfl (lv_at hl 0 rfl) ?_
  refine yobj E w_243 w_26 w_27 hl.1 ⟨Nat.le_of_ble_eq_true rfl, Nat.le_of_ble_eq_true rfl⟩ (dq da_X6_init 1 rfl) ?_
  refine lv_aload_n hx hb (dq da_X6_init 2 rfl) rfl (lv_at hl 0 rfl) ?_
  refine lv_bipush (v := 32) hx hb (dq da_X6_init 3 rfl) rfl ?_
  refine ynwa (N := 32) (ty := .long) (k := 2) (a0 := (32, .inr (.inl (fun _ => 0)))) E w w_65 rfl rfl (fun _ _ h9 => h9) (fun _ => rfl) (by decide) rfl (by decide) (Nat.le_of_ble_eq_true rfl) (Nat.le_of_ble_eq_true rfl) (dq da_X6_init 4 rfl) (fun q1 H w => ?_)
  have w : WY [(h0, .inr (4, [.null, .null, .null, .long (0 : Int64), .int (0 : Int32), .int (0 : Int32), .long (0 : Int64), .int (0 : Int32), .long (0 : Int64), .int (0 : Int32), .int (0 : Int32), .int (0 : Int32)])), (q1, .inl (cy.2.2, 32, .inr (.inl (fun _ => 0))))] D cy A s H _ := w
  refine yputF (C := RX6) (T := TX6) (N := 12) (k := 2) (q0 := 0) (ty := (.array .long)) (ws' := [(h0, .inr (4, [.null, .null, .ref (q1), .long (0 : Int64), .int (0 : Int32), .int (0 : Int32), .long (0 : Int64), .int (0 : Int32), .long (0 : Int64), .int (0 : Int32), .int (0 : Int32), .int (0 : Int32)])), (q1, .inl (cy.2.2, 32, .inr (.inl (fun _ => 0))))]) E hinm w inG_X6 tyX6 tyX6_ok nmX6 rfl rfl (by decide) w_247 rfl rfl (by decide +kernel) rfl rfl (Nat.le_of_ble_eq_true rfl) rfl (dq da_X6_init 5 rfl) (fun H locs w => ?_)
  refine lv_aload_n hx hb (dq da_X6_init 6 rfl) rfl (lv_at hl 0 rfl) ?_
  refine lv_ldc2 hx hb hown (hts _ w_244) (dq da_X6_init 7 rfl) ?_
  refine yput (C := RX6) (T := TX6) (N := 12) (k := 3) (q0 := 0) (ty := .long) (ws' := [(h0, .inr (4, [.null, .null, .ref (q1), .long (2147483648 : Int64), .int (0 : Int32), .int (0 : Int32), .long (0 : Int64), .int (0 : Int32), .long (0 : Int64), .int (0 : Int32), .int (0 : Int32), .int (0 : Int32)])), (q1, .inl (cy.2.2, 32, .inr (.inl (fun _ => 0))))]) E w inG_X6 tyX6 tyX6_ok nmX6 rfl rfl (by decide) w_249 rfl (by decide +kernel) rfl rfl (Nat.le_of_ble_eq_true rfl) rfl (dq da_X6_init 8 rfl) (fun H locs w => ?_)
  refine lv_aload_n hx hb (dq da_X6_init 9 rfl) rfl (lv_at hl 0 rfl) ?_
  refine lv_iconst (v := 3) hx hb (dq da_X6_init 10 rfl) rfl ?_
  refine yput (C := RX6) (T := TX6) (N := 12) (k := 4) (q0 := 0) (ty := .int) (ws' := [(h0, .inr (4, [.null, .null, .ref (q1), .long (2147483648 : Int64), .int (3 : Int32), .int (0 : Int32), .long (0 : Int64), .int (0 : Int32), .long (0 : Int64), .int (0 : Int32), .int (0 : Int32), .int (0 : Int32)])), (q1, .inl (cy.2.2, 32, .inr (.inl (fun _ => 0))))]) E w inG_X6 tyX6 tyX6_ok nmX6 rfl rfl (by decide) w_251 rfl (by decide +kernel) rfl rfl (Nat.le_of_ble_eq_true rfl) rfl (dq da_X6_init 11 rfl) (fun H locs w => ?_)
  refine lv_aload_n hx hb (dq da_X6_init 12 rfl) rfl (lv_at hl 0 rfl) ?_
  refine lv_iconst (v := (-1)) hx hb (dq da_X6_init 13 rfl) rfl ?_
  refine yput (C := RX6) (T := TX6) (N := 12) (k := 7) (q0 := 0) (ty := .int) (ws' := [(h0, .inr (4, [.null, .null, .ref (q1), .long (2147483648 : Int64), .int (3 : Int32), .int (0 : Int32), .long (0 : Int64), .int (-1 : Int32), .long (0 : Int64), .int (0 : Int32), .int (0 : Int32), .int (0 : Int32)])), (q1, .inl (cy.2.2, 32, .inr (.inl (fun _ => 0))))]) E w inG_X6 tyX6 tyX6_ok nmX6 rfl rfl (by decide) w_255 rfl (by decide +kernel) rfl rfl (Nat.le_of_ble_eq_true rfl) rfl (dq da_X6_init 14 rfl) (fun H locs w => ?_)
  refine lv_aload_n hx hb (dq da_X6_init 15 rfl) rfl (lv_at hl 0 rfl) ?_
  refine lv_iconst (v := (-1)) hx hb (dq da_X6_init 16 rfl) rfl ?_
  refine yput (C := RX6) (T := TX6) (N := 12) (k := 11) (q0 := 0) (ty := .int) (ws' := [(h0, .inr (4, [.null, .null, .ref (q1), .long (2147483648 : Int64), .int (3 : Int32), .int (0 : Int32), .long (0 : Int64), .int (-1 : Int32), .long (0 : Int64), .int (0 : Int32), .int (0 : Int32), .int (-1 : Int32)])), (q1, .inl (cy.2.2, 32, .inr (.inl (fun _ => 0))))]) E w inG_X6 tyX6 tyX6_ok nmX6 rfl rfl (by decide) w_261 rfl (by decide +kernel) rfl rfl (Nat.le_of_ble_eq_true rfl) rfl (dq da_X6_init 17 rfl) (fun H locs w => ?_)
  refine lv_aload_n hx hb (dq da_X6_init 18 rfl) rfl (lv_at hl 0 rfl) ?_
  refine lv_aload_n hx hb (dq da_X6_init 19 rfl) rfl (lv_at hl 1 rfl) ?_
  refine yputF (C := RX6) (T := TX6) (N := 12) (k := 0) (q0 := 0) (ty := (.object "HartBoard$Bus")) (ws' := [(h0, .inr (4, [.ref (h1), .null, .ref (q1), .long (2147483648 : Int64), .int (3 : Int32), .int (0 : Int32), .long (0 : Int64), .int (-1 : Int32), .long (0 : Int64), .int (0 : Int32), .int (0 : Int32), .int (-1 : Int32)])), (q1, .inl (cy.2.2, 32, .inr (.inl (fun _ => 0))))]) E hinm w inG_X6 tyX6 tyX6_ok nmX6 rfl rfl (by decide) w_245 rfl rfl (by decide +kernel) rfl rfl (Nat.le_of_ble_eq_true rfl) rfl (dq da_X6_init 20 rfl) (fun H locs w => ?_)
  refine lv_aload_n hx hb (dq da_X6_init 21 rfl) rfl (lv_at hl 0 rfl) ?_
  refine lv_aload_n hx hb (dq da_X6_init 22 rfl) rfl (lv_at hl 2 rfl) ?_
  refine yputF (C := RX6) (T := TX6) (N := 12) (k := 1) (q0 := 0) (ty := (.object "HartBoard$Controls")) (ws' := [(h0, .inr (4, [.ref (h1), .ref (h2), .ref (q1), .long (2147483648 : Int64), .int (3 : Int32), .int (0 : Int32), .long (0 : Int64), .int (-1 : Int32), .long (0 : Int64), .int (0 : Int32), .int (0 : Int32), .int (-1 : Int32)])), (q1, .inl (cy.2.2, 32, .inr (.inl (fun _ => 0))))]) E hinm w inG_X6 tyX6 tyX6_ok nmX6 rfl rfl (by decide) w_246 rfl rfl (by decide +kernel) rfl rfl (Nat.le_of_ble_eq_true rfl) rfl (dq da_X6_init 23 rfl) (fun H locs w => ?_)
  exact yret (rr := fun i => if i = 0 then q1 else 0) E hr hlk w rfl (Nat.le_of_ble_eq_true rfl) (Nat.le_of_ble_eq_true rfl) (dq da_X6_init 24 rfl)
def dl_X1_init : List (Nat × Instr × Nat) := [(0, .aload_n 0, 1), (1, .invokespecial 3, 3), (4, .aload_n 0, 1), (5, .new 9, 3), (8, .dup, 1), (9, .invokespecial 11, 3), (12, .putfield 12, 3), (15, .aload_n 0, 1), (16, .new 18, 3), (19, .dup, 1), (20, .invokespecial 20, 3), (23, .putfield 21, 3), (26, .aload_n 0, 1), (27, .ldc2_w 25, 3), (30, .putfield 27, 3), (33, .aload_n 0, 1), (34, .aload_n 1, 1), (35, .putfield 31, 3), (38, .return_, 1)]
theorem da_X1_init : dkL cX1_init dl_X1_init = true := by decide +kernel
def W1_X1_init (cy : ClassId × ClassId × ClassId) (h0 : Nat) (h1 : Nat) (rr : Nat → Nat) : va_W := [(h0, .inr (0, [.ref (h1), .ref (rr 0), .ref (rr 4), .long (0 : Int64), .long (-1 : Int64), .long (0 : Int64), .int (0 : Int32), .long (0 : Int64), .int (0 : Int32)])), (rr 0, .inr (2, [.ref (rr 1), .ref (rr 2), .ref (rr 3), .int (0 : Int32), .int (0 : Int32), .int (0 : Int32)])), (rr 1, .inl (cy.2.1, 8, .inl (fun _ => 0))), (rr 2, .inl (cy.2.1, 2, .inl (fun _ => 0))), (rr 3, .inl (cy.2.1, 2, .inl (fun _ => 0))), (rr 4, .inr (6, [.ref (rr 5), .ref (rr 7), .int (0 : Int32)])), (rr 5, .inr (1, [.int (65536 : Int32), .ref (rr 6), .int (0 : Int32), .int (0 : Int32)])), (rr 6, .inl (cy.1, 64, .inl (fun _ => 0))), (rr 7, .inr (1, [.int (4096 : Int32), .ref (rr 8), .int (0 : Int32), .int (0 : Int32)])), (rr 8, .inl (cy.1, 64, .inl (fun _ => 0)))]
set_option maxRecDepth 100000 in
set_option maxHeartbeats 4000000 in
theorem c_X1_init (l : Launch) (D : va_G) (cy : ClassId × ClassId × ClassId) (h0 : Nat) (h1 : Nat) : MY [(h0, .inr (0, [.null, .null, .null, .long (0 : Int64), .long (0 : Int64), .long (0 : Int64), .int (0 : Int32), .long (0 : Int64), .int (0 : Int32)]))] (W1_X1_init cy h0 h1) D cy l yX1_init cX1_init 2 3 90 9 157 [.ref (h0), .ref (h1)] := by
  refine entY (by decide +kernel) rfl (Nat.le_of_ble_eq_true rfl) ?_
  intro p e s m args below meth c ls A E hr hlk hinm hl w
  have hl : lv_has ls 2 [(0, .ref (h0)), (1, .ref (h1))] := hl
  have hx := E.1
  have hb := E.2.1
  have hown := E.2.2.2.1
  have hts := E.2.2.2.2
  refine lv_aload_n hx hb (dq da_X1_init 0 rfl) rfl (lv_at hl 0 rfl) ?_
  refine yobj E w_69 w_26 w_27 hl.1 ⟨Nat.le_of_ble_eq_true rfl, Nat.le_of_ble_eq_true rfl⟩ (dq da_X1_init 1 rfl) ?_
  refine lv_aload_n hx hb (dq da_X1_init 2 rfl) rfl (lv_at hl 0 rfl) ?_
  refine ynew (ci := 2) (fs := [.null, .null, .null, .int (0 : Int32), .int (0 : Int32), .int (0 : Int32)]) (C := RX3) (T := TX3) (N := 6) E w inG_X3 tyX3 tyX3_ok w_70 w_71 w_5 rfl (fun j hj => by rcases (show j = 0 ∨ j = 1 ∨ j = 2 ∨ j = 3 ∨ j = 4 ∨ j = 5 by omega) with rfl | rfl | rfl | rfl | rfl | rfl <;> rfl) (Nat.le_of_ble_eq_true rfl) (Nat.le_of_ble_eq_true rfl) (dq da_X1_init 3 rfl) (fun q1 H w => ?_)
  have w : WY [(h0, .inr (0, [.null, .null, .null, .long (0 : Int64), .long (0 : Int64), .long (0 : Int64), .int (0 : Int32), .long (0 : Int64), .int (0 : Int32)])), (q1, .inr (2, [.null, .null, .null, .int (0 : Int32), .int (0 : Int32), .int (0 : Int32)]))] D cy A s H _ := w
  refine lv_dup hx hb (dq da_X1_init 4 rfl) rfl ?_
  refine ycallN (wr := [(h0, .inr (0, [.null, .null, .null, .long (0 : Int64), .long (0 : Int64), .long (0 : Int64), .int (0 : Int32), .long (0 : Int64), .int (0 : Int32)]))]) E (c_X3_init l D cy q1) (List.mem_append_right _ (List.mem_of_getElem? (i := 0) rfl)) w_73 w_5 w_74 rfl hd_X3_init rfl hl.1 rfl (Nat.le_of_ble_eq_true rfl) ⟨Nat.le_of_ble_eq_true rfl, Nat.le_of_ble_eq_true rfl⟩ ⟨Nat.le_of_ble_eq_true rfl, Nat.le_of_ble_eq_true rfl⟩ w 1 [0] rfl rfl (by decide) (by decide) (dq da_X1_init 5 rfl) (fun H locs r2 w => ?_)
  have w : WY [(h0, .inr (0, [.null, .null, .null, .long (0 : Int64), .long (0 : Int64), .long (0 : Int64), .int (0 : Int32), .long (0 : Int64), .int (0 : Int32)])), (q1, .inr (2, [.ref (r2 0), .ref (r2 1), .ref (r2 2), .int (0 : Int32), .int (0 : Int32), .int (0 : Int32)])), (r2 0, .inl (cy.2.1, 8, .inl (fun _ => 0))), (r2 1, .inl (cy.2.1, 2, .inl (fun _ => 0))), (r2 2, .inl (cy.2.1, 2, .inl (fun _ => 0)))] D cy A s H _ := w
  refine yputF (C := RX1) (T := TX1) (N := 9) (k := 1) (q0 := 0) (ty := (.object "HartBoard$Controller")) (ws' := [(h0, .inr (0, [.null, .ref (q1), .null, .long (0 : Int64), .long (0 : Int64), .long (0 : Int64), .int (0 : Int32), .long (0 : Int64), .int (0 : Int32)])), (q1, .inr (2, [.ref (r2 0), .ref (r2 1), .ref (r2 2), .int (0 : Int32), .int (0 : Int32), .int (0 : Int32)])), (r2 0, .inl (cy.2.1, 8, .inl (fun _ => 0))), (r2 1, .inl (cy.2.1, 2, .inl (fun _ => 0))), (r2 2, .inl (cy.2.1, 2, .inl (fun _ => 0)))]) E hinm w inG_X1 tyX1 tyX1_ok nmX1 rfl rfl (by decide) w_123 rfl rfl (by decide +kernel) rfl rfl (Nat.le_of_ble_eq_true rfl) rfl (dq da_X1_init 6 rfl) (fun H locs w => ?_)
  refine lv_aload_n hx hb (dq da_X1_init 7 rfl) rfl (lv_at hl 0 rfl) ?_
  refine ynew (ci := 6) (fs := [.null, .null, .int (0 : Int32)]) (C := RX8) (T := TX8) (N := 3) E w inG_X8 tyX8 tyX8_ok w_98 w_99 w_6 rfl (fun j hj => by rcases (show j = 0 ∨ j = 1 ∨ j = 2 by omega) with rfl | rfl | rfl <;> rfl) (Nat.le_of_ble_eq_true rfl) (Nat.le_of_ble_eq_true rfl) (dq da_X1_init 8 rfl) (fun q3 H w => ?_)
  have w : WY [(h0, .inr (0, [.null, .ref (q1), .null, .long (0 : Int64), .long (0 : Int64), .long (0 : Int64), .int (0 : Int32), .long (0 : Int64), .int (0 : Int32)])), (q1, .inr (2, [.ref (r2 0), .ref (r2 1), .ref (r2 2), .int (0 : Int32), .int (0 : Int32), .int (0 : Int32)])), (r2 0, .inl (cy.2.1, 8, .inl (fun _ => 0))), (r2 1, .inl (cy.2.1, 2, .inl (fun _ => 0))), (r2 2, .inl (cy.2.1, 2, .inl (fun _ => 0))), (q3, .inr (6, [.null, .null, .int (0 : Int32)]))] D cy A s H _ := w
  refine lv_dup hx hb (dq da_X1_init 9 rfl) rfl ?_
  refine ycallN (wr := [(h0, .inr (0, [.null, .ref (q1), .null, .long (0 : Int64), .long (0 : Int64), .long (0 : Int64), .int (0 : Int32), .long (0 : Int64), .int (0 : Int32)])), (q1, .inr (2, [.ref (r2 0), .ref (r2 1), .ref (r2 2), .int (0 : Int32), .int (0 : Int32), .int (0 : Int32)])), (r2 0, .inl (cy.2.1, 8, .inl (fun _ => 0))), (r2 1, .inl (cy.2.1, 2, .inl (fun _ => 0))), (r2 2, .inl (cy.2.1, 2, .inl (fun _ => 0)))]) E (c_X8_init l D cy q3) (List.mem_append_right _ (List.mem_of_getElem? (i := 1) rfl)) w_101 w_6 w_102 rfl hd_X8_init rfl hl.1 rfl (Nat.le_of_ble_eq_true rfl) ⟨Nat.le_of_ble_eq_true rfl, Nat.le_of_ble_eq_true rfl⟩ ⟨Nat.le_of_ble_eq_true rfl, Nat.le_of_ble_eq_true rfl⟩ w 5 [0, 1, 2, 3, 4] rfl rfl (by decide) (by decide) (dq da_X1_init 10 rfl) (fun H locs r4 w => ?_)
  have w : WY [(h0, .inr (0, [.null, .ref (q1), .null, .long (0 : Int64), .long (0 : Int64), .long (0 : Int64), .int (0 : Int32), .long (0 : Int64), .int (0 : Int32)])), (q1, .inr (2, [.ref (r2 0), .ref (r2 1), .ref (r2 2), .int (0 : Int32), .int (0 : Int32), .int (0 : Int32)])), (r2 0, .inl (cy.2.1, 8, .inl (fun _ => 0))), (r2 1, .inl (cy.2.1, 2, .inl (fun _ => 0))), (r2 2, .inl (cy.2.1, 2, .inl (fun _ => 0))), (q3, .inr (6, [.ref (r4 0), .ref (r4 2), .int (0 : Int32)])), (r4 0, .inr (1, [.int (65536 : Int32), .ref (r4 1), .int (0 : Int32), .int (0 : Int32)])), (r4 1, .inl (cy.1, 64, .inl (fun _ => 0))), (r4 2, .inr (1, [.int (4096 : Int32), .ref (r4 3), .int (0 : Int32), .int (0 : Int32)])), (r4 3, .inl (cy.1, 64, .inl (fun _ => 0)))] D cy A s H _ := w
  refine yputF (C := RX1) (T := TX1) (N := 9) (k := 2) (q0 := 0) (ty := (.object "HartBoard$Line")) (ws' := [(h0, .inr (0, [.null, .ref (q1), .ref (q3), .long (0 : Int64), .long (0 : Int64), .long (0 : Int64), .int (0 : Int32), .long (0 : Int64), .int (0 : Int32)])), (q1, .inr (2, [.ref (r2 0), .ref (r2 1), .ref (r2 2), .int (0 : Int32), .int (0 : Int32), .int (0 : Int32)])), (r2 0, .inl (cy.2.1, 8, .inl (fun _ => 0))), (r2 1, .inl (cy.2.1, 2, .inl (fun _ => 0))), (r2 2, .inl (cy.2.1, 2, .inl (fun _ => 0))), (q3, .inr (6, [.ref (r4 0), .ref (r4 2), .int (0 : Int32)])), (r4 0, .inr (1, [.int (65536 : Int32), .ref (r4 1), .int (0 : Int32), .int (0 : Int32)])), (r4 1, .inl (cy.1, 64, .inl (fun _ => 0))), (r4 2, .inr (1, [.int (4096 : Int32), .ref (r4 3), .int (0 : Int32), .int (0 : Int32)])), (r4 3, .inl (cy.1, 64, .inl (fun _ => 0)))]) E hinm w inG_X1 tyX1 tyX1_ok nmX1 rfl rfl (by decide) w_126 rfl rfl (by decide +kernel) rfl rfl (Nat.le_of_ble_eq_true rfl) rfl (dq da_X1_init 11 rfl) (fun H locs w => ?_)
  refine lv_aload_n hx hb (dq da_X1_init 12 rfl) rfl (lv_at hl 0 rfl) ?_
  refine lv_ldc2 hx hb hown (hts _ w_119) (dq da_X1_init 13 rfl) ?_
  refine yput (C := RX1) (T := TX1) (N := 9) (k := 4) (q0 := 0) (ty := .long) (ws' := [(h0, .inr (0, [.null, .ref (q1), .ref (q3), .long (0 : Int64), .long (-1 : Int64), .long (0 : Int64), .int (0 : Int32), .long (0 : Int64), .int (0 : Int32)])), (q1, .inr (2, [.ref (r2 0), .ref (r2 1), .ref (r2 2), .int (0 : Int32), .int (0 : Int32), .int (0 : Int32)])), (r2 0, .inl (cy.2.1, 8, .inl (fun _ => 0))), (r2 1, .inl (cy.2.1, 2, .inl (fun _ => 0))), (r2 2, .inl (cy.2.1, 2, .inl (fun _ => 0))), (q3, .inr (6, [.ref (r4 0), .ref (r4 2), .int (0 : Int32)])), (r4 0, .inr (1, [.int (65536 : Int32), .ref (r4 1), .int (0 : Int32), .int (0 : Int32)])), (r4 1, .inl (cy.1, 64, .inl (fun _ => 0))), (r4 2, .inr (1, [.int (4096 : Int32), .ref (r4 3), .int (0 : Int32), .int (0 : Int32)])), (r4 3, .inl (cy.1, 64, .inl (fun _ => 0)))]) E w inG_X1 tyX1 tyX1_ok nmX1 rfl rfl (by decide) w_130 rfl (by decide +kernel) rfl rfl (Nat.le_of_ble_eq_true rfl) rfl (dq da_X1_init 14 rfl) (fun H locs w => ?_)
  refine lv_aload_n hx hb (dq da_X1_init 15 rfl) rfl (lv_at hl 0 rfl) ?_
  refine lv_aload_n hx hb (dq da_X1_init 16 rfl) rfl (lv_at hl 1 rfl) ?_
  refine yputF (C := RX1) (T := TX1) (N := 9) (k := 0) (q0 := 0) (ty := (.object "HartBoard$Ram")) (ws' := [(h0, .inr (0, [.ref (h1), .ref (q1), .ref (q3), .long (0 : Int64), .long (-1 : Int64), .long (0 : Int64), .int (0 : Int32), .long (0 : Int64), .int (0 : Int32)])), (q1, .inr (2, [.ref (r2 0), .ref (r2 1), .ref (r2 2), .int (0 : Int32), .int (0 : Int32), .int (0 : Int32)])), (r2 0, .inl (cy.2.1, 8, .inl (fun _ => 0))), (r2 1, .inl (cy.2.1, 2, .inl (fun _ => 0))), (r2 2, .inl (cy.2.1, 2, .inl (fun _ => 0))), (q3, .inr (6, [.ref (r4 0), .ref (r4 2), .int (0 : Int32)])), (r4 0, .inr (1, [.int (65536 : Int32), .ref (r4 1), .int (0 : Int32), .int (0 : Int32)])), (r4 1, .inl (cy.1, 64, .inl (fun _ => 0))), (r4 2, .inr (1, [.int (4096 : Int32), .ref (r4 3), .int (0 : Int32), .int (0 : Int32)])), (r4 3, .inl (cy.1, 64, .inl (fun _ => 0)))]) E hinm w inG_X1 tyX1 tyX1_ok nmX1 rfl rfl (by decide) w_120 rfl rfl (by decide +kernel) rfl rfl (Nat.le_of_ble_eq_true rfl) rfl (dq da_X1_init 17 rfl) (fun H locs w => ?_)
  exact yret (rr := fun i => if i = 0 then q1 else if i = 1 then r2 0 else if i = 2 then r2 1 else if i = 3 then r2 2 else if i = 4 then q3 else if i = 5 then r4 0 else if i = 6 then r4 1 else if i = 7 then r4 2 else if i = 8 then r4 3 else 0) E hr hlk w rfl (Nat.le_of_ble_eq_true rfl) (Nat.le_of_ble_eq_true rfl) (dq da_X1_init 18 rfl)

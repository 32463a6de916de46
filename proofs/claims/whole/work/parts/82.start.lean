theorem w_20 : Cond.classLink RL 8 RX11 ∈ gw := gw_t1 20 rfl rfl
theorem w_21 : Cond.instantiable RX11 4 ∈ gw := gw_t1 21 rfl rfl
theorem w_22 : Cond.methodLink RL 73 yX11_init ∈ gw := gw_t1 22 rfl rfl
theorem w_23 : Cond.instanceMethod yX11_init ∈ gw := gw_t1 23 rfl rfl
theorem w_24 : Cond.code yX11_init cX11_init 3 none ∈ gw := gw_t1 24 rfl rfl
theorem w_1078 : Cond.classLink RL 75 RX12 ∈ gw := gw_t5 118 rfl rfl
theorem w_1079 : Cond.instantiable RX12 53 ∈ gw := gw_t5 119 rfl rfl
theorem w_1080 : Cond.methodLink RL 77 yX12_init ∈ gw := gw_t5 120 rfl rfl
theorem w_1081 : Cond.instanceMethod yX12_init ∈ gw := gw_t5 121 rfl rfl
theorem w_1082 : Cond.code yX12_init cX12_init 2 none ∈ gw := gw_t5 122 rfl rfl
theorem w_373 : Cond.methodLink RL 67 yL_cell ∈ gw := gw_t2 133 rfl rfl
theorem w_374 : Cond.static yL_cell ∈ gw := gw_t2 134 rfl rfl
theorem w_375 : Cond.code yL_cell cL_cell 2 (some .int) ∈ gw := gw_t2 135 rfl rfl
def dl_L_cell : List (Nat × Instr × Nat) := [(0, .iload_n 1, 1), (1, .aload_n 0, 1), (2, .arraylength, 1), (3, .if_icmp .ge 9, 3), (6, .aload_n 0, 1), (7, .iload_n 1, 1), (8, .iaload, 1), (9, .goto 4, 3), (12, .iconst 0, 1), (13, .ireturn, 1)]
theorem da_L_cell : dkL cL_cell dl_L_cell = true := by decide +kernel
def scr0 (L : Nat) (xs : Nat → Int32) : Int32 := if L = 0 then 0 else xs 0
theorem c_cell (l : Launch) (b L : Nat) (xs : Nat → Int32) (hL : L ≤ 3073) : Met l yL_cell (.code yL_cell cL_cell 2 (some .int) :: gw) (rmP 0 0) (va_Pc [.ref b, .int 0] (fun U => va_X b L xs U U.heap ∧ b < U.heap.size)) (k2_QcV (.int (scr0 L xs))) 0 0 (fun _ => False) := by
  refine Met.ofW (cc := cL_cell) (maxL := 2) (ret := some .int) (by decide +kernel) rfl ?_
  intro p e s m args below meth c s₁ B hml hv
  obtain ⟨rfl, hX, hbl⟩ := hv
  have hx := B.exec
  have hb := B.bytes
  have hr := B.returns
  have hlk := B.notSynchronized
  have hts := atoms_spec (ws := Cond.code yL_cell cL_cell 2 (some .int) :: gw) B.pre
  have hown : s.vm.findClass yL_cell.cls = some m.cls := findClass_of_methodNamed B.named
  have E : CallFix p m c cL_cell 2 s ([.ref b, .int 0] : List Value).toArray gw yL_cell.cls := ⟨hx, hb, hml, hown, fun w hw => hts w (List.mem_cons_of_mem _ hw)⟩
  have hl := lv_entry ([.ref b, .int 0]) (n := 2) (Nat.le_of_ble_eq_true rfl)
  rw [lg_entry_eq]
  generalize (lg_sl ([.ref b, .int 0]) ++ List.replicate (2 - (lg_sl ([.ref b, .int 0])).length) Slot.unset).toArray = ls at hl ⊢
  have hl : lv_has ls 2 [(0, .ref b), (1, .int 0)] := hl
  have hS : va_S (fun _ : Nat => False) s.heap s.heap [] := va_S.rf
  refine lv_iload_n hx hb (dq da_L_cell 0 rfl) rfl (lv_at hl 1 rfl) ?_
  refine lv_aload_n hx hb (dq da_L_cell 1 rfl) rfl (lv_at hl 0 rfl) ?_
  refine va_slen (A := fun _ : Nat => False) hx hb hX hbl (fun q => q) hS (dq da_L_cell 2 rfl) ?_
  refine lv_icmp_ge (tgt := 12) hx hb (dq da_L_cell 3 rfl) (by decide) (fun c1 => ?_) (fun c1 => ?_)
  · refine lv_iconst (v := 0) hx hb (dq da_L_cell 8 rfl) (by decide) ?_
    refine pret_i E hr hlk ?_ (dq da_L_cell 9 rfl)
    have c2 : nI L ≤ nI 0 := c1
    rw [nI_leI (by omega) (by omega)] at c2
    unfold scr0
    rw [if_pos (by omega)]
  · have h0 : 0 < L := by
      have c2 : ¬ nI L ≤ nI 0 := c1
      rw [nI_leI (by omega) (by omega)] at c2
      omega
    refine lv_aload_n hx hb (dq da_L_cell 4 rfl) rfl (lv_at hl 0 rfl) ?_
    refine lv_iload_n hx hb (dq da_L_cell 5 rfl) rfl (lv_at hl 1 rfl) ?_
    refine va_sld (A := fun _ : Nat => False) hx hb hX hbl (fun q => q) hS (show vp_in (nI 0) L from vp_in_nI h0 (by omega)) (dq da_L_cell 6 rfl) ?_
    refine lv_goto (tgt := 13) hx hb (dq da_L_cell 7 rfl) (by decide) ?_
    refine pret_i E hr hlk ?_ (dq da_L_cell 9 rfl)
    unfold scr0
    rw [if_neg (by omega)]
    rfl
def nlI : List Nat := [58, 81, 83, 108, 110, 121, 122, 124, 125, 127, 129, 131, 132, 134, 136, 139, 172, 174, 177, 179, 181, 197, 199, 201, 203, 204, 206, 209, 211, 213, 248, 250, 252, 258, 260, 262, 72, 100, 167]
theorem nl_map : nl.map some = nlI.map (fun i => tables_1[i]?) := by decide +kernel
theorem nl_tb : ∀ w ∈ nl, w ∈ lw_tbl := by
  intro w hw
  have h1 : some w ∈ nlI.map (fun i => tables_1[i]?) := by
    rw [← nl_map]
    exact List.mem_map.mpr ⟨w, hw, rfl⟩
  obtain ⟨i, -, hi⟩ := List.mem_map.mp h1
  exact List.mem_append_right _ (List.mem_of_getElem? hi)
def blI : List Nat := [388, 389, 390, 391, 392, 393, 387, 454, 503]
theorem bl_map : bl.map some = blI.map (fun i => tables_1[i]?) := by decide +kernel
theorem bl_tb : ∀ w ∈ bl, w ∈ lw_tbl := by
  intro w hw
  have h1 : some w ∈ blI.map (fun i => tables_1[i]?) := by
    rw [← bl_map]
    exact List.mem_map.mpr ⟨w, hw, rfl⟩
  obtain ⟨i, -, hi⟩ := List.mem_map.mp h1
  exact List.mem_append_right _ (List.mem_of_getElem? hi)
theorem arr_of {s : State} {a : Array Value} {ty : FieldType} (h : (Cond.arrayClass ty).before a s = true) (hp : ∀ C, ty ≠ .object C) : ∃ c, s.vm.findClass ("[" ++ ty.toString) = some c ∧ ArrOfT s c ty ∧ va_RA s c ty := by
  obtain ⟨c, k, comp, h1, h2, h3⟩ := Cond.arrayClass_spec h
  refine ⟨c, h1, fun N z => ⟨(fun k h => by cases h), k, h2, comp, h3⟩, ?_⟩
  cases ty with
  | object C => exact absurd rfl (hp C)
  | _ => exact h1
theorem eqv {s : State} {a : Array Value} {t : Term} {v : Int32} (h : (Cond.eq t (.int v)).before a s = true) : t.eval a s none [] s = some (.int v) := Cond.eq_int h rfl
set_option maxRecDepth 100000 in
set_option maxHeartbeats 4000000 in
theorem law_world {p : Program} {s : State} {m : MethodId} {meth : Method} {c : Code} {b L : Nat} {xs : Nat → Int32} (C0 : lw_At p s m meth c b L xs) : ∃ (D : va_G) (cy : ClassId × ClassId × ClassId), KX D cy s ∧ RK (fun q : Nat => s.heap.size ≤ q) s s.heap ∧ TX s ∧ ZX (fun q : Nat => s.heap.size ≤ q) s s.heap := by
  obtain ⟨hx, hb, hr, hml, hown, hts, hX, hbl, hlocks, hgv⟩ := C0
  have hfl := flat_of_before _ hgv
  have hg : ∀ w ∈ gw, w.before #[Value.ref b] s = true := fun w hw => hts w (gw_sub hw)
  have hA : ∀ a : Nat, a < s.heap.size → ¬ (fun q : Nat => s.heap.size ≤ q) a := fun a h => Nat.not_le.mpr h
  obtain ⟨c0, i0, k0⟩ := u_known (C := RX1) (T := TX1) (N := 9) (n := 9) hg inG_X1 (hg _ w_50)
  obtain ⟨c1, i1, k1⟩ := u_known (C := RX2) (T := TX2) (N := 4) (n := 4) hg inG_X2 (hg _ w_29)
  obtain ⟨c2, i2, k2⟩ := u_known (C := RX3) (T := TX3) (N := 6) (n := 6) hg inG_X3 (hg _ w_71)
  obtain ⟨c3, i3, k3⟩ := u_known (C := RX4) (T := TX4) (N := 11) (n := 11) hg inG_X4 (hg _ w_160)
  obtain ⟨c4, i4, k4⟩ := u_known (C := RX6) (T := TX6) (N := 12) (n := 12) hg inG_X6 (hg _ w_239)
  obtain ⟨c5, i5, k5⟩ := u_known (C := RX7) (T := TX7) (N := 6) (n := 6) hg inG_X7 (hg _ w_166)
  obtain ⟨c6, i6, k6⟩ := u_known (C := RX8) (T := TX8) (N := 3) (n := 3) hg inG_X8 (hg _ w_99)
  obtain ⟨c7, i7, k7⟩ := u_known (C := RX10) (T := TX10) (N := 2) (n := 2) hg inG_X10 (hg _ w_52)
  obtain ⟨c8, i8, k8⟩ := u_known (C := RX11) (T := TX11) (N := 4) (n := 4) hg inG_X11 (hg _ w_21)
  obtain ⟨c9, i9, k9⟩ := u_known (C := RX12) (T := TX12) (N := 53) (n := 53) hg inG_X12 (hg _ w_1079)
  obtain ⟨cB, fB, aB, rB⟩ := arr_of (hg _ w_48) (fun _ h => by cases h)
  obtain ⟨cI, fI, aI, rI⟩ := arr_of (hg _ w_97) (fun _ h => by cases h)
  obtain ⟨cL, fL, aL, rL⟩ := arr_of (hg _ w_65) (fun _ h => by cases h)
  refine ⟨(fun k => [c0, c1, c2, c3, c4, c5, c6, c7, c8, c9].getD k c0, fun k => [i0, i1, i2, i3, i4, i5, i6, i7, i8, i9].getD k i0), (cB, cI, cL), ⟨⟨?_, ?_⟩, fun w hw => va_Nw.of (nl_on hw) (hts w (nl_tb w hw)), fB⟩, ?_, ⟨fun w hw => va_Nw.of (bl_on hw) (hts w (bl_tb w hw)), ?_, ?_, ?_⟩, ?_, ?_⟩
  · intro k q hq
    match k, hq with
    | 0, hq => cases hq; exact k0
    | 1, hq => cases hq; exact k1
    | 2, hq => cases hq; exact k2
    | 3, hq => cases hq; exact k3
    | 4, hq => cases hq; exact k4
    | 5, hq => cases hq; exact k5
    | 6, hq => cases hq; exact k6
    | 7, hq => cases hq; exact k7
    | 8, hq => cases hq; exact k8
    | 9, hq => cases hq; exact k9
    | k + 10, hq => simp at hq
  · intro k q hq
    match k, hq with
    | 0, hq => cases hq; exact ⟨aB, rB⟩
    | 1, hq => cases hq; exact ⟨aI, rI⟩
    | 2, hq => cases hq; exact ⟨aL, rL⟩
    | k + 3, hq => simp at hq
  · have harr : (Cond.arrayOf (.static "HartBoard$Hart" "RANKS" "[I") .int).before #[Value.ref b] s = true := hfl _ (by decide +kernel)
    have hlen : (Cond.eq (.length (.static "HartBoard$Hart" "RANKS" "[I")) (.int 6)).before #[Value.ref b] s = true := hfl _ (by decide +kernel)
    have e0 : (Cond.eq (.elem (.static "HartBoard$Hart" "RANKS" "[I") (.int 0)) (.int 11)).before #[Value.ref b] s = true := hfl _ (by decide +kernel)
    have e1 : (Cond.eq (.elem (.static "HartBoard$Hart" "RANKS" "[I") (.int 1)) (.int 3)).before #[Value.ref b] s = true := hfl _ (by decide +kernel)
    have e2 : (Cond.eq (.elem (.static "HartBoard$Hart" "RANKS" "[I") (.int 2)) (.int 7)).before #[Value.ref b] s = true := hfl _ (by decide +kernel)
    have e3 : (Cond.eq (.elem (.static "HartBoard$Hart" "RANKS" "[I") (.int 3)) (.int 9)).before #[Value.ref b] s = true := hfl _ (by decide +kernel)
    have e4 : (Cond.eq (.elem (.static "HartBoard$Hart" "RANKS" "[I") (.int 4)) (.int 1)).before #[Value.ref b] s = true := hfl _ (by decide +kernel)
    have e5 : (Cond.eq (.elem (.static "HartBoard$Hart" "RANKS" "[I") (.int 5)) (.int 5)).before #[Value.ref b] s = true := hfl _ (by decide +kernel)
    have hel : ∀ j : Nat, j < 6 → (Term.elem (.static "HartBoard$Hart" "RANKS" "[I") (.int (Int32.ofNat j))).eval #[Value.ref b] s none [] s = some (.int (rkn j)) := by
      intro j hj
      match j, hj with
      | 0, _ => exact eqv e0
      | 1, _ => exact eqv e1
      | 2, _ => exact eqv e2
      | 3, _ => exact eqv e3
      | 4, _ => exact eqv e4
      | 5, _ => exact eqv e5
    obtain ⟨t, ht, hT⟩ := va_Tof (tm := (.static "HartBoard$Hart" "RANKS" "[I")) (ty := .int) (N := 6) (f := fun j => .int (rkn j)) (A := fun q : Nat => s.heap.size ≤ q) (by decide) harr (eqv hlen) hel hA
    exact ⟨t, va_Zref (hts _ (List.mem_append_right _ (List.mem_of_getElem? (l := tables_1) (i := 672) (by decide +kernel)))) (hts _ (List.mem_append_right _ (List.mem_of_getElem? (l := tables_1) (i := 9) (by decide +kernel)))) ht hA, hT⟩
  · intro q hq
    unfold strs at hq
    simp only [List.mem_cons, List.not_mem_nil, or_false] at hq
    rcases hq with rfl | rfl | rfl | rfl | rfl | rfl | rfl | rfl | rfl | rfl | rfl | rfl
    · obtain ⟨sa, -, -, -, h1, -⟩ := Cond.exactly_spec (hfl (.exactly (.string "HartBoard" 51) "java/lang/String") (by decide +kernel))
      exact ⟨sa, vk_R.of (hts _ (List.mem_append_right _ (List.mem_of_getElem? (l := tables_1) (i := 426) (by decide +kernel)))) h1⟩
    · obtain ⟨sa, -, -, -, h1, -⟩ := Cond.exactly_spec (hfl (.exactly (.string "HartBoard" 62) "java/lang/String") (by decide +kernel))
      exact ⟨sa, vk_R.of (hts _ (List.mem_append_right _ (List.mem_of_getElem? (l := tables_1) (i := 461) (by decide +kernel)))) h1⟩
    · obtain ⟨sa, -, -, -, h1, -⟩ := Cond.exactly_spec (hfl (.exactly (.string "HartBoard" 86) "java/lang/String") (by decide +kernel))
      exact ⟨sa, vk_R.of (hts _ (List.mem_append_right _ (List.mem_of_getElem? (l := tables_1) (i := 479) (by decide +kernel)))) h1⟩
    · obtain ⟨sa, -, -, -, h1, -⟩ := Cond.exactly_spec (hfl (.exactly (.string "HartBoard" 105) "java/lang/String") (by decide +kernel))
      exact ⟨sa, vk_R.of (hts _ (List.mem_append_right _ (List.mem_of_getElem? (l := tables_1) (i := 510) (by decide +kernel)))) h1⟩
    · obtain ⟨sa, -, -, -, h1, -⟩ := Cond.exactly_spec (hfl (.exactly (.string "HartBoard" 116) "java/lang/String") (by decide +kernel))
      exact ⟨sa, vk_R.of (hts _ (List.mem_append_right _ (List.mem_of_getElem? (l := tables_1) (i := 535) (by decide +kernel)))) h1⟩
    · obtain ⟨sa, -, -, -, h1, -⟩ := Cond.exactly_spec (hfl (.exactly (.string "HartBoard" 128) "java/lang/String") (by decide +kernel))
      exact ⟨sa, vk_R.of (hts _ (List.mem_append_right _ (List.mem_of_getElem? (l := tables_1) (i := 551) (by decide +kernel)))) h1⟩
    · obtain ⟨sa, -, -, -, h1, -⟩ := Cond.exactly_spec (hfl (.exactly (.string "HartBoard" 138) "java/lang/String") (by decide +kernel))
      exact ⟨sa, vk_R.of (hts _ (List.mem_append_right _ (List.mem_of_getElem? (l := tables_1) (i := 562) (by decide +kernel)))) h1⟩
    · obtain ⟨sa, -, -, -, h1, -⟩ := Cond.exactly_spec (hfl (.exactly (.string "HartBoard" 146) "java/lang/String") (by decide +kernel))
      exact ⟨sa, vk_R.of (hts _ (List.mem_append_right _ (List.mem_of_getElem? (l := tables_1) (i := 640) (by decide +kernel)))) h1⟩
    · obtain ⟨sa, -, -, -, h1, -⟩ := Cond.exactly_spec (hfl (.exactly (.string "HartBoard" 158) "java/lang/String") (by decide +kernel))
      exact ⟨sa, vk_R.of (hts _ (List.mem_append_right _ (List.mem_of_getElem? (l := tables_1) (i := 652) (by decide +kernel)))) h1⟩
    · obtain ⟨sa, -, -, -, h1, -⟩ := Cond.exactly_spec (hfl (.exactly (.string "HartBoard" 164) "java/lang/String") (by decide +kernel))
      exact ⟨sa, vk_R.of (hts _ (List.mem_append_right _ (List.mem_of_getElem? (l := tables_1) (i := 1058) (by decide +kernel)))) h1⟩
    · obtain ⟨sa, -, -, -, h1, -⟩ := Cond.exactly_spec (hfl (.exactly (.string "HartBoard" 201) "java/lang/String") (by decide +kernel))
      exact ⟨sa, vk_R.of (hts _ (List.mem_append_right _ (List.mem_of_getElem? (l := tables_1) (i := 1069) (by decide +kernel)))) h1⟩
    · obtain ⟨sa, -, -, -, h1, -⟩ := Cond.exactly_spec (hfl (.exactly (.string "HartBoard" 203) "java/lang/String") (by decide +kernel))
      exact ⟨sa, vk_R.of (hts _ (List.mem_append_right _ (List.mem_of_getElem? (l := tables_1) (i := 1077) (by decide +kernel)))) h1⟩
  · exact va_Nc.of (hfl (.not (.castable "java/lang/IllegalStateException" "java/lang/IllegalArgumentException")) (by decide +kernel))
  · exact va_Nc.of (hfl (.not (.castable "java/util/NoSuchElementException" "java/lang/IllegalArgumentException")) (by decide +kernel))
  · exact vx_Zqof (hts _ (List.mem_append_right _ (List.mem_of_getElem? (l := tables_1) (i := 412) (by decide +kernel)))) (hts _ (List.mem_append_right _ (List.mem_of_getElem? (l := tables_1) (i := 11) (by decide +kernel)))) (hfl _ (by decide +kernel)) hA
  · exact vx_Zqof (hts _ (List.mem_append_right _ (List.mem_of_getElem? (l := tables_1) (i := 414) (by decide +kernel)))) (hts _ (List.mem_append_right _ (List.mem_of_getElem? (l := tables_1) (i := 11) (by decide +kernel)))) (hfl _ (by decide +kernel)) hA

def R_law : String := "HartBoardLaw"
def lw_P (b : Addr) (xs : List Int32) (args : Array Value) (s : State) : Prop := args = #[.ref b] ∧ s.IntsAt b xs ∧ xs.length ≤ 3073 ∧ (Jvm.Cond.and given_1 narrow_1).before args s = true
def lw_Q (_ : Array Value) (s : State) (o : Outcome) (t : State) : Prop := o = .returned (some (.int 1)) ∧ Framed s o t [] 601024 7293000
def lw_Z (below : List Frame) (a : Array Value) (s : State) : State → Prop := fun t => ∃ o, t.status = .running ∧ Ended t below o ∧ lw_Q a s o t
/-- the law's own end, with 1 on the stack, nothing written that was there before, its room as the claim has it -/
theorem lw_ret {p : Program} {l : Launch} {e : Env} {s : State} {m : MethodId} {below : List Frame} {meth : Method} {c : Code} {b : Nat} (hx : p.tables.exec = Jvm.exec) (hb : c.code = code) (hr : meth.sig.returnType = ret) (hlocks : meth.locks = false) {pc : Nat} {H : Heap} {ls : Array Slot} (hdg : decode code pc = .ok (.ireturn, 1)) : W p l e room_1 s m #[Value.ref b] below meth c H [] 601024 7293000 (lw_Z below #[Value.ref b] s) (F0 m pc ls [.int 1]) := by
  intro T hT X
  obtain ⟨fs, hret, hrun, hended, hW, hframe⟩ := X.leave (v := some (.int 1)) (hlocks := hlocks) (fun h => by rw [hr] at h; cases h)
  have hmeth' : T.vm.method? m = some meth := X.method'
  refine ⟨T.setFrames fs, ?_, .returned (some (.int 1)), hrun, hended, rfl, ⟨_, rfl⟩, hW, hframe⟩
  jvm_step X.here [X.here.top, hx, hb, hdg, hmeth', hr, ret, narrow_b1]
  (try refine ⟨rfl, ?_⟩); (try refine ⟨rfl, ?_⟩)
  first | (intro acts; rw [hret _ acts rfl rfl rfl]) | rw [hret _ _ rfl rfl rfl]
  exact Steps.refl _
/-- what holds at the law's entry: the machine, the code, the tables' words (any of lw_tbl by 'hts w (by decide +kernel)'), the script of L ints xs at the cell b, what the Statement gives of the start (any of its parts by flat_of_before) -/
def lw_At (p : Program) (s : State) (m : MethodId) (meth : Method) (c : Code) (b L : Nat) (xs : Nat → Int32) : Prop :=
  p.tables.exec = Jvm.exec ∧ c.code = code ∧ meth.sig.returnType = ret ∧ c.maxLocals = 8 ∧ s.vm.findClass R_law = some m.cls ∧ (∀ w ∈ lw_tbl, w.before #[Value.ref b] s = true) ∧ va_X b L xs s s.heap ∧ b < s.heap.size ∧ meth.locks = false ∧ (Jvm.Cond.and given_1 narrow_1).before #[Value.ref b] s = true
theorem law_fix {p : Program} {s : State} {m : MethodId} {meth : Method} {c : Code} {b L : Nat} {xs : Nat → Int32} (C0 : lw_At p s m meth c b L xs) : CallFix p m c code 8 s #[Value.ref b] gw RL := by
  obtain ⟨hx, hb, hr, hml, hown, hts, hX, hbl, hlocks, hgv⟩ := C0
  exact ⟨hx, hb, hml, hown, fun w hw => hts w (gw_sub hw)⟩
set_option maxRecDepth 100000 in
set_option maxHeartbeats 4000000 in
theorem law_loop {p : Program} {e : Env} {s : State} {m : MethodId} {below : List Frame} {meth : Method} {c : Code} {D : va_G} {cy : ClassId × ClassId × ClassId} {ad am : Nat → Nat} {ob b L : Nat} {xs : Nat → Int32} (l : Launch) (hca : CatchP) (hl0 : l.stackTraces = false) (hL : L ≤ 3073) (C0 : lw_At p s m meth c b L xs) : ∀ (n t : Nat), L ≤ 6 * t + 6 * n + 6 → t ≤ 512 → ∀ (uC uM : St) (f : Nat → Int64) (H : Heap) (locs : List Loc) (rr rm : Nat → Nat) (cells slots : Nat) (ls : Array Slot), Rel uC uM → cells ≤ 100 + Bud uC + 6 * t → slots ≤ 500000 + Bud uC + 6 * t → lv_has ls 8 [(0, .ref b), (1, .ref (ad 0)), (2, .ref (am 0)), (3, .ref ob), (4, .int (nI (1 + 6 * t)))] → WZ ((wC cy ad rr uC ++ [(ob, .inl (cy.2.2, 1, .inr (.inl f)))]) ++ wM cy am rm uM) D cy (fun q : Nat => s.heap.size ≤ q) s H locs → W p l e room_1 s m #[Value.ref b] below meth c H locs cells slots (lw_Z below #[Value.ref b] s) (F0 m 33 ls []) := by
  have E := law_fix C0
  obtain ⟨hx, hb, hr, hml, hown, hts, hX, hbl, hlocks, hgv⟩ := C0
  have hbA : ¬ (fun q : Nat => s.heap.size ≤ q) b := Nat.not_le.mpr hbl
  intro n
  induction n with
  | zero =>
    intro t hn ht uC uM f H locs rr rm cells slots ls hS hc hs hl w
    have hB0 := Rel.bud _ _ hS
    refine lv_iload hx hb (dq da_law_0 19 rfl) (lv_at hl 4 rfl) ?_
    refine lv_aload_n hx hb (dq da_law_0 20 rfl) rfl (lv_at hl 0 rfl) ?_
    refine va_slen hx hb hX hbl hbA w.2.2.1 (dq da_law_0 21 rfl) ?_
    refine lv_bipush (v := 6) hx hb (dq da_law_0 22 rfl) rfl ?_
    refine lv_isub hx hb (dq da_law_0 23 rfl) ?_
    refine lv_icmp_gt (tgt := 1152) hx hb (dq da_law_0 24 rfl) (by decide) (fun c1 => ?_) (fun c1 => ?_)
    · refine lv_iconst (v := 1) hx hb (dq da_law_17 2 rfl) (by decide) ?_
      refine va_forget (fun q hq => w.2.2.1.2.2 q hq) ?_
      refine W.widen (k := 601024) (n := 7293000) (by omega) (by omega) ?_
      exact lw_ret hx hb hr hlocks (dq da_law_17 3 rfl)
    · exfalso
      apply c1
      show nI L - nI 6 < nI (1 + 6 * t)
      rw [Int32.lt_iff_toInt_lt, pk_sub_toInt (by omega) (by omega), nI_toInt (by omega)]
      omega
  | succ n ih =>
    intro t hn ht uC uM f H locs rr rm cells slots ls hS hc hs hl w
    have hB0 := Rel.bud _ _ hS
    refine lv_iload hx hb (dq da_law_0 19 rfl) (lv_at hl 4 rfl) ?_
    refine lv_aload_n hx hb (dq da_law_0 20 rfl) rfl (lv_at hl 0 rfl) ?_
    refine va_slen hx hb hX hbl hbA w.2.2.1 (dq da_law_0 21 rfl) ?_
    refine lv_bipush (v := 6) hx hb (dq da_law_0 22 rfl) rfl ?_
    refine lv_isub hx hb (dq da_law_0 23 rfl) ?_
    refine lv_icmp_gt (tgt := 1152) hx hb (dq da_law_0 24 rfl) (by decide) (fun c1 => ?_) (fun c1 => ?_)
    · refine lv_iconst (v := 1) hx hb (dq da_law_17 2 rfl) (by decide) ?_
      refine va_forget (fun q hq => w.2.2.1.2.2 q hq) ?_
      refine W.widen (k := 601024) (n := 7293000) (by omega) (by omega) ?_
      exact lw_ret hx hb hr hlocks (dq da_law_17 3 rfl)
    · have hj : (1 + 6 * t) + 6 ≤ L := by
        have c2 : ¬ nI L - nI 6 < nI (1 + 6 * t) := c1
        rw [Int32.lt_iff_toInt_lt, pk_sub_toInt (by omega) (by omega), nI_toInt (by omega)] at c2
        omega
      refine lv_aload_n hx hb (dq da_law_0 25 rfl) rfl (lv_at hl 0 rfl) ?_
      refine lv_iload hx hb (dq da_law_0 26 rfl) (lv_at hl 4 rfl) ?_
      refine va_sld hx hb hX hbl hbA w.2.2.1 (vp_in_nI (by omega) (by omega)) (dq da_law_0 27 rfl) ?_
      refine lv_bipush (v := 15) hx hb (dq da_law_0 28 rfl) rfl ?_
      refine lv_iand hx hb (dq da_law_0 29 rfl) ?_
      have hnext : ∀ (uC uM : St) (f : Nat → Int64) (H : Heap) (locs : List Loc) (rr rm : Nat → Nat) (cells slots : Nat) (ls : Array Slot), Rel uC uM → cells ≤ 100 + Bud uC + 6 * (t + 1) → slots ≤ 500000 + Bud uC + 6 * (t + 1) → lv_has ls 8 [(0, .ref b), (1, .ref (ad 0)), (2, .ref (am 0)), (3, .ref ob), (4, .int (nI (1 + 6 * t)))] → WZ ((wC cy ad rr uC ++ [(ob, .inl (cy.2.2, 1, .inr (.inl f)))]) ++ wM cy am rm uM) D cy (fun q : Nat => s.heap.size ≤ q) s H locs → W p l e room_1 s m #[Value.ref b] below meth c H locs cells slots (lw_Z below #[Value.ref b] s) (F0 m 1146 ls []) := by
        intro uC uM f H locs rr rm cells slots ls hS hc hs hl w
        refine lv_iinc (v := nI (1 + 6 * (t + 1))) (lv' := [(4, .int (nI (1 + 6 * (t + 1)))), (0, .ref b), (1, .ref (ad 0)), (2, .ref (am 0)), (3, .ref ob)]) hx hb (dq da_law_17 0 rfl) hl (k := 4) rfl (by rw [show Int32.ofInt 6 = nI 6 by decide, nI_add]; congr 1) (by decide) rfl (fun ls hl => ?_)
        refine lv_goto (tgt := 33) hx hb (dq da_law_17 1 rfl) (by decide) ?_
        exact ih (t + 1) (by omega) (by omega) uC uM f H locs rr rm cells slots ls hS hc hs (lv_sub hl [1, 2, 3, 4, 0] rfl) w
      obtain ⟨k, hk, ek⟩ := pk_andE (xs (nI (1 + 6 * t)).toNatClampNeg) (m := 15) 4 rfl
      rw [ek]
      match k, hk with
      | 0, _ =>
        refine lv_tableIn (off := 78) (tgt := 128) hx hb (dq da_law_0 30 rfl) (by decide) (by decide) rfl (by decide) ?_
        exact lw_feed l hca hl0 E hX hbl hbA Rel.bud op_feed hS (by omega) hj hL hc hs hl w hnext
      | 1, _ =>
        refine lv_tableIn (off := 178) (tgt := 228) hx hb (dq da_law_0 30 rfl) (by decide) (by decide) rfl (by decide) ?_
        exact lw_wipe l hca hl0 E hX hbl hbA Rel.bud op_wipe hS (by omega) hj hL hc hs hl w hnext
      | 2, _ =>
        refine lv_tableIn (off := 191) (tgt := 241) hx hb (dq da_law_0 30 rfl) (by decide) (by decide) rfl (by decide) ?_
        exact lw_load l hca hl0 E hX hbl hbA Rel.bud op_load hS (by omega) hj hL hc hs hl w hnext
      | 3, _ =>
        refine lv_tableIn (off := 204) (tgt := 254) hx hb (dq da_law_0 30 rfl) (by decide) (by decide) rfl (by decide) ?_
        exact lw_type l hca hl0 E hX hbl hbA Rel.bud op_type hS (by omega) hj hL hc hs hl w hnext
      | 4, _ =>
        refine lv_tableIn (off := 248) (tgt := 298) hx hb (dq da_law_0 30 rfl) (by decide) (by decide) rfl (by decide) ?_
        exact lw_poke l hca hl0 E hX hbl hbA Rel.bud op_poke hS (by omega) hj hL hc hs hl w hnext
      | 5, _ =>
        refine lv_tableIn (off := 372) (tgt := 422) hx hb (dq da_law_0 30 rfl) (by decide) (by decide) rfl (by decide) ?_
        exact lw_peek l hca hl0 E hX hbl hbA Rel.bud op_peek hS (by omega) hj hL hc hs hl w hnext
      | 6, _ =>
        refine lv_tableIn (off := 459) (tgt := 509) hx hb (dq da_law_0 30 rfl) (by decide) (by decide) rfl (by decide) ?_
        exact lw_set l hca hl0 E hX hbl hbA Rel.bud op_set hS (by omega) hj hL hc hs hl w hnext
      | 7, _ =>
        refine lv_tableIn (off := 539) (tgt := 589) hx hb (dq da_law_0 30 rfl) (by decide) (by decide) rfl (by decide) ?_
        exact lw_get l hca hl0 E hX hbl hbA Rel.bud op_get hS (by omega) hj hL hc hs hl w hnext
      | 8, _ =>
        refine lv_tableIn (off := 594) (tgt := 644) hx hb (dq da_law_0 30 rfl) (by decide) (by decide) rfl (by decide) ?_
        exact lw_lower l hca hl0 E hX hbl hbA Rel.bud op_lower hS (by omega) hj hL hc hs hl w hnext
      | 9, _ =>
        refine lv_tableIn (off := 630) (tgt := 680) hx hb (dq da_law_0 30 rfl) (by decide) (by decide) rfl (by decide) ?_
        exact lw_control l hca hl0 E hX hbl hbA Rel.bud op_control hS (by omega) hj hL hc hs hl w hnext
      | 10, _ =>
        refine lv_tableIn (off := 685) (tgt := 735) hx hb (dq da_law_0 30 rfl) (by decide) (by decide) rfl (by decide) ?_
        exact lw_order l hca hl0 E hX hbl hbA Rel.bud op_order hS (by omega) hj hL hc hs hl w hnext
      | 11, _ =>
        refine lv_tableIn (off := 765) (tgt := 815) hx hb (dq da_law_0 30 rfl) (by decide) (by decide) rfl (by decide) ?_
        exact lw_raise l hca hl0 E hX hbl hbA Rel.bud op_raise hS (by omega) hj hL hc hs hl w hnext
      | 12, _ =>
        refine lv_tableIn (off := 829) (tgt := 879) hx hb (dq da_law_0 30 rfl) (by decide) (by decide) rfl (by decide) ?_
        exact lw_step l hca hl0 E hX hbl hbA Rel.bud op_step hS (by omega) hj hL hc hs hl w hnext
      | 13, _ =>
        refine lv_tableIn (off := 885) (tgt := 935) hx hb (dq da_law_0 30 rfl) (by decide) (by decide) rfl (by decide) ?_
        exact lw_translate l hca hl0 E hX hbl hbA Rel.bud op_translate hS (by omega) hj hL hc hs hl w hnext
      | 14, _ =>
        refine lv_tableIn (off := 984) (tgt := 1034) hx hb (dq da_law_0 30 rfl) (by decide) (by decide) rfl (by decide) ?_
        exact lw_look l hca hl0 E hX hbl hbA Rel.bud op_look hS (by omega) hj hL hc hs hl w hnext
      | 15, _ =>
        refine lv_tableIn (off := 1040) (tgt := 1090) hx hb (dq da_law_0 30 rfl) (by decide) (by decide) rfl (by decide) ?_
        exact lw_out l hca hl0 E hX hbl hbA Rel.bud op_out hS (by omega) hj hL hc hs hl w hnext
      | k + 16, hk => exact absurd hk (by omega)

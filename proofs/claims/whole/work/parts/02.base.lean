/-! the words that all contracts share: the tables' good words; small rows on functions that may fail; decoding in bulk; contracts of methods that touch no cell -/
def gw : List Cond := lw_tbl.filter goodWord
theorem gw_of {w : Cond} (h : w ∈ lw_tbl) (hg : goodWord w = true) : w ∈ gw := List.mem_filter.mpr ⟨h, hg⟩
theorem gw_t1 {w : Cond} (i : Nat) (h : tables_1_1[i]? = some w) (hg : goodWord w = true) : w ∈ gw := gw_of (List.mem_append_right _ (show w ∈ tables_1 from List.mem_append_left _ (List.mem_of_getElem? h))) hg
theorem gw_t2 {w : Cond} (i : Nat) (h : tables_1_2[i]? = some w) (hg : goodWord w = true) : w ∈ gw := gw_of (List.mem_append_right _ (show w ∈ tables_1 from List.mem_append_right _ (List.mem_append_left _ (List.mem_of_getElem? h)))) hg
theorem gw_t3 {w : Cond} (i : Nat) (h : tables_1_3[i]? = some w) (hg : goodWord w = true) : w ∈ gw := gw_of (List.mem_append_right _ (show w ∈ tables_1 from List.mem_append_right _ (List.mem_append_right _ (List.mem_append_left _ (List.mem_of_getElem? h))))) hg
theorem gw_t4 {w : Cond} (i : Nat) (h : tables_1_4[i]? = some w) (hg : goodWord w = true) : w ∈ gw := gw_of (List.mem_append_right _ (show w ∈ tables_1 from List.mem_append_right _ (List.mem_append_right _ (List.mem_append_right _ (List.mem_append_left _ (List.mem_of_getElem? h)))))) hg
theorem gw_t5 {w : Cond} (i : Nat) (h : tables_1_5[i]? = some w) (hg : goodWord w = true) : w ∈ gw := gw_of (List.mem_append_right _ (show w ∈ tables_1 from List.mem_append_right _ (List.mem_append_right _ (List.mem_append_right _ (List.mem_append_right _ (List.mem_append_left _ (List.mem_of_getElem? h))))))) hg
theorem gw_t6 {w : Cond} (i : Nat) (h : tables_1_6[i]? = some w) (hg : goodWord w = true) : w ∈ gw := gw_of (List.mem_append_right _ (show w ∈ tables_1 from List.mem_append_right _ (List.mem_append_right _ (List.mem_append_right _ (List.mem_append_right _ (List.mem_append_right _ (List.mem_append_left _ (List.mem_of_getElem? h)))))))) hg
theorem gw_t7 {w : Cond} (i : Nat) (h : tables_1_7[i]? = some w) (hg : goodWord w = true) : w ∈ gw := gw_of (List.mem_append_right _ (show w ∈ tables_1 from List.mem_append_right _ (List.mem_append_right _ (List.mem_append_right _ (List.mem_append_right _ (List.mem_append_right _ (List.mem_append_right _ (List.mem_of_getElem? h)))))))) hg
theorem gw_p {w : Cond} (i : Nat) (h : (k2_sels lw_privs)[i]? = some w) (hg : goodWord w = true) : w ∈ gw := gw_of (List.mem_append_left _ (List.mem_of_getElem? h)) hg
theorem gw_good {w : Cond} (h : w ∈ gw) : goodWord w = true := (List.mem_filter.mp h).2
theorem gw_sub {w : Cond} (h : w ∈ gw) : w ∈ lw_tbl := (List.mem_filter.mp h).1
theorem gw_in {w0 : Cond} (h : w0 ∈ gw) : GoodIn gw (w0 :: gw) := fun w hw => (List.mem_cons.mp hw).elim (fun e => by rw [e]; exact ⟨h, good_of_word (gw_good h)⟩) (fun hw => ⟨hw, good_of_word (gw_good hw)⟩)
theorem gw_app {a b : List Cond} (ha : ∀ w ∈ a, w ∈ gw) (hb : GoodIn gw b) : GoodIn gw (a ++ b) := fun w hw => (List.mem_append.mp hw).elim (fun h => ⟨ha w h, good_of_word (gw_good (ha w h))⟩) (fun h => hb w h)
/-- functions that may fail -/
theorem it {α : Type} {c : Prop} {i : Decidable c} {a b r : α} (hc : c) (h : (@ite α c i a b) = r) : a = r := by rw [if_pos hc] at h; exact h
theorem ie {α : Type} {c : Prop} {i : Decidable c} {a b r : α} (hc : ¬ c) (h : (@ite α c i a b) = r) : b = r := by rw [if_neg hc] at h; exact h
theorem oi {α : Type} {c : Prop} {i : Decidable c} {a : Option α} {r : α} (h : (@ite (Option α) c i a none) = some r) : c ∧ a = some r := by
  by_cases hc : c
  · rw [if_pos hc] at h; exact ⟨hc, h⟩
  · rw [if_neg hc] at h; cases h
theorem ob {α β : Type} {o : Option α} {k : α → Option β} {r : β} (h : o.bind k = some r) : ∃ x, o = some x ∧ k x = some r := by
  cases o with
  | none => cases h
  | some x => exact ⟨x, rfl, h⟩
theorem os {α : Type} {a b : α} (h : some a = some b) : a = b := Option.some.inj h
abbrev inB (i : Int32) (n : Nat) : Prop := ¬ (i < 0 ∨ n ≤ i.toNatClampNeg)
/-- the rounds that a loop may make -/
def FU : Nat := 300000
/-- decoding in bulk -/
def dkL (code : ByteArray) (L : List (Nat × Instr × Nat)) : Bool := L.all (fun q => decide (decode code q.1 = .ok (q.2.1, q.2.2)))
theorem dq {code : ByteArray} {L : List (Nat × Instr × Nat)} (h : dkL code L = true) (k : Nat) {pc n : Nat} {i : Instr} (hk : L[k]? = some (pc, i, n)) : decode code pc = .ok (i, n) := by
  have h1 := List.all_eq_true.mp h _ (List.mem_of_getElem? hk)
  exact of_decide_eq_true h1
/-- what a call row asks of a callee's name -/
def hdOK (y : MethodName) (n : Nat) : Prop := y.cls ≠ "java/lang/invoke/MethodHandle" ∧ y.cls ≠ "java/lang/invoke/VarHandle" ∧ (parseMethodDescriptor y.desc).map (fun d => d.parameters.length) = some n
abbrev rmP (fr lo : Nat) : Room := { frames := fr, cells := 0, slots := 0, locals := lo }
/-- a method that touches no cell: its answer is r -/
def MP (l : Launch) (y : MethodName) (code : ByteArray) (maxL : Nat) (ret : Option FieldType) (fr lo : Nat) (as : List Value) (r : Value) : Prop :=
  Met l y (.code y code maxL ret :: gw) (rmP fr lo) (fun v _ => v = as.toArray) (k2_QcV r) 0 0 (fun _ => False)
section PU
variable {p : Program} {l : Launch} {e : Env} {R : Room} {s : State} {m : MethodId} {args : Array Value} {below : List Frame} {meth : Method} {c : Code} {H : Heap} {locs : List Loc} {cells slots : Nat} {Q : State → Prop}
abbrev Wp (p : Program) (l : Launch) (e : Env) (fr lo : Nat) (s : State) (m : MethodId) (args : Array Value) (below : List Frame) (meth : Method) (c : Code) (r : Value) (pc : Nat) (ls : Array Slot) (st : List Value) : Prop :=
  W p l e (rmP fr lo) s m args below meth c s.heap [] 0 0 (MQ below (k2_QcV r) args s 0 0 (fun _ => False)) (F0 m pc ls st)
theorem entP {y : MethodName} {code : ByteArray} {maxL : Nat} {ret : Option FieldType} {fr lo : Nat} {as : List Value} {r : Value} (hy : plainName y.cls = true) (hlen : (lg_sl as).length ≤ maxL)
    (body : ∀ (p : Program) (e : Env) (s : State) (m : MethodId) (args : Array Value) (below : List Frame) (meth : Method) (c : Code) (ls : Array Slot), CallFix p m c code maxL s args gw y.cls → meth.sig.returnType = ret → meth.locks = false → lv_has ls maxL (lv_args 0 as) → Wp p l e fr lo s m args below meth c r 0 ls []) : MP l y code maxL ret fr lo as r := by
  refine Met.ofW (cc := code) (maxL := maxL) (ret := ret) hy rfl ?_
  intro p e s m args below meth c s₁ B hml hv
  subst hv
  have hts := atoms_spec (ws := Cond.code y code maxL ret :: gw) B.pre
  have hown : s.vm.findClass y.cls = some m.cls := findClass_of_methodNamed B.named
  have hl := lv_entry as (n := maxL) hlen
  rw [lg_entry_eq]
  exact body p e s m as.toArray below meth c _ ⟨B.exec, B.bytes, hml, hown, fun w hw => hts w (List.mem_cons_of_mem _ hw)⟩ B.returns B.notSynchronized hl
theorem gS {own : String} {idx : Nat} {y : MethodName} {code : ByteArray} {maxL : Nat} {ret : Option FieldType} (h1 : Cond.methodLink own idx y ∈ gw) (h2 : Cond.static y ∈ gw) (h3 : Cond.initialized y.cls ∈ gw) (h4 : Cond.code y code maxL ret ∈ gw) : GoodIn gw (va_wsS own idx y (.code y code maxL ret :: gw)) := by
  refine gw_app (fun w hw => ?_) (gw_in h4)
  simp only [List.mem_cons, List.not_mem_nil, or_false] at hw
  rcases hw with rfl | rfl | rfl
  · exact h1
  · exact h2
  · exact h3
theorem callP {y : MethodName} {code cc : ByteArray} {maxL nL n index fr lo : Nat} {ret : Option FieldType} {as rest st : List Value} {r : Value} {own : String} {pc : Nat} {ls : Array Slot} (E : CallFix p m c cc nL s args gw own) (hM : MP l y code maxL ret fr lo as r)
    (h1 : Cond.methodLink own index y ∈ gw) (h2 : Cond.static y ∈ gw) (h3 : Cond.initialized y.cls ∈ gw) (h4 : Cond.code y code maxL ret ∈ gw) (hd : hdOK y n) (hn : as.length = n) (hsize : ls.size = nL) (hstack : st = as.reverse ++ rest) (hroom : (rest.map fun v => v.category).sum ≤ 8) (hR : fr + 1 ≤ R.frames ∧ 8 + (maxL + 11) + lo ≤ R.locals) (hc : cells ≤ R.cells ∧ slots ≤ R.slots) (hdg : decode cc pc = .ok (.invokestatic index, 3))
    (kk : W p l e R s m args below meth c H locs cells slots Q (F0 m (pc + 3) ls (r :: rest))) : W p l e R s m args below meth c H locs cells slots Q (F0 m pc ls st) :=
  W.callV (r := r) (W.runS (As := as) (rest := rest) E hM (va_cwS n E.2.2.2.2 (gS h1 h2 h3 h4) rfl rfl rfl hd hR) preEq rfl hn hsize hstack (lv_room hroom) hdg hc) kk
theorem pret_i {cc : ByteArray} {nL fr lo pc : Nat} {own : String} {x r : Int32} {ls : Array Slot} (E : CallFix p m c cc nL s args gw own) (hr : meth.sig.returnType = some .int) (hk : meth.locks = false) (h : x = r) (hdg : decode cc pc = .ok (.ireturn, 1)) : Wp p l e fr lo s m args below meth c (.int r) pc ls [.int x] := by
  subst h
  exact W.iret E.1 E.2.1 hr (fun t ht _ => ⟨rfl, ht⟩) (fun _ hq => by cases hq) hdg hk
theorem pret_z {cc : ByteArray} {nL fr lo pc : Nat} {own : String} {x r : Int32} {ls : Array Slot} (E : CallFix p m c cc nL s args gw own) (hr : meth.sig.returnType = some .boolean) (hk : meth.locks = false) (hn : narrow .boolean (.int x) = .int x) (h : x = r) (hdg : decode cc pc = .ok (.ireturn, 1)) : Wp p l e fr lo s m args below meth c (.int r) pc ls [.int x] := by
  subst h
  exact W.zret E.1 E.2.1 hr hn (fun t ht _ => ⟨rfl, ht⟩) (fun _ hq => by cases hq) hdg hk
theorem pret_l {cc : ByteArray} {nL fr lo pc : Nat} {own : String} {x r : Int64} {ls : Array Slot} (E : CallFix p m c cc nL s args gw own) (hr : meth.sig.returnType = some .long) (hk : meth.locks = false) (h : x = r) (hdg : decode cc pc = .ok (.lreturn, 1)) : Wp p l e fr lo s m args below meth c (.long r) pc ls [.long x] := by
  subst h
  exact W.lret E.1 E.2.1 hr (fun t ht _ => ⟨rfl, ht⟩) (fun _ hq => by cases hq) hdg hk
variable {cc : ByteArray} {pc : Nat} {ls : Array Slot} {rest : List Value} {x y : Int64} {off : Int} {tgt : Nat}
theorem lc_ge (hx : p.tables.exec = Jvm.exec) (hb : c.code = cc) (d1 : decode cc pc = .ok (.lcmp, 1)) (d2 : decode cc (pc + 1) = .ok (.ifCond .ge off, 3)) (ht : ((pc + 1 : Nat) : Int) + off = (tgt : Int)) (kt : y ≤ x → W p l e R s m args below meth c H locs cells slots Q (F0 m tgt ls rest)) (kf : ¬ y ≤ x → W p l e R s m args below meth c H locs cells slots Q (F0 m (pc + 4) ls rest)) : W p l e R s m args below meth c H locs cells slots Q (F0 m pc ls (.long y :: .long x :: rest)) :=
  W.lcmp hx hb d1 (lv_if_ge hx hb d2 ht (fun q => kt ((lg_cmp_ge x y).mp q)) (fun q => kf (fun z => q ((lg_cmp_ge x y).mpr z))))
theorem lgc (x y : Int64) : (lg_cmp x y = 0 ↔ x = y) ∧ (lg_cmp x y < 0 ↔ x < y) ∧ (0 < lg_cmp x y ↔ y < x) ∧ (lg_cmp x y ≤ 0 ↔ x ≤ y) := by
  have e1 : ¬ (1 : Int32) = 0 := by decide
  have e2 : ¬ (-1 : Int32) = 0 := by decide
  have e3 : ¬ (1 : Int32) < 0 := by decide
  have e4 : (-1 : Int32) < 0 := by decide
  have e5 : (0 : Int32) < 1 := by decide
  have e6 : ¬ (0 : Int32) < -1 := by decide
  have e7 : ¬ (1 : Int32) ≤ 0 := by decide
  have e8 : (-1 : Int32) ≤ 0 := by decide
  have e9 : (0 : Int32) ≤ 0 := by decide
  have e10 : ¬ (0 : Int32) < 0 := by decide
  unfold lg_cmp
  by_cases h1 : x > y
  · rw [if_pos h1]
    have h2 : y.toInt < x.toInt := Int64.lt_iff_toInt_lt.mp h1
    refine ⟨⟨fun h => absurd h e1, fun h => ?_⟩, ⟨fun h => absurd h e3, fun h => ?_⟩, ⟨fun _ => h1, fun _ => e5⟩, ⟨fun h => absurd h e7, fun h => ?_⟩⟩
    · rw [h] at h2; omega
    · have := Int64.lt_iff_toInt_lt.mp h; omega
    · have := Int64.le_iff_toInt_le.mp h; omega
  · rw [if_neg h1]
    have h2 : ¬ y.toInt < x.toInt := fun q => h1 (Int64.lt_iff_toInt_lt.mpr q)
    by_cases h3 : x = y
    · rw [if_pos h3]
      refine ⟨⟨fun _ => h3, fun _ => rfl⟩, ⟨fun h => absurd h e10, fun h => ?_⟩, ⟨fun h => absurd h e10, fun h => absurd h h1⟩, ⟨fun _ => ?_, fun _ => e9⟩⟩
      · have := Int64.lt_iff_toInt_lt.mp h; rw [h3] at this; omega
      · rw [h3]; exact Int64.le_iff_toInt_le.mpr (Int.le_refl _)
    · rw [if_neg h3]
      have h4 : x.toInt < y.toInt := by
        have h5 : ¬ x.toInt = y.toInt := fun q => h3 (Int64.toInt_inj.mp q)
        omega
      refine ⟨⟨fun h => absurd h e2, fun h => absurd h h3⟩, ⟨fun _ => Int64.lt_iff_toInt_lt.mpr h4, fun _ => e4⟩, ⟨fun h => absurd h e6, fun h => absurd h h1⟩, ⟨fun _ => Int64.le_iff_toInt_le.mpr (by omega), fun _ => e8⟩⟩
theorem lc_lt (hx : p.tables.exec = Jvm.exec) (hb : c.code = cc) (d1 : decode cc pc = .ok (.lcmp, 1)) (d2 : decode cc (pc + 1) = .ok (.ifCond .lt off, 3)) (ht : ((pc + 1 : Nat) : Int) + off = (tgt : Int)) (kt : x < y → W p l e R s m args below meth c H locs cells slots Q (F0 m tgt ls rest)) (kf : ¬ x < y → W p l e R s m args below meth c H locs cells slots Q (F0 m (pc + 4) ls rest)) : W p l e R s m args below meth c H locs cells slots Q (F0 m pc ls (.long y :: .long x :: rest)) :=
  W.lcmp hx hb d1 (lv_if_lt hx hb d2 ht (fun q => kt ((lgc x y).2.1.mp q)) (fun q => kf (fun z => q ((lgc x y).2.1.mpr z))))
theorem lc_gt (hx : p.tables.exec = Jvm.exec) (hb : c.code = cc) (d1 : decode cc pc = .ok (.lcmp, 1)) (d2 : decode cc (pc + 1) = .ok (.ifCond .gt off, 3)) (ht : ((pc + 1 : Nat) : Int) + off = (tgt : Int)) (kt : y < x → W p l e R s m args below meth c H locs cells slots Q (F0 m tgt ls rest)) (kf : ¬ y < x → W p l e R s m args below meth c H locs cells slots Q (F0 m (pc + 4) ls rest)) : W p l e R s m args below meth c H locs cells slots Q (F0 m pc ls (.long y :: .long x :: rest)) :=
  W.lcmp hx hb d1 (lv_if_gt hx hb d2 ht (fun q => kt ((lgc x y).2.2.1.mp q)) (fun q => kf (fun z => q ((lgc x y).2.2.1.mpr z))))
theorem lc_le (hx : p.tables.exec = Jvm.exec) (hb : c.code = cc) (d1 : decode cc pc = .ok (.lcmp, 1)) (d2 : decode cc (pc + 1) = .ok (.ifCond .le off, 3)) (ht : ((pc + 1 : Nat) : Int) + off = (tgt : Int)) (kt : x ≤ y → W p l e R s m args below meth c H locs cells slots Q (F0 m tgt ls rest)) (kf : ¬ x ≤ y → W p l e R s m args below meth c H locs cells slots Q (F0 m (pc + 4) ls rest)) : W p l e R s m args below meth c H locs cells slots Q (F0 m pc ls (.long y :: .long x :: rest)) :=
  W.lcmp hx hb d1 (lv_if_le hx hb d2 ht (fun q => kt ((lgc x y).2.2.2.mp q)) (fun q => kf (fun z => q ((lgc x y).2.2.2.mpr z))))
theorem lc_eq (hx : p.tables.exec = Jvm.exec) (hb : c.code = cc) (d1 : decode cc pc = .ok (.lcmp, 1)) (d2 : decode cc (pc + 1) = .ok (.ifCond .eq off, 3)) (ht : ((pc + 1 : Nat) : Int) + off = (tgt : Int)) (kt : x = y → W p l e R s m args below meth c H locs cells slots Q (F0 m tgt ls rest)) (kf : ¬ x = y → W p l e R s m args below meth c H locs cells slots Q (F0 m (pc + 4) ls rest)) : W p l e R s m args below meth c H locs cells slots Q (F0 m pc ls (.long y :: .long x :: rest)) :=
  W.lcmp hx hb d1 (lv_if_eq hx hb d2 ht (fun q => kt ((lgc x y).1.mp q)) (fun q => kf (fun z => q ((lgc x y).1.mpr z))))
theorem lc_ne (hx : p.tables.exec = Jvm.exec) (hb : c.code = cc) (d1 : decode cc pc = .ok (.lcmp, 1)) (d2 : decode cc (pc + 1) = .ok (.ifCond .ne off, 3)) (ht : ((pc + 1 : Nat) : Int) + off = (tgt : Int)) (kt : ¬ x = y → W p l e R s m args below meth c H locs cells slots Q (F0 m tgt ls rest)) (kf : x = y → W p l e R s m args below meth c H locs cells slots Q (F0 m (pc + 4) ls rest)) : W p l e R s m args below meth c H locs cells slots Q (F0 m pc ls (.long y :: .long x :: rest)) :=
  W.lcmp hx hb d1 (lv_if_ne hx hb d2 ht (fun q => kt (fun z => q ((lgc x y).1.mpr z))) (fun q => kf ((lgc x y).1.mp q)))
end PU

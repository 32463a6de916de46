/-! exceptions over the worlds: what throwing methods take as given, their contracts, the three rows -/
def blD : List MethodName := [⟨"java/lang/RuntimeException", "<init>", "()V"⟩, ⟨"java/lang/RuntimeException", "<init>", "(Ljava/lang/String;)V"⟩, ⟨"java/lang/Exception", "<init>", "()V"⟩, ⟨"java/lang/Exception", "<init>", "(Ljava/lang/String;)V"⟩, ⟨"java/lang/Throwable", "<init>", "()V"⟩, ⟨"java/lang/Throwable", "<init>", "(Ljava/lang/String;)V"⟩]
def blC : List (String × String) := [("java/lang/IllegalArgumentException", "java/lang/IllegalArgumentException"), ("java/lang/IllegalStateException", "java/lang/IllegalStateException"), ("java/util/NoSuchElementException", "java/util/NoSuchElementException")]
def bl : List Cond := blD.map (fun q => .declares q) ++ blC.map (fun q => .castable q.1 q.2)
def strs : List (Nat × String) := [(51, "n is not 1 .. 8"), (62, "the tape is full"), (86, "the input is full"), (105, "not in RAM"), (116, "no such register"), (128, "no such privilege"), (138, "no such control register"), (146, "no such source"), (158, "n is not 0 .. 4096"), (164, "no such kind"), (201, "nothing to look at"), (203, "no such byte")]
theorem bl_on {w : Cond} (h : w ∈ bl) : w.onTables = true := by
  rcases List.mem_append.mp h with h | h
  · obtain ⟨q, -, rfl⟩ := List.mem_map.mp h; rfl
  · obtain ⟨q, -, rfl⟩ := List.mem_map.mp h; rfl
theorem bl_warm {s U : State} (hW : s.WarmedH U.vm) (hs : ∀ w ∈ bl, va_Nw w s) : ∀ w ∈ bl, va_Nw w U := by
  intro w h
  have h0 := hs w h
  rcases List.mem_append.mp h with h | h
  · obtain ⟨q, -, rfl⟩ := List.mem_map.mp h; exact va_Nw.warmD hW h0
  · obtain ⟨q, -, rfl⟩ := List.mem_map.mp h; exact va_Nw.warmC hW h0
def TX (U : State) : Prop := (∀ w ∈ bl, va_Nw w U) ∧ (∀ q ∈ strs, ∃ sa : Nat, vk_R RX11 q.1 q.2 sa U) ∧ va_Nc "java/lang/IllegalStateException" "java/lang/IllegalArgumentException" U ∧ va_Nc "java/util/NoSuchElementException" "java/lang/IllegalArgumentException" U
def ZX (A : Nat → Prop) (U : State) (H : Heap) : Prop := vx_Zq Bundle.tN "UNASSIGNED_STACK" Bundle.steD A U H ∧ vx_Zq Bundle.tN "SUPPRESSED_SENTINEL" Bundle.listD A U H
theorem TX.warm {s U : State} (hW : s.WarmedH U.vm) (h : TX s) : TX U := ⟨bl_warm hW h.1, fun q hq => by obtain ⟨sa, h9⟩ := h.2.1 q hq; exact ⟨sa, vk_R.warm hW h9⟩, va_Nc.moved hW.alike h.2.2.1, va_Nc.moved hW.alike h.2.2.2⟩
theorem TX.same {s U : State} (hv : U.vm = s.vm) (h : TX s) : TX U := ⟨fun w hw => va_Nw.same (bl_on hw) hv.symm (h.1 w hw), fun q hq => by obtain ⟨sa, h9⟩ := h.2.1 q hq; exact ⟨sa, vk_R.same hv h9⟩, va_Nc.moved (by rw [hv]; exact Vm.Alike.refl _) h.2.2.1, va_Nc.moved (by rw [hv]; exact Vm.Alike.refl _) h.2.2.2⟩
theorem ZX.narrow {A B : Nat → Prop} {U : State} {H : Heap} (h : ZX A U H) (hAB : ∀ q, B q → A q) : ZX B U H := ⟨h.1.narrow hAB, h.2.narrow hAB⟩
theorem ZX.moved {A : Nat → Prop} {u U : State} {H : Heap} (hvm : u.vm.Alike U.vm) (h : ZX A u H) : ZX A U H := ⟨h.1.moved hvm, h.2.moved hvm⟩
theorem ZX.kept {A : Nat → Prop} {U : State} {H H1 : Heap} (h : ZX A U H) (hq : ∀ a : Nat, a < H.size → ¬ A a → H1[a]? = H[a]?) : ZX A U H1 := ⟨h.1.kept hq, h.2.kept hq⟩
def exN (cd : Nat) : String := match cd with
  | 0 => "java/lang/IllegalArgumentException"
  | 1 => "java/lang/IllegalStateException"
  | _ => "java/util/NoSuchElementException"
abbrev rmT (fr lo : Nat) : Room := { frames := fr, cells := 1, slots := 6, locals := lo }
def XCt (Wd : (Nat → Nat) → St → va_W) (D : va_G) (u : St) (A : Nat → Prop) (cls : String) : String → State → State → Prop := fun E st t => E = cls ∧ (∃ rr', CPost Wd D rr' u A t) ∧ va_F A st t
/-- a method over a world that throws the exception of number cd; its state stays u -/
def MT (Wd : (Nat → Nat) → St → va_W) (D : va_G) (cy : ClassId × ClassId × ClassId) (l : Launch) (y : MethodName) (code : ByteArray) (maxL : Nat) (ret : Option FieldType) (fr lo : Nat) (as : List Value) (u : St) (cd : Nat) : Prop :=
  ∀ (rr : Nat → Nat) (sz : Nat), vx_Met l y (.code y code maxL ret :: gw) (rmT fr lo) (va_Pc as (fun U => CPre Wd D cy rr u sz U ∧ TX U ∧ ZX (va_A (Wd rr u) sz) U U.heap)) (fun _ _ _ _ => False) (XCt Wd D u (va_A (Wd rr u) sz) (exN cd)) 1 6 (va_A (Wd rr u) sz)
/-- functions of throwing methods: inl is the exception's number -/
def rI {α : Type} (o : Option α) : Option (Nat ⊕ α) := o.map .inr
theorem rI_of {α : Type} {o : Option α} {x : α} (h : rI o = some (.inr x)) : o = some x := by
  cases o with
  | none => cases h
  | some y => cases h; rfl
theorem rI_no {α : Type} {o : Option α} {n : Nat} (h : rI o = some (.inl n)) : False := by
  cases o with
  | none => cases h
  | some y => cases h
section TT
variable {p : Program} {l : Launch} {e : Env} {R : Room} {s : State} {m : MethodId} {args : Array Value} {below : List Frame} {meth : Method} {c : Code} {H : Heap} {locs : List Loc} {cells slots : Nat} {Q : State → Prop}
variable {Wd : (Nat → Nat) → St → va_W} {D : va_G} {cy : ClassId × ClassId × ClassId} {rr : Nat → Nat} {u u' : St} {A : Nat → Prop}
abbrev Wt (Wd : (Nat → Nat) → St → va_W) (D : va_G) (p : Program) (l : Launch) (e : Env) (fr lo : Nat) (s : State) (m : MethodId) (args : Array Value) (below : List Frame) (meth : Method) (c : Code) (A : Nat → Prop) (u : St) (cd : Nat) (H : Heap) (locs : List Loc) (pc : Nat) (ls : Array Slot) (st : List Value) : Prop :=
  W p l e (rmT fr lo) s m args below meth c H locs 0 0 (vx_MQ below (fun _ _ _ _ => False) (XCt Wd D u A (exN cd)) args s 1 6 A) (F0 m pc ls st)
theorem entT {y : MethodName} {code : ByteArray} {maxL : Nat} {ret : Option FieldType} {fr lo cd : Nat} {as : List Value} (hy : plainName y.cls = true) (hlen : (lg_sl as).length ≤ maxL)
    (body : ∀ (p : Program) (e : Env) (s : State) (m : MethodId) (args : Array Value) (below : List Frame) (meth : Method) (c : Code) (ls : Array Slot) (rr : Nat → Nat) (A : Nat → Prop), CallFix p m c code maxL s args gw y.cls → meth.sig.returnType = ret → meth.locks = false → (∀ x ∈ c.exceptionTable.toList, False) → TX s → ZX A s s.heap → lv_has ls maxL (lv_args 0 as) → WX Wd D cy rr u A s s.heap [] → Wt Wd D p l e fr lo s m args below meth c A u cd s.heap [] 0 ls []) : MT Wd D cy l y code maxL ret fr lo as u cd := by
  intro rr sz
  refine vx_ofW (cc := code) (maxL := maxL) (ret := ret) hy rfl ?_
  intro p e s m args below meth c s₁ B hml hno hv
  obtain ⟨rfl, ⟨hsz, hP, hK, hD0, hR⟩, hT, hZ⟩ := hv
  subst hsz
  have hts := atoms_spec (ws := Cond.code y code maxL ret :: gw) B.pre
  have hown : s.vm.findClass y.cls = some m.cls := findClass_of_methodNamed B.named
  have hl := lv_entry as (n := maxL) hlen
  rw [lg_entry_eq]
  exact body p e s m as.toArray below meth c _ rr _ ⟨B.exec, B.bytes, hml, hown, fun w hw => hts w (List.mem_cons_of_mem _ hw)⟩ B.returns B.notSynchronized hno hT hZ hl ⟨hP, hD0.self, va_S.rf, hK, fun q h => Or.inr h, hR⟩
variable {cc : ByteArray} {nL pc fr lo : Nat} {ls : Array Slot}
set_option maxRecDepth 100000 in
theorem tw_g0 : (((tgA RX11 53 "java/lang/IllegalArgumentException" "java/lang/RuntimeException" 7 prog_16_method_2_code ["java/lang/Exception"]).filter vx_no).filter goodWord).all (fun w => decide (w ∈ lw_tbl)) = true := by decide +kernel
set_option maxRecDepth 100000 in
theorem tw_b0 : (((tgA RX11 53 "java/lang/IllegalArgumentException" "java/lang/RuntimeException" 7 prog_16_method_2_code ["java/lang/Exception"]).filter vx_no).filter (fun w => !goodWord w)).all (fun w => decide (w ∈ bl)) = true := by decide +kernel
set_option maxRecDepth 100000 in
theorem tw_o0 : (Cond.classLink RX11 49 "java/lang/IllegalArgumentException" :: Cond.initialized "java/lang/IllegalArgumentException" :: (tgA RX11 53 "java/lang/IllegalArgumentException" "java/lang/RuntimeException" 7 prog_16_method_2_code ["java/lang/Exception"]).filter vx_no).all vx_ot = true := by decide +kernel
theorem thr_0 {is : Nat} {text : String} (E : CallFix p m c cc nL s args gw RX11) (hlk : meth.locks = false) (hl0 : l.stackTraces = false) (hno : ∀ x ∈ c.exceptionTable.toList, False) (tx : TX s) (z : ZX A s s.heap) (w : WX Wd D cy rr u A s H locs) (hst : (is, text) ∈ strs) (hsize : ls.size = nL) (hfr : 5 < fr) (hlo : 82 ≤ lo)
    (d0 : decode cc pc = .ok (.new 49, 3)) (d3 : decode cc (pc + 3) = .ok (.dup, 1)) (d4 : decode cc (pc + 4) = .ok (.ldc is, 2)) (d6 : decode cc (pc + 6) = .ok (.invokespecial 53, 3)) (d9 : decode cc (pc + 9) = .ok (.athrow, 1)) : Wt Wd D p l e fr lo s m args below meth c A u 0 H locs pc ls [] := by
  obtain ⟨sa, hstr⟩ := tx.2.1 _ hst
  have hat : ∀ w ∈ (tgA RX11 53 "java/lang/IllegalArgumentException" "java/lang/RuntimeException" 7 prog_16_method_2_code ["java/lang/Exception"]).filter vx_no, w.before args s = true := vx_hat (B := bl) (fun w hw => E.2.2.2.2 w (gw_of (of_decide_eq_true (List.all_eq_true.mp tw_g0 w hw)) (List.mem_filter.mp hw).2)) (fun w hw => of_decide_eq_true (List.all_eq_true.mp tw_b0 w hw)) (fun w hw => va_Nw.use (bl_on hw) (tx.1 w hw))
  refine tg_throw (A := A) (names := ["java/lang/Exception"]) E.1 E.2.1 hl0 (by decide +kernel) (by decide +kernel) (by decide +kernel) (by decide +kernel) E.2.2.2.1 (by decide +kernel) (by decide +kernel) (by decide +kernel) (E.2.2.2.2 _ (gw_t2 145 rfl rfl)) (E.2.2.2.2 _ (gw_t1 14 rfl rfl)) hstr hat (fun w hw => List.all_eq_true.mp tw_o0 w hw) z.1 z.2 w.2.2.1 (hsize.trans E.2.2.1.symm) d0 d3 d4 d6 d9 (fun x hx => (hno x hx).elim) hfr (by show 0 + 82 ≤ lo; omega) (Nat.le_refl _) (Nat.le_refl _) hlk (fun t hA hz hk => ⟨rfl, ⟨rr, ?_, w.2.1⟩, Nat.le_trans w.2.2.1.1 hz, fun q h1 h2 => ?_⟩) w.2.2.1.2.2 (Nat.le_refl _) (Nat.le_refl _)
  · exact w.1.kept (fun k q hq => hk q.1 (w.1 k q hq).lt)
  · rw [hk q (Nat.lt_of_lt_of_le h1 w.2.2.1.1)]; exact w.2.2.1.2.1 q h1 h2
set_option maxRecDepth 100000 in
theorem tw_g1 : (((tgA RX11 64 "java/lang/IllegalStateException" "java/lang/RuntimeException" 7 prog_17_method_2_code ["java/lang/Exception"]).filter vx_no).filter goodWord).all (fun w => decide (w ∈ lw_tbl)) = true := by decide +kernel
set_option maxRecDepth 100000 in
theorem tw_b1 : (((tgA RX11 64 "java/lang/IllegalStateException" "java/lang/RuntimeException" 7 prog_17_method_2_code ["java/lang/Exception"]).filter vx_no).filter (fun w => !goodWord w)).all (fun w => decide (w ∈ bl)) = true := by decide +kernel
set_option maxRecDepth 100000 in
theorem tw_o1 : (Cond.classLink RX11 60 "java/lang/IllegalStateException" :: Cond.initialized "java/lang/IllegalStateException" :: (tgA RX11 64 "java/lang/IllegalStateException" "java/lang/RuntimeException" 7 prog_17_method_2_code ["java/lang/Exception"]).filter vx_no).all vx_ot = true := by decide +kernel
theorem thr_1 {is : Nat} {text : String} (E : CallFix p m c cc nL s args gw RX11) (hlk : meth.locks = false) (hl0 : l.stackTraces = false) (hno : ∀ x ∈ c.exceptionTable.toList, False) (tx : TX s) (z : ZX A s s.heap) (w : WX Wd D cy rr u A s H locs) (hst : (is, text) ∈ strs) (hsize : ls.size = nL) (hfr : 5 < fr) (hlo : 82 ≤ lo)
    (d0 : decode cc pc = .ok (.new 60, 3)) (d3 : decode cc (pc + 3) = .ok (.dup, 1)) (d4 : decode cc (pc + 4) = .ok (.ldc is, 2)) (d6 : decode cc (pc + 6) = .ok (.invokespecial 64, 3)) (d9 : decode cc (pc + 9) = .ok (.athrow, 1)) : Wt Wd D p l e fr lo s m args below meth c A u 1 H locs pc ls [] := by
  obtain ⟨sa, hstr⟩ := tx.2.1 _ hst
  have hat : ∀ w ∈ (tgA RX11 64 "java/lang/IllegalStateException" "java/lang/RuntimeException" 7 prog_17_method_2_code ["java/lang/Exception"]).filter vx_no, w.before args s = true := vx_hat (B := bl) (fun w hw => E.2.2.2.2 w (gw_of (of_decide_eq_true (List.all_eq_true.mp tw_g1 w hw)) (List.mem_filter.mp hw).2)) (fun w hw => of_decide_eq_true (List.all_eq_true.mp tw_b1 w hw)) (fun w hw => va_Nw.use (bl_on hw) (tx.1 w hw))
  refine tg_throw (A := A) (names := ["java/lang/Exception"]) E.1 E.2.1 hl0 (by decide +kernel) (by decide +kernel) (by decide +kernel) (by decide +kernel) E.2.2.2.1 (by decide +kernel) (by decide +kernel) (by decide +kernel) (E.2.2.2.2 _ (gw_t2 212 rfl rfl)) (E.2.2.2.2 _ (gw_t1 15 rfl rfl)) hstr hat (fun w hw => List.all_eq_true.mp tw_o1 w hw) z.1 z.2 w.2.2.1 (hsize.trans E.2.2.1.symm) d0 d3 d4 d6 d9 (fun x hx => (hno x hx).elim) hfr (by show 0 + 82 ≤ lo; omega) (Nat.le_refl _) (Nat.le_refl _) hlk (fun t hA hz hk => ⟨rfl, ⟨rr, ?_, w.2.1⟩, Nat.le_trans w.2.2.1.1 hz, fun q h1 h2 => ?_⟩) w.2.2.1.2.2 (Nat.le_refl _) (Nat.le_refl _)
  · exact w.1.kept (fun k q hq => hk q.1 (w.1 k q hq).lt)
  · rw [hk q (Nat.lt_of_lt_of_le h1 w.2.2.1.1)]; exact w.2.2.1.2.1 q h1 h2
set_option maxRecDepth 100000 in
theorem tw_g2 : (((tgA RX11 107 "java/util/NoSuchElementException" "java/lang/RuntimeException" 13 prog_21_method_4_code ["java/lang/Exception"]).filter vx_no).filter goodWord).all (fun w => decide (w ∈ lw_tbl)) = true := by decide +kernel
set_option maxRecDepth 100000 in
theorem tw_b2 : (((tgA RX11 107 "java/util/NoSuchElementException" "java/lang/RuntimeException" 13 prog_21_method_4_code ["java/lang/Exception"]).filter vx_no).filter (fun w => !goodWord w)).all (fun w => decide (w ∈ bl)) = true := by decide +kernel
set_option maxRecDepth 100000 in
theorem tw_o2 : (Cond.classLink RX11 103 "java/util/NoSuchElementException" :: Cond.initialized "java/util/NoSuchElementException" :: (tgA RX11 107 "java/util/NoSuchElementException" "java/lang/RuntimeException" 13 prog_21_method_4_code ["java/lang/Exception"]).filter vx_no).all vx_ot = true := by decide +kernel
theorem thr_2 {is : Nat} {text : String} (E : CallFix p m c cc nL s args gw RX11) (hlk : meth.locks = false) (hl0 : l.stackTraces = false) (hno : ∀ x ∈ c.exceptionTable.toList, False) (tx : TX s) (z : ZX A s s.heap) (w : WX Wd D cy rr u A s H locs) (hst : (is, text) ∈ strs) (hsize : ls.size = nL) (hfr : 5 < fr) (hlo : 82 ≤ lo)
    (d0 : decode cc pc = .ok (.new 103, 3)) (d3 : decode cc (pc + 3) = .ok (.dup, 1)) (d4 : decode cc (pc + 4) = .ok (.ldc is, 2)) (d6 : decode cc (pc + 6) = .ok (.invokespecial 107, 3)) (d9 : decode cc (pc + 9) = .ok (.athrow, 1)) : Wt Wd D p l e fr lo s m args below meth c A u 2 H locs pc ls [] := by
  obtain ⟨sa, hstr⟩ := tx.2.1 _ hst
  have hat : ∀ w ∈ (tgA RX11 107 "java/util/NoSuchElementException" "java/lang/RuntimeException" 13 prog_21_method_4_code ["java/lang/Exception"]).filter vx_no, w.before args s = true := vx_hat (B := bl) (fun w hw => E.2.2.2.2 w (gw_of (of_decide_eq_true (List.all_eq_true.mp tw_g2 w hw)) (List.mem_filter.mp hw).2)) (fun w hw => of_decide_eq_true (List.all_eq_true.mp tw_b2 w hw)) (fun w hw => va_Nw.use (bl_on hw) (tx.1 w hw))
  refine tg_throw (A := A) (names := ["java/lang/Exception"]) E.1 E.2.1 hl0 (by decide +kernel) (by decide +kernel) (by decide +kernel) (by decide +kernel) E.2.2.2.1 (by decide +kernel) (by decide +kernel) (by decide +kernel) (E.2.2.2.2 _ (gw_t3 21 rfl rfl)) (E.2.2.2.2 _ (gw_t1 16 rfl rfl)) hstr hat (fun w hw => List.all_eq_true.mp tw_o2 w hw) z.1 z.2 w.2.2.1 (hsize.trans E.2.2.1.symm) d0 d3 d4 d6 d9 (fun x hx => (hno x hx).elim) hfr (by show 0 + 82 ≤ lo; omega) (Nat.le_refl _) (Nat.le_refl _) hlk (fun t hA hz hk => ⟨rfl, ⟨rr, ?_, w.2.1⟩, Nat.le_trans w.2.2.1.1 hz, fun q h1 h2 => ?_⟩) w.2.2.1.2.2 (Nat.le_refl _) (Nat.le_refl _)
  · exact w.1.kept (fun k q hq => hk q.1 (w.1 k q hq).lt)
  · rw [hk q (Nat.lt_of_lt_of_le h1 w.2.2.1.1)]; exact w.2.2.1.2.1 q h1 h2
end TT

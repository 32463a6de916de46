/-! constructors: contracts over explicit lists of cells (MY), their rows -/
def MY (W0 : va_W) (W1 : (Nat → Nat) → va_W) (D : va_G) (cy : ClassId × ClassId × ClassId) (l : Launch) (y : MethodName) (code : ByteArray) (maxL fr lo mc ms : Nat) (as : List Value) : Prop :=
  ∀ sz : Nat, Met l y (.code y code maxL none :: gw) { frames := fr, cells := mc, slots := ms, locals := lo } (va_Pc as (fun U => U.heap.size = sz ∧ va_P D vwCl W0 U.heap ∧ KX D cy U ∧ va_D (fun _ => True) W0)) (QC none (fun t => ∃ rr, va_P D vwCl (W1 rr) t.heap ∧ va_D (va_A W0 sz) (W1 rr)) (va_A W0 sz)) mc ms (va_A W0 sz)
def WY (ws : va_W) (D : va_G) (cy : ClassId × ClassId × ClassId) (A : Nat → Prop) (s : State) (H : Heap) (locs : List Loc) : Prop :=
  va_P D vwCl ws H ∧ va_D A ws ∧ va_S A s.heap H locs ∧ KX D cy s ∧ (∀ q, s.heap.size ≤ q → A q)
section YW
variable {p : Program} {l : Launch} {e : Env} {R : Room} {s : State} {m : MethodId} {args : Array Value} {below : List Frame} {meth : Method} {c : Code} {H : Heap} {locs : List Loc} {cells slots : Nat} {Q : State → Prop}
variable {ws W0 : va_W} {W1 : (Nat → Nat) → va_W} {D : va_G} {cy : ClassId × ClassId × ClassId} {A : Nat → Prop} {y : MethodName} {code cc : ByteArray} {maxL nL n index fr lo mc ms : Nat} {As rest st : List Value} {own : String} {b pc : Nat} {ls : Array Slot}
abbrev rmY (fr lo mc ms : Nat) : Room := { frames := fr, cells := mc, slots := ms, locals := lo }
theorem entY {as : List Value} (hy : plainName y.cls = true) (hnm : y.name = "<init>") (hlen : (lg_sl as).length ≤ maxL)
    (body : ∀ (p : Program) (e : Env) (s : State) (m : MethodId) (args : Array Value) (below : List Frame) (meth : Method) (c : Code) (ls : Array Slot) (A : Nat → Prop), CallFix p m c code maxL s args gw y.cls → meth.sig.returnType = none → meth.locks = false → meth.name = "<init>" → lv_has ls maxL (lv_args 0 as) → WY W0 D cy A s s.heap [] → W p l e (rmY fr lo mc ms) s m args below meth c s.heap [] 0 0 (MQ below (QC none (fun t => ∃ rr, va_P D vwCl (W1 rr) t.heap ∧ va_D A (W1 rr)) A) args s mc ms A) (F0 m 0 ls [])) : MY W0 W1 D cy l y code maxL fr lo mc ms as := by
  intro sz
  refine Met.ofW (cc := code) (maxL := maxL) (ret := none) hy rfl ?_
  intro p e s m args below meth c s₁ B hml hv
  obtain ⟨rfl, hsz, hP, hK, hD0⟩ := hv
  subst hsz
  have hts := atoms_spec (ws := Cond.code y code maxL none :: gw) B.pre
  have hown : s.vm.findClass y.cls = some m.cls := findClass_of_methodNamed B.named
  have hin : meth.name = "<init>" := (name_of_methodNamed B.named B.method).1.trans hnm
  have hl := lv_entry as (n := maxL) hlen
  rw [lg_entry_eq]
  exact body p e s m as.toArray below meth c _ _ ⟨B.exec, B.bytes, hml, hown, fun w hw => hts w (List.mem_cons_of_mem _ hw)⟩ B.returns B.notSynchronized hin hl ⟨hP, hD0.self, va_S.rf, hK, fun q h => Or.inr h⟩
theorem yret {rr : Nat → Nat} (E : CallFix p m c cc nL s args gw own) (hr : meth.sig.returnType = none) (hk : meth.locks = false) (w : WY ws D cy A s H locs) (hw : ws = W1 rr) (hc : cells ≤ mc) (hs : slots ≤ ms) (hdg : decode cc pc = .ok (.return_, 1)) : W p l e (rmY fr lo mc ms) s m args below meth c H locs cells slots (MQ below (QC none (fun t => ∃ rr, va_P D vwCl (W1 rr) t.heap ∧ va_D A (W1 rr)) A) args s mc ms A) (F0 m pc ls []) := by
  subst hw
  exact W.widen hc hs (W.vret E.1 E.2.1 hr (fun t ht _ => ⟨⟨rfl, rr, by rw [ht]; exact w.1, w.2.1⟩, w.2.2.1.F ht⟩) w.2.2.1.2.2 hdg hk)
theorem yobj {a : Nat} (E : CallFix p m c cc nL s args gw own) (h1 : Cond.methodLink own index Lib.objectInit ∈ gw) (h2 : Cond.instanceMethod Lib.objectInit ∈ gw) (h3 : Cond.code Lib.objectInit ⟨#[0xb1]⟩ 1 none ∈ gw) (hsize : ls.size = nL) (hR : 1 ≤ R.frames ∧ (rest.map fun v => v.category).sum + 12 ≤ R.locals) (hdg : decode cc pc = .ok (.invokespecial index, 3))
    (kk : W p l e R s m args below meth c H locs cells slots Q (F0 m (pc + 3) ls rest)) : W p l e R s m args below meth c H locs cells slots Q (F0 m pc ls (.ref a :: rest)) :=
  W.objInit E.1 E.2.1 E.2.2.2.1 (E.2.2.2.2 _ h1) (E.2.2.2.2 _ h2) (E.2.2.2.2 _ h3) rfl (hsize.trans E.2.2.1.symm) rfl hdg hR.1 (by show 2 * 0 + _ + _ ≤ _; omega) kk
theorem ynew {C : String} {T : u_T} {N ci : Nat} {fs : List Value} (E : CallFix p m c cc nL s args gw own) (w : WY ws D cy A s H locs) (hin : ∀ w ∈ u_ws C T N, w ∈ gw) (ty : Nat → FieldType) (hty : ∀ k, k < N → parseFieldDescriptor (T k).2.2.1 = some (ty k)) (h1 : Cond.classLink own index C ∈ gw) (h2 : Cond.instantiable C N ∈ gw) (h3 : Cond.initialized C ∈ gw) (hc : vwCl[ci]? = some (C, T, N)) (hfs : ∀ j, j < N → defaultValue (ty j) = vp_V fs j) (hcells : cells + 1 ≤ R.cells) (hslots : slots + N ≤ R.slots) (hdg : decode cc pc = .ok (.new index, 3))
    (kk : ∀ (q : Nat) (H : Heap), WY (ws ++ [(q, .inr (ci, fs))]) D cy A s H locs → W p l e R s m args below meth c H locs (cells + 1) (slots + N) Q (F0 m (pc + 3) ls (.ref q :: rest))) : W p l e R s m args below meth c H locs cells slots Q (F0 m pc ls rest) :=
  va_new (ci := ci) (fs := fs) (C := C) (T := T) (N := N) E.1 E.2.1 E.2.2.2.2 hin ty hty E.2.2.2.1 (E.2.2.2.2 _ h1) (E.2.2.2.2 _ h2) (E.2.2.2.2 _ h3) w.2.2.2.1.1 w.1 w.2.1 w.2.2.1 w.2.2.2.2 hc hfs hcells hslots hdg (fun q H1 hP hD hS => kk q H1 ⟨hP, hD, hS, w.2.2.2⟩)
theorem ynwa {n9 : Int32} {N : Nat} {atype : ArrayType} {ty : FieldType} {k : Nat} {cA : ClassId} {a0 : vp_A} (E : CallFix p m c cc nL s args gw own) (w : WY ws D cy A s H locs) (harr : Cond.arrayClass ty ∈ gw) (hty : newarray.typeOf atype = ty) (hk : ([(cy.1, .byte), (cy.2.1, .int), (cy.2.2, .long)] : List (ClassId × FieldType))[k]? = some (cA, ty)) (hra : ∀ (U : State) (cB : ClassId), va_RA U cB ty → U.vm.findClass ("[" ++ ty.toString) = some cB) (ha : ∀ cB : ClassId, vp_cell cB a0 = arrV cB N (fun _ => defaultValue ty)) (hn : ¬ n9 < 0) (hN : n9.toNatClampNeg = N) (hbytes : N * componentBytes ty ≤ 536870912) (hcells : cells + 1 ≤ R.cells) (hslots : slots + N ≤ R.slots) (hdg : decode cc pc = .ok (.newarray atype, 2))
    (kk : ∀ (q : Nat) (H : Heap), WY (ws ++ [(q, .inl (cA, a0))]) D cy A s H locs → W p l e R s m args below meth c H locs (cells + 1) (slots + N) Q (F0 m (pc + 2) ls (.ref q :: rest))) : W p l e R s m args below meth c H locs cells slots Q (F0 m pc ls (.int n9 :: rest)) := by
  subst hty
  obtain ⟨hP, hD, hS, hK, hA⟩ := w
  refine va_newaK (atype := atype) (N := N) E.1 E.2.1 (E.2.2.2.2 _ harr) rfl hdg rfl hn hN hbytes hcells hslots rfl (fun H' cB h1 h2 h3 h4 h5 => ?_)
  have e5 : cB = cA := Option.some.inj (h5.symm.trans (hra _ _ (hK.1.2 k _ hk).2))
  subst e5
  have hlt : ∀ (k : Nat) (q : Nat × va_E), ws[k]? = some q → q.1 < H.size := fun k q hk => (hP k q hk).lt
  have hP1 : va_P D vwCl ws H' := hP.kept (fun k q hk => h3 q.1 (hlt k q hk))
  have hnew : va_P D vwCl [(H.size, .inl (cB, a0))] H' := by
    intro k q hk
    match k, hk with
    | 0, hk => cases hk; show H'[H.size]? = some (vp_cell cB a0); rw [ha]; exact h1
    | k + 1, hk => simp at hk
  exact kk H.size H' ⟨hP1.app hnew, hD.push hP rfl (hA _ hS.1), ⟨Nat.le_trans hS.1 (by rw [h2]; exact Nat.le_succ _), fun q h7 h8 => by rw [h3 q (Nat.lt_of_lt_of_le h7 hS.1)]; exact hS.2.1 q h7 h8, hS.2.2⟩, hK, hA⟩
theorem yput {C : String} {T : u_T} {N ci k q0 a : Nat} {fs : List Value} {ty : FieldType} {v : Value} {ws' : va_W} (E : CallFix p m c cc nL s args gw own) (w : WY ws D cy A s H locs) (hin : ∀ w ∈ u_ws C T N, w ∈ gw) (ty0 : Nat → FieldType) (hty : ∀ k, k < N → parseFieldDescriptor (T k).2.2.1 = some (ty0 k)) (hnm : ∀ a, a < N → ∀ b, b < N → a ≠ b → (T a).2.1 ≠ (T b).2.1) (he : ws[q0]? = some (a, .inr (ci, fs))) (hc : vwCl[ci]? = some (C, T, N)) (hk : k < N) (hl : Cond.fieldLink own index (T k).1 (T k).2.1 (T k).2.2.1 ∈ gw) (hfin : (T k).2.2.2 = false) (hd : parseFieldDescriptor (T k).2.2.1 = some ty) (hn : narrow ty v = v) (hfit : fits ty v = true) (hlen : k < fs.length) (hws : ws.set q0 (a, .inr (ci, fs.set k v)) = ws') (hdg : decode cc pc = .ok (.putfield index, 3))
    (kk : ∀ (H : Heap) (locs : List Loc), WY ws' D cy A s H locs → W p l e R s m args below meth c H locs cells slots Q (F0 m (pc + 3) ls rest)) : W p l e R s m args below meth c H locs cells slots Q (F0 m pc ls (v :: .ref a :: rest)) := by
  subst hws
  exact va_put (D := D) (ci := ci) (v := v) (ty := ty) (C := C) (T := T) (N := N) E.1 E.2.1 E.2.2.2.2 hin ty0 hty hnm E.2.2.2.1 w.2.2.2.1.1 w.1 w.2.1 w.2.2.1 q0 he hc k hk (E.2.2.2.2 _ hl) (fun _ h9 => h9) hfin hd hn hfit hlen hdg (fun H1 locs1 hP hD hS => kk H1 locs1 ⟨hP, hD, hS, w.2.2.2⟩)
theorem yputF {C : String} {T : u_T} {N ci k q0 a : Nat} {fs : List Value} {ty : FieldType} {v : Value} {ws' : va_W} (E : CallFix p m c cc nL s args gw C) (hinm : meth.name = "<init>") (w : WY ws D cy A s H locs) (hin : ∀ w ∈ u_ws C T N, w ∈ gw) (ty0 : Nat → FieldType) (hty : ∀ k, k < N → parseFieldDescriptor (T k).2.2.1 = some (ty0 k)) (hnm : ∀ a, a < N → ∀ b, b < N → a ≠ b → (T a).2.1 ≠ (T b).2.1) (he : ws[q0]? = some (a, .inr (ci, fs))) (hc : vwCl[ci]? = some (C, T, N)) (hk : k < N) (hl : Cond.fieldLink C index (T k).1 (T k).2.1 (T k).2.2.1 ∈ gw) (hfin : (T k).2.2.2 = true) (hcl : (T k).1 = C) (hd : parseFieldDescriptor (T k).2.2.1 = some ty) (hn : narrow ty v = v) (hfit : fits ty v = true) (hlen : k < fs.length) (hws : ws.set q0 (a, .inr (ci, fs.set k v)) = ws') (hdg : decode cc pc = .ok (.putfield index, 3))
    (kk : ∀ (H : Heap) (locs : List Loc), WY ws' D cy A s H locs → W p l e R s m args below meth c H locs cells slots Q (F0 m (pc + 3) ls rest)) : W p l e R s m args below meth c H locs cells slots Q (F0 m pc ls (v :: .ref a :: rest)) := by
  subst hws
  exact va_putF (D := D) (ci := ci) (v := v) (ty := ty) (C := C) (T := T) (N := N) E.1 E.2.1 E.2.2.2.2 hin ty0 hty hnm E.2.2.2.1 w.2.2.2.1.1 w.1 w.2.1 w.2.2.1 q0 he hc k hk (E.2.2.2.2 _ hl) (fun _ h9 => h9) hfin hinm hcl hd hn hfit hlen hdg (fun H1 locs1 hP hD hS => kk H1 locs1 ⟨hP, hD, hS, w.2.2.2⟩)
theorem yget {C : String} {T : u_T} {N ci k q0 a : Nat} {fs : List Value} {v : Value} (E : CallFix p m c cc nL s args gw own) (w : WY ws D cy A s H locs) (hin : ∀ w ∈ u_ws C T N, w ∈ gw) (he : ws[q0]? = some (a, .inr (ci, fs))) (hc : vwCl[ci]? = some (C, T, N)) (hk : k < N) (hl : Cond.fieldLink own index (T k).1 (T k).2.1 (T k).2.2.1 ∈ gw) (hv : fs[k]? = some v) (hdg : decode cc pc = .ok (.getfield index, 3))
    (kk : W p l e R s m args below meth c H locs cells slots Q (F0 m (pc + 3) ls (v :: rest))) : W p l e R s m args below meth c H locs cells slots Q (F0 m pc ls (.ref a :: rest)) :=
  va_get (D := D) (ci := ci) (C := C) (T := T) (N := N) E.1 E.2.1 E.2.2.2.2 hin E.2.2.2.1 w.2.2.2.1.1 w.1 q0 he hc k hk (E.2.2.2.2 _ hl) (fun _ h9 => h9) hv hdg kk
theorem blY {as : List Value} {sz : Nat} : FrameBlind (va_Pc as (fun U => U.heap.size = sz ∧ va_P D vwCl W0 U.heap ∧ KX D cy U ∧ va_D (fun _ => True) W0)) := by
  intro a U g mk q
  obtain ⟨q0, q1, qP, qK, qD⟩ := q
  exact ⟨q0, q1, qP, ⟨va_K.moved (u := U) (U := U.calling g mk a) (Vm.Alike.refl U.vm) qK.1, fun w hw => va_Nw.same (u := U) (U := U.calling g mk a) (nl_on hw) rfl (qK.2.1 w hw), qK.2.2⟩, qD⟩
theorem ycall0 {e0 : va_E} {wr : va_W} (w : WY ws D cy A s H locs) (k : Nat) (isR : List Nat) (hC : [k].map (fun i => ws[i]?) = ([(b, e0)] : va_W).map some) (hRr : isR.map (fun i => ws[i]?) = wr.map some) (hnd : va_nd isR = true) (hdis : ∀ i ∈ isR, i ∉ [k]) {a : Array Value} {st0 : List Value}
    (hr : va_Run p l e R s m args below meth c H locs cells slots mc ms (F0 m pc ls st0) rest (QC none (fun t => ∃ rr, va_P D vwCl (W1 rr) t.heap ∧ va_D (va_A [(b, e0)] H.size) (W1 rr)) (va_A [(b, e0)] H.size) a) (va_A [(b, e0)] H.size))
    (kk : ∀ (H1 : Heap) (locs1 : List Loc) (rr : Nat → Nat), WY (wr ++ W1 rr) D cy A s H1 locs1 → W p l e R s m args below meth c H1 locs1 (cells + mc) (slots + ms) Q (F0 m (pc + 3) ls rest)) : W p l e R s m args below meth c H locs cells slots Q (F0 m pc ls st0) := by
  obtain ⟨hP, hD, hS, hK, hA⟩ := w
  have hF := va_free (wc := [(b, e0)]) hD hS hA [k] hC
  refine callQ hr hS (fun q _ h => hF q h) hF (fun t H1 locs1 ht hB hz hk1 hS1 => ?_)
  obtain ⟨rr, hP1, hD1⟩ := hB
  rw [ht] at hP1
  obtain ⟨hP2, hD2⟩ := va_join hP hD [k] isR hC hRr hnd hdis hk1 hF hP1 hD1
  exact kk H1 locs1 rr ⟨hP2, hD2, hS1, hK, hA⟩
theorem preY {e0 : va_E} (w : WY ws D cy A s H locs) (k : Nat) (hC : ws[k]? = some (b, e0)) {as : List Value} : ∀ U : State, U.heap = H → s.WarmedH U.vm → va_Pc as (fun U => U.heap.size = H.size ∧ va_P D vwCl [(b, e0)] U.heap ∧ KX D cy U ∧ va_D (fun _ => True) [(b, e0)]) as.toArray U := by
  intro U hU hW
  obtain ⟨hP, hD, hS, hK, hA⟩ := w
  refine ⟨rfl, by rw [hU], ?_, ⟨va_K.moved hW.alike hK.1, nl_warm hW hK.2.1, by rw [hW.alike.findClass]; exact hK.2.2⟩, ⟨fun i j p q hp hq _ => ?_, fun _ _ _ => trivial⟩⟩
  · rw [hU]; exact hP.sub [k] (by simp [hC])
  · match i, j, hp, hq with
    | 0, 0, _, _ => rfl
    | 0, j + 1, _, hq => simp at hq
    | i + 1, _, hp, _ => simp at hp
theorem ycallI {e0 : va_E} {wr : va_W} (E : CallFix p m c cc nL s args gw own) (hM : MY [(b, e0)] W1 D cy l y code maxL fr lo mc ms (.ref b :: As)) (h1 : Cond.methodLink own index y ∈ gw) (h2 : Cond.instanceMethod y ∈ gw) (h3 : Cond.initialized y.cls ∈ gw) (h4 : Cond.code y code maxL none ∈ gw) (hnm : y.name = "<init>") (hd : hdOK y n) (hn : As.length = n) (hsize : ls.size = nL) (hstack : st = As.reverse ++ .ref b :: rest) (hroom : (rest.map fun v => v.category).sum ≤ 8) (hR : fr + 1 ≤ R.frames ∧ 8 + (maxL + 11) + lo ≤ R.locals) (hc : cells + mc ≤ R.cells ∧ slots + ms ≤ R.slots)
    (w : WY ws D cy A s H locs) (k : Nat) (isR : List Nat) (hk : ws[k]? = some (b, e0)) (hRr : isR.map (fun i => ws[i]?) = wr.map some) (hnd : va_nd isR = true) (hdis : ∀ i ∈ isR, i ∉ [k]) (hdg : decode cc pc = .ok (.invokespecial index, 3))
    (kk : ∀ (H1 : Heap) (locs1 : List Loc) (rr : Nat → Nat), WY (wr ++ W1 rr) D cy A s H1 locs1 → W p l e R s m args below meth c H1 locs1 (cells + mc) (slots + ms) Q (F0 m (pc + 3) ls rest)) : W p l e R s m args below meth c H locs cells slots Q (F0 m pc ls st) :=
  ycall0 w k isR (by simp [hk]) hRr hnd hdis (va_runI (As := As) (rest := rest) E (hM H.size) (cwI n E.2.2.2.2 (gw_in h4) rfl rfl rfl (E.2.2.2.2 _ h3) (E.2.2.2.2 _ h1) (E.2.2.2.2 _ h2) hnm hd hR) ⟨blY, preY w k hk⟩ rfl hn hsize hstack (lv_room hroom) hdg hc) kk
theorem ycallN {e0 : va_E} {wr : va_W} {host : String} (E : CallFix p m c cc nL s args gw own) (hM : MY [(b, e0)] W1 D cy l y code maxL fr lo mc ms (.ref b :: As)) (h1 : Cond.methodLinkNest own index y host ∈ nl) (h2 : Cond.instanceMethod y ∈ gw) (h3 : Cond.initialized y.cls ∈ gw) (h4 : Cond.code y code maxL none ∈ gw) (hnm : y.name = "<init>") (hd : hdOK y n) (hn : As.length = n) (hsize : ls.size = nL) (hstack : st = As.reverse ++ .ref b :: rest) (hroom : (rest.map fun v => v.category).sum ≤ 8) (hR : fr + 1 ≤ R.frames ∧ 8 + (maxL + 11) + lo ≤ R.locals) (hc : cells + mc ≤ R.cells ∧ slots + ms ≤ R.slots)
    (w : WY ws D cy A s H locs) (k : Nat) (isR : List Nat) (hk : ws[k]? = some (b, e0)) (hRr : isR.map (fun i => ws[i]?) = wr.map some) (hnd : va_nd isR = true) (hdis : ∀ i ∈ isR, i ∉ [k]) (hdg : decode cc pc = .ok (.invokespecial index, 3))
    (kk : ∀ (H1 : Heap) (locs1 : List Loc) (rr : Nat → Nat), WY (wr ++ W1 rr) D cy A s H1 locs1 → W p l e R s m args below meth c H1 locs1 (cells + mc) (slots + ms) Q (F0 m (pc + 3) ls rest)) : W p l e R s m args below meth c H locs cells slots Q (F0 m pc ls st) :=
  ycall0 w k isR (by simp [hk]) hRr hnd hdis (va_runIN (As := As) (rest := rest) E (hM H.size) ⟨va_cnB n E.2.2.2.2 (gw_in h4) rfl rfl rfl (w.2.2.2.1.2.1 _ h1) (E.2.2.2.2 _ h3) hd hR, hnm, E.2.2.2.2 _ h2⟩ ⟨blY, preY w k hk⟩ rfl hn hsize hstack (lv_room hroom) hdg hc) kk
end YW

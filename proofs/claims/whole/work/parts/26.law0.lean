/-! the law's level: worlds laid side by side (the callee's cells ahead, the rest behind), calls of the class's and the reference's methods there, throwing calls, the helpers' contracts -/
theorem pL {D : va_G} {cl : List vw_C} {a b : va_W} {H : Heap} (h : va_P D cl (a ++ b) H) : va_P D cl a H := fun k q hk => h k q (by rw [List.getElem?_append_left (List.getElem?_eq_some_iff.mp hk).1]; exact hk)
theorem pR {D : va_G} {cl : List vw_C} {a b : va_W} {H : Heap} (h : va_P D cl (a ++ b) H) : va_P D cl b H := fun k q hk => h (a.length + k) q (by rw [List.getElem?_append_right (by omega)]; simpa using hk)
theorem dL {A : Nat → Prop} {a b : va_W} (h : va_D A (a ++ b)) : va_D A a := ⟨fun i j p q hp hq e => h.1 i j p q (by rw [List.getElem?_append_left (List.getElem?_eq_some_iff.mp hp).1]; exact hp) (by rw [List.getElem?_append_left (List.getElem?_eq_some_iff.mp hq).1]; exact hq) e, fun k q hk => h.2 k q (by rw [List.getElem?_append_left (List.getElem?_eq_some_iff.mp hk).1]; exact hk)⟩
theorem dR {A : Nat → Prop} {a b : va_W} (h : va_D A (a ++ b)) : va_D A b := ⟨fun i j p q hp hq e => by
    have := h.1 (a.length + i) (a.length + j) p q (by rw [List.getElem?_append_right (by omega)]; simpa using hp) (by rw [List.getElem?_append_right (by omega)]; simpa using hq) e
    omega, fun k q hk => h.2 (a.length + k) q (by rw [List.getElem?_append_right (by omega)]; simpa using hk)⟩
theorem dX {A : Nat → Prop} {a b : va_W} (h : va_D A (a ++ b)) {i j : Nat} {p q : Nat × va_E} (hp : a[i]? = some p) (hq : b[j]? = some q) : p.1 ≠ q.1 := by
  intro e
  have h1 := (List.getElem?_eq_some_iff.mp hp).1
  have := h.1 i (a.length + j) p q (by rw [List.getElem?_append_left h1]; exact hp) (by rw [List.getElem?_append_right (by omega)]; simpa using hq) e
  omega
theorem pC {D : va_G} {cl : List vw_C} {a b : va_W} {H : Heap} (h : va_P D cl (a ++ b) H) : va_P D cl (b ++ a) H := va_P.app (pR h) (pL h)
theorem dC {A : Nat → Prop} {a b : va_W} (h : va_D A (a ++ b)) : va_D A (b ++ a) := va_D.app (dR h) (dL h) (fun _ _ _ _ hp hq e => dX h hq hp e.symm)
/-- the callee has changed its cells a to a'; what lies beside is as it was -/
theorem joinF {D : va_G} {cl : List vw_C} {A : Nat → Prop} {a b a' : va_W} {H H1 : Heap} (hP : va_P D cl (a ++ b) H) (hD : va_D A (a ++ b)) (hk : ∀ q : Nat, q < H.size → ¬ va_A a H.size q → H1[q]? = H[q]?) (hF : ∀ q, va_A a H.size q → A q) (hP1 : va_P D cl a' H1) (hD1 : va_D (va_A a H.size) a') : va_P D cl (a' ++ b) H1 ∧ va_D A (a' ++ b) := by
  have off : ∀ (j : Nat) (q : Nat × va_E), b[j]? = some q → q.1 < H.size ∧ ¬ va_A a H.size q.1 := by
    intro j q hq
    have hl := (pR hP j q hq).lt
    refine ⟨hl, fun h => ?_⟩
    rcases h with ⟨k, e, h⟩ | h
    · exact dX hD h hq rfl
    · omega
  refine ⟨va_P.app hP1 ((pR hP).kept (fun j q hq => hk q.1 (off j q hq).1 (off j q hq).2)), va_D.app (hD1.weaken (fun _ q _ h => hF q.1 h)) (dR hD) (fun i j p q hp hq e => ?_)⟩
  exact (off j q hq).2 (by rw [← e]; exact hD1.2 i p hp)
def WZ (ws : va_W) (D : va_G) (cy : ClassId × ClassId × ClassId) (A : Nat → Prop) (s : State) (H : Heap) (locs : List Loc) : Prop :=
  va_P D vwCl ws H ∧ va_D A ws ∧ va_S A s.heap H locs ∧ KX D cy s ∧ (∀ q, s.heap.size ≤ q → A q) ∧ RK A s s.heap ∧ TX s ∧ ZX A s s.heap
theorem WZ.comm {a b : va_W} {D : va_G} {cy : ClassId × ClassId × ClassId} {A : Nat → Prop} {s : State} {H : Heap} {locs : List Loc} (w : WZ (a ++ b) D cy A s H locs) : WZ (b ++ a) D cy A s H locs := ⟨pC w.1, dC w.2.1, w.2.2⟩
theorem WZ.rot {a b c : va_W} {D : va_G} {cy : ClassId × ClassId × ClassId} {A : Nat → Prop} {s : State} {H : Heap} {locs : List Loc} (w : WZ ((a ++ b) ++ c) D cy A s H locs) : WZ ((b ++ c) ++ a) D cy A s H locs := by
  rw [List.append_assoc] at w
  exact w.comm
theorem WZ.free {a b : va_W} {D : va_G} {cy : ClassId × ClassId × ClassId} {A : Nat → Prop} {s : State} {H : Heap} {locs : List Loc} (w : WZ (a ++ b) D cy A s H locs) : ∀ q, va_A a H.size q → A q := fun q h => h.elim (fun ⟨k, e, hk⟩ => (dL w.2.1).2 k (q, e) hk) (fun h => w.2.2.2.2.1 q (Nat.le_trans w.2.2.1.1 h))
section ZW
variable {p : Program} {l : Launch} {e : Env} {R : Room} {s : State} {m : MethodId} {args : Array Value} {below : List Frame} {meth : Method} {c : Code} {H : Heap} {locs : List Loc} {cells slots : Nat} {Q : State → Prop}
variable {Wd : (Nat → Nat) → St → va_W} {F : va_W} {D : va_G} {cy : ClassId × ClassId × ClassId} {rr : Nat → Nat} {u u' : St} {A : Nat → Prop}
variable {y : MethodName} {code cc : ByteArray} {maxL nL n index fr lo k : Nat} {ret : Option FieldType} {As rest st : List Value} {own C : String} {b pc : Nat} {ls : Array Slot}
theorem WZ.x (w : WZ (Wd rr u ++ F) D cy A s H locs) : WX Wd D cy rr u A s H locs := ⟨pL w.1, dL w.2.1, w.2.2.1, w.2.2.2.1, w.2.2.2.2.1, w.2.2.2.2.2.1⟩
theorem zcallR {pc : Nat} {ls : Array Slot} {rest st0 : List Value} {a : Array Value} {mc ms : Nat} {rv : Option Value} {W0 : va_W} {W1 : (Nat → Nat) → va_W} (w : WZ (W0 ++ F) D cy A s H locs) (hr : va_Run p l e R s m args below meth c H locs cells slots mc ms (F0 m pc ls st0) rest (QC rv (fun t => ∃ rr', va_P D vwCl (W1 rr') t.heap ∧ va_D (va_A W0 H.size) (W1 rr')) (va_A W0 H.size) a) (va_A W0 H.size))
    (kk : ∀ (H : Heap) (locs : List Loc) (rr : Nat → Nat), WZ (W1 rr ++ F) D cy A s H locs → W p l e R s m args below meth c H locs (cells + mc) (slots + ms) Q (F0 m (pc + 3) ls (rv.toList ++ rest))) : W p l e R s m args below meth c H locs cells slots Q (F0 m pc ls st0) := by
  have hF := w.free
  obtain ⟨hP, hD, hS, hK, hA, hR⟩ := w
  refine callQ hr hS (fun q _ h => hF q h) hF (fun t H1 locs1 ht hB hz hk1 hS1 => ?_)
  obtain ⟨rr1, hP1, hD1⟩ := hB
  rw [ht] at hP1
  obtain ⟨hP2, hD2⟩ := joinF hP hD hk1 hF hP1 hD1
  exact kk H1 locs1 rr1 ⟨hP2, hD2, hS1, hK, hA, hR⟩
theorem zV {rv : Option Value} (E : CallFix p m c cc nL s args gw own) (hM : MX Wd D cy l y code maxL ret fr lo k (.ref b :: As) u u' rv) (h1 : Cond.methodLink own index y ∈ gw) (h2 : Cond.instanceMethod y ∈ gw) (h3 : Cond.selects C y y ∈ gw) (h5 : Cond.initialized C ∈ gw) (h4 : Cond.code y code maxL ret ∈ gw) (hC : y.cls = C) (hd : hdOK y n) (hn : As.length = n) (hsize : ls.size = nL) (hstack : st = As.reverse ++ .ref b :: rest) (hroom : (rest.map fun v => v.category).sum ≤ 8) (hR : fr + 1 ≤ R.frames ∧ 8 + (maxL + 11) + lo ≤ R.locals) (hc : cells + k ≤ R.cells ∧ slots + k ≤ R.slots)
    (w : WZ (Wd rr u ++ F) D cy A s H locs) (hrec : ∃ cell : Cell, H[b]? = some cell ∧ cell.vm.isStatics = false ∧ s.vm.findClass C = some cell.cls) (hdg : decode cc pc = .ok (.invokevirtual index, 3))
    (kk : ∀ (H : Heap) (locs : List Loc) (rr : Nat → Nat), WZ (Wd rr u' ++ F) D cy A s H locs → W p l e R s m args below meth c H locs (cells + k) (slots + k) Q (F0 m (pc + 3) ls (rv.toList ++ rest))) : W p l e R s m args below meth c H locs cells slots Q (F0 m pc ls st) :=
  zcallR (W1 := fun rr => Wd rr u') w (va_runV (As := As) (rest := rest) E (hM rr H.size) (cwV n E.2.2.2.2 (gV h1 h2 h3 h5 h4) rfl rfl rfl ⟨hC, hd⟩ hR) ⟨blX, hrec, preX w.x⟩ rfl hn hsize hstack (lv_room hroom) hdg hc) kk
theorem zV1 {rv : Value} (E : CallFix p m c cc nL s args gw own) (hM : MX Wd D cy l y code maxL ret fr lo k (.ref b :: As) u u' (some rv)) (h1 : Cond.methodLink own index y ∈ gw) (h2 : Cond.instanceMethod y ∈ gw) (h3 : Cond.selects C y y ∈ gw) (h5 : Cond.initialized C ∈ gw) (h4 : Cond.code y code maxL ret ∈ gw) (hC : y.cls = C) (hd : hdOK y n) (hn : As.length = n) (hsize : ls.size = nL) (hstack : st = As.reverse ++ .ref b :: rest) (hroom : (rest.map fun v => v.category).sum ≤ 8) (hR : fr + 1 ≤ R.frames ∧ 8 + (maxL + 11) + lo ≤ R.locals) (hc : cells + k ≤ R.cells ∧ slots + k ≤ R.slots)
    (w : WZ (Wd rr u ++ F) D cy A s H locs) (hrec : ∃ cell : Cell, H[b]? = some cell ∧ cell.vm.isStatics = false ∧ s.vm.findClass C = some cell.cls) (hdg : decode cc pc = .ok (.invokevirtual index, 3))
    (kk : ∀ (H : Heap) (locs : List Loc) (rr : Nat → Nat), WZ (Wd rr u' ++ F) D cy A s H locs → W p l e R s m args below meth c H locs (cells + k) (slots + k) Q (F0 m (pc + 3) ls (rv :: rest))) : W p l e R s m args below meth c H locs cells slots Q (F0 m pc ls st) :=
  zV E hM h1 h2 h3 h5 h4 hC hd hn hsize hstack hroom hR hc w hrec hdg kk
theorem zV0 (E : CallFix p m c cc nL s args gw own) (hM : MX Wd D cy l y code maxL ret fr lo k (.ref b :: As) u u' none) (h1 : Cond.methodLink own index y ∈ gw) (h2 : Cond.instanceMethod y ∈ gw) (h3 : Cond.selects C y y ∈ gw) (h5 : Cond.initialized C ∈ gw) (h4 : Cond.code y code maxL ret ∈ gw) (hC : y.cls = C) (hd : hdOK y n) (hn : As.length = n) (hsize : ls.size = nL) (hstack : st = As.reverse ++ .ref b :: rest) (hroom : (rest.map fun v => v.category).sum ≤ 8) (hR : fr + 1 ≤ R.frames ∧ 8 + (maxL + 11) + lo ≤ R.locals) (hc : cells + k ≤ R.cells ∧ slots + k ≤ R.slots)
    (w : WZ (Wd rr u ++ F) D cy A s H locs) (hrec : ∃ cell : Cell, H[b]? = some cell ∧ cell.vm.isStatics = false ∧ s.vm.findClass C = some cell.cls) (hdg : decode cc pc = .ok (.invokevirtual index, 3))
    (kk : ∀ (H : Heap) (locs : List Loc) (rr : Nat → Nat), WZ (Wd rr u' ++ F) D cy A s H locs → W p l e R s m args below meth c H locs (cells + k) (slots + k) Q (F0 m (pc + 3) ls rest)) : W p l e R s m args below meth c H locs cells slots Q (F0 m pc ls st) :=
  zV E hM h1 h2 h3 h5 h4 hC hd hn hsize hstack hroom hR hc w hrec hdg kk
theorem blT {as : List Value} {sz : Nat} : FrameBlind (va_Pc as (fun U => CPre Wd D cy rr u sz U ∧ TX U ∧ ZX (va_A (Wd rr u) sz) U U.heap)) := by
  intro a U g mk q
  obtain ⟨q0, q1, q2, q3⟩ := q
  exact ⟨q0, (blX (Wd := Wd) (as := as) a U g mk ⟨q0, q1⟩).2, TX.same (s := U) (U := U.calling g mk a) rfl q2, ZX.moved (u := U) (U := U.calling g mk a) (Vm.Alike.refl U.vm) q3⟩
/-- a call of a method that throws -/
theorem zT {cd : Nat} (E : CallFix p m c cc nL s args gw own) (hM : MT Wd D cy l y code maxL ret fr lo (.ref b :: As) u cd) (h1 : Cond.methodLink own index y ∈ gw) (h2 : Cond.instanceMethod y ∈ gw) (h3 : Cond.selects C y y ∈ gw) (h5 : Cond.initialized C ∈ gw) (h4 : Cond.code y code maxL ret ∈ gw) (hC : y.cls = C) (hd : hdOK y n) (hn : As.length = n) (hsize : ls.size = nL) (hstack : st = As.reverse ++ .ref b :: rest) (hroom : (rest.map fun v => v.category).sum ≤ 8) (hR : fr + 1 ≤ R.frames ∧ 8 + (maxL + 11) + lo ≤ R.locals) (hc : cells + 1 ≤ R.cells ∧ slots + 6 ≤ R.slots)
    (w : WZ (Wd rr u ++ F) D cy A s H locs) (hrec : ∃ cell : Cell, H[b]? = some cell ∧ cell.vm.isStatics = false ∧ s.vm.findClass C = some cell.cls) (hdg : decode cc pc = .ok (.invokevirtual index, 3))
    (kx : ∀ (H : Heap) (locs : List Loc) (rr : Nat → Nat) (q9 : Addr) (ce : Cell), WZ (Wd rr u ++ F) D cy A s H locs → H[q9]? = some ce → ce.vm = .none → s.vm.findClass (exN cd) = some ce.cls → vx_W p l e R s m args below meth c H locs (cells + 1) (slots + 6) Q (F0 m pc ls rest) q9) : W p l e R s m args below meth c H locs cells slots Q (F0 m pc ls st) := by
  have hF := w.free
  have hpre : ∀ U : State, U.heap = H → s.WarmedH U.vm → va_Pc (.ref b :: As) (fun U => CPre Wd D cy rr u H.size U ∧ TX U ∧ ZX (va_A (Wd rr u) H.size) U U.heap) (Value.ref b :: As).toArray U := fun U hU hW => ⟨rfl, (preX w.x (as := .ref b :: As) U hU hW).2, w.2.2.2.2.2.2.1.warm hW, by rw [hU]; exact ((w.2.2.2.2.2.2.2.kept w.2.2.1.2.1).moved hW.alike).narrow hF⟩
  have hr := vx_runV (g := F0 m pc ls st) (H := H) (locs := locs) (cells := cells) (slots := slots) (below := below) (meth := meth) (As := As) (rest := rest) (e := e) E (hM rr H.size) (cwV n E.2.2.2.2 (gV h1 h2 h3 h5 h4) rfl rfl rfl ⟨hC, hd⟩ hR) ⟨blT, hrec, hpre⟩ rfl hn hsize hstack (lv_room hroom) hdg hc
  obtain ⟨hP, hD, hS, hK, hA, hRR⟩ := w
  intro T hT X
  rcases hr T hT X with ⟨v, st₀, t, T', L, h0, X', hL, e1, e2, hq, st9⟩ | ⟨q, st₀, t, T', L, E9, ce, h0, X', hL, e1, e2, ⟨hE, ⟨rr1, hP1, hD1⟩, hF9⟩, hce, hcv, hcl, st9⟩
  · exact hq.elim
  · subst hE
    obtain ⟨k1, k2, k3⟩ := vx_keep h0 e1 hS (fun q _ h => hF q h) hF hL hF9
    rw [← e1] at hP1 hce
    obtain ⟨hP2, hD2⟩ := joinF hP hD k2 hF hP1 hD1
    obtain ⟨t2, a1, b1⟩ := kx T'.heap (locs ++ L) rr1 q ce ⟨hP2, hD2, k3, hK, hA, hRR⟩ hce hcv hcl T' rfl X'
    exact ⟨t2, st9.trans a1, b1⟩
end ZW
/-- a helper of the law: a static method with handlers, over the class's cells and G beside them -/
def MH (l : Launch) (y : MethodName) (code : ByteArray) (maxL : Nat) (hh : List (Nat × Nat × Nat × Nat)) (fr lo mc ms : Nat) (D : va_G) (cy : ClassId × ClassId × ClassId) (ad : Nat → Nat) (G G' : va_W) (as : List Value) (u u' : St) (r : Int32) : Prop :=
  ∀ (rr : Nat → Nat) (sz : Nat), Met l y (.codeWith y code maxL (some .int) hh :: gw) { frames := fr, cells := mc, slots := ms, locals := lo } (va_Pc as (fun U => U.heap.size = sz ∧ va_P D vwCl (wC cy ad rr u ++ G) U.heap ∧ KX D cy U ∧ va_D (fun _ => True) (wC cy ad rr u ++ G) ∧ RK (va_A (wC cy ad rr u ++ G) sz) U U.heap ∧ TX U ∧ ZX (va_A (wC cy ad rr u ++ G) sz) U U.heap)) (QC (some (.int r)) (fun t => ∃ rr', va_P D vwCl (wC cy ad rr' u' ++ G') t.heap ∧ va_D (va_A (wC cy ad rr u ++ G) sz) (wC cy ad rr' u' ++ G')) (va_A (wC cy ad rr u ++ G) sz)) mc ms (va_A (wC cy ad rr u ++ G) sz)
section HW
variable {p : Program} {l : Launch} {e : Env} {R : Room} {s : State} {m : MethodId} {args : Array Value} {below : List Frame} {meth : Method} {c : Code} {H : Heap} {locs : List Loc} {cells slots : Nat} {Q : State → Prop}
variable {F G G' : va_W} {D : va_G} {cy : ClassId × ClassId × ClassId} {ad rr : Nat → Nat} {u u' : St} {A : Nat → Prop}
variable {y : MethodName} {code cc : ByteArray} {maxL nL n index fr lo mc ms : Nat} {hh : List (Nat × Nat × Nat × Nat)} {As rest st : List Value} {own : String} {b pc : Nat} {ls : Array Slot}
theorem entH {as : List Value} {r : Int32} (hy : plainName y.cls = true) (hlen : (lg_sl as).length ≤ maxL)
    (body : ∀ (p : Program) (e : Env) (s : State) (m : MethodId) (args : Array Value) (below : List Frame) (meth : Method) (c : Code) (ls : Array Slot) (rr : Nat → Nat) (A : Nat → Prop), CallFix p m c code maxL s args gw y.cls → meth.sig.returnType = some .int → meth.locks = false → c.exceptionTable.toList = tableOf hh → lv_has ls maxL (lv_args 0 as) → WZ (wC cy ad rr u ++ G) D cy A s s.heap [] → W p l e (rmY fr lo mc ms) s m args below meth c s.heap [] 0 0 (MQ below (QC (some (.int r)) (fun t => ∃ rr', va_P D vwCl (wC cy ad rr' u' ++ G') t.heap ∧ va_D A (wC cy ad rr' u' ++ G')) A) args s mc ms A) (F0 m 0 ls [])) : MH l y code maxL hh fr lo mc ms D cy ad G G' as u u' r := by
  intro rr sz
  refine va_MetW (cc := code) (maxL := maxL) (ret := some .int) (hh := hh) hy rfl ?_
  intro p e s m args below meth c s₁ B hml hv
  obtain ⟨rfl, hsz, hP, hK, hD0, hR, hT, hZ⟩ := hv
  subst hsz
  have hts := atoms_spec (ws := Cond.codeWith y code maxL (some .int) hh :: gw) B.pre
  have hown : s.vm.findClass y.cls = some m.cls := findClass_of_methodNamed B.named
  have hl := lv_entry as (n := maxL) hlen
  rw [lg_entry_eq]
  exact body p e s m as.toArray below meth c _ rr _ ⟨B.exec, B.bytes, hml, hown, fun w hw => hts w (List.mem_cons_of_mem _ hw)⟩ B.returns B.notSynchronized (vx_table (x := y) B (hts _ List.mem_cons_self)) hl ⟨hP, hD0.self, va_S.rf, hK, fun q h => Or.inr h, hR, hT, hZ⟩
theorem hret {x r : Int32} (E : CallFix p m c cc nL s args gw own) (hr : meth.sig.returnType = some .int) (hk : meth.locks = false) (w : WZ (wC cy ad rr u' ++ G') D cy A s H locs) (hc : cells ≤ mc) (hs : slots ≤ ms) (h : x = r) (hdg : decode cc pc = .ok (.ireturn, 1)) : W p l e (rmY fr lo mc ms) s m args below meth c H locs cells slots (MQ below (QC (some (.int r)) (fun t => ∃ rr', va_P D vwCl (wC cy ad rr' u' ++ G') t.heap ∧ va_D A (wC cy ad rr' u' ++ G')) A) args s mc ms A) (F0 m pc ls [.int x]) := by
  subst h
  exact W.widen hc hs (W.iret E.1 E.2.1 hr (fun t ht _ => ⟨⟨rfl, rr, by rw [ht]; exact w.1, w.2.1⟩, w.2.2.1.F ht⟩) w.2.2.1.2.2 hdg hk)
theorem blH {W0 : va_W} {as : List Value} {sz : Nat} : FrameBlind (va_Pc as (fun U => U.heap.size = sz ∧ va_P D vwCl W0 U.heap ∧ KX D cy U ∧ va_D (fun _ => True) W0 ∧ RK (va_A W0 sz) U U.heap ∧ TX U ∧ ZX (va_A W0 sz) U U.heap)) := by
  intro a U g mk q
  obtain ⟨q0, q1, qP, qK, qD, qR, qT, qZ⟩ := q
  exact ⟨q0, q1, qP, ⟨va_K.moved (u := U) (U := U.calling g mk a) (Vm.Alike.refl U.vm) qK.1, fun w hw => va_Nw.same (u := U) (U := U.calling g mk a) (nl_on hw) rfl (qK.2.1 w hw), qK.2.2⟩, qD, RK.moved (u := U) (U := U.calling g mk a) (Vm.Alike.refl U.vm) qR, TX.same (s := U) (U := U.calling g mk a) rfl qT, ZX.moved (u := U) (U := U.calling g mk a) (Vm.Alike.refl U.vm) qZ⟩
theorem preH {W0 : va_W} (w : WZ (W0 ++ F) D cy A s H locs) {as : List Value} : ∀ U : State, U.heap = H → s.WarmedH U.vm → va_Pc as (fun U => U.heap.size = H.size ∧ va_P D vwCl W0 U.heap ∧ KX D cy U ∧ va_D (fun _ => True) W0 ∧ RK (va_A W0 H.size) U U.heap ∧ TX U ∧ ZX (va_A W0 H.size) U U.heap) as.toArray U := by
  intro U hU hW
  have hF := w.free
  obtain ⟨hP, hD, hS, hK, hA, hR, hT, hZ⟩ := w
  refine ⟨rfl, by rw [hU], by rw [hU]; exact pL hP, ⟨va_K.moved hW.alike hK.1, nl_warm hW hK.2.1, by rw [hW.alike.findClass]; exact hK.2.2⟩, (dL hD).weaken (fun _ _ _ _ => trivial), ?_, hT.warm hW, ?_⟩
  · rw [hU]; exact ((hR.kept hS.2.1).moved hW.alike).narrow hF
  · rw [hU]; exact ((hZ.kept hS.2.1).moved hW.alike).narrow hF
/-- a call of a helper -/
theorem zH {r : Int32} (E : CallFix p m c cc nL s args gw own) (hM : MH l y code maxL hh fr lo mc ms D cy ad G G' As u u' r) (h1 : Cond.methodLink own index y ∈ gw) (h2 : Cond.static y ∈ gw) (h3 : Cond.initialized y.cls ∈ gw) (h4 : Cond.codeWith y code maxL (some .int) hh ∈ gw) (hd : hdOK y n) (hn : As.length = n) (hsize : ls.size = nL) (hstack : st = As.reverse ++ rest) (hroom : (rest.map fun v => v.category).sum ≤ 8) (hR : fr + 1 ≤ R.frames ∧ 8 + (maxL + 11) + lo ≤ R.locals) (hc : cells + mc ≤ R.cells ∧ slots + ms ≤ R.slots)
    (w : WZ ((wC cy ad rr u ++ G) ++ F) D cy A s H locs) (hdg : decode cc pc = .ok (.invokestatic index, 3))
    (kk : ∀ (H : Heap) (locs : List Loc) (rr : Nat → Nat), WZ ((wC cy ad rr u' ++ G') ++ F) D cy A s H locs → W p l e R s m args below meth c H locs (cells + mc) (slots + ms) Q (F0 m (pc + 3) ls (.int r :: rest))) : W p l e R s m args below meth c H locs cells slots Q (F0 m pc ls st) := by
  have hG : GoodIn gw (va_wsS own index y (.codeWith y code maxL (some .int) hh :: gw)) := by
    refine gw_app (fun w hw => ?_) (gw_in h4)
    simp only [List.mem_cons, List.not_mem_nil, or_false] at hw
    rcases hw with rfl | rfl | rfl
    · exact h1
    · exact h2
    · exact h3
  exact zcallR (W1 := fun rr => wC cy ad rr u' ++ G') w (vx_runSW (As := As) (rest := rest) E (hM rr H.size) (vx_cwSW n E.2.2.2.2 hG rfl rfl rfl hd hR) ⟨blH, preH w⟩ rfl hn hsize hstack (lv_room hroom) hdg hc) kk
/-- out[0] = v, the array beside the class's cells -/
theorem zst {ob : Nat} {f : Nat → Int64} {v : Int64} (E : CallFix p m c cc nL s args gw own) (w : WZ (wC cy ad rr u ++ [(ob, .inl (cy.2.2, 1, .inr (.inl f)))]) D cy A s H locs) (hdg : decode cc pc = .ok (.lastore, 1))
    (kk : ∀ (H : Heap) (locs : List Loc), WZ (wC cy ad rr u ++ [(ob, .inl (cy.2.2, 1, .inr (.inl (vp_updL f 0 v))))]) D cy A s H locs → W p l e R s m args below meth c H locs cells slots Q (F0 m (pc + 1) ls rest)) : W p l e R s m args below meth c H locs cells slots Q (F0 m pc ls (.long v :: .int 0 :: .ref ob :: rest)) :=
  va_last E.1 E.2.1 w.2.2.2.1.1 w.1 w.2.1 w.2.2.1 20 2 rfl rfl (show inB 0 1 by decide) hdg (fun H1 locs1 hP hD hS => kk H1 locs1 ⟨hP, hD, hS, w.2.2.2⟩)
end HW

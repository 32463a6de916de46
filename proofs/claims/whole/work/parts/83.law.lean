def uC0 (p9 : Int32) : St := (fun k => if k = 0 then 65536 else if k = 5 then p9 * 4096 else if k = 10 then 65536 else if k = 13 then 4096 else if k = 16 then 3 else if k = 18 then -1 else if k = 21 then -1 else 0, fun k => if k = 1 then -1 else if k = 24 then 2147483648 else 0, fun _ _ => 0, fun _ _ => 0, fun k => if k = 0 then 64 else if k = 1 then (p9 * 512).toNatClampNeg else if k = 2 then 8 else if k = 3 then 2 else if k = 4 then 2 else if k = 5 then 64 else if k = 6 then 64 else if k = 7 then 32 else 0)
def uM0 (p9 : Int32) : St := (fun k => if k = 1 then p9 else if k = 2 then 3 else if k = 15 then -1 else if k = 16 then -1 else 0, fun k => if k = 0 then 2147483648 else if k = 2 then -1 else 0, fun _ _ => 0, fun _ _ => 0, fun k => if k = 0 then 262144 else if k = 1 then 32 else if k = 2 then 8 else if k = 3 then 2 else if k = 4 then 2 else if k = 5 then 65536 else if k = 6 then 65536 else if k = 7 then 4096 else 0)
def adC (h0 : Nat) (r : Nat → Nat) : Nat → Nat := fun k => [h0, r 0, 0, r 4, r 2, r 3, r 5, r 6, r 7, r 8, r 9, r 10, 0, r 12, 0, r 14, r 15, r 16, r 17, r 18].getD k 0
def rrC (r : Nat → Nat) : Nat → Nat := fun k => if k = 2 then r 1 else if k = 12 then r 11 else if k = 14 then r 13 else 0
def amM (h0 : Nat) (r : Nat → Nat) : Nat → Nat := fun k => [h0, r 0, r 1, r 2, r 3, r 4, r 5, r 6, r 7].getD k 0
theorem pg_n (x : Int32) : ∃ P, 16 ≤ P ∧ P ≤ 64 ∧ pg x = nI P ∧ pgM x = nI P := by
  unfold pg pgM
  by_cases c1 : x < 16
  · exact ⟨16, by omega, by omega, by rw [if_pos c1]; rfl, by rw [if_pos c1]; rfl⟩
  · rw [if_neg c1, if_neg c1]
    by_cases c2 : 64 < x
    · exact ⟨16, by omega, by omega, by rw [if_pos c2]; rfl, by rw [if_neg (Int32.not_le.mpr c2)]; rfl⟩
    · rw [if_neg c2, if_pos (Int32.not_lt.mp c2)]
      rcases pk_ix x (n := 65) (by omega) with h0 | h0 | ⟨j, hj, rfl⟩
      · exact absurd (Int32.lt_trans h0 (by decide)) c1
      · exact absurd (Int32.lt_of_lt_of_le (by decide) h0) c2
      · refine ⟨j, ?_, by omega, rfl, rfl⟩
        rcases Nat.lt_or_ge j 16 with q | q
        · exact absurd (nI_lt (b := 16) q (by omega)) c1
        · exact q
theorem rel_init (x : Int32) : Rel (uC0 (pg x)) (uM0 (pgM x)) := by
  obtain ⟨P, h1, h2, e1, e2⟩ := pg_n x
  rw [e1, e2]
  have rg : ∀ lim, 64 ≤ lim → lim ≤ 65536 → ∀ (row bs : Nat → Int32), Ring lim 0 0 row 64 bs := fun lim a b row bs => ⟨6, 0, 0, by omega, by decide, a, b, rfl, rfl, by omega, by omega, fun k hk => absurd hk (Nat.not_lt_zero _)⟩
  refine ⟨P, ?_, ?_, ?_, ⟨rfl, rfl, rfl, rfl⟩, ⟨h1, h2, ?_, ?_, rfl, rfl, rfl, rfl, rfl, rfl, rfl, rfl, rfl, rfl, rfl, rfl, rfl⟩, ?_, ⟨rfl, rg 65536 (by omega) (by omega) _ _⟩, ⟨rfl, 0, by omega, rfl, rg 65536 (by omega) (by omega) _ _⟩, ⟨rfl, rg 4096 (by omega) (by omega) _ _⟩, ?_, ?_⟩
  · exact ⟨rfl, rfl, rfl, rfl, rfl, rfl, rfl, rfl, rfl, rfl, rfl, rfl⟩
  · exact ⟨rfl, rfl, rfl, rfl, rfl, rfl, rfl, rfl, rfl, rfl, rfl, rfl, rfl, rfl, rfl, rfl, rfl, rfl, rfl, rfl, rfl, rfl, rfl⟩
  · exact ⟨rfl, Or.inl rfl, Or.inl rfl, fun _ => rfl, fun q => absurd rfl q⟩
  · show (nI P * 512).toNatClampNeg = 512 * P
    rw [show (512 : Int32) = nI 512 from rfl, pk_mul, nI_clamp (by omega), Nat.mul_comm]
  · show nI P * 4096 = nI (4096 * P)
    rw [show (4096 : Int32) = nI 4096 from rfl, pk_mul, Nat.mul_comm]
  · intro i _ j hj
    show qb 0 _ = qt 0 _
    rw [qb_lit, qt_lit]
    simp
  · exact ⟨(by decide : (2147483648 : Int64) &&& 1 = 0), (by decide : (0 : Int64) &&& 1 = 0), (by decide : (0 : Int64) &&& 1 = 0), (by decide : (0 : Int64) &&& 8264106 = 0), (by decide : (0 : Int64) &&& 6144 ≠ 4096), (by decide : (0 : Int64) &&& 2730 = 0), (by decide : (0 : Int64) &&& 546 = 0), Or.inr (Or.inr rfl)⟩
  · exact ⟨(by decide : (0 : Int32) &&& 255 = 0), (by decide : (0 : Int32) &&& 255 = 0), (by decide : (0 : Int32) &&& 255 = 0), fun _ => (by decide : (0 : Int32) &&& 255 = 0), fun _ => (by decide : (0 : Int32) &&& 7 = 0), fun _ => (by decide : (0 : Int32) &&& 7 = 0)⟩
section CW
variable {p : Program} {l : Launch} {e : Env} {R : Room} {s : State} {m : MethodId} {args : Array Value} {below : List Frame} {meth : Method} {c : Code} {H : Heap} {locs : List Loc} {cells slots : Nat} {Q : State → Prop}
variable {b L pc : Nat} {xs : Nat → Int32} {ls : Array Slot} {rest : List Value}
theorem callC (E : CallFix p m c code 8 s args gw RL) (hL : L ≤ 3073) (hX : va_X b L xs s s.heap) (hbl : b < s.heap.size) (hS : va_S (fun q : Nat => s.heap.size ≤ q) s.heap H locs) (hsize : ls.size = 8) (hroom : (rest.map fun v => v.category).sum ≤ 8) (hR : 1 ≤ R.frames ∧ 21 ≤ R.locals) (hc : cells ≤ R.cells ∧ slots ≤ R.slots) (hdg : decode code pc = .ok (.invokestatic 67, 3))
    (kk : W p l e R s m args below meth c H locs cells slots Q (F0 m (pc + 3) ls (.int (scr0 L xs) :: rest))) : W p l e R s m args below meth c H locs cells slots Q (F0 m pc ls (.int 0 :: .ref b :: rest)) := by
  have hH : H[b]? = s.heap[b]? := hS.2.1 b hbl (Nat.not_le.mpr hbl)
  have hb2 : b < H.size := Nat.lt_of_lt_of_le hbl hS.1
  exact W.callV (r := .int (scr0 L xs)) (W.runS (As := [.ref b, .int 0]) (rest := rest) E (c_cell l b L xs hL) (va_cwS 2 E.2.2.2.2 (gS w_373 w_374 w_0 w_375) rfl rfl rfl hd_L_cell hR) ⟨fun a U g mk q => ⟨q.1, va_X.moved (u := U) (U := U.calling g mk a) (Vm.Alike.refl U.vm) q.2.1, q.2.2⟩, fun U hU hW => ⟨rfl, by rw [hU]; exact va_X.moved hW.alike (hX.kept hH), by rw [hU]; exact hb2⟩⟩ rfl rfl hsize rfl (lv_room hroom) hdg hc) kk
end CW
set_option maxRecDepth 100000 in
theorem fs12 : ∀ j, j < 53 → defaultValue (tyX12 j) = vp_V [.int (0 : Int32), .int (0 : Int32), .null, .null, .long (0 : Int64), .int (0 : Int32), .long (0 : Int64), .int (0 : Int32), .int (0 : Int32), .long (0 : Int64), .long (0 : Int64), .null, .int (0 : Int32), .int (0 : Int32), .null, .null, .int (0 : Int32), .null, .int (0 : Int32), .null, .int (0 : Int32), .int (0 : Int32), .null, .int (0 : Int32), .int (0 : Int32), .long (0 : Int64), .long (0 : Int64), .long (0 : Int64), .long (0 : Int64), .long (0 : Int64), .long (0 : Int64), .long (0 : Int64), .long (0 : Int64), .long (0 : Int64), .long (0 : Int64), .long (0 : Int64), .long (0 : Int64), .long (0 : Int64), .long (0 : Int64), .long (0 : Int64), .long (0 : Int64), .long (0 : Int64), .long (0 : Int64), .long (0 : Int64), .long (0 : Int64), .int (0 : Int32), .int (0 : Int32), .int (0 : Int32), .int (0 : Int32), .long (0 : Int64), .long (0 : Int64), .int (0 : Int32), .long (0 : Int64)] j := by
  intro j hj
  match j, hj with
  | 0, _ => rfl
  | 1, _ => rfl
  | 2, _ => rfl
  | 3, _ => rfl
  | 4, _ => rfl
  | 5, _ => rfl
  | 6, _ => rfl
  | 7, _ => rfl
  | 8, _ => rfl
  | 9, _ => rfl
  | 10, _ => rfl
  | 11, _ => rfl
  | 12, _ => rfl
  | 13, _ => rfl
  | 14, _ => rfl
  | 15, _ => rfl
  | 16, _ => rfl
  | 17, _ => rfl
  | 18, _ => rfl
  | 19, _ => rfl
  | 20, _ => rfl
  | 21, _ => rfl
  | 22, _ => rfl
  | 23, _ => rfl
  | 24, _ => rfl
  | 25, _ => rfl
  | 26, _ => rfl
  | 27, _ => rfl
  | 28, _ => rfl
  | 29, _ => rfl
  | 30, _ => rfl
  | 31, _ => rfl
  | 32, _ => rfl
  | 33, _ => rfl
  | 34, _ => rfl
  | 35, _ => rfl
  | 36, _ => rfl
  | 37, _ => rfl
  | 38, _ => rfl
  | 39, _ => rfl
  | 40, _ => rfl
  | 41, _ => rfl
  | 42, _ => rfl
  | 43, _ => rfl
  | 44, _ => rfl
  | 45, _ => rfl
  | 46, _ => rfl
  | 47, _ => rfl
  | 48, _ => rfl
  | 49, _ => rfl
  | 50, _ => rfl
  | 51, _ => rfl
  | 52, _ => rfl
  | j + 53, hj => exact absurd hj (by omega)
set_option maxRecDepth 100000 in
set_option maxHeartbeats 8000000 in
theorem law_start {p : Program} {e : Env} {s : State} {m : MethodId} {below : List Frame} {meth : Method} {c : Code} (l : Launch) (hca : CatchP) (hl0 : l.stackTraces = false) {b L : Nat} {xs : Nat → Int32} (hL : L ≤ 3073) (C0 : lw_At p s m meth c b L xs) : W p l e room_1 s m #[Value.ref b] below meth c s.heap [] 0 0 (lw_Z below #[Value.ref b] s) (entryFrame m ([Value.ref b] : List Value).toArray 8) := by
  have E := law_fix C0
  obtain ⟨D, cy, hK, hR, hT, hZ⟩ := law_world C0
  obtain ⟨hx, hb, hr, hml, hown, hts, hX, hbl, hlocks, hgv⟩ := id C0
  have hA : ∀ q : Nat, s.heap.size ≤ q → (fun q : Nat => s.heap.size ≤ q) q := fun _ h => h
  have hl := lv_entry ([.ref b]) (n := 8) (Nat.le_of_ble_eq_true rfl)
  rw [lg_entry_eq]
  generalize (lg_sl ([.ref b]) ++ List.replicate (8 - (lg_sl ([.ref b])).length) Slot.unset).toArray = ls at hl ⊢
  have hl : lv_has ls 8 [(0, .ref b)] := hl
  have w : WY [] D cy (fun q : Nat => s.heap.size ≤ q) s s.heap [] := ⟨fun k q h => by simp at h, ⟨fun i j p q h => by simp at h, fun k q h => by simp at h⟩, va_S.rf, hK, hA⟩
  refine ynew (ci := 8) (fs := [.null, .null, .null, .null]) (C := RX11) (T := TX11) (N := 4) E w inG_X11 tyX11 tyX11_ok w_20 w_21 w_1 rfl (fun j hj => by rcases (show j = 0 ∨ j = 1 ∨ j = 2 ∨ j = 3 by omega) with rfl | rfl | rfl | rfl <;> rfl) (Nat.le_of_ble_eq_true rfl) (Nat.le_of_ble_eq_true rfl) (dq da_law_0 0 rfl) (fun h0 H w => ?_)
  refine lv_dup hx hb (dq da_law_0 1 rfl) rfl ?_
  refine lv_aload_n hx hb (dq da_law_0 2 rfl) rfl (lv_at hl 0 rfl) ?_
  refine lv_iconst (v := 0) hx hb (dq da_law_0 3 rfl) (by decide) ?_
  refine callC E hL hX hbl w.2.2.1 hl.1 (Nat.le_of_ble_eq_true rfl) ⟨Nat.le_of_ble_eq_true rfl, Nat.le_of_ble_eq_true rfl⟩ ⟨Nat.le_of_ble_eq_true rfl, Nat.le_of_ble_eq_true rfl⟩ (dq da_law_0 4 rfl) ?_
  refine ycallI (wr := []) E (c_X11_init l D cy h0 (scr0 L xs) (pg (scr0 L xs)) rfl) w_22 w_23 w_1 w_24 rfl hd_X11_init rfl hl.1 rfl (Nat.le_of_ble_eq_true rfl) ⟨Nat.le_of_ble_eq_true rfl, Nat.le_of_ble_eq_true rfl⟩ ⟨Nat.le_of_ble_eq_true rfl, Nat.le_of_ble_eq_true rfl⟩ w 0 [] rfl rfl (by decide) (by decide) (dq da_law_0 5 rfl) (fun H locs r1 w => ?_)
  refine lv_astore_n (lv' := [(1, .ref h0), (0, .ref b)]) hx hb (dq da_law_0 6 rfl) rfl hl (by decide) rfl (fun ls hl => ?_)
  refine ynew (ci := 9) (fs := [.int (0 : Int32), .int (0 : Int32), .null, .null, .long (0 : Int64), .int (0 : Int32), .long (0 : Int64), .int (0 : Int32), .int (0 : Int32), .long (0 : Int64), .long (0 : Int64), .null, .int (0 : Int32), .int (0 : Int32), .null, .null, .int (0 : Int32), .null, .int (0 : Int32), .null, .int (0 : Int32), .int (0 : Int32), .null, .int (0 : Int32), .int (0 : Int32), .long (0 : Int64), .long (0 : Int64), .long (0 : Int64), .long (0 : Int64), .long (0 : Int64), .long (0 : Int64), .long (0 : Int64), .long (0 : Int64), .long (0 : Int64), .long (0 : Int64), .long (0 : Int64), .long (0 : Int64), .long (0 : Int64), .long (0 : Int64), .long (0 : Int64), .long (0 : Int64), .long (0 : Int64), .long (0 : Int64), .long (0 : Int64), .long (0 : Int64), .int (0 : Int32), .int (0 : Int32), .int (0 : Int32), .int (0 : Int32), .long (0 : Int64), .long (0 : Int64), .int (0 : Int32), .long (0 : Int64)]) (C := RX12) (T := TX12) (N := 53) E w inG_X12 tyX12 tyX12_ok w_1078 w_1079 w_10 rfl fs12 (Nat.le_of_ble_eq_true rfl) (Nat.le_of_ble_eq_true rfl) (dq da_law_0 7 rfl) (fun h1 H w => ?_)
  refine lv_dup hx hb (dq da_law_0 8 rfl) rfl ?_
  refine lv_aload_n hx hb (dq da_law_0 9 rfl) rfl (lv_at hl 1 rfl) ?_
  refine lv_iconst (v := 0) hx hb (dq da_law_0 10 rfl) (by decide) ?_
  refine callC E hL hX hbl w.2.2.1 hl.1 (Nat.le_of_ble_eq_true rfl) ⟨Nat.le_of_ble_eq_true rfl, Nat.le_of_ble_eq_true rfl⟩ ⟨Nat.le_of_ble_eq_true rfl, Nat.le_of_ble_eq_true rfl⟩ (dq da_law_0 11 rfl) ?_
  refine ycallI (wr := (W1_X11_init cy h0 (scr0 L xs) (pg (scr0 L xs)) r1)) E (c_X12_init l D cy h1 (scr0 L xs) (pgM (scr0 L xs)) rfl) w_1080 w_1081 w_10 w_1082 rfl hd_X12_init rfl hl.1 rfl (Nat.le_of_ble_eq_true rfl) ⟨Nat.le_of_ble_eq_true rfl, Nat.le_of_ble_eq_true rfl⟩ ⟨Nat.le_of_ble_eq_true rfl, Nat.le_of_ble_eq_true rfl⟩ w 20 [0, 1, 2, 3, 4, 5, 6, 7, 8, 9, 10, 11, 12, 13, 14, 15, 16, 17, 18, 19] rfl rfl (by decide) (by decide) (dq da_law_0 12 rfl) (fun H locs r2 w => ?_)
  refine lv_astore_n (lv' := [(2, .ref h1), (1, .ref h0), (0, .ref b)]) hx hb (dq da_law_0 13 rfl) rfl hl (by decide) rfl (fun ls hl => ?_)
  refine lv_iconst (v := 1) hx hb (dq da_law_0 14 rfl) (by decide) ?_
  refine ynwa (N := 1) (ty := .long) (k := 2) (a0 := (1, .inr (.inl (fun _ => 0)))) E w w_65 rfl rfl (fun _ _ h9 => h9) (fun _ => rfl) (by decide) rfl (by decide) (Nat.le_of_ble_eq_true rfl) (Nat.le_of_ble_eq_true rfl) (dq da_law_0 15 rfl) (fun ob H w => ?_)
  refine lv_astore_n (lv' := [(3, .ref ob), (2, .ref h1), (1, .ref h0), (0, .ref b)]) hx hb (dq da_law_0 16 rfl) rfl hl (by decide) rfl (fun ls hl => ?_)
  refine lv_iconst (v := 1) hx hb (dq da_law_0 17 rfl) (by decide) ?_
  refine lv_istore (lv' := [(4, .int 1), (3, .ref ob), (2, .ref h1), (1, .ref h0), (0, .ref b)]) hx hb (dq da_law_0 18 rfl) hl (by decide) rfl (fun ls hl => ?_)
  have hP := w.1.sub (ws' := (wC cy (adC h0 r1) (rrC r1) (uC0 (pg (scr0 L xs))) ++ [(ob, .inl (cy.2.2, 1, .inr (.inl (fun _ => 0))))]) ++ wM cy (amM h1 r2) (fun _ => 0) (uM0 (pgM (scr0 L xs)))) [0, 1, 2, 5, 3, 4, 6, 7, 8, 9, 10, 11, 12, 13, 14, 15, 16, 17, 18, 19, 29, 20, 21, 22, 23, 24, 25, 26, 27, 28] rfl
  have hD := w.2.1.sub (ws' := (wC cy (adC h0 r1) (rrC r1) (uC0 (pg (scr0 L xs))) ++ [(ob, .inl (cy.2.2, 1, .inr (.inl (fun _ => 0))))]) ++ wM cy (amM h1 r2) (fun _ => 0) (uM0 (pgM (scr0 L xs)))) [0, 1, 2, 5, 3, 4, 6, 7, 8, 9, 10, 11, 12, 13, 14, 15, 16, 17, 18, 19, 29, 20, 21, 22, 23, 24, 25, 26, 27, 28] (by decide) rfl
  refine law_loop (ad := adC h0 r1) (am := amM h1 r2) (ob := ob) l hca hl0 hL C0 520 0 (by omega) (by omega) _ _ _ _ _ _ _ _ _ _ (rel_init (scr0 L xs)) ?_ ?_ (lv_sub hl [4, 3, 2, 1, 0] rfl) ⟨hP, hD, w.2.2.1, hK, hA, hR, hT, hZ⟩
  · omega
  · omega

theorem sL_sL (u : St) (j : Nat) (x y : Int64) : sL (sL u j x) j y = sL u j y := by
  have e : (sL (sL u j x) j y).2.1 = (sL u j y).2.1 := by
    funext q
    show (if q = j then y else (if q = j then x else _)) = (if q = j then y else _)
    split <;> rfl
  exact Prod.ext rfl (Prod.ext e rfl)
theorem sI_sI (u : St) (j : Nat) (x y : Int32) : sI (sI u j x) j y = sI u j y := by
  have e : (sI (sI u j x) j y).1 = (sI u j y).1 := by
    funext q
    show (if q = j then y else (if q = j then x else _)) = (if q = j then y else _)
    split <;> rfl
  exact Prod.ext e rfl
theorem sI_comm (u : St) {j k : Nat} (h : j ≠ k) (x y : Int32) : sI (sI u j x) k y = sI (sI u k y) j x := by
  have e : (sI (sI u j x) k y).1 = (sI (sI u k y) j x).1 := by
    funext q
    show (if q = k then y else (if q = j then x else _)) = (if q = j then x else (if q = k then y else _))
    by_cases c1 : q = k
    · rw [if_pos c1, if_neg (by omega), if_pos c1]
    · rw [if_neg c1]
      by_cases c2 : q = j
      · rw [if_pos c2, if_pos c2]
      · rw [if_neg c2, if_neg c2, if_neg c1]
  exact Prod.ext e rfl
theorem sL_sI (u : St) (j k : Nat) (x : Int32) (y : Int64) : sL (sI u j x) k y = sI (sL u k y) j x := rfl
def pf (s b : Int64) (on : Int32) : Int64 := if on = 0 then s &&& (b ^^^ (-1 : Int64)) else s ||| b
def hs (s b : Int64) : Int32 := if s &&& b = 0 then 0 else 1
theorem put_st (b : Int64) (on : Int32) (u : St) : f_X4_put b on u = sL u 4 (pf (gL u 4) b on) := by
  unfold f_X4_put f_X4_put_b24 pf
  split <;> rfl
theorem turn_st (k on : Int32) (u : St) : f_X12_turn k on u = sL u 4 (pf (gL u 4) (j_lshl 1 k) on) := by
  unfold f_X12_turn f_X12_turn_b28 pf
  split <;> rfl
theorem has_st (b : Int64) (u : St) : f_X4_has b u = hs (gL u 4) b := rfl
theorem is_1 (u : St) : f_X12_is 1 u = hs (gL u 4) 2 := by
  unfold f_X12_is hs
  rcases bt_1 (gL u 4) with ⟨-, t, r⟩ | ⟨-, t, r⟩
  · rw [t, if_neg (by decide), if_pos r]
  · rw [t, if_pos rfl, if_neg r]
theorem is_3 (u : St) : f_X12_is 3 u = hs (gL u 4) 8 := by
  unfold f_X12_is hs
  rcases bt_3 (gL u 4) with ⟨-, t, r⟩ | ⟨-, t, r⟩
  · rw [t, if_neg (by decide), if_pos r]
  · rw [t, if_pos rfl, if_neg r]
theorem is_5 (u : St) : f_X12_is 5 u = hs (gL u 4) 32 := by
  unfold f_X12_is hs
  rcases bt_5 (gL u 4) with ⟨-, t, r⟩ | ⟨-, t, r⟩
  · rw [t, if_neg (by decide), if_pos r]
  · rw [t, if_pos rfl, if_neg r]
theorem is_7 (u : St) : f_X12_is 7 u = hs (gL u 4) 128 := by
  unfold f_X12_is hs
  rcases bt_7 (gL u 4) with ⟨-, t, r⟩ | ⟨-, t, r⟩
  · rw [t, if_neg (by decide), if_pos r]
  · rw [t, if_pos rfl, if_neg r]
theorem is_8 (u : St) : f_X12_is 8 u = hs (gL u 4) 256 := by
  unfold f_X12_is hs
  rcases bt_8 (gL u 4) with ⟨-, t, r⟩ | ⟨-, t, r⟩
  · rw [t, if_neg (by decide), if_pos r]
  · rw [t, if_pos rfl, if_neg r]
theorem is_17 (u : St) : f_X12_is 17 u = hs (gL u 4) 131072 := by
  unfold f_X12_is hs
  rcases bt_17 (gL u 4) with ⟨-, t, r⟩ | ⟨-, t, r⟩
  · rw [t, if_neg (by decide), if_pos r]
  · rw [t, if_pos rfl, if_neg r]
theorem is_20 (u : St) : f_X12_is 20 u = hs (gL u 4) 1048576 := by
  unfold f_X12_is hs
  rcases bt_20 (gL u 4) with ⟨-, t, r⟩ | ⟨-, t, r⟩
  · rw [t, if_neg (by decide), if_pos r]
  · rw [t, if_pos rfl, if_neg r]
theorem is_21 (u : St) : f_X12_is 21 u = hs (gL u 4) 2097152 := by
  unfold f_X12_is hs
  rcases bt_21 (gL u 4) with ⟨-, t, r⟩ | ⟨-, t, r⟩
  · rw [t, if_neg (by decide), if_pos r]
  · rw [t, if_pos rfl, if_neg r]
theorem is_22 (u : St) : f_X12_is 22 u = hs (gL u 4) 4194304 := by
  unfold f_X12_is hs
  rcases bt_22 (gL u 4) with ⟨-, t, r⟩ | ⟨-, t, r⟩
  · rw [t, if_neg (by decide), if_pos r]
  · rw [t, if_pos rfl, if_neg r]
theorem pf_ok {s b M : Int64} (on : Int32) (h : s &&& M = s) (hb : b &&& M = b) : pf s b on &&& M = pf s b on := by
  unfold pf
  refine qb_ext (fun i hi => ?_)
  have h1 := congrArg (fun z => qb z i) h
  have h2 := congrArg (fun z => qb z i) hb
  simp only [qb_and] at h1 h2
  split
  · simp only [qb_and, qb_xor, qb_m1]
    revert h1 h2
    cases qb s i <;> cases qb b i <;> cases qb M i <;> simp
  · simp only [qb_and, qb_or]
    revert h1 h2
    cases qb s i <;> cases qb b i <;> cases qb M i <;> simp
theorem pf_z {s b M : Int64} (on : Int32) (hb : b &&& M = 0) : pf s b on &&& M = s &&& M := by
  unfold pf
  refine qb_ext (fun i hi => ?_)
  have h2 := congrArg (fun z => qb z i) hb
  simp only [qb_and, qb_lit, Nat.zero_testBit, Bool.and_false] at h2
  split
  · simp only [qb_and, qb_xor, qb_m1]
    revert h2
    cases qb s i <;> cases qb b i <;> cases qb M i <;> simp [hi]
  · simp only [qb_and, qb_or]
    revert h2
    cases qb s i <;> cases qb b i <;> cases qb M i <;> simp
def eM (s : Int64) (p : Int32) : Int64 := (pf (pf s 128 (hs s 8)) 8 0 &&& -6145) ||| j_lshl p.toInt64 11
def eS (s : Int64) (p : Int32) : Int64 := pf (pf (pf s 32 (hs s 2)) 2 0) 256 (if p = 1 then 1 else 0)
theorem mx_eq (x : Int64) (p : Int32) (hp : p = 0 ∨ p = 1 ∨ p = 3) : f_X4_mixed x (j_lshl p.toInt64 11) 6144 = (x &&& -6145) ||| j_lshl p.toInt64 11 := by
  unfold f_X4_mixed
  rw [show (6144 : Int64) ^^^ -1 = -6145 by decide]
  rcases hp with rfl | rfl | rfl
  · rw [show j_lshl (0 : Int32).toInt64 11 &&& 6144 = j_lshl (0 : Int32).toInt64 11 by decide]
  · rw [show j_lshl (1 : Int32).toInt64 11 &&& 6144 = j_lshl (1 : Int32).toInt64 11 by decide]
  · rw [show j_lshl (3 : Int32).toInt64 11 &&& 6144 = j_lshl (3 : Int32).toInt64 11 by decide]
theorem eM_st (p : Int32) (hp : p = 0 ∨ p = 1 ∨ p = 3) (u : St) : f_X4_enterMachine p u = sL u 4 (eM (gL u 4) p) := by
  unfold f_X4_enterMachine
  rw [put_st, put_st, has_st]
  rw [mx_eq _ _ hp, sL_sL, sL_sL]
  rfl
theorem eS_st (p : Int32) (u : St) : f_X4_enterSupervisor p u = sL u 4 (eS (gL u 4) p) := by
  unfold f_X4_enterSupervisor f_X4_enterSupervisor_b36 eS
  by_cases c : p = 1
  · rw [if_pos c, if_pos c, put_st, put_st, put_st, has_st, sL_sL, sL_sL]
    rfl
  · rw [if_neg c, if_neg c, put_st, put_st, put_st, has_st, sL_sL, sL_sL]
    rfl
theorem eM_ok {s : Int64} (h : s &&& 8264106 = s) (p : Int32) (hp : p = 0 ∨ p = 1 ∨ p = 3) : eM s p &&& 8264106 = eM s p ∧ eM s p &&& 6144 ≠ 4096 := by
  have k : ∀ y z : Int64, y &&& 8264106 = y → z &&& 8264106 = z → ((y &&& -6145) ||| z) &&& 8264106 = (y &&& -6145) ||| z := by
    intro y z h1 h2
    refine qb_ext (fun i hi => ?_)
    have e1 := congrArg (fun z => qb z i) h1
    have e2 := congrArg (fun z => qb z i) h2
    simp only [qb_and, qb_or] at e1 e2 ⊢
    revert e1 e2
    cases qb y i <;> cases qb z i <;> cases qb (-6145) i <;> cases qb 8264106 i <;> simp
  have k2 : ∀ y z : Int64, ((y &&& -6145) ||| z) &&& 6144 = z &&& 6144 := by
    intro y z
    refine qb_ext (al_64 ?_)
    simp [qb_or, qb_and, qb_xor, qt_or, qt_and, qt_xor, qb_lit, qt_lit, qb_m1, qt_m1, qb_not, qt_not, qbn_2, qbn_3, qbn_4, qbn_8, qbn_6145, qbn_786723, qb_ofI, qt_ofL, sh6_lit, sh5_lit, qb_shl, qb_sshr, qb_ushr, qt_shl, qt_sshr, qt_ushr, Nat.testBit_eq_decide_div_mod_eq]
  unfold eM
  constructor
  · refine k _ _ (pf_ok _ (pf_ok _ h (by decide)) (by decide)) ?_
    rcases hp with rfl | rfl | rfl <;> decide
  · rw [k2]
    rcases hp with rfl | rfl | rfl <;> decide
theorem eS_ok {s : Int64} (h : s &&& 8264106 = s) (h2 : s &&& 6144 ≠ 4096) (p : Int32) : eS s p &&& 8264106 = eS s p ∧ eS s p &&& 6144 ≠ 4096 := by
  unfold eS
  constructor
  · exact pf_ok _ (pf_ok _ (pf_ok _ h (by decide)) (by decide)) (by decide)
  · rw [pf_z _ (by decide), pf_z _ (by decide), pf_z _ (by decide)]
    exact h2
/-- where a trap goes to -/
def tv (x1 x2 : Int32) (t : Int64) : Int64 := if x1 = 0 then t &&& -4 else if t &&& 1 = 0 then t &&& -4 else (t &&& -4) + 4 * x2.toInt64
theorem tb (t : Int64) : t &&& 1 = 0 ∨ t &&& 1 = 1 := by
  rcases bt_0 t with ⟨-, -, r⟩ | ⟨q, -, r⟩
  · exact Or.inl r
  · right
    have e := ts_u t 0
    rw [ush0, show sh6 0 = 0 from rfl, q] at e
    exact e
theorem tv_ev (x1 x2 : Int32) (t : Int64) : tv x1 x2 t &&& 1 = 0 := by
  have k : (t &&& -4) &&& 1 = 0 := by rw [Int64.and_assoc]; exact Int64.and_zero
  unfold tv
  split
  · exact k
  · split
    · exact k
    · refine ev_add k ?_
      rw [bm_0, ← un_bit, un_mul, show un 4 = 4 from rfl, Nat.testBit_zero]
      simp
      omega
def trM (x1 x2 : Int32) (x3 c : Int64) (u : St) : St := sI (sL (sL (sL (sL (sL u 11 (gL u 0)) 12 c) 13 x3) 4 (eM (gL u 4) (gI u 2))) 0 (tv x1 x2 (gL u 8))) 2 3
def trS (x1 x2 : Int32) (x3 c : Int64) (u : St) : St := sI (sL (sL (sL (sL (sL u 20 (gL u 0)) 21 c) 22 x3) 4 (eS (gL u 4) (gI u 2))) 0 (tv x1 x2 (gL u 17))) 2 1
theorem trM_eq (x1 x2 : Int32) (hx : x1 = 0 ∨ x1 = 1) (x3 c : Int64) (u : St) : f_X12_trap_b203 x1 x2 x3 c u = trM x1 x2 x3 c u := by
  have e7 : j_lshl 1 7 = 128 := by decide
  have e3 : j_lshl 1 3 = 8 := by decide
  unfold f_X12_trap_b203 f_X12_trap_b302 trM eM tv
  simp only [turn_st, is_3, sL_sL, gI_sI, gI_sL, gI_sA, gI_sB, gI_sR, gL_sI, gL_sL, gL_sA, gL_sB, gL_sR, gA_sI, gA_sL, gA_sA, gA_sB, gA_sR, gB_sI, gB_sL, gB_sA, gB_sB, gB_sR, gN_sI, gN_sL, gN_sA, gN_sB, gN_sR, e7, e3]
  rcases hx with rfl | rfl
  · simp
  · rcases tb (gL u 8) with q | q
    · simp [q]
    · simp [q]
theorem trS_eq (x1 x2 : Int32) (hx : x1 = 0 ∨ x1 = 1) (x3 c : Int64) (u : St) (hp : gI u 2 < 3) (s : Int64) (hs : (j_lshr s x2) &&& 1 = 1) : f_X12_trap_b80 x1 x2 x3 s c u = trS x1 x2 x3 c u := by
  have e5 : j_lshl 1 5 = 32 := by decide
  have e1 : j_lshl 1 1 = 2 := by decide
  have e8 : j_lshl 1 8 = 256 := by decide
  unfold f_X12_trap_b80 f_X12_trap_b152 f_X12_trap_b197 trS eS tv
  rw [if_neg (Int32.not_le.mpr hp), if_pos hs]
  simp only [turn_st, is_1, sL_sL, gI_sI, gI_sL, gI_sA, gI_sB, gI_sR, gL_sI, gL_sL, gL_sA, gL_sB, gL_sR, gA_sI, gA_sL, gA_sA, gA_sB, gA_sR, gB_sI, gB_sL, gB_sA, gB_sB, gB_sR, gN_sI, gN_sL, gN_sA, gN_sB, gN_sR, e5, e1, e8]
  rcases hx with rfl | rfl
  · by_cases p : gI u 2 = 1
    · simp [p, sL_sL]
    · simp [p, sL_sL]
  · by_cases p : gI u 2 = 1
    · rcases tb (gL u 17) with q | q
      · simp [p, q, sL_sL]
      · simp [p, q, sL_sL]
    · rcases tb (gL u 17) with q | q
      · simp [p, q, sL_sL]
      · simp [p, q, sL_sL]
def enM (x1 : Int32) (x2 : Int32) (x3 c : Int64) (a : St) : St := f_X1_endReservation (sI (sL (sL (sL (sL (sL a 15 (gL a 24)) 16 c) 17 x3) 4 (eM (gL a 4) (gI a 16))) 24 (tv x2 x1 (gL a 12))) 16 3)
def enS (x1 : Int32) (x2 : Int32) (x3 c : Int64) (a : St) : St := f_X1_endReservation (sI (sL (sL (sL (sL (sL a 21 (gL a 24)) 22 c) 23 x3) 4 (eS (gL a 4) (gI a 16))) 24 (tv x2 x1 (gL a 18))) 16 1)
theorem enM_eq (x1 x2 : Int32) (hx : x2 = 0 ∨ x2 = 1) (x3 c : Int64) (a : St) (hp : gI a 16 = 0 ∨ gI a 16 = 1 ∨ gI a 16 = 3) : f_X6_enter_b99 x1 x2 x3 0 c (sL a 15 (gL a 24)) = enM x1 x2 x3 c a := by
  unfold f_X6_enter_b99
  rw [if_pos rfl]
  rw [show gI (sL (sL (sL a 15 (gL a 24)) 16 c) 17 x3) 16 = gI a 16 from rfl, eM_st _ hp]
  rw [show gL (sL (sL (sL a 15 (gL a 24)) 16 c) 17 x3) 4 = gL a 4 from rfl]
  unfold f_X6_enter_b138 f_X6_enter_b158 f_X6_enter_b159 f_X6_enter_b186 f_X6_enter_b201 enM tv
  simp only [gI_sI, gI_sL, gI_sA, gI_sB, gI_sR, gL_sI, gL_sL, gL_sA, gL_sB, gL_sR, gA_sI, gA_sL, gA_sA, gA_sB, gA_sR, gB_sI, gB_sL, gB_sA, gB_sB, gB_sR, gN_sI, gN_sL, gN_sA, gN_sB, gN_sR]
  rcases hx with rfl | rfl
  · simp
  · rcases tb (gL a 12) with q | q
    · simp [q]
    · simp [q]
theorem enS_eq (x1 x2 : Int32) (hx : x2 = 0 ∨ x2 = 1) (x3 c : Int64) (a : St) : f_X6_enter_b99_11 x1 x2 x3 1 c (sL a 21 (gL a 24)) = enS x1 x2 x3 c a := by
  unfold f_X6_enter_b99_11
  rw [if_neg n10]
  rw [show gI (sL (sL (sL a 21 (gL a 24)) 22 c) 23 x3) 16 = gI a 16 from rfl, eS_st]
  rw [show gL (sL (sL (sL a 21 (gL a 24)) 22 c) 23 x3) 4 = gL a 4 from rfl]
  unfold f_X6_enter_b138_12 f_X6_enter_b158_13 f_X6_enter_b159_14 f_X6_enter_b186 f_X6_enter_b201 enS tv
  simp only [gI_sI, gI_sL, gI_sA, gI_sB, gI_sR, gL_sI, gL_sL, gL_sA, gL_sB, gL_sR, gA_sI, gA_sL, gA_sA, gA_sB, gA_sR, gB_sI, gB_sL, gB_sA, gB_sB, gB_sR, gN_sI, gN_sL, gN_sA, gN_sB, gN_sR]
  rcases hx with rfl | rfl
  · simp
  · rcases tb (gL a 18) with q | q
    · simp [q]
    · simp [q]
theorem Rel.toM {a u : St} (h : Rel a u) (x1 x2 : Int32) (x3 c : Int64) : Rel (enM x1 x2 x3 c a) (sI (trM x2 x1 x3 c u) 3 0) := by
  obtain ⟨⟨v0, v1, v2, v3, v4, v5, v6, v7⟩, -⟩ := h.inv
  have h4 : gL u 4 = gL a 4 := h.longs.2.2.1
  have h0 : gL u 0 = gL a 24 := h.longs.2.2.2.2.2.2.2.2.2.2.2.2.2.2.2.2.2.2.2.2.2.2
  have h8 : gL u 8 = gL a 12 := h.longs.2.2.2.2.2.2.2.2.2.2.1
  have i2 : gI u 2 = gI a 16 := h.ints.1
  unfold enM trM
  rw [h4, h0, h8, i2]
  have ok := eM_ok v3 _ v7
  exact (((((((h.L15 _ v0).L16 c).L17 x3).L4 _ ok.1 ok.2).L24 _ (tv_ev x2 x1 _)).I16 3 (Or.inr (Or.inr rfl)))).endRes
theorem Rel.toS {a u : St} (h : Rel a u) (x1 x2 : Int32) (x3 c : Int64) : Rel (enS x1 x2 x3 c a) (sI (trS x2 x1 x3 c u) 3 0) := by
  obtain ⟨⟨v0, v1, v2, v3, v4, v5, v6, v7⟩, -⟩ := h.inv
  have h4 : gL u 4 = gL a 4 := h.longs.2.2.1
  have h0 : gL u 0 = gL a 24 := h.longs.2.2.2.2.2.2.2.2.2.2.2.2.2.2.2.2.2.2.2.2.2.2
  have h17 : gL u 17 = gL a 18 := h.longs.2.2.2.2.2.2.2.2.2.2.2.2.2.2.2.2.1
  have i2 : gI u 2 = gI a 16 := h.ints.1
  unfold enS trS
  rw [h4, h0, h17, i2]
  have ok := eS_ok v3 v4 (gI a 16)
  exact (((((((h.L21 _ v0).L22 c).L23 x3).L4 _ ok.1 ok.2).L24 _ (tv_ev x2 x1 _)).I16 1 (Or.inr (Or.inl rfl)))).endRes
theorem trM_3 (x1 x2 : Int32) (x3 c : Int64) (u : St) : trM x1 x2 x3 c (sI u 3 0) = sI (trM x1 x2 x3 c u) 3 0 := by
  show sI (sI (sL (sL (sL (sL (sL u 11 (gL u 0)) 12 c) 13 x3) 4 (eM (gL u 4) (gI u 2))) 0 (tv x1 x2 (gL u 8))) 3 0) 2 3 = _
  exact sI_comm _ (by decide) 0 3
theorem trS_3 (x1 x2 : Int32) (x3 c : Int64) (u : St) : trS x1 x2 x3 c (sI u 3 0) = sI (trS x1 x2 x3 c u) 3 0 := by
  show sI (sI (sL (sL (sL (sL (sL u 20 (gL u 0)) 21 c) 22 x3) 4 (eS (gL u 4) (gI u 2))) 0 (tv x1 x2 (gL u 17))) 3 0) 2 1 = _
  exact sI_comm _ (by decide) 0 1
theorem one_z (b : Int64) : (b &&& 1 = 1) ↔ ¬ b &&& 1 = 0 := by
  rcases tb b with q | q <;> rw [q] <;> decide
/-- entering a trap: both sides from states that agree, the reservation given up -/
theorem rel_enter {a u : St} (h : Rel a u) (x1 x2 : Int32) (hx : x2 = 0 ∨ x2 = 1) (x3 : Int64) : Rel (f_X6_enter x1 x2 x3 a) (f_X12_trap_b48 x2 x1 x3 (sI u 3 0)) := by
  obtain ⟨⟨v0, v1, v2, v3, v4, v5, v6, v7⟩, -⟩ := h.inv
  have h5 : gL u 5 = gL a 5 := h.longs.2.2.2.1
  have h6 : gL u 6 = gL a 6 := h.longs.2.2.2.2.1
  have i2 : gI u 2 = gI a 16 := h.ints.1
  have main : ∀ s c : Int64, (c = if x2 = 0 then x1.toInt64 else -9223372036854775808 + x1.toInt64) → Rel (f_X6_enter_b21 x1 x2 x3 s a) (f_X12_trap_b80 x2 x1 x3 s c (sI u 3 0)) := by
    intro s c hc
    have eM' : f_X6_enter_b46 x1 x2 x3 a = enM x1 x2 x3 c a := by
      unfold f_X6_enter_b46 f_X6_enter_b47 f_X6_enter_b71
      rw [if_pos rfl, hc]
      rcases hx with rfl | rfl
      · rw [if_pos rfl, if_pos rfl, enM_eq _ _ (Or.inl rfl) _ _ _ v7]
      · rw [if_neg n10, if_neg n10, enM_eq _ _ (Or.inr rfl) _ _ _ v7]
    have eS' : f_X6_enter_b47 x1 x2 x3 1 a = enS x1 x2 x3 c a := by
      unfold f_X6_enter_b47 f_X6_enter_b71_10
      rw [if_neg n10, hc]
      rcases hx with rfl | rfl
      · rw [if_pos rfl, if_pos rfl, enS_eq _ _ (Or.inl rfl)]
      · rw [if_neg n10, if_neg n10, enS_eq _ _ (Or.inr rfl)]
    have rM : Rel (enM x1 x2 x3 c a) (f_X12_trap_b203 x2 x1 x3 c (sI u 3 0)) := by
      rw [trM_eq _ _ hx, trM_3]
      exact h.toM x1 x2 x3 c
    unfold f_X6_enter_b21
    by_cases p : (3 : Int32) ≤ gI a 16
    · rw [if_pos p, eM']
      unfold f_X12_trap_b80
      rw [if_pos (show (3 : Int32) ≤ gI (sI u 3 0) 2 by rw [show gI (sI u 3 0) 2 = gI u 2 from rfl, i2]; exact p)]
      exact rM
    · rw [if_neg p]
      have p2 : ¬ (3 : Int32) ≤ gI (sI u 3 0) 2 := by rw [show gI (sI u 3 0) 2 = gI u 2 from rfl, i2]; exact p
      by_cases d : (j_lshr s x1) &&& 1 = 0
      · rw [if_pos d, eM']
        unfold f_X12_trap_b80
        rw [if_neg p2, if_neg (fun q => (one_z _).mp q d)]
        exact rM
      · rw [if_neg d, eS', trS_eq _ _ hx _ _ _ (Int32.not_le.mp p2) _ ((one_z _).mpr d), trS_3]
        exact h.toS x1 x2 x3 c
  unfold f_X6_enter f_X12_trap_b48 f_X12_trap_b63
  rcases hx with rfl | rfl
  · rw [if_pos rfl, if_pos rfl, if_pos rfl, show gL (sI u 3 0) 5 = gL u 5 from rfl, h5]
    exact main _ _ (if_pos rfl).symm
  · rw [if_neg n10, if_neg n10, if_neg n10, show gL (sI u 3 0) 6 = gL u 6 from rfl, h6]
    exact main _ _ (if_neg n10).symm
theorem rel_trapE {a u : St} (h : Rel a u) (c : Int32) (v : Int64) : Rel (f_X6_enter c 0 v (sI (sI a 19 (gI a 19 + 1)) 21 c)) (f_X12_trap 0 c v u) := by
  have i13 : gI u 13 = gI a 19 := h.ints.2.2.2.2.2.2.1
  unfold f_X12_trap f_X12_trap_b18
  rw [if_pos rfl, if_pos rfl]
  have e : sI (sI (sI u 3 0) 15 c) 13 (gI (sI (sI u 3 0) 15 c) 13 + 1) = sI (sI (sI u 13 (gI a 19 + 1)) 15 c) 3 0 := by
    rw [show gI (sI (sI u 3 0) 15 c) 13 = gI u 13 from rfl, i13, sI_comm u (show 3 ≠ 15 by decide), sI_comm _ (show 3 ≠ 13 by decide), sI_comm u (show 15 ≠ 13 by decide)]
  rw [e]
  exact rel_enter ((h.I19 _).I21 c) c 0 (Or.inl rfl) v
theorem rel_trapI {a u : St} (h : Rel a u) (c : Int32) : Rel (f_X6_enter c 1 0 (sI (sI a 20 (gI a 20 + 1)) 21 (64 + c))) (f_X12_trap 1 c 0 u) := by
  have i14 : gI u 14 = gI a 20 := h.ints.2.2.2.2.2.2.2.1
  unfold f_X12_trap f_X12_trap_b18
  rw [if_neg n10, if_neg n10]
  have e : sI (sI (sI u 3 0) 15 (64 + c)) 14 (gI (sI (sI u 3 0) 15 (64 + c)) 14 + 1) = sI (sI (sI u 14 (gI a 20 + 1)) 15 (64 + c)) 3 0 := by
    rw [show gI (sI (sI u 3 0) 15 (64 + c)) 14 = gI u 14 from rfl, i14, sI_comm u (show 3 ≠ 15 by decide), sI_comm _ (show 3 ≠ 14 by decide), sI_comm u (show 15 ≠ 14 by decide)]
  rw [e]
  exact rel_enter ((h.I20 _).I21 (64 + c)) c 1 (Or.inr rfl) 0
theorem enter_is (x1 x2 : Int32) (hx : x2 = 0 ∨ x2 = 1) (x3 : Int64) (a : St) (hp : gI a 16 = 0 ∨ gI a 16 = 1 ∨ gI a 16 = 3) : ∃ c, f_X6_enter x1 x2 x3 a = enM x1 x2 x3 c a ∨ f_X6_enter x1 x2 x3 a = enS x1 x2 x3 c a := by
  have eM' : f_X6_enter_b46 x1 x2 x3 a = enM x1 x2 x3 (if x2 = 0 then x1.toInt64 else -9223372036854775808 + x1.toInt64) a := by
    unfold f_X6_enter_b46 f_X6_enter_b47 f_X6_enter_b71
    rw [if_pos rfl]
    rcases hx with rfl | rfl
    · rw [if_pos rfl, if_pos rfl, enM_eq _ _ (Or.inl rfl) _ _ _ hp]
    · rw [if_neg n10, if_neg n10, enM_eq _ _ (Or.inr rfl) _ _ _ hp]
  have eS' : f_X6_enter_b47 x1 x2 x3 1 a = enS x1 x2 x3 (if x2 = 0 then x1.toInt64 else -9223372036854775808 + x1.toInt64) a := by
    unfold f_X6_enter_b47 f_X6_enter_b71_10
    rw [if_neg n10]
    rcases hx with rfl | rfl
    · rw [if_pos rfl, if_pos rfl, enS_eq _ _ (Or.inl rfl)]
    · rw [if_neg n10, if_neg n10, enS_eq _ _ (Or.inr rfl)]
  have b21 : ∀ s, f_X6_enter_b21 x1 x2 x3 s a = enM x1 x2 x3 (if x2 = 0 then x1.toInt64 else -9223372036854775808 + x1.toInt64) a ∨ f_X6_enter_b21 x1 x2 x3 s a = enS x1 x2 x3 (if x2 = 0 then x1.toInt64 else -9223372036854775808 + x1.toInt64) a := by
    intro s
    unfold f_X6_enter_b21
    rw [eM', eS']
    by_cases c1 : (3 : Int32) ≤ gI a 16
    · rw [if_pos c1]; exact Or.inl rfl
    · rw [if_neg c1]
      by_cases c2 : (j_lshr s x1) &&& 1 = 0
      · rw [if_pos c2]; exact Or.inl rfl
      · rw [if_neg c2]; exact Or.inr rfl
  unfold f_X6_enter
  by_cases c : x2 = 0
  · rw [if_pos c]; exact ⟨_, b21 _⟩
  · rw [if_neg c]; exact ⟨_, b21 _⟩
theorem enter_N (x1 x2 : Int32) (hx : x2 = 0 ∨ x2 = 1) (x3 : Int64) (a : St) (hp : gI a 16 = 0 ∨ gI a 16 = 1 ∨ gI a 16 = 3) : gN (f_X6_enter x1 x2 x3 a) = gN a ∧ gI (f_X6_enter x1 x2 x3 a) 18 = gI a 18 := by
  obtain ⟨c, e | e⟩ := enter_is x1 x2 hx x3 a hp
  · rw [e]; exact ⟨rfl, rfl⟩
  · rw [e]; exact ⟨rfl, rfl⟩

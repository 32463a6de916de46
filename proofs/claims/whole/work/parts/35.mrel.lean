theorem gI_sI (u : St) (j k : Nat) (v : Int32) : gI (sI u j v) k = if k = j then v else gI u k := rfl
theorem gI_sL (u : St) (j k : Nat) (v : Int64) : gI (sL u j v) k = gI u k := rfl
theorem gI_sA (u : St) (j i k : Nat) (v : Int32) : gI (sA u j i v) k = gI u k := rfl
theorem gI_sB (u : St) (j i k : Nat) (v : Int64) : gI (sB u j i v) k = gI u k := rfl
theorem gI_sR (u : St) (j i n k : Nat) (f : Nat → Int32) : gI (sR u j i n f) k = gI u k := rfl
theorem gL_sI (u : St) (j k : Nat) (v : Int32) : gL (sI u j v) k = gL u k := rfl
theorem gL_sL (u : St) (j k : Nat) (v : Int64) : gL (sL u j v) k = if k = j then v else gL u k := rfl
theorem gL_sA (u : St) (j i k : Nat) (v : Int32) : gL (sA u j i v) k = gL u k := rfl
theorem gL_sB (u : St) (j i k : Nat) (v : Int64) : gL (sB u j i v) k = gL u k := rfl
theorem gL_sR (u : St) (j i n k : Nat) (f : Nat → Int32) : gL (sR u j i n f) k = gL u k := rfl
theorem gA_sI (u : St) (j k : Nat) (v : Int32) : gA (sI u j v) k = gA u k := rfl
theorem gA_sL (u : St) (j k : Nat) (v : Int64) : gA (sL u j v) k = gA u k := rfl
theorem gA_sA (u : St) (j i k : Nat) (v : Int32) : gA (sA u j i v) k = if k = j then upd (gA u j) i v else gA u k := rfl
theorem gA_sB (u : St) (j i k : Nat) (v : Int64) : gA (sB u j i v) k = gA u k := rfl
theorem gA_sR (u : St) (j i n k : Nat) (f : Nat → Int32) : gA (sR u j i n f) k = if k = j then f else gA u k := rfl
theorem gB_sI (u : St) (j k : Nat) (v : Int32) : gB (sI u j v) k = gB u k := rfl
theorem gB_sL (u : St) (j k : Nat) (v : Int64) : gB (sL u j v) k = gB u k := rfl
theorem gB_sA (u : St) (j i k : Nat) (v : Int32) : gB (sA u j i v) k = gB u k := rfl
theorem gB_sB (u : St) (j i k : Nat) (v : Int64) : gB (sB u j i v) k = if k = j then vp_updL (gB u j) i v else gB u k := rfl
theorem gB_sR (u : St) (j i n k : Nat) (f : Nat → Int32) : gB (sR u j i n f) k = gB u k := rfl
theorem gN_sI (u : St) (j k : Nat) (v : Int32) : gN (sI u j v) k = gN u k := rfl
theorem gN_sL (u : St) (j k : Nat) (v : Int64) : gN (sL u j v) k = gN u k := rfl
theorem gN_sA (u : St) (j i k : Nat) (v : Int32) : gN (sA u j i v) k = gN u k := rfl
theorem gN_sB (u : St) (j i k : Nat) (v : Int64) : gN (sB u j i v) k = gN u k := rfl
theorem gN_sR (u : St) (j i n k : Nat) (f : Nat → Int32) : gN (sR u j i n f) k = if k = i then n else gN u k := rfl
/-- a row of bytes that wraps round, and what it holds -/
def Ring (lim : Nat) (first cnt : Int32) (row : Nat → Int32) (len : Nat) (bs : Nat → Int32) : Prop :=
  ∃ e f c : Nat, 6 ≤ e ∧ len = 2 ^ e ∧ len ≤ lim ∧ lim ≤ 65536 ∧ first = nI f ∧ cnt = nI c ∧ f < len ∧ c ≤ len ∧ ∀ k, k < c → row ((f + k) % len) &&& 255 = bs k &&& 255
def RelI (a u : St) : Prop := gI u 2 = gI a 16 ∧ gI u 3 = gI a 4 ∧ gI u 5 = gI a 7 ∧ gI u 6 = gI a 8 ∧ gI u 7 = gI a 6 ∧ gI u 12 = gI a 9 ∧ gI u 13 = gI a 19 ∧ gI u 14 = gI a 20 ∧ gI u 15 = gI a 21 ∧ gI u 8 = gI a 2 ∧ gI u 10 = gI a 12 ∧ gI u 11 = gI a 15
def RelL (a u : St) : Prop := gL u 2 = gL a 1 ∧ gL u 3 = gL a 2 ∧ gL u 4 = gL a 4 ∧ gL u 5 = gL a 5 ∧ gL u 6 = gL a 6 ∧ gL u 7 = gL a 7 ∧ gL u 14 = gL a 8 ∧ gL u 23 = gL a 9 ∧ gL u 15 = gL a 10 ∧ gL u 16 = gL a 11 ∧ gL u 8 = gL a 12 ∧ gL u 9 = gL a 13 ∧ gL u 10 = gL a 14 ∧ gL u 11 = gL a 15 ∧ gL u 12 = gL a 16 ∧ gL u 13 = gL a 17 ∧ gL u 17 = gL a 18 ∧ gL u 18 = gL a 19 ∧ gL u 19 = gL a 20 ∧ gL u 20 = gL a 21 ∧ gL u 21 = gL a 22 ∧ gL u 22 = gL a 23 ∧ gL u 0 = gL a 24
def RelS (a u : St) : Prop := gL a 0 = (gI u 4).toInt64 ∧ (gI u 4 = 0 ∨ gI u 4 = 1) ∧ (gI a 4 = 0 ∨ gI a 4 = 4 ∨ gI a 4 = 8) ∧ (gI a 4 = 0 → gL a 3 = 0) ∧ (gI a 4 ≠ 0 → gL u 1 = gL a 3)
def RelA (a u : St) : Prop := gA u 1 = gA a 1 ∧ gA u 2 = gA a 2 ∧ gA u 3 = gA a 3 ∧ gB u 0 = gB a 1
def RelN (a u : St) (P : Nat) : Prop := 16 ≤ P ∧ P ≤ 64 ∧ gN a 1 = 512 * P ∧ gI a 5 = nI (4096 * P) ∧ gI u 1 = nI P ∧ gN a 2 = 8 ∧ gN a 3 = 2 ∧ gN a 4 = 2 ∧ gN a 7 = 32 ∧ gN u 0 = 262144 ∧ gN u 1 = 32 ∧ gN u 2 = 8 ∧ gN u 3 = 2 ∧ gN u 4 = 2 ∧ gN u 5 = 65536 ∧ gN u 6 = 65536 ∧ gN u 7 = 4096
def RelM (a u : St) (P : Nat) : Prop := ∀ i, i < 4096 * P → ∀ j, j < 8 → qb (gB a 0 (i / 8)) (8 * (i % 8) + j) = qt (gA u 0 i) j
def RelT (a u : St) : Prop := gI a 0 = 65536 ∧ Ring 65536 (gI a 1) (gI a 2) (gA a 0) (gN a 0) (gA u 4)
def RelG (a u : St) : Prop := gI a 10 = 65536 ∧ ∃ g, g < 65536 ∧ gI u 9 = nI g ∧ Ring 65536 (gI a 11) (gI a 12) (gA a 4) (gN a 5) (fun k => gA u 5 ((g + k) % 65536))
def RelO (a u : St) : Prop := gI a 13 = 4096 ∧ Ring 4096 (gI a 14) (gI a 15) (gA a 5) (gN a 6) (gA u 6)
def RelV (a : St) : Prop := gL a 24 &&& 1 = 0 ∧ gL a 15 &&& 1 = 0 ∧ gL a 21 &&& 1 = 0 ∧ gL a 4 &&& 8264106 = gL a 4 ∧ gL a 4 &&& 6144 ≠ 4096 ∧ gL a 7 &&& 2730 = gL a 7 ∧ gL a 6 &&& 546 = gL a 6 ∧ (gI a 16 = 0 ∨ gI a 16 = 1 ∨ gI a 16 = 3)
def RelW (a : St) : Prop := gI a 7 &&& 255 = gI a 7 ∧ gI a 6 &&& 255 = gI a 6 ∧ gI a 9 &&& 255 = gI a 9 ∧ (∀ k, gA a 2 k &&& 255 = gA a 2 k) ∧ (∀ k, gA a 3 k &&& 7 = gA a 3 k) ∧ (∀ k, gA a 1 k &&& 7 = gA a 1 k)
/-- the two boards hold the same -/
def Rel (a u : St) : Prop := ∃ P, RelI a u ∧ RelL a u ∧ RelS a u ∧ RelA a u ∧ RelN a u P ∧ RelM a u P ∧ RelT a u ∧ RelG a u ∧ RelO a u ∧ RelV a ∧ RelW a
def Bud (a : St) : Nat := 3 * (gN a 0 + gN a 5 + gN a 6)
theorem Rel.thr {a u : St} (h : Rel a u) (c : Int32) : Rel a (sI u 0 c) := by
  obtain ⟨P, h⟩ := h
  exact ⟨P, h⟩
theorem Rel.bud (a u : St) (h : Rel a u) : Bud a ≤ 500000 := by
  obtain ⟨P, -, -, -, -, -, -, ⟨-, e1, f1, c1, -, -, l1, -⟩, ⟨-, g, -, -, e2, f2, c2, -, -, l2, -⟩, ⟨-, e3, f3, c3, -, -, l3, -⟩, -⟩ := h
  unfold Bud
  omega
theorem fails_0 (c : Int32) (u : St) : f_X12_fails 0 c u = some (0, sI u 0 0) := rfl
theorem fails_1 (c : Int32) (u : St) : f_X12_fails 1 c u = some (1, sI u 0 c) := rfl
theorem op_wipe : Op_wipe Rel Bud := by
  intro a u h
  refine ⟨_, _, _, _, rfl, rfl, ?_, ?_, Nat.le_refl _⟩
  · obtain ⟨P, hI, -⟩ := h
    exact hI.2.2.2.2.2.2.2.2.2.1.symm
  · obtain ⟨P, hI, hL, hS, hA, hN, hM, hT, hG, hO, hV, hW⟩ := h
    refine ⟨P, ?_, hL, hS, hA, hN, hM, ?_, hG, hO, hV, hW⟩
    · simp only [RelI, f_X2_clear_o1, gI_sI, gI_sL, gI_sA, gI_sB, gI_sR, gL_sI, gL_sL, gL_sA, gL_sB, gL_sR, gA_sI, gA_sL, gA_sA, gA_sB, gA_sR, gB_sI, gB_sL, gB_sA, gB_sB, gB_sR, gN_sI, gN_sL, gN_sA, gN_sB, gN_sR] at hI ⊢
      simp [hI]
    · obtain ⟨h0, e, f, c, he, hl, h1, h2, hf, hc, hfl, hcl, hk⟩ := hT
      refine ⟨h0, e, 0, 0, he, hl, h1, h2, ?_, ?_, ?_, Nat.zero_le _, fun k hk => absurd hk (Nat.not_lt_zero _)⟩
      · simp [f_X2_clear_o1, gI_sI, gI_sL, gI_sA, gI_sB, gI_sR, gL_sI, gL_sL, gL_sA, gL_sB, gL_sR, gA_sI, gA_sL, gA_sA, gA_sB, gA_sR, gB_sI, gB_sL, gB_sA, gB_sB, gB_sR, gN_sI, gN_sL, gN_sA, gN_sB, gN_sR, nI_0]
      · simp [f_X2_clear_o1, gI_sI, gI_sL, gI_sA, gI_sB, gI_sR, gL_sI, gL_sL, gL_sA, gL_sB, gL_sR, gA_sI, gA_sL, gA_sA, gA_sB, gA_sR, gB_sI, gB_sL, gB_sA, gB_sB, gB_sR, gN_sI, gN_sL, gN_sA, gN_sB, gN_sR, nI_0]
      · rw [show gN (f_X2_clear_o1 a) 0 = gN a 0 from rfl, hl]
        exact Nat.two_pow_pos e
theorem Rel.ints {a u : St} (h : Rel a u) : RelI a u := by
  obtain ⟨P, h, -⟩ := h
  exact h
theorem Rel.longs {a u : St} (h : Rel a u) : RelL a u := by
  obtain ⟨P, -, h, -⟩ := h
  exact h
theorem Rel.rows {a u : St} (h : Rel a u) : RelA a u := by
  obtain ⟨P, -, -, -, h, -⟩ := h
  exact h
theorem Rel.lens {a u : St} (h : Rel a u) : ∃ P, RelN a u P ∧ RelM a u P := by
  obtain ⟨P, -, -, -, -, h, h2, -⟩ := h
  exact ⟨P, h, h2⟩
theorem Rel.inv {a u : St} (h : Rel a u) : RelV a ∧ RelW a := by
  obtain ⟨P, -, -, -, -, -, -, -, -, -, h⟩ := h
  exact h
theorem neg_ne {n : Int32} (h0 : n < 0) {c : Int32} (hc : 0 ≤ c) : ¬ n = c := by
  intro e
  subst e
  exact absurd h0 (Int32.not_lt.mpr hc)
theorem big_ne {n b : Int32} (h0 : b ≤ n) {c : Int32} (hc : c < b) : ¬ n = c := by
  intro e
  subst e
  exact absurd h0 (Int32.not_le.mpr hc)
theorem big_lt {n b : Int32} (h0 : b ≤ n) {c : Int32} (hc : c ≤ b) : ¬ n < c := Int32.not_lt.mpr (Int32.le_trans hc h0)
theorem big_le {n b : Int32} (h0 : b ≤ n) {c : Int32} (hc : c < b) : ¬ n ≤ c := Int32.not_le.mpr (Int32.lt_of_lt_of_le hc h0)
theorem op_look : Op_look Rel Bud := by
  intro n a u h
  obtain ⟨i2, i3, i5, i6, i7, i12, i13, i14, i15, i8, i10, i11⟩ := h.ints
  rcases pk_ix n (n := 11) (by omega) with h0 | h0 | ⟨j, hj, rfl⟩
  · refine Or.inr ⟨0, sI u 0 1, ?_, ?_, rfl, h.thr 1⟩
    · unfold f_X11_look
      rw [if_neg (neg_ne h0 (by decide))]; rw [if_neg (neg_ne h0 (by decide))]; rw [if_neg (neg_ne h0 (by decide))]; rw [if_neg (neg_ne h0 (by decide))]; rw [if_neg (neg_ne h0 (by decide))]; rw [if_neg (neg_ne h0 (by decide))]; rw [if_neg (neg_ne h0 (by decide))]; rw [if_neg (neg_ne h0 (by decide))]; rw [if_neg (neg_ne h0 (by decide))]; rw [if_neg (neg_ne h0 (by decide))]; rw [if_neg (neg_ne h0 (by decide))]
    · simp [h0, f_X12_look, f_X12_look_b16, f_X12_look_b11, fails_1]
  · have h1 : (11 : Int32) ≤ n := h0
    refine Or.inr ⟨0, sI u 0 1, ?_, ?_, rfl, h.thr 1⟩
    · unfold f_X11_look
      rw [if_neg (big_ne h1 (by decide))]; rw [if_neg (big_ne h1 (by decide))]; rw [if_neg (big_ne h1 (by decide))]; rw [if_neg (big_ne h1 (by decide))]; rw [if_neg (big_ne h1 (by decide))]; rw [if_neg (big_ne h1 (by decide))]; rw [if_neg (big_ne h1 (by decide))]; rw [if_neg (big_ne h1 (by decide))]; rw [if_neg (big_ne h1 (by decide))]; rw [if_neg (big_ne h1 (by decide))]; rw [if_neg (big_ne h1 (by decide))]
    · simp [big_lt h1 (show (0 : Int32) ≤ 11 by decide), big_le h1 (show (10 : Int32) < 11 by decide), f_X12_look, f_X12_look_b16, f_X12_look_b11, fails_1]
  · left
    match j, hj with
    | 0, _ => exact ⟨gI a 16, _, sI u 0 0, rfl, rfl, rfl, i2.symm, h.thr 0⟩
    | 1, _ => exact ⟨gI a 12, _, sI u 0 0, rfl, rfl, rfl, i10.symm, h.thr 0⟩
    | 2, _ => exact ⟨gI a 15, _, sI u 0 0, rfl, rfl, rfl, i11.symm, h.thr 0⟩
    | 3, _ => exact ⟨gI a 19, _, sI u 0 0, rfl, rfl, rfl, i13.symm, h.thr 0⟩
    | 4, _ => exact ⟨gI a 20, _, sI u 0 0, rfl, rfl, rfl, i14.symm, h.thr 0⟩
    | 5, _ => exact ⟨gI a 21, _, sI u 0 0, rfl, rfl, rfl, i15.symm, h.thr 0⟩
    | 6, _ => exact ⟨gI a 2, _, sI u 0 0, rfl, rfl, rfl, i8.symm, h.thr 0⟩
    | 7, _ => exact ⟨gI a 4, _, sI u 0 0, rfl, rfl, rfl, i3.symm, h.thr 0⟩
    | 8, _ =>
      obtain ⟨P, hN, -⟩ := h.lens
      refine ⟨gI a 5 / 4096, gI u 1, sI u 0 0, rfl, rfl, rfl, ?_, h.thr 0⟩
      rw [hN.2.2.2.1, hN.2.2.2.2.1, show (4096 : Int32) = nI 4096 from rfl, pk_div (by have := hN.2.1; omega) (by omega) (by omega), Nat.mul_div_cancel_left _ (by omega)]
    | 9, _ => exact ⟨gI a 7, _, sI u 0 0, rfl, rfl, rfl, i5.symm, h.thr 0⟩
    | 10, _ => exact ⟨gI a 8, _, sI u 0 0, rfl, rfl, rfl, i6.symm, h.thr 0⟩
theorem in_32 {j : Nat} (h : j < 32) : inB (nI j) 32 := nI_in h (by omega)
theorem op_get : Op_get Rel Bud := by
  intro n a u h
  have hL := h.longs
  have hA := h.rows
  obtain ⟨P, hN, -⟩ := h.lens
  obtain ⟨_, _, _, _, _, _, _, _, n7, _, m1, _⟩ := hN
  rcases pk_ix n (n := 33) (by omega) with h0 | h0 | ⟨j, hj, rfl⟩
  · refine Or.inr ⟨0, sI u 0 1, ?_, ?_, rfl, h.thr 1⟩
    · simp [h0, f_X11_get, f_X11_get_b10]
    · simp [h0, f_X12_get, f_X12_get_b16, f_X12_get_b11, fails_1]
  · have h1 : (33 : Int32) ≤ n := h0
    refine Or.inr ⟨0, sI u 0 1, ?_, ?_, rfl, h.thr 1⟩
    · simp [big_lt h1 (show (0 : Int32) ≤ 33 by decide), big_le h1 (show (32 : Int32) < 33 by decide), f_X11_get, f_X11_get_b10]
    · simp [big_lt h1 (show (0 : Int32) ≤ 33 by decide), big_le h1 (show (32 : Int32) < 33 by decide), f_X12_get, f_X12_get_b16, f_X12_get_b11, fails_1]
  · left
    have p0 : ¬ nI j < 0 := nI_pos (by omega)
    have p1 : nI j ≤ 32 := nI_le (b := 32) (by omega) (by omega)
    by_cases e : j = 32
    · subst e
      exact ⟨gL a 24, gL u 0, sI u 0 0, rfl, rfl, rfl, hL.2.2.2.2.2.2.2.2.2.2.2.2.2.2.2.2.2.2.2.2.2.2.symm, h.thr 0⟩
    · have e2 : ¬ nI j = 32 := fun q => e ((nI_eq (b := 32) (by omega) (by omega)).mp q)
      refine ⟨gB a 1 j, gB u 0 j, sI u 0 0, ?_, ?_, rfl, (congrFun hA.2.2.2 j).symm, h.thr 0⟩
      · unfold f_X11_get
        rw [if_neg p0, if_pos p1, if_neg e2, n7, if_pos (in_32 (by omega)), nI_clamp (by omega)]
        rfl
      · unfold f_X12_get f_X12_get_b16
        rw [if_neg p0, if_pos p1, fails_0, Option.bind_some, if_pos rfl, if_neg e2]
        rw [show gN (sI u 0 0) 1 = gN u 1 from rfl, m1, if_pos (in_32 (by omega)), nI_clamp (by omega)]
        rfl

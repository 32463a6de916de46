theorem Rel.I16 {a u : St} (h : Rel a u) (w : Int32) (hw : w = 0 ∨ w = 1 ∨ w = 3) : Rel (sI a 16 w) (sI u 2 w) := by
  obtain ⟨P, hI, hL, hS, hA, hN, hM, hT, hG, hO, hV, hW⟩ := h
  refine ⟨P, ?_, hL, hS, hA, hN, hM, hT, hG, hO, ?_, ?_⟩
  · simp only [RelI, gI_sI] at hI ⊢
    simp [hI]
  · obtain ⟨v0, v1, v2, v3, v4, v5, v6, v7⟩ := hV
    exact ⟨v0, v1, v2, v3, v4, v5, v6, hw⟩
  · exact hW
theorem Rel.I7 {a u : St} (h : Rel a u) (w : Int32) (hw : w &&& 255 = w) : Rel (sI a 7 w) (sI u 5 w) := by
  obtain ⟨P, hI, hL, hS, hA, hN, hM, hT, hG, hO, hV, hW⟩ := h
  refine ⟨P, ?_, hL, hS, hA, hN, hM, hT, hG, hO, ?_, ?_⟩
  · simp only [RelI, gI_sI] at hI ⊢
    simp [hI]
  · exact hV
  · obtain ⟨w0, w1, w2, w3, w4, w5⟩ := hW
    exact ⟨hw, w1, w2, w3, w4, w5⟩
theorem Rel.I6 {a u : St} (h : Rel a u) (w : Int32) (hw : w &&& 255 = w) : Rel (sI a 6 w) (sI u 7 w) := by
  obtain ⟨P, hI, hL, hS, hA, hN, hM, hT, hG, hO, hV, hW⟩ := h
  refine ⟨P, ?_, hL, hS, hA, hN, hM, hT, hG, hO, ?_, ?_⟩
  · simp only [RelI, gI_sI] at hI ⊢
    simp [hI]
  · exact hV
  · obtain ⟨w0, w1, w2, w3, w4, w5⟩ := hW
    exact ⟨w0, hw, w2, w3, w4, w5⟩
theorem Rel.I9 {a u : St} (h : Rel a u) (w : Int32) (hw : w &&& 255 = w) : Rel (sI a 9 w) (sI u 12 w) := by
  obtain ⟨P, hI, hL, hS, hA, hN, hM, hT, hG, hO, hV, hW⟩ := h
  refine ⟨P, ?_, hL, hS, hA, hN, hM, hT, hG, hO, ?_, ?_⟩
  · simp only [RelI, gI_sI] at hI ⊢
    simp [hI]
  · exact hV
  · obtain ⟨w0, w1, w2, w3, w4, w5⟩ := hW
    exact ⟨w0, w1, hw, w3, w4, w5⟩
theorem Rel.I8 {a u : St} (h : Rel a u) (w : Int32)  : Rel (sI a 8 w) (sI u 6 w) := by
  obtain ⟨P, hI, hL, hS, hA, hN, hM, hT, hG, hO, hV, hW⟩ := h
  refine ⟨P, ?_, hL, hS, hA, hN, hM, hT, hG, hO, ?_, ?_⟩
  · simp only [RelI, gI_sI] at hI ⊢
    simp [hI]
  · exact hV
  · exact hW
theorem Rel.I19 {a u : St} (h : Rel a u) (w : Int32)  : Rel (sI a 19 w) (sI u 13 w) := by
  obtain ⟨P, hI, hL, hS, hA, hN, hM, hT, hG, hO, hV, hW⟩ := h
  refine ⟨P, ?_, hL, hS, hA, hN, hM, hT, hG, hO, ?_, ?_⟩
  · simp only [RelI, gI_sI] at hI ⊢
    simp [hI]
  · exact hV
  · exact hW
theorem Rel.I20 {a u : St} (h : Rel a u) (w : Int32)  : Rel (sI a 20 w) (sI u 14 w) := by
  obtain ⟨P, hI, hL, hS, hA, hN, hM, hT, hG, hO, hV, hW⟩ := h
  refine ⟨P, ?_, hL, hS, hA, hN, hM, hT, hG, hO, ?_, ?_⟩
  · simp only [RelI, gI_sI] at hI ⊢
    simp [hI]
  · exact hV
  · exact hW
theorem Rel.I21 {a u : St} (h : Rel a u) (w : Int32)  : Rel (sI a 21 w) (sI u 15 w) := by
  obtain ⟨P, hI, hL, hS, hA, hN, hM, hT, hG, hO, hV, hW⟩ := h
  refine ⟨P, ?_, hL, hS, hA, hN, hM, hT, hG, hO, ?_, ?_⟩
  · simp only [RelI, gI_sI] at hI ⊢
    simp [hI]
  · exact hV
  · exact hW
theorem Rel.endRes {a u : St} (h : Rel a u) : Rel (f_X1_endReservation a) (sI u 3 0) := by
  obtain ⟨P, hI, hL, hS, hA, hN, hM, hT, hG, hO, hV, hW⟩ := h
  refine ⟨P, ?_, hL, ?_, hA, hN, hM, hT, hG, hO, hV, hW⟩
  · simp only [RelI, f_X1_endReservation, gI_sI, gI_sL] at hI ⊢
    simp [hI]
  · obtain ⟨s0, s1, s2, s3, s4⟩ := hS
    exact ⟨s0, s1, Or.inl rfl, fun _ => rfl, fun q => absurd rfl q⟩
theorem Rel.B1 {a u : St} (h : Rel a u) (k : Nat) (v : Int64) : Rel (sB a 1 k v) (sB u 0 k v) := by
  obtain ⟨P, hI, hL, hS, hA, hN, hM, hT, hG, hO, hV, hW⟩ := h
  refine ⟨P, hI, hL, hS, ?_, hN, hM, hT, hG, hO, hV, hW⟩
  obtain ⟨a1, a2, a3, a4⟩ := hA
  refine ⟨a1, a2, a3, ?_⟩
  show vp_updL (gB u 0) k v = vp_updL (gB a 1) k v
  rw [a4]
theorem w_set (p h c : Int32) (h1 : p &&& 255 = p) (h2 : h &&& 255 = h) : (p ||| (h &&& (c ^^^ -1))) &&& 255 = p ||| (h &&& (c ^^^ -1)) := by
  rw [← h1, ← h2]
  refine qt_ext (al_32 ?_)
  simp [qb_or, qb_and, qb_xor, qt_or, qt_and, qt_xor, qb_lit, qt_lit, qb_m1, qt_m1, qb_not, qt_not, qbn_2, qbn_3, qbn_4, qbn_8, qbn_6145, qbn_786723, qb_ofI, qt_ofL, sh6_lit, sh5_lit, qb_shl, qb_sshr, qb_ushr, qt_shl, qt_sshr, qt_ushr, Nat.testBit_eq_decide_div_mod_eq]
theorem w_or2 (h : Int32) (h2 : h &&& 255 = h) : (h ||| 2) &&& 255 = h ||| 2 := by
  rw [← h2]
  refine qt_ext (al_32 ?_)
  simp [qb_or, qb_and, qb_xor, qt_or, qt_and, qt_xor, qb_lit, qt_lit, qb_m1, qt_m1, qb_not, qt_not, qbn_2, qbn_3, qbn_4, qbn_8, qbn_6145, qbn_786723, qb_ofI, qt_ofL, sh6_lit, sh5_lit, qb_shl, qb_sshr, qb_ushr, qt_shl, qt_sshr, qt_ushr, Nat.testBit_eq_decide_div_mod_eq]
theorem Rel.settle {a u : St} (h : Rel a u) : Rel (f_X1_settle a) (f_X12_gather u) := by
  obtain ⟨i2, i3, i5, i6, i7, i12, i13, i14, i15, i8, i10, i11⟩ := h.ints
  obtain ⟨-, w0, w1, w2, w3, w4, w5⟩ := h.inv
  have key : ∀ z : Int32, z = (if (gI a 9 &&& 1 = 0) ∨ gI a 12 ≤ 0 then gI a 6 else gI a 6 ||| 2) → f_X1_settle a = sI a 7 (gI a 7 ||| (z &&& (gI a 8 ^^^ -1))) ∧ f_X12_gather u = sI u 5 (gI a 7 ||| (z &&& (gI a 8 ^^^ -1))) := by
    intro z hz
    subst hz
    unfold f_X1_settle f_X3_settle f_X3_settle_b22 f_X8_high f_X8_high_b23 f_X2_size_o11 f_X12_gather f_X12_gather_b25 f_X12_gather_b26
    rw [i5, i6, i7, i10, i12, Int32.or_zero]
    rcases and1 (gI a 9) with e | e
    · rw [e]
      by_cases q : gI a 12 ≤ 0 <;> simp [q]
    · rw [e]
      by_cases q : gI a 12 ≤ 0 <;> simp [q]
  obtain ⟨e1, e2⟩ := key _ rfl
  rw [e1, e2]
  refine h.I7 _ (w_set _ _ _ w0 ?_)
  split
  · exact w1
  · exact w_or2 _ w1
theorem settle_N (a : St) : gN (f_X1_settle a) = gN a := by
  unfold f_X1_settle f_X3_settle f_X3_settle_b22
  repeat' (first | exact rfl | apply ite_N)
theorem gather_0 (u : St) : gI (f_X12_gather u) 0 = gI u 0 := by
  unfold f_X12_gather f_X12_gather_b25 f_X12_gather_b26
  repeat' (first | exact rfl | apply ite_I)
theorem op_lower : Op_lower Rel Bud := by
  intro n a u h
  by_cases h0 : n = 0
  · subst h0
    exact Or.inl ⟨_, _, rfl, rfl, rfl, (h.thr 0).I16 0 (Or.inl rfl), Nat.le_refl _⟩
  · by_cases h1 : n = 1
    · subst h1
      exact Or.inl ⟨_, _, rfl, rfl, rfl, (h.thr 0).I16 1 (Or.inr (Or.inl rfl)), Nat.le_refl _⟩
    · by_cases h3 : n = 3
      · subst h3
        exact Or.inl ⟨_, _, rfl, rfl, rfl, (h.thr 0).I16 3 (Or.inr (Or.inr rfl)), Nat.le_refl _⟩
      · refine Or.inr ⟨sI u 0 1, ?_, ?_, rfl, h.thr 1⟩
        · simp [h0, h1, h3, f_X11_lower, f_X11_lower_b24]
        · simp [h0, h1, h3, f_X12_lower, f_X12_lower_b20, f_X12_lower_b19, fails_1]
theorem op_set : Op_set Rel Bud := by
  intro n v a u h
  obtain ⟨P, hN, -⟩ := h.lens
  obtain ⟨_, _, _, _, _, _, _, _, n7, _, m1, _⟩ := hN
  rcases pk_ix n (n := 33) (by omega) with h0 | h0 | ⟨j, hj, rfl⟩
  · refine Or.inr ⟨sI u 0 1, ?_, ?_, rfl, h.thr 1⟩
    · simp [h0, f_X11_set, f_X11_set_b10]
    · simp [h0, f_X12_set, f_X12_set_b16, f_X12_set_b11, fails_1]
  · have h1 : (33 : Int32) ≤ n := h0
    refine Or.inr ⟨sI u 0 1, ?_, ?_, rfl, h.thr 1⟩
    · simp [big_lt h1 (show (0 : Int32) ≤ 33 by decide), big_le h1 (show (32 : Int32) < 33 by decide), f_X11_set, f_X11_set_b10]
    · simp [big_lt h1 (show (0 : Int32) ≤ 33 by decide), big_le h1 (show (32 : Int32) < 33 by decide), f_X12_set, f_X12_set_b16, f_X12_set_b11, fails_1]
  · left
    have p0 : ¬ nI j < 0 := nI_pos (by omega)
    have p1 : nI j ≤ 32 := nI_le (b := 32) (by omega) (by omega)
    by_cases e : j = 32
    · subst e
      exact ⟨_, _, rfl, rfl, rfl, (h.thr 0).L24 _ (even_and v), Nat.le_refl _⟩
    · have e2 : ¬ nI j = 32 := fun q => e ((nI_eq (b := 32) (by omega) (by omega)).mp q)
      by_cases z : j = 0
      · subst z
        exact ⟨_, _, rfl, rfl, rfl, h.thr 0, Nat.le_refl _⟩
      · refine ⟨sB a 1 j v, sB (sI u 0 0) 0 j v, ?_, ?_, rfl, (h.thr 0).B1 j v, Nat.le_refl _⟩
        · unfold f_X11_set
          rw [if_neg p0, if_pos p1, if_neg e2, if_neg (nI_ne0 (by omega) (by omega)), n7, if_pos (in_32 (by omega)), nI_clamp (by omega)]
          rfl
        · unfold f_X12_set f_X12_set_b16
          rw [if_neg p0, if_pos p1, fails_0, Option.bind_some, if_pos rfl, if_neg e2, if_neg (nI_nle (by omega) (by omega))]
          rw [show gN (sI u 0 0) 1 = gN u 1 from rfl, m1, if_pos (in_32 (by omega)), nI_clamp (by omega)]
theorem w_drv (x h : Int32) (j : Nat) (hj : j < 8) (h2 : h &&& 255 = h) : (h ||| ((1 : Int32) <<< (nI j &&& 31))) &&& 255 = h ||| ((1 : Int32) <<< (nI j &&& 31)) ∧ (h &&& (((1 : Int32) <<< (nI j &&& 31)) ^^^ -1)) &&& 255 = h &&& (((1 : Int32) <<< (nI j &&& 31)) ^^^ -1) := by
  rw [← h2]
  constructor
  · match j, hj with
    | 0, _ => refine qt_ext (al_32 ?_); simp [nI, qb_or, qb_and, qb_xor, qt_or, qt_and, qt_xor, qb_lit, qt_lit, qb_m1, qt_m1, qb_not, qt_not, qbn_2, qbn_3, qbn_4, qbn_8, qbn_6145, qbn_786723, qb_ofI, qt_ofL, sh6_lit, sh5_lit, qb_shl, qb_sshr, qb_ushr, qt_shl, qt_sshr, qt_ushr, Nat.testBit_eq_decide_div_mod_eq]
    | 1, _ => refine qt_ext (al_32 ?_); simp [nI, qb_or, qb_and, qb_xor, qt_or, qt_and, qt_xor, qb_lit, qt_lit, qb_m1, qt_m1, qb_not, qt_not, qbn_2, qbn_3, qbn_4, qbn_8, qbn_6145, qbn_786723, qb_ofI, qt_ofL, sh6_lit, sh5_lit, qb_shl, qb_sshr, qb_ushr, qt_shl, qt_sshr, qt_ushr, Nat.testBit_eq_decide_div_mod_eq]
    | 2, _ => refine qt_ext (al_32 ?_); simp [nI, qb_or, qb_and, qb_xor, qt_or, qt_and, qt_xor, qb_lit, qt_lit, qb_m1, qt_m1, qb_not, qt_not, qbn_2, qbn_3, qbn_4, qbn_8, qbn_6145, qbn_786723, qb_ofI, qt_ofL, sh6_lit, sh5_lit, qb_shl, qb_sshr, qb_ushr, qt_shl, qt_sshr, qt_ushr, Nat.testBit_eq_decide_div_mod_eq]
    | 3, _ => refine qt_ext (al_32 ?_); simp [nI, qb_or, qb_and, qb_xor, qt_or, qt_and, qt_xor, qb_lit, qt_lit, qb_m1, qt_m1, qb_not, qt_not, qbn_2, qbn_3, qbn_4, qbn_8, qbn_6145, qbn_786723, qb_ofI, qt_ofL, sh6_lit, sh5_lit, qb_shl, qb_sshr, qb_ushr, qt_shl, qt_sshr, qt_ushr, Nat.testBit_eq_decide_div_mod_eq]
    | 4, _ => refine qt_ext (al_32 ?_); simp [nI, qb_or, qb_and, qb_xor, qt_or, qt_and, qt_xor, qb_lit, qt_lit, qb_m1, qt_m1, qb_not, qt_not, qbn_2, qbn_3, qbn_4, qbn_8, qbn_6145, qbn_786723, qb_ofI, qt_ofL, sh6_lit, sh5_lit, qb_shl, qb_sshr, qb_ushr, qt_shl, qt_sshr, qt_ushr, Nat.testBit_eq_decide_div_mod_eq]
    | 5, _ => refine qt_ext (al_32 ?_); simp [nI, qb_or, qb_and, qb_xor, qt_or, qt_and, qt_xor, qb_lit, qt_lit, qb_m1, qt_m1, qb_not, qt_not, qbn_2, qbn_3, qbn_4, qbn_8, qbn_6145, qbn_786723, qb_ofI, qt_ofL, sh6_lit, sh5_lit, qb_shl, qb_sshr, qb_ushr, qt_shl, qt_sshr, qt_ushr, Nat.testBit_eq_decide_div_mod_eq]
    | 6, _ => refine qt_ext (al_32 ?_); simp [nI, qb_or, qb_and, qb_xor, qt_or, qt_and, qt_xor, qb_lit, qt_lit, qb_m1, qt_m1, qb_not, qt_not, qbn_2, qbn_3, qbn_4, qbn_8, qbn_6145, qbn_786723, qb_ofI, qt_ofL, sh6_lit, sh5_lit, qb_shl, qb_sshr, qb_ushr, qt_shl, qt_sshr, qt_ushr, Nat.testBit_eq_decide_div_mod_eq]
    | 7, _ => refine qt_ext (al_32 ?_); simp [nI, qb_or, qb_and, qb_xor, qt_or, qt_and, qt_xor, qb_lit, qt_lit, qb_m1, qt_m1, qb_not, qt_not, qbn_2, qbn_3, qbn_4, qbn_8, qbn_6145, qbn_786723, qb_ofI, qt_ofL, sh6_lit, sh5_lit, qb_shl, qb_sshr, qb_ushr, qt_shl, qt_sshr, qt_ushr, Nat.testBit_eq_decide_div_mod_eq]
  · match j, hj with
    | 0, _ => refine qt_ext (al_32 ?_); simp [nI, qb_or, qb_and, qb_xor, qt_or, qt_and, qt_xor, qb_lit, qt_lit, qb_m1, qt_m1, qb_not, qt_not, qbn_2, qbn_3, qbn_4, qbn_8, qbn_6145, qbn_786723, qb_ofI, qt_ofL, sh6_lit, sh5_lit, qb_shl, qb_sshr, qb_ushr, qt_shl, qt_sshr, qt_ushr, Nat.testBit_eq_decide_div_mod_eq]
    | 1, _ => refine qt_ext (al_32 ?_); simp [nI, qb_or, qb_and, qb_xor, qt_or, qt_and, qt_xor, qb_lit, qt_lit, qb_m1, qt_m1, qb_not, qt_not, qbn_2, qbn_3, qbn_4, qbn_8, qbn_6145, qbn_786723, qb_ofI, qt_ofL, sh6_lit, sh5_lit, qb_shl, qb_sshr, qb_ushr, qt_shl, qt_sshr, qt_ushr, Nat.testBit_eq_decide_div_mod_eq]
    | 2, _ => refine qt_ext (al_32 ?_); simp [nI, qb_or, qb_and, qb_xor, qt_or, qt_and, qt_xor, qb_lit, qt_lit, qb_m1, qt_m1, qb_not, qt_not, qbn_2, qbn_3, qbn_4, qbn_8, qbn_6145, qbn_786723, qb_ofI, qt_ofL, sh6_lit, sh5_lit, qb_shl, qb_sshr, qb_ushr, qt_shl, qt_sshr, qt_ushr, Nat.testBit_eq_decide_div_mod_eq]
    | 3, _ => refine qt_ext (al_32 ?_); simp [nI, qb_or, qb_and, qb_xor, qt_or, qt_and, qt_xor, qb_lit, qt_lit, qb_m1, qt_m1, qb_not, qt_not, qbn_2, qbn_3, qbn_4, qbn_8, qbn_6145, qbn_786723, qb_ofI, qt_ofL, sh6_lit, sh5_lit, qb_shl, qb_sshr, qb_ushr, qt_shl, qt_sshr, qt_ushr, Nat.testBit_eq_decide_div_mod_eq]
    | 4, _ => refine qt_ext (al_32 ?_); simp [nI, qb_or, qb_and, qb_xor, qt_or, qt_and, qt_xor, qb_lit, qt_lit, qb_m1, qt_m1, qb_not, qt_not, qbn_2, qbn_3, qbn_4, qbn_8, qbn_6145, qbn_786723, qb_ofI, qt_ofL, sh6_lit, sh5_lit, qb_shl, qb_sshr, qb_ushr, qt_shl, qt_sshr, qt_ushr, Nat.testBit_eq_decide_div_mod_eq]
    | 5, _ => refine qt_ext (al_32 ?_); simp [nI, qb_or, qb_and, qb_xor, qt_or, qt_and, qt_xor, qb_lit, qt_lit, qb_m1, qt_m1, qb_not, qt_not, qbn_2, qbn_3, qbn_4, qbn_8, qbn_6145, qbn_786723, qb_ofI, qt_ofL, sh6_lit, sh5_lit, qb_shl, qb_sshr, qb_ushr, qt_shl, qt_sshr, qt_ushr, Nat.testBit_eq_decide_div_mod_eq]
    | 6, _ => refine qt_ext (al_32 ?_); simp [nI, qb_or, qb_and, qb_xor, qt_or, qt_and, qt_xor, qb_lit, qt_lit, qb_m1, qt_m1, qb_not, qt_not, qbn_2, qbn_3, qbn_4, qbn_8, qbn_6145, qbn_786723, qb_ofI, qt_ofL, sh6_lit, sh5_lit, qb_shl, qb_sshr, qb_ushr, qt_shl, qt_sshr, qt_ushr, Nat.testBit_eq_decide_div_mod_eq]
    | 7, _ => refine qt_ext (al_32 ?_); simp [nI, qb_or, qb_and, qb_xor, qt_or, qt_and, qt_xor, qb_lit, qt_lit, qb_m1, qt_m1, qb_not, qt_not, qbn_2, qbn_3, qbn_4, qbn_8, qbn_6145, qbn_786723, qb_ofI, qt_ofL, sh6_lit, sh5_lit, qb_shl, qb_sshr, qb_ushr, qt_shl, qt_sshr, qt_ushr, Nat.testBit_eq_decide_div_mod_eq]
theorem op_raise : Op_raise Rel Bud := by
  intro n b a u hb h
  obtain ⟨-, w0, w1, w2, w3, w4, w5⟩ := h.inv
  have i7 := h.ints.2.2.2.2.1
  rcases pk_ix n (n := 8) (by omega) with h0 | h0 | ⟨j, hj, rfl⟩
  · have h2 : n < 2 := Int32.lt_trans h0 (by decide)
    refine Or.inr ⟨sI u 0 1, ?_, ?_, rfl, h.thr 1⟩
    · simp [h2, f_X11_raise, f_X11_raise_b11]
    · simp [h2, f_X12_raise, f_X12_raise_b51, f_X12_raise_b17, f_X12_raise_b12, fails_1]
  · have h1 : (8 : Int32) ≤ n := h0
    refine Or.inr ⟨sI u 0 1, ?_, ?_, rfl, h.thr 1⟩
    · simp [big_lt h1 (show (2 : Int32) ≤ 8 by decide), big_le h1 (show (7 : Int32) < 8 by decide), f_X11_raise, f_X11_raise_b11]
    · simp [big_lt h1 (show (2 : Int32) ≤ 8 by decide), big_le h1 (show (7 : Int32) < 8 by decide), f_X12_raise, f_X12_raise_b51, f_X12_raise_b17, f_X12_raise_b12, fails_1]
  · by_cases z : j < 2
    · have h2 : nI j < 2 := nI_lt (b := 2) z (by omega)
      refine Or.inr ⟨sI u 0 1, ?_, ?_, rfl, h.thr 1⟩
      · simp [h2, f_X11_raise, f_X11_raise_b11]
      · simp [h2, f_X12_raise, f_X12_raise_b51, f_X12_raise_b17, f_X12_raise_b12, fails_1]
    · left
      have p0 : ¬ nI j < 2 := nI_nlt (b := 2) (by omega) (by omega)
      have p1 : nI j ≤ 7 := nI_le (b := 7) (by omega) (by omega)
      have e7 : nI j &&& 7 = nI j := by rw [pk_andN (by omega) 3 rfl, Nat.mod_eq_of_lt (by omega)]
      obtain ⟨q1, q2⟩ := w_drv 0 (gI a 6) j hj w1
      rcases hb with rfl | rfl
      · refine ⟨_, _, ?_, ?_, ?_, (((h.thr 0).I6 _ q2).settle), ?_⟩
        · unfold f_X11_raise f_X3_drive f_X3_drive_b29
          rw [if_neg p0, if_pos p1, if_pos rfl, e7]
          rfl
        · unfold f_X12_raise f_X12_raise_b17 f_X12_raise_b51
          rw [if_neg p0, if_pos p1, fails_0, Option.bind_some, if_pos rfl, if_pos rfl]
          rw [show gI (sI u 0 0) 7 = gI u 7 from rfl, i7]
        · unfold f_X12_thrown
          rw [gather_0]
          rfl
        · unfold Bud
          rw [settle_N]
          exact Nat.le_refl _
      · refine ⟨_, _, ?_, ?_, ?_, (((h.thr 0).I6 _ q1).settle), ?_⟩
        · unfold f_X11_raise f_X3_drive f_X3_drive_b29
          rw [if_neg p0, if_pos p1, if_neg n10, e7]
          rfl
        · unfold f_X12_raise f_X12_raise_b17 f_X12_raise_b51
          rw [if_neg p0, if_pos p1, fails_0, Option.bind_some, if_pos rfl, if_neg n10]
          rw [show gI (sI u 0 0) 7 = gI u 7 from rfl, i7]
        · unfold f_X12_thrown
          rw [gather_0]
          rfl
        · unfold Bud
          rw [settle_N]
          exact Nat.le_refl _
theorem op_out : Op_out Rel Bud := by
  intro n a u h
  obtain ⟨P, hI, hL, hS, hA, hN, hM, hT, hG, hO, hV, hW⟩ := id h
  obtain ⟨-, hR⟩ := hO
  have hR2 := hR
  obtain ⟨e, f, c, he, hl, h1, h2, hf, hc, hfl, hcl, hb⟩ := hR
  have i11 : gI u 11 = gI a 15 := hI.2.2.2.2.2.2.2.2.2.2.2
  obtain ⟨_, _, _, _, _, _, _, _, _, _, _, _, _, _, _, _, m7⟩ := hN
  rcases pk_ix n (n := c) (by omega) with h0 | h0 | ⟨j, hj, rfl⟩
  · refine Or.inr ⟨0, sI u 0 1, ?_, ?_, rfl, h.thr 1⟩
    · simp [h0, f_X11_out, f_X11_out_b23]
    · simp [h0, f_X12_out, f_X12_out_b18, f_X12_out_b13, fails_1]
  · refine Or.inr ⟨0, sI u 0 1, ?_, ?_, rfl, h.thr 1⟩
    · unfold f_X11_out f_X11_out_b23 f_X2_size_o13
      rw [hc, if_neg (Int32.not_lt.mpr h0)]
      split <;> rfl
    · unfold f_X12_out f_X12_out_b13 f_X12_out_b18
      rw [i11, hc, if_neg (Int32.not_lt.mpr h0)]
      split <;> rfl
  · left
    refine ⟨gA u 6 j &&& 255, gA u 6 j &&& 255, sI u 0 0, ?_, ?_, rfl, rfl, h.thr 0⟩
    · unfold f_X11_out f_X2_size_o13
      rw [if_neg (nI_pos (by omega)), hc, if_pos (nI_lt hj (by omega)), at_o13 hR2 hc (by omega) hj]
      rfl
    · unfold f_X12_out f_X12_out_b18
      rw [if_neg (nI_pos (by omega)), i11, hc, if_pos (nI_lt hj (by omega)), fails_0, Option.bind_some, if_pos rfl]
      show (if inB (nI j) (gN u 7) then some (gA u 6 (nI j).toNatClampNeg &&& 255, sI u 0 0) else none) = _
      rw [if_pos (in_d (N := 4096) (by omega) (by omega) m7), nI_clamp (by omega)]

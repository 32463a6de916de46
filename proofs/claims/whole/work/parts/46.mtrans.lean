theorem qt_s31 (x : Int32) (i : Nat) : qt (x >>> (31 : Int32)) i = (decide (i < 32) && qt x 31) := by
  have e := qt_sshr x 31 i
  rw [show ((31 : Int32) &&& 31) = 31 from rfl, show sh5 31 = 31 from rfl] at e
  rw [e]
  match i with
  | 0 => simp
  | i + 1 =>
    by_cases c : i + 1 < 32
    · simp [c, show ¬ 32 ≤ i + 1 by omega, show ¬ 31 + (i + 1) < 32 by omega]
    · simp [c, show 32 ≤ i + 1 by omega]
theorem qt_l31 (x : Int32) (i : Nat) : qt (x <<< (31 : Int32)) i = (decide (i < 32) && !decide (i < 31) && qt x (i - 31)) := by
  have e := qt_shl x 31 i
  rw [show ((31 : Int32) &&& 31) = 31 from rfl, show sh5 31 = 31 from rfl] at e
  exact e
theorem fl_f (w : Int32) : (f_X12_cut (w.toInt64 &&& 4294967295) 14 12).toInt32 = f_X6_f w := by
  rw [show f_X12_cut (w.toInt64 &&& 4294967295) 14 12 = j_lushr (w.toInt64 &&& 4294967295) 12 &&& 7 from rfl]
  unfold f_X6_f
  refine qt_ext (al_32 ?_)
  simp [qb_or, qb_and, qb_xor, qt_or, qt_and, qt_xor, qb_lit, qt_lit, qb_m1, qt_m1, qb_not, qt_not, qbn_2, qbn_3, qbn_4, qbn_8, qbn_6145, qbn_786723, qb_ofI, qt_ofL, sh6_lit, sh5_lit, qb_shl, qb_sshr, qb_ushr, qt_shl, qt_sshr, qt_ushr, Nat.testBit_eq_decide_div_mod_eq, qt_big, qb_big, qt_s31]
theorem fl_rd (w : Int32) : (f_X12_cut (w.toInt64 &&& 4294967295) 11 7).toInt32 = (w >>> ((7 : Int32) &&& 31)) &&& 31 := by
  rw [show f_X12_cut (w.toInt64 &&& 4294967295) 11 7 = j_lushr (w.toInt64 &&& 4294967295) 7 &&& 31 from rfl]
  refine qt_ext (al_32 ?_)
  simp [qb_or, qb_and, qb_xor, qt_or, qt_and, qt_xor, qb_lit, qt_lit, qb_m1, qt_m1, qb_not, qt_not, qbn_2, qbn_3, qbn_4, qbn_8, qbn_6145, qbn_786723, qb_ofI, qt_ofL, sh6_lit, sh5_lit, qb_shl, qb_sshr, qb_ushr, qt_shl, qt_sshr, qt_ushr, Nat.testBit_eq_decide_div_mod_eq, qt_big, qb_big, qt_s31]
theorem fl_r1 (w : Int32) : (f_X12_cut (w.toInt64 &&& 4294967295) 19 15).toInt32 = (w >>> ((15 : Int32) &&& 31)) &&& 31 := by
  rw [show f_X12_cut (w.toInt64 &&& 4294967295) 19 15 = j_lushr (w.toInt64 &&& 4294967295) 15 &&& 31 from rfl]
  refine qt_ext (al_32 ?_)
  simp [qb_or, qb_and, qb_xor, qt_or, qt_and, qt_xor, qb_lit, qt_lit, qb_m1, qt_m1, qb_not, qt_not, qbn_2, qbn_3, qbn_4, qbn_8, qbn_6145, qbn_786723, qb_ofI, qt_ofL, sh6_lit, sh5_lit, qb_shl, qb_sshr, qb_ushr, qt_shl, qt_sshr, qt_ushr, Nat.testBit_eq_decide_div_mod_eq, qt_big, qb_big, qt_s31]
theorem fl_r2 (w : Int32) : (f_X12_cut (w.toInt64 &&& 4294967295) 24 20).toInt32 = (w >>> ((20 : Int32) &&& 31)) &&& 31 := by
  rw [show f_X12_cut (w.toInt64 &&& 4294967295) 24 20 = j_lushr (w.toInt64 &&& 4294967295) 20 &&& 31 from rfl]
  refine qt_ext (al_32 ?_)
  simp [qb_or, qb_and, qb_xor, qt_or, qt_and, qt_xor, qb_lit, qt_lit, qb_m1, qt_m1, qb_not, qt_not, qbn_2, qbn_3, qbn_4, qbn_8, qbn_6145, qbn_786723, qb_ofI, qt_ofL, sh6_lit, sh5_lit, qb_shl, qb_sshr, qb_ushr, qt_shl, qt_sshr, qt_ushr, Nat.testBit_eq_decide_div_mod_eq, qt_big, qb_big, qt_s31]
theorem fl_op (w : Int32) : ((w.toInt64 &&& 4294967295) &&& 127).toInt32 = w &&& 127 := by
  refine qt_ext (al_32 ?_)
  simp [qb_or, qb_and, qb_xor, qt_or, qt_and, qt_xor, qb_lit, qt_lit, qb_m1, qt_m1, qb_not, qt_not, qbn_2, qbn_3, qbn_4, qbn_8, qbn_6145, qbn_786723, qb_ofI, qt_ofL, sh6_lit, sh5_lit, qb_shl, qb_sshr, qb_ushr, qt_shl, qt_sshr, qt_ushr, Nat.testBit_eq_decide_div_mod_eq, qt_big, qb_big, qt_s31]
theorem fl_imm (w : Int32) : f_X12_signed (j_lshr (w.toInt64 &&& 4294967295) 20) 12 = (w >>> ((20 : Int32) &&& 31)).toInt64 := by
  rw [show f_X12_signed (j_lshr (w.toInt64 &&& 4294967295) 20) 12 = j_lshr (j_lshl (j_lshr (w.toInt64 &&& 4294967295) 20) 52) 52 from rfl]
  refine qb_ext (al_64 ?_)
  simp [qb_or, qb_and, qb_xor, qt_or, qt_and, qt_xor, qb_lit, qt_lit, qb_m1, qt_m1, qb_not, qt_not, qbn_2, qbn_3, qbn_4, qbn_8, qbn_6145, qbn_786723, qb_ofI, qt_ofL, sh6_lit, sh5_lit, qb_shl, qb_sshr, qb_ushr, qt_shl, qt_sshr, qt_ushr, Nat.testBit_eq_decide_div_mod_eq, qt_big, qb_big, qt_s31]
theorem fl_up (w : Int32) : f_X12_signed ((w.toInt64 &&& 4294967295) &&& 4294963200) 32 = (w &&& 4294963200).toInt64 := by
  rw [show f_X12_signed ((w.toInt64 &&& 4294967295) &&& 4294963200) 32 = j_lshr (j_lshl ((w.toInt64 &&& 4294967295) &&& 4294963200) 32) 32 from rfl]
  refine qb_ext (al_64 ?_)
  simp [qb_or, qb_and, qb_xor, qt_or, qt_and, qt_xor, qb_lit, qt_lit, qb_m1, qt_m1, qb_not, qt_not, qbn_2, qbn_3, qbn_4, qbn_8, qbn_6145, qbn_786723, qb_ofI, qt_ofL, sh6_lit, sh5_lit, qb_shl, qb_sshr, qb_ushr, qt_shl, qt_sshr, qt_ushr, Nat.testBit_eq_decide_div_mod_eq, qt_big, qb_big, qt_s31]
theorem fl_j (w : Int32) : f_X12_signed ((((j_lshl (f_X12_cut (w.toInt64 &&& 4294967295) 31 31) 20) ||| (j_lshl (f_X12_cut (w.toInt64 &&& 4294967295) 19 12) 12)) ||| (j_lshl (f_X12_cut (w.toInt64 &&& 4294967295) 20 20) 11)) ||| (j_lshl (f_X12_cut (w.toInt64 &&& 4294967295) 30 21) 1)) 21 = (f_X6_jumpOffset w).toInt64 := by
  rw [show f_X12_signed ((((j_lshl (f_X12_cut (w.toInt64 &&& 4294967295) 31 31) 20) ||| (j_lshl (f_X12_cut (w.toInt64 &&& 4294967295) 19 12) 12)) ||| (j_lshl (f_X12_cut (w.toInt64 &&& 4294967295) 20 20) 11)) ||| (j_lshl (f_X12_cut (w.toInt64 &&& 4294967295) 30 21) 1)) 21 = j_lshr (j_lshl ((((j_lshl (f_X12_cut (w.toInt64 &&& 4294967295) 31 31) 20) ||| (j_lshl (f_X12_cut (w.toInt64 &&& 4294967295) 19 12) 12)) ||| (j_lshl (f_X12_cut (w.toInt64 &&& 4294967295) 20 20) 11)) ||| (j_lshl (f_X12_cut (w.toInt64 &&& 4294967295) 30 21) 1)) 43) 43 from rfl]
  rw [show f_X12_cut (w.toInt64 &&& 4294967295) 31 31 = j_lushr (w.toInt64 &&& 4294967295) 31 &&& 1 from rfl]
  rw [show f_X12_cut (w.toInt64 &&& 4294967295) 19 12 = j_lushr (w.toInt64 &&& 4294967295) 12 &&& 255 from rfl]
  rw [show f_X12_cut (w.toInt64 &&& 4294967295) 20 20 = j_lushr (w.toInt64 &&& 4294967295) 20 &&& 1 from rfl]
  rw [show f_X12_cut (w.toInt64 &&& 4294967295) 30 21 = j_lushr (w.toInt64 &&& 4294967295) 21 &&& 1023 from rfl]
  unfold f_X6_jumpOffset
  refine qb_ext (al_64 ?_)
  simp [qb_or, qb_and, qb_xor, qt_or, qt_and, qt_xor, qb_lit, qt_lit, qb_m1, qt_m1, qb_not, qt_not, qbn_2, qbn_3, qbn_4, qbn_8, qbn_6145, qbn_786723, qb_ofI, qt_ofL, sh6_lit, sh5_lit, qb_shl, qb_sshr, qb_ushr, qt_shl, qt_sshr, qt_ushr, Nat.testBit_eq_decide_div_mod_eq, qt_big, qb_big, qt_s31]
theorem fl_b (w : Int32) : f_X12_signed ((((j_lshl (f_X12_cut (w.toInt64 &&& 4294967295) 31 31) 12) ||| (j_lshl (f_X12_cut (w.toInt64 &&& 4294967295) 7 7) 11)) ||| (j_lshl (f_X12_cut (w.toInt64 &&& 4294967295) 30 25) 5)) ||| (j_lshl (f_X12_cut (w.toInt64 &&& 4294967295) 11 8) 1)) 13 = (f_X6_branchOffset w).toInt64 := by
  rw [show f_X12_signed ((((j_lshl (f_X12_cut (w.toInt64 &&& 4294967295) 31 31) 12) ||| (j_lshl (f_X12_cut (w.toInt64 &&& 4294967295) 7 7) 11)) ||| (j_lshl (f_X12_cut (w.toInt64 &&& 4294967295) 30 25) 5)) ||| (j_lshl (f_X12_cut (w.toInt64 &&& 4294967295) 11 8) 1)) 13 = j_lshr (j_lshl ((((j_lshl (f_X12_cut (w.toInt64 &&& 4294967295) 31 31) 12) ||| (j_lshl (f_X12_cut (w.toInt64 &&& 4294967295) 7 7) 11)) ||| (j_lshl (f_X12_cut (w.toInt64 &&& 4294967295) 30 25) 5)) ||| (j_lshl (f_X12_cut (w.toInt64 &&& 4294967295) 11 8) 1)) 51) 51 from rfl]
  rw [show f_X12_cut (w.toInt64 &&& 4294967295) 31 31 = j_lushr (w.toInt64 &&& 4294967295) 31 &&& 1 from rfl]
  rw [show f_X12_cut (w.toInt64 &&& 4294967295) 7 7 = j_lushr (w.toInt64 &&& 4294967295) 7 &&& 1 from rfl]
  rw [show f_X12_cut (w.toInt64 &&& 4294967295) 30 25 = j_lushr (w.toInt64 &&& 4294967295) 25 &&& 63 from rfl]
  rw [show f_X12_cut (w.toInt64 &&& 4294967295) 11 8 = j_lushr (w.toInt64 &&& 4294967295) 8 &&& 15 from rfl]
  unfold f_X6_branchOffset
  refine qb_ext (al_64 ?_)
  simp [qb_or, qb_and, qb_xor, qt_or, qt_and, qt_xor, qb_lit, qt_lit, qb_m1, qt_m1, qb_not, qt_not, qbn_2, qbn_3, qbn_4, qbn_8, qbn_6145, qbn_786723, qb_ofI, qt_ofL, sh6_lit, sh5_lit, qb_shl, qb_sshr, qb_ushr, qt_shl, qt_sshr, qt_ushr, Nat.testBit_eq_decide_div_mod_eq, qt_big, qb_big, qt_s31]
theorem fl_s (w : Int32) : f_X12_signed ((j_lshl (f_X12_cut (w.toInt64 &&& 4294967295) 31 25) 5) ||| (f_X12_cut (w.toInt64 &&& 4294967295) 11 7)) 12 = (((w >>> ((25 : Int32) &&& 31)) <<< ((5 : Int32) &&& 31)) ||| ((w >>> ((7 : Int32) &&& 31)) &&& 31)).toInt64 := by
  rw [show f_X12_signed ((j_lshl (f_X12_cut (w.toInt64 &&& 4294967295) 31 25) 5) ||| (f_X12_cut (w.toInt64 &&& 4294967295) 11 7)) 12 = j_lshr (j_lshl ((j_lshl (f_X12_cut (w.toInt64 &&& 4294967295) 31 25) 5) ||| (f_X12_cut (w.toInt64 &&& 4294967295) 11 7)) 52) 52 from rfl]
  rw [show f_X12_cut (w.toInt64 &&& 4294967295) 31 25 = j_lushr (w.toInt64 &&& 4294967295) 25 &&& 127 from rfl]
  rw [show f_X12_cut (w.toInt64 &&& 4294967295) 11 7 = j_lushr (w.toInt64 &&& 4294967295) 7 &&& 31 from rfl]
  refine qb_ext (al_64 ?_)
  simp [qb_or, qb_and, qb_xor, qt_or, qt_and, qt_xor, qb_lit, qt_lit, qb_m1, qt_m1, qb_not, qt_not, qbn_2, qbn_3, qbn_4, qbn_8, qbn_6145, qbn_786723, qb_ofI, qt_ofL, sh6_lit, sh5_lit, qb_shl, qb_sshr, qb_ushr, qt_shl, qt_sshr, qt_ushr, Nat.testBit_eq_decide_div_mod_eq, qt_big, qb_big, qt_s31]
theorem fl_g (w : Int32) : f_X12_cut (w.toInt64 &&& 4294967295) 31 25 = (j_iushr w 25).toInt64 := by
  rw [show f_X12_cut (w.toInt64 &&& 4294967295) 31 25 = j_lushr (w.toInt64 &&& 4294967295) 25 &&& 127 from rfl]
  refine qb_ext (al_64 ?_)
  simp [qb_or, qb_and, qb_xor, qt_or, qt_and, qt_xor, qb_lit, qt_lit, qb_m1, qt_m1, qb_not, qt_not, qbn_2, qbn_3, qbn_4, qbn_8, qbn_6145, qbn_786723, qb_ofI, qt_ofL, sh6_lit, sh5_lit, qb_shl, qb_sshr, qb_ushr, qt_shl, qt_sshr, qt_ushr, Nat.testBit_eq_decide_div_mod_eq, qt_big, qb_big, qt_s31]
theorem fl_g6 (w : Int32) : f_X12_cut (w.toInt64 &&& 4294967295) 31 26 = (j_iushr w 26).toInt64 := by
  rw [show f_X12_cut (w.toInt64 &&& 4294967295) 31 26 = j_lushr (w.toInt64 &&& 4294967295) 26 &&& 63 from rfl]
  refine qb_ext (al_64 ?_)
  simp [qb_or, qb_and, qb_xor, qt_or, qt_and, qt_xor, qb_lit, qt_lit, qb_m1, qt_m1, qb_not, qt_not, qbn_2, qbn_3, qbn_4, qbn_8, qbn_6145, qbn_786723, qb_ofI, qt_ofL, sh6_lit, sh5_lit, qb_shl, qb_sshr, qb_ushr, qt_shl, qt_sshr, qt_ushr, Nat.testBit_eq_decide_div_mod_eq, qt_big, qb_big, qt_s31]
theorem fl_o5 (w : Int32) : (f_X12_cut (w.toInt64 &&& 4294967295) 31 27).toInt32 = j_iushr w 27 := by
  rw [show f_X12_cut (w.toInt64 &&& 4294967295) 31 27 = j_lushr (w.toInt64 &&& 4294967295) 27 &&& 31 from rfl]
  refine qt_ext (al_32 ?_)
  simp [qb_or, qb_and, qb_xor, qt_or, qt_and, qt_xor, qb_lit, qt_lit, qb_m1, qt_m1, qb_not, qt_not, qbn_2, qbn_3, qbn_4, qbn_8, qbn_6145, qbn_786723, qb_ofI, qt_ofL, sh6_lit, sh5_lit, qb_shl, qb_sshr, qb_ushr, qt_shl, qt_sshr, qt_ushr, Nat.testBit_eq_decide_div_mod_eq, qt_big, qb_big, qt_s31]
theorem fl_n (w : Int32) : (f_X12_cut (w.toInt64 &&& 4294967295) 31 20).toInt32 = j_iushr w 20 := by
  rw [show f_X12_cut (w.toInt64 &&& 4294967295) 31 20 = j_lushr (w.toInt64 &&& 4294967295) 20 &&& 4095 from rfl]
  refine qt_ext (al_32 ?_)
  simp [qb_or, qb_and, qb_xor, qt_or, qt_and, qt_xor, qb_lit, qt_lit, qb_m1, qt_m1, qb_not, qt_not, qbn_2, qbn_3, qbn_4, qbn_8, qbn_6145, qbn_786723, qb_ofI, qt_ofL, sh6_lit, sh5_lit, qb_shl, qb_sshr, qb_ushr, qt_shl, qt_sshr, qt_ushr, Nat.testBit_eq_decide_div_mod_eq, qt_big, qb_big, qt_s31]
theorem fl_r2l (w : Int32) : f_X12_cut (w.toInt64 &&& 4294967295) 24 20 = ((w >>> ((20 : Int32) &&& 31)) &&& 31).toInt64 := by
  rw [show f_X12_cut (w.toInt64 &&& 4294967295) 24 20 = j_lushr (w.toInt64 &&& 4294967295) 20 &&& 31 from rfl]
  refine qb_ext (al_64 ?_)
  simp [qb_or, qb_and, qb_xor, qt_or, qt_and, qt_xor, qb_lit, qt_lit, qb_m1, qt_m1, qb_not, qt_not, qbn_2, qbn_3, qbn_4, qbn_8, qbn_6145, qbn_786723, qb_ofI, qt_ofL, sh6_lit, sh5_lit, qb_shl, qb_sshr, qb_ushr, qt_shl, qt_sshr, qt_ushr, Nat.testBit_eq_decide_div_mod_eq, qt_big, qb_big, qt_s31]
theorem fl_rdl (w : Int32) : f_X12_cut (w.toInt64 &&& 4294967295) 11 7 = ((w >>> ((7 : Int32) &&& 31)) &&& 31).toInt64 := by
  rw [show f_X12_cut (w.toInt64 &&& 4294967295) 11 7 = j_lushr (w.toInt64 &&& 4294967295) 7 &&& 31 from rfl]
  refine qb_ext (al_64 ?_)
  simp [qb_or, qb_and, qb_xor, qt_or, qt_and, qt_xor, qb_lit, qt_lit, qb_m1, qt_m1, qb_not, qt_not, qbn_2, qbn_3, qbn_4, qbn_8, qbn_6145, qbn_786723, qb_ofI, qt_ofL, sh6_lit, sh5_lit, qb_shl, qb_sshr, qb_ushr, qt_shl, qt_sshr, qt_ushr, Nat.testBit_eq_decide_div_mod_eq, qt_big, qb_big, qt_s31]
theorem ev_j (w : Int32) : (f_X6_jumpOffset w).toInt64 &&& 1 = 0 := by
  unfold f_X6_jumpOffset
  refine qb_ext (al_64 ?_)
  simp [qb_or, qb_and, qb_xor, qt_or, qt_and, qt_xor, qb_lit, qt_lit, qb_m1, qt_m1, qb_not, qt_not, qbn_2, qbn_3, qbn_4, qbn_8, qbn_6145, qbn_786723, qb_ofI, qt_ofL, sh6_lit, sh5_lit, qb_shl, qb_sshr, qb_ushr, qt_shl, qt_sshr, qt_ushr, Nat.testBit_eq_decide_div_mod_eq, qt_big, qb_big, qt_s31]
theorem ev_b (w : Int32) : (f_X6_branchOffset w).toInt64 &&& 1 = 0 := by
  unfold f_X6_branchOffset
  refine qb_ext (al_64 ?_)
  simp [qb_or, qb_and, qb_xor, qt_or, qt_and, qt_xor, qb_lit, qt_lit, qb_m1, qt_m1, qb_not, qt_not, qbn_2, qbn_3, qbn_4, qbn_8, qbn_6145, qbn_786723, qb_ofI, qt_ofL, sh6_lit, sh5_lit, qb_shl, qb_sshr, qb_ushr, qt_shl, qt_sshr, qt_ushr, Nat.testBit_eq_decide_div_mod_eq, qt_big, qb_big, qt_s31]
theorem W_low (w : Int32) : (w.toInt64 &&& 4294967295).toInt32 = w := by
  refine qt_ext (al_32 ?_)
  simp [qb_or, qb_and, qb_xor, qt_or, qt_and, qt_xor, qb_lit, qt_lit, qb_m1, qt_m1, qb_not, qt_not, qbn_2, qbn_3, qbn_4, qbn_8, qbn_6145, qbn_786723, qb_ofI, qt_ofL, sh6_lit, sh5_lit, qb_shl, qb_sshr, qb_ushr, qt_shl, qt_sshr, qt_ushr, Nat.testBit_eq_decide_div_mod_eq]
theorem ev_add {x y : Int64} (hx : x &&& 1 = 0) (hy : y &&& 1 = 0) : (x + y) &&& 1 = 0 := by
  have h0 : ∀ z : Int64, (z &&& 1 = 0) ↔ z.toBitVec.toNat % 2 = 0 := by
    intro z
    rw [bm_0]
    show z.toBitVec.toNat.testBit 0 = false ↔ _
    rw [Nat.testBit_zero]
    simp
  rw [h0] at *
  rw [Int64.toBitVec_add, BitVec.toNat_add]
  omega
theorem mpp_v (s : Int64) (h : s &&& 6144 ≠ 4096) : (j_lshr (s &&& 6144) 11).toInt32 = 0 ∨ (j_lshr (s &&& 6144) 11).toInt32 = 1 ∨ (j_lshr (s &&& 6144) 11).toInt32 = 3 := by
  have e : s &&& 6144 = (if qb s 11 = true then 2048 else 0) ||| (if qb s 12 = true then 4096 else 0) := by
    cases h1 : qb s 11 <;> cases h2 : qb s 12
    all_goals (refine qb_ext (al_64 ?_); simp [qb_or, qb_and, qb_xor, qt_or, qt_and, qt_xor, qb_lit, qt_lit, qb_m1, qt_m1, qb_not, qt_not, qbn_2, qbn_3, qbn_4, qbn_8, qbn_6145, qbn_786723, qb_ofI, qt_ofL, sh6_lit, sh5_lit, qb_shl, qb_sshr, qb_ushr, qt_shl, qt_sshr, qt_ushr, Nat.testBit_eq_decide_div_mod_eq, h1, h2])
  rw [e] at h ⊢
  cases h1 : qb s 11 <;> cases h2 : qb s 12
  · left; rfl
  · exfalso; rw [h1, h2] at h; exact h rfl
  · right; left; rfl
  · right; right; rfl
theorem phT {a u : St} (h : Rel a u) (v z : Int64) (K p l : Int32) {kC : Int64 → Int32 → Int32 → Int64 → Int32 → St → Option Int64} (hk : ∀ z, ∃ r, kC v K p (j_lshl z 12) (l + -1) a = some r) : ∃ r, f_X9_physical_b37_s kC v K p (j_lshl z 12) l a = some r := by
  obtain ⟨P, hN, hM⟩ := h.lens
  have p1 := hN.2.1
  unfold f_X9_physical_b37_s
  have h8 := t8_of z (j_lushr v ((12 : Int32) + 9 * l) &&& 511)
  generalize j_lshl z 12 + 8 * (j_lushr v ((12 : Int32) + 9 * l) &&& 511) = x at h8 ⊢
  split
  · exact ⟨_, rfl⟩
  · rcases ram_cases hN (m := 8) (by omega) (by omega) x with ⟨h1, h2⟩ | ⟨i, hi8, ex, hx2, h1, h2⟩
    · rw [if_pos (show f_X10_place x 8 a = -1 from h1)]
      exact ⟨_, rfl⟩
    · obtain ⟨e, r1, r2, -⟩ := rel_ramAt hN hM (m := 8) (Or.inr (Or.inr (Or.inr rfl))) hi8 (al8 (by omega) ex h8) hx2
      rw [show f_X10_place x 8 a = nI i from h1, if_neg (nI_m1 (by omega)), show f_X10_read (nI i) 8 a = some e from r1, Option.bind_some]
      have had : ∃ y, f_X9_admits e K p a = some y := by
        unfold f_X9_admits f_X9_admits_b15 f_X9_admits_b47 f_X9_admits_b51
        rw [if_pos (by decide : (0 : Int32) &&& 1 = 0), if_pos (by decide : (1 : Int32) &&& 1 = 1)]
        repeat' split
        all_goals exact ⟨_, rfl⟩
      obtain ⟨y, hy⟩ := had
      rw [hy, Option.bind_some]
      unfold f_X9_physical_b156 f_X9_physical_b157 f_X9_physical_b185
      split
      · split
        · split
          · exact hk _
          · exact ⟨_, rfl⟩
        · repeat' split
          all_goals exact ⟨_, rfl⟩
      · exact ⟨_, rfl⟩
theorem walk_0 {a u : St} (h : Rel a u) (v z : Int64) (p : Int32) : f_X9_physical_b37 FU v 0 p (j_lshl z 12) 2 a = f_X12_translated_b99 FU v 0 p (j_lshl z 12) 2 u ∧ ∃ r, f_X9_physical_b37 FU v 0 p (j_lshl z 12) 2 a = some r := by
  have c0 : ∀ z, f_X9_physical_b37 299997 v 0 p z (0 + -1) a = some (((-1 : Int32) - (f_X9_pageFault 0)).toInt64) := fun z => rfl
  have e0 : ∀ z, f_X9_physical_b37 299998 v 0 p (j_lshl z 12) (1 + -1) a = f_X12_translated_b99 299998 v 0 p (j_lshl z 12) (1 + -1) u := fun z => pg_0_0 h v z p (kM := f_X12_translated_b99 299997) c0
  have e1 : ∀ z, f_X9_physical_b37 299999 v 0 p (j_lshl z 12) (2 + -1) a = f_X12_translated_b99 299999 v 0 p (j_lshl z 12) (2 + -1) u := fun z => pg_0_1 h v z p e0
  have t0 : ∀ z, ∃ r, f_X9_physical_b37 299998 v 0 p (j_lshl z 12) (1 + -1) a = some r := fun z => phT h v z 0 p 0 (fun z => ⟨_, c0 _⟩)
  have t1 : ∀ z, ∃ r, f_X9_physical_b37 299999 v 0 p (j_lshl z 12) (2 + -1) a = some r := fun z => phT h v z 0 p 1 t0
  exact ⟨pg_0_2 h v z p e1, phT h v z 0 p 2 t1⟩
theorem tr_0 {a u : St} (h : Rel a u) (v : Int64) (p : Int32) (hp : p = 0 ∨ p = 1 ∨ p = 3) : f_X12_translates_b32 p u = f_X4_pages p a ∧ (f_X4_pages p a = 0 ∨ f_X4_pages p a = 1) ∧ f_X12_translated_b32 v 0 p u = (if f_X4_pages p a = 0 then some v else f_X9_physical v 0 p a) ∧ ∃ r, f_X12_translated_b32 v 0 p u = some r := by
  have h9 : gL u 23 = gL a 9 := h.longs.2.2.2.2.2.2.2.1
  obtain ⟨w1, r, w2⟩ := walk_0 h v (gL a 9 &&& 17592186044415) p
  unfold f_X12_translates_b32 f_X12_translates_b60 f_X4_pages f_X4_pages_b23 f_X12_translated_b32 f_X12_translated_b58 f_X9_physical
  rw [h9, cut_63_60, cut_43_0, sgn_39, ← w1, w2]
  have pf : (-1 : Int64) - (f_X12_pageFault 0).toInt64 = ((-1 : Int32) - (f_X9_pageFault 0)).toInt64 := by decide
  rw [pf]
  by_cases e : j_lushr (gL a 9) 60 = 8
  · rw [if_pos e, if_pos e]
    rcases hp with rfl | rfl | rfl
    · by_cases s : j_lshr (j_lshl v 25) 25 = v
      · simp [s, e]
      · simp [s, e]
    · by_cases s : j_lshr (j_lshl v 25) 25 = v
      · simp [s, e]
      · simp [s, e]
    · simp [e]
  · rw [if_neg e, if_neg e]
    rcases hp with rfl | rfl | rfl <;> simp [e]
theorem walk_1 {a u : St} (h : Rel a u) (v z : Int64) (p : Int32) : f_X9_physical_b37 FU v 1 p (j_lshl z 12) 2 a = f_X12_translated_b99 FU v 1 p (j_lshl z 12) 2 u ∧ ∃ r, f_X9_physical_b37 FU v 1 p (j_lshl z 12) 2 a = some r := by
  have c0 : ∀ z, f_X9_physical_b37 299997 v 1 p z (0 + -1) a = some (((-1 : Int32) - (f_X9_pageFault 1)).toInt64) := fun z => rfl
  have e0 : ∀ z, f_X9_physical_b37 299998 v 1 p (j_lshl z 12) (1 + -1) a = f_X12_translated_b99 299998 v 1 p (j_lshl z 12) (1 + -1) u := fun z => pg_1_0 h v z p (kM := f_X12_translated_b99 299997) c0
  have e1 : ∀ z, f_X9_physical_b37 299999 v 1 p (j_lshl z 12) (2 + -1) a = f_X12_translated_b99 299999 v 1 p (j_lshl z 12) (2 + -1) u := fun z => pg_1_1 h v z p e0
  have t0 : ∀ z, ∃ r, f_X9_physical_b37 299998 v 1 p (j_lshl z 12) (1 + -1) a = some r := fun z => phT h v z 1 p 0 (fun z => ⟨_, c0 _⟩)
  have t1 : ∀ z, ∃ r, f_X9_physical_b37 299999 v 1 p (j_lshl z 12) (2 + -1) a = some r := fun z => phT h v z 1 p 1 t0
  exact ⟨pg_1_2 h v z p e1, phT h v z 1 p 2 t1⟩
theorem tr_1 {a u : St} (h : Rel a u) (v : Int64) (p : Int32) (hp : p = 0 ∨ p = 1 ∨ p = 3) : f_X12_translates_b32 p u = f_X4_pages p a ∧ (f_X4_pages p a = 0 ∨ f_X4_pages p a = 1) ∧ f_X12_translated_b32 v 1 p u = (if f_X4_pages p a = 0 then some v else f_X9_physical v 1 p a) ∧ ∃ r, f_X12_translated_b32 v 1 p u = some r := by
  have h9 : gL u 23 = gL a 9 := h.longs.2.2.2.2.2.2.2.1
  obtain ⟨w1, r, w2⟩ := walk_1 h v (gL a 9 &&& 17592186044415) p
  unfold f_X12_translates_b32 f_X12_translates_b60 f_X4_pages f_X4_pages_b23 f_X12_translated_b32 f_X12_translated_b58 f_X9_physical
  rw [h9, cut_63_60, cut_43_0, sgn_39, ← w1, w2]
  have pf : (-1 : Int64) - (f_X12_pageFault 1).toInt64 = ((-1 : Int32) - (f_X9_pageFault 1)).toInt64 := by decide
  rw [pf]
  by_cases e : j_lushr (gL a 9) 60 = 8
  · rw [if_pos e, if_pos e]
    rcases hp with rfl | rfl | rfl
    · by_cases s : j_lshr (j_lshl v 25) 25 = v
      · simp [s, e]
      · simp [s, e]
    · by_cases s : j_lshr (j_lshl v 25) 25 = v
      · simp [s, e]
      · simp [s, e]
    · simp [e]
  · rw [if_neg e, if_neg e]
    rcases hp with rfl | rfl | rfl <;> simp [e]
theorem walk_2 {a u : St} (h : Rel a u) (v z : Int64) (p : Int32) : f_X9_physical_b37 FU v 2 p (j_lshl z 12) 2 a = f_X12_translated_b99 FU v 2 p (j_lshl z 12) 2 u ∧ ∃ r, f_X9_physical_b37 FU v 2 p (j_lshl z 12) 2 a = some r := by
  have c0 : ∀ z, f_X9_physical_b37 299997 v 2 p z (0 + -1) a = some (((-1 : Int32) - (f_X9_pageFault 2)).toInt64) := fun z => rfl
  have e0 : ∀ z, f_X9_physical_b37 299998 v 2 p (j_lshl z 12) (1 + -1) a = f_X12_translated_b99 299998 v 2 p (j_lshl z 12) (1 + -1) u := fun z => pg_2_0 h v z p (kM := f_X12_translated_b99 299997) c0
  have e1 : ∀ z, f_X9_physical_b37 299999 v 2 p (j_lshl z 12) (2 + -1) a = f_X12_translated_b99 299999 v 2 p (j_lshl z 12) (2 + -1) u := fun z => pg_2_1 h v z p e0
  have t0 : ∀ z, ∃ r, f_X9_physical_b37 299998 v 2 p (j_lshl z 12) (1 + -1) a = some r := fun z => phT h v z 2 p 0 (fun z => ⟨_, c0 _⟩)
  have t1 : ∀ z, ∃ r, f_X9_physical_b37 299999 v 2 p (j_lshl z 12) (2 + -1) a = some r := fun z => phT h v z 2 p 1 t0
  exact ⟨pg_2_2 h v z p e1, phT h v z 2 p 2 t1⟩
theorem tr_2 {a u : St} (h : Rel a u) (v : Int64) (p : Int32) (hp : p = 0 ∨ p = 1 ∨ p = 3) : f_X12_translates_b32 p u = f_X4_pages p a ∧ (f_X4_pages p a = 0 ∨ f_X4_pages p a = 1) ∧ f_X12_translated_b32 v 2 p u = (if f_X4_pages p a = 0 then some v else f_X9_physical v 2 p a) ∧ ∃ r, f_X12_translated_b32 v 2 p u = some r := by
  have h9 : gL u 23 = gL a 9 := h.longs.2.2.2.2.2.2.2.1
  obtain ⟨w1, r, w2⟩ := walk_2 h v (gL a 9 &&& 17592186044415) p
  unfold f_X12_translates_b32 f_X12_translates_b60 f_X4_pages f_X4_pages_b23 f_X12_translated_b32 f_X12_translated_b58 f_X9_physical
  rw [h9, cut_63_60, cut_43_0, sgn_39, ← w1, w2]
  have pf : (-1 : Int64) - (f_X12_pageFault 2).toInt64 = ((-1 : Int32) - (f_X9_pageFault 2)).toInt64 := by decide
  rw [pf]
  by_cases e : j_lushr (gL a 9) 60 = 8
  · rw [if_pos e, if_pos e]
    rcases hp with rfl | rfl | rfl
    · by_cases s : j_lshr (j_lshl v 25) 25 = v
      · simp [s, e]
      · simp [s, e]
    · by_cases s : j_lshr (j_lshl v 25) 25 = v
      · simp [s, e]
      · simp [s, e]
    · simp [e]
  · rw [if_neg e, if_neg e]
    rcases hp with rfl | rfl | rfl <;> simp [e]
theorem prv {a u : St} (h : Rel a u) (K : Int32) (hK : K = 0 ∨ K = 1 ∨ K = 2) : (f_X6_privilegeFor K a = 0 ∨ f_X6_privilegeFor K a = 1 ∨ f_X6_privilegeFor K a = 3) ∧ f_X12_translates K u = f_X12_translates_b32 (f_X6_privilegeFor K a) u ∧ ∀ v, f_X12_translated v K u = f_X12_translated_b32 v K (f_X6_privilegeFor K a) u := by
  obtain ⟨⟨v0, v1, v2, v3, v4, v5, v6, v7⟩, -⟩ := h.inv
  have h4 : gL u 4 = gL a 4 := h.longs.2.2.1
  have i2 : gI u 2 = gI a 16 := h.ints.1
  have m := mpp_v _ v4
  unfold f_X6_privilegeFor f_X6_privilegeFor_b27 f_X12_translates f_X12_translates_b28 f_X12_translated f_X12_translated_b28 f_X4_has f_X12_is f_X4_previousPrivilege
  rw [h4, i2, cut_12_11]
  rcases bt_17 (gL a 4) with ⟨s8, t8, r8⟩ | ⟨s8, t8, r8⟩
  · rw [t8]
    rcases hK with rfl | rfl | rfl <;> simp [r8, v7]
  · rw [t8]
    rcases hK with rfl | rfl | rfl <;> simp [r8, v7, m]
theorem rel_tr {a u : St} (h : Rel a u) (K : Int32) (hK : K = 0 ∨ K = 1 ∨ K = 2) (v : Int64) : f_X12_translates K u = f_X4_pages (f_X6_privilegeFor K a) a ∧ (f_X4_pages (f_X6_privilegeFor K a) a = 0 ∨ f_X4_pages (f_X6_privilegeFor K a) a = 1) ∧ f_X12_translated v K u = (if f_X4_pages (f_X6_privilegeFor K a) a = 0 then some v else f_X9_physical v K (f_X6_privilegeFor K a) a) ∧ ∃ r, f_X12_translated v K u = some r := by
  obtain ⟨q1, q2, q3⟩ := prv h K hK
  rw [q2, q3 v]
  rcases hK with rfl | rfl | rfl
  · exact tr_0 h v _ q1
  · exact tr_1 h v _ q1
  · exact tr_2 h v _ q1
theorem op_translate : Op_translate Rel Bud := by
  intro v n a u h
  rcases pk_ix n (n := 3) (by omega) with h0 | h0 | ⟨j, hj, rfl⟩
  · refine Or.inr ⟨0, sI u 0 1, ?_, ?_, rfl, h.thr 1⟩
    · simp [h0, f_X11_translate, f_X11_translate_b9]
    · simp [h0, f_X12_translate, f_X12_translate_b15, f_X12_translate_b10, fails_1]
  · have h1 : (3 : Int32) ≤ n := h0
    refine Or.inr ⟨0, sI u 0 1, ?_, ?_, rfl, h.thr 1⟩
    · simp [big_lt h1 (show (0 : Int32) ≤ 3 by decide), big_le h1 (show (2 : Int32) < 3 by decide), f_X11_translate, f_X11_translate_b9]
    · simp [big_lt h1 (show (0 : Int32) ≤ 3 by decide), big_le h1 (show (2 : Int32) < 3 by decide), f_X12_translate, f_X12_translate_b15, f_X12_translate_b10, fails_1]
  · left
    have hK : nI j = 0 ∨ nI j = 1 ∨ nI j = 2 := by
      match j, hj with
      | 0, _ => exact Or.inl rfl
      | 1, _ => exact Or.inr (Or.inl rfl)
      | 2, _ => exact Or.inr (Or.inr rfl)
    have p0 : ¬ nI j < 0 := nI_pos (by omega)
    have p1 : nI j ≤ 2 := nI_le (b := 2) (by omega) (by omega)
    obtain ⟨-, -, q3, r, q4⟩ := rel_tr (h.thr 0) (nI j) hK v
    refine ⟨r, r, sI u 0 0, ?_, ?_, rfl, rfl, h.thr 0⟩
    · unfold f_X11_translate
      rw [if_neg p0, if_pos p1]
      rw [q4] at q3
      split at q3
      · rename_i e
        cases q3
        rw [if_pos e]
        rfl
      · rename_i e
        rw [if_neg e, ← q3]
        rfl
    · unfold f_X12_translate f_X12_translate_b15
      rw [if_neg p0, if_pos p1, fails_0, Option.bind_some, if_pos rfl]
      show (f_X12_translated v (nI j) (sI u 0 0)).bind _ = _
      rw [q4]
      rfl

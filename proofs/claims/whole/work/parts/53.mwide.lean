theorem pk_c65432 (X : Int64) : f_X12_pick X 12997682 = some (((((((0 : Int64) ||| j_lshl (j_lshr X 2 &&& 1) 0) ||| j_lshl (j_lshr X 3 &&& 1) 1) ||| j_lshl (j_lshr X 4 &&& 1) 2) ||| j_lshl (j_lshr X 5 &&& 1) 3) ||| j_lshl (j_lshr X 6 &&& 1) 4) ||| j_lshl (j_lshr X 12 &&& 1) 5) := rfl
theorem pk_5cba6 (X : Int64) : f_X12_pick X 379814 = some ((((((0 : Int64) ||| j_lshl (j_lshr X 6 &&& 1) 0) ||| j_lshl (j_lshr X 10 &&& 1) 1) ||| j_lshl (j_lshr X 11 &&& 1) 2) ||| j_lshl (j_lshr X 12 &&& 1) 3) ||| j_lshl (j_lshr X 5 &&& 1) 4) := rfl
theorem pk_65cba (X : Int64) : f_X12_pick X 416954 = some ((((((0 : Int64) ||| j_lshl (j_lshr X 10 &&& 1) 0) ||| j_lshl (j_lshr X 11 &&& 1) 1) ||| j_lshl (j_lshr X 12 &&& 1) 2) ||| j_lshl (j_lshr X 5 &&& 1) 3) ||| j_lshl (j_lshr X 6 &&& 1) 4) := rfl
theorem pk_a987cb56 (X : Int64) : f_X12_pick X 2844248918 = some (((((((((0 : Int64) ||| j_lshl (j_lshr X 6 &&& 1) 0) ||| j_lshl (j_lshr X 5 &&& 1) 1) ||| j_lshl (j_lshr X 11 &&& 1) 2) ||| j_lshl (j_lshr X 12 &&& 1) 3) ||| j_lshl (j_lshr X 7 &&& 1) 4) ||| j_lshl (j_lshr X 8 &&& 1) 5) ||| j_lshl (j_lshr X 9 &&& 1) 6) ||| j_lshl (j_lshr X 10 &&& 1) 7) := rfl
theorem pk_c43526 (X : Int64) : f_X12_pick X 12858662 = some (((((((0 : Int64) ||| j_lshl (j_lshr X 6 &&& 1) 0) ||| j_lshl (j_lshr X 2 &&& 1) 1) ||| j_lshl (j_lshr X 5 &&& 1) 2) ||| j_lshl (j_lshr X 3 &&& 1) 3) ||| j_lshl (j_lshr X 4 &&& 1) 4) ||| j_lshl (j_lshr X 12 &&& 1) 5) := rfl
theorem pk_c8a9672b543 (X : Int64) : f_X12_pick X 13789369120067 = some ((((((((((((0 : Int64) ||| j_lshl (j_lshr X 3 &&& 1) 0) ||| j_lshl (j_lshr X 4 &&& 1) 1) ||| j_lshl (j_lshr X 5 &&& 1) 2) ||| j_lshl (j_lshr X 11 &&& 1) 3) ||| j_lshl (j_lshr X 2 &&& 1) 4) ||| j_lshl (j_lshr X 7 &&& 1) 5) ||| j_lshl (j_lshr X 6 &&& 1) 6) ||| j_lshl (j_lshr X 9 &&& 1) 7) ||| j_lshl (j_lshr X 10 &&& 1) 8) ||| j_lshl (j_lshr X 8 &&& 1) 9) ||| j_lshl (j_lshr X 12 &&& 1) 10) := rfl
theorem pk_c652ba43 (X : Int64) : f_X12_pick X 3327310403 = some (((((((((0 : Int64) ||| j_lshl (j_lshr X 3 &&& 1) 0) ||| j_lshl (j_lshr X 4 &&& 1) 1) ||| j_lshl (j_lshr X 10 &&& 1) 2) ||| j_lshl (j_lshr X 11 &&& 1) 3) ||| j_lshl (j_lshr X 2 &&& 1) 4) ||| j_lshl (j_lshr X 5 &&& 1) 5) ||| j_lshl (j_lshr X 6 &&& 1) 6) ||| j_lshl (j_lshr X 12 &&& 1) 7) := rfl
theorem pk_32c654 (X : Int64) : f_X12_pick X 3327572 = some (((((((0 : Int64) ||| j_lshl (j_lshr X 4 &&& 1) 0) ||| j_lshl (j_lshr X 5 &&& 1) 1) ||| j_lshl (j_lshr X 6 &&& 1) 2) ||| j_lshl (j_lshr X 12 &&& 1) 3) ||| j_lshl (j_lshr X 2 &&& 1) 4) ||| j_lshl (j_lshr X 3 &&& 1) 5) := rfl
theorem pk_432c65 (X : Int64) : f_X12_pick X 4402277 = some (((((((0 : Int64) ||| j_lshl (j_lshr X 5 &&& 1) 0) ||| j_lshl (j_lshr X 6 &&& 1) 1) ||| j_lshl (j_lshr X 12 &&& 1) 2) ||| j_lshl (j_lshr X 2 &&& 1) 3) ||| j_lshl (j_lshr X 3 &&& 1) 4) ||| j_lshl (j_lshr X 4 &&& 1) 5) := rfl
theorem pk_87cba9 (X : Int64) : f_X12_pick X 8899497 = some (((((((0 : Int64) ||| j_lshl (j_lshr X 9 &&& 1) 0) ||| j_lshl (j_lshr X 10 &&& 1) 1) ||| j_lshl (j_lshr X 11 &&& 1) 2) ||| j_lshl (j_lshr X 12 &&& 1) 3) ||| j_lshl (j_lshr X 7 &&& 1) 4) ||| j_lshl (j_lshr X 8 &&& 1) 5) := rfl
theorem pk_987cba (X : Int64) : f_X12_pick X 9993402 = some (((((((0 : Int64) ||| j_lshl (j_lshr X 10 &&& 1) 0) ||| j_lshl (j_lshr X 11 &&& 1) 1) ||| j_lshl (j_lshr X 12 &&& 1) 2) ||| j_lshl (j_lshr X 7 &&& 1) 3) ||| j_lshl (j_lshr X 8 &&& 1) 4) ||| j_lshl (j_lshr X 9 &&& 1) 5) := rfl
theorem un_shl (x : Int64) (y : Int32) : un (j_lshl x y) = un x * 2 ^ sh6 y % 18446744073709551616 := by
  refine Nat.eq_of_testBit_eq (fun i => ?_)
  rw [un_bit, qb_shl, show (18446744073709551616 : Nat) = 2 ^ 64 from rfl, Nat.testBit_mod_two_pow, Nat.testBit_mul_two_pow, un_bit]
  by_cases h : i < sh6 y
  · simp [h, show ¬ sh6 y ≤ i by omega]
  · simp [h, show sh6 y ≤ i by omega]
theorem ml_2 (x : Int64) : x * 2 = j_lshl x 1 := un_ext (by rw [un_mul, un_shl]; rfl)
theorem ml_4 (x : Int64) : x * 4 = j_lshl x 2 := un_ext (by rw [un_mul, un_shl]; rfl)
theorem ml_8 (x : Int64) : x * 8 = j_lshl x 3 := un_ext (by rw [un_mul, un_shl]; rfl)
theorem ml_16 (x : Int64) : x * 16 = j_lshl x 4 := un_ext (by rw [un_mul, un_shl]; rfl)
theorem or8i (z : Int32) : 8 + (z &&& 7) = (8 ||| (z &&& 7)) := by
  obtain ⟨k, hk, e⟩ := pk_andE z (m := 7) 3 rfl
  rw [e]
  match k, hk with
  | 0, _ => rfl
  | 1, _ => rfl
  | 2, _ => rfl
  | 3, _ => rfl
  | 4, _ => rfl
  | 5, _ => rfl
  | 6, _ => rfl
  | 7, _ => rfl
theorem or8l (z : Int64) : 8 + (z &&& 7) = (8 ||| (z &&& 7)) := by
  have h := un_mask z 3 (by omega)
  have hk : un z % 2 ^ 3 < 8 := Nat.mod_lt _ (by decide)
  have e : z &&& 7 = lN (un z % 2 ^ 3) := by
    apply un_ext
    rw [un_lN, ← h]
    show un (z &&& 7) = un (z &&& 7) % _
    have := un_lt (z &&& 7)
    omega
  rw [e]
  generalize un z % 2 ^ 3 = k at hk
  match k, hk with
  | 0, _ => rfl
  | 1, _ => rfl
  | 2, _ => rfl
  | 3, _ => rfl
  | 4, _ => rfl
  | 5, _ => rfl
  | 6, _ => rfl
  | 7, _ => rfl
theorem hi_0 {h : Int32} (q : qt h 12 = false) : f_X5_highest h = 0 := by
  unfold f_X5_highest
  rw [ts_i, show sh5 12 = 12 from rfl, q]
  rfl
theorem hi_1 {h : Int32} (q : qt h 12 = true) : f_X5_highest h = -1 := by
  unfold f_X5_highest
  rw [ts_i, show sh5 12 = 12 from rfl, q]
  rfl
theorem wz_r (y : Int32) : f_X12_cut (y &&& 65535).toInt64 11 7 = (f_X5_bits (y &&& 65535) 7 31).toInt64 := by
  rw [show f_X12_cut (y &&& 65535).toInt64 11 7 = j_lushr (y &&& 65535).toInt64 7 &&& 31 from rfl]
  refine qb_ext (al_64 ?_)
  simp [f_X5_bits, qb_or, qb_and, qb_xor, qt_or, qt_and, qt_xor, qb_lit, qt_lit, qb_m1, qt_m1, qb_not, qt_not, qbn_2, qbn_3, qbn_4, qbn_8, qbn_6145, qbn_786723, qb_ofI, qt_ofL, sh6_lit, sh5_lit, qb_shl, qb_sshr, qb_ushr, qt_shl, qt_sshr, qt_ushr, Nat.testBit_eq_decide_div_mod_eq, qt_big, qb_big, qt_s31, qt_l31]
theorem wz_s (y : Int32) : f_X12_cut (y &&& 65535).toInt64 6 2 = (f_X5_bits (y &&& 65535) 2 31).toInt64 := by
  rw [show f_X12_cut (y &&& 65535).toInt64 6 2 = j_lushr (y &&& 65535).toInt64 2 &&& 31 from rfl]
  refine qb_ext (al_64 ?_)
  simp [f_X5_bits, qb_or, qb_and, qb_xor, qt_or, qt_and, qt_xor, qb_lit, qt_lit, qb_m1, qt_m1, qb_not, qt_not, qbn_2, qbn_3, qbn_4, qbn_8, qbn_6145, qbn_786723, qb_ofI, qt_ofL, sh6_lit, sh5_lit, qb_shl, qb_sshr, qb_ushr, qt_shl, qt_sshr, qt_ushr, Nat.testBit_eq_decide_div_mod_eq, qt_big, qb_big, qt_s31, qt_l31]
theorem wz_r8 (y : Int32) : 8 + f_X12_cut (y &&& 65535).toInt64 9 7 = (8 + f_X5_bits (y &&& 65535) 7 7).toInt64 := by
  rw [show f_X12_cut (y &&& 65535).toInt64 9 7 = j_lushr (y &&& 65535).toInt64 7 &&& 7 from rfl]
  rw [or8l]
  unfold f_X5_bits
  rw [or8i]
  refine qb_ext (al_64 ?_)
  simp [f_X5_bits, qb_or, qb_and, qb_xor, qt_or, qt_and, qt_xor, qb_lit, qt_lit, qb_m1, qt_m1, qb_not, qt_not, qbn_2, qbn_3, qbn_4, qbn_8, qbn_6145, qbn_786723, qb_ofI, qt_ofL, sh6_lit, sh5_lit, qb_shl, qb_sshr, qb_ushr, qt_shl, qt_sshr, qt_ushr, Nat.testBit_eq_decide_div_mod_eq, qt_big, qb_big, qt_s31, qt_l31]
theorem wz_s8 (y : Int32) : 8 + f_X12_cut (y &&& 65535).toInt64 4 2 = (8 + f_X5_bits (y &&& 65535) 2 7).toInt64 := by
  rw [show f_X12_cut (y &&& 65535).toInt64 4 2 = j_lushr (y &&& 65535).toInt64 2 &&& 7 from rfl]
  rw [or8l]
  unfold f_X5_bits
  rw [or8i]
  refine qb_ext (al_64 ?_)
  simp [f_X5_bits, qb_or, qb_and, qb_xor, qt_or, qt_and, qt_xor, qb_lit, qt_lit, qb_m1, qt_m1, qb_not, qt_not, qbn_2, qbn_3, qbn_4, qbn_8, qbn_6145, qbn_786723, qb_ofI, qt_ofL, sh6_lit, sh5_lit, qb_shl, qb_sshr, qb_ushr, qt_shl, qt_sshr, qt_ushr, Nat.testBit_eq_decide_div_mod_eq, qt_big, qb_big, qt_s31, qt_l31]
theorem wz_four (y : Int32) : ((((((0 : Int64) ||| j_lshl (j_lshr (y &&& 65535).toInt64 6 &&& 1) 0) ||| j_lshl (j_lshr (y &&& 65535).toInt64 10 &&& 1) 1) ||| j_lshl (j_lshr (y &&& 65535).toInt64 11 &&& 1) 2) ||| j_lshl (j_lshr (y &&& 65535).toInt64 12 &&& 1) 3) ||| j_lshl (j_lshr (y &&& 65535).toInt64 5 &&& 1) 4) * 4 = ((((f_X5_bits (y &&& 65535) 5 1) <<< ((6 : Int32) &&& 31)) ||| ((f_X5_bits (y &&& 65535) 10 7) <<< ((3 : Int32) &&& 31))) ||| ((f_X5_bits (y &&& 65535) 6 1) <<< ((2 : Int32) &&& 31))).toInt64 := by
  rw [ml_4]
  refine qb_ext (al_64 ?_)
  simp [f_X5_bits, qb_or, qb_and, qb_xor, qt_or, qt_and, qt_xor, qb_lit, qt_lit, qb_m1, qt_m1, qb_not, qt_not, qbn_2, qbn_3, qbn_4, qbn_8, qbn_6145, qbn_786723, qb_ofI, qt_ofL, sh6_lit, sh5_lit, qb_shl, qb_sshr, qb_ushr, qt_shl, qt_sshr, qt_ushr, Nat.testBit_eq_decide_div_mod_eq, qt_big, qb_big, qt_s31, qt_l31]
theorem wz_eight (y : Int32) : ((((((0 : Int64) ||| j_lshl (j_lshr (y &&& 65535).toInt64 10 &&& 1) 0) ||| j_lshl (j_lshr (y &&& 65535).toInt64 11 &&& 1) 1) ||| j_lshl (j_lshr (y &&& 65535).toInt64 12 &&& 1) 2) ||| j_lshl (j_lshr (y &&& 65535).toInt64 5 &&& 1) 3) ||| j_lshl (j_lshr (y &&& 65535).toInt64 6 &&& 1) 4) * 8 = (((f_X5_bits (y &&& 65535) 5 3) <<< ((6 : Int32) &&& 31)) ||| ((f_X5_bits (y &&& 65535) 10 7) <<< ((3 : Int32) &&& 31))).toInt64 := by
  rw [ml_8]
  refine qb_ext (al_64 ?_)
  simp [f_X5_bits, qb_or, qb_and, qb_xor, qt_or, qt_and, qt_xor, qb_lit, qt_lit, qb_m1, qt_m1, qb_not, qt_not, qbn_2, qbn_3, qbn_4, qbn_8, qbn_6145, qbn_786723, qb_ofI, qt_ofL, sh6_lit, sh5_lit, qb_shl, qb_sshr, qb_ushr, qt_shl, qt_sshr, qt_ushr, Nat.testBit_eq_decide_div_mod_eq, qt_big, qb_big, qt_s31, qt_l31]
theorem wz_up (y : Int32) : (((((((((0 : Int64) ||| j_lshl (j_lshr (y &&& 65535).toInt64 6 &&& 1) 0) ||| j_lshl (j_lshr (y &&& 65535).toInt64 5 &&& 1) 1) ||| j_lshl (j_lshr (y &&& 65535).toInt64 11 &&& 1) 2) ||| j_lshl (j_lshr (y &&& 65535).toInt64 12 &&& 1) 3) ||| j_lshl (j_lshr (y &&& 65535).toInt64 7 &&& 1) 4) ||| j_lshl (j_lshr (y &&& 65535).toInt64 8 &&& 1) 5) ||| j_lshl (j_lshr (y &&& 65535).toInt64 9 &&& 1) 6) ||| j_lshl (j_lshr (y &&& 65535).toInt64 10 &&& 1) 7) * 4 = (((((f_X5_bits (y &&& 65535) 7 15) <<< ((6 : Int32) &&& 31)) ||| ((f_X5_bits (y &&& 65535) 11 3) <<< ((4 : Int32) &&& 31))) ||| ((f_X5_bits (y &&& 65535) 5 1) <<< ((3 : Int32) &&& 31))) ||| ((f_X5_bits (y &&& 65535) 6 1) <<< ((2 : Int32) &&& 31))).toInt64 := by
  rw [ml_4]
  refine qb_ext (al_64 ?_)
  simp [f_X5_bits, qb_or, qb_and, qb_xor, qt_or, qt_and, qt_xor, qb_lit, qt_lit, qb_m1, qt_m1, qb_not, qt_not, qbn_2, qbn_3, qbn_4, qbn_8, qbn_6145, qbn_786723, qb_ofI, qt_ofL, sh6_lit, sh5_lit, qb_shl, qb_sshr, qb_ushr, qt_shl, qt_sshr, qt_ushr, Nat.testBit_eq_decide_div_mod_eq, qt_big, qb_big, qt_s31, qt_l31]
theorem wz_i6 (y : Int32) : f_X12_signed (((((((0 : Int64) ||| j_lshl (j_lshr (y &&& 65535).toInt64 2 &&& 1) 0) ||| j_lshl (j_lshr (y &&& 65535).toInt64 3 &&& 1) 1) ||| j_lshl (j_lshr (y &&& 65535).toInt64 4 &&& 1) 2) ||| j_lshl (j_lshr (y &&& 65535).toInt64 5 &&& 1) 3) ||| j_lshl (j_lshr (y &&& 65535).toInt64 6 &&& 1) 4) ||| j_lshl (j_lshr (y &&& 65535).toInt64 12 &&& 1) 5) 6 = (((f_X5_highest (y &&& 65535)) <<< ((5 : Int32) &&& 31)) ||| (f_X5_bits (y &&& 65535) 2 31)).toInt64 := by
  rw [show f_X12_signed (((((((0 : Int64) ||| j_lshl (j_lshr (y &&& 65535).toInt64 2 &&& 1) 0) ||| j_lshl (j_lshr (y &&& 65535).toInt64 3 &&& 1) 1) ||| j_lshl (j_lshr (y &&& 65535).toInt64 4 &&& 1) 2) ||| j_lshl (j_lshr (y &&& 65535).toInt64 5 &&& 1) 3) ||| j_lshl (j_lshr (y &&& 65535).toInt64 6 &&& 1) 4) ||| j_lshl (j_lshr (y &&& 65535).toInt64 12 &&& 1) 5) 6 = j_lshr (j_lshl (((((((0 : Int64) ||| j_lshl (j_lshr (y &&& 65535).toInt64 2 &&& 1) 0) ||| j_lshl (j_lshr (y &&& 65535).toInt64 3 &&& 1) 1) ||| j_lshl (j_lshr (y &&& 65535).toInt64 4 &&& 1) 2) ||| j_lshl (j_lshr (y &&& 65535).toInt64 5 &&& 1) 3) ||| j_lshl (j_lshr (y &&& 65535).toInt64 6 &&& 1) 4) ||| j_lshl (j_lshr (y &&& 65535).toInt64 12 &&& 1) 5) 58) 58 from rfl]
  cases q : qt (y &&& 65535) 12
  · rw [hi_0 q]
    have q2 : qt y 12 = false := by simpa [qb_or, qb_and, qb_xor, qt_or, qt_and, qt_xor, qb_lit, qt_lit, qb_m1, qt_m1, qb_not, qt_not, qbn_2, qbn_3, qbn_4, qbn_8, qbn_6145, qbn_786723, qb_ofI, qt_ofL, sh6_lit, sh5_lit, qb_shl, qb_sshr, qb_ushr, qt_shl, qt_sshr, qt_ushr, Nat.testBit_eq_decide_div_mod_eq] using q
    refine qb_ext (al_64 ?_)
    simp [f_X5_bits, qb_or, qb_and, qb_xor, qt_or, qt_and, qt_xor, qb_lit, qt_lit, qb_m1, qt_m1, qb_not, qt_not, qbn_2, qbn_3, qbn_4, qbn_8, qbn_6145, qbn_786723, qb_ofI, qt_ofL, sh6_lit, sh5_lit, qb_shl, qb_sshr, qb_ushr, qt_shl, qt_sshr, qt_ushr, Nat.testBit_eq_decide_div_mod_eq, qt_big, qb_big, qt_s31, qt_l31, q2]
  · rw [hi_1 q]
    have q2 : qt y 12 = true := by simpa [qb_or, qb_and, qb_xor, qt_or, qt_and, qt_xor, qb_lit, qt_lit, qb_m1, qt_m1, qb_not, qt_not, qbn_2, qbn_3, qbn_4, qbn_8, qbn_6145, qbn_786723, qb_ofI, qt_ofL, sh6_lit, sh5_lit, qb_shl, qb_sshr, qb_ushr, qt_shl, qt_sshr, qt_ushr, Nat.testBit_eq_decide_div_mod_eq] using q
    refine qb_ext (al_64 ?_)
    simp [f_X5_bits, qb_or, qb_and, qb_xor, qt_or, qt_and, qt_xor, qb_lit, qt_lit, qb_m1, qt_m1, qb_not, qt_not, qbn_2, qbn_3, qbn_4, qbn_8, qbn_6145, qbn_786723, qb_ofI, qt_ofL, sh6_lit, sh5_lit, qb_shl, qb_sshr, qb_ushr, qt_shl, qt_sshr, qt_ushr, Nat.testBit_eq_decide_div_mod_eq, qt_big, qb_big, qt_s31, qt_l31, q2]
theorem wz_stack (y : Int32) : f_X12_signed (((((((0 : Int64) ||| j_lshl (j_lshr (y &&& 65535).toInt64 6 &&& 1) 0) ||| j_lshl (j_lshr (y &&& 65535).toInt64 2 &&& 1) 1) ||| j_lshl (j_lshr (y &&& 65535).toInt64 5 &&& 1) 2) ||| j_lshl (j_lshr (y &&& 65535).toInt64 3 &&& 1) 3) ||| j_lshl (j_lshr (y &&& 65535).toInt64 4 &&& 1) 4) ||| j_lshl (j_lshr (y &&& 65535).toInt64 12 &&& 1) 5) 6 * 16 = ((((((f_X5_highest (y &&& 65535)) <<< ((9 : Int32) &&& 31)) ||| ((f_X5_bits (y &&& 65535) 3 3) <<< ((7 : Int32) &&& 31))) ||| ((f_X5_bits (y &&& 65535) 5 1) <<< ((6 : Int32) &&& 31))) ||| ((f_X5_bits (y &&& 65535) 2 1) <<< ((5 : Int32) &&& 31))) ||| ((f_X5_bits (y &&& 65535) 6 1) <<< ((4 : Int32) &&& 31))).toInt64 := by
  rw [show f_X12_signed (((((((0 : Int64) ||| j_lshl (j_lshr (y &&& 65535).toInt64 6 &&& 1) 0) ||| j_lshl (j_lshr (y &&& 65535).toInt64 2 &&& 1) 1) ||| j_lshl (j_lshr (y &&& 65535).toInt64 5 &&& 1) 2) ||| j_lshl (j_lshr (y &&& 65535).toInt64 3 &&& 1) 3) ||| j_lshl (j_lshr (y &&& 65535).toInt64 4 &&& 1) 4) ||| j_lshl (j_lshr (y &&& 65535).toInt64 12 &&& 1) 5) 6 = j_lshr (j_lshl (((((((0 : Int64) ||| j_lshl (j_lshr (y &&& 65535).toInt64 6 &&& 1) 0) ||| j_lshl (j_lshr (y &&& 65535).toInt64 2 &&& 1) 1) ||| j_lshl (j_lshr (y &&& 65535).toInt64 5 &&& 1) 2) ||| j_lshl (j_lshr (y &&& 65535).toInt64 3 &&& 1) 3) ||| j_lshl (j_lshr (y &&& 65535).toInt64 4 &&& 1) 4) ||| j_lshl (j_lshr (y &&& 65535).toInt64 12 &&& 1) 5) 58) 58 from rfl]
  rw [ml_16]
  cases q : qt (y &&& 65535) 12
  · rw [hi_0 q]
    have q2 : qt y 12 = false := by simpa [qb_or, qb_and, qb_xor, qt_or, qt_and, qt_xor, qb_lit, qt_lit, qb_m1, qt_m1, qb_not, qt_not, qbn_2, qbn_3, qbn_4, qbn_8, qbn_6145, qbn_786723, qb_ofI, qt_ofL, sh6_lit, sh5_lit, qb_shl, qb_sshr, qb_ushr, qt_shl, qt_sshr, qt_ushr, Nat.testBit_eq_decide_div_mod_eq] using q
    refine qb_ext (al_64 ?_)
    simp [f_X5_bits, qb_or, qb_and, qb_xor, qt_or, qt_and, qt_xor, qb_lit, qt_lit, qb_m1, qt_m1, qb_not, qt_not, qbn_2, qbn_3, qbn_4, qbn_8, qbn_6145, qbn_786723, qb_ofI, qt_ofL, sh6_lit, sh5_lit, qb_shl, qb_sshr, qb_ushr, qt_shl, qt_sshr, qt_ushr, Nat.testBit_eq_decide_div_mod_eq, qt_big, qb_big, qt_s31, qt_l31, q2]
  · rw [hi_1 q]
    have q2 : qt y 12 = true := by simpa [qb_or, qb_and, qb_xor, qt_or, qt_and, qt_xor, qb_lit, qt_lit, qb_m1, qt_m1, qb_not, qt_not, qbn_2, qbn_3, qbn_4, qbn_8, qbn_6145, qbn_786723, qb_ofI, qt_ofL, sh6_lit, sh5_lit, qb_shl, qb_sshr, qb_ushr, qt_shl, qt_sshr, qt_ushr, Nat.testBit_eq_decide_div_mod_eq] using q
    refine qb_ext (al_64 ?_)
    simp [f_X5_bits, qb_or, qb_and, qb_xor, qt_or, qt_and, qt_xor, qb_lit, qt_lit, qb_m1, qt_m1, qb_not, qt_not, qbn_2, qbn_3, qbn_4, qbn_8, qbn_6145, qbn_786723, qb_ofI, qt_ofL, sh6_lit, sh5_lit, qb_shl, qb_sshr, qb_ushr, qt_shl, qt_sshr, qt_ushr, Nat.testBit_eq_decide_div_mod_eq, qt_big, qb_big, qt_s31, qt_l31, q2]
theorem wz_jmp (y : Int32) : f_X12_signed ((((((((((((0 : Int64) ||| j_lshl (j_lshr (y &&& 65535).toInt64 3 &&& 1) 0) ||| j_lshl (j_lshr (y &&& 65535).toInt64 4 &&& 1) 1) ||| j_lshl (j_lshr (y &&& 65535).toInt64 5 &&& 1) 2) ||| j_lshl (j_lshr (y &&& 65535).toInt64 11 &&& 1) 3) ||| j_lshl (j_lshr (y &&& 65535).toInt64 2 &&& 1) 4) ||| j_lshl (j_lshr (y &&& 65535).toInt64 7 &&& 1) 5) ||| j_lshl (j_lshr (y &&& 65535).toInt64 6 &&& 1) 6) ||| j_lshl (j_lshr (y &&& 65535).toInt64 9 &&& 1) 7) ||| j_lshl (j_lshr (y &&& 65535).toInt64 10 &&& 1) 8) ||| j_lshl (j_lshr (y &&& 65535).toInt64 8 &&& 1) 9) ||| j_lshl (j_lshr (y &&& 65535).toInt64 12 &&& 1) 10) 11 * 2 = (((((((((f_X5_highest (y &&& 65535)) <<< ((11 : Int32) &&& 31)) ||| ((f_X5_bits (y &&& 65535) 8 1) <<< ((10 : Int32) &&& 31))) ||| ((f_X5_bits (y &&& 65535) 9 3) <<< ((8 : Int32) &&& 31))) ||| ((f_X5_bits (y &&& 65535) 6 1) <<< ((7 : Int32) &&& 31))) ||| ((f_X5_bits (y &&& 65535) 7 1) <<< ((6 : Int32) &&& 31))) ||| ((f_X5_bits (y &&& 65535) 2 1) <<< ((5 : Int32) &&& 31))) ||| ((f_X5_bits (y &&& 65535) 11 1) <<< ((4 : Int32) &&& 31))) ||| ((f_X5_bits (y &&& 65535) 3 7) <<< ((1 : Int32) &&& 31))).toInt64 := by
  rw [show f_X12_signed ((((((((((((0 : Int64) ||| j_lshl (j_lshr (y &&& 65535).toInt64 3 &&& 1) 0) ||| j_lshl (j_lshr (y &&& 65535).toInt64 4 &&& 1) 1) ||| j_lshl (j_lshr (y &&& 65535).toInt64 5 &&& 1) 2) ||| j_lshl (j_lshr (y &&& 65535).toInt64 11 &&& 1) 3) ||| j_lshl (j_lshr (y &&& 65535).toInt64 2 &&& 1) 4) ||| j_lshl (j_lshr (y &&& 65535).toInt64 7 &&& 1) 5) ||| j_lshl (j_lshr (y &&& 65535).toInt64 6 &&& 1) 6) ||| j_lshl (j_lshr (y &&& 65535).toInt64 9 &&& 1) 7) ||| j_lshl (j_lshr (y &&& 65535).toInt64 10 &&& 1) 8) ||| j_lshl (j_lshr (y &&& 65535).toInt64 8 &&& 1) 9) ||| j_lshl (j_lshr (y &&& 65535).toInt64 12 &&& 1) 10) 11 = j_lshr (j_lshl ((((((((((((0 : Int64) ||| j_lshl (j_lshr (y &&& 65535).toInt64 3 &&& 1) 0) ||| j_lshl (j_lshr (y &&& 65535).toInt64 4 &&& 1) 1) ||| j_lshl (j_lshr (y &&& 65535).toInt64 5 &&& 1) 2) ||| j_lshl (j_lshr (y &&& 65535).toInt64 11 &&& 1) 3) ||| j_lshl (j_lshr (y &&& 65535).toInt64 2 &&& 1) 4) ||| j_lshl (j_lshr (y &&& 65535).toInt64 7 &&& 1) 5) ||| j_lshl (j_lshr (y &&& 65535).toInt64 6 &&& 1) 6) ||| j_lshl (j_lshr (y &&& 65535).toInt64 9 &&& 1) 7) ||| j_lshl (j_lshr (y &&& 65535).toInt64 10 &&& 1) 8) ||| j_lshl (j_lshr (y &&& 65535).toInt64 8 &&& 1) 9) ||| j_lshl (j_lshr (y &&& 65535).toInt64 12 &&& 1) 10) 53) 53 from rfl]
  rw [ml_2]
  cases q : qt (y &&& 65535) 12
  · rw [hi_0 q]
    have q2 : qt y 12 = false := by simpa [qb_or, qb_and, qb_xor, qt_or, qt_and, qt_xor, qb_lit, qt_lit, qb_m1, qt_m1, qb_not, qt_not, qbn_2, qbn_3, qbn_4, qbn_8, qbn_6145, qbn_786723, qb_ofI, qt_ofL, sh6_lit, sh5_lit, qb_shl, qb_sshr, qb_ushr, qt_shl, qt_sshr, qt_ushr, Nat.testBit_eq_decide_div_mod_eq] using q
    refine qb_ext (al_64 ?_)
    simp [f_X5_bits, qb_or, qb_and, qb_xor, qt_or, qt_and, qt_xor, qb_lit, qt_lit, qb_m1, qt_m1, qb_not, qt_not, qbn_2, qbn_3, qbn_4, qbn_8, qbn_6145, qbn_786723, qb_ofI, qt_ofL, sh6_lit, sh5_lit, qb_shl, qb_sshr, qb_ushr, qt_shl, qt_sshr, qt_ushr, Nat.testBit_eq_decide_div_mod_eq, qt_big, qb_big, qt_s31, qt_l31, q2]
  · rw [hi_1 q]
    have q2 : qt y 12 = true := by simpa [qb_or, qb_and, qb_xor, qt_or, qt_and, qt_xor, qb_lit, qt_lit, qb_m1, qt_m1, qb_not, qt_not, qbn_2, qbn_3, qbn_4, qbn_8, qbn_6145, qbn_786723, qb_ofI, qt_ofL, sh6_lit, sh5_lit, qb_shl, qb_sshr, qb_ushr, qt_shl, qt_sshr, qt_ushr, Nat.testBit_eq_decide_div_mod_eq] using q
    refine qb_ext (al_64 ?_)
    simp [f_X5_bits, qb_or, qb_and, qb_xor, qt_or, qt_and, qt_xor, qb_lit, qt_lit, qb_m1, qt_m1, qb_not, qt_not, qbn_2, qbn_3, qbn_4, qbn_8, qbn_6145, qbn_786723, qb_ofI, qt_ofL, sh6_lit, sh5_lit, qb_shl, qb_sshr, qb_ushr, qt_shl, qt_sshr, qt_ushr, Nat.testBit_eq_decide_div_mod_eq, qt_big, qb_big, qt_s31, qt_l31, q2]
theorem wz_brn (y : Int32) : f_X12_signed (((((((((0 : Int64) ||| j_lshl (j_lshr (y &&& 65535).toInt64 3 &&& 1) 0) ||| j_lshl (j_lshr (y &&& 65535).toInt64 4 &&& 1) 1) ||| j_lshl (j_lshr (y &&& 65535).toInt64 10 &&& 1) 2) ||| j_lshl (j_lshr (y &&& 65535).toInt64 11 &&& 1) 3) ||| j_lshl (j_lshr (y &&& 65535).toInt64 2 &&& 1) 4) ||| j_lshl (j_lshr (y &&& 65535).toInt64 5 &&& 1) 5) ||| j_lshl (j_lshr (y &&& 65535).toInt64 6 &&& 1) 6) ||| j_lshl (j_lshr (y &&& 65535).toInt64 12 &&& 1) 7) 8 * 2 = ((((((f_X5_highest (y &&& 65535)) <<< ((8 : Int32) &&& 31)) ||| ((f_X5_bits (y &&& 65535) 5 3) <<< ((6 : Int32) &&& 31))) ||| ((f_X5_bits (y &&& 65535) 2 1) <<< ((5 : Int32) &&& 31))) ||| ((f_X5_bits (y &&& 65535) 10 3) <<< ((3 : Int32) &&& 31))) ||| ((f_X5_bits (y &&& 65535) 3 3) <<< ((1 : Int32) &&& 31))).toInt64 := by
  rw [show f_X12_signed (((((((((0 : Int64) ||| j_lshl (j_lshr (y &&& 65535).toInt64 3 &&& 1) 0) ||| j_lshl (j_lshr (y &&& 65535).toInt64 4 &&& 1) 1) ||| j_lshl (j_lshr (y &&& 65535).toInt64 10 &&& 1) 2) ||| j_lshl (j_lshr (y &&& 65535).toInt64 11 &&& 1) 3) ||| j_lshl (j_lshr (y &&& 65535).toInt64 2 &&& 1) 4) ||| j_lshl (j_lshr (y &&& 65535).toInt64 5 &&& 1) 5) ||| j_lshl (j_lshr (y &&& 65535).toInt64 6 &&& 1) 6) ||| j_lshl (j_lshr (y &&& 65535).toInt64 12 &&& 1) 7) 8 = j_lshr (j_lshl (((((((((0 : Int64) ||| j_lshl (j_lshr (y &&& 65535).toInt64 3 &&& 1) 0) ||| j_lshl (j_lshr (y &&& 65535).toInt64 4 &&& 1) 1) ||| j_lshl (j_lshr (y &&& 65535).toInt64 10 &&& 1) 2) ||| j_lshl (j_lshr (y &&& 65535).toInt64 11 &&& 1) 3) ||| j_lshl (j_lshr (y &&& 65535).toInt64 2 &&& 1) 4) ||| j_lshl (j_lshr (y &&& 65535).toInt64 5 &&& 1) 5) ||| j_lshl (j_lshr (y &&& 65535).toInt64 6 &&& 1) 6) ||| j_lshl (j_lshr (y &&& 65535).toInt64 12 &&& 1) 7) 56) 56 from rfl]
  rw [ml_2]
  cases q : qt (y &&& 65535) 12
  · rw [hi_0 q]
    have q2 : qt y 12 = false := by simpa [qb_or, qb_and, qb_xor, qt_or, qt_and, qt_xor, qb_lit, qt_lit, qb_m1, qt_m1, qb_not, qt_not, qbn_2, qbn_3, qbn_4, qbn_8, qbn_6145, qbn_786723, qb_ofI, qt_ofL, sh6_lit, sh5_lit, qb_shl, qb_sshr, qb_ushr, qt_shl, qt_sshr, qt_ushr, Nat.testBit_eq_decide_div_mod_eq] using q
    refine qb_ext (al_64 ?_)
    simp [f_X5_bits, qb_or, qb_and, qb_xor, qt_or, qt_and, qt_xor, qb_lit, qt_lit, qb_m1, qt_m1, qb_not, qt_not, qbn_2, qbn_3, qbn_4, qbn_8, qbn_6145, qbn_786723, qb_ofI, qt_ofL, sh6_lit, sh5_lit, qb_shl, qb_sshr, qb_ushr, qt_shl, qt_sshr, qt_ushr, Nat.testBit_eq_decide_div_mod_eq, qt_big, qb_big, qt_s31, qt_l31, q2]
  · rw [hi_1 q]
    have q2 : qt y 12 = true := by simpa [qb_or, qb_and, qb_xor, qt_or, qt_and, qt_xor, qb_lit, qt_lit, qb_m1, qt_m1, qb_not, qt_not, qbn_2, qbn_3, qbn_4, qbn_8, qbn_6145, qbn_786723, qb_ofI, qt_ofL, sh6_lit, sh5_lit, qb_shl, qb_sshr, qb_ushr, qt_shl, qt_sshr, qt_ushr, Nat.testBit_eq_decide_div_mod_eq] using q
    refine qb_ext (al_64 ?_)
    simp [f_X5_bits, qb_or, qb_and, qb_xor, qt_or, qt_and, qt_xor, qb_lit, qt_lit, qb_m1, qt_m1, qb_not, qt_not, qbn_2, qbn_3, qbn_4, qbn_8, qbn_6145, qbn_786723, qb_ofI, qt_ofL, sh6_lit, sh5_lit, qb_shl, qb_sshr, qb_ushr, qt_shl, qt_sshr, qt_ushr, Nat.testBit_eq_decide_div_mod_eq, qt_big, qb_big, qt_s31, qt_l31, q2]
theorem wz_lf (y : Int32) : (((((((0 : Int64) ||| j_lshl (j_lshr (y &&& 65535).toInt64 4 &&& 1) 0) ||| j_lshl (j_lshr (y &&& 65535).toInt64 5 &&& 1) 1) ||| j_lshl (j_lshr (y &&& 65535).toInt64 6 &&& 1) 2) ||| j_lshl (j_lshr (y &&& 65535).toInt64 12 &&& 1) 3) ||| j_lshl (j_lshr (y &&& 65535).toInt64 2 &&& 1) 4) ||| j_lshl (j_lshr (y &&& 65535).toInt64 3 &&& 1) 5) * 4 = ((((f_X5_bits (y &&& 65535) 2 3) <<< ((6 : Int32) &&& 31)) ||| ((f_X5_bits (y &&& 65535) 12 1) <<< ((5 : Int32) &&& 31))) ||| ((f_X5_bits (y &&& 65535) 4 7) <<< ((2 : Int32) &&& 31))).toInt64 := by
  rw [ml_4]
  refine qb_ext (al_64 ?_)
  simp [f_X5_bits, qb_or, qb_and, qb_xor, qt_or, qt_and, qt_xor, qb_lit, qt_lit, qb_m1, qt_m1, qb_not, qt_not, qbn_2, qbn_3, qbn_4, qbn_8, qbn_6145, qbn_786723, qb_ofI, qt_ofL, sh6_lit, sh5_lit, qb_shl, qb_sshr, qb_ushr, qt_shl, qt_sshr, qt_ushr, Nat.testBit_eq_decide_div_mod_eq, qt_big, qb_big, qt_s31, qt_l31]
theorem wz_le (y : Int32) : (((((((0 : Int64) ||| j_lshl (j_lshr (y &&& 65535).toInt64 5 &&& 1) 0) ||| j_lshl (j_lshr (y &&& 65535).toInt64 6 &&& 1) 1) ||| j_lshl (j_lshr (y &&& 65535).toInt64 12 &&& 1) 2) ||| j_lshl (j_lshr (y &&& 65535).toInt64 2 &&& 1) 3) ||| j_lshl (j_lshr (y &&& 65535).toInt64 3 &&& 1) 4) ||| j_lshl (j_lshr (y &&& 65535).toInt64 4 &&& 1) 5) * 8 = ((((f_X5_bits (y &&& 65535) 2 7) <<< ((6 : Int32) &&& 31)) ||| ((f_X5_bits (y &&& 65535) 12 1) <<< ((5 : Int32) &&& 31))) ||| ((f_X5_bits (y &&& 65535) 5 3) <<< ((3 : Int32) &&& 31))).toInt64 := by
  rw [ml_8]
  refine qb_ext (al_64 ?_)
  simp [f_X5_bits, qb_or, qb_and, qb_xor, qt_or, qt_and, qt_xor, qb_lit, qt_lit, qb_m1, qt_m1, qb_not, qt_not, qbn_2, qbn_3, qbn_4, qbn_8, qbn_6145, qbn_786723, qb_ofI, qt_ofL, sh6_lit, sh5_lit, qb_shl, qb_sshr, qb_ushr, qt_shl, qt_sshr, qt_ushr, Nat.testBit_eq_decide_div_mod_eq, qt_big, qb_big, qt_s31, qt_l31]
theorem wz_sf (y : Int32) : (((((((0 : Int64) ||| j_lshl (j_lshr (y &&& 65535).toInt64 9 &&& 1) 0) ||| j_lshl (j_lshr (y &&& 65535).toInt64 10 &&& 1) 1) ||| j_lshl (j_lshr (y &&& 65535).toInt64 11 &&& 1) 2) ||| j_lshl (j_lshr (y &&& 65535).toInt64 12 &&& 1) 3) ||| j_lshl (j_lshr (y &&& 65535).toInt64 7 &&& 1) 4) ||| j_lshl (j_lshr (y &&& 65535).toInt64 8 &&& 1) 5) * 4 = (((f_X5_bits (y &&& 65535) 7 3) <<< ((6 : Int32) &&& 31)) ||| ((f_X5_bits (y &&& 65535) 9 15) <<< ((2 : Int32) &&& 31))).toInt64 := by
  rw [ml_4]
  refine qb_ext (al_64 ?_)
  simp [f_X5_bits, qb_or, qb_and, qb_xor, qt_or, qt_and, qt_xor, qb_lit, qt_lit, qb_m1, qt_m1, qb_not, qt_not, qbn_2, qbn_3, qbn_4, qbn_8, qbn_6145, qbn_786723, qb_ofI, qt_ofL, sh6_lit, sh5_lit, qb_shl, qb_sshr, qb_ushr, qt_shl, qt_sshr, qt_ushr, Nat.testBit_eq_decide_div_mod_eq, qt_big, qb_big, qt_s31, qt_l31]
theorem wz_se (y : Int32) : (((((((0 : Int64) ||| j_lshl (j_lshr (y &&& 65535).toInt64 10 &&& 1) 0) ||| j_lshl (j_lshr (y &&& 65535).toInt64 11 &&& 1) 1) ||| j_lshl (j_lshr (y &&& 65535).toInt64 12 &&& 1) 2) ||| j_lshl (j_lshr (y &&& 65535).toInt64 7 &&& 1) 3) ||| j_lshl (j_lshr (y &&& 65535).toInt64 8 &&& 1) 4) ||| j_lshl (j_lshr (y &&& 65535).toInt64 9 &&& 1) 5) * 8 = (((f_X5_bits (y &&& 65535) 7 7) <<< ((6 : Int32) &&& 31)) ||| ((f_X5_bits (y &&& 65535) 10 7) <<< ((3 : Int32) &&& 31))).toInt64 := by
  rw [ml_8]
  refine qb_ext (al_64 ?_)
  simp [f_X5_bits, qb_or, qb_and, qb_xor, qt_or, qt_and, qt_xor, qb_lit, qt_lit, qb_m1, qt_m1, qb_not, qt_not, qbn_2, qbn_3, qbn_4, qbn_8, qbn_6145, qbn_786723, qb_ofI, qt_ofL, sh6_lit, sh5_lit, qb_shl, qb_sshr, qb_ushr, qt_shl, qt_sshr, qt_ushr, Nat.testBit_eq_decide_div_mod_eq, qt_big, qb_big, qt_s31, qt_l31]
theorem wz_six (y : Int32) : (((((((0 : Int64) ||| j_lshl (j_lshr (y &&& 65535).toInt64 2 &&& 1) 0) ||| j_lshl (j_lshr (y &&& 65535).toInt64 3 &&& 1) 1) ||| j_lshl (j_lshr (y &&& 65535).toInt64 4 &&& 1) 2) ||| j_lshl (j_lshr (y &&& 65535).toInt64 5 &&& 1) 3) ||| j_lshl (j_lshr (y &&& 65535).toInt64 6 &&& 1) 4) ||| j_lshl (j_lshr (y &&& 65535).toInt64 12 &&& 1) 5) = (((f_X5_bits (y &&& 65535) 12 1) <<< ((5 : Int32) &&& 31)) ||| (f_X5_bits (y &&& 65535) 2 31)).toInt64 := by
  refine qb_ext (al_64 ?_)
  simp [f_X5_bits, qb_or, qb_and, qb_xor, qt_or, qt_and, qt_xor, qb_lit, qt_lit, qb_m1, qt_m1, qb_not, qt_not, qbn_2, qbn_3, qbn_4, qbn_8, qbn_6145, qbn_786723, qb_ofI, qt_ofL, sh6_lit, sh5_lit, qb_shl, qb_sshr, qb_ushr, qt_shl, qt_sshr, qt_ushr, Nat.testBit_eq_decide_div_mod_eq, qt_big, qb_big, qt_s31, qt_l31]
theorem wz_f (y : Int32) : (f_X12_cut (y &&& 65535).toInt64 15 13).toInt32 = (y &&& 65535) >>> ((13 : Int32) &&& 31) := by
  rw [show f_X12_cut (y &&& 65535).toInt64 15 13 = j_lushr (y &&& 65535).toInt64 13 &&& 7 from rfl]
  refine qt_ext (al_32 ?_)
  simp [qb_or, qb_and, qb_xor, qt_or, qt_and, qt_xor, qb_lit, qt_lit, qb_m1, qt_m1, qb_not, qt_not, qbn_2, qbn_3, qbn_4, qbn_8, qbn_6145, qbn_786723, qb_ofI, qt_ofL, sh6_lit, sh5_lit, qb_shl, qb_sshr, qb_ushr, qt_shl, qt_sshr, qt_ushr, Nat.testBit_eq_decide_div_mod_eq, qt_big, qb_big, qt_s31, qt_l31]
theorem wz_k (y : Int32) : ((y &&& 65535).toInt64 &&& 3).toInt32 = (y &&& 65535) &&& 3 := by
  refine qt_ext (al_32 ?_)
  simp [qb_or, qb_and, qb_xor, qt_or, qt_and, qt_xor, qb_lit, qt_lit, qb_m1, qt_m1, qb_not, qt_not, qbn_2, qbn_3, qbn_4, qbn_8, qbn_6145, qbn_786723, qb_ofI, qt_ofL, sh6_lit, sh5_lit, qb_shl, qb_sshr, qb_ushr, qt_shl, qt_sshr, qt_ushr, Nat.testBit_eq_decide_div_mod_eq, qt_big, qb_big, qt_s31, qt_l31]
theorem wz_10 (y : Int32) : (f_X12_cut (y &&& 65535).toInt64 11 10).toInt32 = f_X5_bits (y &&& 65535) 10 3 := by
  rw [show f_X12_cut (y &&& 65535).toInt64 11 10 = j_lushr (y &&& 65535).toInt64 10 &&& 3 from rfl]
  refine qt_ext (al_32 ?_)
  simp [f_X5_bits, qb_or, qb_and, qb_xor, qt_or, qt_and, qt_xor, qb_lit, qt_lit, qb_m1, qt_m1, qb_not, qt_not, qbn_2, qbn_3, qbn_4, qbn_8, qbn_6145, qbn_786723, qb_ofI, qt_ofL, sh6_lit, sh5_lit, qb_shl, qb_sshr, qb_ushr, qt_shl, qt_sshr, qt_ushr, Nat.testBit_eq_decide_div_mod_eq, qt_big, qb_big, qt_s31, qt_l31]
theorem wz_5 (y : Int32) : (f_X12_cut (y &&& 65535).toInt64 6 5).toInt32 = f_X5_bits (y &&& 65535) 5 3 := by
  rw [show f_X12_cut (y &&& 65535).toInt64 6 5 = j_lushr (y &&& 65535).toInt64 5 &&& 3 from rfl]
  refine qt_ext (al_32 ?_)
  simp [f_X5_bits, qb_or, qb_and, qb_xor, qt_or, qt_and, qt_xor, qb_lit, qt_lit, qb_m1, qt_m1, qb_not, qt_not, qbn_2, qbn_3, qbn_4, qbn_8, qbn_6145, qbn_786723, qb_ofI, qt_ofL, sh6_lit, sh5_lit, qb_shl, qb_sshr, qb_ushr, qt_shl, qt_sshr, qt_ushr, Nat.testBit_eq_decide_div_mod_eq, qt_big, qb_big, qt_s31, qt_l31]
theorem wz_12 (y : Int32) : f_X12_cut (y &&& 65535).toInt64 12 12 = (f_X5_bits (y &&& 65535) 12 1).toInt64 := by
  rw [show f_X12_cut (y &&& 65535).toInt64 12 12 = j_lushr (y &&& 65535).toInt64 12 &&& 1 from rfl]
  refine qb_ext (al_64 ?_)
  simp [f_X5_bits, qb_or, qb_and, qb_xor, qt_or, qt_and, qt_xor, qb_lit, qt_lit, qb_m1, qt_m1, qb_not, qt_not, qbn_2, qbn_3, qbn_4, qbn_8, qbn_6145, qbn_786723, qb_ofI, qt_ofL, sh6_lit, sh5_lit, qb_shl, qb_sshr, qb_ushr, qt_shl, qt_sshr, qt_ushr, Nat.testBit_eq_decide_div_mod_eq, qt_big, qb_big, qt_s31, qt_l31]
theorem wz_63 (i : Int32) : i.toInt64 &&& 63 = (i &&& 63).toInt64 := (Int32.toInt64_and i 63).symm
theorem ty_I (op f rd rs i : Int32) (h1 : op &&& 127 = op) (h2 : f &&& 7 = f) (h3 : rd &&& 31 = rd) (h4 : rs &&& 31 = rs) : f_X12_typeI op f rd.toInt64 rs.toInt64 i.toInt64 = (f_X5_withConstant op f rd rs i).toInt64 &&& 4294967295 := by
  rw [← h1, ← h2, ← h3, ← h4]
  unfold f_X12_typeI f_X5_withConstant
  refine qb_ext (al_64 ?_)
  simp [qb_or, qb_and, qb_xor, qt_or, qt_and, qt_xor, qb_lit, qt_lit, qb_m1, qt_m1, qb_not, qt_not, qbn_2, qbn_3, qbn_4, qbn_8, qbn_6145, qbn_786723, qb_ofI, qt_ofL, sh6_lit, sh5_lit, qb_shl, qb_sshr, qb_ushr, qt_shl, qt_sshr, qt_ushr, Nat.testBit_eq_decide_div_mod_eq, qt_big, qb_big, qt_s31, qt_l31]
theorem ty_R (op f g rd rs rt : Int32) (h1 : op &&& 127 = op) (h2 : f &&& 7 = f) (h0 : g &&& 127 = g) (h3 : rd &&& 31 = rd) (h4 : rs &&& 31 = rs) (h5 : rt &&& 31 = rt) : f_X12_typeR op f g.toInt64 rd.toInt64 rs.toInt64 rt.toInt64 = (f_X5_withRegister op f g rd rs rt).toInt64 &&& 4294967295 := by
  rw [← h1, ← h2, ← h0, ← h3, ← h4, ← h5]
  unfold f_X12_typeR f_X5_withRegister
  refine qb_ext (al_64 ?_)
  simp [qb_or, qb_and, qb_xor, qt_or, qt_and, qt_xor, qb_lit, qt_lit, qb_m1, qt_m1, qb_not, qt_not, qbn_2, qbn_3, qbn_4, qbn_8, qbn_6145, qbn_786723, qb_ofI, qt_ofL, sh6_lit, sh5_lit, qb_shl, qb_sshr, qb_ushr, qt_shl, qt_sshr, qt_ushr, Nat.testBit_eq_decide_div_mod_eq, qt_big, qb_big, qt_s31, qt_l31]
theorem ty_S (f rs rt i : Int32) (h2 : f &&& 7 = f) (h4 : rs &&& 31 = rs) (h5 : rt &&& 31 = rt) : f_X12_typeS f rs.toInt64 rt.toInt64 i.toInt64 = (f_X5_storing f rs rt i).toInt64 &&& 4294967295 := by
  rw [← h2, ← h4, ← h5]
  unfold f_X12_typeS f_X5_storing f_X5_bits
  rw [show f_X12_cut i.toInt64 11 5 = j_lushr i.toInt64 5 &&& 127 from rfl, show f_X12_cut i.toInt64 4 0 = j_lushr i.toInt64 0 &&& 31 from rfl]
  refine qb_ext (al_64 ?_)
  simp [qb_or, qb_and, qb_xor, qt_or, qt_and, qt_xor, qb_lit, qt_lit, qb_m1, qt_m1, qb_not, qt_not, qbn_2, qbn_3, qbn_4, qbn_8, qbn_6145, qbn_786723, qb_ofI, qt_ofL, sh6_lit, sh5_lit, qb_shl, qb_sshr, qb_ushr, qt_shl, qt_sshr, qt_ushr, Nat.testBit_eq_decide_div_mod_eq, qt_big, qb_big, qt_s31, qt_l31]
theorem ty_U (r i : Int32) (h4 : r &&& 31 = r) : (j_lshl (i.toInt64 &&& 1048575) 12 ||| j_lshl r.toInt64 7) ||| 55 = ((i <<< ((12 : Int32) &&& 31) ||| r <<< ((7 : Int32) &&& 31)) ||| 55).toInt64 &&& 4294967295 := by
  rw [← h4]
  refine qb_ext (al_64 ?_)
  simp [qb_or, qb_and, qb_xor, qt_or, qt_and, qt_xor, qb_lit, qt_lit, qb_m1, qt_m1, qb_not, qt_not, qbn_2, qbn_3, qbn_4, qbn_8, qbn_6145, qbn_786723, qb_ofI, qt_ofL, sh6_lit, sh5_lit, qb_shl, qb_sshr, qb_ushr, qt_shl, qt_sshr, qt_ushr, Nat.testBit_eq_decide_div_mod_eq, qt_big, qb_big, qt_s31, qt_l31]
theorem ty_J (i : Int32) : f_X12_typeJ 0 i.toInt64 = ((((((f_X5_bits i 20 1) <<< ((31 : Int32) &&& 31)) ||| ((f_X5_bits i 1 1023) <<< ((21 : Int32) &&& 31))) ||| ((f_X5_bits i 11 1) <<< ((20 : Int32) &&& 31))) ||| ((f_X5_bits i 12 255) <<< ((12 : Int32) &&& 31))) ||| (111 : Int32)).toInt64 &&& 4294967295 := by
  unfold f_X12_typeJ f_X5_bits
  rw [show f_X12_cut i.toInt64 20 20 = j_lushr i.toInt64 20 &&& 1 from rfl, show f_X12_cut i.toInt64 10 1 = j_lushr i.toInt64 1 &&& 1023 from rfl, show f_X12_cut i.toInt64 11 11 = j_lushr i.toInt64 11 &&& 1 from rfl, show f_X12_cut i.toInt64 19 12 = j_lushr i.toInt64 12 &&& 255 from rfl]
  refine qb_ext (al_64 ?_)
  simp [qb_or, qb_and, qb_xor, qt_or, qt_and, qt_xor, qb_lit, qt_lit, qb_m1, qt_m1, qb_not, qt_not, qbn_2, qbn_3, qbn_4, qbn_8, qbn_6145, qbn_786723, qb_ofI, qt_ofL, sh6_lit, sh5_lit, qb_shl, qb_sshr, qb_ushr, qt_shl, qt_sshr, qt_ushr, Nat.testBit_eq_decide_div_mod_eq, qt_big, qb_big, qt_s31, qt_l31]
theorem ty_B (f r i : Int32) (h2 : f &&& 7 = f) (h4 : r &&& 31 = r) : f_X12_typeB f r.toInt64 i.toInt64 = ((((((((f_X5_bits i 12 1) <<< ((31 : Int32) &&& 31)) ||| ((f_X5_bits i 5 63) <<< ((25 : Int32) &&& 31))) ||| (r <<< ((15 : Int32) &&& 31))) ||| (f <<< ((12 : Int32) &&& 31))) ||| ((f_X5_bits i 1 15) <<< ((8 : Int32) &&& 31))) ||| ((f_X5_bits i 11 1) <<< ((7 : Int32) &&& 31))) ||| (99 : Int32)).toInt64 &&& 4294967295 := by
  rw [← h2, ← h4]
  unfold f_X12_typeB f_X5_bits
  rw [show f_X12_cut i.toInt64 12 12 = j_lushr i.toInt64 12 &&& 1 from rfl, show f_X12_cut i.toInt64 10 5 = j_lushr i.toInt64 5 &&& 63 from rfl, show f_X12_cut i.toInt64 4 1 = j_lushr i.toInt64 1 &&& 15 from rfl, show f_X12_cut i.toInt64 11 11 = j_lushr i.toInt64 11 &&& 1 from rfl]
  refine qb_ext (al_64 ?_)
  simp [qb_or, qb_and, qb_xor, qt_or, qt_and, qt_xor, qb_lit, qt_lit, qb_m1, qt_m1, qb_not, qt_not, qbn_2, qbn_3, qbn_4, qbn_8, qbn_6145, qbn_786723, qb_ofI, qt_ofL, sh6_lit, sh5_lit, qb_shl, qb_sshr, qb_ushr, qt_shl, qt_sshr, qt_ushr, Nat.testBit_eq_decide_div_mod_eq, qt_big, qb_big, qt_s31, qt_l31]
theorem r31 (h : Int32) (s : Int32) : f_X5_bits h s 31 &&& 31 = f_X5_bits h s 31 := by
  unfold f_X5_bits
  rw [Int32.and_assoc]
  rfl
theorem r8_31 (h : Int32) (s : Int32) : (8 + f_X5_bits h s 7) &&& 31 = 8 + f_X5_bits h s 7 := by
  unfold f_X5_bits
  rw [or8i]
  refine qt_ext (al_32 ?_)
  generalize h >>> (s &&& 31) = z
  simp [qb_or, qb_and, qb_xor, qt_or, qt_and, qt_xor, qb_lit, qt_lit, qb_m1, qt_m1, qb_not, qt_not, qbn_2, qbn_3, qbn_4, qbn_8, qbn_6145, qbn_786723, qb_ofI, qt_ofL, sh6_lit, sh5_lit, qb_shl, qb_sshr, qb_ushr, qt_shl, qt_sshr, qt_ushr, Nat.testBit_eq_decide_div_mod_eq, qt_big, qb_big, qt_s31, qt_l31]
theorem f13 (y : Int32) : ∃ k, k < 8 ∧ (y &&& 65535) >>> ((13 : Int32) &&& 31) = nI k := by
  have e : (y &&& 65535) >>> ((13 : Int32) &&& 31) = ((y &&& 65535) >>> ((13 : Int32) &&& 31)) &&& 7 := by
    refine qt_ext (al_32 ?_)
    simp [qb_or, qb_and, qb_xor, qt_or, qt_and, qt_xor, qb_lit, qt_lit, qb_m1, qt_m1, qb_not, qt_not, qbn_2, qbn_3, qbn_4, qbn_8, qbn_6145, qbn_786723, qb_ofI, qt_ofL, sh6_lit, sh5_lit, qb_shl, qb_sshr, qb_ushr, qt_shl, qt_sshr, qt_ushr, Nat.testBit_eq_decide_div_mod_eq, qt_big, qb_big, qt_s31, qt_l31]
  rw [e]
  exact pk_andE _ 3 rfl
theorem b_4 (h s : Int32) : f_X5_bits h s 3 = 0 ∨ f_X5_bits h s 3 = 1 ∨ f_X5_bits h s 3 = 2 ∨ f_X5_bits h s 3 = 3 := by
  obtain ⟨k, hk, e⟩ := pk_andE (h >>> (s &&& 31)) (m := 3) 2 rfl
  have e2 : f_X5_bits h s 3 = nI k := e
  rw [e2]
  match k, hk with
  | 0, _ => exact Or.inl rfl
  | 1, _ => exact Or.inr (Or.inl rfl)
  | 2, _ => exact Or.inr (Or.inr (Or.inl rfl))
  | 3, _ => exact Or.inr (Or.inr (Or.inr rfl))
theorem b_2 (h s : Int32) : f_X5_bits h s 1 = 0 ∨ f_X5_bits h s 1 = 1 := and1 _
theorem s_le (h s : Int32) : ((f_X5_bits h s 31).toInt64 ≤ 0) ↔ f_X5_bits h s 31 = 0 := by
  obtain ⟨k, hk, e⟩ := pk_andE (h >>> (s &&& 31)) (m := 31) 5 rfl
  have e2 : f_X5_bits h s 31 = nI k := e
  rw [e2, nI_l (by omega), show (0 : Int64) = lN 0 from rfl, lN_le (by omega) (by omega), show (0 : Int32) = nI 0 from rfl, nI_eq (by omega) (by omega)]
  omega
theorem z00 : (0 : Int32).toInt64 &&& 4294967295 = 0 := by decide
theorem wd_four (y : Int32) (i : Int32) : f_X12_wideFour (y &&& 65535).toInt64 (8 + f_X5_bits (y &&& 65535) 7 7).toInt64 i.toInt64 = (f_X5_computing (y &&& 65535) i).toInt64 &&& 4294967295 := by
  have kr := r8_31 (y &&& 65535) 7
  have ks := r8_31 (y &&& 65535) 2
  unfold f_X12_wideFour f_X5_computing f_X12_wideFour_b53 f_X12_wideFour_b124 f_X12_wideFour_b166 f_X12_wideFour_b178
  rw [wz_10, wz_5, wz_12, wz_s8, wz_63]
  have z12 : ((f_X5_bits (y &&& 65535) 12 1).toInt64 = 1) ↔ f_X5_bits (y &&& 65535) 12 1 = 1 := toL_inj _ 1
  generalize 8 + f_X5_bits (y &&& 65535) 7 7 = r at *
  generalize 8 + f_X5_bits (y &&& 65535) 2 7 = s at *
  rcases b_4 (y &&& 65535) 10 with q | q | q | q
  · rw [q]
    simp only [show ¬ (2 : Int32) ≤ 0 by decide, show ¬ (0 : Int32) = 1 by decide, if_false, if_true, Int64.or_zero]
    exact ty_I 19 5 r r _ rfl rfl kr kr
  · rw [q]
    simp only [show ¬ (2 : Int32) ≤ 1 by decide, show ¬ (1 : Int32) = 0 by decide, if_false, if_true]
    rw [show (i &&& 63).toInt64 ||| 1024 = ((1024 : Int32) ||| (i &&& 63)).toInt64 by rw [Int32.or_comm]; exact (Int32.toInt64_or _ 1024).symm]
    exact ty_I 19 5 r r _ rfl rfl kr kr
  · rw [q]
    simp only [show (2 : Int32) ≤ 2 by decide, show ¬ (2 : Int32) = 0 by decide, show ¬ (2 : Int32) = 1 by decide, if_false, if_true]
    exact ty_I 19 7 r r _ rfl rfl kr kr
  · rw [q]
    simp only [show (2 : Int32) ≤ 3 by decide, show ¬ (3 : Int32) = 0 by decide, show ¬ (3 : Int32) = 1 by decide, show ¬ (3 : Int32) = 2 by decide, if_false, if_true, z12]
    rcases b_2 (y &&& 65535) 12 with q2 | q2
    · rw [q2]
      rcases b_4 (y &&& 65535) 5 with q3 | q3 | q3 | q3
      · rw [q3]; exact ty_R 51 0 32 r r s rfl rfl rfl kr kr ks
      · rw [q3]; exact ty_R 51 4 0 r r s rfl rfl rfl kr kr ks
      · rw [q3]; exact ty_R 51 6 0 r r s rfl rfl rfl kr kr ks
      · rw [q3]; exact ty_R 51 7 0 r r s rfl rfl rfl kr kr ks
    · rw [q2]
      rcases b_4 (y &&& 65535) 5 with q3 | q3 | q3 | q3
      · rw [q3]; exact ty_R 59 0 32 r r s rfl rfl rfl kr kr ks
      · rw [q3]; exact ty_R 59 0 0 r r s rfl rfl rfl kr kr ks
      · rw [q3]; exact z00.symm
      · rw [q3]; exact z00.symm
theorem wd_0 (y : Int32) : f_X12_wideZero (y &&& 65535).toInt64 ((y &&& 65535) >>> ((13 : Int32) &&& 31)) (8 + f_X5_bits (y &&& 65535) 7 7).toInt64 (8 + f_X5_bits (y &&& 65535) 2 7).toInt64 = some ((f_X5_ofFirstKind (y &&& 65535)).toInt64 &&& 4294967295) := by
  have kr := r8_31 (y &&& 65535) 7
  have ks := r8_31 (y &&& 65535) 2
  unfold f_X12_wideZero f_X12_wideZero_b152 f_X5_ofFirstKind f_X5_ofFirstKind_b226
  rw [pk_5cba6, pk_65cba, pk_a987cb56, Option.bind_some, Option.bind_some, Option.bind_some, wz_four, wz_eight, wz_up]
  generalize 8 + f_X5_bits (y &&& 65535) 7 7 = r at *
  generalize 8 + f_X5_bits (y &&& 65535) 2 7 = s at *
  obtain ⟨k, hk, e⟩ := f13 y
  rw [e]
  match k, hk with
  | 0, _ =>
    rw [if_pos (show nI 0 = 0 by decide), if_pos (show nI 0 = 0 by decide)]
    generalize (((f_X5_bits (y &&& 65535) 7 15) <<< ((6 : Int32) &&& 31)) ||| ((f_X5_bits (y &&& 65535) 11 3) <<< ((4 : Int32) &&& 31)) ||| ((f_X5_bits (y &&& 65535) 5 1) <<< ((3 : Int32) &&& 31)) ||| ((f_X5_bits (y &&& 65535) 6 1) <<< ((2 : Int32) &&& 31))) = i
    have z : (i.toInt64 = 0) ↔ i = 0 := toL_inj i 0
    by_cases c : i = 0
    · rw [if_pos (z.mpr c), if_pos c]; exact congrArg some z00.symm
    · rw [if_neg (fun q => c (z.mp q)), if_neg c]
      exact congrArg some (ty_I 19 0 s 2 i rfl rfl ks rfl)
  | 1, _ =>
    rw [if_neg (show ¬ nI 1 = 0 by decide), if_neg (show ¬ nI 1 = 0 by decide), if_pos (show nI 1 = 1 by decide), if_pos (show nI 1 = 1 by decide)]
    exact congrArg some z00.symm
  | 2, _ =>
    rw [if_neg (show ¬ nI 2 = 0 by decide), if_neg (show ¬ nI 2 = 0 by decide), if_neg (show ¬ nI 2 = 1 by decide), if_neg (show ¬ nI 2 = 1 by decide), if_pos (show nI 2 = 2 by decide), if_pos (show nI 2 = 2 by decide)]
    exact congrArg some (ty_I 3 2 s r _ rfl rfl ks kr)
  | 3, _ =>
    rw [if_neg (show ¬ nI 3 = 0 by decide), if_neg (show ¬ nI 3 = 0 by decide), if_neg (show ¬ nI 3 = 1 by decide), if_neg (show ¬ nI 3 = 1 by decide), if_neg (show ¬ nI 3 = 2 by decide), if_neg (show ¬ nI 3 = 2 by decide), if_pos (show nI 3 = 3 by decide), if_pos (show nI 3 = 3 by decide)]
    exact congrArg some (ty_I 3 3 s r _ rfl rfl ks kr)
  | 4, _ =>
    rw [if_neg (show ¬ nI 4 = 0 by decide), if_neg (show ¬ nI 4 = 0 by decide), if_neg (show ¬ nI 4 = 1 by decide), if_neg (show ¬ nI 4 = 1 by decide), if_neg (show ¬ nI 4 = 2 by decide), if_neg (show ¬ nI 4 = 2 by decide), if_neg (show ¬ nI 4 = 3 by decide), if_neg (show ¬ nI 4 = 3 by decide), if_pos (show nI 4 = 4 by decide), if_pos (show nI 4 = 4 by decide)]
    exact congrArg some z00.symm
  | 5, _ =>
    rw [if_neg (show ¬ nI 5 = 0 by decide), if_neg (show ¬ nI 5 = 0 by decide), if_neg (show ¬ nI 5 = 1 by decide), if_neg (show ¬ nI 5 = 1 by decide), if_neg (show ¬ nI 5 = 2 by decide), if_neg (show ¬ nI 5 = 2 by decide), if_neg (show ¬ nI 5 = 3 by decide), if_neg (show ¬ nI 5 = 3 by decide), if_neg (show ¬ nI 5 = 4 by decide), if_neg (show ¬ nI 5 = 4 by decide), if_pos (show nI 5 = 5 by decide), if_pos (show nI 5 = 5 by decide)]
    exact congrArg some z00.symm
  | 6, _ =>
    rw [if_neg (show ¬ nI 6 = 0 by decide), if_neg (show ¬ nI 6 = 0 by decide), if_neg (show ¬ nI 6 = 1 by decide), if_neg (show ¬ nI 6 = 1 by decide), if_neg (show ¬ nI 6 = 2 by decide), if_neg (show ¬ nI 6 = 2 by decide), if_neg (show ¬ nI 6 = 3 by decide), if_neg (show ¬ nI 6 = 3 by decide), if_neg (show ¬ nI 6 = 4 by decide), if_neg (show ¬ nI 6 = 4 by decide), if_neg (show ¬ nI 6 = 5 by decide), if_neg (show ¬ nI 6 = 5 by decide), if_pos (show nI 6 = 6 by decide), if_pos (show nI 6 = 6 by decide)]
    exact congrArg some (ty_S 2 r s _ rfl kr ks)
  | 7, _ =>
    rw [if_neg (show ¬ nI 7 = 0 by decide), if_neg (show ¬ nI 7 = 0 by decide), if_neg (show ¬ nI 7 = 1 by decide), if_neg (show ¬ nI 7 = 1 by decide), if_neg (show ¬ nI 7 = 2 by decide), if_neg (show ¬ nI 7 = 2 by decide), if_neg (show ¬ nI 7 = 3 by decide), if_neg (show ¬ nI 7 = 3 by decide), if_neg (show ¬ nI 7 = 4 by decide), if_neg (show ¬ nI 7 = 4 by decide), if_neg (show ¬ nI 7 = 5 by decide), if_neg (show ¬ nI 7 = 5 by decide), if_neg (show ¬ nI 7 = 6 by decide), if_neg (show ¬ nI 7 = 6 by decide), if_pos (show nI 7 = 7 by decide), if_pos (show nI 7 = 7 by decide)]
    exact congrArg some (ty_S 3 r s _ rfl kr ks)
theorem wd_1 (y : Int32) : f_X12_wideOne (y &&& 65535).toInt64 ((y &&& 65535) >>> ((13 : Int32) &&& 31)) (f_X5_bits (y &&& 65535) 7 31).toInt64 (((f_X5_highest (y &&& 65535)) <<< ((5 : Int32) &&& 31)) ||| (f_X5_bits (y &&& 65535) 2 31)).toInt64 = some ((f_X5_ofSecondKind (y &&& 65535)).toInt64 &&& 4294967295) := by
  have kr := r31 (y &&& 65535) 7
  have k8 := r8_31 (y &&& 65535) 7
  unfold f_X12_wideOne f_X12_wideOne_b218 f_X5_ofSecondKind f_X5_ofStack f_X5_jumping f_X5_branching
  rw [pk_c43526, pk_c8a9672b543, pk_c652ba43, Option.bind_some, Option.bind_some, Option.bind_some, Option.bind_some, wz_stack, wz_jmp, wz_brn, wz_r8, wd_four]
  have z1 : ((f_X5_bits (y &&& 65535) 7 31).toInt64 = 0) ↔ f_X5_bits (y &&& 65535) 7 31 = 0 := toL_inj _ 0
  have z2 : ((f_X5_bits (y &&& 65535) 7 31).toInt64 = 2) ↔ f_X5_bits (y &&& 65535) 7 31 = 2 := toL_inj _ 2
  generalize 8 + f_X5_bits (y &&& 65535) 7 7 = r8 at *
  generalize f_X5_bits (y &&& 65535) 7 31 = r at *
  generalize hi : (((f_X5_highest (y &&& 65535)) <<< ((5 : Int32) &&& 31)) ||| (f_X5_bits (y &&& 65535) 2 31)) = i
  have zi : (i.toInt64 = 0) ↔ i = 0 := toL_inj i 0
  obtain ⟨k, hk, e⟩ := f13 y
  rw [e]
  match k, hk with
  | 0, _ =>
    rw [if_pos (show nI 0 = 0 by decide), if_pos (show nI 0 = 0 by decide)]
    exact congrArg some (ty_I 19 0 r r i rfl rfl kr kr)
  | 1, _ =>
    rw [if_neg (show ¬ nI 1 = 0 by decide), if_neg (show ¬ nI 1 = 0 by decide), if_pos (show nI 1 = 1 by decide), if_pos (show nI 1 = 1 by decide)]
    by_cases c : r = 0
    · rw [if_pos (z1.mpr c), if_pos c]; exact congrArg some z00.symm
    · rw [if_neg (fun q => c (z1.mp q)), if_neg c]
      exact congrArg some (ty_I 27 0 r r i rfl rfl kr kr)
  | 2, _ =>
    rw [if_neg (show ¬ nI 2 = 0 by decide), if_neg (show ¬ nI 2 = 0 by decide), if_neg (show ¬ nI 2 = 1 by decide), if_neg (show ¬ nI 2 = 1 by decide), if_pos (show nI 2 = 2 by decide), if_pos (show nI 2 = 2 by decide)]
    exact congrArg some (ty_I 19 0 r 0 i rfl rfl kr rfl)
  | 3, _ =>
    rw [if_neg (show ¬ nI 3 = 0 by decide), if_neg (show ¬ nI 3 = 0 by decide), if_neg (show ¬ nI 3 = 1 by decide), if_neg (show ¬ nI 3 = 1 by decide), if_neg (show ¬ nI 3 = 2 by decide), if_neg (show ¬ nI 3 = 2 by decide), if_pos (show nI 3 = 3 by decide), if_pos (show nI 3 = 3 by decide)]
    by_cases c : r = 2
    · rw [if_pos (z2.mpr c), if_pos c]
      generalize (((((f_X5_highest (y &&& 65535)) <<< ((9 : Int32) &&& 31)) ||| ((f_X5_bits (y &&& 65535) 3 3) <<< ((7 : Int32) &&& 31))) ||| ((f_X5_bits (y &&& 65535) 5 1) <<< ((6 : Int32) &&& 31))) ||| ((f_X5_bits (y &&& 65535) 2 1) <<< ((5 : Int32) &&& 31))) ||| ((f_X5_bits (y &&& 65535) 6 1) <<< ((4 : Int32) &&& 31)) = t
      have zt : (t.toInt64 = 0) ↔ t = 0 := toL_inj t 0
      by_cases c2 : t = 0
      · rw [if_pos (zt.mpr c2), if_pos c2]; exact congrArg some z00.symm
      · rw [if_neg (fun q => c2 (zt.mp q)), if_neg c2]
        exact congrArg some (ty_I 19 0 2 2 t rfl rfl rfl rfl)
    · rw [if_neg (fun q => c (z2.mp q)), if_neg c]
      by_cases c2 : i = 0
      · rw [if_pos (zi.mpr c2), if_pos c2]; exact congrArg some z00.symm
      · rw [if_neg (fun q => c2 (zi.mp q)), if_neg c2]
        exact congrArg some (ty_U r i kr)
  | 4, _ =>
    rw [if_neg (show ¬ nI 4 = 0 by decide), if_neg (show ¬ nI 4 = 0 by decide), if_neg (show ¬ nI 4 = 1 by decide), if_neg (show ¬ nI 4 = 1 by decide), if_neg (show ¬ nI 4 = 2 by decide), if_neg (show ¬ nI 4 = 2 by decide), if_neg (show ¬ nI 4 = 3 by decide), if_neg (show ¬ nI 4 = 3 by decide), if_pos (show nI 4 = 4 by decide), if_pos (show nI 4 = 4 by decide)]
  | 5, _ =>
    rw [if_neg (show ¬ nI 5 = 0 by decide), if_neg (show ¬ nI 5 = 0 by decide), if_neg (show ¬ nI 5 = 1 by decide), if_neg (show ¬ nI 5 = 1 by decide), if_neg (show ¬ nI 5 = 2 by decide), if_neg (show ¬ nI 5 = 2 by decide), if_neg (show ¬ nI 5 = 3 by decide), if_neg (show ¬ nI 5 = 3 by decide), if_neg (show ¬ nI 5 = 4 by decide), if_neg (show ¬ nI 5 = 4 by decide), if_pos (show nI 5 = 5 by decide), if_pos (show nI 5 = 5 by decide)]
    exact congrArg some (ty_J _)
  | 6, _ =>
    rw [if_neg (show ¬ nI 6 = 0 by decide), if_neg (show ¬ nI 6 = 0 by decide), if_neg (show ¬ nI 6 = 1 by decide), if_neg (show ¬ nI 6 = 1 by decide), if_neg (show ¬ nI 6 = 2 by decide), if_neg (show ¬ nI 6 = 2 by decide), if_neg (show ¬ nI 6 = 3 by decide), if_neg (show ¬ nI 6 = 3 by decide), if_neg (show ¬ nI 6 = 4 by decide), if_neg (show ¬ nI 6 = 4 by decide), if_neg (show ¬ nI 6 = 5 by decide), if_neg (show ¬ nI 6 = 5 by decide), if_pos (show nI 6 = 6 by decide), if_pos (show nI 6 = 6 by decide)]
    exact congrArg some (ty_B 0 r8 _ rfl k8)
  | 7, _ =>
    rw [if_neg (show ¬ nI 7 = 0 by decide), if_neg (show ¬ nI 7 = 0 by decide), if_neg (show ¬ nI 7 = 1 by decide), if_neg (show ¬ nI 7 = 1 by decide), if_neg (show ¬ nI 7 = 2 by decide), if_neg (show ¬ nI 7 = 2 by decide), if_neg (show ¬ nI 7 = 3 by decide), if_neg (show ¬ nI 7 = 3 by decide), if_neg (show ¬ nI 7 = 4 by decide), if_neg (show ¬ nI 7 = 4 by decide), if_neg (show ¬ nI 7 = 5 by decide), if_neg (show ¬ nI 7 = 5 by decide), if_neg (show ¬ nI 7 = 6 by decide), if_neg (show ¬ nI 7 = 6 by decide)]
    exact congrArg some (ty_B 1 r8 _ rfl k8)
theorem wd_2 (y : Int32) : f_X12_wideTwo (y &&& 65535).toInt64 ((y &&& 65535) >>> ((13 : Int32) &&& 31)) (f_X5_bits (y &&& 65535) 7 31).toInt64 (f_X5_bits (y &&& 65535) 2 31).toInt64 = some ((f_X5_ofThirdKind (y &&& 65535)).toInt64 &&& 4294967295) := by
  have kr := r31 (y &&& 65535) 7
  have ks := r31 (y &&& 65535) 2
  unfold f_X12_wideTwo f_X12_wideTwo_b266 f_X5_ofThirdKind f_X5_ofThirdKind_b273 f_X5_movingOrJumping f_X5_addingOrLinking
  rw [pk_c65432, pk_32c654, pk_432c65, pk_87cba9, pk_987cba, Option.bind_some, Option.bind_some, Option.bind_some, Option.bind_some, Option.bind_some, wz_lf, wz_le, wz_sf, wz_se, wz_six, wz_12]
  have z1 : ((f_X5_bits (y &&& 65535) 7 31).toInt64 = 0) ↔ f_X5_bits (y &&& 65535) 7 31 = 0 := toL_inj _ 0
  have zs := s_le (y &&& 65535) 2
  have z12 : ((f_X5_bits (y &&& 65535) 12 1).toInt64 = 0) ↔ f_X5_bits (y &&& 65535) 12 1 = 0 := toL_inj _ 0
  generalize f_X5_bits (y &&& 65535) 7 31 = r at *
  generalize f_X5_bits (y &&& 65535) 2 31 = s at *
  obtain ⟨k, hk, e⟩ := f13 y
  rw [e]
  match k, hk with
  | 0, _ =>
    rw [if_pos (show nI 0 = 0 by decide), if_pos (show nI 0 = 0 by decide)]
    exact congrArg some (ty_I 19 1 r r _ rfl rfl kr kr)
  | 1, _ =>
    rw [if_neg (show ¬ nI 1 = 0 by decide), if_neg (show ¬ nI 1 = 0 by decide), if_pos (show nI 1 = 1 by decide), if_pos (show nI 1 = 1 by decide)]
    exact congrArg some z00.symm
  | 2, _ =>
    rw [if_neg (show ¬ nI 2 = 0 by decide), if_neg (show ¬ nI 2 = 0 by decide), if_neg (show ¬ nI 2 = 1 by decide), if_neg (show ¬ nI 2 = 1 by decide), if_pos (show nI 2 = 2 by decide), if_pos (show nI 2 = 2 by decide)]
    by_cases c : r = 0
    · rw [if_pos (z1.mpr c), if_pos c]; exact congrArg some z00.symm
    · rw [if_neg (fun q => c (z1.mp q)), if_neg c]
      exact congrArg some (ty_I 3 2 r 2 _ rfl rfl kr rfl)
  | 3, _ =>
    rw [if_neg (show ¬ nI 3 = 0 by decide), if_neg (show ¬ nI 3 = 0 by decide), if_neg (show ¬ nI 3 = 1 by decide), if_neg (show ¬ nI 3 = 1 by decide), if_neg (show ¬ nI 3 = 2 by decide), if_neg (show ¬ nI 3 = 2 by decide), if_pos (show nI 3 = 3 by decide), if_pos (show nI 3 = 3 by decide)]
    by_cases c : r = 0
    · rw [if_pos (z1.mpr c), if_pos c]; exact congrArg some z00.symm
    · rw [if_neg (fun q => c (z1.mp q)), if_neg c]
      exact congrArg some (ty_I 3 3 r 2 _ rfl rfl kr rfl)
  | 4, _ =>
    rw [if_neg (show ¬ nI 4 = 0 by decide), if_neg (show ¬ nI 4 = 0 by decide), if_neg (show ¬ nI 4 = 1 by decide), if_neg (show ¬ nI 4 = 1 by decide), if_neg (show ¬ nI 4 = 2 by decide), if_neg (show ¬ nI 4 = 2 by decide), if_neg (show ¬ nI 4 = 3 by decide), if_neg (show ¬ nI 4 = 3 by decide), if_pos (show nI 4 = 4 by decide), if_pos (show nI 4 = 4 by decide)]
    by_cases c : f_X5_bits (y &&& 65535) 12 1 = 0
    · rw [if_pos (z12.mpr c), if_pos c]
      by_cases c2 : s = 0
      · rw [if_pos (zs.mpr c2), if_pos c2]
        by_cases c3 : r = 0
        · rw [if_pos (z1.mpr c3), if_pos c3]; exact congrArg some z00.symm
        · rw [if_neg (fun q => c3 (z1.mp q)), if_neg c3]
          exact congrArg some (ty_I 103 0 0 r 0 rfl rfl rfl kr)
      · rw [if_neg (fun q => c2 (zs.mp q)), if_neg c2]
        exact congrArg some (ty_R 51 0 0 r 0 s rfl rfl rfl kr rfl ks)
    · rw [if_neg (fun q => c (z12.mp q)), if_neg c]
      by_cases c2 : s = 0
      · rw [if_pos (zs.mpr c2), if_pos c2]
        by_cases c3 : r = 0
        · rw [if_pos (z1.mpr c3), if_pos c3]; exact congrArg some (show (1048691 : Int64) = (1048691 : Int32).toInt64 &&& 4294967295 by decide)
        · rw [if_neg (fun q => c3 (z1.mp q)), if_neg c3]
          exact congrArg some (ty_I 103 0 1 r 0 rfl rfl rfl kr)
      · rw [if_neg (fun q => c2 (zs.mp q)), if_neg c2]
        exact congrArg some (ty_R 51 0 0 r r s rfl rfl rfl kr kr ks)
  | 5, _ =>
    rw [if_neg (show ¬ nI 5 = 0 by decide), if_neg (show ¬ nI 5 = 0 by decide), if_neg (show ¬ nI 5 = 1 by decide), if_neg (show ¬ nI 5 = 1 by decide), if_neg (show ¬ nI 5 = 2 by decide), if_neg (show ¬ nI 5 = 2 by decide), if_neg (show ¬ nI 5 = 3 by decide), if_neg (show ¬ nI 5 = 3 by decide), if_neg (show ¬ nI 5 = 4 by decide), if_neg (show ¬ nI 5 = 4 by decide), if_pos (show nI 5 = 5 by decide), if_pos (show nI 5 = 5 by decide)]
    exact congrArg some z00.symm
  | 6, _ =>
    rw [if_neg (show ¬ nI 6 = 0 by decide), if_neg (show ¬ nI 6 = 0 by decide), if_neg (show ¬ nI 6 = 1 by decide), if_neg (show ¬ nI 6 = 1 by decide), if_neg (show ¬ nI 6 = 2 by decide), if_neg (show ¬ nI 6 = 2 by decide), if_neg (show ¬ nI 6 = 3 by decide), if_neg (show ¬ nI 6 = 3 by decide), if_neg (show ¬ nI 6 = 4 by decide), if_neg (show ¬ nI 6 = 4 by decide), if_neg (show ¬ nI 6 = 5 by decide), if_neg (show ¬ nI 6 = 5 by decide), if_pos (show nI 6 = 6 by decide), if_pos (show nI 6 = 6 by decide)]
    exact congrArg some (ty_S 2 2 s _ rfl rfl ks)
  | 7, _ =>
    rw [if_neg (show ¬ nI 7 = 0 by decide), if_neg (show ¬ nI 7 = 0 by decide), if_neg (show ¬ nI 7 = 1 by decide), if_neg (show ¬ nI 7 = 1 by decide), if_neg (show ¬ nI 7 = 2 by decide), if_neg (show ¬ nI 7 = 2 by decide), if_neg (show ¬ nI 7 = 3 by decide), if_neg (show ¬ nI 7 = 3 by decide), if_neg (show ¬ nI 7 = 4 by decide), if_neg (show ¬ nI 7 = 4 by decide), if_neg (show ¬ nI 7 = 5 by decide), if_neg (show ¬ nI 7 = 5 by decide), if_neg (show ¬ nI 7 = 6 by decide), if_neg (show ¬ nI 7 = 6 by decide), if_pos (show nI 7 = 7 by decide), if_pos (show nI 7 = 7 by decide)]
    exact congrArg some (ty_S 3 2 s _ rfl rfl ks)
theorem wd_all (h : Int32) (hh : h &&& 65535 = h) (h3 : ¬ h &&& 3 = 3) : f_X12_wide h.toInt64 = some ((f_X5_widened h).toInt64 &&& 4294967295) := by
  obtain ⟨y, rfl⟩ : ∃ y, h = y &&& 65535 := ⟨h, hh.symm⟩
  unfold f_X12_wide f_X5_widened
  rw [wz_k, wz_f, wz_r8, wz_s8, wz_r, wz_s, wd_0, wd_2, pk_c65432]
  simp only [Option.bind_some, wz_i6, wd_1]
  obtain ⟨k, hk, e⟩ := pk_andE (y &&& 65535) (m := 3) 2 rfl
  rw [e] at h3 ⊢
  match k, hk with
  | 0, _ => rw [if_pos (show nI 0 = 0 by decide), if_pos (show nI 0 = 0 by decide)]
  | 1, _ => rw [if_neg (show ¬ nI 1 = 0 by decide), if_neg (show ¬ nI 1 = 0 by decide), if_pos (show nI 1 = 1 by decide), if_pos (show nI 1 = 1 by decide)]
  | 2, _ => rw [if_neg (show ¬ nI 2 = 0 by decide), if_neg (show ¬ nI 2 = 0 by decide), if_neg (show ¬ nI 2 = 1 by decide), if_neg (show ¬ nI 2 = 1 by decide), if_pos (show nI 2 = 2 by decide)]
  | 3, _ => exact absurd rfl h3

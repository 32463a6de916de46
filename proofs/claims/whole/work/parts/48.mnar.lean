theorem sg32 (v : Int64) : f_X12_signed v 32 = v.toInt32.toInt64 := by
  rw [show f_X12_signed v 32 = j_lshr (j_lshl v 32) 32 from rfl]
  refine qb_ext (al_64 ?_)
  simp [qb_or, qb_and, qb_xor, qt_or, qt_and, qt_xor, qb_lit, qt_lit, qb_m1, qt_m1, qb_not, qt_not, qbn_2, qbn_3, qbn_4, qbn_8, qbn_6145, qbn_786723, qb_ofI, qt_ofL, sh6_lit, sh5_lit, qb_shl, qb_sshr, qb_ushr, qt_shl, qt_sshr, qt_ushr, Nat.testBit_eq_decide_div_mod_eq, qt_big, qb_big, qt_s31, qt_l31]
theorem ct32 (v : Int64) : f_X12_cut v 31 0 = v &&& 4294967295 := by
  rw [show f_X12_cut v 31 0 = j_lushr v 0 &&& 4294967295 from rfl]
  refine qb_ext (al_64 ?_)
  simp [qb_or, qb_and, qb_xor, qt_or, qt_and, qt_xor, qb_lit, qt_lit, qb_m1, qt_m1, qb_not, qt_not, qbn_2, qbn_3, qbn_4, qbn_8, qbn_6145, qbn_786723, qb_ofI, qt_ofL, sh6_lit, sh5_lit, qb_shl, qb_sshr, qb_ushr, qt_shl, qt_sshr, qt_ushr, Nat.testBit_eq_decide_div_mod_eq, qt_big, qb_big, qt_s31, qt_l31]
theorem lo32 (v : Int64) : v.toInt32.toInt64 &&& 4294967295 = v &&& 4294967295 := by
  refine qb_ext (al_64 ?_)
  simp [qb_or, qb_and, qb_xor, qt_or, qt_and, qt_xor, qb_lit, qt_lit, qb_m1, qt_m1, qb_not, qt_not, qbn_2, qbn_3, qbn_4, qbn_8, qbn_6145, qbn_786723, qb_ofI, qt_ofL, sh6_lit, sh5_lit, qb_shl, qb_sshr, qb_ushr, qt_shl, qt_sshr, qt_ushr, Nat.testBit_eq_decide_div_mod_eq, qt_big, qb_big, qt_s31, qt_l31]
theorem i32l (v : Int64) : (v &&& 4294967295).toInt32 = v.toInt32 := by
  refine qt_ext (al_32 ?_)
  simp [qb_or, qb_and, qb_xor, qt_or, qt_and, qt_xor, qb_lit, qt_lit, qb_m1, qt_m1, qb_not, qt_not, qbn_2, qbn_3, qbn_4, qbn_8, qbn_6145, qbn_786723, qb_ofI, qt_ofL, sh6_lit, sh5_lit, qb_shl, qb_sshr, qb_ushr, qt_shl, qt_sshr, qt_ushr, Nat.testBit_eq_decide_div_mod_eq, qt_big, qb_big, qt_s31, qt_l31]
theorem toL_inj (x y : Int32) : x.toInt64 = y.toInt64 ↔ x = y := by
  constructor
  · intro h
    have e := congrArg Int64.toInt32 h
    simpa using e
  · intro h
    rw [h]
theorem f_8 (w : Int32) : f_X6_f w = 0 ∨ f_X6_f w = 1 ∨ f_X6_f w = 2 ∨ f_X6_f w = 3 ∨ f_X6_f w = 4 ∨ f_X6_f w = 5 ∨ f_X6_f w = 6 ∨ f_X6_f w = 7 := by
  obtain ⟨k, hk, e⟩ := pk_andE (w >>> ((12 : Int32) &&& 31)) (m := 7) 3 rfl
  have e2 : f_X6_f w = nI k := e
  rw [e2]
  match k, hk with
  | 0, _ => exact Or.inl rfl
  | 1, _ => exact Or.inr (Or.inl rfl)
  | 2, _ => exact Or.inr (Or.inr (Or.inl rfl))
  | 3, _ => exact Or.inr (Or.inr (Or.inr (Or.inl rfl)))
  | 4, _ => exact Or.inr (Or.inr (Or.inr (Or.inr (Or.inl rfl))))
  | 5, _ => exact Or.inr (Or.inr (Or.inr (Or.inr (Or.inr (Or.inl rfl)))))
  | 6, _ => exact Or.inr (Or.inr (Or.inr (Or.inr (Or.inr (Or.inr (Or.inl rfl))))))
  | 7, _ => exact Or.inr (Or.inr (Or.inr (Or.inr (Or.inr (Or.inr (Or.inr rfl))))))
theorem sh6_n {k : Nat} (hk : k < 64) : sh6 (nI k) = k := by
  show k % 4294967296 % 64 = k
  omega
theorem sh5_n {k : Nat} (hk : k < 32) : sh5 (nI k) = k := by
  show k % 4294967296 % 32 = k
  omega
theorem ns_l (a : Int64) {k : Nat} (hk : k < 32) : (j_lshl a (nI k)).toInt32 = a.toInt32 <<< (nI k &&& 31) := by
  refine qt_ext (fun i hi => ?_)
  rw [qt_ofL, qb_shl, qt_shl, qt_ofL, sh6_n (by omega), sh5_n hk]
  simp [hi, show i < 64 by omega, show i - k < 32 by omega]
theorem m32 (j : Nat) : qb 4294967295 j = decide (j < 32) := by
  rw [qb_lit]
  show (decide (j < 64) && Nat.testBit (2 ^ 32 - 1) j) = _
  rw [Nat.testBit_two_pow_sub_one]
  by_cases h : j < 32
  · simp [h, show j < 64 by omega]
  · simp [h]
theorem ns_u (a : Int64) {k : Nat} (hk : k < 32) : (j_lushr (a &&& 4294967295) (nI k)).toInt32 = j_iushr a.toInt32 (nI k) := by
  refine qt_ext (fun i hi => ?_)
  rw [qt_ofL, qb_ushr, qb_and, m32, qt_ushr, qt_ofL, sh6_n (by omega), sh5_n hk]
  by_cases c : k + i < 32
  · simp [hi, c]
  · simp [c]
theorem ns_s (x : Int32) {k : Nat} (hk : k < 32) : j_lshr x.toInt64 (nI k) = (x >>> (nI k &&& 31)).toInt64 := by
  refine qb_ext (fun i hi => ?_)
  rw [qb_sshr, qb_ofI, qb_ofI, qb_ofI, qt_sshr, qt_sshr, sh6_n (by omega), sh5_n hk]
  by_cases c1 : i < 32
  · by_cases c2 : k + i < 32
    · simp [hi, c1, c2, show k + i < 64 by omega, show ¬ 64 ≤ i by omega, show ¬ 32 ≤ i by omega]
    · simp [hi, c1, c2, show k + i < 64 by omega, show ¬ 64 ≤ i by omega, show ¬ 32 ≤ i by omega]
  · have c2 : ¬ k + i < 32 := by omega
    by_cases c3 : k + i < 64
    · by_cases c4 : k + 31 < 32
      · simp [hi, c1, c2, c3, c4, show ¬ 64 ≤ i by omega, show k = 0 by omega]
      · simp [hi, c1, c2, c3, c4, show ¬ 64 ≤ i by omega]
    · by_cases c4 : k + 31 < 32
      · simp [hi, c1, c2, c3, c4, show ¬ 64 ≤ i by omega, show k = 0 by omega]
      · simp [hi, c1, c2, c3, c4, show ¬ 64 ≤ i by omega]
theorem nw_0 (a b : Int64) : f_X12_signed (a + b) 32 = (a.toInt32 + b.toInt32).toInt64 := by rw [sg32, Int64.toInt32_add]
theorem nw_0s (a b : Int64) : f_X12_signed (a - b) 32 = (a.toInt32 - b.toInt32).toInt64 := by rw [sg32, Int64.toInt32_sub]
theorem nw_0m (a b : Int64) : f_X12_signed (a * b) 32 = (a.toInt32 * b.toInt32).toInt64 := by rw [sg32, Int64.toInt32_mul]
theorem nw_1 (a : Int64) (x : Int32) : f_X12_signed (j_lshl a (x &&& 31)) 32 = (a.toInt32 <<< ((x &&& 31) &&& 31)).toInt64 := by
  obtain ⟨k, hk, e⟩ := pk_andE x (m := 31) 5 rfl
  rw [sg32, e, ns_l a hk]
theorem nw_5 (a : Int64) (x : Int32) : f_X12_signed (j_lushr (f_X12_cut a 31 0) (x &&& 31)) 32 = (j_iushr a.toInt32 (x &&& 31)).toInt64 := by
  obtain ⟨k, hk, e⟩ := pk_andE x (m := 31) 5 rfl
  rw [sg32, ct32, e, ns_u a hk]
theorem nw_5s (a : Int64) (x : Int32) : j_lshr (f_X12_signed a 32) (x &&& 31) = (a.toInt32 >>> ((x &&& 31) &&& 31)).toInt64 := by
  obtain ⟨k, hk, e⟩ := pk_andE x (m := 31) 5 rfl
  rw [sg32, e, ns_s _ hk]
theorem fl_by (w : Int32) : (f_X12_cut (w.toInt64 &&& 4294967295) 25 20).toInt32 = ((w >>> ((20 : Int32) &&& 31)).toInt64 &&& 63).toInt32 := by
  rw [show f_X12_cut (w.toInt64 &&& 4294967295) 25 20 = j_lushr (w.toInt64 &&& 4294967295) 20 &&& 63 from rfl]
  refine qt_ext (al_32 ?_)
  simp [qb_or, qb_and, qb_xor, qt_or, qt_and, qt_xor, qb_lit, qt_lit, qb_m1, qt_m1, qb_not, qt_not, qbn_2, qbn_3, qbn_4, qbn_8, qbn_6145, qbn_786723, qb_ofI, qt_ofL, sh6_lit, sh5_lit, qb_shl, qb_sshr, qb_ushr, qt_shl, qt_sshr, qt_ushr, Nat.testBit_eq_decide_div_mod_eq, qt_big, qb_big, qt_s31, qt_l31]
theorem nd_4 (x y : Int32) (hy : ¬ y = 0) (h1 : ¬ y = -1) : (x.toInt64 / y.toInt64).toInt32 = x / y := by
  rw [← Int32.toInt64_div_of_ne_right x y h1]
  simp
theorem un_pl (x : Int64) : un (x &&& 4294967295) < 4294967296 := by
  rw [un_low]
  exact Nat.mod_lt _ (by decide)
theorem nd_5 {x y : Int64} (hx : un x < 4294967296) (hy : un y < 4294967296) (h0 : ¬ y = 0) : x / y = lN (un x / un y) := by
  have h : 0 < un y := by
    rcases Nat.eq_zero_or_pos (un y) with c | c
    · exact absurd ((un_zero y).mpr c) h0
    · exact c
  conv => lhs; rw [← un_self x, ← un_self y]
  exact pk_lDiv (by omega) h (by omega)
theorem bs {α : Type} (o : Option α) : (o.bind (fun y => some y)) = o := by cases o <;> rfl
def VI (w : Int32) (a u : St) (x y : Option St) : Prop := (∃ v, x = f_X6_putRd w v a ∧ y = f_X12_gives (w.toInt64 &&& 4294967295) v u) ∨ (x = some (f_X6_illegal a) ∧ y = some (f_X12_illegal u))
theorem np_eq (f : Int32) (hf : f = 0 ∨ f = 4 ∨ f = 5 ∨ f = 6 ∨ f = 7) (A B : Int64) (w : Int32) (u : St) : f_X12_shortRegisters_b35 (w.toInt64 &&& 4294967295) f A B u = f_X12_gives (w.toInt64 &&& 4294967295) (f_X0_narrowProduct f A.toInt32 B.toInt32) u := by
  have z1 : B.toInt32.toInt64 = 0 ↔ B.toInt32 = 0 := toL_inj _ 0
  have z2 : B.toInt32.toInt64 = -1 ↔ B.toInt32 = -1 := toL_inj _ (-1)
  rcases hf with rfl | rfl | rfl | rfl | rfl
  · simp [f_X12_shortRegisters, f_X12_shortRegisters_b294, f_X12_shortRegisters_b262, f_X12_shortRegisters_b231, f_X12_shortRegisters_b195, f_X12_shortRegisters_b165, f_X12_shortRegisters_b136, f_X12_shortRegisters_b125, f_X12_shortRegisters_b101, f_X12_shortRegisters_b76, f_X12_shortRegisters_b51, f_X12_shortRegisters_b46, f_X12_shortRegisters_b35, f_X0_narrowProduct, bs, nw_0m]
  · by_cases h0 : B.toInt32 = 0
    · simp [f_X12_shortRegisters, f_X12_shortRegisters_b294, f_X12_shortRegisters_b262, f_X12_shortRegisters_b231, f_X12_shortRegisters_b195, f_X12_shortRegisters_b165, f_X12_shortRegisters_b136, f_X12_shortRegisters_b125, f_X12_shortRegisters_b101, f_X12_shortRegisters_b76, f_X12_shortRegisters_b51, f_X12_shortRegisters_b46, f_X12_shortRegisters_b35, f_X12_divided, f_X0_narrowProduct, bs, sg32, z1, h0]
    · by_cases h1 : B.toInt32 = -1
      · have h1' := z2.mpr h1
        simp [f_X12_shortRegisters, f_X12_shortRegisters_b294, f_X12_shortRegisters_b262, f_X12_shortRegisters_b231, f_X12_shortRegisters_b195, f_X12_shortRegisters_b165, f_X12_shortRegisters_b136, f_X12_shortRegisters_b125, f_X12_shortRegisters_b101, f_X12_shortRegisters_b76, f_X12_shortRegisters_b51, f_X12_shortRegisters_b46, f_X12_shortRegisters_b35, f_X12_divided, f_X0_narrowProduct, bs, sg32, z1, h0, h1', h1, dm1_i]
      · have h1' : ¬ B.toInt32.toInt64 = -1 := fun q => h1 (z2.mp q)
        simp [f_X12_shortRegisters, f_X12_shortRegisters_b294, f_X12_shortRegisters_b262, f_X12_shortRegisters_b231, f_X12_shortRegisters_b195, f_X12_shortRegisters_b165, f_X12_shortRegisters_b136, f_X12_shortRegisters_b125, f_X12_shortRegisters_b101, f_X12_shortRegisters_b76, f_X12_shortRegisters_b51, f_X12_shortRegisters_b46, f_X12_shortRegisters_b35, f_X12_divided, f_X0_narrowProduct, bs, sg32, z1, h0, h1', nd_4 _ _ h0 h1]
  · simp only [f_X12_shortRegisters, f_X12_shortRegisters_b294, f_X12_shortRegisters_b262, f_X12_shortRegisters_b231, f_X12_shortRegisters_b195, f_X12_shortRegisters_b165, f_X12_shortRegisters_b136, f_X12_shortRegisters_b125, f_X12_shortRegisters_b101, f_X12_shortRegisters_b76, f_X12_shortRegisters_b51, f_X12_shortRegisters_b46, f_X12_shortRegisters_b35, f_X12_divided, f_X0_narrowProduct, bs, sg32, ct32, lo32]
    by_cases h0 : B &&& 4294967295 = 0
    · simp [h0]
    · simp [h0, quo h0, bs, nd_5 (un_pl A) (un_pl B) h0]
  · by_cases h0 : B.toInt32 = 0
    · simp [f_X12_shortRegisters, f_X12_shortRegisters_b294, f_X12_shortRegisters_b262, f_X12_shortRegisters_b231, f_X12_shortRegisters_b195, f_X12_shortRegisters_b165, f_X12_shortRegisters_b136, f_X12_shortRegisters_b125, f_X12_shortRegisters_b101, f_X12_shortRegisters_b76, f_X12_shortRegisters_b51, f_X12_shortRegisters_b46, f_X12_shortRegisters_b35, f_X12_divided, f_X0_narrowProduct, bs, sg32, z1, h0]
    · by_cases h1 : B.toInt32 = -1
      · have h1' := z2.mpr h1
        simp [f_X12_shortRegisters, f_X12_shortRegisters_b294, f_X12_shortRegisters_b262, f_X12_shortRegisters_b231, f_X12_shortRegisters_b195, f_X12_shortRegisters_b165, f_X12_shortRegisters_b136, f_X12_shortRegisters_b125, f_X12_shortRegisters_b101, f_X12_shortRegisters_b76, f_X12_shortRegisters_b51, f_X12_shortRegisters_b46, f_X12_shortRegisters_b35, f_X12_divided, f_X0_narrowProduct, bs, sg32, z1, h0, h1', h1, rm1_i]
      · have h1' : ¬ B.toInt32.toInt64 = -1 := fun q => h1 (z2.mp q)
        simp [f_X12_shortRegisters, f_X12_shortRegisters_b294, f_X12_shortRegisters_b262, f_X12_shortRegisters_b231, f_X12_shortRegisters_b195, f_X12_shortRegisters_b165, f_X12_shortRegisters_b136, f_X12_shortRegisters_b125, f_X12_shortRegisters_b101, f_X12_shortRegisters_b76, f_X12_shortRegisters_b51, f_X12_shortRegisters_b46, f_X12_shortRegisters_b35, f_X12_divided, f_X0_narrowProduct, bs, sg32, z1, h0, h1', nd_4 _ _ h0 h1]
  · simp only [f_X12_shortRegisters, f_X12_shortRegisters_b294, f_X12_shortRegisters_b262, f_X12_shortRegisters_b231, f_X12_shortRegisters_b195, f_X12_shortRegisters_b165, f_X12_shortRegisters_b136, f_X12_shortRegisters_b125, f_X12_shortRegisters_b101, f_X12_shortRegisters_b76, f_X12_shortRegisters_b51, f_X12_shortRegisters_b46, f_X12_shortRegisters_b35, f_X12_divided, f_X0_narrowProduct, f_X0_narrowProduct_b114, bs, sg32, ct32, lo32]
    by_cases h0 : B &&& 4294967295 = 0
    · simp [h0, -Int64.toInt32_and, i32l]
    · simp [h0, quo h0, bs, nd_5 (un_pl A) (un_pl B) h0]
theorem x_imm (w : Int32) (a u : St) (A : Int64) (hA : f_X6_a w a = some A) : VI w a u (f_X6_computeWithConstant w a) (f_X12_immediates (w.toInt64 &&& 4294967295) (f_X6_f w) A ((w >>> ((20 : Int32) &&& 31)).toInt64) u) := by
  have e0 : (f_X12_cut (w.toInt64 &&& 4294967295) 31 26 = 0) ↔ j_iushr w 26 = 0 := by rw [fl_g6]; exact toL_inj _ 0
  have e16 : (f_X12_cut (w.toInt64 &&& 4294967295) 31 26 = 16) ↔ j_iushr w 26 = 16 := by rw [fl_g6]; exact toL_inj _ 16
  have eb := fl_by w
  rcases f_8 w with h | h | h | h | h | h | h | h
  · left
    refine ⟨A + ((w >>> ((20 : Int32) &&& 31)).toInt64), ?_, ?_⟩
    · simp [f_X6_computeWithConstant, f_X6_computeWithConstant_b81, f_X6_computeWithConstant_b80, f_X6_computeWithConstant_b52, f_X6_computeWithConstant_b47, f_X6_computeWithConstant_b25, f_X6_computeWithConstant_b20, bs, h, hA, f_X0_plain]
    · simp [f_X12_immediates, f_X12_immediates_b96, f_X12_immediates_b119, f_X12_immediates_b236, f_X12_immediates_b214, f_X12_immediates_b191, bs, h]
  · by_cases g : j_iushr w 26 = 0
    · left
      refine ⟨j_lshl A ((((w >>> ((20 : Int32) &&& 31)).toInt64) &&& 63).toInt32), ?_, ?_⟩
      · simp [f_X6_computeWithConstant, f_X6_computeWithConstant_b81, f_X6_computeWithConstant_b80, f_X6_computeWithConstant_b52, f_X6_computeWithConstant_b47, f_X6_computeWithConstant_b25, f_X6_computeWithConstant_b20, bs, h, hA, f_X0_plain, g]
      · simp [f_X12_immediates, f_X12_immediates_b96, f_X12_immediates_b119, f_X12_immediates_b236, f_X12_immediates_b214, f_X12_immediates_b191, bs, h, e0, g, eb]
    · right
      refine ⟨?_, ?_⟩
      · simp [f_X6_computeWithConstant, f_X6_computeWithConstant_b81, f_X6_computeWithConstant_b80, f_X6_computeWithConstant_b52, f_X6_computeWithConstant_b47, f_X6_computeWithConstant_b25, f_X6_computeWithConstant_b20, bs, h, hA, f_X0_plain, g]
      · simp [f_X12_immediates, f_X12_immediates_b96, f_X12_immediates_b119, f_X12_immediates_b236, f_X12_immediates_b214, f_X12_immediates_b191, bs, h, e0, g]
  · by_cases g : ((w >>> ((20 : Int32) &&& 31)).toInt64) ≤ A
    · left
      refine ⟨0, ?_, ?_⟩
      · simp [f_X6_computeWithConstant, f_X6_computeWithConstant_b81, f_X6_computeWithConstant_b80, f_X6_computeWithConstant_b52, f_X6_computeWithConstant_b47, f_X6_computeWithConstant_b25, f_X6_computeWithConstant_b20, bs, h, hA, f_X0_plain, g]
      · simp [f_X12_immediates, f_X12_immediates_b96, f_X12_immediates_b119, f_X12_immediates_b236, f_X12_immediates_b214, f_X12_immediates_b191, bs, h, g]
    · left
      refine ⟨1, ?_, ?_⟩
      · simp [f_X6_computeWithConstant, f_X6_computeWithConstant_b81, f_X6_computeWithConstant_b80, f_X6_computeWithConstant_b52, f_X6_computeWithConstant_b47, f_X6_computeWithConstant_b25, f_X6_computeWithConstant_b20, bs, h, hA, f_X0_plain, g]
      · simp [f_X12_immediates, f_X12_immediates_b96, f_X12_immediates_b119, f_X12_immediates_b236, f_X12_immediates_b214, f_X12_immediates_b191, bs, h, g]
  · rcases bl_01 A ((w >>> ((20 : Int32) &&& 31)).toInt64) with g | g
    · left
      refine ⟨0, ?_, ?_⟩
      · simp [f_X6_computeWithConstant, f_X6_computeWithConstant_b81, f_X6_computeWithConstant_b80, f_X6_computeWithConstant_b52, f_X6_computeWithConstant_b47, f_X6_computeWithConstant_b25, f_X6_computeWithConstant_b20, bs, h, hA, f_X0_plain, bl_eq, g]
      · simp [f_X12_immediates, f_X12_immediates_b96, f_X12_immediates_b119, f_X12_immediates_b236, f_X12_immediates_b214, f_X12_immediates_b191, bs, h, g]
    · left
      refine ⟨1, ?_, ?_⟩
      · simp [f_X6_computeWithConstant, f_X6_computeWithConstant_b81, f_X6_computeWithConstant_b80, f_X6_computeWithConstant_b52, f_X6_computeWithConstant_b47, f_X6_computeWithConstant_b25, f_X6_computeWithConstant_b20, bs, h, hA, f_X0_plain, bl_eq, g]
      · simp [f_X12_immediates, f_X12_immediates_b96, f_X12_immediates_b119, f_X12_immediates_b236, f_X12_immediates_b214, f_X12_immediates_b191, bs, h, g]
  · left
    refine ⟨A ^^^ ((w >>> ((20 : Int32) &&& 31)).toInt64), ?_, ?_⟩
    · simp [f_X6_computeWithConstant, f_X6_computeWithConstant_b81, f_X6_computeWithConstant_b80, f_X6_computeWithConstant_b52, f_X6_computeWithConstant_b47, f_X6_computeWithConstant_b25, f_X6_computeWithConstant_b20, bs, h, hA, f_X0_plain]
    · simp [f_X12_immediates, f_X12_immediates_b96, f_X12_immediates_b119, f_X12_immediates_b236, f_X12_immediates_b214, f_X12_immediates_b191, bs, h]
  · by_cases g : j_iushr w 26 = 0
    · left
      refine ⟨j_lushr A ((((w >>> ((20 : Int32) &&& 31)).toInt64) &&& 63).toInt32), ?_, ?_⟩
      · simp [f_X6_computeWithConstant, f_X6_computeWithConstant_b81, f_X6_computeWithConstant_b80, f_X6_computeWithConstant_b52, f_X6_computeWithConstant_b47, f_X6_computeWithConstant_b25, f_X6_computeWithConstant_b20, bs, h, hA, f_X0_plain, g]
      · simp [f_X12_immediates, f_X12_immediates_b96, f_X12_immediates_b119, f_X12_immediates_b236, f_X12_immediates_b214, f_X12_immediates_b191, bs, h, e0, g, eb]
    · by_cases g2 : j_iushr w 26 = 16
      · left
        refine ⟨j_lshr A ((((w >>> ((20 : Int32) &&& 31)).toInt64) &&& 63).toInt32), ?_, ?_⟩
        · simp [f_X6_computeWithConstant, f_X6_computeWithConstant_b81, f_X6_computeWithConstant_b80, f_X6_computeWithConstant_b52, f_X6_computeWithConstant_b47, f_X6_computeWithConstant_b25, f_X6_computeWithConstant_b20, bs, h, hA, f_X0_plain, g2]
        · simp [f_X12_immediates, f_X12_immediates_b96, f_X12_immediates_b119, f_X12_immediates_b236, f_X12_immediates_b214, f_X12_immediates_b191, bs, h, e0, e16, g2, eb]
      · right
        refine ⟨?_, ?_⟩
        · simp [f_X6_computeWithConstant, f_X6_computeWithConstant_b81, f_X6_computeWithConstant_b80, f_X6_computeWithConstant_b52, f_X6_computeWithConstant_b47, f_X6_computeWithConstant_b25, f_X6_computeWithConstant_b20, bs, h, hA, f_X0_plain, g, g2]
        · simp [f_X12_immediates, f_X12_immediates_b96, f_X12_immediates_b119, f_X12_immediates_b236, f_X12_immediates_b214, f_X12_immediates_b191, bs, h, e0, e16, g, g2]
  · left
    refine ⟨A ||| ((w >>> ((20 : Int32) &&& 31)).toInt64), ?_, ?_⟩
    · simp [f_X6_computeWithConstant, f_X6_computeWithConstant_b81, f_X6_computeWithConstant_b80, f_X6_computeWithConstant_b52, f_X6_computeWithConstant_b47, f_X6_computeWithConstant_b25, f_X6_computeWithConstant_b20, bs, h, hA, f_X0_plain]
    · simp [f_X12_immediates, f_X12_immediates_b96, f_X12_immediates_b119, f_X12_immediates_b236, f_X12_immediates_b214, f_X12_immediates_b191, bs, h]
  · left
    refine ⟨A &&& ((w >>> ((20 : Int32) &&& 31)).toInt64), ?_, ?_⟩
    · simp [f_X6_computeWithConstant, f_X6_computeWithConstant_b81, f_X6_computeWithConstant_b80, f_X6_computeWithConstant_b52, f_X6_computeWithConstant_b47, f_X6_computeWithConstant_b25, f_X6_computeWithConstant_b20, bs, h, hA, f_X0_plain]
    · simp [f_X12_immediates, f_X12_immediates_b96, f_X12_immediates_b119, f_X12_immediates_b236, f_X12_immediates_b214, f_X12_immediates_b191, bs, h]
theorem x_nimm (w : Int32) (a u : St) (A : Int64) (hA : f_X6_a w a = some A) : VI w a u (f_X6_computeNarrowWithConstant w a) (f_X12_shortImmediates (w.toInt64 &&& 4294967295) (f_X6_f w) A ((w >>> ((20 : Int32) &&& 31)).toInt64) u) := by
  have e0 : (f_X12_cut (w.toInt64 &&& 4294967295) 31 25 = 0) ↔ j_iushr w 25 = 0 := by rw [fl_g]; exact toL_inj _ 0
  have e32 : (f_X12_cut (w.toInt64 &&& 4294967295) 31 25 = 32) ↔ j_iushr w 25 = 32 := by rw [fl_g]; exact toL_inj _ 32
  have eb := fl_r2 w
  rcases f_8 w with h | h | h | h | h | h | h | h
  · left
    refine ⟨(A.toInt32 + (w >>> ((20 : Int32) &&& 31))).toInt64, ?_, ?_⟩
    · simp [f_X6_computeNarrowWithConstant, f_X6_computeNarrowWithConstant_b84, f_X6_computeNarrowWithConstant_b83, f_X6_computeNarrowWithConstant_b43, f_X6_computeNarrowWithConstant_b38, f_X6_computeNarrowWithConstant_b42, f_X6_computeNarrowWithConstant_b23, bs, h, hA, f_X0_narrow]
    · simp [f_X12_shortImmediates, f_X12_shortImmediates_b141, f_X12_shortImmediates_b109, f_X12_shortImmediates_b73, bs, h, nw_0]
  · by_cases g : j_iushr w 25 = 0
    · left
      refine ⟨(A.toInt32 <<< (((w >>> ((20 : Int32) &&& 31)) &&& 31) &&& 31)).toInt64, ?_, ?_⟩
      · simp [f_X6_computeNarrowWithConstant, f_X6_computeNarrowWithConstant_b84, f_X6_computeNarrowWithConstant_b83, f_X6_computeNarrowWithConstant_b43, f_X6_computeNarrowWithConstant_b38, f_X6_computeNarrowWithConstant_b42, f_X6_computeNarrowWithConstant_b23, bs, h, hA, f_X0_narrow, g]
      · simp [f_X12_shortImmediates, f_X12_shortImmediates_b141, f_X12_shortImmediates_b109, f_X12_shortImmediates_b73, bs, h, e0, g, eb, nw_1]
    · right
      refine ⟨?_, ?_⟩
      · simp [f_X6_computeNarrowWithConstant, f_X6_computeNarrowWithConstant_b84, f_X6_computeNarrowWithConstant_b83, f_X6_computeNarrowWithConstant_b43, f_X6_computeNarrowWithConstant_b38, f_X6_computeNarrowWithConstant_b42, f_X6_computeNarrowWithConstant_b23, bs, h, hA, f_X0_narrow, g]
      · simp [f_X12_shortImmediates, f_X12_shortImmediates_b141, f_X12_shortImmediates_b109, f_X12_shortImmediates_b73, bs, h, e0, g]
  · right
    refine ⟨?_, ?_⟩
    · simp [f_X6_computeNarrowWithConstant, f_X6_computeNarrowWithConstant_b84, f_X6_computeNarrowWithConstant_b83, f_X6_computeNarrowWithConstant_b43, f_X6_computeNarrowWithConstant_b38, f_X6_computeNarrowWithConstant_b42, f_X6_computeNarrowWithConstant_b23, bs, h, hA, f_X0_narrow]
    · simp [f_X12_shortImmediates, f_X12_shortImmediates_b141, f_X12_shortImmediates_b109, f_X12_shortImmediates_b73, bs, h]
  · right
    refine ⟨?_, ?_⟩
    · simp [f_X6_computeNarrowWithConstant, f_X6_computeNarrowWithConstant_b84, f_X6_computeNarrowWithConstant_b83, f_X6_computeNarrowWithConstant_b43, f_X6_computeNarrowWithConstant_b38, f_X6_computeNarrowWithConstant_b42, f_X6_computeNarrowWithConstant_b23, bs, h, hA, f_X0_narrow]
    · simp [f_X12_shortImmediates, f_X12_shortImmediates_b141, f_X12_shortImmediates_b109, f_X12_shortImmediates_b73, bs, h]
  · right
    refine ⟨?_, ?_⟩
    · simp [f_X6_computeNarrowWithConstant, f_X6_computeNarrowWithConstant_b84, f_X6_computeNarrowWithConstant_b83, f_X6_computeNarrowWithConstant_b43, f_X6_computeNarrowWithConstant_b38, f_X6_computeNarrowWithConstant_b42, f_X6_computeNarrowWithConstant_b23, bs, h, hA, f_X0_narrow]
    · simp [f_X12_shortImmediates, f_X12_shortImmediates_b141, f_X12_shortImmediates_b109, f_X12_shortImmediates_b73, bs, h]
  · by_cases g : j_iushr w 25 = 0
    · left
      refine ⟨(j_iushr A.toInt32 ((w >>> ((20 : Int32) &&& 31)) &&& 31)).toInt64, ?_, ?_⟩
      · simp [f_X6_computeNarrowWithConstant, f_X6_computeNarrowWithConstant_b84, f_X6_computeNarrowWithConstant_b83, f_X6_computeNarrowWithConstant_b43, f_X6_computeNarrowWithConstant_b38, f_X6_computeNarrowWithConstant_b42, f_X6_computeNarrowWithConstant_b23, bs, h, hA, f_X0_narrow, g]
      · simp [f_X12_shortImmediates, f_X12_shortImmediates_b141, f_X12_shortImmediates_b109, f_X12_shortImmediates_b73, bs, h, e0, g, eb, nw_5]
    · by_cases g2 : j_iushr w 25 = 32
      · left
        refine ⟨(A.toInt32 >>> (((w >>> ((20 : Int32) &&& 31)) &&& 31) &&& 31)).toInt64, ?_, ?_⟩
        · simp [f_X6_computeNarrowWithConstant, f_X6_computeNarrowWithConstant_b84, f_X6_computeNarrowWithConstant_b83, f_X6_computeNarrowWithConstant_b43, f_X6_computeNarrowWithConstant_b38, f_X6_computeNarrowWithConstant_b42, f_X6_computeNarrowWithConstant_b23, bs, h, hA, f_X0_narrow, g2]
        · simp [f_X12_shortImmediates, f_X12_shortImmediates_b141, f_X12_shortImmediates_b109, f_X12_shortImmediates_b73, bs, h, e0, e32, g2, eb, nw_5s]
      · right
        refine ⟨?_, ?_⟩
        · simp [f_X6_computeNarrowWithConstant, f_X6_computeNarrowWithConstant_b84, f_X6_computeNarrowWithConstant_b83, f_X6_computeNarrowWithConstant_b43, f_X6_computeNarrowWithConstant_b38, f_X6_computeNarrowWithConstant_b42, f_X6_computeNarrowWithConstant_b23, bs, h, hA, f_X0_narrow, g, g2]
        · simp [f_X12_shortImmediates, f_X12_shortImmediates_b141, f_X12_shortImmediates_b109, f_X12_shortImmediates_b73, bs, h, e0, e32, g, g2]
  · right
    refine ⟨?_, ?_⟩
    · simp [f_X6_computeNarrowWithConstant, f_X6_computeNarrowWithConstant_b84, f_X6_computeNarrowWithConstant_b83, f_X6_computeNarrowWithConstant_b43, f_X6_computeNarrowWithConstant_b38, f_X6_computeNarrowWithConstant_b42, f_X6_computeNarrowWithConstant_b23, bs, h, hA, f_X0_narrow]
    · simp [f_X12_shortImmediates, f_X12_shortImmediates_b141, f_X12_shortImmediates_b109, f_X12_shortImmediates_b73, bs, h]
  · right
    refine ⟨?_, ?_⟩
    · simp [f_X6_computeNarrowWithConstant, f_X6_computeNarrowWithConstant_b84, f_X6_computeNarrowWithConstant_b83, f_X6_computeNarrowWithConstant_b43, f_X6_computeNarrowWithConstant_b38, f_X6_computeNarrowWithConstant_b42, f_X6_computeNarrowWithConstant_b23, bs, h, hA, f_X0_narrow]
    · simp [f_X12_shortImmediates, f_X12_shortImmediates_b141, f_X12_shortImmediates_b109, f_X12_shortImmediates_b73, bs, h]
theorem x_reg (w : Int32) (a u : St) (A B : Int64) (hA : f_X6_a w a = some A) (hB : f_X6_b w a = some B) : VI w a u (f_X6_compute w a) (f_X12_registers (w.toInt64 &&& 4294967295) (f_X6_f w) A B u) := by
  have e0 : (f_X12_cut (w.toInt64 &&& 4294967295) 31 25 = 0) ↔ j_iushr w 25 = 0 := by rw [fl_g]; exact toL_inj _ 0
  have e1 : (f_X12_cut (w.toInt64 &&& 4294967295) 31 25 = 1) ↔ j_iushr w 25 = 1 := by rw [fl_g]; exact toL_inj _ 1
  have e32 : (f_X12_cut (w.toInt64 &&& 4294967295) 31 25 = 32) ↔ j_iushr w 25 = 32 := by rw [fl_g]; exact toL_inj _ 32
  rcases f_8 w with h | h | h | h | h | h | h | h
  · by_cases g1 : j_iushr w 25 = 1
    · left
      refine ⟨A * B, ?_, ?_⟩
      · simp [f_X6_compute, f_X6_compute_b80, f_X6_compute_b56, f_X6_compute_b89, bs, h, hA, hB, g1, f_X0_product, f_X0_product_b76, f_X0_product_b64, f_X0_product_b94]
      · simp [f_X12_registers, f_X12_registers_b265, f_X12_registers_b288, f_X12_registers_b168, f_X12_registers_b141, f_X12_registers_b110, f_X12_registers_b109, f_X12_registers_b91, f_X12_registers_b90, bs, h, e0, e1, e32, g1]
    · by_cases g0 : j_iushr w 25 = 0
      · left
        refine ⟨A + B, ?_, ?_⟩
        · simp [f_X6_compute, f_X6_compute_b80, f_X6_compute_b56, f_X6_compute_b89, bs, h, hA, hB, g0, f_X0_plain]
        · simp [f_X12_registers, f_X12_registers_b265, f_X12_registers_b288, f_X12_registers_b168, f_X12_registers_b141, f_X12_registers_b110, f_X12_registers_b109, f_X12_registers_b91, f_X12_registers_b90, bs, h, e0, e1, e32, g0]
      · by_cases g32 : j_iushr w 25 = 32
        · left
          refine ⟨A - B, ?_, ?_⟩
          · simp [f_X6_compute, f_X6_compute_b80, f_X6_compute_b56, f_X6_compute_b89, bs, h, hA, hB, g32, f_X0_plain]
          · simp [f_X12_registers, f_X12_registers_b265, f_X12_registers_b288, f_X12_registers_b168, f_X12_registers_b141, f_X12_registers_b110, f_X12_registers_b109, f_X12_registers_b91, f_X12_registers_b90, bs, h, e0, e1, e32, g32]
        · right
          refine ⟨?_, ?_⟩
          · simp [f_X6_compute, f_X6_compute_b80, f_X6_compute_b56, f_X6_compute_b89, bs, h, hA, hB, g1, g0, g32]
          · simp [f_X12_registers, f_X12_registers_b265, f_X12_registers_b288, f_X12_registers_b168, f_X12_registers_b141, f_X12_registers_b110, f_X12_registers_b109, f_X12_registers_b91, f_X12_registers_b90, bs, h, e0, e1, e32, g1, g0, g32]
  · by_cases g1 : j_iushr w 25 = 1
    · by_cases p : 0 ≤ A
      · by_cases p2 : 0 ≤ B
        · left
          refine ⟨f_X12_upper A B - 0 - 0, ?_, ?_⟩
          · simp [f_X6_compute, f_X6_compute_b80, f_X6_compute_b56, f_X6_compute_b89, bs, h, hA, hB, g1, p, p2, up_eq, f_X0_product, f_X0_product_b76, f_X0_product_b64, f_X0_product_b94]
          · simp [f_X12_registers, f_X12_registers_b265, f_X12_registers_b288, f_X12_registers_b168, f_X12_registers_b141, f_X12_registers_b110, f_X12_registers_b109, f_X12_registers_b91, f_X12_registers_b90, bs, h, e0, e1, e32, g1, p, p2]
        · left
          refine ⟨f_X12_upper A B - 0 - A, ?_, ?_⟩
          · simp [f_X6_compute, f_X6_compute_b80, f_X6_compute_b56, f_X6_compute_b89, bs, h, hA, hB, g1, p, p2, up_eq, f_X0_product, f_X0_product_b76, f_X0_product_b64, f_X0_product_b94]
          · simp [f_X12_registers, f_X12_registers_b265, f_X12_registers_b288, f_X12_registers_b168, f_X12_registers_b141, f_X12_registers_b110, f_X12_registers_b109, f_X12_registers_b91, f_X12_registers_b90, bs, h, e0, e1, e32, g1, p, p2]
      · by_cases p2 : 0 ≤ B
        · left
          refine ⟨f_X12_upper A B - B - 0, ?_, ?_⟩
          · simp [f_X6_compute, f_X6_compute_b80, f_X6_compute_b56, f_X6_compute_b89, bs, h, hA, hB, g1, p, p2, up_eq, f_X0_product, f_X0_product_b76, f_X0_product_b64, f_X0_product_b94]
          · simp [f_X12_registers, f_X12_registers_b265, f_X12_registers_b288, f_X12_registers_b168, f_X12_registers_b141, f_X12_registers_b110, f_X12_registers_b109, f_X12_registers_b91, f_X12_registers_b90, bs, h, e0, e1, e32, g1, p, p2]
        · left
          refine ⟨f_X12_upper A B - B - A, ?_, ?_⟩
          · simp [f_X6_compute, f_X6_compute_b80, f_X6_compute_b56, f_X6_compute_b89, bs, h, hA, hB, g1, p, p2, up_eq, f_X0_product, f_X0_product_b76, f_X0_product_b64, f_X0_product_b94]
          · simp [f_X12_registers, f_X12_registers_b265, f_X12_registers_b288, f_X12_registers_b168, f_X12_registers_b141, f_X12_registers_b110, f_X12_registers_b109, f_X12_registers_b91, f_X12_registers_b90, bs, h, e0, e1, e32, g1, p, p2]
    · by_cases g0 : j_iushr w 25 = 0
      · left
        refine ⟨j_lshl A ((B &&& 63).toInt32), ?_, ?_⟩
        · simp [f_X6_compute, f_X6_compute_b80, f_X6_compute_b56, f_X6_compute_b89, bs, h, hA, hB, g0, f_X0_plain]
        · simp [f_X12_registers, f_X12_registers_b265, f_X12_registers_b288, f_X12_registers_b168, f_X12_registers_b141, f_X12_registers_b110, f_X12_registers_b109, f_X12_registers_b91, f_X12_registers_b90, bs, h, e0, e1, e32, g0]
      · by_cases g32 : j_iushr w 25 = 32
        · right
          refine ⟨?_, ?_⟩
          · simp [f_X6_compute, f_X6_compute_b80, f_X6_compute_b56, f_X6_compute_b89, bs, h, hA, hB, g32]
          · simp [f_X12_registers, f_X12_registers_b265, f_X12_registers_b288, f_X12_registers_b168, f_X12_registers_b141, f_X12_registers_b110, f_X12_registers_b109, f_X12_registers_b91, f_X12_registers_b90, bs, h, e0, e1, e32, g32]
        · right
          refine ⟨?_, ?_⟩
          · simp [f_X6_compute, f_X6_compute_b80, f_X6_compute_b56, f_X6_compute_b89, bs, h, hA, hB, g1, g0, g32]
          · simp [f_X12_registers, f_X12_registers_b265, f_X12_registers_b288, f_X12_registers_b168, f_X12_registers_b141, f_X12_registers_b110, f_X12_registers_b109, f_X12_registers_b91, f_X12_registers_b90, bs, h, e0, e1, e32, g1, g0, g32]
  · by_cases g1 : j_iushr w 25 = 1
    · by_cases p : 0 ≤ A
      · left
        refine ⟨f_X12_upper A B - 0, ?_, ?_⟩
        · simp [f_X6_compute, f_X6_compute_b80, f_X6_compute_b56, f_X6_compute_b89, bs, h, hA, hB, g1, p, up_eq, f_X0_product, f_X0_product_b76, f_X0_product_b64, f_X0_product_b94]
        · simp [f_X12_registers, f_X12_registers_b265, f_X12_registers_b288, f_X12_registers_b168, f_X12_registers_b141, f_X12_registers_b110, f_X12_registers_b109, f_X12_registers_b91, f_X12_registers_b90, bs, h, e0, e1, e32, g1, p]
      · left
        refine ⟨f_X12_upper A B - B, ?_, ?_⟩
        · simp [f_X6_compute, f_X6_compute_b80, f_X6_compute_b56, f_X6_compute_b89, bs, h, hA, hB, g1, p, up_eq, f_X0_product, f_X0_product_b76, f_X0_product_b64, f_X0_product_b94]
        · simp [f_X12_registers, f_X12_registers_b265, f_X12_registers_b288, f_X12_registers_b168, f_X12_registers_b141, f_X12_registers_b110, f_X12_registers_b109, f_X12_registers_b91, f_X12_registers_b90, bs, h, e0, e1, e32, g1, p]
    · by_cases g0 : j_iushr w 25 = 0
      · by_cases g : B ≤ A
        · left
          refine ⟨0, ?_, ?_⟩
          · simp [f_X6_compute, f_X6_compute_b80, f_X6_compute_b56, f_X6_compute_b89, bs, h, hA, hB, g0, g, f_X0_plain]
          · simp [f_X12_registers, f_X12_registers_b265, f_X12_registers_b288, f_X12_registers_b168, f_X12_registers_b141, f_X12_registers_b110, f_X12_registers_b109, f_X12_registers_b91, f_X12_registers_b90, bs, h, e0, e1, e32, g0, g]
        · left
          refine ⟨1, ?_, ?_⟩
          · simp [f_X6_compute, f_X6_compute_b80, f_X6_compute_b56, f_X6_compute_b89, bs, h, hA, hB, g0, g, f_X0_plain]
          · simp [f_X12_registers, f_X12_registers_b265, f_X12_registers_b288, f_X12_registers_b168, f_X12_registers_b141, f_X12_registers_b110, f_X12_registers_b109, f_X12_registers_b91, f_X12_registers_b90, bs, h, e0, e1, e32, g0, g]
      · by_cases g32 : j_iushr w 25 = 32
        · right
          refine ⟨?_, ?_⟩
          · simp [f_X6_compute, f_X6_compute_b80, f_X6_compute_b56, f_X6_compute_b89, bs, h, hA, hB, g32]
          · simp [f_X12_registers, f_X12_registers_b265, f_X12_registers_b288, f_X12_registers_b168, f_X12_registers_b141, f_X12_registers_b110, f_X12_registers_b109, f_X12_registers_b91, f_X12_registers_b90, bs, h, e0, e1, e32, g32]
        · right
          refine ⟨?_, ?_⟩
          · simp [f_X6_compute, f_X6_compute_b80, f_X6_compute_b56, f_X6_compute_b89, bs, h, hA, hB, g1, g0, g32]
          · simp [f_X12_registers, f_X12_registers_b265, f_X12_registers_b288, f_X12_registers_b168, f_X12_registers_b141, f_X12_registers_b110, f_X12_registers_b109, f_X12_registers_b91, f_X12_registers_b90, bs, h, e0, e1, e32, g1, g0, g32]
  · by_cases g1 : j_iushr w 25 = 1
    · left
      refine ⟨f_X12_upper A B, ?_, ?_⟩
      · simp [f_X6_compute, f_X6_compute_b80, f_X6_compute_b56, f_X6_compute_b89, bs, h, hA, hB, g1, up_eq, f_X0_product, f_X0_product_b76, f_X0_product_b64, f_X0_product_b94]
      · simp [f_X12_registers, f_X12_registers_b265, f_X12_registers_b288, f_X12_registers_b168, f_X12_registers_b141, f_X12_registers_b110, f_X12_registers_b109, f_X12_registers_b91, f_X12_registers_b90, bs, h, e0, e1, e32, g1]
    · by_cases g0 : j_iushr w 25 = 0
      · rcases bl_01 A B with g | g
        · left
          refine ⟨0, ?_, ?_⟩
          · simp [f_X6_compute, f_X6_compute_b80, f_X6_compute_b56, f_X6_compute_b89, bs, h, hA, hB, g0, g, bl_eq, f_X0_plain]
          · simp [f_X12_registers, f_X12_registers_b265, f_X12_registers_b288, f_X12_registers_b168, f_X12_registers_b141, f_X12_registers_b110, f_X12_registers_b109, f_X12_registers_b91, f_X12_registers_b90, bs, h, e0, e1, e32, g0, g]
        · left
          refine ⟨1, ?_, ?_⟩
          · simp [f_X6_compute, f_X6_compute_b80, f_X6_compute_b56, f_X6_compute_b89, bs, h, hA, hB, g0, g, bl_eq, f_X0_plain]
          · simp [f_X12_registers, f_X12_registers_b265, f_X12_registers_b288, f_X12_registers_b168, f_X12_registers_b141, f_X12_registers_b110, f_X12_registers_b109, f_X12_registers_b91, f_X12_registers_b90, bs, h, e0, e1, e32, g0, g]
      · by_cases g32 : j_iushr w 25 = 32
        · right
          refine ⟨?_, ?_⟩
          · simp [f_X6_compute, f_X6_compute_b80, f_X6_compute_b56, f_X6_compute_b89, bs, h, hA, hB, g32]
          · simp [f_X12_registers, f_X12_registers_b265, f_X12_registers_b288, f_X12_registers_b168, f_X12_registers_b141, f_X12_registers_b110, f_X12_registers_b109, f_X12_registers_b91, f_X12_registers_b90, bs, h, e0, e1, e32, g32]
        · right
          refine ⟨?_, ?_⟩
          · simp [f_X6_compute, f_X6_compute_b80, f_X6_compute_b56, f_X6_compute_b89, bs, h, hA, hB, g1, g0, g32]
          · simp [f_X12_registers, f_X12_registers_b265, f_X12_registers_b288, f_X12_registers_b168, f_X12_registers_b141, f_X12_registers_b110, f_X12_registers_b109, f_X12_registers_b91, f_X12_registers_b90, bs, h, e0, e1, e32, g1, g0, g32]
  · by_cases g1 : j_iushr w 25 = 1
    · obtain ⟨v, v1, v2⟩ := div_eq (f_X6_f w) (by rw [h]; decide) A B
      rw [h] at v1 v2
      left
      refine ⟨v, ?_, ?_⟩
      · simp [f_X6_compute, f_X6_compute_b80, f_X6_compute_b56, f_X6_compute_b89, bs, h, hA, hB, g1, v1]
      · simp [f_X12_registers, f_X12_registers_b265, f_X12_registers_b288, f_X12_registers_b168, f_X12_registers_b141, f_X12_registers_b110, f_X12_registers_b109, f_X12_registers_b91, f_X12_registers_b90, bs, h, e0, e1, e32, g1, v2]
    · by_cases g0 : j_iushr w 25 = 0
      · left
        refine ⟨A ^^^ B, ?_, ?_⟩
        · simp [f_X6_compute, f_X6_compute_b80, f_X6_compute_b56, f_X6_compute_b89, bs, h, hA, hB, g0, f_X0_plain]
        · simp [f_X12_registers, f_X12_registers_b265, f_X12_registers_b288, f_X12_registers_b168, f_X12_registers_b141, f_X12_registers_b110, f_X12_registers_b109, f_X12_registers_b91, f_X12_registers_b90, bs, h, e0, e1, e32, g0]
      · by_cases g32 : j_iushr w 25 = 32
        · right
          refine ⟨?_, ?_⟩
          · simp [f_X6_compute, f_X6_compute_b80, f_X6_compute_b56, f_X6_compute_b89, bs, h, hA, hB, g32]
          · simp [f_X12_registers, f_X12_registers_b265, f_X12_registers_b288, f_X12_registers_b168, f_X12_registers_b141, f_X12_registers_b110, f_X12_registers_b109, f_X12_registers_b91, f_X12_registers_b90, bs, h, e0, e1, e32, g32]
        · right
          refine ⟨?_, ?_⟩
          · simp [f_X6_compute, f_X6_compute_b80, f_X6_compute_b56, f_X6_compute_b89, bs, h, hA, hB, g1, g0, g32]
          · simp [f_X12_registers, f_X12_registers_b265, f_X12_registers_b288, f_X12_registers_b168, f_X12_registers_b141, f_X12_registers_b110, f_X12_registers_b109, f_X12_registers_b91, f_X12_registers_b90, bs, h, e0, e1, e32, g1, g0, g32]
  · by_cases g1 : j_iushr w 25 = 1
    · obtain ⟨v, v1, v2⟩ := div_eq (f_X6_f w) (by rw [h]; decide) A B
      rw [h] at v1 v2
      left
      refine ⟨v, ?_, ?_⟩
      · simp [f_X6_compute, f_X6_compute_b80, f_X6_compute_b56, f_X6_compute_b89, bs, h, hA, hB, g1, v1]
      · simp [f_X12_registers, f_X12_registers_b265, f_X12_registers_b288, f_X12_registers_b168, f_X12_registers_b141, f_X12_registers_b110, f_X12_registers_b109, f_X12_registers_b91, f_X12_registers_b90, bs, h, e0, e1, e32, g1, v2]
    · by_cases g0 : j_iushr w 25 = 0
      · left
        refine ⟨j_lushr A ((B &&& 63).toInt32), ?_, ?_⟩
        · simp [f_X6_compute, f_X6_compute_b80, f_X6_compute_b56, f_X6_compute_b89, bs, h, hA, hB, g0, f_X0_plain]
        · simp [f_X12_registers, f_X12_registers_b265, f_X12_registers_b288, f_X12_registers_b168, f_X12_registers_b141, f_X12_registers_b110, f_X12_registers_b109, f_X12_registers_b91, f_X12_registers_b90, bs, h, e0, e1, e32, g0]
      · by_cases g32 : j_iushr w 25 = 32
        · left
          refine ⟨j_lshr A ((B &&& 63).toInt32), ?_, ?_⟩
          · simp [f_X6_compute, f_X6_compute_b80, f_X6_compute_b56, f_X6_compute_b89, bs, h, hA, hB, g32, f_X0_plain]
          · simp [f_X12_registers, f_X12_registers_b265, f_X12_registers_b288, f_X12_registers_b168, f_X12_registers_b141, f_X12_registers_b110, f_X12_registers_b109, f_X12_registers_b91, f_X12_registers_b90, bs, h, e0, e1, e32, g32]
        · right
          refine ⟨?_, ?_⟩
          · simp [f_X6_compute, f_X6_compute_b80, f_X6_compute_b56, f_X6_compute_b89, bs, h, hA, hB, g1, g0, g32]
          · simp [f_X12_registers, f_X12_registers_b265, f_X12_registers_b288, f_X12_registers_b168, f_X12_registers_b141, f_X12_registers_b110, f_X12_registers_b109, f_X12_registers_b91, f_X12_registers_b90, bs, h, e0, e1, e32, g1, g0, g32]
  · by_cases g1 : j_iushr w 25 = 1
    · obtain ⟨v, v1, v2⟩ := div_eq (f_X6_f w) (by rw [h]; decide) A B
      rw [h] at v1 v2
      left
      refine ⟨v, ?_, ?_⟩
      · simp [f_X6_compute, f_X6_compute_b80, f_X6_compute_b56, f_X6_compute_b89, bs, h, hA, hB, g1, v1]
      · simp [f_X12_registers, f_X12_registers_b265, f_X12_registers_b288, f_X12_registers_b168, f_X12_registers_b141, f_X12_registers_b110, f_X12_registers_b109, f_X12_registers_b91, f_X12_registers_b90, bs, h, e0, e1, e32, g1, v2]
    · by_cases g0 : j_iushr w 25 = 0
      · left
        refine ⟨A ||| B, ?_, ?_⟩
        · simp [f_X6_compute, f_X6_compute_b80, f_X6_compute_b56, f_X6_compute_b89, bs, h, hA, hB, g0, f_X0_plain]
        · simp [f_X12_registers, f_X12_registers_b265, f_X12_registers_b288, f_X12_registers_b168, f_X12_registers_b141, f_X12_registers_b110, f_X12_registers_b109, f_X12_registers_b91, f_X12_registers_b90, bs, h, e0, e1, e32, g0]
      · by_cases g32 : j_iushr w 25 = 32
        · right
          refine ⟨?_, ?_⟩
          · simp [f_X6_compute, f_X6_compute_b80, f_X6_compute_b56, f_X6_compute_b89, bs, h, hA, hB, g32]
          · simp [f_X12_registers, f_X12_registers_b265, f_X12_registers_b288, f_X12_registers_b168, f_X12_registers_b141, f_X12_registers_b110, f_X12_registers_b109, f_X12_registers_b91, f_X12_registers_b90, bs, h, e0, e1, e32, g32]
        · right
          refine ⟨?_, ?_⟩
          · simp [f_X6_compute, f_X6_compute_b80, f_X6_compute_b56, f_X6_compute_b89, bs, h, hA, hB, g1, g0, g32]
          · simp [f_X12_registers, f_X12_registers_b265, f_X12_registers_b288, f_X12_registers_b168, f_X12_registers_b141, f_X12_registers_b110, f_X12_registers_b109, f_X12_registers_b91, f_X12_registers_b90, bs, h, e0, e1, e32, g1, g0, g32]
  · by_cases g1 : j_iushr w 25 = 1
    · obtain ⟨v, v1, v2⟩ := div_eq (f_X6_f w) (by rw [h]; decide) A B
      rw [h] at v1 v2
      left
      refine ⟨v, ?_, ?_⟩
      · simp [f_X6_compute, f_X6_compute_b80, f_X6_compute_b56, f_X6_compute_b89, bs, h, hA, hB, g1, v1]
      · simp [f_X12_registers, f_X12_registers_b265, f_X12_registers_b288, f_X12_registers_b168, f_X12_registers_b141, f_X12_registers_b110, f_X12_registers_b109, f_X12_registers_b91, f_X12_registers_b90, bs, h, e0, e1, e32, g1, v2]
    · by_cases g0 : j_iushr w 25 = 0
      · left
        refine ⟨A &&& B, ?_, ?_⟩
        · simp [f_X6_compute, f_X6_compute_b80, f_X6_compute_b56, f_X6_compute_b89, bs, h, hA, hB, g0, f_X0_plain]
        · simp [f_X12_registers, f_X12_registers_b265, f_X12_registers_b288, f_X12_registers_b168, f_X12_registers_b141, f_X12_registers_b110, f_X12_registers_b109, f_X12_registers_b91, f_X12_registers_b90, bs, h, e0, e1, e32, g0]
      · by_cases g32 : j_iushr w 25 = 32
        · right
          refine ⟨?_, ?_⟩
          · simp [f_X6_compute, f_X6_compute_b80, f_X6_compute_b56, f_X6_compute_b89, bs, h, hA, hB, g32]
          · simp [f_X12_registers, f_X12_registers_b265, f_X12_registers_b288, f_X12_registers_b168, f_X12_registers_b141, f_X12_registers_b110, f_X12_registers_b109, f_X12_registers_b91, f_X12_registers_b90, bs, h, e0, e1, e32, g32]
        · right
          refine ⟨?_, ?_⟩
          · simp [f_X6_compute, f_X6_compute_b80, f_X6_compute_b56, f_X6_compute_b89, bs, h, hA, hB, g1, g0, g32]
          · simp [f_X12_registers, f_X12_registers_b265, f_X12_registers_b288, f_X12_registers_b168, f_X12_registers_b141, f_X12_registers_b110, f_X12_registers_b109, f_X12_registers_b91, f_X12_registers_b90, bs, h, e0, e1, e32, g1, g0, g32]
theorem x_nreg (w : Int32) (a u : St) (A B : Int64) (hA : f_X6_a w a = some A) (hB : f_X6_b w a = some B) : VI w a u (f_X6_computeNarrow w a) (f_X12_shortRegisters (w.toInt64 &&& 4294967295) (f_X6_f w) A B u) := by
  have e0 : (f_X12_cut (w.toInt64 &&& 4294967295) 31 25 = 0) ↔ j_iushr w 25 = 0 := by rw [fl_g]; exact toL_inj _ 0
  have e1 : (f_X12_cut (w.toInt64 &&& 4294967295) 31 25 = 1) ↔ j_iushr w 25 = 1 := by rw [fl_g]; exact toL_inj _ 1
  have e32 : (f_X12_cut (w.toInt64 &&& 4294967295) 31 25 = 32) ↔ j_iushr w 25 = 32 := by rw [fl_g]; exact toL_inj _ 32
  have eb : (B &&& 31).toInt32 = B.toInt32 &&& 31 := Int64.toInt32_and B 31
  rcases f_8 w with h | h | h | h | h | h | h | h
  · by_cases g1 : j_iushr w 25 = 1
    · left
      refine ⟨f_X0_narrowProduct 0 A.toInt32 B.toInt32, ?_, ?_⟩
      · simp [f_X6_computeNarrow, f_X6_computeNarrow_b116, f_X6_computeNarrow_b107, f_X6_computeNarrow_b81, f_X6_computeNarrow_b66, f_X6_computeNarrow_b48, f_X6_computeNarrow_b24, bs, h, hA, hB, g1]
      · simp [f_X12_shortRegisters, f_X12_shortRegisters_b136, f_X12_shortRegisters_b165, f_X12_shortRegisters_b195, f_X12_shortRegisters_b231, f_X12_shortRegisters_b262, f_X12_shortRegisters_b294, bs, h, e0, e1, e32, g1, np_eq 0 (by decide)]
    · by_cases g0 : j_iushr w 25 = 0
      · left
        refine ⟨(A.toInt32 + B.toInt32).toInt64, ?_, ?_⟩
        · simp [f_X6_computeNarrow, f_X6_computeNarrow_b116, f_X6_computeNarrow_b107, f_X6_computeNarrow_b81, f_X6_computeNarrow_b66, f_X6_computeNarrow_b48, f_X6_computeNarrow_b24, bs, h, hA, hB, g0, f_X0_narrow]
        · simp [f_X12_shortRegisters, f_X12_shortRegisters_b136, f_X12_shortRegisters_b165, f_X12_shortRegisters_b195, f_X12_shortRegisters_b231, f_X12_shortRegisters_b262, f_X12_shortRegisters_b294, bs, h, e0, e1, e32, g0, nw_0]
      · by_cases g32 : j_iushr w 25 = 32
        · left
          refine ⟨(A.toInt32 - B.toInt32).toInt64, ?_, ?_⟩
          · simp [f_X6_computeNarrow, f_X6_computeNarrow_b116, f_X6_computeNarrow_b107, f_X6_computeNarrow_b81, f_X6_computeNarrow_b66, f_X6_computeNarrow_b48, f_X6_computeNarrow_b24, bs, h, hA, hB, g32, f_X0_narrow]
          · simp [f_X12_shortRegisters, f_X12_shortRegisters_b136, f_X12_shortRegisters_b165, f_X12_shortRegisters_b195, f_X12_shortRegisters_b231, f_X12_shortRegisters_b262, f_X12_shortRegisters_b294, bs, h, e0, e1, e32, g32, nw_0s]
        · right
          refine ⟨?_, ?_⟩
          · simp [f_X6_computeNarrow, f_X6_computeNarrow_b116, f_X6_computeNarrow_b107, f_X6_computeNarrow_b81, f_X6_computeNarrow_b66, f_X6_computeNarrow_b48, f_X6_computeNarrow_b24, bs, h, hA, hB, g1, g0, g32]
          · simp [f_X12_shortRegisters, f_X12_shortRegisters_b136, f_X12_shortRegisters_b165, f_X12_shortRegisters_b195, f_X12_shortRegisters_b231, f_X12_shortRegisters_b262, f_X12_shortRegisters_b294, bs, h, e0, e1, e32, g1, g0, g32]
  · by_cases g1 : j_iushr w 25 = 1
    · right
      refine ⟨?_, ?_⟩
      · simp [f_X6_computeNarrow, f_X6_computeNarrow_b116, f_X6_computeNarrow_b107, f_X6_computeNarrow_b81, f_X6_computeNarrow_b66, f_X6_computeNarrow_b48, f_X6_computeNarrow_b24, bs, h, hA, hB, g1]
      · simp [f_X12_shortRegisters, f_X12_shortRegisters_b136, f_X12_shortRegisters_b165, f_X12_shortRegisters_b195, f_X12_shortRegisters_b231, f_X12_shortRegisters_b262, f_X12_shortRegisters_b294, bs, h, e0, e1, e32, g1]
    · by_cases g0 : j_iushr w 25 = 0
      · left
        refine ⟨(A.toInt32 <<< ((B.toInt32 &&& 31) &&& 31)).toInt64, ?_, ?_⟩
        · simp [f_X6_computeNarrow, f_X6_computeNarrow_b116, f_X6_computeNarrow_b107, f_X6_computeNarrow_b81, f_X6_computeNarrow_b66, f_X6_computeNarrow_b48, f_X6_computeNarrow_b24, bs, h, hA, hB, g0, f_X0_narrow]
        · simp [f_X12_shortRegisters, f_X12_shortRegisters_b136, f_X12_shortRegisters_b165, f_X12_shortRegisters_b195, f_X12_shortRegisters_b231, f_X12_shortRegisters_b262, f_X12_shortRegisters_b294, bs, h, e0, e1, e32, g0, eb, nw_1]
      · by_cases g32 : j_iushr w 25 = 32
        · right
          refine ⟨?_, ?_⟩
          · simp [f_X6_computeNarrow, f_X6_computeNarrow_b116, f_X6_computeNarrow_b107, f_X6_computeNarrow_b81, f_X6_computeNarrow_b66, f_X6_computeNarrow_b48, f_X6_computeNarrow_b24, bs, h, hA, hB, g32]
          · simp [f_X12_shortRegisters, f_X12_shortRegisters_b136, f_X12_shortRegisters_b165, f_X12_shortRegisters_b195, f_X12_shortRegisters_b231, f_X12_shortRegisters_b262, f_X12_shortRegisters_b294, bs, h, e0, e1, e32, g32]
        · right
          refine ⟨?_, ?_⟩
          · simp [f_X6_computeNarrow, f_X6_computeNarrow_b116, f_X6_computeNarrow_b107, f_X6_computeNarrow_b81, f_X6_computeNarrow_b66, f_X6_computeNarrow_b48, f_X6_computeNarrow_b24, bs, h, hA, hB, g1, g0, g32]
          · simp [f_X12_shortRegisters, f_X12_shortRegisters_b136, f_X12_shortRegisters_b165, f_X12_shortRegisters_b195, f_X12_shortRegisters_b231, f_X12_shortRegisters_b262, f_X12_shortRegisters_b294, bs, h, e0, e1, e32, g1, g0, g32]
  · by_cases g1 : j_iushr w 25 = 1
    · right
      refine ⟨?_, ?_⟩
      · simp [f_X6_computeNarrow, f_X6_computeNarrow_b116, f_X6_computeNarrow_b107, f_X6_computeNarrow_b81, f_X6_computeNarrow_b66, f_X6_computeNarrow_b48, f_X6_computeNarrow_b24, bs, h, hA, hB, g1]
      · simp [f_X12_shortRegisters, f_X12_shortRegisters_b136, f_X12_shortRegisters_b165, f_X12_shortRegisters_b195, f_X12_shortRegisters_b231, f_X12_shortRegisters_b262, f_X12_shortRegisters_b294, bs, h, e0, e1, e32, g1]
    · by_cases g0 : j_iushr w 25 = 0
      · right
        refine ⟨?_, ?_⟩
        · simp [f_X6_computeNarrow, f_X6_computeNarrow_b116, f_X6_computeNarrow_b107, f_X6_computeNarrow_b81, f_X6_computeNarrow_b66, f_X6_computeNarrow_b48, f_X6_computeNarrow_b24, bs, h, hA, hB, g0]
        · simp [f_X12_shortRegisters, f_X12_shortRegisters_b136, f_X12_shortRegisters_b165, f_X12_shortRegisters_b195, f_X12_shortRegisters_b231, f_X12_shortRegisters_b262, f_X12_shortRegisters_b294, bs, h, e0, e1, e32, g0]
      · by_cases g32 : j_iushr w 25 = 32
        · right
          refine ⟨?_, ?_⟩
          · simp [f_X6_computeNarrow, f_X6_computeNarrow_b116, f_X6_computeNarrow_b107, f_X6_computeNarrow_b81, f_X6_computeNarrow_b66, f_X6_computeNarrow_b48, f_X6_computeNarrow_b24, bs, h, hA, hB, g32]
          · simp [f_X12_shortRegisters, f_X12_shortRegisters_b136, f_X12_shortRegisters_b165, f_X12_shortRegisters_b195, f_X12_shortRegisters_b231, f_X12_shortRegisters_b262, f_X12_shortRegisters_b294, bs, h, e0, e1, e32, g32]
        · right
          refine ⟨?_, ?_⟩
          · simp [f_X6_computeNarrow, f_X6_computeNarrow_b116, f_X6_computeNarrow_b107, f_X6_computeNarrow_b81, f_X6_computeNarrow_b66, f_X6_computeNarrow_b48, f_X6_computeNarrow_b24, bs, h, hA, hB, g1, g0, g32]
          · simp [f_X12_shortRegisters, f_X12_shortRegisters_b136, f_X12_shortRegisters_b165, f_X12_shortRegisters_b195, f_X12_shortRegisters_b231, f_X12_shortRegisters_b262, f_X12_shortRegisters_b294, bs, h, e0, e1, e32, g1, g0, g32]
  · by_cases g1 : j_iushr w 25 = 1
    · right
      refine ⟨?_, ?_⟩
      · simp [f_X6_computeNarrow, f_X6_computeNarrow_b116, f_X6_computeNarrow_b107, f_X6_computeNarrow_b81, f_X6_computeNarrow_b66, f_X6_computeNarrow_b48, f_X6_computeNarrow_b24, bs, h, hA, hB, g1]
      · simp [f_X12_shortRegisters, f_X12_shortRegisters_b136, f_X12_shortRegisters_b165, f_X12_shortRegisters_b195, f_X12_shortRegisters_b231, f_X12_shortRegisters_b262, f_X12_shortRegisters_b294, bs, h, e0, e1, e32, g1]
    · by_cases g0 : j_iushr w 25 = 0
      · right
        refine ⟨?_, ?_⟩
        · simp [f_X6_computeNarrow, f_X6_computeNarrow_b116, f_X6_computeNarrow_b107, f_X6_computeNarrow_b81, f_X6_computeNarrow_b66, f_X6_computeNarrow_b48, f_X6_computeNarrow_b24, bs, h, hA, hB, g0]
        · simp [f_X12_shortRegisters, f_X12_shortRegisters_b136, f_X12_shortRegisters_b165, f_X12_shortRegisters_b195, f_X12_shortRegisters_b231, f_X12_shortRegisters_b262, f_X12_shortRegisters_b294, bs, h, e0, e1, e32, g0]
      · by_cases g32 : j_iushr w 25 = 32
        · right
          refine ⟨?_, ?_⟩
          · simp [f_X6_computeNarrow, f_X6_computeNarrow_b116, f_X6_computeNarrow_b107, f_X6_computeNarrow_b81, f_X6_computeNarrow_b66, f_X6_computeNarrow_b48, f_X6_computeNarrow_b24, bs, h, hA, hB, g32]
          · simp [f_X12_shortRegisters, f_X12_shortRegisters_b136, f_X12_shortRegisters_b165, f_X12_shortRegisters_b195, f_X12_shortRegisters_b231, f_X12_shortRegisters_b262, f_X12_shortRegisters_b294, bs, h, e0, e1, e32, g32]
        · right
          refine ⟨?_, ?_⟩
          · simp [f_X6_computeNarrow, f_X6_computeNarrow_b116, f_X6_computeNarrow_b107, f_X6_computeNarrow_b81, f_X6_computeNarrow_b66, f_X6_computeNarrow_b48, f_X6_computeNarrow_b24, bs, h, hA, hB, g1, g0, g32]
          · simp [f_X12_shortRegisters, f_X12_shortRegisters_b136, f_X12_shortRegisters_b165, f_X12_shortRegisters_b195, f_X12_shortRegisters_b231, f_X12_shortRegisters_b262, f_X12_shortRegisters_b294, bs, h, e0, e1, e32, g1, g0, g32]
  · by_cases g1 : j_iushr w 25 = 1
    · left
      refine ⟨f_X0_narrowProduct 4 A.toInt32 B.toInt32, ?_, ?_⟩
      · simp [f_X6_computeNarrow, f_X6_computeNarrow_b116, f_X6_computeNarrow_b107, f_X6_computeNarrow_b81, f_X6_computeNarrow_b66, f_X6_computeNarrow_b48, f_X6_computeNarrow_b24, bs, h, hA, hB, g1]
      · simp [f_X12_shortRegisters, f_X12_shortRegisters_b136, f_X12_shortRegisters_b165, f_X12_shortRegisters_b195, f_X12_shortRegisters_b231, f_X12_shortRegisters_b262, f_X12_shortRegisters_b294, bs, h, e0, e1, e32, g1, np_eq 4 (by decide)]
    · by_cases g0 : j_iushr w 25 = 0
      · right
        refine ⟨?_, ?_⟩
        · simp [f_X6_computeNarrow, f_X6_computeNarrow_b116, f_X6_computeNarrow_b107, f_X6_computeNarrow_b81, f_X6_computeNarrow_b66, f_X6_computeNarrow_b48, f_X6_computeNarrow_b24, bs, h, hA, hB, g0]
        · simp [f_X12_shortRegisters, f_X12_shortRegisters_b136, f_X12_shortRegisters_b165, f_X12_shortRegisters_b195, f_X12_shortRegisters_b231, f_X12_shortRegisters_b262, f_X12_shortRegisters_b294, bs, h, e0, e1, e32, g0]
      · by_cases g32 : j_iushr w 25 = 32
        · right
          refine ⟨?_, ?_⟩
          · simp [f_X6_computeNarrow, f_X6_computeNarrow_b116, f_X6_computeNarrow_b107, f_X6_computeNarrow_b81, f_X6_computeNarrow_b66, f_X6_computeNarrow_b48, f_X6_computeNarrow_b24, bs, h, hA, hB, g32]
          · simp [f_X12_shortRegisters, f_X12_shortRegisters_b136, f_X12_shortRegisters_b165, f_X12_shortRegisters_b195, f_X12_shortRegisters_b231, f_X12_shortRegisters_b262, f_X12_shortRegisters_b294, bs, h, e0, e1, e32, g32]
        · right
          refine ⟨?_, ?_⟩
          · simp [f_X6_computeNarrow, f_X6_computeNarrow_b116, f_X6_computeNarrow_b107, f_X6_computeNarrow_b81, f_X6_computeNarrow_b66, f_X6_computeNarrow_b48, f_X6_computeNarrow_b24, bs, h, hA, hB, g1, g0, g32]
          · simp [f_X12_shortRegisters, f_X12_shortRegisters_b136, f_X12_shortRegisters_b165, f_X12_shortRegisters_b195, f_X12_shortRegisters_b231, f_X12_shortRegisters_b262, f_X12_shortRegisters_b294, bs, h, e0, e1, e32, g1, g0, g32]
  · by_cases g1 : j_iushr w 25 = 1
    · left
      refine ⟨f_X0_narrowProduct 5 A.toInt32 B.toInt32, ?_, ?_⟩
      · simp [f_X6_computeNarrow, f_X6_computeNarrow_b116, f_X6_computeNarrow_b107, f_X6_computeNarrow_b81, f_X6_computeNarrow_b66, f_X6_computeNarrow_b48, f_X6_computeNarrow_b24, bs, h, hA, hB, g1]
      · simp [f_X12_shortRegisters, f_X12_shortRegisters_b136, f_X12_shortRegisters_b165, f_X12_shortRegisters_b195, f_X12_shortRegisters_b231, f_X12_shortRegisters_b262, f_X12_shortRegisters_b294, bs, h, e0, e1, e32, g1, np_eq 5 (by decide)]
    · by_cases g0 : j_iushr w 25 = 0
      · left
        refine ⟨(j_iushr A.toInt32 (B.toInt32 &&& 31)).toInt64, ?_, ?_⟩
        · simp [f_X6_computeNarrow, f_X6_computeNarrow_b116, f_X6_computeNarrow_b107, f_X6_computeNarrow_b81, f_X6_computeNarrow_b66, f_X6_computeNarrow_b48, f_X6_computeNarrow_b24, bs, h, hA, hB, g0, f_X0_narrow]
        · simp [f_X12_shortRegisters, f_X12_shortRegisters_b136, f_X12_shortRegisters_b165, f_X12_shortRegisters_b195, f_X12_shortRegisters_b231, f_X12_shortRegisters_b262, f_X12_shortRegisters_b294, bs, h, e0, e1, e32, g0, eb, nw_5]
      · by_cases g32 : j_iushr w 25 = 32
        · left
          refine ⟨(A.toInt32 >>> ((B.toInt32 &&& 31) &&& 31)).toInt64, ?_, ?_⟩
          · simp [f_X6_computeNarrow, f_X6_computeNarrow_b116, f_X6_computeNarrow_b107, f_X6_computeNarrow_b81, f_X6_computeNarrow_b66, f_X6_computeNarrow_b48, f_X6_computeNarrow_b24, bs, h, hA, hB, g32, f_X0_narrow]
          · simp [f_X12_shortRegisters, f_X12_shortRegisters_b136, f_X12_shortRegisters_b165, f_X12_shortRegisters_b195, f_X12_shortRegisters_b231, f_X12_shortRegisters_b262, f_X12_shortRegisters_b294, bs, h, e0, e1, e32, g32, eb, nw_5s]
        · right
          refine ⟨?_, ?_⟩
          · simp [f_X6_computeNarrow, f_X6_computeNarrow_b116, f_X6_computeNarrow_b107, f_X6_computeNarrow_b81, f_X6_computeNarrow_b66, f_X6_computeNarrow_b48, f_X6_computeNarrow_b24, bs, h, hA, hB, g1, g0, g32]
          · simp [f_X12_shortRegisters, f_X12_shortRegisters_b136, f_X12_shortRegisters_b165, f_X12_shortRegisters_b195, f_X12_shortRegisters_b231, f_X12_shortRegisters_b262, f_X12_shortRegisters_b294, bs, h, e0, e1, e32, g1, g0, g32]
  · by_cases g1 : j_iushr w 25 = 1
    · left
      refine ⟨f_X0_narrowProduct 6 A.toInt32 B.toInt32, ?_, ?_⟩
      · simp [f_X6_computeNarrow, f_X6_computeNarrow_b116, f_X6_computeNarrow_b107, f_X6_computeNarrow_b81, f_X6_computeNarrow_b66, f_X6_computeNarrow_b48, f_X6_computeNarrow_b24, bs, h, hA, hB, g1]
      · simp [f_X12_shortRegisters, f_X12_shortRegisters_b136, f_X12_shortRegisters_b165, f_X12_shortRegisters_b195, f_X12_shortRegisters_b231, f_X12_shortRegisters_b262, f_X12_shortRegisters_b294, bs, h, e0, e1, e32, g1, np_eq 6 (by decide)]
    · by_cases g0 : j_iushr w 25 = 0
      · right
        refine ⟨?_, ?_⟩
        · simp [f_X6_computeNarrow, f_X6_computeNarrow_b116, f_X6_computeNarrow_b107, f_X6_computeNarrow_b81, f_X6_computeNarrow_b66, f_X6_computeNarrow_b48, f_X6_computeNarrow_b24, bs, h, hA, hB, g0]
        · simp [f_X12_shortRegisters, f_X12_shortRegisters_b136, f_X12_shortRegisters_b165, f_X12_shortRegisters_b195, f_X12_shortRegisters_b231, f_X12_shortRegisters_b262, f_X12_shortRegisters_b294, bs, h, e0, e1, e32, g0]
      · by_cases g32 : j_iushr w 25 = 32
        · right
          refine ⟨?_, ?_⟩
          · simp [f_X6_computeNarrow, f_X6_computeNarrow_b116, f_X6_computeNarrow_b107, f_X6_computeNarrow_b81, f_X6_computeNarrow_b66, f_X6_computeNarrow_b48, f_X6_computeNarrow_b24, bs, h, hA, hB, g32]
          · simp [f_X12_shortRegisters, f_X12_shortRegisters_b136, f_X12_shortRegisters_b165, f_X12_shortRegisters_b195, f_X12_shortRegisters_b231, f_X12_shortRegisters_b262, f_X12_shortRegisters_b294, bs, h, e0, e1, e32, g32]
        · right
          refine ⟨?_, ?_⟩
          · simp [f_X6_computeNarrow, f_X6_computeNarrow_b116, f_X6_computeNarrow_b107, f_X6_computeNarrow_b81, f_X6_computeNarrow_b66, f_X6_computeNarrow_b48, f_X6_computeNarrow_b24, bs, h, hA, hB, g1, g0, g32]
          · simp [f_X12_shortRegisters, f_X12_shortRegisters_b136, f_X12_shortRegisters_b165, f_X12_shortRegisters_b195, f_X12_shortRegisters_b231, f_X12_shortRegisters_b262, f_X12_shortRegisters_b294, bs, h, e0, e1, e32, g1, g0, g32]
  · by_cases g1 : j_iushr w 25 = 1
    · left
      refine ⟨f_X0_narrowProduct 7 A.toInt32 B.toInt32, ?_, ?_⟩
      · simp [f_X6_computeNarrow, f_X6_computeNarrow_b116, f_X6_computeNarrow_b107, f_X6_computeNarrow_b81, f_X6_computeNarrow_b66, f_X6_computeNarrow_b48, f_X6_computeNarrow_b24, bs, h, hA, hB, g1]
      · simp [f_X12_shortRegisters, f_X12_shortRegisters_b136, f_X12_shortRegisters_b165, f_X12_shortRegisters_b195, f_X12_shortRegisters_b231, f_X12_shortRegisters_b262, f_X12_shortRegisters_b294, bs, h, e0, e1, e32, g1, np_eq 7 (by decide)]
    · by_cases g0 : j_iushr w 25 = 0
      · right
        refine ⟨?_, ?_⟩
        · simp [f_X6_computeNarrow, f_X6_computeNarrow_b116, f_X6_computeNarrow_b107, f_X6_computeNarrow_b81, f_X6_computeNarrow_b66, f_X6_computeNarrow_b48, f_X6_computeNarrow_b24, bs, h, hA, hB, g0]
        · simp [f_X12_shortRegisters, f_X12_shortRegisters_b136, f_X12_shortRegisters_b165, f_X12_shortRegisters_b195, f_X12_shortRegisters_b231, f_X12_shortRegisters_b262, f_X12_shortRegisters_b294, bs, h, e0, e1, e32, g0]
      · by_cases g32 : j_iushr w 25 = 32
        · right
          refine ⟨?_, ?_⟩
          · simp [f_X6_computeNarrow, f_X6_computeNarrow_b116, f_X6_computeNarrow_b107, f_X6_computeNarrow_b81, f_X6_computeNarrow_b66, f_X6_computeNarrow_b48, f_X6_computeNarrow_b24, bs, h, hA, hB, g32]
          · simp [f_X12_shortRegisters, f_X12_shortRegisters_b136, f_X12_shortRegisters_b165, f_X12_shortRegisters_b195, f_X12_shortRegisters_b231, f_X12_shortRegisters_b262, f_X12_shortRegisters_b294, bs, h, e0, e1, e32, g32]
        · right
          refine ⟨?_, ?_⟩
          · simp [f_X6_computeNarrow, f_X6_computeNarrow_b116, f_X6_computeNarrow_b107, f_X6_computeNarrow_b81, f_X6_computeNarrow_b66, f_X6_computeNarrow_b48, f_X6_computeNarrow_b24, bs, h, hA, hB, g1, g0, g32]
          · simp [f_X12_shortRegisters, f_X12_shortRegisters_b136, f_X12_shortRegisters_b165, f_X12_shortRegisters_b195, f_X12_shortRegisters_b231, f_X12_shortRegisters_b262, f_X12_shortRegisters_b294, bs, h, e0, e1, e32, g1, g0, g32]

def KwC (a b : St) : Prop := gI b 16 = gI a 16 ∧ gI b 17 = gI a 17 ∧ gI b 18 = gI a 18 ∧ gL b 24 = gL a 24 ∧ gL b 25 = gL a 25 ∧ gL b 26 = gL a 26
def KwM (a b : St) : Prop := gI b 0 = gI a 0 ∧ gI b 16 = gI a 16 ∧ gI b 17 = gI a 17 ∧ gL b 0 = gL a 0 ∧ gL b 24 = gL a 24 ∧ gL b 25 = gL a 25 ∧ gL b 26 = gL a 26
theorem Rel.res {a u : St} (h : Rel a u) : RelS a u := by
  obtain ⟨P, -, -, h, -⟩ := h
  exact h
theorem wr_ram {a u : St} (h : Rel a u) {P : Nat} (hN : RelN a u P) {i m : Nat} (hm : wid m) (hi : i + m ≤ 4096 * P) (hal : i % m = 0) {x : Int64} (ex : x = lN (2147483648 + i)) (hx2 : x - 2147483648 = lN i) (h1 : f_X10_place x (nI m) a = nI i) (h2 : f_X12_isRam x (nI m) u = 1) (v : Int64) : ∃ A g U, f_X1_write x (nI m) v a = some (A, 0) ∧ f_X12_setRam x (nI m) v u = some (sF u 0 g) ∧ f_X12_writeAt x (nI m) v u = some U ∧ (U = sF u 0 g ∨ U = sI (sF u 0 g) 3 0) ∧ Rel A U ∧ gI A 3 = 0 ∧ gN A = gN a ∧ KwC a A ∧ gB A 1 = gB a 1 := by
  have hP := hN.2.1
  obtain ⟨q, w, g, e1, e2, r⟩ := (h.s3 0).ramw (P := P) hN hm hi hal hx2 v
  obtain ⟨-, -, s3, s4, s5⟩ := h.res
  have i3 : gI u 3 = gI a 4 := h.ints.2.1
  have hw : f_X1_write x (nI m) v a = (if (gL a 3 + (gI a 4).toInt64) ≤ x then some (sB (sI a 3 0) 0 q w, 0) else (if (x + (nI m).toInt64) ≤ gL a 3 then some (sB (sI a 3 0) 0 q w, 0) else some (f_X1_endReservation (sB (sI a 3 0) 0 q w), 0))) := by
    unfold f_X1_write
    rw [show f_X10_place x (nI m) (sI a 3 0) = nI i from h1, if_neg (nI_m1 (by omega)), e1]
    rfl
  have hr : f_X12_writeAt x (nI m) v u = (if gI a 4 ≤ 0 then some (sF u 0 g) else (if (gL u 1 + (gI a 4).toInt64) ≤ x then some (sF u 0 g) else (if (x + (nI m).toInt64) ≤ gL u 1 then some (sF u 0 g) else some (sI (sF u 0 g) 3 0)))) := by
    unfold f_X12_writeAt
    rw [h2, if_neg n10, e2, Option.bind_some]
    rw [show gI (sF u 0 g) 3 = gI u 3 from rfl, i3]
    rfl
  by_cases z : gI a 4 = 0
  · have x0 : gL a 3 + (gI a 4).toInt64 ≤ x := by
      rw [z, s4 z, ex]
      show lN 0 ≤ lN (2147483648 + i)
      rw [pk_lLE (by omega) (by omega)]
      omega
    rw [if_pos x0] at hw
    rw [if_pos (by rw [z]; decide)] at hr
    exact ⟨_, g, _, hw, e2, hr, Or.inl rfl, r, rfl, rfl, ⟨rfl, rfl, rfl, rfl, rfl, rfl⟩, rfl⟩
  · have zp : ¬ gI a 4 ≤ 0 := by
      rcases s3 with q | q | q
      · exact absurd q z
      · rw [q]; decide
      · rw [q]; decide
    rw [if_neg zp, s5 z] at hr
    by_cases c1 : gL a 3 + (gI a 4).toInt64 ≤ x
    · rw [if_pos c1] at hw hr
      exact ⟨_, g, _, hw, e2, hr, Or.inl rfl, r, rfl, rfl, ⟨rfl, rfl, rfl, rfl, rfl, rfl⟩, rfl⟩
    · rw [if_neg c1] at hw hr
      by_cases c2 : x + (nI m).toInt64 ≤ gL a 3
      · rw [if_pos c2] at hw hr
        exact ⟨_, g, _, hw, e2, hr, Or.inl rfl, r, rfl, rfl, ⟨rfl, rfl, rfl, rfl, rfl, rfl⟩, rfl⟩
      · rw [if_neg c2] at hw hr
        exact ⟨_, g, _, hw, e2, hr, Or.inr rfl, r.endRes, rfl, rfl, ⟨rfl, rfl, rfl, rfl, rfl, rfl⟩, rfl⟩
theorem wi_7 (v : Int64) : ((v &&& 4294967295) &&& 7).toInt32 = v.toInt32 &&& 7 := by
  refine qt_ext (al_32 ?_)
  simp [qb_or, qb_and, qb_xor, qt_or, qt_and, qt_xor, qb_lit, qt_lit, qb_m1, qt_m1, qb_not, qt_not, qbn_2, qbn_3, qbn_4, qbn_8, qbn_6145, qbn_786723, qb_ofI, qt_ofL, sh6_lit, sh5_lit, qb_shl, qb_sshr, qb_ushr, qt_shl, qt_sshr, qt_ushr, Nat.testBit_eq_decide_div_mod_eq, qt_big, qb_big, qt_s31, qt_l31]
theorem wi_254 (v : Int64) : ((v &&& 4294967295) &&& 254).toInt32 = v.toInt32 &&& 254 := by
  refine qt_ext (al_32 ?_)
  simp [qb_or, qb_and, qb_xor, qt_or, qt_and, qt_xor, qb_lit, qt_lit, qb_m1, qt_m1, qb_not, qt_not, qbn_2, qbn_3, qbn_4, qbn_8, qbn_6145, qbn_786723, qb_ofI, qt_ofL, sh6_lit, sh5_lit, qb_shl, qb_sshr, qb_ushr, qt_shl, qt_sshr, qt_ushr, Nat.testBit_eq_decide_div_mod_eq, qt_big, qb_big, qt_s31, qt_l31]
theorem wi_255 (v : Int64) : (v &&& 255).toInt32 = v.toInt32 &&& 255 := by
  refine qt_ext (al_32 ?_)
  simp [qb_or, qb_and, qb_xor, qt_or, qt_and, qt_xor, qb_lit, qt_lit, qb_m1, qt_m1, qb_not, qt_not, qbn_2, qbn_3, qbn_4, qbn_8, qbn_6145, qbn_786723, qb_ofI, qt_ofL, sh6_lit, sh5_lit, qb_shl, qb_sshr, qb_ushr, qt_shl, qt_sshr, qt_ushr, Nat.testBit_eq_decide_div_mod_eq, qt_big, qb_big, qt_s31, qt_l31]
theorem a77 (v : Int32) : (v &&& 7) &&& 7 = v &&& 7 := by rw [Int32.and_assoc]; rfl
theorem a254 (v : Int32) : (v &&& 254) &&& 255 = v &&& 254 := by rw [Int32.and_assoc]; rfl
theorem a255 (v : Int32) : (v &&& 255) &&& 255 = v &&& 255 := by rw [Int32.and_assoc]; rfl
theorem Rel.A1 {a u : St} (h : Rel a u) (k : Nat) (w : Int32) (hw : w &&& 7 = w) : Rel (sA a 1 k w) (sA u 1 k w) := by
  obtain ⟨P, hI, hL, hS, ⟨r1, r2, r3, r4⟩, hN, hM, hT, hG, hO, hV, ⟨w1, w2, w3, w4, w5, w6⟩⟩ := h
  refine ⟨P, hI, hL, hS, ⟨?_, r2, r3, r4⟩, hN, hM, hT, hG, hO, hV, ⟨w1, w2, w3, w4, w5, ?_⟩⟩
  · show upd (gA u 1) k w = upd (gA a 1) k w
    rw [r1]
  · intro q
    show upd (gA a 1) k w q &&& 7 = upd (gA a 1) k w q
    unfold upd
    split
    · exact hw
    · exact w6 q
theorem Rel.A2 {a u : St} (h : Rel a u) (k : Nat) (w : Int32) (hw : w &&& 255 = w) : Rel (sA a 2 k w) (sA u 2 k w) := by
  obtain ⟨P, hI, hL, hS, ⟨r1, r2, r3, r4⟩, hN, hM, hT, hG, hO, hV, ⟨w1, w2, w3, w4, w5, w6⟩⟩ := h
  refine ⟨P, hI, hL, hS, ⟨r1, ?_, r3, r4⟩, hN, hM, hT, hG, hO, hV, ⟨w1, w2, w3, ?_, w5, w6⟩⟩
  · show upd (gA u 2) k w = upd (gA a 2) k w
    rw [r2]
  · intro q
    show upd (gA a 2) k w q &&& 255 = upd (gA a 2) k w q
    unfold upd
    split
    · exact hw
    · exact w4 q
theorem Rel.A3 {a u : St} (h : Rel a u) (k : Nat) (w : Int32) (hw : w &&& 7 = w) : Rel (sA a 3 k w) (sA u 3 k w) := by
  obtain ⟨P, hI, hL, hS, ⟨r1, r2, r3, r4⟩, hN, hM, hT, hG, hO, hV, ⟨w1, w2, w3, w4, w5, w6⟩⟩ := h
  refine ⟨P, hI, hL, hS, ⟨r1, r2, ?_, r4⟩, hN, hM, hT, hG, hO, hV, ⟨w1, w2, w3, w4, ?_, w6⟩⟩
  · show upd (gA u 3) k w = upd (gA a 3) k w
    rw [r3]
  · intro q
    show upd (gA a 3) k w q &&& 7 = upd (gA a 3) k w q
    unfold upd
    split
    · exact hw
    · exact w5 q
theorem Rel.id8 {a u : St} (h : Rel a u) : Rel (sI a 8 (gI a 8)) u := by
  obtain ⟨P, hI, hL, hS, hA, hN, hM, hT, hG, hO, hV, hW⟩ := h
  refine ⟨P, ?_, hL, hS, hA, hN, hM, hT, hG, hO, hV, hW⟩
  simp only [RelI, gI_sI, gI_sL, gI_sA, gI_sB, gI_sR, gL_sI, gL_sL, gL_sA, gL_sB, gL_sR, gA_sI, gA_sL, gA_sA, gA_sB, gA_sR, gB_sI, gB_sL, gB_sA, gB_sB, gB_sR, gN_sI, gN_sL, gN_sA, gN_sB, gN_sR] at hI ⊢
  simp [hI]
theorem Rel.soft {a u : St} (h : Rel a u) (v : Int64) : Rel (sL a 0 (v &&& 1)) (sI u 4 ((v &&& 1).toInt32)) := by
  obtain ⟨P, hI, hL, ⟨s1, s2, s3, s4, s5⟩, hA, hN, hM, hT, hG, hO, hV, hW⟩ := h
  refine ⟨P, hI, hL, ⟨?_, ?_, s3, s4, s5⟩, hA, hN, hM, hT, hG, hO, hV, hW⟩
  · show v &&& 1 = ((v &&& 1).toInt32).toInt64
    rcases tb v with q | q <;> rw [q] <;> rfl
  · show (v &&& 1).toInt32 = 0 ∨ (v &&& 1).toInt32 = 1
    rcases tb v with q | q
    · rw [q]; exact Or.inl rfl
    · rw [q]; exact Or.inr rfl
theorem bitand (x : Int32) {k : Nat} (hk : k < 32) : x &&& ((1 : Int32) <<< (nI k &&& 31)) = if qt x k = true then ((1 : Int32) <<< (nI k &&& 31)) else 0 := by
  have e : ∀ i, i < 32 → qt ((1 : Int32) <<< (nI k &&& 31)) i = decide (i = k) := by
    intro i hi
    rw [qt_shl, qt_lit, sh5_n hk]
    by_cases c : i = k
    · subst c
      simp [hi]
    · by_cases c2 : i < k
      · simp [c, c2]
      · have e : Nat.testBit 1 (i - k) = false := by
          obtain ⟨t, ht⟩ : ∃ t, i - k = t + 1 := ⟨i - k - 1, by omega⟩
          rw [ht, Nat.testBit_succ]
          exact Nat.zero_testBit t
        simp [c, e]
  refine qt_ext (fun i hi => ?_)
  rw [qt_and, e i hi]
  cases c : qt x k
  · rw [if_neg (by decide), qt_lit]
    by_cases c2 : i = k
    · subst c2; simp [c]
    · simp [c2]
  · rw [if_pos rfl, e i hi]
    by_cases c2 : i = k
    · subst c2; simp [c]
    · simp [c2]
def WrOK (a u : St) (m : Nat) (x v : Int64) : Prop := ∃ a' k u', f_X1_write x (nI m) v a = some (a', k) ∧ gI a' 3 = 0 ∧ f_X12_writeAt x (nI m) v u = some u' ∧ Rel a' u' ∧ k + Bud a ≤ Bud a' ∧ KwC a a' ∧ KwM u u'
theorem bud_le {a b : St} (h : gN b = gN a) : 0 + Bud a ≤ Bud b := by
  unfold Bud
  rw [h]
  omega
theorem toI_un (v : Int64) : v.toInt32 = nI (un v % 4294967296) := by
  apply Int32.toBitVec_inj.1
  apply BitVec.eq_of_toNat_eq
  show v.toInt32.toBitVec.toNat = (BitVec.ofNat 32 _).toNat
  rw [BitVec.toNat_ofNat]
  refine Nat.eq_of_testBit_eq (fun i => ?_)
  have e : v.toInt32.toBitVec.toNat.testBit i = qt v.toInt32 i := rfl
  rw [e, qt_ofL, Nat.testBit_mod_two_pow, show (4294967296 : Nat) = 2 ^ 32 from rfl, Nat.testBit_mod_two_pow, un_bit]
  by_cases c : i < 32 <;> simp [c]
theorem cmp_w {a u : St} (h : Rel a u) (c : Int32) (v : Int64) (s : Int32) (hs : s = gA a 2 c.toNatClampNeg) (hcN : inB c (gN u 3)) (x1 : Int32) (hx : x1 - 13 = c) : ∃ u', (if (f_X12_in (v &&& 4294967295) (1 : Int64) (7 : Int64)) = (0 : Int32) then (some u) else (if inB (x1 - (13 : Int32)) (gN u 3) then (if (((gA u 2 (x1 - (13 : Int32)).toNatClampNeg) >>> ((v &&& 4294967295).toInt32 &&& 31)) &&& (1 : Int32)) = (1 : Int32) then (some (sI u 6 ((gI u 6) &&& (((1 : Int32) <<< ((v &&& 4294967295).toInt32 &&& 31)) ^^^ (-1 : Int32))))) else (some u)) else none)) = some u' ∧ Rel (f_X3_complete s v.toInt32 a) u' ∧ KwM u u' := by
  have i6 : gI u 6 = gI a 8 := h.ints.2.2.2.1
  obtain ⟨r1, r2, r3, -⟩ := h.rows
  have hi := in_un (v &&& 4294967295) (lo := 1) (hi := 7) (by decide) (by decide)
  rw [un_low] at hi
  have hi' : f_X12_in (v &&& 4294967295) 1 7 = (if 1 ≤ un v % 4294967296 ∧ un v % 4294967296 ≤ 7 then 1 else 0) := hi
  rw [hx, i32l, hi', toI_un v, r2, ← hs, if_pos hcN]
  have hn : un v % 4294967296 < 4294967296 := Nat.mod_lt _ (by decide)
  generalize un v % 4294967296 = n at *
  unfold f_X3_complete
  by_cases c1 : 1 ≤ n ∧ n ≤ 7
  · rw [if_pos c1, if_neg n10, if_neg (show ¬ nI n < 1 from nI_nlt (a := n) (b := 1) (by omega) (by omega)), if_neg (show ¬ (7 : Int32) < nI n from nI_nlt (a := 7) (b := n) (by omega) (by omega)), bitand s (by omega), ts_i, sh5_n (by omega)]
    cases qt s n
    · refine ⟨u, rfl, ?_, ⟨rfl, rfl, rfl, rfl, rfl, rfl, rfl⟩⟩
      rw [if_neg (by decide), show (0 : Int32) ^^^ -1 = -1 by decide, show gI a 8 &&& -1 = gI a 8 from Int32.and_neg_one]
      exact h.id8
    · refine ⟨sI u 6 ((gI u 6) &&& (((1 : Int32) <<< (nI n &&& 31)) ^^^ (-1 : Int32))), rfl, ?_, ⟨rfl, rfl, rfl, rfl, rfl, rfl, rfl⟩⟩
      rw [if_pos rfl, i6]
      exact h.I8 _
  · rw [if_neg c1, if_pos rfl]
    refine ⟨u, rfl, ?_, ⟨rfl, rfl, rfl, rfl, rfl, rfl, rfl⟩⟩
    by_cases c2 : nI n < 1
    · rw [if_pos c2]; exact h
    · rw [if_neg c2]
      have c3 : 7 < nI n := by
        by_cases c4 : n < 2 ^ 31
        · rcases Nat.lt_or_ge n 1 with c5 | c5
          · exact absurd (nI_lt (b := 1) c5 (by omega)) c2
          · exact nI_lt (a := 7) (by omega) c4
        · exfalso
          apply c2
          rw [Int32.lt_iff_toInt_lt]
          show (BitVec.ofNat 32 n).toInt < 1
          rw [BitVec.toInt_eq_toNat_cond, BitVec.toNat_ofNat]
          have : (2 : Nat) ^ 32 = 4294967296 := by decide
          rw [this, Nat.mod_eq_of_lt hn]
          split <;> omega
      rw [if_pos c3]
      exact h
theorem wb4_33554432 {a u : St} (h : Rel a u) (v : Int64) (hC : f_X10_place 33554432 4 (sI a 3 0) = -1) (hM : f_X12_isRam 33554432 4 u = 0) : WrOK a u 4 33554432 v := by
  obtain ⟨P, hN, -⟩ := h.lens
  obtain ⟨-, -, -, -, -, n2, n3, n4, -, -, -, m2, m3, m4, -⟩ := hN
  refine ⟨sL (sI a 3 0) 0 (v &&& 1), 0, sI u 4 ((v &&& 1).toInt32), ?_, rfl, ?_, ?_, bud_le rfl, ⟨rfl, rfl, rfl, rfl, rfl, rfl⟩, ⟨rfl, rfl, rfl, rfl, rfl, rfl, rfl⟩⟩
  · show f_X1_write 33554432 4 v a = _
    unfold f_X1_write
    rw [if_pos hC]
    rfl
  · show f_X12_writeAt 33554432 4 v u = _
    unfold f_X12_writeAt
    rw [if_pos hM]
    rfl
  · exact (h.s3 0).soft v
theorem wb4_33570816 {a u : St} (h : Rel a u) (v : Int64) (hC : f_X10_place 33570816 4 (sI a 3 0) = -1) (hM : f_X12_isRam 33570816 4 u = 0) : WrOK a u 4 33570816 v := by
  obtain ⟨P, hN, -⟩ := h.lens
  obtain ⟨-, -, -, -, -, n2, n3, n4, -, -, -, m2, m3, m4, -⟩ := hN
  refine ⟨sL (sI a 3 0) 1 (f_X1_withPart (gL a 1) 33570816 4 v), 0, sL u 2 (f_X12_mix (gL u 2) v 4 0), ?_, rfl, ?_, ?_, bud_le rfl, ⟨rfl, rfl, rfl, rfl, rfl, rfl⟩, ⟨rfl, rfl, rfl, rfl, rfl, rfl, rfl⟩⟩
  · show f_X1_write 33570816 4 v a = _
    unfold f_X1_write
    rw [if_pos hC]
    rfl
  · show f_X12_writeAt 33570816 4 v u = _
    unfold f_X12_writeAt
    rw [if_pos hM]
    rfl
  · have e : gL u 2 = gL a 1 := h.longs.1
    rw [e, show f_X1_withPart (gL a 1) 33570816 4 v = f_X12_mix (gL a 1) v 4 0 from rfl]
    exact (h.s3 0).L1 _
theorem wb4_33570820 {a u : St} (h : Rel a u) (v : Int64) (hC : f_X10_place 33570820 4 (sI a 3 0) = -1) (hM : f_X12_isRam 33570820 4 u = 0) : WrOK a u 4 33570820 v := by
  obtain ⟨P, hN, -⟩ := h.lens
  obtain ⟨-, -, -, -, -, n2, n3, n4, -, -, -, m2, m3, m4, -⟩ := hN
  refine ⟨sL (sI a 3 0) 1 (f_X1_withPart (gL a 1) 33570820 4 v), 0, sL u 2 (f_X12_mix (gL u 2) v 4 4), ?_, rfl, ?_, ?_, bud_le rfl, ⟨rfl, rfl, rfl, rfl, rfl, rfl⟩, ⟨rfl, rfl, rfl, rfl, rfl, rfl, rfl⟩⟩
  · show f_X1_write 33570820 4 v a = _
    unfold f_X1_write
    rw [if_pos hC]
    rfl
  · show f_X12_writeAt 33570820 4 v u = _
    unfold f_X12_writeAt
    rw [if_pos hM]
    rfl
  · have e : gL u 2 = gL a 1 := h.longs.1
    rw [e, show f_X1_withPart (gL a 1) 33570820 4 v = f_X12_mix (gL a 1) v 4 4 from rfl]
    exact (h.s3 0).L1 _
theorem wb8_33570816 {a u : St} (h : Rel a u) (v : Int64) (hC : f_X10_place 33570816 8 (sI a 3 0) = -1) (hM : f_X12_isRam 33570816 8 u = 0) : WrOK a u 8 33570816 v := by
  obtain ⟨P, hN, -⟩ := h.lens
  obtain ⟨-, -, -, -, -, n2, n3, n4, -, -, -, m2, m3, m4, -⟩ := hN
  refine ⟨sL (sI a 3 0) 1 (f_X1_withPart (gL a 1) 33570816 8 v), 0, sL u 2 (f_X12_mix (gL u 2) v 8 0), ?_, rfl, ?_, ?_, bud_le rfl, ⟨rfl, rfl, rfl, rfl, rfl, rfl⟩, ⟨rfl, rfl, rfl, rfl, rfl, rfl, rfl⟩⟩
  · show f_X1_write 33570816 8 v a = _
    unfold f_X1_write
    rw [if_pos hC]
    rfl
  · show f_X12_writeAt 33570816 8 v u = _
    unfold f_X12_writeAt
    rw [if_pos hM]
    rfl
  · have e : gL u 2 = gL a 1 := h.longs.1
    rw [e, show f_X1_withPart (gL a 1) 33570816 8 v = f_X12_mix (gL a 1) v 8 0 from rfl]
    exact (h.s3 0).L1 _
theorem wb4_33603576 {a u : St} (h : Rel a u) (v : Int64) (hC : f_X10_place 33603576 4 (sI a 3 0) = -1) (hM : f_X12_isRam 33603576 4 u = 0) : WrOK a u 4 33603576 v := by
  obtain ⟨P, hN, -⟩ := h.lens
  obtain ⟨-, -, -, -, -, n2, n3, n4, -, -, -, m2, m3, m4, -⟩ := hN
  refine ⟨sL (sI a 3 0) 2 (f_X1_withPart (gL a 2) 33603576 4 v), 0, sL u 3 (f_X12_mix (gL u 3) v 4 0), ?_, rfl, ?_, ?_, bud_le rfl, ⟨rfl, rfl, rfl, rfl, rfl, rfl⟩, ⟨rfl, rfl, rfl, rfl, rfl, rfl, rfl⟩⟩
  · show f_X1_write 33603576 4 v a = _
    unfold f_X1_write
    rw [if_pos hC]
    rfl
  · show f_X12_writeAt 33603576 4 v u = _
    unfold f_X12_writeAt
    rw [if_pos hM]
    rfl
  · have e : gL u 3 = gL a 2 := h.longs.2.1
    rw [e, show f_X1_withPart (gL a 2) 33603576 4 v = f_X12_mix (gL a 2) v 4 0 from rfl]
    exact (h.s3 0).L2 _
theorem wb4_33603580 {a u : St} (h : Rel a u) (v : Int64) (hC : f_X10_place 33603580 4 (sI a 3 0) = -1) (hM : f_X12_isRam 33603580 4 u = 0) : WrOK a u 4 33603580 v := by
  obtain ⟨P, hN, -⟩ := h.lens
  obtain ⟨-, -, -, -, -, n2, n3, n4, -, -, -, m2, m3, m4, -⟩ := hN
  refine ⟨sL (sI a 3 0) 2 (f_X1_withPart (gL a 2) 33603580 4 v), 0, sL u 3 (f_X12_mix (gL u 3) v 4 4), ?_, rfl, ?_, ?_, bud_le rfl, ⟨rfl, rfl, rfl, rfl, rfl, rfl⟩, ⟨rfl, rfl, rfl, rfl, rfl, rfl, rfl⟩⟩
  · show f_X1_write 33603580 4 v a = _
    unfold f_X1_write
    rw [if_pos hC]
    rfl
  · show f_X12_writeAt 33603580 4 v u = _
    unfold f_X12_writeAt
    rw [if_pos hM]
    rfl
  · have e : gL u 3 = gL a 2 := h.longs.2.1
    rw [e, show f_X1_withPart (gL a 2) 33603580 4 v = f_X12_mix (gL a 2) v 4 4 from rfl]
    exact (h.s3 0).L2 _
theorem wb8_33603576 {a u : St} (h : Rel a u) (v : Int64) (hC : f_X10_place 33603576 8 (sI a 3 0) = -1) (hM : f_X12_isRam 33603576 8 u = 0) : WrOK a u 8 33603576 v := by
  obtain ⟨P, hN, -⟩ := h.lens
  obtain ⟨-, -, -, -, -, n2, n3, n4, -, -, -, m2, m3, m4, -⟩ := hN
  refine ⟨sL (sI a 3 0) 2 (f_X1_withPart (gL a 2) 33603576 8 v), 0, sL u 3 (f_X12_mix (gL u 3) v 8 0), ?_, rfl, ?_, ?_, bud_le rfl, ⟨rfl, rfl, rfl, rfl, rfl, rfl⟩, ⟨rfl, rfl, rfl, rfl, rfl, rfl, rfl⟩⟩
  · show f_X1_write 33603576 8 v a = _
    unfold f_X1_write
    rw [if_pos hC]
    rfl
  · show f_X12_writeAt 33603576 8 v u = _
    unfold f_X12_writeAt
    rw [if_pos hM]
    rfl
  · have e : gL u 3 = gL a 2 := h.longs.2.1
    rw [e, show f_X1_withPart (gL a 2) 33603576 8 v = f_X12_mix (gL a 2) v 8 0 from rfl]
    exact (h.s3 0).L2 _
theorem wb4_201326596 {a u : St} (h : Rel a u) (v : Int64) (hC : f_X10_place 201326596 4 (sI a 3 0) = -1) (hM : f_X12_isRam 201326596 4 u = 0) : WrOK a u 4 201326596 v := by
  obtain ⟨P, hN, -⟩ := h.lens
  obtain ⟨-, -, -, -, -, n2, n3, n4, -, -, -, m2, m3, m4, -⟩ := hN
  refine ⟨sA (sI a 3 0) 1 1 (v.toInt32 &&& 7), 0, sA u 1 1 (v.toInt32 &&& 7), ?_, rfl, ?_, ?_, bud_le rfl, ⟨rfl, rfl, rfl, rfl, rfl, rfl⟩, ⟨rfl, rfl, rfl, rfl, rfl, rfl, rfl⟩⟩
  · show f_X1_write 201326596 4 v a = _
    unfold f_X1_write
    rw [if_pos hC]
    show (if inB (nI 1) (gN a 2) then some (sA (sI a 3 0) 1 (nI 1).toNatClampNeg (v.toInt32 &&& 7)) else none).bind _ = _
    rw [n2, if_pos (in8 (by omega)), nI_clamp (by omega)]
    rfl
  · show f_X12_writeAt 201326596 4 v u = _
    unfold f_X12_writeAt
    rw [if_pos hM]
    show (if inB (nI 1) (gN u 2) then some (sA u 1 (nI 1).toNatClampNeg (((v &&& 4294967295) &&& 7).toInt32)) else none).bind _ = _
    rw [m2, if_pos (in8 (by omega)), nI_clamp (by omega), wi_7]
    rfl
  · exact (h.s3 0).A1 _ _ (a77 _)
theorem wb4_201326600 {a u : St} (h : Rel a u) (v : Int64) (hC : f_X10_place 201326600 4 (sI a 3 0) = -1) (hM : f_X12_isRam 201326600 4 u = 0) : WrOK a u 4 201326600 v := by
  obtain ⟨P, hN, -⟩ := h.lens
  obtain ⟨-, -, -, -, -, n2, n3, n4, -, -, -, m2, m3, m4, -⟩ := hN
  refine ⟨sA (sI a 3 0) 1 2 (v.toInt32 &&& 7), 0, sA u 1 2 (v.toInt32 &&& 7), ?_, rfl, ?_, ?_, bud_le rfl, ⟨rfl, rfl, rfl, rfl, rfl, rfl⟩, ⟨rfl, rfl, rfl, rfl, rfl, rfl, rfl⟩⟩
  · show f_X1_write 201326600 4 v a = _
    unfold f_X1_write
    rw [if_pos hC]
    show (if inB (nI 2) (gN a 2) then some (sA (sI a 3 0) 1 (nI 2).toNatClampNeg (v.toInt32 &&& 7)) else none).bind _ = _
    rw [n2, if_pos (in8 (by omega)), nI_clamp (by omega)]
    rfl
  · show f_X12_writeAt 201326600 4 v u = _
    unfold f_X12_writeAt
    rw [if_pos hM]
    show (if inB (nI 2) (gN u 2) then some (sA u 1 (nI 2).toNatClampNeg (((v &&& 4294967295) &&& 7).toInt32)) else none).bind _ = _
    rw [m2, if_pos (in8 (by omega)), nI_clamp (by omega), wi_7]
    rfl
  · exact (h.s3 0).A1 _ _ (a77 _)
theorem wb4_201326604 {a u : St} (h : Rel a u) (v : Int64) (hC : f_X10_place 201326604 4 (sI a 3 0) = -1) (hM : f_X12_isRam 201326604 4 u = 0) : WrOK a u 4 201326604 v := by
  obtain ⟨P, hN, -⟩ := h.lens
  obtain ⟨-, -, -, -, -, n2, n3, n4, -, -, -, m2, m3, m4, -⟩ := hN
  refine ⟨sA (sI a 3 0) 1 3 (v.toInt32 &&& 7), 0, sA u 1 3 (v.toInt32 &&& 7), ?_, rfl, ?_, ?_, bud_le rfl, ⟨rfl, rfl, rfl, rfl, rfl, rfl⟩, ⟨rfl, rfl, rfl, rfl, rfl, rfl, rfl⟩⟩
  · show f_X1_write 201326604 4 v a = _
    unfold f_X1_write
    rw [if_pos hC]
    show (if inB (nI 3) (gN a 2) then some (sA (sI a 3 0) 1 (nI 3).toNatClampNeg (v.toInt32 &&& 7)) else none).bind _ = _
    rw [n2, if_pos (in8 (by omega)), nI_clamp (by omega)]
    rfl
  · show f_X12_writeAt 201326604 4 v u = _
    unfold f_X12_writeAt
    rw [if_pos hM]
    show (if inB (nI 3) (gN u 2) then some (sA u 1 (nI 3).toNatClampNeg (((v &&& 4294967295) &&& 7).toInt32)) else none).bind _ = _
    rw [m2, if_pos (in8 (by omega)), nI_clamp (by omega), wi_7]
    rfl
  · exact (h.s3 0).A1 _ _ (a77 _)
theorem wb4_201326608 {a u : St} (h : Rel a u) (v : Int64) (hC : f_X10_place 201326608 4 (sI a 3 0) = -1) (hM : f_X12_isRam 201326608 4 u = 0) : WrOK a u 4 201326608 v := by
  obtain ⟨P, hN, -⟩ := h.lens
  obtain ⟨-, -, -, -, -, n2, n3, n4, -, -, -, m2, m3, m4, -⟩ := hN
  refine ⟨sA (sI a 3 0) 1 4 (v.toInt32 &&& 7), 0, sA u 1 4 (v.toInt32 &&& 7), ?_, rfl, ?_, ?_, bud_le rfl, ⟨rfl, rfl, rfl, rfl, rfl, rfl⟩, ⟨rfl, rfl, rfl, rfl, rfl, rfl, rfl⟩⟩
  · show f_X1_write 201326608 4 v a = _
    unfold f_X1_write
    rw [if_pos hC]
    show (if inB (nI 4) (gN a 2) then some (sA (sI a 3 0) 1 (nI 4).toNatClampNeg (v.toInt32 &&& 7)) else none).bind _ = _
    rw [n2, if_pos (in8 (by omega)), nI_clamp (by omega)]
    rfl
  · show f_X12_writeAt 201326608 4 v u = _
    unfold f_X12_writeAt
    rw [if_pos hM]
    show (if inB (nI 4) (gN u 2) then some (sA u 1 (nI 4).toNatClampNeg (((v &&& 4294967295) &&& 7).toInt32)) else none).bind _ = _
    rw [m2, if_pos (in8 (by omega)), nI_clamp (by omega), wi_7]
    rfl
  · exact (h.s3 0).A1 _ _ (a77 _)
theorem wb4_201326612 {a u : St} (h : Rel a u) (v : Int64) (hC : f_X10_place 201326612 4 (sI a 3 0) = -1) (hM : f_X12_isRam 201326612 4 u = 0) : WrOK a u 4 201326612 v := by
  obtain ⟨P, hN, -⟩ := h.lens
  obtain ⟨-, -, -, -, -, n2, n3, n4, -, -, -, m2, m3, m4, -⟩ := hN
  refine ⟨sA (sI a 3 0) 1 5 (v.toInt32 &&& 7), 0, sA u 1 5 (v.toInt32 &&& 7), ?_, rfl, ?_, ?_, bud_le rfl, ⟨rfl, rfl, rfl, rfl, rfl, rfl⟩, ⟨rfl, rfl, rfl, rfl, rfl, rfl, rfl⟩⟩
  · show f_X1_write 201326612 4 v a = _
    unfold f_X1_write
    rw [if_pos hC]
    show (if inB (nI 5) (gN a 2) then some (sA (sI a 3 0) 1 (nI 5).toNatClampNeg (v.toInt32 &&& 7)) else none).bind _ = _
    rw [n2, if_pos (in8 (by omega)), nI_clamp (by omega)]
    rfl
  · show f_X12_writeAt 201326612 4 v u = _
    unfold f_X12_writeAt
    rw [if_pos hM]
    show (if inB (nI 5) (gN u 2) then some (sA u 1 (nI 5).toNatClampNeg (((v &&& 4294967295) &&& 7).toInt32)) else none).bind _ = _
    rw [m2, if_pos (in8 (by omega)), nI_clamp (by omega), wi_7]
    rfl
  · exact (h.s3 0).A1 _ _ (a77 _)
theorem wb4_201326616 {a u : St} (h : Rel a u) (v : Int64) (hC : f_X10_place 201326616 4 (sI a 3 0) = -1) (hM : f_X12_isRam 201326616 4 u = 0) : WrOK a u 4 201326616 v := by
  obtain ⟨P, hN, -⟩ := h.lens
  obtain ⟨-, -, -, -, -, n2, n3, n4, -, -, -, m2, m3, m4, -⟩ := hN
  refine ⟨sA (sI a 3 0) 1 6 (v.toInt32 &&& 7), 0, sA u 1 6 (v.toInt32 &&& 7), ?_, rfl, ?_, ?_, bud_le rfl, ⟨rfl, rfl, rfl, rfl, rfl, rfl⟩, ⟨rfl, rfl, rfl, rfl, rfl, rfl, rfl⟩⟩
  · show f_X1_write 201326616 4 v a = _
    unfold f_X1_write
    rw [if_pos hC]
    show (if inB (nI 6) (gN a 2) then some (sA (sI a 3 0) 1 (nI 6).toNatClampNeg (v.toInt32 &&& 7)) else none).bind _ = _
    rw [n2, if_pos (in8 (by omega)), nI_clamp (by omega)]
    rfl
  · show f_X12_writeAt 201326616 4 v u = _
    unfold f_X12_writeAt
    rw [if_pos hM]
    show (if inB (nI 6) (gN u 2) then some (sA u 1 (nI 6).toNatClampNeg (((v &&& 4294967295) &&& 7).toInt32)) else none).bind _ = _
    rw [m2, if_pos (in8 (by omega)), nI_clamp (by omega), wi_7]
    rfl
  · exact (h.s3 0).A1 _ _ (a77 _)
theorem wb4_201326620 {a u : St} (h : Rel a u) (v : Int64) (hC : f_X10_place 201326620 4 (sI a 3 0) = -1) (hM : f_X12_isRam 201326620 4 u = 0) : WrOK a u 4 201326620 v := by
  obtain ⟨P, hN, -⟩ := h.lens
  obtain ⟨-, -, -, -, -, n2, n3, n4, -, -, -, m2, m3, m4, -⟩ := hN
  refine ⟨sA (sI a 3 0) 1 7 (v.toInt32 &&& 7), 0, sA u 1 7 (v.toInt32 &&& 7), ?_, rfl, ?_, ?_, bud_le rfl, ⟨rfl, rfl, rfl, rfl, rfl, rfl⟩, ⟨rfl, rfl, rfl, rfl, rfl, rfl, rfl⟩⟩
  · show f_X1_write 201326620 4 v a = _
    unfold f_X1_write
    rw [if_pos hC]
    show (if inB (nI 7) (gN a 2) then some (sA (sI a 3 0) 1 (nI 7).toNatClampNeg (v.toInt32 &&& 7)) else none).bind _ = _
    rw [n2, if_pos (in8 (by omega)), nI_clamp (by omega)]
    rfl
  · show f_X12_writeAt 201326620 4 v u = _
    unfold f_X12_writeAt
    rw [if_pos hM]
    show (if inB (nI 7) (gN u 2) then some (sA u 1 (nI 7).toNatClampNeg (((v &&& 4294967295) &&& 7).toInt32)) else none).bind _ = _
    rw [m2, if_pos (in8 (by omega)), nI_clamp (by omega), wi_7]
    rfl
  · exact (h.s3 0).A1 _ _ (a77 _)
theorem wb4_201330688 {a u : St} (h : Rel a u) (v : Int64) (hC : f_X10_place 201330688 4 (sI a 3 0) = -1) (hM : f_X12_isRam 201330688 4 u = 0) : WrOK a u 4 201330688 v := by
  obtain ⟨P, hN, -⟩ := h.lens
  obtain ⟨-, -, -, -, -, n2, n3, n4, -, -, -, m2, m3, m4, -⟩ := hN
  refine ⟨sI a 3 0, 0, u, ?_, rfl, ?_, ?_, bud_le rfl, ⟨rfl, rfl, rfl, rfl, rfl, rfl⟩, ⟨rfl, rfl, rfl, rfl, rfl, rfl, rfl⟩⟩
  · show f_X1_write 201330688 4 v a = _
    unfold f_X1_write
    rw [if_pos hC]
    rfl
  · show f_X12_writeAt 201330688 4 v u = _
    unfold f_X12_writeAt
    rw [if_pos hM]
    rfl
  · exact h.s3 0
theorem wb4_201334784 {a u : St} (h : Rel a u) (v : Int64) (hC : f_X10_place 201334784 4 (sI a 3 0) = -1) (hM : f_X12_isRam 201334784 4 u = 0) : WrOK a u 4 201334784 v := by
  obtain ⟨P, hN, -⟩ := h.lens
  obtain ⟨-, -, -, -, -, n2, n3, n4, -, -, -, m2, m3, m4, -⟩ := hN
  refine ⟨sA (sI a 3 0) 2 0 (v.toInt32 &&& 254), 0, sA u 2 0 (v.toInt32 &&& 254), ?_, rfl, ?_, ?_, bud_le rfl, ⟨rfl, rfl, rfl, rfl, rfl, rfl⟩, ⟨rfl, rfl, rfl, rfl, rfl, rfl, rfl⟩⟩
  · show f_X1_write 201334784 4 v a = _
    unfold f_X1_write
    rw [if_pos hC]
    show (if inB (0 : Int32) (gN a 3) then some (sA (sI a 3 0) 2 (nI 0).toNatClampNeg (v.toInt32 &&& 254)) else none).bind _ = _
    rw [n3, if_pos in20, nI_clamp (by omega)]
    rfl
  · show f_X12_writeAt 201334784 4 v u = _
    unfold f_X12_writeAt
    rw [if_pos hM]
    show (if inB (0 : Int32) (gN u 3) then some (sA u 2 (nI 0).toNatClampNeg (((v &&& 4294967295) &&& 254).toInt32)) else none).bind _ = _
    rw [m3, if_pos in20, nI_clamp (by omega), wi_254]
    rfl
  · exact (h.s3 0).A2 _ _ (a254 _)
theorem wb4_201334912 {a u : St} (h : Rel a u) (v : Int64) (hC : f_X10_place 201334912 4 (sI a 3 0) = -1) (hM : f_X12_isRam 201334912 4 u = 0) : WrOK a u 4 201334912 v := by
  obtain ⟨P, hN, -⟩ := h.lens
  obtain ⟨-, -, -, -, -, n2, n3, n4, -, -, -, m2, m3, m4, -⟩ := hN
  refine ⟨sA (sI a 3 0) 2 1 (v.toInt32 &&& 254), 0, sA u 2 1 (v.toInt32 &&& 254), ?_, rfl, ?_, ?_, bud_le rfl, ⟨rfl, rfl, rfl, rfl, rfl, rfl⟩, ⟨rfl, rfl, rfl, rfl, rfl, rfl, rfl⟩⟩
  · show f_X1_write 201334912 4 v a = _
    unfold f_X1_write
    rw [if_pos hC]
    show (if inB (1 : Int32) (gN a 3) then some (sA (sI a 3 0) 2 (nI 1).toNatClampNeg (v.toInt32 &&& 254)) else none).bind _ = _
    rw [n3, if_pos in21, nI_clamp (by omega)]
    rfl
  · show f_X12_writeAt 201334912 4 v u = _
    unfold f_X12_writeAt
    rw [if_pos hM]
    show (if inB (1 : Int32) (gN u 3) then some (sA u 2 (nI 1).toNatClampNeg (((v &&& 4294967295) &&& 254).toInt32)) else none).bind _ = _
    rw [m3, if_pos in21, nI_clamp (by omega), wi_254]
    rfl
  · exact (h.s3 0).A2 _ _ (a254 _)
theorem wb4_203423744 {a u : St} (h : Rel a u) (v : Int64) (hC : f_X10_place 203423744 4 (sI a 3 0) = -1) (hM : f_X12_isRam 203423744 4 u = 0) : WrOK a u 4 203423744 v := by
  obtain ⟨P, hN, -⟩ := h.lens
  obtain ⟨-, -, -, -, -, n2, n3, n4, -, -, -, m2, m3, m4, -⟩ := hN
  refine ⟨sA (sI a 3 0) 3 0 (v.toInt32 &&& 7), 0, sA u 3 0 (v.toInt32 &&& 7), ?_, rfl, ?_, ?_, bud_le rfl, ⟨rfl, rfl, rfl, rfl, rfl, rfl⟩, ⟨rfl, rfl, rfl, rfl, rfl, rfl, rfl⟩⟩
  · show f_X1_write 203423744 4 v a = _
    unfold f_X1_write
    rw [if_pos hC]
    show (if inB (0 : Int32) (gN a 4) then some (sA (sI a 3 0) 3 (nI 0).toNatClampNeg (v.toInt32 &&& 7)) else none).bind _ = _
    rw [n4, if_pos in20, nI_clamp (by omega)]
    rfl
  · show f_X12_writeAt 203423744 4 v u = _
    unfold f_X12_writeAt
    rw [if_pos hM]
    show (if inB (0 : Int32) (gN u 4) then some (sA u 3 (nI 0).toNatClampNeg (((v &&& 4294967295) &&& 7).toInt32)) else none).bind _ = _
    rw [m4, if_pos in20, nI_clamp (by omega), wi_7]
    rfl
  · exact (h.s3 0).A3 _ _ (a77 _)
theorem wb4_203427840 {a u : St} (h : Rel a u) (v : Int64) (hC : f_X10_place 203427840 4 (sI a 3 0) = -1) (hM : f_X12_isRam 203427840 4 u = 0) : WrOK a u 4 203427840 v := by
  obtain ⟨P, hN, -⟩ := h.lens
  obtain ⟨-, -, -, -, -, n2, n3, n4, -, -, -, m2, m3, m4, -⟩ := hN
  refine ⟨sA (sI a 3 0) 3 1 (v.toInt32 &&& 7), 0, sA u 3 1 (v.toInt32 &&& 7), ?_, rfl, ?_, ?_, bud_le rfl, ⟨rfl, rfl, rfl, rfl, rfl, rfl⟩, ⟨rfl, rfl, rfl, rfl, rfl, rfl, rfl⟩⟩
  · show f_X1_write 203427840 4 v a = _
    unfold f_X1_write
    rw [if_pos hC]
    show (if inB (1 : Int32) (gN a 4) then some (sA (sI a 3 0) 3 (nI 1).toNatClampNeg (v.toInt32 &&& 7)) else none).bind _ = _
    rw [n4, if_pos in21, nI_clamp (by omega)]
    rfl
  · show f_X12_writeAt 203427840 4 v u = _
    unfold f_X12_writeAt
    rw [if_pos hM]
    show (if inB (1 : Int32) (gN u 4) then some (sA u 3 (nI 1).toNatClampNeg (((v &&& 4294967295) &&& 7).toInt32)) else none).bind _ = _
    rw [m4, if_pos in21, nI_clamp (by omega), wi_7]
    rfl
  · exact (h.s3 0).A3 _ _ (a77 _)
theorem wb4_203423748 {a u : St} (h : Rel a u) (v : Int64) (hC : f_X10_place 203423748 4 (sI a 3 0) = -1) (hM : f_X12_isRam 203423748 4 u = 0) : WrOK a u 4 203423748 v := by
  obtain ⟨P, hN, -⟩ := h.lens
  obtain ⟨-, -, -, -, -, n2, n3, n4, -, -, -, m2, m3, m4, -⟩ := hN
  obtain ⟨u', e1, e2, e3⟩ := cmp_w (h.s3 0) 0 v (gA a 2 (0 : Int32).toNatClampNeg) rfl (by rw [m3]; exact in20) 13 (by decide)
  have hc : ∀ s x : Int32, ∀ b : St, gI (f_X3_complete s x b) 3 = gI b 3 ∧ gN (f_X3_complete s x b) = gN b ∧ KwC b (f_X3_complete s x b) := by
    intro s x b
    unfold f_X3_complete
    split
    · exact ⟨rfl, rfl, rfl, rfl, rfl, rfl, rfl, rfl⟩
    · split
      · exact ⟨rfl, rfl, rfl, rfl, rfl, rfl, rfl, rfl⟩
      · exact ⟨rfl, rfl, rfl, rfl, rfl, rfl, rfl, rfl⟩
  obtain ⟨c1, c2, c3⟩ := hc (gA a 2 (0 : Int32).toNatClampNeg) v.toInt32 (sI a 3 0)
  refine ⟨f_X3_complete (gA a 2 (0 : Int32).toNatClampNeg) v.toInt32 (sI a 3 0), 0, u', ?_, c1, ?_, e2, bud_le c2, c3, e3⟩
  · show f_X1_write 203423748 4 v a = _
    unfold f_X1_write
    rw [if_pos hC]
    show (if inB (0 : Int32) (gN a 3) then some (f_X3_complete (gA a 2 (0 : Int32).toNatClampNeg) v.toInt32 (sI a 3 0)) else none).bind _ = _
    rw [n3, if_pos in20]
    rfl
  · show f_X12_writeAt 203423748 4 v u = _
    unfold f_X12_writeAt
    rw [if_pos hM]
    show Option.bind (if _ then _ else _) _ = _
    rw [bs]
    exact e1
theorem wb4_203427844 {a u : St} (h : Rel a u) (v : Int64) (hC : f_X10_place 203427844 4 (sI a 3 0) = -1) (hM : f_X12_isRam 203427844 4 u = 0) : WrOK a u 4 203427844 v := by
  obtain ⟨P, hN, -⟩ := h.lens
  obtain ⟨-, -, -, -, -, n2, n3, n4, -, -, -, m2, m3, m4, -⟩ := hN
  obtain ⟨u', e1, e2, e3⟩ := cmp_w (h.s3 0) 1 v (gA a 2 (1 : Int32).toNatClampNeg) rfl (by rw [m3]; exact in21) 14 (by decide)
  have hc : ∀ s x : Int32, ∀ b : St, gI (f_X3_complete s x b) 3 = gI b 3 ∧ gN (f_X3_complete s x b) = gN b ∧ KwC b (f_X3_complete s x b) := by
    intro s x b
    unfold f_X3_complete
    split
    · exact ⟨rfl, rfl, rfl, rfl, rfl, rfl, rfl, rfl⟩
    · split
      · exact ⟨rfl, rfl, rfl, rfl, rfl, rfl, rfl, rfl⟩
      · exact ⟨rfl, rfl, rfl, rfl, rfl, rfl, rfl, rfl⟩
  obtain ⟨c1, c2, c3⟩ := hc (gA a 2 (1 : Int32).toNatClampNeg) v.toInt32 (sI a 3 0)
  refine ⟨f_X3_complete (gA a 2 (1 : Int32).toNatClampNeg) v.toInt32 (sI a 3 0), 0, u', ?_, c1, ?_, e2, bud_le c2, c3, e3⟩
  · show f_X1_write 203427844 4 v a = _
    unfold f_X1_write
    rw [if_pos hC]
    show (if inB (1 : Int32) (gN a 3) then some (f_X3_complete (gA a 2 (1 : Int32).toNatClampNeg) v.toInt32 (sI a 3 0)) else none).bind _ = _
    rw [n3, if_pos in21]
    rfl
  · show f_X12_writeAt 203427844 4 v u = _
    unfold f_X12_writeAt
    rw [if_pos hM]
    show Option.bind (if _ then _ else _) _ = _
    rw [bs]
    exact e1
theorem wb1_268435456 {a u : St} (h : Rel a u) (v : Int64) (hC : f_X10_place 268435456 1 (sI a 3 0) = -1) (hM : f_X12_isRam 268435456 1 u = 0) : WrOK a u 1 268435456 v := by
  obtain ⟨P, hN, -⟩ := h.lens
  have m7 : gN u 7 = 4096 := hN.2.2.2.2.2.2.2.2.2.2.2.2.2.2.2.2
  have i11 : gI u 11 = gI a 15 := h.ints.2.2.2.2.2.2.2.2.2.2.2
  have hO : ∃ c, gI a 15 = nI c ∧ c ≤ 4096 ∧ gI a 13 = 4096 := by
    obtain ⟨P, -, -, -, -, -, -, -, -, ⟨h13, hR⟩, -⟩ := h
    obtain ⟨c, h1, h2, h3⟩ := hR.cnt
    exact ⟨c, h1, h2, h13⟩
  obtain ⟨c, hc, hc2, h13⟩ := hO
  have e1 : f_X1_write 268435456 1 v a = ((f_X2_append_o13 v.toInt32 (sI a 3 0)).bind (fun y3 => ak0 y3.2 (some (y3.1, 0)))).bind (fun y14 => ak0 y14.2 (some (y14.1, 0))) := by
    unfold f_X1_write
    rw [if_pos hC]
    rfl
  by_cases hf : c = 4096
  · subst hf
    refine ⟨sI a 3 0, 0, u, ?_, rfl, ?_, h.s3 0, bud_le rfl, ⟨rfl, rfl, rfl, rfl, rfl, rfl⟩, ⟨rfl, rfl, rfl, rfl, rfl, rfl, rfl⟩⟩
    · show f_X1_write 268435456 1 v a = _
      rw [e1]
      unfold f_X2_append_o13
      rw [if_neg (show ¬ gI (sI a 3 0) 15 < gI (sI a 3 0) 13 by rw [show gI (sI a 3 0) 15 = gI a 15 from rfl, show gI (sI a 3 0) 13 = gI a 13 from rfl, hc, h13]; decide)]
      rfl
    · show f_X12_writeAt 268435456 1 v u = _
      unfold f_X12_writeAt
      rw [if_pos hM, if_pos rfl, if_pos (by decide), if_pos (by rw [i11, hc]; decide)]
      rfl
  · obtain ⟨a', k, r1, r2, r3, f1, f2, f3, f4, f5⟩ := (h.s3 0).ap13 (c := c) hc (by omega) v.toInt32 (vp_nar .byte v.toInt32.toInt8.toInt32) (nb_256 _)
    have fI : ∀ j, j ∉ rgI → gI a' j = gI (sI a 3 0) j := f3
    refine ⟨a', k, sI (sA u 6 c (vp_nar .byte v.toInt32.toInt8.toInt32)) 11 (nI (c + 1)), ?_, ?_, ?_, r2, r3, ⟨fI 16 (by decide), fI 17 (by decide), fI 18 (by decide), ?_, ?_, ?_⟩, ⟨rfl, rfl, rfl, rfl, rfl, rfl, rfl⟩⟩
    · show f_X1_write 268435456 1 v a = _
      rw [e1, r1]
      rfl
    · rw [fI 3 (by decide)]
      rfl
    · show f_X12_writeAt 268435456 1 v u = _
      unfold f_X12_writeAt
      rw [if_pos hM, if_pos rfl, if_pos (by decide), if_neg (by rw [i11, hc]; exact nI_ge (b := 4096) (by omega) (by omega)), i11, hc, if_pos (in_d (N := 4096) (by omega) (by omega) m7), nI_clamp (by omega)]
      show some (sI (sA u 6 c (vp_nar .byte v.toInt32.toInt8.toInt32)) 11 (gI u 11 + 1)) = _
      rw [i11, hc, nI_1]
    · rw [f1]; rfl
    · rw [f1]; rfl
    · rw [f1]; rfl
theorem wb1_268435457 {a u : St} (h : Rel a u) (v : Int64) (hC : f_X10_place 268435457 1 (sI a 3 0) = -1) (hM : f_X12_isRam 268435457 1 u = 0) : WrOK a u 1 268435457 v := by
  obtain ⟨P, hN, -⟩ := h.lens
  obtain ⟨-, -, -, -, -, n2, n3, n4, -, -, -, m2, m3, m4, -⟩ := hN
  refine ⟨sI (sI a 3 0) 9 (v.toInt32 &&& 255), 0, sI u 12 ((v &&& 255).toInt32), ?_, rfl, ?_, ?_, bud_le rfl, ⟨rfl, rfl, rfl, rfl, rfl, rfl⟩, ⟨rfl, rfl, rfl, rfl, rfl, rfl, rfl⟩⟩
  · show f_X1_write 268435457 1 v a = _
    unfold f_X1_write
    rw [if_pos hC]
    rfl
  · show f_X12_writeAt 268435457 1 v u = _
    unfold f_X12_writeAt
    rw [if_pos hM]
    rfl
  · rw [wi_255]
    exact (h.s3 0).I9 _ (a255 _)
theorem wb1_268435458 {a u : St} (h : Rel a u) (v : Int64) (hC : f_X10_place 268435458 1 (sI a 3 0) = -1) (hM : f_X12_isRam 268435458 1 u = 0) : WrOK a u 1 268435458 v := by
  obtain ⟨P, hN, -⟩ := h.lens
  obtain ⟨-, -, -, -, -, n2, n3, n4, -, -, -, m2, m3, m4, -⟩ := hN
  refine ⟨sI a 3 0, 0, u, ?_, rfl, ?_, ?_, bud_le rfl, ⟨rfl, rfl, rfl, rfl, rfl, rfl⟩, ⟨rfl, rfl, rfl, rfl, rfl, rfl, rfl⟩⟩
  · show f_X1_write 268435458 1 v a = _
    unfold f_X1_write
    rw [if_pos hC]
    rfl
  · show f_X12_writeAt 268435458 1 v u = _
    unfold f_X12_writeAt
    rw [if_pos hM]
    rfl
  · exact h.s3 0
theorem wb1_268435459 {a u : St} (h : Rel a u) (v : Int64) (hC : f_X10_place 268435459 1 (sI a 3 0) = -1) (hM : f_X12_isRam 268435459 1 u = 0) : WrOK a u 1 268435459 v := by
  obtain ⟨P, hN, -⟩ := h.lens
  obtain ⟨-, -, -, -, -, n2, n3, n4, -, -, -, m2, m3, m4, -⟩ := hN
  refine ⟨sI a 3 0, 0, u, ?_, rfl, ?_, ?_, bud_le rfl, ⟨rfl, rfl, rfl, rfl, rfl, rfl⟩, ⟨rfl, rfl, rfl, rfl, rfl, rfl, rfl⟩⟩
  · show f_X1_write 268435459 1 v a = _
    unfold f_X1_write
    rw [if_pos hC]
    rfl
  · show f_X12_writeAt 268435459 1 v u = _
    unfold f_X12_writeAt
    rw [if_pos hM]
    rfl
  · exact h.s3 0
theorem wb1_268435460 {a u : St} (h : Rel a u) (v : Int64) (hC : f_X10_place 268435460 1 (sI a 3 0) = -1) (hM : f_X12_isRam 268435460 1 u = 0) : WrOK a u 1 268435460 v := by
  obtain ⟨P, hN, -⟩ := h.lens
  obtain ⟨-, -, -, -, -, n2, n3, n4, -, -, -, m2, m3, m4, -⟩ := hN
  refine ⟨sI a 3 0, 0, u, ?_, rfl, ?_, ?_, bud_le rfl, ⟨rfl, rfl, rfl, rfl, rfl, rfl⟩, ⟨rfl, rfl, rfl, rfl, rfl, rfl, rfl⟩⟩
  · show f_X1_write 268435460 1 v a = _
    unfold f_X1_write
    rw [if_pos hC]
    rfl
  · show f_X12_writeAt 268435460 1 v u = _
    unfold f_X12_writeAt
    rw [if_pos hM]
    rfl
  · exact h.s3 0
theorem wb1_268435461 {a u : St} (h : Rel a u) (v : Int64) (hC : f_X10_place 268435461 1 (sI a 3 0) = -1) (hM : f_X12_isRam 268435461 1 u = 0) : WrOK a u 1 268435461 v := by
  obtain ⟨P, hN, -⟩ := h.lens
  obtain ⟨-, -, -, -, -, n2, n3, n4, -, -, -, m2, m3, m4, -⟩ := hN
  refine ⟨sI a 3 0, 0, u, ?_, rfl, ?_, ?_, bud_le rfl, ⟨rfl, rfl, rfl, rfl, rfl, rfl⟩, ⟨rfl, rfl, rfl, rfl, rfl, rfl, rfl⟩⟩
  · show f_X1_write 268435461 1 v a = _
    unfold f_X1_write
    rw [if_pos hC]
    rfl
  · show f_X12_writeAt 268435461 1 v u = _
    unfold f_X12_writeAt
    rw [if_pos hM]
    rfl
  · exact h.s3 0
theorem wb1_268435462 {a u : St} (h : Rel a u) (v : Int64) (hC : f_X10_place 268435462 1 (sI a 3 0) = -1) (hM : f_X12_isRam 268435462 1 u = 0) : WrOK a u 1 268435462 v := by
  obtain ⟨P, hN, -⟩ := h.lens
  obtain ⟨-, -, -, -, -, n2, n3, n4, -, -, -, m2, m3, m4, -⟩ := hN
  refine ⟨sI a 3 0, 0, u, ?_, rfl, ?_, ?_, bud_le rfl, ⟨rfl, rfl, rfl, rfl, rfl, rfl⟩, ⟨rfl, rfl, rfl, rfl, rfl, rfl, rfl⟩⟩
  · show f_X1_write 268435462 1 v a = _
    unfold f_X1_write
    rw [if_pos hC]
    rfl
  · show f_X12_writeAt 268435462 1 v u = _
    unfold f_X12_writeAt
    rw [if_pos hM]
    rfl
  · exact h.s3 0
theorem wb1_268435463 {a u : St} (h : Rel a u) (v : Int64) (hC : f_X10_place 268435463 1 (sI a 3 0) = -1) (hM : f_X12_isRam 268435463 1 u = 0) : WrOK a u 1 268435463 v := by
  obtain ⟨P, hN, -⟩ := h.lens
  obtain ⟨-, -, -, -, -, n2, n3, n4, -, -, -, m2, m3, m4, -⟩ := hN
  refine ⟨sI a 3 0, 0, u, ?_, rfl, ?_, ?_, bud_le rfl, ⟨rfl, rfl, rfl, rfl, rfl, rfl⟩, ⟨rfl, rfl, rfl, rfl, rfl, rfl, rfl⟩⟩
  · show f_X1_write 268435463 1 v a = _
    unfold f_X1_write
    rw [if_pos hC]
    rfl
  · show f_X12_writeAt 268435463 1 v u = _
    unfold f_X12_writeAt
    rw [if_pos hM]
    rfl
  · exact h.s3 0
theorem rel_bwrite {a u : St} (h : Rel a u) {m : Nat} (hm : wid m) (x : Int64) (hx : un x % m = 0) (v : Int64) : (f_X12_isThere x (nI m) u = 0 ∧ f_X1_write x (nI m) v a = some (sI (sI a 3 0) 3 1, 0)) ∨ (f_X12_isThere x (nI m) u = 1 ∧ WrOK a u m x v) := by
  obtain ⟨P, hN, hM⟩ := h.lens
  have hP := hN.2.1
  have hm0 : 1 ≤ m ∧ m ≤ 8 := by rcases hm with rfl | rfl | rfl | rfl <;> omega
  rcases ram_cases hN (m := m) hm0.1 hm0.2 x with ⟨h1, h2⟩ | ⟨i, hi, ex, hx2, h1, h2⟩
  · have h1' : f_X10_place x (nI m) (sI a 3 0) = -1 := h1
    have hxl := un_lt x
    rcases hm with rfl | rfl | rfl | rfl
    · by_cases w : x &&& -8 = 268435456
      · right
        have w2 := (un_lit 268435456 (by decide)).mp w
        rw [un_hi8] at w2
        by_cases p0 : un x = 268435456
        · have q := lift8 (by decide) p0
          subst q
          exact ⟨(rb1_268435456 h h1' h2).1, wb1_268435456 h v h1' h2⟩
        by_cases p1 : un x = 268435457
        · have q := lift8 (by decide) p1
          subst q
          exact ⟨(rb1_268435457 h h1' h2).1, wb1_268435457 h v h1' h2⟩
        by_cases p2 : un x = 268435458
        · have q := lift8 (by decide) p2
          subst q
          exact ⟨(rb1_268435458 h h1' h2).1, wb1_268435458 h v h1' h2⟩
        by_cases p3 : un x = 268435459
        · have q := lift8 (by decide) p3
          subst q
          exact ⟨(rb1_268435459 h h1' h2).1, wb1_268435459 h v h1' h2⟩
        by_cases p4 : un x = 268435460
        · have q := lift8 (by decide) p4
          subst q
          exact ⟨(rb1_268435460 h h1' h2).1, wb1_268435460 h v h1' h2⟩
        by_cases p5 : un x = 268435461
        · have q := lift8 (by decide) p5
          subst q
          exact ⟨(rb1_268435461 h h1' h2).1, wb1_268435461 h v h1' h2⟩
        by_cases p6 : un x = 268435462
        · have q := lift8 (by decide) p6
          subst q
          exact ⟨(rb1_268435462 h h1' h2).1, wb1_268435462 h v h1' h2⟩
        by_cases p7 : un x = 268435463
        · have q := lift8 (by decide) p7
          subst q
          exact ⟨(rb1_268435463 h h1' h2).1, wb1_268435463 h v h1' h2⟩
        exfalso
        omega
      · left
        have w1 : ¬ un x / 8 * 8 = 268435456 := fun q => w ((un_lit 268435456 (by decide)).mpr (by rw [un_hi8]; exact q))
        have i7 : f_X12_in (x - 268435456) 0 7 = 0 := by
          have e := in_un (x - 268435456) (lo := 0) (hi := 7) (by decide) (by decide)
          rw [if_neg] at e
          · exact e
          · rw [un_sub, show un 268435456 = 268435456 from rfl]
            omega
        refine ⟨?_, ?_⟩
        · show f_X12_isThere x 1 u = 0
          unfold f_X12_isThere f_X12_isThere_b77 f_X12_isThere_b110 f_X12_isThere_b134
          rw [if_pos (show f_X12_isRam x 1 u = 0 from h2), if_neg (by decide), if_neg (by decide), if_neg (by decide), if_pos rfl, if_pos i7]
        · show f_X1_write x 1 v a = _
          unfold f_X1_write f_X1_write_b103 f_X1_write_b138 f_X1_write_b162 f_X1_write_b197 f_X1_write_b232
          rw [if_pos (show f_X10_place x 1 (sI a 3 0) = -1 from h1'), if_pos rfl, if_neg w, if_neg (by decide), if_neg (by decide), if_pos (by decide), if_pos (by decide)]
    · left
      refine ⟨?_, ?_⟩
      · show f_X12_isThere x 2 u = 0
        unfold f_X12_isThere f_X12_isThere_b77 f_X12_isThere_b110 f_X12_isThere_b134
        rw [if_pos (show f_X12_isRam x 2 u = 0 from h2), if_neg (by decide), if_neg (by decide), if_neg (by decide), if_neg (by decide)]
      · show f_X1_write x 2 v a = _
        unfold f_X1_write f_X1_write_b103 f_X1_write_b138 f_X1_write_b162 f_X1_write_b197 f_X1_write_b232
        rw [if_pos (show f_X10_place x 2 (sI a 3 0) = -1 from h1'), if_neg (by decide), if_neg (by decide), if_neg (by decide), if_pos (by decide), if_pos (by decide)]
    · have d4 : un (x - 201326592) % 4 = 0 := by
        rw [un_sub, show un 201326592 = 201326592 from rfl]
        omega
      rcases pl_list (x - 201326592) d4 with q | ⟨q1, q2⟩
      · right
        rcases has_ne q with rfl | rfl | rfl | rfl | rfl | rfl | rfl | rfl | rfl | rfl | rfl | rfl | rfl | rfl
        · exact ⟨(rb4_201326596 h h1' h2).1, wb4_201326596 h v h1' h2⟩
        · exact ⟨(rb4_201326600 h h1' h2).1, wb4_201326600 h v h1' h2⟩
        · exact ⟨(rb4_201326604 h h1' h2).1, wb4_201326604 h v h1' h2⟩
        · exact ⟨(rb4_201326608 h h1' h2).1, wb4_201326608 h v h1' h2⟩
        · exact ⟨(rb4_201326612 h h1' h2).1, wb4_201326612 h v h1' h2⟩
        · exact ⟨(rb4_201326616 h h1' h2).1, wb4_201326616 h v h1' h2⟩
        · exact ⟨(rb4_201326620 h h1' h2).1, wb4_201326620 h v h1' h2⟩
        · exact ⟨(rb4_201330688 h h1' h2).1, wb4_201330688 h v h1' h2⟩
        · exact ⟨(rb4_201334784 h h1' h2).1, wb4_201334784 h v h1' h2⟩
        · exact ⟨(rb4_201334912 h h1' h2).1, wb4_201334912 h v h1' h2⟩
        · exact ⟨(rb4_203423744 h h1' h2).1, wb4_203423744 h v h1' h2⟩
        · exact ⟨(rb4_203427840 h h1' h2).1, wb4_203427840 h v h1' h2⟩
        · exact ⟨(rb4_203423748 h h1' h2).1, wb4_203423748 h v h1' h2⟩
        · exact ⟨(rb4_203427844 h h1' h2).1, wb4_203427844 h v h1' h2⟩
      · by_cases c33554432 : un x = 33554432
        · right
          have q := lift8 (by decide) c33554432
          subst q
          exact ⟨(rb4_33554432 h h1' h2).1, wb4_33554432 h v h1' h2⟩
        by_cases c33570816 : un x = 33570816
        · right
          have q := lift8 (by decide) c33570816
          subst q
          exact ⟨(rb4_33570816 h h1' h2).1, wb4_33570816 h v h1' h2⟩
        by_cases c33570820 : un x = 33570820
        · right
          have q := lift8 (by decide) c33570820
          subst q
          exact ⟨(rb4_33570820 h h1' h2).1, wb4_33570820 h v h1' h2⟩
        by_cases c33603576 : un x = 33603576
        · right
          have q := lift8 (by decide) c33603576
          subst q
          exact ⟨(rb4_33603576 h h1' h2).1, wb4_33603576 h v h1' h2⟩
        by_cases c33603580 : un x = 33603580
        · right
          have q := lift8 (by decide) c33603580
          subst q
          exact ⟨(rb4_33603580 h h1' h2).1, wb4_33603580 h v h1' h2⟩
        left
        have i1 : f_X12_in (x - 33554432) 16384 ((16392 : Int64) - (4 : Int32).toInt64) = 0 := by
          have e := in_un (x - 33554432) (lo := 16384) (hi := 16388) (by decide) (by decide)
          rw [if_neg] at e
          · exact e
          · rw [un_sub, show un 33554432 = 33554432 from rfl]
            omega
        have i2 : f_X12_in (x - 33554432) 49144 ((49152 : Int64) - (4 : Int32).toInt64) = 0 := by
          have e := in_un (x - 33554432) (lo := 49144) (hi := 49148) (by decide) (by decide)
          rw [if_neg] at e
          · exact e
          · rw [un_sub, show un 33554432 = 33554432 from rfl]
            omega
        have i0 : ¬ x - 33554432 = 0 := by
          intro q
          have q2 := (un_zero _).mp q
          rw [un_sub, show un 33554432 = 33554432 from rfl] at q2
          omega
        have w0 : ¬ x = 33554432 := fun q => c33554432 ((un_lit 33554432 (by decide)).mp q)
        have w1 : ¬ x &&& -8 = 33570816 := by
          intro q
          have w2 := (un_lit 33570816 (by decide)).mp q
          rw [un_hi8] at w2
          omega
        have w2 : ¬ x &&& -8 = 33603576 := by
          intro q
          have w2 := (un_lit 33603576 (by decide)).mp q
          rw [un_hi8] at w2
          omega
        refine ⟨?_, ?_⟩
        · show f_X12_isThere x 4 u = 0
          unfold f_X12_isThere f_X12_isThere_b29 f_X12_isThere_b41 f_X12_isThere_b77 f_X12_isThere_b110 f_X12_isThere_b134
          rw [if_pos (show f_X12_isRam x 4 u = 0 from h2), if_pos rfl, if_neg i0, if_pos i1, if_pos i2, if_pos rfl, q1, if_pos (by decide), if_neg (by decide)]
        · show f_X1_write x 4 v a = _
          unfold f_X1_write f_X1_write_b103 f_X1_write_b138 f_X1_write_b162 f_X1_write_b197 f_X1_write_b232
          rw [if_pos (show f_X10_place x 4 (sI a 3 0) = -1 from h1'), if_neg (by decide), if_pos rfl, if_pos q2, if_pos rfl, if_neg w0, if_neg (by decide), if_neg w1, if_neg (by decide), if_neg w2]
    · by_cases c1 : un x = 33570816
      · right
        have q := lift8 (by decide) c1
        subst q
        exact ⟨(rb8_33570816 h h1' h2).1, wb8_33570816 h v h1' h2⟩
      by_cases c2 : un x = 33603576
      · right
        have q := lift8 (by decide) c2
        subst q
        exact ⟨(rb8_33603576 h h1' h2).1, wb8_33603576 h v h1' h2⟩
      left
      have i1 : f_X12_in (x - 33554432) 16384 ((16392 : Int64) - (8 : Int32).toInt64) = 0 := by
        have e := in_un (x - 33554432) (lo := 16384) (hi := 16384) (by decide) (by decide)
        rw [if_neg] at e
        · exact e
        · rw [un_sub, show un 33554432 = 33554432 from rfl]
          omega
      have i2 : f_X12_in (x - 33554432) 49144 ((49152 : Int64) - (8 : Int32).toInt64) = 0 := by
        have e := in_un (x - 33554432) (lo := 49144) (hi := 49144) (by decide) (by decide)
        rw [if_neg] at e
        · exact e
        · rw [un_sub, show un 33554432 = 33554432 from rfl]
          omega
      have w1 : ¬ x &&& -8 = 33570816 := by
        intro q
        have w2 := (un_lit 33570816 (by decide)).mp q
        rw [un_hi8] at w2
        omega
      have w2 : ¬ x &&& -8 = 33603576 := by
        intro q
        have w2 := (un_lit 33603576 (by decide)).mp q
        rw [un_hi8] at w2
        omega
      refine ⟨?_, ?_⟩
      · show f_X12_isThere x 8 u = 0
        unfold f_X12_isThere f_X12_isThere_b29 f_X12_isThere_b41 f_X12_isThere_b77 f_X12_isThere_b110 f_X12_isThere_b134
        rw [if_pos (show f_X12_isRam x 8 u = 0 from h2), if_neg (by decide), if_pos rfl]
        by_cases z : x - 33554432 = 0
        · rw [if_pos z, if_neg (by decide), if_pos i1, if_pos i2, if_neg (by decide), if_neg (by decide)]
        · rw [if_neg z, if_pos i1, if_pos i2, if_neg (by decide), if_neg (by decide)]
      · show f_X1_write x 8 v a = _
        unfold f_X1_write f_X1_write_b103 f_X1_write_b138 f_X1_write_b162 f_X1_write_b197 f_X1_write_b232
        rw [if_pos (show f_X10_place x 8 (sI a 3 0) = -1 from h1'), if_neg (by decide), if_neg (by decide), if_neg (by decide), if_neg (by decide), if_neg w1, if_neg (by decide), if_neg w2]
  · right
    have hal : i % m = 0 := by
      rw [ex, un_lN] at hx
      rcases hm with rfl | rfl | rfl | rfl <;> omega
    obtain ⟨A, g, U, e1, e2, e3, e4, e5, e6, e7, e8, -⟩ := wr_ram h hN hm hi hal ex hx2 h1 h2 v
    refine ⟨by unfold f_X12_isThere; rw [h2, if_neg n10], A, 0, U, e1, e6, e3, e5, bud_le e7, e8, ?_⟩
    rcases e4 with rfl | rfl
    · exact ⟨rfl, rfl, rfl, rfl, rfl, rfl, rfl⟩
    · exact ⟨rfl, rfl, rfl, rfl, rfl, rfl, rfl⟩
theorem rel_there {a u : St} (h : Rel a u) {m : Nat} (hm : wid m) (x : Int64) (hx : un x % m = 0) : f_X12_isThere x (nI m) u = 0 ∨ f_X12_isThere x (nI m) u = 1 := by
  rcases rel_bread h hm x hx with q | q
  · exact Or.inl q.1
  · exact Or.inr q.1

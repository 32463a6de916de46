theorem in_un (d : Int64) {lo hi : Nat} (h1 : lo < 9223372036854775808) (h2 : hi < 9223372036854775808) : f_X12_in d (lN lo) (lN hi) = if lo ≤ un d ∧ un d ≤ hi then 1 else 0 := by
  unfold f_X12_in f_X12_in_b17
  have hd := un_lt d
  by_cases c1 : d < lN lo
  · rw [if_pos c1]
    rw [Int64.lt_iff_toInt_lt, pk_lT h1, un_toInt] at c1
    rw [if_neg]
    intro q
    split at c1 <;> omega
  · rw [if_neg c1]
    rw [Int64.lt_iff_toInt_lt, pk_lT h1, un_toInt] at c1
    by_cases c2 : lN hi < d
    · rw [if_pos c2]
      rw [Int64.lt_iff_toInt_lt, pk_lT h2, un_toInt] at c2
      rw [if_neg]
      intro q
      split at c2 <;> omega
    · rw [if_neg c2]
      rw [Int64.lt_iff_toInt_lt, pk_lT h2, un_toInt] at c2
      rw [if_pos]
      split at c1 <;> split at c2 <;> omega
theorem lt_un (d : Int64) {n : Nat} (h1 : n < 9223372036854775808) : d < lN n ↔ 9223372036854775808 ≤ un d ∨ un d < n := by
  rw [Int64.lt_iff_toInt_lt, pk_lT h1, un_toInt]
  have hd := un_lt d
  split <;> omega
theorem gt_un (d : Int64) {n : Nat} (h1 : n < 9223372036854775808) : lN n < d ↔ n < un d ∧ un d < 9223372036854775808 := by
  rw [Int64.lt_iff_toInt_lt, pk_lT h1, un_toInt]
  have hd := un_lt d
  split <;> omega
theorem Rel.s3 {a u : St} (h : Rel a u) (c : Int32) : Rel (sI a 3 c) u := by
  obtain ⟨P, h⟩ := h
  exact ⟨P, h⟩
def low (m : Nat) (v : Int64) : Int64 := if m = 8 then v else v &&& lN (2 ^ (8 * m) - 1)
def KpC (a b : St) : Prop := gL b = gL a ∧ gB b = gB a ∧ gN b = gN a ∧ gI b 16 = gI a 16 ∧ gI b 17 = gI a 17 ∧ gI b 18 = gI a 18
def KpM (a b : St) : Prop := gL b = gL a ∧ gB b = gB a ∧ gI b 0 = gI a 0 ∧ gI b 16 = gI a 16 ∧ gI b 17 = gI a 17
theorem lw4 {x : Int32} (hx : x &&& 255 = x) : low 4 x.toInt64 = x.toInt64 := by
  rw [← hx]
  show (x &&& 255).toInt64 &&& 4294967295 = _
  refine qb_ext (al_64 ?_)
  simp [qb_or, qb_and, qb_xor, qt_or, qt_and, qt_xor, qb_lit, qt_lit, qb_m1, qt_m1, qb_not, qt_not, qbn_2, qbn_3, qbn_4, qbn_8, qbn_6145, qbn_786723, qb_ofI, qt_ofL, sh6_lit, sh5_lit, qb_shl, qb_sshr, qb_ushr, qt_shl, qt_sshr, qt_ushr, Nat.testBit_eq_decide_div_mod_eq, qt_big, qb_big, qt_s31, qt_l31]
theorem lw1 {x : Int32} (hx : x &&& 255 = x) : low 1 x.toInt64 = x.toInt64 := by
  rw [← hx]
  show (x &&& 255).toInt64 &&& 255 = _
  refine qb_ext (al_64 ?_)
  simp [qb_or, qb_and, qb_xor, qt_or, qt_and, qt_xor, qb_lit, qt_lit, qb_m1, qt_m1, qb_not, qt_not, qbn_2, qbn_3, qbn_4, qbn_8, qbn_6145, qbn_786723, qb_ofI, qt_ofL, sh6_lit, sh5_lit, qb_shl, qb_sshr, qb_ushr, qt_shl, qt_sshr, qt_ushr, Nat.testBit_eq_decide_div_mod_eq, qt_big, qb_big, qt_s31, qt_l31]
theorem w7_255 {x : Int32} (hx : x &&& 7 = x) : x &&& 255 = x := by
  rw [← hx]
  refine qt_ext (al_32 ?_)
  simp [qb_or, qb_and, qb_xor, qt_or, qt_and, qt_xor, qb_lit, qt_lit, qb_m1, qt_m1, qb_not, qt_not, qbn_2, qbn_3, qbn_4, qbn_8, qbn_6145, qbn_786723, qb_ofI, qt_ofL, sh6_lit, sh5_lit, qb_shl, qb_sshr, qb_ushr, qt_shl, qt_sshr, qt_ushr, Nat.testBit_eq_decide_div_mod_eq, qt_big, qb_big, qt_s31, qt_l31]
theorem ush0 (x : Int64) : j_lushr x 0 = x := by
  refine qb_ext (al_64 ?_)
  simp [qb_or, qb_and, qb_xor, qt_or, qt_and, qt_xor, qb_lit, qt_lit, qb_m1, qt_m1, qb_not, qt_not, qbn_2, qbn_3, qbn_4, qbn_8, qbn_6145, qbn_786723, qb_ofI, qt_ofL, sh6_lit, sh5_lit, qb_shl, qb_sshr, qb_ushr, qt_shl, qt_sshr, qt_ushr, Nat.testBit_eq_decide_div_mod_eq, qt_big, qb_big, qt_s31, qt_l31]
theorem pl_list (d : Int64) (h4 : un d % 4 = 0) : d ∈ ([4, 8, 12, 16, 20, 24, 28, 4096, 8192, 8320, 2097152, 2101248, 2097156, 2101252] : List Int64) ∨ (f_X12_placeOf d = 0 ∧ f_X3_has d = 0) := by
  by_cases hm : d ∈ ([4, 8, 12, 16, 20, 24, 28, 4096, 8192, 8320, 2097152, 2101248, 2097156, 2101252] : List Int64)
  · exact Or.inl hm
  · right
    have k4 : ¬ un d = 4 := fun q => hm (by rw [(un_lit 4 (by decide)).mpr q]; decide)
    have k8 : ¬ un d = 8 := fun q => hm (by rw [(un_lit 8 (by decide)).mpr q]; decide)
    have k12 : ¬ un d = 12 := fun q => hm (by rw [(un_lit 12 (by decide)).mpr q]; decide)
    have k16 : ¬ un d = 16 := fun q => hm (by rw [(un_lit 16 (by decide)).mpr q]; decide)
    have k20 : ¬ un d = 20 := fun q => hm (by rw [(un_lit 20 (by decide)).mpr q]; decide)
    have k24 : ¬ un d = 24 := fun q => hm (by rw [(un_lit 24 (by decide)).mpr q]; decide)
    have k28 : ¬ un d = 28 := fun q => hm (by rw [(un_lit 28 (by decide)).mpr q]; decide)
    have k4096 : ¬ un d = 4096 := fun q => hm (by rw [(un_lit 4096 (by decide)).mpr q]; decide)
    have k8192 : ¬ un d = 8192 := fun q => hm (by rw [(un_lit 8192 (by decide)).mpr q]; decide)
    have k8320 : ¬ un d = 8320 := fun q => hm (by rw [(un_lit 8320 (by decide)).mpr q]; decide)
    have k2097152 : ¬ un d = 2097152 := fun q => hm (by rw [(un_lit 2097152 (by decide)).mpr q]; decide)
    have k2101248 : ¬ un d = 2101248 := fun q => hm (by rw [(un_lit 2101248 (by decide)).mpr q]; decide)
    have k2097156 : ¬ un d = 2097156 := fun q => hm (by rw [(un_lit 2097156 (by decide)).mpr q]; decide)
    have k2101252 : ¬ un d = 2101252 := fun q => hm (by rw [(un_lit 2101252 (by decide)).mpr q]; decide)
    have a4 := (al_rem d (m := 4) (Or.inr (Or.inr (Or.inl rfl)))).mpr h4
    rw [show (nI 4).toInt64 = 4 by decide] at a4
    have i4 : f_X12_in d 4 28 = 0 := by
      have e := in_un d (lo := 4) (hi := 28) (by decide) (by decide)
      rw [if_neg (by omega)] at e
      exact e
    have e4096 : ¬ d = 4096 := fun q => k4096 ((un_lit 4096 (by decide)).mp q)
    have e8192 : ¬ d = 8192 := fun q => k8192 ((un_lit 8192 (by decide)).mp q)
    have e8320 : ¬ d = 8320 := fun q => k8320 ((un_lit 8320 (by decide)).mp q)
    have e2097152 : ¬ d = 2097152 := fun q => k2097152 ((un_lit 2097152 (by decide)).mp q)
    have e2101248 : ¬ d = 2101248 := fun q => k2101248 ((un_lit 2101248 (by decide)).mp q)
    have e2097156 : ¬ d = 2097156 := fun q => k2097156 ((un_lit 2097156 (by decide)).mp q)
    have e2101252 : ¬ d = 2101252 := fun q => k2101252 ((un_lit 2101252 (by decide)).mp q)
    refine ⟨?_, ?_⟩
    · unfold f_X12_placeOf
      rw [if_pos a4, if_pos i4, if_neg e4096, if_neg e8192, if_neg e8320, if_neg e2097152, if_neg e2101248, if_neg e2097156, if_neg e2101252]
    · unfold f_X3_has f_X3_has_b82 f_X3_has_b86
      rw [if_neg e4096, if_neg e8192, if_neg e8320, if_neg e2097152, if_neg e2101248, if_neg e2097156, if_neg e2101252]
      by_cases q1 : d < 4
      · rw [if_pos q1]
      · rw [if_neg q1]
        by_cases q2 : 28 < d
        · rw [if_pos q2]
        · exfalso
          have r1 := mt (lt_un d (n := 4) (by decide)).mpr q1
          have r2 := mt (gt_un d (n := 28) (by decide)).mpr q2
          have hd := un_lt d
          omega
def cA (r : Nat) (a : St) : St := if r = 0 then a else sI (sI a 7 ((gI a 7) &&& (((1 : Int32) <<< (nI r &&& 31)) ^^^ (-1 : Int32)))) 8 ((gI a 8) ||| ((1 : Int32) <<< (nI r &&& 31)))
def cM (r : Nat) (u : St) : St := if r = 0 then u else sI (sI u 5 ((gI u 5) &&& (((1 : Int32) <<< (nI r &&& 31)) ^^^ (-1 : Int32)))) 6 ((gI u 6) ||| ((1 : Int32) <<< (nI r &&& 31)))
theorem nI_7l {s : Nat} (h : s < 8) : ¬ (7 : Int32) < nI s := nI_nlt (a := 7) (by omega) (by omega)
theorem clL (a u : St) (c : Int32) (n2 : gN a 2 = 8) (m2 : gN u 2 = 8) (hc3 : inB c (gN u 3)) (i5 : gI u 5 = gI a 7) (e1 : gA u 1 = gA a 1) (e2 : gA u 2 = gA a 2) : ∀ d, d ≤ 7 → ∀ n m, d < n → d < m → ∀ b : Nat, ∀ most : Int32, b < 8 → ((b = 0 ∧ most = 0) ∨ (b ≠ 0 ∧ most = gA a 1 b ∧ 0 < most)) → ∃ r, r < 8 ∧ f_X3_claim_b7 n (gA a 2 c.toNatClampNeg) (nI b) most (nI (8 - d)) a = some (nI r, cA r a) ∧ f_X12_claim_b4 m c (nI b) (nI (8 - d)) u = some (nI r, cM r u) := by
  intro d
  induction d with
  | zero =>
    intro _ n m hn hm b most hb hs
    obtain ⟨n, rfl⟩ : ∃ k, n = k + 1 := ⟨n - 1, by omega⟩
    obtain ⟨m, rfl⟩ : ∃ k, m = k + 1 := ⟨m - 1, by omega⟩
    refine ⟨b, hb, ?_, ?_⟩
    · show f_X3_claim_b7_s _ _ _ _ _ _ = _
      unfold f_X3_claim_b7_s f_X3_claim_b86 cA
      rw [if_pos (by decide)]
      by_cases h0 : b = 0
      · subst h0; rfl
      · rw [if_neg (nI_ne0 (by omega) (by omega)), if_neg h0]; rfl
    · show f_X12_claim_b4_s _ _ _ _ _ = _
      unfold f_X12_claim_b4_s cM
      rw [if_pos (by decide)]
      by_cases h0 : b = 0
      · subst h0; rfl
      · rw [if_neg (nI_ne0 (by omega) (by omega)), if_neg h0]; rfl
  | succ d ih =>
    intro hd n m hn hm b most hb hs
    obtain ⟨n, rfl⟩ : ∃ k, n = k + 1 := ⟨n - 1, by omega⟩
    obtain ⟨m, rfl⟩ : ∃ k, m = k + 1 := ⟨m - 1, by omega⟩
    have hnx : nI (8 - (d + 1)) + 1 = nI (8 - d) := by rw [nI_1, show 8 - (d + 1) + 1 = 8 - d by omega]
    have hs8 : 8 - (d + 1) < 8 := by omega
    have hs0 : 8 - (d + 1) ≠ 0 := by omega
    generalize hq : 8 - (d + 1) = s at *
    have IH := ih (by omega) n m (by omega) (by omega)
    have hi2 : inB (nI s) (gN a 2) := in_d hs8 (by omega) n2
    have hi2u : inB (nI s) (gN u 2) := in_d hs8 (by omega) m2
    have hb2u : inB (nI b) (gN u 2) := in_d hb (by omega) m2
    show ∃ r, r < 8 ∧ f_X3_claim_b7_s _ _ _ _ _ _ = _ ∧ f_X12_claim_b4_s _ _ _ _ _ = _
    unfold f_X3_claim_b7_s f_X12_claim_b4_s f_X3_claim_b50 f_X12_claim_b57 f_X12_claim_b59
    rw [if_neg (nI_7l hs8), if_neg (nI8 hs8), if_pos hc3, i5, e2, hnx]
    rcases and1 ((gI a 7 &&& gA a 2 c.toNatClampNeg) >>> (nI s &&& 31)) with z | z
    · rw [z, if_pos rfl, if_neg n01]
      exact IH b most hb hs
    · have g1 : gA a 1 (nI s).toNatClampNeg = gA a 1 s := by rw [nI_clamp (by omega)]
      have g2 : gA a 1 (nI b).toNatClampNeg = gA a 1 b := by rw [nI_clamp (by omega)]
      rw [z, if_neg n10, if_pos rfl, if_pos hi2, if_pos hi2u, e1, g1, g2]
      rcases hs with ⟨q1, q2⟩ | ⟨q1, q2, q3⟩
      · subst q1 q2
        by_cases p : gA a 1 s ≤ 0
        · rw [if_pos p, if_pos p]
          exact IH 0 0 (by omega) (Or.inl ⟨rfl, rfl⟩)
        · rw [if_neg p, if_neg p, if_pos hi2, if_pos nI_0]
          exact IH s (gA a 1 s) hs8 (Or.inr ⟨hs0, rfl, Int32.not_le.mp p⟩)
      · by_cases p : gA a 1 s ≤ most
        · rw [if_pos p]
          by_cases p2 : gA a 1 s ≤ 0
          · rw [if_pos p2]
            exact IH b most hb (Or.inr ⟨q1, q2, q3⟩)
          · rw [if_neg p2, if_neg (nI_ne0 (by omega) (by omega)), if_pos hi2u, if_pos hb2u, ← q2, if_pos p]
            exact IH b most hb (Or.inr ⟨q1, q2, q3⟩)
        · have p2 : ¬ gA a 1 s ≤ 0 := fun q => p (Int32.le_trans q (Int32.le_of_lt q3))
          rw [if_neg p, if_pos hi2, if_neg p2, if_neg (nI_ne0 (by omega) (by omega)), if_pos hi2u, if_pos hb2u, ← q2, if_neg p]
          exact IH s (gA a 1 s) hs8 (Or.inr ⟨hs0, rfl, Int32.lt_trans q3 (Int32.not_le.mp p)⟩)
theorem w_and (p m : Int32) (h1 : p &&& 255 = p) : (p &&& m) &&& 255 = p &&& m := by
  rw [Int32.and_assoc, Int32.and_comm m, ← Int32.and_assoc, h1]
theorem Rel.claim {a u : St} (h : Rel a u) (r : Nat) : Rel (cA r a) (cM r u) := by
  unfold cA cM
  by_cases h0 : r = 0
  · rw [if_pos h0, if_pos h0]
    exact h
  · rw [if_neg h0, if_neg h0]
    have i5 : gI u 5 = gI a 7 := h.ints.2.2.1
    have i6 : gI u 6 = gI a 8 := h.ints.2.2.2.1
    rw [i5, i6]
    exact (h.I7 _ (w_and _ _ h.inv.2.1)).I8 _
theorem rel_claim {a u : St} (h : Rel a u) (c : Int32) (hc : c = 0 ∨ c = 1) : ∃ r, r < 8 ∧ f_X3_claim (gA a 2 c.toNatClampNeg) a = some (nI r, cA r a) ∧ f_X12_claim c u = some (nI r, cM r u) := by
  obtain ⟨P, hN, -⟩ := h.lens
  obtain ⟨-, -, -, -, -, n2, n3, n4, -, -, -, m2, m3, m4, -⟩ := hN
  obtain ⟨r1, r2, r3, -⟩ := h.rows
  have hc3 : inB c (gN u 3) := by
    rw [m3]
    rcases hc with rfl | rfl
    · exact in_d (s := 0) (N := 2) (by omega) (by omega) rfl
    · exact in_d (s := 1) (N := 2) (by omega) (by omega) rfl
  exact clL a u c n2 m2 hc3 h.ints.2.2.1 r1 r2 7 (by omega) FU FU (by unfold FU; omega) (by unfold FU; omega) 0 0 (by omega) (Or.inl ⟨rfl, rfl⟩)
def RdOK (a u : St) (m : Nat) (x : Int64) : Prop := f_X12_isThere x (nI m) u = 1 ∧ ∃ v v' a' u', f_X1_read x (nI m) a = some (v, a') ∧ gI a' 3 = 0 ∧ f_X12_readAt x (nI m) u = some (v', u') ∧ v = low m v' ∧ Rel a' u' ∧ KpC a a' ∧ KpM u u'
theorem kC3 (a : St) (c : Int32) : KpC a (sI a 3 c) := ⟨rfl, rfl, rfl, rfl, rfl, rfl⟩
theorem kM0 (a : St) : KpM a a := ⟨rfl, rfl, rfl, rfl, rfl⟩
theorem RdOK.plain {a u : St} (h : Rel a u) {m : Nat} {x v v' : Int64} (t : f_X12_isThere x (nI m) u = 1) (e1 : f_X1_read x (nI m) a = some (v, sI a 3 0)) (e2 : f_X12_readAt x (nI m) u = some (v', u)) (hv : v = low m v') : RdOK a u m x :=
  ⟨t, v, v', sI a 3 0, u, e1, rfl, e2, hv, h.s3 0, kC3 a 0, kM0 u⟩
theorem in20 : inB (0 : Int32) 2 := in_d (s := 0) (N := 2) (by omega) (by omega) rfl
theorem in21 : inB (1 : Int32) 2 := in_d (s := 1) (N := 2) (by omega) (by omega) rfl
theorem in8 {k : Nat} (hk : k < 8) : inB (nI k) 8 := in_d (s := k) (N := 8) hk (by omega) rfl
theorem rb4_33554432 {a u : St} (h : Rel a u) (hC : f_X10_place 33554432 4 (sI a 3 0) = -1) (hM : f_X12_isRam 33554432 4 u = 0) : RdOK a u 4 33554432 := by
  obtain ⟨P, hN, -⟩ := h.lens
  obtain ⟨-, -, -, -, -, n2, n3, n4, -, -, -, m2, m3, m4, -⟩ := hN
  obtain ⟨r1, r2, r3, -⟩ := h.rows
  obtain ⟨w1, w2, w3, w4, w5, w6⟩ := h.inv.2
  refine RdOK.plain h (v := gL a 0) (v' := (gI u 4).toInt64) ?_ ?_ ?_ ?_
  · show f_X12_isThere 33554432 4 u = 1
    unfold f_X12_isThere
    rw [if_pos hM]
    rfl
  · show f_X1_read 33554432 4 a = _
    unfold f_X1_read
    rw [if_pos hC]
    rfl
  · show f_X12_readAt 33554432 4 u = _
    unfold f_X12_readAt
    rw [if_pos hM]
    rfl
  · obtain ⟨P2, -, -, hS, -⟩ := h
    rw [hS.1]
    refine (lw4 ?_).symm
    rcases hS.2.1 with q | q <;> rw [q] <;> rfl
theorem rb4_33570816 {a u : St} (h : Rel a u) (hC : f_X10_place 33570816 4 (sI a 3 0) = -1) (hM : f_X12_isRam 33570816 4 u = 0) : RdOK a u 4 33570816 := by
  obtain ⟨P, hN, -⟩ := h.lens
  obtain ⟨-, -, -, -, -, n2, n3, n4, -, -, -, m2, m3, m4, -⟩ := hN
  obtain ⟨r1, r2, r3, -⟩ := h.rows
  obtain ⟨w1, w2, w3, w4, w5, w6⟩ := h.inv.2
  refine RdOK.plain h (v := j_lushr (gL a 1) 0 &&& 4294967295) (v' := j_lushr (gL u 2) 0) ?_ ?_ ?_ ?_
  · show f_X12_isThere 33570816 4 u = 1
    unfold f_X12_isThere
    rw [if_pos hM]
    rfl
  · show f_X1_read 33570816 4 a = _
    unfold f_X1_read
    rw [if_pos hC]
    rfl
  · show f_X12_readAt 33570816 4 u = _
    unfold f_X12_readAt
    rw [if_pos hM]
    rfl
  · have e : gL u 2 = gL a 1 := h.longs.1
    rw [e]
    rfl
theorem rb4_33570820 {a u : St} (h : Rel a u) (hC : f_X10_place 33570820 4 (sI a 3 0) = -1) (hM : f_X12_isRam 33570820 4 u = 0) : RdOK a u 4 33570820 := by
  obtain ⟨P, hN, -⟩ := h.lens
  obtain ⟨-, -, -, -, -, n2, n3, n4, -, -, -, m2, m3, m4, -⟩ := hN
  obtain ⟨r1, r2, r3, -⟩ := h.rows
  obtain ⟨w1, w2, w3, w4, w5, w6⟩ := h.inv.2
  refine RdOK.plain h (v := j_lushr (gL a 1) 32 &&& 4294967295) (v' := j_lushr (gL u 2) 32) ?_ ?_ ?_ ?_
  · show f_X12_isThere 33570820 4 u = 1
    unfold f_X12_isThere
    rw [if_pos hM]
    rfl
  · show f_X1_read 33570820 4 a = _
    unfold f_X1_read
    rw [if_pos hC]
    rfl
  · show f_X12_readAt 33570820 4 u = _
    unfold f_X12_readAt
    rw [if_pos hM]
    rfl
  · have e : gL u 2 = gL a 1 := h.longs.1
    rw [e]
    rfl
theorem rb8_33570816 {a u : St} (h : Rel a u) (hC : f_X10_place 33570816 8 (sI a 3 0) = -1) (hM : f_X12_isRam 33570816 8 u = 0) : RdOK a u 8 33570816 := by
  obtain ⟨P, hN, -⟩ := h.lens
  obtain ⟨-, -, -, -, -, n2, n3, n4, -, -, -, m2, m3, m4, -⟩ := hN
  obtain ⟨r1, r2, r3, -⟩ := h.rows
  obtain ⟨w1, w2, w3, w4, w5, w6⟩ := h.inv.2
  refine RdOK.plain h (v := gL a 1) (v' := j_lushr (gL u 2) 0) ?_ ?_ ?_ ?_
  · show f_X12_isThere 33570816 8 u = 1
    unfold f_X12_isThere
    rw [if_pos hM]
    rfl
  · show f_X1_read 33570816 8 a = _
    unfold f_X1_read
    rw [if_pos hC]
    rfl
  · show f_X12_readAt 33570816 8 u = _
    unfold f_X12_readAt
    rw [if_pos hM]
    rfl
  · have e : gL u 2 = gL a 1 := h.longs.1
    rw [e, ush0]
    rfl
theorem rb4_33603576 {a u : St} (h : Rel a u) (hC : f_X10_place 33603576 4 (sI a 3 0) = -1) (hM : f_X12_isRam 33603576 4 u = 0) : RdOK a u 4 33603576 := by
  obtain ⟨P, hN, -⟩ := h.lens
  obtain ⟨-, -, -, -, -, n2, n3, n4, -, -, -, m2, m3, m4, -⟩ := hN
  obtain ⟨r1, r2, r3, -⟩ := h.rows
  obtain ⟨w1, w2, w3, w4, w5, w6⟩ := h.inv.2
  refine RdOK.plain h (v := j_lushr (gL a 2) 0 &&& 4294967295) (v' := j_lushr (gL u 3) 0) ?_ ?_ ?_ ?_
  · show f_X12_isThere 33603576 4 u = 1
    unfold f_X12_isThere
    rw [if_pos hM]
    rfl
  · show f_X1_read 33603576 4 a = _
    unfold f_X1_read
    rw [if_pos hC]
    rfl
  · show f_X12_readAt 33603576 4 u = _
    unfold f_X12_readAt
    rw [if_pos hM]
    rfl
  · have e : gL u 3 = gL a 2 := h.longs.2.1
    rw [e]
    rfl
theorem rb4_33603580 {a u : St} (h : Rel a u) (hC : f_X10_place 33603580 4 (sI a 3 0) = -1) (hM : f_X12_isRam 33603580 4 u = 0) : RdOK a u 4 33603580 := by
  obtain ⟨P, hN, -⟩ := h.lens
  obtain ⟨-, -, -, -, -, n2, n3, n4, -, -, -, m2, m3, m4, -⟩ := hN
  obtain ⟨r1, r2, r3, -⟩ := h.rows
  obtain ⟨w1, w2, w3, w4, w5, w6⟩ := h.inv.2
  refine RdOK.plain h (v := j_lushr (gL a 2) 32 &&& 4294967295) (v' := j_lushr (gL u 3) 32) ?_ ?_ ?_ ?_
  · show f_X12_isThere 33603580 4 u = 1
    unfold f_X12_isThere
    rw [if_pos hM]
    rfl
  · show f_X1_read 33603580 4 a = _
    unfold f_X1_read
    rw [if_pos hC]
    rfl
  · show f_X12_readAt 33603580 4 u = _
    unfold f_X12_readAt
    rw [if_pos hM]
    rfl
  · have e : gL u 3 = gL a 2 := h.longs.2.1
    rw [e]
    rfl
theorem rb8_33603576 {a u : St} (h : Rel a u) (hC : f_X10_place 33603576 8 (sI a 3 0) = -1) (hM : f_X12_isRam 33603576 8 u = 0) : RdOK a u 8 33603576 := by
  obtain ⟨P, hN, -⟩ := h.lens
  obtain ⟨-, -, -, -, -, n2, n3, n4, -, -, -, m2, m3, m4, -⟩ := hN
  obtain ⟨r1, r2, r3, -⟩ := h.rows
  obtain ⟨w1, w2, w3, w4, w5, w6⟩ := h.inv.2
  refine RdOK.plain h (v := gL a 2) (v' := j_lushr (gL u 3) 0) ?_ ?_ ?_ ?_
  · show f_X12_isThere 33603576 8 u = 1
    unfold f_X12_isThere
    rw [if_pos hM]
    rfl
  · show f_X1_read 33603576 8 a = _
    unfold f_X1_read
    rw [if_pos hC]
    rfl
  · show f_X12_readAt 33603576 8 u = _
    unfold f_X12_readAt
    rw [if_pos hM]
    rfl
  · have e : gL u 3 = gL a 2 := h.longs.2.1
    rw [e, ush0]
    rfl
theorem rb4_201326596 {a u : St} (h : Rel a u) (hC : f_X10_place 201326596 4 (sI a 3 0) = -1) (hM : f_X12_isRam 201326596 4 u = 0) : RdOK a u 4 201326596 := by
  obtain ⟨P, hN, -⟩ := h.lens
  obtain ⟨-, -, -, -, -, n2, n3, n4, -, -, -, m2, m3, m4, -⟩ := hN
  obtain ⟨r1, r2, r3, -⟩ := h.rows
  obtain ⟨w1, w2, w3, w4, w5, w6⟩ := h.inv.2
  refine RdOK.plain h (v := (gA a 1 1).toInt64) (v' := (gA u 1 1).toInt64) ?_ ?_ ?_ ?_
  · show f_X12_isThere 201326596 4 u = 1
    unfold f_X12_isThere
    rw [if_pos hM]
    rfl
  · show f_X1_read 201326596 4 a = _
    unfold f_X1_read
    rw [if_pos hC]
    show (if inB (nI 1) (gN a 2) then some ((gA a 1 (nI 1).toNatClampNeg).toInt64, sI a 3 0) else none).bind _ = _
    rw [n2, if_pos (in8 (by omega)), nI_clamp (by omega)]
    rfl
  · show f_X12_readAt 201326596 4 u = _
    unfold f_X12_readAt
    rw [if_pos hM]
    show (if inB (nI 1) (gN u 2) then some ((gA u 1 (nI 1).toNatClampNeg).toInt64, u) else none) = _
    rw [m2, if_pos (in8 (by omega)), nI_clamp (by omega)]
  · rw [r1]
    exact (lw4 (w7_255 (w6 1))).symm
theorem rb4_201326600 {a u : St} (h : Rel a u) (hC : f_X10_place 201326600 4 (sI a 3 0) = -1) (hM : f_X12_isRam 201326600 4 u = 0) : RdOK a u 4 201326600 := by
  obtain ⟨P, hN, -⟩ := h.lens
  obtain ⟨-, -, -, -, -, n2, n3, n4, -, -, -, m2, m3, m4, -⟩ := hN
  obtain ⟨r1, r2, r3, -⟩ := h.rows
  obtain ⟨w1, w2, w3, w4, w5, w6⟩ := h.inv.2
  refine RdOK.plain h (v := (gA a 1 2).toInt64) (v' := (gA u 1 2).toInt64) ?_ ?_ ?_ ?_
  · show f_X12_isThere 201326600 4 u = 1
    unfold f_X12_isThere
    rw [if_pos hM]
    rfl
  · show f_X1_read 201326600 4 a = _
    unfold f_X1_read
    rw [if_pos hC]
    show (if inB (nI 2) (gN a 2) then some ((gA a 1 (nI 2).toNatClampNeg).toInt64, sI a 3 0) else none).bind _ = _
    rw [n2, if_pos (in8 (by omega)), nI_clamp (by omega)]
    rfl
  · show f_X12_readAt 201326600 4 u = _
    unfold f_X12_readAt
    rw [if_pos hM]
    show (if inB (nI 2) (gN u 2) then some ((gA u 1 (nI 2).toNatClampNeg).toInt64, u) else none) = _
    rw [m2, if_pos (in8 (by omega)), nI_clamp (by omega)]
  · rw [r1]
    exact (lw4 (w7_255 (w6 2))).symm
theorem rb4_201326604 {a u : St} (h : Rel a u) (hC : f_X10_place 201326604 4 (sI a 3 0) = -1) (hM : f_X12_isRam 201326604 4 u = 0) : RdOK a u 4 201326604 := by
  obtain ⟨P, hN, -⟩ := h.lens
  obtain ⟨-, -, -, -, -, n2, n3, n4, -, -, -, m2, m3, m4, -⟩ := hN
  obtain ⟨r1, r2, r3, -⟩ := h.rows
  obtain ⟨w1, w2, w3, w4, w5, w6⟩ := h.inv.2
  refine RdOK.plain h (v := (gA a 1 3).toInt64) (v' := (gA u 1 3).toInt64) ?_ ?_ ?_ ?_
  · show f_X12_isThere 201326604 4 u = 1
    unfold f_X12_isThere
    rw [if_pos hM]
    rfl
  · show f_X1_read 201326604 4 a = _
    unfold f_X1_read
    rw [if_pos hC]
    show (if inB (nI 3) (gN a 2) then some ((gA a 1 (nI 3).toNatClampNeg).toInt64, sI a 3 0) else none).bind _ = _
    rw [n2, if_pos (in8 (by omega)), nI_clamp (by omega)]
    rfl
  · show f_X12_readAt 201326604 4 u = _
    unfold f_X12_readAt
    rw [if_pos hM]
    show (if inB (nI 3) (gN u 2) then some ((gA u 1 (nI 3).toNatClampNeg).toInt64, u) else none) = _
    rw [m2, if_pos (in8 (by omega)), nI_clamp (by omega)]
  · rw [r1]
    exact (lw4 (w7_255 (w6 3))).symm
theorem rb4_201326608 {a u : St} (h : Rel a u) (hC : f_X10_place 201326608 4 (sI a 3 0) = -1) (hM : f_X12_isRam 201326608 4 u = 0) : RdOK a u 4 201326608 := by
  obtain ⟨P, hN, -⟩ := h.lens
  obtain ⟨-, -, -, -, -, n2, n3, n4, -, -, -, m2, m3, m4, -⟩ := hN
  obtain ⟨r1, r2, r3, -⟩ := h.rows
  obtain ⟨w1, w2, w3, w4, w5, w6⟩ := h.inv.2
  refine RdOK.plain h (v := (gA a 1 4).toInt64) (v' := (gA u 1 4).toInt64) ?_ ?_ ?_ ?_
  · show f_X12_isThere 201326608 4 u = 1
    unfold f_X12_isThere
    rw [if_pos hM]
    rfl
  · show f_X1_read 201326608 4 a = _
    unfold f_X1_read
    rw [if_pos hC]
    show (if inB (nI 4) (gN a 2) then some ((gA a 1 (nI 4).toNatClampNeg).toInt64, sI a 3 0) else none).bind _ = _
    rw [n2, if_pos (in8 (by omega)), nI_clamp (by omega)]
    rfl
  · show f_X12_readAt 201326608 4 u = _
    unfold f_X12_readAt
    rw [if_pos hM]
    show (if inB (nI 4) (gN u 2) then some ((gA u 1 (nI 4).toNatClampNeg).toInt64, u) else none) = _
    rw [m2, if_pos (in8 (by omega)), nI_clamp (by omega)]
  · rw [r1]
    exact (lw4 (w7_255 (w6 4))).symm
theorem rb4_201326612 {a u : St} (h : Rel a u) (hC : f_X10_place 201326612 4 (sI a 3 0) = -1) (hM : f_X12_isRam 201326612 4 u = 0) : RdOK a u 4 201326612 := by
  obtain ⟨P, hN, -⟩ := h.lens
  obtain ⟨-, -, -, -, -, n2, n3, n4, -, -, -, m2, m3, m4, -⟩ := hN
  obtain ⟨r1, r2, r3, -⟩ := h.rows
  obtain ⟨w1, w2, w3, w4, w5, w6⟩ := h.inv.2
  refine RdOK.plain h (v := (gA a 1 5).toInt64) (v' := (gA u 1 5).toInt64) ?_ ?_ ?_ ?_
  · show f_X12_isThere 201326612 4 u = 1
    unfold f_X12_isThere
    rw [if_pos hM]
    rfl
  · show f_X1_read 201326612 4 a = _
    unfold f_X1_read
    rw [if_pos hC]
    show (if inB (nI 5) (gN a 2) then some ((gA a 1 (nI 5).toNatClampNeg).toInt64, sI a 3 0) else none).bind _ = _
    rw [n2, if_pos (in8 (by omega)), nI_clamp (by omega)]
    rfl
  · show f_X12_readAt 201326612 4 u = _
    unfold f_X12_readAt
    rw [if_pos hM]
    show (if inB (nI 5) (gN u 2) then some ((gA u 1 (nI 5).toNatClampNeg).toInt64, u) else none) = _
    rw [m2, if_pos (in8 (by omega)), nI_clamp (by omega)]
  · rw [r1]
    exact (lw4 (w7_255 (w6 5))).symm
theorem rb4_201326616 {a u : St} (h : Rel a u) (hC : f_X10_place 201326616 4 (sI a 3 0) = -1) (hM : f_X12_isRam 201326616 4 u = 0) : RdOK a u 4 201326616 := by
  obtain ⟨P, hN, -⟩ := h.lens
  obtain ⟨-, -, -, -, -, n2, n3, n4, -, -, -, m2, m3, m4, -⟩ := hN
  obtain ⟨r1, r2, r3, -⟩ := h.rows
  obtain ⟨w1, w2, w3, w4, w5, w6⟩ := h.inv.2
  refine RdOK.plain h (v := (gA a 1 6).toInt64) (v' := (gA u 1 6).toInt64) ?_ ?_ ?_ ?_
  · show f_X12_isThere 201326616 4 u = 1
    unfold f_X12_isThere
    rw [if_pos hM]
    rfl
  · show f_X1_read 201326616 4 a = _
    unfold f_X1_read
    rw [if_pos hC]
    show (if inB (nI 6) (gN a 2) then some ((gA a 1 (nI 6).toNatClampNeg).toInt64, sI a 3 0) else none).bind _ = _
    rw [n2, if_pos (in8 (by omega)), nI_clamp (by omega)]
    rfl
  · show f_X12_readAt 201326616 4 u = _
    unfold f_X12_readAt
    rw [if_pos hM]
    show (if inB (nI 6) (gN u 2) then some ((gA u 1 (nI 6).toNatClampNeg).toInt64, u) else none) = _
    rw [m2, if_pos (in8 (by omega)), nI_clamp (by omega)]
  · rw [r1]
    exact (lw4 (w7_255 (w6 6))).symm
theorem rb4_201326620 {a u : St} (h : Rel a u) (hC : f_X10_place 201326620 4 (sI a 3 0) = -1) (hM : f_X12_isRam 201326620 4 u = 0) : RdOK a u 4 201326620 := by
  obtain ⟨P, hN, -⟩ := h.lens
  obtain ⟨-, -, -, -, -, n2, n3, n4, -, -, -, m2, m3, m4, -⟩ := hN
  obtain ⟨r1, r2, r3, -⟩ := h.rows
  obtain ⟨w1, w2, w3, w4, w5, w6⟩ := h.inv.2
  refine RdOK.plain h (v := (gA a 1 7).toInt64) (v' := (gA u 1 7).toInt64) ?_ ?_ ?_ ?_
  · show f_X12_isThere 201326620 4 u = 1
    unfold f_X12_isThere
    rw [if_pos hM]
    rfl
  · show f_X1_read 201326620 4 a = _
    unfold f_X1_read
    rw [if_pos hC]
    show (if inB (nI 7) (gN a 2) then some ((gA a 1 (nI 7).toNatClampNeg).toInt64, sI a 3 0) else none).bind _ = _
    rw [n2, if_pos (in8 (by omega)), nI_clamp (by omega)]
    rfl
  · show f_X12_readAt 201326620 4 u = _
    unfold f_X12_readAt
    rw [if_pos hM]
    show (if inB (nI 7) (gN u 2) then some ((gA u 1 (nI 7).toNatClampNeg).toInt64, u) else none) = _
    rw [m2, if_pos (in8 (by omega)), nI_clamp (by omega)]
  · rw [r1]
    exact (lw4 (w7_255 (w6 7))).symm
theorem rb4_201330688 {a u : St} (h : Rel a u) (hC : f_X10_place 201330688 4 (sI a 3 0) = -1) (hM : f_X12_isRam 201330688 4 u = 0) : RdOK a u 4 201330688 := by
  obtain ⟨P, hN, -⟩ := h.lens
  obtain ⟨-, -, -, -, -, n2, n3, n4, -, -, -, m2, m3, m4, -⟩ := hN
  obtain ⟨r1, r2, r3, -⟩ := h.rows
  obtain ⟨w1, w2, w3, w4, w5, w6⟩ := h.inv.2
  refine RdOK.plain h (v := (gI a 7).toInt64) (v' := (gI u 5).toInt64) ?_ ?_ ?_ ?_
  · show f_X12_isThere 201330688 4 u = 1
    unfold f_X12_isThere
    rw [if_pos hM]
    rfl
  · show f_X1_read 201330688 4 a = _
    unfold f_X1_read
    rw [if_pos hC]
    rfl
  · show f_X12_readAt 201330688 4 u = _
    unfold f_X12_readAt
    rw [if_pos hM]
    rfl
  · have e : gI u 5 = gI a 7 := h.ints.2.2.1
    rw [e]
    exact (lw4 w1).symm
theorem rb4_201334784 {a u : St} (h : Rel a u) (hC : f_X10_place 201334784 4 (sI a 3 0) = -1) (hM : f_X12_isRam 201334784 4 u = 0) : RdOK a u 4 201334784 := by
  obtain ⟨P, hN, -⟩ := h.lens
  obtain ⟨-, -, -, -, -, n2, n3, n4, -, -, -, m2, m3, m4, -⟩ := hN
  obtain ⟨r1, r2, r3, -⟩ := h.rows
  obtain ⟨w1, w2, w3, w4, w5, w6⟩ := h.inv.2
  refine RdOK.plain h (v := (gA a 2 0).toInt64) (v' := (gA u 2 0).toInt64) ?_ ?_ ?_ ?_
  · show f_X12_isThere 201334784 4 u = 1
    unfold f_X12_isThere
    rw [if_pos hM]
    rfl
  · show f_X1_read 201334784 4 a = _
    unfold f_X1_read
    rw [if_pos hC]
    show (if inB (0 : Int32) (gN a 3) then some ((gA a 2 (nI 0).toNatClampNeg).toInt64, sI a 3 0) else none).bind _ = _
    rw [n3, if_pos in20, nI_clamp (by omega)]
    rfl
  · show f_X12_readAt 201334784 4 u = _
    unfold f_X12_readAt
    rw [if_pos hM]
    show (if inB (0 : Int32) (gN u 3) then some ((gA u 2 (nI 0).toNatClampNeg).toInt64, u) else none) = _
    rw [m3, if_pos in20, nI_clamp (by omega)]
  · rw [r2]
    exact (lw4 (w4 0)).symm
theorem rb4_201334912 {a u : St} (h : Rel a u) (hC : f_X10_place 201334912 4 (sI a 3 0) = -1) (hM : f_X12_isRam 201334912 4 u = 0) : RdOK a u 4 201334912 := by
  obtain ⟨P, hN, -⟩ := h.lens
  obtain ⟨-, -, -, -, -, n2, n3, n4, -, -, -, m2, m3, m4, -⟩ := hN
  obtain ⟨r1, r2, r3, -⟩ := h.rows
  obtain ⟨w1, w2, w3, w4, w5, w6⟩ := h.inv.2
  refine RdOK.plain h (v := (gA a 2 1).toInt64) (v' := (gA u 2 1).toInt64) ?_ ?_ ?_ ?_
  · show f_X12_isThere 201334912 4 u = 1
    unfold f_X12_isThere
    rw [if_pos hM]
    rfl
  · show f_X1_read 201334912 4 a = _
    unfold f_X1_read
    rw [if_pos hC]
    show (if inB (1 : Int32) (gN a 3) then some ((gA a 2 (nI 1).toNatClampNeg).toInt64, sI a 3 0) else none).bind _ = _
    rw [n3, if_pos in21, nI_clamp (by omega)]
    rfl
  · show f_X12_readAt 201334912 4 u = _
    unfold f_X12_readAt
    rw [if_pos hM]
    show (if inB (1 : Int32) (gN u 3) then some ((gA u 2 (nI 1).toNatClampNeg).toInt64, u) else none) = _
    rw [m3, if_pos in21, nI_clamp (by omega)]
  · rw [r2]
    exact (lw4 (w4 1)).symm
theorem rb4_203423744 {a u : St} (h : Rel a u) (hC : f_X10_place 203423744 4 (sI a 3 0) = -1) (hM : f_X12_isRam 203423744 4 u = 0) : RdOK a u 4 203423744 := by
  obtain ⟨P, hN, -⟩ := h.lens
  obtain ⟨-, -, -, -, -, n2, n3, n4, -, -, -, m2, m3, m4, -⟩ := hN
  obtain ⟨r1, r2, r3, -⟩ := h.rows
  obtain ⟨w1, w2, w3, w4, w5, w6⟩ := h.inv.2
  refine RdOK.plain h (v := (gA a 3 0).toInt64) (v' := (gA u 3 0).toInt64) ?_ ?_ ?_ ?_
  · show f_X12_isThere 203423744 4 u = 1
    unfold f_X12_isThere
    rw [if_pos hM]
    rfl
  · show f_X1_read 203423744 4 a = _
    unfold f_X1_read
    rw [if_pos hC]
    show (if inB (0 : Int32) (gN a 4) then some ((gA a 3 (nI 0).toNatClampNeg).toInt64, sI a 3 0) else none).bind _ = _
    rw [n4, if_pos in20, nI_clamp (by omega)]
    rfl
  · show f_X12_readAt 203423744 4 u = _
    unfold f_X12_readAt
    rw [if_pos hM]
    show (if inB (0 : Int32) (gN u 4) then some ((gA u 3 (nI 0).toNatClampNeg).toInt64, u) else none) = _
    rw [m4, if_pos in20, nI_clamp (by omega)]
  · rw [r3]
    exact (lw4 (w7_255 (w5 0))).symm
theorem rb4_203427840 {a u : St} (h : Rel a u) (hC : f_X10_place 203427840 4 (sI a 3 0) = -1) (hM : f_X12_isRam 203427840 4 u = 0) : RdOK a u 4 203427840 := by
  obtain ⟨P, hN, -⟩ := h.lens
  obtain ⟨-, -, -, -, -, n2, n3, n4, -, -, -, m2, m3, m4, -⟩ := hN
  obtain ⟨r1, r2, r3, -⟩ := h.rows
  obtain ⟨w1, w2, w3, w4, w5, w6⟩ := h.inv.2
  refine RdOK.plain h (v := (gA a 3 1).toInt64) (v' := (gA u 3 1).toInt64) ?_ ?_ ?_ ?_
  · show f_X12_isThere 203427840 4 u = 1
    unfold f_X12_isThere
    rw [if_pos hM]
    rfl
  · show f_X1_read 203427840 4 a = _
    unfold f_X1_read
    rw [if_pos hC]
    show (if inB (1 : Int32) (gN a 4) then some ((gA a 3 (nI 1).toNatClampNeg).toInt64, sI a 3 0) else none).bind _ = _
    rw [n4, if_pos in21, nI_clamp (by omega)]
    rfl
  · show f_X12_readAt 203427840 4 u = _
    unfold f_X12_readAt
    rw [if_pos hM]
    show (if inB (1 : Int32) (gN u 4) then some ((gA u 3 (nI 1).toNatClampNeg).toInt64, u) else none) = _
    rw [m4, if_pos in21, nI_clamp (by omega)]
  · rw [r3]
    exact (lw4 (w7_255 (w5 1))).symm
theorem rb4_203423748 {a u : St} (h : Rel a u) (hC : f_X10_place 203423748 4 (sI a 3 0) = -1) (hM : f_X12_isRam 203423748 4 u = 0) : RdOK a u 4 203423748 := by
  obtain ⟨P, hN, -⟩ := h.lens
  have n3 : gN a 3 = 2 := hN.2.2.2.2.2.2.1
  obtain ⟨r, hr, e1, e2⟩ := rel_claim (h.s3 0) 0 (by decide)
  refine ⟨?_, (nI r).toInt64, (nI r).toInt64, cA r (sI a 3 0), cM r u, ?_, ?_, ?_, ?_, (h.s3 0).claim r, ?_, ?_⟩
  · show f_X12_isThere 203423748 4 u = 1
    unfold f_X12_isThere
    rw [if_pos hM]
    rfl
  · show f_X1_read 203423748 4 a = _
    unfold f_X1_read
    rw [if_pos hC]
    show (if inB (0 : Int32) (gN a 3) then ((f_X3_claim (gA (sI a 3 0) 2 (0 : Int32).toNatClampNeg) (sI a 3 0)).bind (fun y10 => some (y10.1.toInt64, y10.2))) else none).bind _ = _
    rw [n3, if_pos in20, e1]
    rfl
  · unfold cA; split <;> rfl
  · show f_X12_readAt 203423748 4 u = _
    unfold f_X12_readAt
    rw [if_pos hM]
    show (f_X12_claim 0 u).bind _ = _
    rw [e2]
    rfl
  · refine (lw4 ?_).symm
    match r, hr with
    | 0, _ => rfl
    | 1, _ => rfl
    | 2, _ => rfl
    | 3, _ => rfl
    | 4, _ => rfl
    | 5, _ => rfl
    | 6, _ => rfl
    | 7, _ => rfl
  · unfold cA; split <;> exact ⟨rfl, rfl, rfl, rfl, rfl, rfl⟩
  · unfold cM; split <;> exact ⟨rfl, rfl, rfl, rfl, rfl⟩
theorem rb4_203427844 {a u : St} (h : Rel a u) (hC : f_X10_place 203427844 4 (sI a 3 0) = -1) (hM : f_X12_isRam 203427844 4 u = 0) : RdOK a u 4 203427844 := by
  obtain ⟨P, hN, -⟩ := h.lens
  have n3 : gN a 3 = 2 := hN.2.2.2.2.2.2.1
  obtain ⟨r, hr, e1, e2⟩ := rel_claim (h.s3 0) 1 (by decide)
  refine ⟨?_, (nI r).toInt64, (nI r).toInt64, cA r (sI a 3 0), cM r u, ?_, ?_, ?_, ?_, (h.s3 0).claim r, ?_, ?_⟩
  · show f_X12_isThere 203427844 4 u = 1
    unfold f_X12_isThere
    rw [if_pos hM]
    rfl
  · show f_X1_read 203427844 4 a = _
    unfold f_X1_read
    rw [if_pos hC]
    show (if inB (1 : Int32) (gN a 3) then ((f_X3_claim (gA (sI a 3 0) 2 (1 : Int32).toNatClampNeg) (sI a 3 0)).bind (fun y10 => some (y10.1.toInt64, y10.2))) else none).bind _ = _
    rw [n3, if_pos in21, e1]
    rfl
  · unfold cA; split <;> rfl
  · show f_X12_readAt 203427844 4 u = _
    unfold f_X12_readAt
    rw [if_pos hM]
    show (f_X12_claim 1 u).bind _ = _
    rw [e2]
    rfl
  · refine (lw4 ?_).symm
    match r, hr with
    | 0, _ => rfl
    | 1, _ => rfl
    | 2, _ => rfl
    | 3, _ => rfl
    | 4, _ => rfl
    | 5, _ => rfl
    | 6, _ => rfl
    | 7, _ => rfl
  · unfold cA; split <;> exact ⟨rfl, rfl, rfl, rfl, rfl, rfl⟩
  · unfold cM; split <;> exact ⟨rfl, rfl, rfl, rfl, rfl⟩
theorem Rel.rm11 {a u : St} (h : Rel a u) {c : Nat} (hc : gI a 12 = nI (c + 1)) (hlt : c + 1 ≤ 65536) : ∃ g, g < 65536 ∧ gI u 9 = nI g ∧ f_X2_removeFirst_o11 a = some (gA u 5 g &&& 255, sI (sI a 11 (((gI a 11) + (1 : Int32)) &&& ((Int32.ofNat (gN a 5)) - (1 : Int32)))) 12 (nI c)) ∧ Rel (sI (sI a 11 (((gI a 11) + (1 : Int32)) &&& ((Int32.ofNat (gN a 5)) - (1 : Int32)))) 12 (nI c)) (sI (sI u 9 (nI ((g + 1) % 65536))) 10 (nI c)) := by
  obtain ⟨P, hI, hL, hS, hA, hN, hM, hT, hG, hO, hV, hW⟩ := h
  obtain ⟨g0, g, hg, hg9, e, f, c2, he, hl, h1, h2, hf, hc2, hfl, hcl, hk⟩ := hG
  have hcc : c2 = c + 1 := by
    rw [hc] at hc2
    exact ((nI_eq (by omega) (by omega)).mp hc2).symm
  subst hcc
  refine ⟨g, hg, hg9, ?_, ?_⟩
  · unfold f_X2_removeFirst_o11
    rw [if_neg (by rw [hc]; exact nI_ne0 (by omega) (by omega)), hf, mk_ hl h1 (by omega), Nat.mod_eq_of_lt hfl, if_pos (in_d hfl (by omega) rfl), nI_clamp (by omega)]
    have k0 : gA a 4 ((f + 0) % gN a 5) &&& 255 = gA u 5 ((g + 0) % 65536) &&& 255 := hk 0 (by omega)
    rw [Nat.add_zero, Nat.add_zero, Nat.mod_eq_of_lt hfl, Nat.mod_eq_of_lt hg] at k0
    rw [k0]
    rw [show gI (sI a 11 ((nI f + 1) &&& (Int32.ofNat (gN a 5) - 1))) 12 = gI a 12 from rfl, hc, nI_pred]
  · refine ⟨P, ?_, hL, hS, hA, hN, hM, hT, ⟨g0, (g + 1) % 65536, Nat.mod_lt _ (by decide), rfl, e, (f + 1) % gN a 5, c, he, hl, h1, h2, ?_, rfl, Nat.mod_lt _ (by omega), (show c ≤ gN a 5 by omega), ?_⟩, hO, hV, hW⟩
    · simp only [RelI, gI_sI, gI_sL, gI_sA, gI_sB, gI_sR, gL_sI, gL_sL, gL_sA, gL_sB, gL_sR, gA_sI, gA_sL, gA_sA, gA_sB, gA_sR, gB_sI, gB_sL, gB_sA, gB_sB, gB_sR, gN_sI, gN_sL, gN_sA, gN_sB, gN_sR] at hI ⊢
      simp [hI]
    · show (gI a 11 + 1) &&& (Int32.ofNat (gN a 5) - 1) = _
      rw [hf, nI_1, mk_ hl h1 (by omega)]
    · intro k hk2
      have q := hk (k + 1) (by omega)
      have q1 : ((f + 1) % gN a 5 + k) % gN a 5 = (f + (k + 1)) % gN a 5 := by
        rw [Nat.mod_add_mod]
        congr 1
        omega
      have q2 : ((g + 1) % 65536 + k) % 65536 = (g + (k + 1)) % 65536 := by omega
      show gA a 4 (((f + 1) % gN a 5 + k) % gN a 5) &&& 255 = gA u 5 (((g + 1) % 65536 + k) % 65536) &&& 255
      rw [q1, q2]
      exact q
theorem Rel.gcnt {a u : St} (h : Rel a u) : ∃ c, gI a 12 = nI c ∧ c ≤ 65536 := by
  obtain ⟨P, -, -, -, -, -, -, -, ⟨-, g, -, -, hR⟩, -⟩ := h
  obtain ⟨c, h1, h2, h3⟩ := hR.cnt
  exact ⟨c, h1, by omega⟩
theorem b255l (x : Int32) : (x &&& 255).toInt64 = x.toInt64 &&& 255 := and_l x
theorem b255i (x : Int32) : (x &&& 255) &&& 255 = x &&& 255 := by rw [Int32.and_assoc]; rfl
theorem rb1_268435456 {a u : St} (h : Rel a u) (hC : f_X10_place 268435456 1 (sI a 3 0) = -1) (hM : f_X12_isRam 268435456 1 u = 0) : RdOK a u 1 268435456 := by
  have t : f_X12_isThere 268435456 (nI 1) u = 1 := by
    show f_X12_isThere 268435456 1 u = 1
    unfold f_X12_isThere
    rw [if_pos hM]
    rfl
  have i10 : gI u 10 = gI a 12 := h.ints.2.2.2.2.2.2.2.2.2.2.1
  have hc := h.gcnt
  obtain ⟨P, hN, -⟩ := h.lens
  have m6 : gN u 6 = 65536 := hN.2.2.2.2.2.2.2.2.2.2.2.2.2.2.2.1
  have e1 : f_X1_read 268435456 1 a = ((f_X2_removeFirst_o11 (sI a 3 0)).bind (fun y2 => some (y2.1.toInt64, y2.2))).bind (fun y14 => some (y14.1, y14.2)) := by
    unfold f_X1_read
    rw [if_pos hC]
    rfl
  have e2 : f_X12_readAt 268435456 1 u = (f_X12_lineAt 0 u).bind (fun y15 => some (y15.1, y15.2)) := by
    unfold f_X12_readAt
    rw [if_pos hM]
    rfl
  obtain ⟨c, hc1, hc2⟩ := hc
  match c, hc1, hc2 with
  | 0, hc1, hc2 =>
    refine RdOK.plain h (v := 0) (v' := 0) t ?_ ?_ rfl
    · show f_X1_read 268435456 1 a = _
      rw [e1]
      unfold f_X2_removeFirst_o11
      rw [if_pos (show gI (sI a 3 0) 12 = 0 from hc1)]
      rfl
    · show f_X12_readAt 268435456 1 u = _
      rw [e2]
      unfold f_X12_lineAt
      rw [if_neg (by decide), if_neg (by decide), if_neg (by decide), if_pos (by rw [i10]; exact hc1)]
      rfl
  | c + 1, hc1, hc2 =>
    obtain ⟨g, hg, g9, r1, r2⟩ := (h.s3 0).rm11 (c := c) hc1 hc2
    refine ⟨t, (gA u 5 g &&& 255).toInt64, (gA u 5 g).toInt64 &&& 255, _, _, ?_, ?_, ?_, ?_, r2, ⟨rfl, rfl, rfl, rfl, rfl, rfl⟩, ⟨rfl, rfl, rfl, rfl, rfl⟩⟩
    · show f_X1_read 268435456 1 a = _
      rw [e1, r1]
      rfl
    · rfl
    · show f_X12_readAt 268435456 1 u = _
      rw [e2]
      unfold f_X12_lineAt
      rw [if_neg (by decide), if_neg (by decide), if_neg (by decide), if_neg (by rw [i10, hc1]; exact nI_ne0 (by omega) (by omega)), g9, if_pos (in_d hg (by omega) m6), nI_clamp (by omega), nI_1]
      rw [show gI (sI u 9 (nI (g + 1) - nI (g + 1) / 65536 * 65536)) 10 = gI u 10 from rfl, i10, hc1, nI_pred, show (65536 : Int32) = nI 65536 from rfl, pk_rem (by omega) (by omega) (by omega)]
      rfl
    · rw [b255l]
      show _ = ((gA u 5 g).toInt64 &&& 255) &&& 255
      rw [Int64.and_assoc]
      rfl
theorem rb1_268435457 {a u : St} (h : Rel a u) (hC : f_X10_place 268435457 1 (sI a 3 0) = -1) (hM : f_X12_isRam 268435457 1 u = 0) : RdOK a u 1 268435457 := by
  have i10 : gI u 10 = gI a 12 := h.ints.2.2.2.2.2.2.2.2.2.2.1
  have i12 : gI u 12 = gI a 9 := h.ints.2.2.2.2.2.1
  have w3 := h.inv.2.2.2.1
  refine RdOK.plain h (v := (gI a 9).toInt64) (v' := (gI u 12).toInt64) ?_ ?_ ?_ ?_
  · show f_X12_isThere 268435457 1 u = 1
    unfold f_X12_isThere
    rw [if_pos hM]
    rfl
  · show f_X1_read 268435457 1 a = _
    unfold f_X1_read
    rw [if_pos hC]
    rfl
  · show f_X12_readAt 268435457 1 u = _
    unfold f_X12_readAt
    rw [if_pos hM]
    rfl
  · rw [i12]
    exact (lw1 w3).symm
theorem rb1_268435458 {a u : St} (h : Rel a u) (hC : f_X10_place 268435458 1 (sI a 3 0) = -1) (hM : f_X12_isRam 268435458 1 u = 0) : RdOK a u 1 268435458 := by
  have i10 : gI u 10 = gI a 12 := h.ints.2.2.2.2.2.2.2.2.2.2.1
  have i12 : gI u 12 = gI a 9 := h.ints.2.2.2.2.2.1
  have w3 := h.inv.2.2.2.1
  refine RdOK.plain h (v := 0) (v' := 0) ?_ ?_ ?_ ?_
  · show f_X12_isThere 268435458 1 u = 1
    unfold f_X12_isThere
    rw [if_pos hM]
    rfl
  · show f_X1_read 268435458 1 a = _
    unfold f_X1_read
    rw [if_pos hC]
    rfl
  · show f_X12_readAt 268435458 1 u = _
    unfold f_X12_readAt
    rw [if_pos hM]
    rfl
  · rfl
theorem rb1_268435459 {a u : St} (h : Rel a u) (hC : f_X10_place 268435459 1 (sI a 3 0) = -1) (hM : f_X12_isRam 268435459 1 u = 0) : RdOK a u 1 268435459 := by
  have i10 : gI u 10 = gI a 12 := h.ints.2.2.2.2.2.2.2.2.2.2.1
  have i12 : gI u 12 = gI a 9 := h.ints.2.2.2.2.2.1
  have w3 := h.inv.2.2.2.1
  refine RdOK.plain h (v := 0) (v' := 0) ?_ ?_ ?_ ?_
  · show f_X12_isThere 268435459 1 u = 1
    unfold f_X12_isThere
    rw [if_pos hM]
    rfl
  · show f_X1_read 268435459 1 a = _
    unfold f_X1_read
    rw [if_pos hC]
    rfl
  · show f_X12_readAt 268435459 1 u = _
    unfold f_X12_readAt
    rw [if_pos hM]
    rfl
  · rfl
theorem rb1_268435460 {a u : St} (h : Rel a u) (hC : f_X10_place 268435460 1 (sI a 3 0) = -1) (hM : f_X12_isRam 268435460 1 u = 0) : RdOK a u 1 268435460 := by
  have i10 : gI u 10 = gI a 12 := h.ints.2.2.2.2.2.2.2.2.2.2.1
  have i12 : gI u 12 = gI a 9 := h.ints.2.2.2.2.2.1
  have w3 := h.inv.2.2.2.1
  refine RdOK.plain h (v := 0) (v' := 0) ?_ ?_ ?_ ?_
  · show f_X12_isThere 268435460 1 u = 1
    unfold f_X12_isThere
    rw [if_pos hM]
    rfl
  · show f_X1_read 268435460 1 a = _
    unfold f_X1_read
    rw [if_pos hC]
    rfl
  · show f_X12_readAt 268435460 1 u = _
    unfold f_X12_readAt
    rw [if_pos hM]
    rfl
  · rfl
theorem rb1_268435461 {a u : St} (h : Rel a u) (hC : f_X10_place 268435461 1 (sI a 3 0) = -1) (hM : f_X12_isRam 268435461 1 u = 0) : RdOK a u 1 268435461 := by
  have i10 : gI u 10 = gI a 12 := h.ints.2.2.2.2.2.2.2.2.2.2.1
  have i12 : gI u 12 = gI a 9 := h.ints.2.2.2.2.2.1
  have w3 := h.inv.2.2.2.1
  refine RdOK.plain h (v := if gI a 12 ≤ 0 then 96 else 97) (v' := if gI a 12 ≤ 0 then 96 else 97) ?_ ?_ ?_ ?_
  · show f_X12_isThere 268435461 1 u = 1
    unfold f_X12_isThere
    rw [if_pos hM]
    rfl
  · show f_X1_read 268435461 1 a = _
    unfold f_X1_read
    rw [if_pos hC]
    show ((if gI a 12 ≤ 0 then some ((96 : Int64), sI a 3 0) else some ((97 : Int64), sI a 3 0)) : Option (Int64 × St)).bind _ = _
    split <;> rfl
  · show f_X12_readAt 268435461 1 u = _
    unfold f_X12_readAt
    rw [if_pos hM]
    show ((if gI u 10 ≤ 0 then some ((96 : Int64), u) else some ((97 : Int64), u)) : Option (Int64 × St)).bind _ = _
    rw [i10]
    split <;> rfl
  · split <;> rfl
theorem rb1_268435462 {a u : St} (h : Rel a u) (hC : f_X10_place 268435462 1 (sI a 3 0) = -1) (hM : f_X12_isRam 268435462 1 u = 0) : RdOK a u 1 268435462 := by
  have i10 : gI u 10 = gI a 12 := h.ints.2.2.2.2.2.2.2.2.2.2.1
  have i12 : gI u 12 = gI a 9 := h.ints.2.2.2.2.2.1
  have w3 := h.inv.2.2.2.1
  refine RdOK.plain h (v := 0) (v' := 0) ?_ ?_ ?_ ?_
  · show f_X12_isThere 268435462 1 u = 1
    unfold f_X12_isThere
    rw [if_pos hM]
    rfl
  · show f_X1_read 268435462 1 a = _
    unfold f_X1_read
    rw [if_pos hC]
    rfl
  · show f_X12_readAt 268435462 1 u = _
    unfold f_X12_readAt
    rw [if_pos hM]
    rfl
  · rfl
theorem rb1_268435463 {a u : St} (h : Rel a u) (hC : f_X10_place 268435463 1 (sI a 3 0) = -1) (hM : f_X12_isRam 268435463 1 u = 0) : RdOK a u 1 268435463 := by
  have i10 : gI u 10 = gI a 12 := h.ints.2.2.2.2.2.2.2.2.2.2.1
  have i12 : gI u 12 = gI a 9 := h.ints.2.2.2.2.2.1
  have w3 := h.inv.2.2.2.1
  refine RdOK.plain h (v := 0) (v' := 0) ?_ ?_ ?_ ?_
  · show f_X12_isThere 268435463 1 u = 1
    unfold f_X12_isThere
    rw [if_pos hM]
    rfl
  · show f_X1_read 268435463 1 a = _
    unfold f_X1_read
    rw [if_pos hC]
    rfl
  · show f_X12_readAt 268435463 1 u = _
    unfold f_X12_readAt
    rw [if_pos hM]
    rfl
  · rfl
theorem lift8 {x : Int64} {n : Nat} (hn : n < 18446744073709551616) (h : un x = n) : x = lN n := (un_lit n hn).mpr h
theorem has_ne {x : Int64} (h : x - 201326592 ∈ ([4, 8, 12, 16, 20, 24, 28, 4096, 8192, 8320, 2097152, 2101248, 2097156, 2101252] : List Int64)) : x = 201326596 ∨ x = 201326600 ∨ x = 201326604 ∨ x = 201326608 ∨ x = 201326612 ∨ x = 201326616 ∨ x = 201326620 ∨ x = 201330688 ∨ x = 201334784 ∨ x = 201334912 ∨ x = 203423744 ∨ x = 203427840 ∨ x = 203423748 ∨ x = 203427844 := by
  have e : ∀ d : Int64, x - 201326592 = d → x = d + 201326592 := fun d q => by rw [← q, Int64.sub_add_cancel]
  simp only [List.mem_cons, List.not_mem_nil, or_false] at h
  rcases h with h | h | h | h | h | h | h | h | h | h | h | h | h | h
  · have q := e _ h; exact Or.inl q
  · have q := e _ h; exact Or.inr (Or.inl q)
  · have q := e _ h; exact Or.inr (Or.inr (Or.inl q))
  · have q := e _ h; exact Or.inr (Or.inr (Or.inr (Or.inl q)))
  · have q := e _ h; exact Or.inr (Or.inr (Or.inr (Or.inr (Or.inl q))))
  · have q := e _ h; exact Or.inr (Or.inr (Or.inr (Or.inr (Or.inr (Or.inl q)))))
  · have q := e _ h; exact Or.inr (Or.inr (Or.inr (Or.inr (Or.inr (Or.inr (Or.inl q))))))
  · have q := e _ h; exact Or.inr (Or.inr (Or.inr (Or.inr (Or.inr (Or.inr (Or.inr (Or.inl q)))))))
  · have q := e _ h; exact Or.inr (Or.inr (Or.inr (Or.inr (Or.inr (Or.inr (Or.inr (Or.inr (Or.inl q))))))))
  · have q := e _ h; exact Or.inr (Or.inr (Or.inr (Or.inr (Or.inr (Or.inr (Or.inr (Or.inr (Or.inr (Or.inl q)))))))))
  · have q := e _ h; exact Or.inr (Or.inr (Or.inr (Or.inr (Or.inr (Or.inr (Or.inr (Or.inr (Or.inr (Or.inr (Or.inl q))))))))))
  · have q := e _ h; exact Or.inr (Or.inr (Or.inr (Or.inr (Or.inr (Or.inr (Or.inr (Or.inr (Or.inr (Or.inr (Or.inr (Or.inl q)))))))))))
  · have q := e _ h; exact Or.inr (Or.inr (Or.inr (Or.inr (Or.inr (Or.inr (Or.inr (Or.inr (Or.inr (Or.inr (Or.inr (Or.inr (Or.inl q))))))))))))
  · have q := e _ h; exact Or.inr (Or.inr (Or.inr (Or.inr (Or.inr (Or.inr (Or.inr (Or.inr (Or.inr (Or.inr (Or.inr (Or.inr (Or.inr (q)))))))))))))
theorem rel_bread {a u : St} (h : Rel a u) {m : Nat} (hm : wid m) (x : Int64) (hx : un x % m = 0) : (f_X12_isThere x (nI m) u = 0 ∧ f_X1_read x (nI m) a = some (0, sI (sI a 3 0) 3 1)) ∨ RdOK a u m x := by
  obtain ⟨P, hN, hM⟩ := h.lens
  have hP := hN.2.1
  have hm0 : 1 ≤ m ∧ m ≤ 8 := by rcases hm with rfl | rfl | rfl | rfl <;> omega
  rcases ram_cases hN (m := m) hm0.1 hm0.2 x with ⟨h1, h2⟩ | ⟨i, hi, ex, hx2, h1, h2⟩
  · have h1' : f_X10_place x (nI m) (sI a 3 0) = -1 := h1
    have hxl := un_lt x
    rcases hm with rfl | rfl | rfl | rfl
    · by_cases w : x &&& -8 = 268435456
      · right
        have w2 := (un_lit 268435456 (by decide)).mp w
        rw [un_hi8] at w2
        by_cases p0 : un x = 268435456
        · have q := lift8 (by decide) p0
          subst q
          exact rb1_268435456 h h1' h2
        by_cases p1 : un x = 268435457
        · have q := lift8 (by decide) p1
          subst q
          exact rb1_268435457 h h1' h2
        by_cases p2 : un x = 268435458
        · have q := lift8 (by decide) p2
          subst q
          exact rb1_268435458 h h1' h2
        by_cases p3 : un x = 268435459
        · have q := lift8 (by decide) p3
          subst q
          exact rb1_268435459 h h1' h2
        by_cases p4 : un x = 268435460
        · have q := lift8 (by decide) p4
          subst q
          exact rb1_268435460 h h1' h2
        by_cases p5 : un x = 268435461
        · have q := lift8 (by decide) p5
          subst q
          exact rb1_268435461 h h1' h2
        by_cases p6 : un x = 268435462
        · have q := lift8 (by decide) p6
          subst q
          exact rb1_268435462 h h1' h2
        by_cases p7 : un x = 268435463
        · have q := lift8 (by decide) p7
          subst q
          exact rb1_268435463 h h1' h2
        exfalso
        omega
      · left
        have w1 : ¬ un x / 8 * 8 = 268435456 := fun q => w ((un_lit 268435456 (by decide)).mpr (by rw [un_hi8]; exact q))
        have i7 : f_X12_in (x - 268435456) 0 7 = 0 := by
          have e := in_un (x - 268435456) (lo := 0) (hi := 7) (by decide) (by decide)
          rw [if_neg] at e
          · exact e
          · rw [un_sub, show un 268435456 = 268435456 from rfl]
            omega
        refine ⟨?_, ?_⟩
        · show f_X12_isThere x 1 u = 0
          unfold f_X12_isThere f_X12_isThere_b77 f_X12_isThere_b110 f_X12_isThere_b134
          rw [if_pos (show f_X12_isRam x 1 u = 0 from h2), if_neg (by decide), if_neg (by decide), if_neg (by decide), if_pos rfl, if_pos i7]
        · show f_X1_read x 1 a = _
          unfold f_X1_read f_X1_read_b63 f_X1_read_b93 f_X1_read_b111 f_X1_read_b138 f_X1_read_b165
          rw [if_pos (show f_X10_place x 1 (sI a 3 0) = -1 from h1'), if_pos rfl, if_neg w, if_neg (by decide), if_neg (by decide), if_pos (by decide), if_pos (by decide)]
    · left
      refine ⟨?_, ?_⟩
      · show f_X12_isThere x 2 u = 0
        unfold f_X12_isThere f_X12_isThere_b77 f_X12_isThere_b110 f_X12_isThere_b134
        rw [if_pos (show f_X12_isRam x 2 u = 0 from h2), if_neg (by decide), if_neg (by decide), if_neg (by decide), if_neg (by decide)]
      · show f_X1_read x 2 a = _
        unfold f_X1_read f_X1_read_b63 f_X1_read_b93 f_X1_read_b111 f_X1_read_b138 f_X1_read_b165
        rw [if_pos (show f_X10_place x 2 (sI a 3 0) = -1 from h1'), if_neg (by decide), if_neg (by decide), if_neg (by decide), if_pos (by decide), if_pos (by decide)]
    · have d4 : un (x - 201326592) % 4 = 0 := by
        rw [un_sub, show un 201326592 = 201326592 from rfl]
        omega
      rcases pl_list (x - 201326592) d4 with q | ⟨q1, q2⟩
      · right
        rcases has_ne q with rfl | rfl | rfl | rfl | rfl | rfl | rfl | rfl | rfl | rfl | rfl | rfl | rfl | rfl
        · exact rb4_201326596 h h1' h2
        · exact rb4_201326600 h h1' h2
        · exact rb4_201326604 h h1' h2
        · exact rb4_201326608 h h1' h2
        · exact rb4_201326612 h h1' h2
        · exact rb4_201326616 h h1' h2
        · exact rb4_201326620 h h1' h2
        · exact rb4_201330688 h h1' h2
        · exact rb4_201334784 h h1' h2
        · exact rb4_201334912 h h1' h2
        · exact rb4_203423744 h h1' h2
        · exact rb4_203427840 h h1' h2
        · exact rb4_203423748 h h1' h2
        · exact rb4_203427844 h h1' h2
      · by_cases c33554432 : un x = 33554432
        · right
          have q := lift8 (by decide) c33554432
          subst q
          exact rb4_33554432 h h1' h2
        by_cases c33570816 : un x = 33570816
        · right
          have q := lift8 (by decide) c33570816
          subst q
          exact rb4_33570816 h h1' h2
        by_cases c33570820 : un x = 33570820
        · right
          have q := lift8 (by decide) c33570820
          subst q
          exact rb4_33570820 h h1' h2
        by_cases c33603576 : un x = 33603576
        · right
          have q := lift8 (by decide) c33603576
          subst q
          exact rb4_33603576 h h1' h2
        by_cases c33603580 : un x = 33603580
        · right
          have q := lift8 (by decide) c33603580
          subst q
          exact rb4_33603580 h h1' h2
        left
        have i1 : f_X12_in (x - 33554432) 16384 ((16392 : Int64) - (4 : Int32).toInt64) = 0 := by
          have e := in_un (x - 33554432) (lo := 16384) (hi := 16388) (by decide) (by decide)
          rw [if_neg] at e
          · exact e
          · rw [un_sub, show un 33554432 = 33554432 from rfl]
            omega
        have i2 : f_X12_in (x - 33554432) 49144 ((49152 : Int64) - (4 : Int32).toInt64) = 0 := by
          have e := in_un (x - 33554432) (lo := 49144) (hi := 49148) (by decide) (by decide)
          rw [if_neg] at e
          · exact e
          · rw [un_sub, show un 33554432 = 33554432 from rfl]
            omega
        have i0 : ¬ x - 33554432 = 0 := by
          intro q
          have q2 := (un_zero _).mp q
          rw [un_sub, show un 33554432 = 33554432 from rfl] at q2
          omega
        have w0 : ¬ x = 33554432 := fun q => c33554432 ((un_lit 33554432 (by decide)).mp q)
        have w1 : ¬ x &&& -8 = 33570816 := by
          intro q
          have w2 := (un_lit 33570816 (by decide)).mp q
          rw [un_hi8] at w2
          omega
        have w2 : ¬ x &&& -8 = 33603576 := by
          intro q
          have w2 := (un_lit 33603576 (by decide)).mp q
          rw [un_hi8] at w2
          omega
        refine ⟨?_, ?_⟩
        · show f_X12_isThere x 4 u = 0
          unfold f_X12_isThere f_X12_isThere_b29 f_X12_isThere_b41 f_X12_isThere_b77 f_X12_isThere_b110 f_X12_isThere_b134
          rw [if_pos (show f_X12_isRam x 4 u = 0 from h2), if_pos rfl, if_neg i0, if_pos i1, if_pos i2, if_pos rfl, q1, if_pos (by decide), if_neg (by decide)]
        · show f_X1_read x 4 a = _
          unfold f_X1_read f_X1_read_b63 f_X1_read_b93 f_X1_read_b111 f_X1_read_b138 f_X1_read_b165
          rw [if_pos (show f_X10_place x 4 (sI a 3 0) = -1 from h1'), if_neg (by decide), if_pos rfl, if_pos q2, if_pos rfl, if_neg w0, if_neg (by decide), if_neg w1, if_neg (by decide), if_neg w2]
    · by_cases c1 : un x = 33570816
      · right
        have q := lift8 (by decide) c1
        subst q
        exact rb8_33570816 h h1' h2
      by_cases c2 : un x = 33603576
      · right
        have q := lift8 (by decide) c2
        subst q
        exact rb8_33603576 h h1' h2
      left
      have i1 : f_X12_in (x - 33554432) 16384 ((16392 : Int64) - (8 : Int32).toInt64) = 0 := by
        have e := in_un (x - 33554432) (lo := 16384) (hi := 16384) (by decide) (by decide)
        rw [if_neg] at e
        · exact e
        · rw [un_sub, show un 33554432 = 33554432 from rfl]
          omega
      have i2 : f_X12_in (x - 33554432) 49144 ((49152 : Int64) - (8 : Int32).toInt64) = 0 := by
        have e := in_un (x - 33554432) (lo := 49144) (hi := 49144) (by decide) (by decide)
        rw [if_neg] at e
        · exact e
        · rw [un_sub, show un 33554432 = 33554432 from rfl]
          omega
      have w1 : ¬ x &&& -8 = 33570816 := by
        intro q
        have w2 := (un_lit 33570816 (by decide)).mp q
        rw [un_hi8] at w2
        omega
      have w2 : ¬ x &&& -8 = 33603576 := by
        intro q
        have w2 := (un_lit 33603576 (by decide)).mp q
        rw [un_hi8] at w2
        omega
      refine ⟨?_, ?_⟩
      · show f_X12_isThere x 8 u = 0
        unfold f_X12_isThere f_X12_isThere_b29 f_X12_isThere_b41 f_X12_isThere_b77 f_X12_isThere_b110 f_X12_isThere_b134
        rw [if_pos (show f_X12_isRam x 8 u = 0 from h2), if_neg (by decide), if_pos rfl]
        by_cases z : x - 33554432 = 0
        · rw [if_pos z, if_neg (by decide), if_pos i1, if_pos i2, if_neg (by decide), if_neg (by decide)]
        · rw [if_neg z, if_pos i1, if_pos i2, if_neg (by decide), if_neg (by decide)]
      · show f_X1_read x 8 a = _
        unfold f_X1_read f_X1_read_b63 f_X1_read_b93 f_X1_read_b111 f_X1_read_b138 f_X1_read_b165
        rw [if_pos (show f_X10_place x 8 (sI a 3 0) = -1 from h1'), if_neg (by decide), if_neg (by decide), if_neg (by decide), if_neg (by decide), if_neg w1, if_neg (by decide), if_neg w2]
  · right
    have hal : i % m = 0 := by
      rw [ex, un_lN] at hx
      rcases hm with rfl | rfl | rfl | rfl <;> omega
    obtain ⟨e, r1, r2, r3⟩ := rel_ramAt hN hM hm hi hal hx2
    have r1' : f_X10_read (nI i) (nI m) (sI a 3 0) = some e := r1
    refine RdOK.plain h (v := e) (v' := e) ?_ ?_ ?_ ?_
    · unfold f_X12_isThere
      rw [h2, if_neg n10]
    · unfold f_X1_read
      rw [show f_X10_place x (nI m) (sI a 3 0) = nI i from h1, if_neg (nI_m1 (by omega)), r1']
      rfl
    · unfold f_X12_readAt
      rw [h2, if_neg n10, r2]
      rfl
    · unfold low
      split
      · rfl
      · refine qb_ext (fun j hj => ?_)
        rw [qb_and, qb_lN, Nat.testBit_two_pow_sub_one]
        by_cases c : j < 8 * m
        · simp [c, hj]
        · rw [r3 j (by omega)]; simp

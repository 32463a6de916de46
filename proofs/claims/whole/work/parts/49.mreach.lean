theorem sgn_63 (x : Int64) : x < 0 ↔ qb x 63 = true := by
  rw [un_neg, ← un_bit, Nat.testBit_eq_decide_div_mod_eq, decide_eq_true_eq]
  have h := un_lt x
  have e : (2 : Nat) ^ 63 = 9223372036854775808 := by decide
  rw [e]
  omega
theorem qb_lN (n i : Nat) : qb (lN n) i = (decide (i < 64) && n.testBit i) := BitVec.getLsbD_ofNat 64 n i
theorem un_mask (x : Int64) (k : Nat) (hk : k < 64) : un (x &&& lN (2 ^ k - 1)) = un x % 2 ^ k := by
  refine Nat.eq_of_testBit_eq (fun i => ?_)
  rw [un_bit, qb_and, qb_lN, Nat.testBit_two_pow_sub_one, Nat.testBit_mod_two_pow, un_bit]
  by_cases h : i < k
  · simp [h, show i < 64 by omega]
  · simp [h]
theorem un_lit {x : Int64} (n : Nat) (hn : n < 18446744073709551616) : x = lN n ↔ un x = n := by
  constructor
  · intro h
    rw [h, un_lN]
    omega
  · intro h
    apply un_ext
    rw [h, un_lN]
    omega
theorem un_hi8 (x : Int64) : un (x &&& -8) = un x / 8 * 8 := by
  refine Nat.eq_of_testBit_eq (fun i => ?_)
  rw [un_bit, qb_and, qbn_8]
  have e : (un x / 8 * 8).testBit i = (decide (3 ≤ i) && (un x / 2 ^ 3).testBit (i - 3)) := Nat.testBit_mul_two_pow (un x / 8) i 3
  have e2 : Nat.testBit 18446744073709551608 i = (decide (3 ≤ i) && Nat.testBit 2305843009213693951 (i - 3)) := Nat.testBit_mul_two_pow 2305843009213693951 i 3
  have e3 : Nat.testBit 2305843009213693951 (i - 3) = decide (i - 3 < 61) := Nat.testBit_two_pow_sub_one 61 (i - 3)
  rw [e, e2, e3, Nat.testBit_div_two_pow, un_bit]
  by_cases h : 3 ≤ i
  · rw [show i - 3 + 3 = i by omega]
    by_cases h2 : i < 64
    · simp [h, h2, show i - 3 < 61 by omega]
    · simp [qb_big (x := x) (show 64 ≤ i by omega)]
  · simp [h]
theorem al_and (v : Int64) {m : Nat} (hm : wid m) : (v &&& (nI m - 1).toInt64 = 0) ↔ un v % m = 0 := by
  rcases hm with rfl | rfl | rfl | rfl
  · rw [show (nI 1 - 1).toInt64 = lN (2 ^ 0 - 1) by decide, un_zero, un_mask v 0 (by omega)]
  · rw [show (nI 2 - 1).toInt64 = lN (2 ^ 1 - 1) by decide, un_zero, un_mask v 1 (by omega)]
  · rw [show (nI 4 - 1).toInt64 = lN (2 ^ 2 - 1) by decide, un_zero, un_mask v 2 (by omega)]
  · rw [show (nI 8 - 1).toInt64 = lN (2 ^ 3 - 1) by decide, un_zero, un_mask v 3 (by omega)]
theorem al_rem (v : Int64) {m : Nat} (hm : wid m) : (v - v / (nI m).toInt64 * (nI m).toInt64 = 0) ↔ un v % m = 0 := by
  have hm0 : 1 ≤ m ∧ m ≤ 8 := by rcases hm with rfl | rfl | rfl | rfl <;> omega
  rw [nI_l (by omega)]
  constructor
  · intro h
    have h1 := (un_zero _).mp h
    rw [un_sub, un_mul, un_lN] at h1
    have b1 := un_lt v
    rcases hm with rfl | rfl | rfl | rfl <;> omega
  · intro h
    have ht : ∃ t : Int, v.toInt = t * (m : Int) := by
      rw [un_toInt]
      split
      · refine ⟨((un v / m : Nat) : Int), ?_⟩
        rcases hm with rfl | rfl | rfl | rfl <;> omega
      · refine ⟨((un v / m : Nat) : Int) - ((18446744073709551616 / m : Nat) : Int), ?_⟩
        rcases hm with rfl | rfl | rfl | rfl <;> omega
    obtain ⟨t, ht⟩ := ht
    have hn1 : lN m ≠ -1 := by rcases hm with rfl | rfl | rfl | rfl <;> decide
    have hmi : (lN m).toInt = (m : Int) := pk_lT (by omega)
    have hd : (v / lN m).toInt = t := by
      rw [Int64.toInt_div_of_ne_right _ _ hn1, ht, hmi, Int.mul_tdiv_cancel _ (by omega)]
    have hv : v = Int64.ofInt (t * (m : Int)) := by rw [← ht, Int64.ofInt_toInt]
    have hd2 : v / lN m = Int64.ofInt t := by rw [← hd, Int64.ofInt_toInt]
    have hm2 : lN m = Int64.ofInt (m : Int) := by rw [← hmi, Int64.ofInt_toInt]
    have hz : v / lN m * lN m = v := by
      conv => rhs; rw [hv]
      rw [hd2]
      conv => lhs; rw [hm2]
      rw [Int64.ofInt_mul]
    rw [hz, Int64.sub_self]
def PG (v r : Int64) : Prop := (¬ r < 0 ∧ un r % 8 = un v % 8) ∨ (r < 0 ∧ ∃ c, c < 64 ∧ ((-1 : Int64) - r).toInt32 = nI c)
theorem PG.of {v r x : Int64} (h : some x = some r) (p : PG v x) : PG v r := by
  cases h
  exact p
theorem PG.pf (v : Int64) (K : Int32) (hK : K = 0 ∨ K = 1 ∨ K = 2) : PG v (((-1 : Int32) - (f_X9_pageFault K)).toInt64) := by
  right
  rcases hK with rfl | rfl | rfl
  · exact ⟨by decide, 12, by omega, by decide⟩
  · exact ⟨by decide, 13, by omega, by decide⟩
  · exact ⟨by decide, 15, by omega, by decide⟩
theorem PG.af (v : Int64) (K : Int32) (hK : K = 0 ∨ K = 1 ∨ K = 2) : PG v (((-1 : Int32) - (f_X9_accessFault K)).toInt64) := by
  right
  rcases hK with rfl | rfl | rfl
  · exact ⟨by decide, 1, by omega, by decide⟩
  · exact ⟨by decide, 5, by omega, by decide⟩
  · exact ⟨by decide, 7, by omega, by decide⟩
theorem PG.jn (v e : Int64) (l : Int32) (hl : l = 0 ∨ l = 1 ∨ l = 2) : PG v (f_X9_joined e v l) := by
  left
  have k : ∀ r : Int64, r &&& 7 = v &&& 7 → un r % 8 = un v % 8 := by
    intro r q
    have q2 := congrArg un q
    rw [show (7 : Int64) = lN (2 ^ 3 - 1) from rfl, un_mask _ 3 (by omega), un_mask _ 3 (by omega)] at q2
    exact q2
  rcases hl with rfl | rfl | rfl
  · rw [show f_X9_joined e v 0 = (((j_lshl ((j_lushr e (10 : Int32)) &&& (17592186044415 : Int64)) (12 : Int32)) &&& ((4095 : Int64) ^^^ (-1 : Int64))) ||| (v &&& 4095)) from rfl]
    refine ⟨?_, k _ ?_⟩
    · rw [sgn_63]; simp [qb_or, qb_and, qb_xor, qt_or, qt_and, qt_xor, qb_lit, qt_lit, qb_m1, qt_m1, qb_not, qt_not, qbn_2, qbn_3, qbn_4, qbn_8, qbn_6145, qbn_786723, qb_ofI, qt_ofL, sh6_lit, sh5_lit, qb_shl, qb_sshr, qb_ushr, qt_shl, qt_sshr, qt_ushr, Nat.testBit_eq_decide_div_mod_eq, qt_big, qb_big, qt_s31, qt_l31]
    · refine qb_ext (al_64 ?_); simp [qb_or, qb_and, qb_xor, qt_or, qt_and, qt_xor, qb_lit, qt_lit, qb_m1, qt_m1, qb_not, qt_not, qbn_2, qbn_3, qbn_4, qbn_8, qbn_6145, qbn_786723, qb_ofI, qt_ofL, sh6_lit, sh5_lit, qb_shl, qb_sshr, qb_ushr, qt_shl, qt_sshr, qt_ushr, Nat.testBit_eq_decide_div_mod_eq, qt_big, qb_big, qt_s31, qt_l31]
  · rw [show f_X9_joined e v 1 = (((j_lshl ((j_lushr e (10 : Int32)) &&& (17592186044415 : Int64)) (12 : Int32)) &&& ((2097151 : Int64) ^^^ (-1 : Int64))) ||| (v &&& 2097151)) from rfl]
    refine ⟨?_, k _ ?_⟩
    · rw [sgn_63]; simp [qb_or, qb_and, qb_xor, qt_or, qt_and, qt_xor, qb_lit, qt_lit, qb_m1, qt_m1, qb_not, qt_not, qbn_2, qbn_3, qbn_4, qbn_8, qbn_6145, qbn_786723, qb_ofI, qt_ofL, sh6_lit, sh5_lit, qb_shl, qb_sshr, qb_ushr, qt_shl, qt_sshr, qt_ushr, Nat.testBit_eq_decide_div_mod_eq, qt_big, qb_big, qt_s31, qt_l31]
    · refine qb_ext (al_64 ?_); simp [qb_or, qb_and, qb_xor, qt_or, qt_and, qt_xor, qb_lit, qt_lit, qb_m1, qt_m1, qb_not, qt_not, qbn_2, qbn_3, qbn_4, qbn_8, qbn_6145, qbn_786723, qb_ofI, qt_ofL, sh6_lit, sh5_lit, qb_shl, qb_sshr, qb_ushr, qt_shl, qt_sshr, qt_ushr, Nat.testBit_eq_decide_div_mod_eq, qt_big, qb_big, qt_s31, qt_l31]
  · rw [show f_X9_joined e v 2 = (((j_lshl ((j_lushr e (10 : Int32)) &&& (17592186044415 : Int64)) (12 : Int32)) &&& ((1073741823 : Int64) ^^^ (-1 : Int64))) ||| (v &&& 1073741823)) from rfl]
    refine ⟨?_, k _ ?_⟩
    · rw [sgn_63]; simp [qb_or, qb_and, qb_xor, qt_or, qt_and, qt_xor, qb_lit, qt_lit, qb_m1, qt_m1, qb_not, qt_not, qbn_2, qbn_3, qbn_4, qbn_8, qbn_6145, qbn_786723, qb_ofI, qt_ofL, sh6_lit, sh5_lit, qb_shl, qb_sshr, qb_ushr, qt_shl, qt_sshr, qt_ushr, Nat.testBit_eq_decide_div_mod_eq, qt_big, qb_big, qt_s31, qt_l31]
    · refine qb_ext (al_64 ?_); simp [qb_or, qb_and, qb_xor, qt_or, qt_and, qt_xor, qb_lit, qt_lit, qb_m1, qt_m1, qb_not, qt_not, qbn_2, qbn_3, qbn_4, qbn_8, qbn_6145, qbn_786723, qb_ofI, qt_ofL, sh6_lit, sh5_lit, qb_shl, qb_sshr, qb_ushr, qt_shl, qt_sshr, qt_ushr, Nat.testBit_eq_decide_div_mod_eq, qt_big, qb_big, qt_s31, qt_l31]
theorem phX {a : St} (v z : Int64) (K p l : Int32) (hK : K = 0 ∨ K = 1 ∨ K = 2) (hl : l = 0 ∨ l = 1 ∨ l = 2) {kC : Int64 → Int32 → Int32 → Int64 → Int32 → St → Option Int64} (hk : ∀ z r, kC v K p (j_lshl z 12) (l + -1) a = some r → PG v r) : ∀ r, f_X9_physical_b37_s kC v K p (j_lshl z 12) l a = some r → PG v r := by
  intro r h
  unfold f_X9_physical_b37_s f_X9_physical_b156 f_X9_physical_b157 f_X9_physical_b185 at h
  split at h
  · exact PG.of h (PG.pf v K hK)
  · split at h
    · exact PG.of h (PG.af v K hK)
    · generalize f_X10_read _ _ _ = R at h
      cases R with
      | none => cases h
      | some y =>
        rw [Option.bind_some] at h
        split at h
        · split at h
          · split at h
            · exact hk _ _ h
            · exact PG.of h (PG.pf v K hK)
          · split at h
            · rw [if_pos rfl] at h
              exact PG.of h (PG.pf v K hK)
            · generalize f_X9_admits _ _ _ _ = Q at h
              cases Q with
              | none => cases h
              | some q =>
                rw [Option.bind_some] at h
                split at h
                · rw [if_pos rfl] at h
                  exact PG.of h (PG.pf v K hK)
                · rw [if_neg (by decide)] at h
                  split at h
                  · exact PG.of h (PG.pf v K hK)
                  · exact PG.of h (PG.jn v y l hl)
        · exact PG.of h (PG.pf v K hK)
theorem ph_all {a : St} (v : Int64) (K p : Int32) (hK : K = 0 ∨ K = 1 ∨ K = 2) : ∀ r, f_X9_physical v K p a = some r → PG v r := by
  intro r h
  unfold f_X9_physical at h
  split at h
  · have c0 : ∀ z r, f_X9_physical_b37 299997 v K p (j_lshl z 12) (0 + -1) a = some r → PG v r := by
      intro z r q
      have e : f_X9_physical_b37 299997 v K p (j_lshl z 12) (0 + -1) a = some (((-1 : Int32) - (f_X9_pageFault K)).toInt64) := rfl
      rw [e] at q
      exact PG.of q (PG.pf v K hK)
    have c1 : ∀ z r, f_X9_physical_b37 299998 v K p (j_lshl z 12) (1 + -1) a = some r → PG v r := fun z => phX v z K p 0 hK (Or.inl rfl) c0
    have c2 : ∀ z r, f_X9_physical_b37 299999 v K p (j_lshl z 12) (2 + -1) a = some r → PG v r := fun z => phX v z K p 1 hK (Or.inr (Or.inl rfl)) c1
    exact phX v _ K p 2 hK (Or.inr (Or.inr rfl)) c2 r h
  · exact PG.of h (PG.pf v K hK)
theorem rel_reached {a u : St} (h : Rel a u) (K : Int32) (hK : K = 1 ∨ K = 2) {m : Nat} (hm : wid m) (v : Int64) (ro : Int32) :
    (∃ c, c < 64 ∧ ∃ y, f_X6_reached v (nI m) K a = some (y, f_X6_fail (nI c) v a) ∧ f_X12_reach v (nI m) K ro u = some (0, f_X12_fail (nI c) v u))
    ∨ (∃ x, un x % m = 0 ∧ f_X6_reached v (nI m) K a = some (x, a) ∧ f_X12_reach v (nI m) K ro u = f_X12_reach_b67 v (nI m) K ro x u) := by
  have hm0 : 1 ≤ m ∧ m ≤ 8 := by rcases hm with rfl | rfl | rfl | rfl <;> omega
  have hz : ¬ (nI m).toInt64 = 0 := by
    rcases hm with rfl | rfl | rfl | rfl <;> decide
  have hK3 : K = 0 ∨ K = 1 ∨ K = 2 := Or.inr hK
  unfold f_X6_reached f_X12_reach
  rw [if_pos hz]
  by_cases al : un v % m = 0
  · rw [if_pos ((al_and v hm).mpr al), if_pos ((al_rem v hm).mpr al)]
    obtain ⟨t1, t2, t3, r, t4⟩ := rel_tr h K hK3 v
    rw [t4] at t3
    rw [t4, Option.bind_some, t1]
    rcases t2 with p | p
    · rw [p] at t3
      rw [p]
      rw [if_pos rfl] at t3
      cases t3
      right
      exact ⟨v, al, by rw [if_pos rfl], by rw [if_pos rfl]⟩
    · rw [p] at t3
      rw [p]
      rw [if_neg n10] at t3
      have hp := t3.symm
      rw [if_neg n10, if_neg n10, hp, Option.bind_some]
      rcases ph_all v K _ hK3 r hp with ⟨q1, q2⟩ | ⟨q1, c, q2, q3⟩
      · right
        have q0 : (0 : Int64) ≤ r := Int64.not_lt.mp q1
        refine ⟨r, ?_, by rw [if_pos q0]; rfl, by rw [if_pos q0]⟩
        rcases hm with rfl | rfl | rfl | rfl <;> omega
      · left
        have q0 : ¬ (0 : Int64) ≤ r := Int64.not_le.mpr q1
        refine ⟨c, q2, r, ?_, ?_⟩
        · rw [if_neg q0, q3]; rfl
        · rw [if_neg q0, q3]
  · rw [if_neg (fun q => al ((al_and v hm).mp q)), if_neg (fun q => al ((al_rem v hm).mp q))]
    left
    rcases hK with rfl | rfl
    · exact ⟨4, by omega, 0, rfl, rfl⟩
    · exact ⟨6, by omega, 0, rfl, rfl⟩
theorem rel_half {a u : St} (h : Rel a u) (c0 : gI a 18 = -1) (v : Int64) (hv : v &&& 1 = 0) :
    (∃ x : Int32, x &&& 65535 = x ∧ f_X6_fetchedHalf v a = some (x, a) ∧ f_X12_half v u = some (x.toInt64, u))
    ∨ (∃ c, c < 64 ∧ ∃ y z, f_X6_fetchedHalf v a = some (y, f_X6_fail (nI c) v a) ∧ f_X12_half v u = some (z, f_X12_fail (nI c) v u)) := by
  have hm : wid 2 := Or.inr (Or.inl rfl)
  have hv2 : un v % 2 = 0 := (al_and v hm).mp hv
  obtain ⟨t1, t2, t3, r, t4⟩ := rel_tr h 0 (Or.inl rfl) v
  have key : ∀ x, un x % 2 = 0 → f_X6_reached v 2 0 a = some (x, a) → f_X12_half v u = f_X12_half_b34 v x u → (∃ x : Int32, x &&& 65535 = x ∧ f_X6_fetchedHalf v a = some (x, a) ∧ f_X12_half v u = some (x.toInt64, u))
    ∨ (∃ c, c < 64 ∧ ∃ y z, f_X6_fetchedHalf v a = some (y, f_X6_fail (nI c) v a) ∧ f_X12_half v u = some (z, f_X12_fail (nI c) v u)) := by
    intro x hx e1 e2
    obtain ⟨P, hN, hM⟩ := h.lens
    have hP := hN.2.1
    unfold f_X6_fetchedHalf
    rw [e1, Option.bind_some, e2, if_pos c0]
    unfold f_X12_half_b34
    show _ ∨ _
    rcases ram_cases hN (m := 2) (by omega) (by omega) x with ⟨h1, h2⟩ | ⟨i, hi, ex, hx2, h1, h2⟩
    · right
      rw [show f_X10_place x 2 a = -1 from h1, show f_X12_isRam x 2 u = 0 from h2, if_pos rfl, if_pos rfl]
      refine ⟨1, by omega, 0, 0, ?_, rfl⟩
      unfold f_X6_fetchedHalf_b47 f_X10_read
      rw [if_pos (by decide)]
      rfl
    · left
      have hal : i % 2 = 0 := by
        rw [ex, un_lN] at hx
        omega
      obtain ⟨e, r1, r2, r3⟩ := rel_ramAt hN hM (m := 2) hm hi hal hx2
      have he : e.toInt32 &&& 65535 = e.toInt32 := by
        refine qt_ext (fun j hj => ?_)
        have e3 : qt 65535 j = decide (j < 16) := by
          rw [qt_lit]
          show (decide (j < 32) && Nat.testBit (2 ^ 16 - 1) j) = _
          rw [Nat.testBit_two_pow_sub_one]
          by_cases c : j < 16 <;> simp [c]
          omega
        rw [qt_and, qt_ofL, e3]
        by_cases c : j < 16
        · simp [c, hj]
        · rw [r3 j (by omega)]; simp
      have he2 : e = e.toInt32.toInt64 := by
        refine qb_ext (fun j hj => ?_)
        rw [qb_ofI, qt_ofL, qt_ofL]
        by_cases c : j < 32
        · simp [c, hj]
        · rw [r3 j (by omega), r3 31 (by omega)]; simp
      refine ⟨e.toInt32, he, ?_, ?_⟩
      · rw [show f_X10_place x 2 a = nI i from h1, if_neg (nI_m1 (by omega))]
        unfold f_X6_fetchedHalf_b47
        rw [show f_X10_read (nI i) 2 a = some e from r1]
        rfl
      · rw [show f_X12_isRam x 2 u = 1 from h2, if_neg n10, show f_X12_ramAt x 2 u = some e from r2, ← he2]
        rfl
  have hv1 : v &&& ((2 : Int32) - 1).toInt64 = 0 := hv
  rw [t4] at t3
  rcases t2 with p | p
  · rw [p] at t3
    rw [if_pos rfl] at t3
    cases t3
    refine key v hv2 ?_ ?_
    · unfold f_X6_reached
      rw [if_pos hv1, p, if_pos rfl]
    · unfold f_X12_half
      rw [t4, Option.bind_some, t1, p, if_pos rfl]
  · rw [p] at t3
    rw [if_neg n10] at t3
    have hp := t3.symm
    rcases ph_all v 0 _ (Or.inl rfl) r hp with ⟨q1, q2⟩ | ⟨q1, c, q2, q3⟩
    · have q0 : (0 : Int64) ≤ r := Int64.not_lt.mp q1
      refine key r (by omega) ?_ ?_
      · unfold f_X6_reached
        rw [if_pos hv1, p, if_neg n10, hp, Option.bind_some, if_pos q0]
        rfl
      · unfold f_X12_half
        rw [t4, Option.bind_some, t1, p, if_neg n10, if_pos q0]
    · have q0 : ¬ (0 : Int64) ≤ r := Int64.not_le.mpr q1
      right
      refine ⟨c, q2, 0, 0, ?_, ?_⟩
      · unfold f_X6_fetchedHalf f_X6_reached
        rw [if_pos hv1, p, if_neg n10, hp, Option.bind_some, if_neg q0, q3]
        show (if gI (f_X6_fail (nI c) v a) 18 = -1 then _ else _) = _
        rw [if_neg (show ¬ gI (f_X6_fail (nI c) v a) 18 = -1 from nI_m1 (by omega))]
      · unfold f_X12_half
        rw [t4, Option.bind_some, t1, p, if_neg n10, if_neg q0, q3]

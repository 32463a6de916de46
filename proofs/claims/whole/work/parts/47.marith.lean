def un (x : Int64) : Nat := x.toBitVec.toNat
theorem un_lt (x : Int64) : un x < 18446744073709551616 := x.toBitVec.isLt
theorem un_ext {x y : Int64} (h : un x = un y) : x = y := Int64.toBitVec_inj.1 (BitVec.eq_of_toNat_eq h)
theorem un_add (x y : Int64) : un (x + y) = (un x + un y) % 18446744073709551616 := by
  unfold un; rw [Int64.toBitVec_add, BitVec.toNat_add]
theorem un_mul (x y : Int64) : un (x * y) = (un x * un y) % 18446744073709551616 := by
  unfold un; rw [Int64.toBitVec_mul, BitVec.toNat_mul]
theorem un_sub (x y : Int64) : un (x - y) = (18446744073709551616 - un y + un x) % 18446744073709551616 := by
  unfold un; rw [Int64.toBitVec_sub, BitVec.toNat_sub]
theorem un_lN (n : Nat) : un (lN n) = n % 18446744073709551616 := BitVec.toNat_ofNat n 64
theorem un_self (x : Int64) : lN (un x) = x := (lN_self x).symm
theorem un_bit (x : Int64) (i : Nat) : (un x).testBit i = qb x i := rfl
theorem un_ushr (x : Int64) (y : Int32) : un (j_lushr x y) = un x / 2 ^ sh6 y := by
  refine Nat.eq_of_testBit_eq (fun i => ?_)
  rw [un_bit, qb_ushr, Nat.testBit_div_two_pow, un_bit, Nat.add_comm]
theorem un_low (x : Int64) : un (x &&& 4294967295) = un x % 4294967296 := by
  refine Nat.eq_of_testBit_eq (fun i => ?_)
  rw [un_bit, qb_and, show (4294967296 : Nat) = 2 ^ 32 from rfl, Nat.testBit_mod_two_pow, un_bit, qb_lit]
  show (qb x i && (decide (i < 64) && Nat.testBit (2 ^ 32 - 1) i)) = _
  rw [Nat.testBit_two_pow_sub_one]
  by_cases h : i < 32
  · simp [h, show i < 64 by omega]
  · simp [h]
theorem un_toInt (x : Int64) : x.toInt = if un x < 9223372036854775808 then (un x : Int) else (un x : Int) - 18446744073709551616 := by
  have e : x.toInt = x.toBitVec.toInt := rfl
  rw [e, BitVec.toInt_eq_toNat_cond]
  have e2 : x.toBitVec.toNat = un x := rfl
  rw [e2]
  have : (2 : Nat) ^ 64 = 18446744073709551616 := by decide
  rw [this]
  by_cases h : un x < 9223372036854775808
  · rw [if_pos h, if_pos (by omega)]
  · rw [if_neg h, if_neg (by omega)]
    rfl
theorem un_neg (x : Int64) : x < 0 ↔ 9223372036854775808 ≤ un x := by
  rw [Int64.lt_iff_toInt_lt, un_toInt, show (0 : Int64).toInt = 0 from rfl]
  have := un_lt x
  split <;> omega
theorem un_pos (x : Int64) : 0 < x ↔ 0 < un x ∧ un x < 9223372036854775808 := by
  rw [Int64.lt_iff_toInt_lt, show (0 : Int64).toInt = 0 from rfl, un_toInt]
  have := un_lt x
  split <;> omega
theorem un_zero (x : Int64) : x = 0 ↔ un x = 0 := ⟨fun h => by rw [h]; rfl, fun h => un_ext (by rw [h]; rfl)⟩
theorem un_less (x y : Int64) : (y + (-9223372036854775808 : Int64) ≤ x + (-9223372036854775808 : Int64)) ↔ un y ≤ un x := by
  rw [Int64.le_iff_toInt_le, un_toInt, un_toInt, un_add, un_add, show un (-9223372036854775808) = 9223372036854775808 from rfl]
  have h1 := un_lt x
  have h2 := un_lt y
  split <;> split <;> omega
theorem bl_eq (x y : Int64) : f_X0_below x y = f_X12_isLess x y := rfl
theorem bl_v (x y : Int64) : f_X12_isLess x y = if un y ≤ un x then 0 else 1 := by
  unfold f_X12_isLess
  by_cases h : un y ≤ un x
  · rw [if_pos h, if_pos ((un_less x y).mpr h)]
  · rw [if_neg h, if_neg (fun q => h ((un_less x y).mp q))]
theorem bl_01 (x y : Int64) : f_X12_isLess x y = 0 ∨ f_X12_isLess x y = 1 := by
  rw [bl_v]; split
  · exact Or.inl rfl
  · exact Or.inr rfl
theorem up_eq (x y : Int64) : f_X0_upperUnsigned x y = f_X12_upper x y := by
  unfold f_X0_upperUnsigned f_X12_upper
  apply un_ext
  have hs : sh6 32 = 32 := rfl
  have hx := un_lt x
  have hy := un_lt y
  simp only [un_add, un_mul, un_ushr, un_low, hs]
  have e : (2 : Nat) ^ 32 = 4294967296 := by decide
  rw [e]
  have a1 : un x / 4294967296 ≤ 4294967295 := by omega
  have a2 : un x % 4294967296 ≤ 4294967295 := by omega
  have b1 : un y / 4294967296 ≤ 4294967295 := by omega
  have b2 : un y % 4294967296 ≤ 4294967295 := by omega
  generalize un x / 4294967296 = xh at *
  generalize un x % 4294967296 = xl at *
  generalize un y / 4294967296 = yh at *
  generalize un y % 4294967296 = yl at *
  have m1 := Nat.mul_le_mul a1 b2
  have m2 := Nat.mul_le_mul a2 b1
  have m3 := Nat.mul_le_mul a2 b2
  generalize xh * yl = p at *
  generalize xl * yh = q at *
  generalize xl * yl = r at *
  generalize xh * yh = t at *
  omega
theorem shl1 (n t : Nat) (ht : t < 2) : (j_lshl (lN n) (1 : Int32)) ||| lN t = lN (2 * n + t) := by
  have hm : ∀ m i : Nat, qb (lN m) i = (decide (i < 64) && m.testBit i) := fun m i => BitVec.getLsbD_ofNat 64 m i
  refine qb_ext (fun i hi => ?_)
  rw [qb_or, qb_shl, hm, hm, hm, show sh6 1 = 1 from rfl]
  match i with
  | 0 =>
    simp [Nat.testBit_zero]
  | i + 1 =>
    have e : (2 * n + t).testBit (i + 1) = n.testBit i := by
      rw [Nat.testBit_succ]
      congr 1
      omega
    have e2 : t.testBit (i + 1) = false := by
      rw [Nat.testBit_succ, show t / 2 = 0 by omega]
      exact Nat.zero_testBit i
    simp [e, e2, show i < 64 by omega, show i + 1 < 64 by omega]
theorem quoL {a b : Int64} (hb : 0 < un b) : ∀ k, k ≤ 64 → ∀ n, k < n → ∀ q r : Nat, r < un b → un a / 2 ^ k = q * un b + r → f_X12_quotient_b10 n a b (lN q) (lN r) (nI k - 1) = some (lN (un a / un b)) := by
  intro k
  induction k with
  | zero =>
    intro _ n hn q r hr he
    obtain ⟨n, rfl⟩ : ∃ m, n = m + 1 := ⟨n - 1, by omega⟩
    show f_X12_quotient_b10_s _ _ _ _ _ _ = _
    unfold f_X12_quotient_b10_s
    rw [if_pos (by decide)]
    rw [Nat.pow_zero, Nat.div_one] at he
    rw [he, Nat.add_comm, Nat.add_mul_div_right _ _ hb, Nat.div_eq_of_lt hr, Nat.zero_add]
  | succ k ih =>
    intro hk n hn q r hr he
    obtain ⟨n, rfl⟩ : ∃ m, n = m + 1 := ⟨n - 1, by omega⟩
    show f_X12_quotient_b10_s _ _ _ _ _ _ = _
    unfold f_X12_quotient_b10_s
    have hbl := un_lt b
    rw [nI_pred, if_neg (nI_pos (by omega))]
    have hbit : ((j_lushr a (nI k)) &&& (1 : Int64)) = lN (un a / 2 ^ k % 2) := by
      have s : sh6 (nI k) = k := by
        show k % 4294967296 % 64 = k
        rw [Nat.mod_eq_of_lt (by omega), Nat.mod_eq_of_lt (by omega)]
      rw [ts_u, s]
      have t : qb a k = (un a / 2 ^ k).testBit 0 := by
        rw [Nat.testBit_div_two_pow, un_bit, Nat.zero_add]
      rw [t, Nat.testBit_zero]
      rcases Nat.mod_two_eq_zero_or_one (un a / 2 ^ k) with c | c <;> rw [c] <;> rfl
    have hR : (j_lshl (lN r) (1 : Int32)) ||| ((j_lushr a (nI k)) &&& (1 : Int64)) = lN (2 * r + un a / 2 ^ k % 2) := by
      rw [hbit]
      exact shl1 r _ (Nat.mod_lt _ (by decide))
    have hq0 : (j_lshl (lN q) (1 : Int32)) ||| (0 : Int64) = lN (2 * q) := shl1 q 0 (by decide)
    have hq1 : (j_lshl (lN q) (1 : Int32)) ||| (1 : Int64) = lN (2 * q + 1) := shl1 q 1 (by decide)
    have hd : un a / 2 ^ (k + 1) = un a / 2 ^ k / 2 := by rw [Nat.pow_succ, Nat.div_div_eq_div_mul]
    have hb2 : un a / 2 ^ k % 2 < 2 := Nat.mod_lt _ (by decide)
    have hsum : un a / 2 ^ k = 2 * (q * un b) + (2 * r + un a / 2 ^ k % 2) := by omega
    generalize un a / 2 ^ k % 2 = t at *
    have m1 : (2 * q) * un b = 2 * (q * un b) := Nat.mul_assoc 2 q (un b)
    have m2 : (2 * q + 1) * un b = 2 * (q * un b) + un b := by rw [Nat.add_mul, Nat.one_mul, m1]
    have fit : un b ≤ 2 * r + t → f_X12_quotient_b56 (f_X12_quotient_b10 n) a b (lN q) (lN (2 * r + t)) (nI k) = some (lN (un a / un b)) := by
      intro hf
      unfold f_X12_quotient_b56 f_X12_quotient_b61 f_X12_quotient_b77 f_X12_quotient_b93
      rw [if_neg (by decide), if_neg (by decide), hq1]
      have hs : lN (2 * r + t) - b = lN (2 * r + t - un b) := by
        rw [← lN_sub hf, un_self]
      rw [hs, show nI k + (-1 : Int32) = nI k - 1 from nm1 k]
      exact ih (by omega) n (by omega) _ _ (by omega) (by omega)
    by_cases c0 : (0 : Int64) ≤ lN r
    · rw [if_pos c0]
      have hr63 : r < 9223372036854775808 := by
        have := mt (un_neg (lN r)).mpr (Int64.not_lt.mpr c0)
        rw [un_lN] at this
        omega
      unfold f_X12_quotient_b27
      rw [if_pos rfl, hR, bl_v, un_lN]
      have e1 : (2 * r + t) % 18446744073709551616 = 2 * r + t := by omega
      rw [e1]
      by_cases c1 : un b ≤ 2 * r + t
      · rw [if_pos c1, if_pos rfl]
        exact fit c1
      · rw [if_neg c1, if_neg (by decide)]
        unfold f_X12_quotient_b61 f_X12_quotient_b77 f_X12_quotient_b93
        rw [if_pos rfl, if_pos rfl, hq0, show nI k + (-1 : Int32) = nI k - 1 from nm1 k]
        exact ih (by omega) n (by omega) _ _ (by omega) (by omega)
    · rw [if_neg c0]
      have hr63 : 9223372036854775808 ≤ r := by
        have := (un_neg (lN r)).mp (Int64.not_le.mp c0)
        rw [un_lN] at this
        omega
      unfold f_X12_quotient_b27
      rw [if_neg (by decide), hR]
      exact fit (by omega)
theorem quo {a b : Int64} (hb : ¬ b = 0) : f_X12_quotient a b = some (lN (un a / un b)) := by
  have h0 : 0 < un b := by
    rcases Nat.eq_zero_or_pos (un b) with c | c
    · exact absurd ((un_zero b).mpr c) hb
    · exact c
  have ha := un_lt a
  exact quoL h0 64 (by omega) FU (by unfold FU; omega) 0 0 h0 (by rw [Nat.div_eq_of_lt (by omega)]; omega)
theorem quoU {a b : Int64} (hb : ¬ b = 0) : f_X0_quotientUnsigned a b = some (lN (un a / un b)) := by
  have h0 : 0 < un b := by
    rcases Nat.eq_zero_or_pos (un b) with c | c
    · exact absurd ((un_zero b).mpr c) hb
    · exact c
  have ha := un_lt a
  have hbl := un_lt b
  unfold f_X0_quotientUnsigned f_X0_quotientUnsigned_b20
  by_cases c1 : 0 < b
  · rw [if_pos c1]
    have hb63 := ((un_pos b).mp c1).2
    by_cases c2 : a < 0
    · rw [if_pos c2, if_pos hb]
      have h1 : j_lushr a 1 = lN (un a / 2) := by
        apply un_ext
        rw [un_ushr, un_lN, show sh6 1 = 1 from rfl, Nat.pow_one]
        omega
      have h2 : j_lushr a 1 / b = lN (un a / 2 / un b) := by
        rw [h1]
        conv => lhs; rw [← un_self b]
        exact pk_lDiv (by omega) h0 hb63
      have h3 : j_lshl (j_lushr a 1 / b) 1 = lN (2 * (un a / 2 / un b)) := by
        rw [h2]
        have := shl1 (un a / 2 / un b) 0 (by decide)
        rw [show lN 0 = 0 from rfl, Int64.or_zero] at this
        exact this
      rw [h3]
      have hdm := Nat.div_add_mod (un a / 2) (un b)
      have hml := Nat.mod_lt (un a / 2) h0
      have m1 : (2 * (un a / 2 / un b)) * un b = 2 * (un b * (un a / 2 / un b)) := by
        rw [Nat.mul_assoc, Nat.mul_comm (un a / 2 / un b)]
      have h4 : a - lN (2 * (un a / 2 / un b)) * b = lN (un a - 2 * (un b * (un a / 2 / un b))) := by
        have q : lN (2 * (un a / 2 / un b)) * b = lN (2 * (un b * (un a / 2 / un b))) := by
          conv => lhs; rw [← un_self b]
          rw [lN_mul, un_self, m1]
        rw [q]
        have q5 : lN (un a) - lN (2 * (un b * (un a / 2 / un b))) = lN (un a - 2 * (un b * (un a / 2 / un b))) := lN_sub (by omega)
        rw [un_self] at q5
        exact q5
      rw [h4, bl_eq, bl_v, un_lN]
      generalize hz : un a / 2 / un b = z at *
      generalize un b * z = p at *
      have e1 : (un a - 2 * p) % 18446744073709551616 = un a - 2 * p := by omega
      rw [e1]
      by_cases c3 : un b ≤ un a - 2 * p
      · rw [if_pos c3, if_pos rfl]
        refine congrArg some ?_
        rw [lN_1]
        refine congrArg lN ?_
        refine Eq.symm (Nat.div_eq_of_lt_le ?_ ?_)
        · rw [Nat.add_mul, m1]; omega
        · rw [Nat.succ_mul, Nat.add_mul, m1]; omega
      · rw [if_neg c3, if_neg (by decide)]
        refine congrArg some (congrArg lN ?_)
        refine Eq.symm (Nat.div_eq_of_lt_le ?_ ?_)
        · rw [m1]; omega
        · rw [Nat.succ_mul, m1]; omega
    · rw [if_neg c2, if_pos hb]
      have ha63 : un a < 9223372036854775808 := by
        have := mt (un_neg a).mpr c2
        omega
      conv => lhs; rw [← un_self a, ← un_self b]
      rw [pk_lDiv ha63 h0 hb63]
  · rw [if_neg c1, if_neg hb]
    have hb63 : 9223372036854775808 ≤ un b := by
      have := mt (un_pos b).mpr c1
      omega
    rw [bl_eq, bl_v]
    by_cases c2 : un b ≤ un a
    · rw [if_pos c2, if_pos rfl]
      have : un a / un b = 1 := Nat.div_eq_of_lt_le (by omega) (by omega)
      rw [this]
      rfl
    · rw [if_neg c2, if_neg (by decide), Nat.div_eq_of_lt (by omega)]
      rfl
theorem dm1_l (x : Int64) : x / -1 = -x := Int64.toInt_inj.1 (by rw [Int64.toInt_div, show (-1 : Int64).toInt = -1 from rfl, Int64.toInt_neg, Int.tdiv_neg, Int.tdiv_one])
theorem dm1_i (x : Int32) : x / -1 = -x := Int32.toInt_inj.1 (by rw [Int32.toInt_div, show (-1 : Int32).toInt = -1 from rfl, Int32.toInt_neg, Int.tdiv_neg, Int.tdiv_one])
theorem rm1_l (x : Int64) : x - x / -1 * -1 = 0 := by
  rw [dm1_l, Int64.neg_mul_neg, Int64.mul_one, Int64.sub_self]
theorem rm1_i (x : Int32) : x - x / -1 * -1 = 0 := by
  rw [dm1_i, Int32.neg_mul_neg, Int32.mul_one, Int32.sub_self]
theorem div_eq (f : Int32) (hf : f = 4 ∨ f = 5 ∨ f = 6 ∨ f = 7) (a b : Int64) : ∃ v, f_X0_product f a b = some v ∧ f_X12_divided f a b = some v := by
  by_cases hb : b = 0
  · subst hb
    rcases hf with rfl | rfl | rfl | rfl
    · exact ⟨_, rfl, rfl⟩
    · exact ⟨_, rfl, rfl⟩
    · exact ⟨_, rfl, rfl⟩
    · exact ⟨_, rfl, rfl⟩
  · unfold f_X0_product f_X12_divided
    rcases hf with rfl | rfl | rfl | rfl
    · by_cases h1 : b = -1
      · subst h1
        exact ⟨-a, by simp [dm1_l], by simp⟩
      · exact ⟨a / b, by simp [hb], by simp [hb, h1]⟩
    · refine ⟨lN (un a / un b), ?_, ?_⟩
      · simp [hb, quoU hb]
      · simp [hb, quo hb]
    · by_cases h1 : b = -1
      · subst h1
        exact ⟨0, by simp [rm1_l], by simp⟩
      · exact ⟨a - a / b * b, by simp [hb], by simp [hb, h1]⟩
    · refine ⟨a - lN (un a / un b) * b, ?_, ?_⟩
      · simp [hb, quoU hb, Int64.mul_comm]
      · simp [hb, quo hb]

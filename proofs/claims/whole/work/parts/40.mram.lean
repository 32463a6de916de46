def sF (u : St) (j : Nat) (f : Nat → Int32) : St := (u.1, u.2.1, (fun q => if q = j then f else u.2.2.1 q), u.2.2.2)
theorem sF_sF (u : St) (j : Nat) (f g : Nat → Int32) : sF (sF u j f) j g = sF u j g := by
  unfold sF
  refine congrArg (fun z => (u.1, u.2.1, z, u.2.2.2)) ?_
  funext q
  by_cases e : q = j <;> simp [e]
theorem sA_sF (u : St) (j i : Nat) (v : Int32) : sA u j i v = sF u j (upd (gA u j) i v) := rfl
theorem gA_sF (u : St) (j : Nat) (f : Nat → Int32) : gA (sF u j f) j = f := if_pos rfl
theorem sF_id (u : St) (j : Nat) : sF u j (gA u j) = u := by
  unfold sF
  refine congrArg (fun z => (u.1, u.2.1, z, u.2.2.2)) ?_
  funext q
  by_cases e : q = j <;> simp [e]
theorem ram_cases {a u : St} {P : Nat} (hN : RelN a u P) {m : Nat} (hm : 1 ≤ m) (hm8 : m ≤ 8) (x : Int64) : (f_X10_place x (nI m) a = -1 ∧ f_X12_isRam x (nI m) u = 0) ∨ (∃ i, i + m ≤ 4096 * P ∧ x = lN (2147483648 + i) ∧ x - 2147483648 = lN i ∧ f_X10_place x (nI m) a = nI i ∧ f_X12_isRam x (nI m) u = 1) := by
  obtain ⟨p0, p1, _, s5, s1, _⟩ := hN
  unfold f_X10_place f_X10_place_b33 f_X12_isRam f_X12_isRam_b36
  have e1 : (gI a 5 - nI m).toInt64 = lN (4096 * P - m) := by rw [s5, pk_sub (by omega), nI_l (by omega)]
  have e2 : (4096 : Int64) * (gI u 1).toInt64 - (nI m).toInt64 = lN (4096 * P - m) := by
    rw [s1, nI_l (by omega), nI_l (by omega), show (4096 : Int64) = lN 4096 from rfl, lN_mul, lN_sub (by omega)]
  rw [e1, e2]
  by_cases h0 : x - 2147483648 < 0
  · left
    rw [if_pos h0, if_pos h0]
    exact ⟨rfl, rfl⟩
  · obtain ⟨k, hk, e⟩ := pk_lOf h0
    rw [if_neg h0, if_neg h0]
    by_cases h1 : 4096 * P - m < k
    · left
      have h2 : lN (4096 * P - m) < x - 2147483648 := by rw [e]; exact (pk_lLT (by omega) hk).mpr h1
      rw [if_pos h2, if_pos h2]
      exact ⟨rfl, rfl⟩
    · right
      have h2 : ¬ lN (4096 * P - m) < x - 2147483648 := by rw [e]; exact fun q => h1 ((pk_lLT (by omega) hk).mp q)
      rw [if_neg h2, if_neg h2]
      refine ⟨k, by omega, ?_, e, by rw [e, lN_i], rfl⟩
      have e3 : x = (x - 2147483648) + 2147483648 := (Int64.sub_add_cancel x _).symm
      rw [e3, e, Nat.add_comm]
      exact lN_add k 2147483648
theorem sh6_8 : ∀ k : Fin 8, sh6 (8 * nI k.val) = 8 * k.val := by decide +kernel
theorem and7 (i : Nat) (hi : i < 2 ^ 31) : nI i &&& 7 = nI (i % 8) := pk_andN (by omega) 3 rfl
theorem shr3 (i : Nat) (hi : i < 2 ^ 31) : nI i >>> ((3 : Int32) &&& 31) = nI (i / 8) := pk_shrN hi _ 3 rfl
theorem sh6_at (i : Nat) (hi : i < 2 ^ 31) : sh6 (8 * (nI i &&& 7)) = 8 * (i % 8) := by
  rw [and7 i hi]
  exact sh6_8 ⟨i % 8, Nat.mod_lt _ (by omega)⟩
theorem sh6_ab : ∀ m : Fin 9, 0 < m.val → sh6 (64 - 8 * nI m.val) = 64 - 8 * m.val := by decide +kernel
def wid (m : Nat) : Prop := m = 1 ∨ m = 2 ∨ m = 4 ∨ m = 8
theorem rd_bits {a : St} {P : Nat} (s5 : gI a 5 = nI (4096 * P)) (n1 : gN a 1 = 512 * P) (hP : P ≤ 64) {i m : Nat} (hm : wid m) (hi : i + m ≤ 4096 * P) : ∃ v, f_X10_read (nI i) (nI m) a = some v ∧ ∀ j, qb v j = (decide (j < 8 * m) && qb (gB a 0 (i / 8)) (8 * (i % 8) + j)) := by
  have hm1 : 1 ≤ m ∧ m ≤ 8 := by rcases hm with h | h | h | h <;> omega
  unfold f_X10_read
  rw [if_neg (nI_pos (by omega)), s5, if_pos (nI_lt (by omega) (by omega)), shr3 i (by omega), if_pos (in_d (N := 512 * P) (by omega) (by omega) n1), nI_clamp (by omega)]
  refine ⟨_, rfl, ?_⟩
  intro j
  have hab := sh6_ab ⟨m, by omega⟩ hm1.1
  simp only at hab
  rw [qb_ushr, qb_shl, qb_ushr, hab, sh6_at i (by omega)]
  by_cases h : j < 8 * m
  · have h1 : 64 - 8 * m + j < 64 := by omega
    have h2 : ¬ 64 - 8 * m + j < 64 - 8 * m := by omega
    have h3 : 64 - 8 * m + j - (64 - 8 * m) = j := by omega
    simp [h, h1, h2, h3]
  · have h1 : ¬ 64 - 8 * m + j < 64 := by omega
    simp [h, h1]
theorem qb_byte (x : Int32) (j : Nat) : qb (x.toInt64 &&& 255) j = (decide (j < 8) && qt x j) := by
  have e2 : Nat.testBit 255 j = decide (j < 8) := Nat.testBit_two_pow_sub_one 8 j
  rw [qb_and, qb_ofI, qb_lit, e2]
  by_cases h : j < 8
  · simp [h, show j < 64 by omega, show j < 32 by omega]
  · simp [h]
theorem ra_bits {u : St} {P : Nat} (n0 : gN u 0 = 262144) (hP : P ≤ 64) {i : Nat} {x : Int64} (hx : x - 2147483648 = lN i) : ∀ k, i + k ≤ 4096 * P → k ≤ 8 → ∀ n, k < n → ∀ v0 : Int64, ∃ v, f_X12_ramAt_b8 n x v0 (nI k - 1) u = some v ∧ ∀ j, j < 64 → qb v j = if j < 8 * k then qt (gA u 0 (i + j / 8)) (j % 8) else qb v0 (j - 8 * k) := by
  intro k
  induction k with
  | zero =>
    intro _ _ n hn v0
    obtain ⟨n, rfl⟩ : ∃ q, n = q + 1 := ⟨n - 1, by omega⟩
    exact ⟨v0, rfl, fun j hj => by simp⟩
  | succ k ih =>
    intro hi hk n hn v0
    obtain ⟨n, rfl⟩ : ∃ q, n = q + 1 := ⟨n - 1, by omega⟩
    show ∃ v, f_X12_ramAt_b8_s (f_X12_ramAt_b8 n) x v0 (nI (k + 1) - 1) u = some v ∧ _
    unfold f_X12_ramAt_b8_s
    rw [nI_pred, if_neg (nI_pos (by omega)), hx, lN_i, nI_add, if_pos (in_d (N := 262144) (by omega) (by omega) n0), nI_clamp (by omega)]
    have e : nI k + -1 = nI k - 1 := by
      rw [Int32.sub_eq_add_neg]
    rw [e]
    obtain ⟨v, h1, h2⟩ := ih (by omega) (by omega) n (by omega) (j_lshl v0 8 ||| (gA u 0 (i + k)).toInt64 &&& 255)
    refine ⟨v, h1, ?_⟩
    intro j hj
    rw [h2 j hj]
    by_cases c1 : j < 8 * k
    · rw [if_pos c1, if_pos (by omega)]
    · rw [if_neg c1, qb_or, qb_byte, qb_shl, show sh6 8 = 8 from rfl]
      by_cases c2 : j < 8 * (k + 1)
      · rw [if_pos c2]
        have d1 : j - 8 * k < 8 := by omega
        have d2 : j / 8 = k := by omega
        have d3 : j % 8 = j - 8 * k := by omega
        simp [d1, d2, d3]
      · rw [if_neg c2]
        have d1 : ¬ j - 8 * k < 8 := by omega
        have d2 : j - 8 * k < 64 := by omega
        have d3 : j - 8 * k - 8 = j - 8 * (k + 1) := by omega
        simp [d1, d2, d3]
theorem rel_ramAt {a u : St} {P : Nat} (hN : RelN a u P) (hM : RelM a u P) {i m : Nat} (hm : wid m) (hi : i + m ≤ 4096 * P) (hal : i % m = 0) {x : Int64} (hx : x - 2147483648 = lN i) : ∃ v, f_X10_read (nI i) (nI m) a = some v ∧ f_X12_ramAt x (nI m) u = some v ∧ ∀ j, 8 * m ≤ j → qb v j = false := by
  obtain ⟨p0, p1, n1, s5, s1, _, _, _, _, n0, _⟩ := hN
  obtain ⟨v, h1, h2⟩ := rd_bits s5 n1 p1 hm hi
  have hm1 : 1 ≤ m ∧ m ≤ 8 := by rcases hm with h | h | h | h <;> omega
  obtain ⟨v', h3, h4⟩ := ra_bits n0 p1 hx m hi hm1.2 FU (by unfold FU; omega) 0
  have e : v' = v := by
    refine qb_ext (fun j hj => ?_)
    rw [h4 j hj, h2 j]
    by_cases c : j < 8 * m
    · rw [if_pos c]
      have q := hM (i + j / 8) (by omega) (j % 8) (by omega)
      rw [← q]
      have d1 : (i + j / 8) / 8 = i / 8 := by rcases hm with h | h | h | h <;> subst h <;> omega
      have d2 : 8 * ((i + j / 8) % 8) + j % 8 = 8 * (i % 8) + j := by rcases hm with h | h | h | h <;> subst h <;> omega
      rw [d1, d2]
      simp [c]
    · rw [if_neg c, qb_lit]
      simp [c]
  subst e
  refine ⟨v', h1, h3, ?_⟩
  intro j hj
  rw [h2 j]
  simp [Nat.not_lt.mpr hj]

def tn (T : Nat → Int32) (p : Nat) : Nat → Int64 → Int64
  | 0, v => v
  | k + 1, v => tn T p k (j_lshl v 8 ||| ((T (p + k)).toInt64 &&& 255))
theorem and_l (x : Int32) : (x &&& 255).toInt64 = x.toInt64 &&& 255 := Int32.toInt64_and x 255
theorem nm1 (k : Nat) : nI k + -1 = nI k - 1 := by rw [Int32.sub_eq_add_neg]
theorem numC {a : St} {T : Nat → Int32} {c p : Nat} (hR : Ring 65536 (gI a 1) (gI a 2) (gA a 0) (gN a 0) T) (hc : gI a 2 = nI c) (hc2 : c ≤ 65536) : ∀ k, p + k ≤ c → ∀ n, k < n → ∀ v : Int64, f_X2_number_o1_b7 n (nI p) v (nI k - 1) a = some (tn T p k v) := by
  intro k
  induction k with
  | zero =>
    intro _ n hn v
    obtain ⟨n, rfl⟩ : ∃ q, n = q + 1 := ⟨n - 1, by omega⟩
    show f_X2_number_o1_b7_s (f_X2_number_o1_b7 n) (nI p) v (nI 0 - 1) a = _
    unfold f_X2_number_o1_b7_s
    rw [if_pos (by decide)]
    rfl
  | succ k ih =>
    intro hp n hn v
    obtain ⟨n, rfl⟩ : ∃ q, n = q + 1 := ⟨n - 1, by omega⟩
    show f_X2_number_o1_b7_s (f_X2_number_o1_b7 n) (nI p) v (nI (k + 1) - 1) a = _
    unfold f_X2_number_o1_b7_s
    rw [nI_pred, if_neg (nI_pos (by omega)), nI_add, at_o1 hR hc hc2 (by omega), Option.bind_some, nm1, and_l]
    exact ih (by omega) n (by omega) _
theorem numM {u : St} {p : Nat} (m5 : gN u 5 = 65536) : ∀ k, p + k ≤ 65536 → ∀ n, k < n → ∀ v : Int64, f_X12_number_b8 n (lN p) v (nI k - 1) u = some (tn (gA u 4) p k v) := by
  intro k
  induction k with
  | zero =>
    intro _ n hn v
    obtain ⟨n, rfl⟩ : ∃ q, n = q + 1 := ⟨n - 1, by omega⟩
    show f_X12_number_b8_s (f_X12_number_b8 n) (lN p) v (nI 0 - 1) u = _
    unfold f_X12_number_b8_s
    rw [if_pos (by decide)]
    rfl
  | succ k ih =>
    intro hp n hn v
    obtain ⟨n, rfl⟩ : ∃ q, n = q + 1 := ⟨n - 1, by omega⟩
    show f_X12_number_b8_s (f_X12_number_b8 n) (lN p) v (nI (k + 1) - 1) u = _
    unfold f_X12_number_b8_s
    rw [nI_pred, if_neg (nI_pos (by omega)), lN_i, nI_add, if_pos (in_d (N := 65536) (by omega) (by omega) m5), nI_clamp (by omega), nm1]
    exact ih (by omega) n (by omega) _
theorem tn_bits (T : Nat → Int32) (p : Nat) : ∀ k, k ≤ 8 → ∀ v j, j < 64 → qb (tn T p k v) j = if j < 8 * k then qt (T (p + j / 8)) (j % 8) else qb v (j - 8 * k) := by
  intro k
  induction k with
  | zero => intro _ v j hj; simp [tn]
  | succ k ih =>
    intro hk v j hj
    show qb (tn T p k _) j = _
    rw [ih (by omega) _ j hj]
    by_cases c1 : j < 8 * k
    · rw [if_pos c1, if_pos (by omega)]
    · rw [if_neg c1, qb_or, qb_byte, qb_shl, show sh6 8 = 8 from rfl]
      by_cases c2 : j < 8 * (k + 1)
      · rw [if_pos c2]
        have d1 : j - 8 * k < 8 := by omega
        have d2 : j / 8 = k := by omega
        have d3 : j % 8 = j - 8 * k := by omega
        simp [d1, d2, d3]
      · rw [if_neg c2]
        have d1 : ¬ j - 8 * k < 8 := by omega
        have d2 : j - 8 * k < 64 := by omega
        have d3 : j - 8 * k - 8 = j - 8 * (k + 1) := by omega
        simp [d1, d2, d3]
theorem lN_self (w : Int64) : w = lN w.toBitVec.toNat := by
  apply Int64.toBitVec_inj.1
  show w.toBitVec = BitVec.ofNat 64 w.toBitVec.toNat
  simp
theorem small_of {w : Int64} {s : Nat} (h : ∀ j, j < 64 → s ≤ j → qb w j = false) : ∃ r, r < 2 ^ s ∧ w = lN r := by
  refine ⟨w.toBitVec.toNat, Nat.lt_pow_two_of_testBit _ ?_, lN_self w⟩
  intro i hi
  rcases Nat.lt_or_ge i 64 with c | c
  · exact h i c hi
  · exact BitVec.getLsbD_of_ge w.toBitVec i c
theorem tn_small (T : Nat → Int32) (p : Nat) {k : Nat} (hk : k ≤ 8) : ∃ r, r < 2 ^ (8 * k) ∧ tn T p k 0 = lN r := by
  refine small_of (fun j hj hs => ?_)
  rw [tn_bits T p k hk 0 j hj, if_neg (by omega), qb_lit]
  simp
theorem lies_cases {S : Nat} (hS : S < 2 ^ 31) (x y : Int64) : (f_X11_lies x y (nI S) = 0 ∧ f_X12_lies x y (lN S) = 0) ∨ (f_X11_lies x y (nI S) = 1 ∧ f_X12_lies x y (lN S) = 1 ∧ ∃ o n, o + n ≤ S ∧ x = lN o ∧ y = lN n) := by
  unfold f_X11_lies f_X11_lies_b34 f_X12_lies f_X12_lies_b26 f_X12_in f_X12_in_b17
  rw [nI_l hS]
  by_cases h0 : x < 0
  · left; simp [h0]
  · obtain ⟨o, ho, rfl⟩ := pk_lOf h0
    by_cases h1 : lN S < lN o
    · left; simp [h0, h1]
    · have h1' : ¬ S < o := fun q => h1 ((pk_lLT (by omega) ho).mpr q)
      by_cases h2 : y < 0
      · left; simp [h0, h1, h2]
      · obtain ⟨n, hn, rfl⟩ := pk_lOf h2
        by_cases h3 : lN S - lN o < lN n
        · left; simp [h0, h1, h2, h3]
        · right
          refine ⟨by simp [h0, h1, h2, h3], by simp [h0, h1, h2, h3], o, n, ?_, rfl, rfl⟩
          rw [lN_sub (by omega), pk_lLT (by omega) hn] at h3
          omega
theorem mk_1 : ∀ (j : Fin 7) (b : Fin 64), qb (f_X12_magic (nI j.val)).toInt64 b.val = (decide (b.val < 8) && qb 282584257676671 (8 * j.val + b.val)) := by decide +kernel
theorem mk_2 : ∀ i : Fin 64, 56 ≤ i.val → qb 282584257676671 i.val = false := by decide +kernel
theorem mark_iff (T : Nat → Int32) : tn T 0 7 0 = 282584257676671 ↔ ∀ j, j < 7 → tn T j 1 0 = (f_X12_magic (nI j)).toInt64 := by
  constructor
  · intro h j hj
    refine qb_ext (fun b hb => ?_)
    rw [tn_bits T j 1 (by omega) 0 b hb, mk_1 ⟨j, hj⟩ ⟨b, hb⟩]
    by_cases c : b < 8
    · have q := congrArg (fun z => qb z (8 * j + b)) h
      rw [tn_bits T 0 7 (by omega) 0 _ (by omega), if_pos (by omega)] at q
      rw [if_pos (by omega)]
      simp only [c, decide_true, Bool.true_and]
      have d1 : 0 + (8 * j + b) / 8 = j + b / 8 := by omega
      have d2 : (8 * j + b) % 8 = b % 8 := by omega
      rw [← q, d1, d2]
    · rw [if_neg (by omega), qb_lit]
      simp [c]
  · intro h
    refine qb_ext (fun i hi => ?_)
    rw [tn_bits T 0 7 (by omega) 0 i hi]
    by_cases c : i < 56
    · rw [if_pos (by omega)]
      have q := congrArg (fun z => qb z (i % 8)) (h (i / 8) (by omega))
      rw [tn_bits T (i / 8) 1 (by omega) 0 _ (by omega), if_pos (by omega), mk_1 ⟨i / 8, by omega⟩ ⟨i % 8, by omega⟩] at q
      have d1 : i % 8 / 8 = 0 := by omega
      have d2 : i % 8 % 8 = i % 8 := by omega
      have d3 : 8 * (i / 8) + i % 8 = i := by omega
      have d4 : i % 8 < 8 := by omega
      simp only [d1, d2, d3, d4, decide_true, Bool.true_and, Nat.add_zero] at q
      rw [Nat.zero_add]
      exact q
    · rw [if_neg (by omega), mk_2 ⟨i, hi⟩ (by simpa using c), qb_lit]
      simp
def RowOK (T : Nat → Int32) (c P p : Nat) : Prop := tn T p 4 0 = 1 → ∃ o s t g, tn T (p + 8) 8 0 = lN o ∧ tn T (p + 32) 8 0 = lN s ∧ tn T (p + 24) 8 0 - 2147483648 = lN t ∧ tn T (p + 40) 8 0 = lN g ∧ o + s ≤ c ∧ t + g ≤ 4096 * P ∧ s ≤ g
def Good (T : Nat → Int32) (c P : Nat) : Prop := ∃ r b, 1 ≤ r ∧ r ≤ 16 ∧ tn T 56 2 0 = lN r ∧ tn T 32 8 0 = lN b ∧ b + 56 * r ≤ c ∧ 64 ≤ c ∧ tn T 24 8 0 &&& 1 = 0 ∧ ∀ k, k < r → RowOK T c P (b + 56 * k)
/-- what the numbers of the tape are -/
def NumC (T : Nat → Int32) (c : Nat) (a : St) : Prop := ∀ p k, p + k ≤ c → k ≤ 8 → f_X2_number_o1 (nI p) (nI k) a = some (tn T p k 0)
def NumM (T : Nat → Int32) (u : St) : Prop := ∀ p k, p + k ≤ 65536 → k ≤ 8 → f_X12_number (lN p) (nI k) u = some (tn T p k 0)
theorem Rel.num {a u : St} (h : Rel a u) : ∃ c, gI a 2 = nI c ∧ c ≤ 65536 ∧ NumC (gA u 4) c a ∧ NumM (gA u 4) u := by
  obtain ⟨P, hI, hL, hS, hA, hN, hM, hT, hG, hO, hV, hW⟩ := h
  obtain ⟨c, hc, hc2, -⟩ := hT.2.cnt
  have m5 : gN u 5 = 65536 := hN.2.2.2.2.2.2.2.2.2.2.2.2.2.2.1
  exact ⟨c, hc, hc2, fun p k hp hk => numC hT.2 hc hc2 k hp FU (by unfold FU; omega) 0, fun p k hp hk => numM m5 k hp FU (by unfold FU; omega) 0⟩
theorem rowE {a u : St} {T : Nat → Int32} {c P p : Nat} (hN : RelN a u P) (i8 : gI u 8 = gI a 2) (hc : gI a 2 = nI c) (hc2 : c ≤ 65536) (nC : NumC T c a) (nM : NumM T u) (hp : p + 56 ≤ c) (x3 : Int64) (x5 : Int32) (hx : x3 + 56 * x5.toInt64 = lN p) (k : Int64 → Int64 → Int32 → St → Option Int32) (x1 : Int64) : ∃ e, f_X11_rowError (nI p) a = some e ∧ ((e = 0 ∧ RowOK T c P p ∧ ((f_X12_number (x3 + 56 * x5.toInt64) 4 u).bind (fun y26 => if y26 = 1 then ((f_X12_number ((x3 + 56 * x5.toInt64) + 32) 8 u).bind (fun y29 => (f_X12_number ((x3 + 56 * x5.toInt64) + 40) 8 u).bind (fun y31 => (f_X12_number ((x3 + 56 * x5.toInt64) + 8) 8 u).bind (fun y33 => if (f_X12_lies y33 y29 ((gI u 8).toInt64)) = 0 then (some (6 : Int32)) else ((f_X12_number ((x3 + 56 * x5.toInt64) + 24) 8 u).bind (fun y36 => if (f_X12_lies (y36 - 2147483648) y31 (4096 * (gI u 1).toInt64)) = 0 then (some 7) else (if y29 ≤ y31 then (f_X12_errorOf_b294 k x1 x3 x5 u) else (some 8)))))))) else (f_X12_errorOf_b294 k x1 x3 x5 u)) = f_X12_errorOf_b294 k x1 x3 x5 u)) ∨ (¬ e = 0 ∧ 0 < e ∧ ((f_X12_number (x3 + 56 * x5.toInt64) 4 u).bind (fun y26 => if y26 = 1 then ((f_X12_number ((x3 + 56 * x5.toInt64) + 32) 8 u).bind (fun y29 => (f_X12_number ((x3 + 56 * x5.toInt64) + 40) 8 u).bind (fun y31 => (f_X12_number ((x3 + 56 * x5.toInt64) + 8) 8 u).bind (fun y33 => if (f_X12_lies y33 y29 ((gI u 8).toInt64)) = 0 then (some (6 : Int32)) else ((f_X12_number ((x3 + 56 * x5.toInt64) + 24) 8 u).bind (fun y36 => if (f_X12_lies (y36 - 2147483648) y31 (4096 * (gI u 1).toInt64)) = 0 then (some 7) else (if y29 ≤ y31 then (f_X12_errorOf_b294 k x1 x3 x5 u) else (some 8)))))))) else (f_X12_errorOf_b294 k x1 x3 x5 u)) = some e))) := by
  obtain ⟨p0, p1, n1, s5, s1, _⟩ := hN
  have c4 : f_X2_number_o1 (nI p) 4 a = some (tn T p 4 0) := nC p 4 (by omega) (by omega)
  have c32 : f_X2_number_o1 (nI p + 32) 8 a = some (tn T (p + 32) 8 0) := by rw [show nI p + 32 = nI (p + 32) from nI_add p 32]; exact nC (p + 32) 8 (by omega) (by omega)
  have c40 : f_X2_number_o1 (nI p + 40) 8 a = some (tn T (p + 40) 8 0) := by rw [show nI p + 40 = nI (p + 40) from nI_add p 40]; exact nC (p + 40) 8 (by omega) (by omega)
  have c8 : f_X2_number_o1 (nI p + 8) 8 a = some (tn T (p + 8) 8 0) := by rw [show nI p + 8 = nI (p + 8) from nI_add p 8]; exact nC (p + 8) 8 (by omega) (by omega)
  have c24 : f_X2_number_o1 (nI p + 24) 8 a = some (tn T (p + 24) 8 0) := by rw [show nI p + 24 = nI (p + 24) from nI_add p 24]; exact nC (p + 24) 8 (by omega) (by omega)
  have m4 : f_X12_number (lN p) 4 u = some (tn T p 4 0) := nM p 4 (by omega) (by omega)
  have m32 : f_X12_number (lN p + 32) 8 u = some (tn T (p + 32) 8 0) := by rw [show lN p + 32 = lN (p + 32) from lN_add p 32]; exact nM (p + 32) 8 (by omega) (by omega)
  have m40 : f_X12_number (lN p + 40) 8 u = some (tn T (p + 40) 8 0) := by rw [show lN p + 40 = lN (p + 40) from lN_add p 40]; exact nM (p + 40) 8 (by omega) (by omega)
  have m8 : f_X12_number (lN p + 8) 8 u = some (tn T (p + 8) 8 0) := by rw [show lN p + 8 = lN (p + 8) from lN_add p 8]; exact nM (p + 8) 8 (by omega) (by omega)
  have m24 : f_X12_number (lN p + 24) 8 u = some (tn T (p + 24) 8 0) := by rw [show lN p + 24 = lN (p + 24) from lN_add p 24]; exact nM (p + 24) 8 (by omega) (by omega)
  have q8 : (gI u 8).toInt64 = lN c := by rw [i8, hc, nI_l (by omega)]
  have q1 : (4096 : Int64) * (gI u 1).toInt64 = lN (4096 * P) := by rw [s1, nI_l (by omega)]; exact lN_mul 4096 P
  unfold f_X11_rowError f_X2_size_o1
  rw [hx, c4, m4]
  simp only [Option.bind_some]
  by_cases e1 : tn T p 4 0 = 1
  · rw [if_pos e1, if_pos e1, c32, m32, c40, m40, c8, m8, c24, m24, hc, q8, s5, q1]
    simp only [Option.bind_some]
    rcases lies_cases (S := c) (by omega) (tn T (p + 8) 8 0) (tn T (p + 32) 8 0) with ⟨l1, l2⟩ | ⟨l1, l2, o, s, hos, eo, es⟩
    · rw [l1, l2, if_pos rfl, if_pos rfl]
      exact ⟨6, rfl, Or.inr ⟨by decide, by decide, rfl⟩⟩
    · rw [l1, l2, if_neg n10, if_neg n10]
      rcases lies_cases (S := 4096 * P) (by omega) (tn T (p + 24) 8 0 - 2147483648) (tn T (p + 40) 8 0) with ⟨l3, l4⟩ | ⟨l3, l4, t, g, htg, et, eg⟩
      · rw [l3, l4, if_pos rfl, if_pos rfl]
        exact ⟨7, rfl, Or.inr ⟨by decide, by decide, rfl⟩⟩
      · rw [l3, l4, if_neg n10, if_neg n10]
        by_cases e2 : tn T (p + 32) 8 0 ≤ tn T (p + 40) 8 0
        · rw [if_pos e2, if_pos e2]
          refine ⟨0, rfl, Or.inl ⟨rfl, fun _ => ⟨o, s, t, g, eo, es, et, eg, hos, htg, ?_⟩, rfl⟩⟩
          rw [es, eg, pk_lLE (by omega) (by omega)] at e2
          exact e2
        · rw [if_neg e2, if_neg e2]
          exact ⟨8, rfl, Or.inr ⟨by decide, by decide, rfl⟩⟩
  · rw [if_neg e1, if_neg e1]
    exact ⟨0, rfl, Or.inl ⟨rfl, fun q => absurd q e1, rfl⟩⟩

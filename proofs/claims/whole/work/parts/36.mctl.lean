theorem and1 (x : Int32) : x &&& 1 = 0 ∨ x &&& 1 = 1 := by
  obtain ⟨j, hj, e⟩ := pk_andE x (m := 1) 1 rfl
  rw [e]
  match j, hj with
  | 0, _ => exact Or.inl rfl
  | 1, _ => exact Or.inr rfl
theorem n10 : ¬ (1 : Int32) = 0 := by decide
theorem n01 : ¬ (0 : Int32) = 1 := by decide
theorem in_d {s N : Nat} (h : s < N) (hN : N < 2 ^ 31) {n : Nat} (e : n = N) : inB (nI s) n := by subst e; exact nI_in h hN
theorem nI8 {s : Nat} (h : s < 8) : ¬ (8 : Int32) ≤ nI s := nI_ge (b := 8) h (by omega)
theorem nI7 {s : Nat} (h : s < 8) : ¬ (7 : Int32) < nI s := nI_nlt (a := 7) (by omega) (by omega)
theorem asks1 (c : Int32) (u : St) : ∀ d, d ≤ 7 → ∀ n, d < n → f_X12_asks_b4 n c 1 (nI (8 - d)) u = some 1 := by
  intro d
  induction d with
  | zero => intro _ n hn; obtain ⟨m, rfl⟩ : ∃ m, n = m + 1 := ⟨n - 1, by omega⟩; rfl
  | succ d ih =>
    intro hd n hn
    obtain ⟨m, rfl⟩ : ∃ m, n = m + 1 := ⟨n - 1, by omega⟩
    show f_X12_asks_b4_s (f_X12_asks_b4 m) c 1 (nI (8 - (d + 1))) u = some 1
    unfold f_X12_asks_b4_s f_X12_asks_b48 f_X12_asks_b53
    rw [if_neg (nI8 (by omega)), if_neg n10, nI_1, show 8 - (d + 1) + 1 = 8 - d by omega]
    exact ih (by omega) m (by omega)
theorem asksL (a u : St) (c : Int32) (n2 : gN a 2 = 8) (m2 : gN u 2 = 8) (hc3 : inB c (gN u 3)) (hc4 : inB c (gN a 4)) (hc4u : inB c (gN u 4)) (i5 : gI u 5 = gI a 7) (e1 : gA u 1 = gA a 1) (e2 : gA u 2 = gA a 2) (e3 : gA u 3 = gA a 3) : ∀ d, d ≤ 7 → ∀ n m, d < n → d < m → f_X3_calls_b25 n c (gI a 7 &&& gA a 2 c.toNatClampNeg) (nI (8 - d)) a = f_X12_asks_b4 m c 0 (nI (8 - d)) u := by
  intro d
  induction d with
  | zero => intro _ n m hn hm; obtain ⟨n, rfl⟩ : ∃ k, n = k + 1 := ⟨n - 1, by omega⟩; obtain ⟨m, rfl⟩ : ∃ k, m = k + 1 := ⟨m - 1, by omega⟩; rfl
  | succ d ih =>
    intro hd n m hn hm
    obtain ⟨n, rfl⟩ : ∃ k, n = k + 1 := ⟨n - 1, by omega⟩
    obtain ⟨m, rfl⟩ : ∃ k, m = k + 1 := ⟨m - 1, by omega⟩
    show f_X3_calls_b25_s (f_X3_calls_b25 n) c _ (nI (8 - (d + 1))) a = f_X12_asks_b4_s (f_X12_asks_b4 m) c 0 (nI (8 - (d + 1))) u
    unfold f_X3_calls_b25_s f_X3_calls_b59 f_X12_asks_b4_s f_X12_asks_b48 f_X12_asks_b52 f_X12_asks_b53
    have hi := ih (by omega) n m (by omega) (by omega)
    have h1 := asks1 c u d (by omega) m (by omega)
    rw [if_neg (nI7 (by omega)), if_neg (nI8 (by omega)), if_pos rfl, if_pos hc3, i5, e1, e2, e3, if_pos (in_d (by omega) (by omega) m2), if_pos hc4u, if_pos (in_d (by omega) (by omega) n2), if_pos hc4, nI_1, show 8 - (d + 1) + 1 = 8 - d by omega]
    rcases and1 ((gI a 7 &&& gA a 2 c.toNatClampNeg) >>> (nI (8 - (d + 1)) &&& 31)) with e | e
    · rw [e, if_pos rfl, if_neg n01]
      exact hi
    · rw [e, if_neg n10, if_pos rfl]
      by_cases h : gA a 1 (nI (8 - (d + 1))).toNatClampNeg ≤ gA a 3 c.toNatClampNeg
      · rw [if_pos h, if_pos h]
        exact hi
      · rw [if_neg h, if_neg h]
        exact h1.symm
theorem asks0 (a u : St) (c : Int32) (m2 : gN u 2 = 8) (hc3 : inB c (gN u 3)) (hc4u : inB c (gN u 4)) (h0 : gI u 5 &&& gA u 2 c.toNatClampNeg = 0) : ∀ d, d ≤ 7 → ∀ m, d < m → f_X12_asks_b4 m c 0 (nI (8 - d)) u = some 0 := by
  intro d
  induction d with
  | zero => intro _ m hm; obtain ⟨m, rfl⟩ : ∃ k, m = k + 1 := ⟨m - 1, by omega⟩; rfl
  | succ d ih =>
    intro hd m hm
    obtain ⟨m, rfl⟩ : ∃ k, m = k + 1 := ⟨m - 1, by omega⟩
    show f_X12_asks_b4_s (f_X12_asks_b4 m) c 0 (nI (8 - (d + 1))) u = _
    unfold f_X12_asks_b4_s f_X12_asks_b48 f_X12_asks_b52 f_X12_asks_b53
    have e : (0 : Int32) >>> (nI (8 - (d + 1)) &&& 31) &&& 1 = 0 := by rw [Int32.zero_shiftRight]; rfl
    rw [if_neg (nI8 (by omega)), if_pos rfl, if_pos hc3, h0, e, if_neg n01, nI_1, show 8 - (d + 1) + 1 = 8 - d by omega]
    exact ih (by omega) m (by omega)
theorem rel_calls {a u : St} (h : Rel a u) (c : Int32) (hc : c = 0 ∨ c = 1) : f_X3_calls c a = f_X12_asks c u := by
  obtain ⟨P, hN, -⟩ := h.lens
  have hA := h.rows
  have i5 := h.ints.2.2.1
  obtain ⟨_, _, _, _, _, n2, n3, n4, n7, _, m1, m2, m3, m4, _⟩ := hN
  have hc1 : c &&& 1 = c := by rcases hc with rfl | rfl <;> rfl
  have hcc : ∀ n, n = 2 → inB c n := by
    intro n e
    rcases hc with rfl | rfl
    · exact in_d (s := 0) (by omega) (by omega) e
    · exact in_d (s := 1) (by omega) (by omega) e
  unfold f_X3_calls f_X12_asks
  rw [hc1, if_pos (hcc _ n3)]
  by_cases z : gI a 7 &&& gA a 2 c.toNatClampNeg = 0
  · rw [if_pos z]
    exact (asks0 a u c m2 (hcc _ m3) (hcc _ m4) (by rw [i5, hA.2.1]; exact z) 7 (by omega) FU (by decide)).symm
  · rw [if_neg z]
    exact asksL a u c n2 m2 (hcc _ m3) (hcc _ n4) (hcc _ m4) i5 hA.1 hA.2.1 hA.2.2.1 7 (by omega) FU FU (by decide) (by decide)
theorem rel_pend {a u : St} (h : Rel a u) : f_X4_pendingInterrupts a = f_X12_pendings u := by
  obtain ⟨P, hI, hL, hS, -⟩ := id h
  have c0 := rel_calls h 0 (Or.inl rfl)
  have c1 := rel_calls h 1 (Or.inr rfl)
  unfold f_X4_pendingInterrupts f_X12_pendings f_X4_pendingInterrupts_b41 f_X12_pendings_b33 f_X4_pendingInterrupts_b64 f_X12_pendings_b49 f_X4_pendingInterrupts_b87 f_X12_pendings_b65
  rw [c0, c1, hL.1, hL.2.1, hL.2.2.2.2.2.2.1, hS.1]
  rfl

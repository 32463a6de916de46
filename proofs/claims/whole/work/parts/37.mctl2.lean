theorem Rel.L1 {a u : St} (h : Rel a u) (w : Int64) : Rel (sL a 1 w) (sL u 2 w) := by
  obtain ⟨P, hI, hL, hS, hA, hN, hM, hT, hG, hO, hV, hW⟩ := h
  refine ⟨P, hI, ?_, hS, hA, hN, hM, hT, hG, hO, ?_, hW⟩
  · simp only [RelL, gL_sL] at hL ⊢
    simp [hL]
  · exact hV
theorem Rel.L2 {a u : St} (h : Rel a u) (w : Int64) : Rel (sL a 2 w) (sL u 3 w) := by
  obtain ⟨P, hI, hL, hS, hA, hN, hM, hT, hG, hO, hV, hW⟩ := h
  refine ⟨P, hI, ?_, hS, hA, hN, hM, hT, hG, hO, ?_, hW⟩
  · simp only [RelL, gL_sL] at hL ⊢
    simp [hL]
  · exact hV
theorem Rel.L4 {a u : St} (h : Rel a u) (w : Int64) (hw : w &&& 8264106 = w) (hx : w &&& 6144 ≠ 4096) : Rel (sL a 4 w) (sL u 4 w) := by
  obtain ⟨P, hI, hL, hS, hA, hN, hM, hT, hG, hO, hV, hW⟩ := h
  refine ⟨P, hI, ?_, hS, hA, hN, hM, hT, hG, hO, ?_, hW⟩
  · simp only [RelL, gL_sL] at hL ⊢
    simp [hL]
  · obtain ⟨v0, v1, v2, v3, v4, v5, v6, v7⟩ := hV
    exact ⟨v0, v1, v2, hw, hx, v5, v6, v7⟩
theorem Rel.L5 {a u : St} (h : Rel a u) (w : Int64) : Rel (sL a 5 w) (sL u 5 w) := by
  obtain ⟨P, hI, hL, hS, hA, hN, hM, hT, hG, hO, hV, hW⟩ := h
  refine ⟨P, hI, ?_, hS, hA, hN, hM, hT, hG, hO, ?_, hW⟩
  · simp only [RelL, gL_sL] at hL ⊢
    simp [hL]
  · exact hV
theorem Rel.L6 {a u : St} (h : Rel a u) (w : Int64) (hw : w &&& 546 = w) : Rel (sL a 6 w) (sL u 6 w) := by
  obtain ⟨P, hI, hL, hS, hA, hN, hM, hT, hG, hO, hV, hW⟩ := h
  refine ⟨P, hI, ?_, hS, hA, hN, hM, hT, hG, hO, ?_, hW⟩
  · simp only [RelL, gL_sL] at hL ⊢
    simp [hL]
  · obtain ⟨v0, v1, v2, v3, v4, v5, v6, v7⟩ := hV
    exact ⟨v0, v1, v2, v3, v4, v5, hw, v7⟩
theorem Rel.L7 {a u : St} (h : Rel a u) (w : Int64) (hw : w &&& 2730 = w) : Rel (sL a 7 w) (sL u 7 w) := by
  obtain ⟨P, hI, hL, hS, hA, hN, hM, hT, hG, hO, hV, hW⟩ := h
  refine ⟨P, hI, ?_, hS, hA, hN, hM, hT, hG, hO, ?_, hW⟩
  · simp only [RelL, gL_sL] at hL ⊢
    simp [hL]
  · obtain ⟨v0, v1, v2, v3, v4, v5, v6, v7⟩ := hV
    exact ⟨v0, v1, v2, v3, v4, hw, v6, v7⟩
theorem Rel.L8 {a u : St} (h : Rel a u) (w : Int64) : Rel (sL a 8 w) (sL u 14 w) := by
  obtain ⟨P, hI, hL, hS, hA, hN, hM, hT, hG, hO, hV, hW⟩ := h
  refine ⟨P, hI, ?_, hS, hA, hN, hM, hT, hG, hO, ?_, hW⟩
  · simp only [RelL, gL_sL] at hL ⊢
    simp [hL]
  · exact hV
theorem Rel.L9 {a u : St} (h : Rel a u) (w : Int64) : Rel (sL a 9 w) (sL u 23 w) := by
  obtain ⟨P, hI, hL, hS, hA, hN, hM, hT, hG, hO, hV, hW⟩ := h
  refine ⟨P, hI, ?_, hS, hA, hN, hM, hT, hG, hO, ?_, hW⟩
  · simp only [RelL, gL_sL] at hL ⊢
    simp [hL]
  · exact hV
theorem Rel.L10 {a u : St} (h : Rel a u) (w : Int64) : Rel (sL a 10 w) (sL u 15 w) := by
  obtain ⟨P, hI, hL, hS, hA, hN, hM, hT, hG, hO, hV, hW⟩ := h
  refine ⟨P, hI, ?_, hS, hA, hN, hM, hT, hG, hO, ?_, hW⟩
  · simp only [RelL, gL_sL] at hL ⊢
    simp [hL]
  · exact hV
theorem Rel.L11 {a u : St} (h : Rel a u) (w : Int64) : Rel (sL a 11 w) (sL u 16 w) := by
  obtain ⟨P, hI, hL, hS, hA, hN, hM, hT, hG, hO, hV, hW⟩ := h
  refine ⟨P, hI, ?_, hS, hA, hN, hM, hT, hG, hO, ?_, hW⟩
  · simp only [RelL, gL_sL] at hL ⊢
    simp [hL]
  · exact hV
theorem Rel.L12 {a u : St} (h : Rel a u) (w : Int64) : Rel (sL a 12 w) (sL u 8 w) := by
  obtain ⟨P, hI, hL, hS, hA, hN, hM, hT, hG, hO, hV, hW⟩ := h
  refine ⟨P, hI, ?_, hS, hA, hN, hM, hT, hG, hO, ?_, hW⟩
  · simp only [RelL, gL_sL] at hL ⊢
    simp [hL]
  · exact hV
theorem Rel.L13 {a u : St} (h : Rel a u) (w : Int64) : Rel (sL a 13 w) (sL u 9 w) := by
  obtain ⟨P, hI, hL, hS, hA, hN, hM, hT, hG, hO, hV, hW⟩ := h
  refine ⟨P, hI, ?_, hS, hA, hN, hM, hT, hG, hO, ?_, hW⟩
  · simp only [RelL, gL_sL] at hL ⊢
    simp [hL]
  · exact hV
theorem Rel.L14 {a u : St} (h : Rel a u) (w : Int64) : Rel (sL a 14 w) (sL u 10 w) := by
  obtain ⟨P, hI, hL, hS, hA, hN, hM, hT, hG, hO, hV, hW⟩ := h
  refine ⟨P, hI, ?_, hS, hA, hN, hM, hT, hG, hO, ?_, hW⟩
  · simp only [RelL, gL_sL] at hL ⊢
    simp [hL]
  · exact hV
theorem Rel.L15 {a u : St} (h : Rel a u) (w : Int64) (hw : w &&& 1 = 0) : Rel (sL a 15 w) (sL u 11 w) := by
  obtain ⟨P, hI, hL, hS, hA, hN, hM, hT, hG, hO, hV, hW⟩ := h
  refine ⟨P, hI, ?_, hS, hA, hN, hM, hT, hG, hO, ?_, hW⟩
  · simp only [RelL, gL_sL] at hL ⊢
    simp [hL]
  · obtain ⟨v0, v1, v2, v3, v4, v5, v6, v7⟩ := hV
    exact ⟨v0, hw, v2, v3, v4, v5, v6, v7⟩
theorem Rel.L16 {a u : St} (h : Rel a u) (w : Int64) : Rel (sL a 16 w) (sL u 12 w) := by
  obtain ⟨P, hI, hL, hS, hA, hN, hM, hT, hG, hO, hV, hW⟩ := h
  refine ⟨P, hI, ?_, hS, hA, hN, hM, hT, hG, hO, ?_, hW⟩
  · simp only [RelL, gL_sL] at hL ⊢
    simp [hL]
  · exact hV
theorem Rel.L17 {a u : St} (h : Rel a u) (w : Int64) : Rel (sL a 17 w) (sL u 13 w) := by
  obtain ⟨P, hI, hL, hS, hA, hN, hM, hT, hG, hO, hV, hW⟩ := h
  refine ⟨P, hI, ?_, hS, hA, hN, hM, hT, hG, hO, ?_, hW⟩
  · simp only [RelL, gL_sL] at hL ⊢
    simp [hL]
  · exact hV
theorem Rel.L18 {a u : St} (h : Rel a u) (w : Int64) : Rel (sL a 18 w) (sL u 17 w) := by
  obtain ⟨P, hI, hL, hS, hA, hN, hM, hT, hG, hO, hV, hW⟩ := h
  refine ⟨P, hI, ?_, hS, hA, hN, hM, hT, hG, hO, ?_, hW⟩
  · simp only [RelL, gL_sL] at hL ⊢
    simp [hL]
  · exact hV
theorem Rel.L19 {a u : St} (h : Rel a u) (w : Int64) : Rel (sL a 19 w) (sL u 18 w) := by
  obtain ⟨P, hI, hL, hS, hA, hN, hM, hT, hG, hO, hV, hW⟩ := h
  refine ⟨P, hI, ?_, hS, hA, hN, hM, hT, hG, hO, ?_, hW⟩
  · simp only [RelL, gL_sL] at hL ⊢
    simp [hL]
  · exact hV
theorem Rel.L20 {a u : St} (h : Rel a u) (w : Int64) : Rel (sL a 20 w) (sL u 19 w) := by
  obtain ⟨P, hI, hL, hS, hA, hN, hM, hT, hG, hO, hV, hW⟩ := h
  refine ⟨P, hI, ?_, hS, hA, hN, hM, hT, hG, hO, ?_, hW⟩
  · simp only [RelL, gL_sL] at hL ⊢
    simp [hL]
  · exact hV
theorem Rel.L21 {a u : St} (h : Rel a u) (w : Int64) (hw : w &&& 1 = 0) : Rel (sL a 21 w) (sL u 20 w) := by
  obtain ⟨P, hI, hL, hS, hA, hN, hM, hT, hG, hO, hV, hW⟩ := h
  refine ⟨P, hI, ?_, hS, hA, hN, hM, hT, hG, hO, ?_, hW⟩
  · simp only [RelL, gL_sL] at hL ⊢
    simp [hL]
  · obtain ⟨v0, v1, v2, v3, v4, v5, v6, v7⟩ := hV
    exact ⟨v0, v1, hw, v3, v4, v5, v6, v7⟩
theorem Rel.L22 {a u : St} (h : Rel a u) (w : Int64) : Rel (sL a 22 w) (sL u 21 w) := by
  obtain ⟨P, hI, hL, hS, hA, hN, hM, hT, hG, hO, hV, hW⟩ := h
  refine ⟨P, hI, ?_, hS, hA, hN, hM, hT, hG, hO, ?_, hW⟩
  · simp only [RelL, gL_sL] at hL ⊢
    simp [hL]
  · exact hV
theorem Rel.L23 {a u : St} (h : Rel a u) (w : Int64) : Rel (sL a 23 w) (sL u 22 w) := by
  obtain ⟨P, hI, hL, hS, hA, hN, hM, hT, hG, hO, hV, hW⟩ := h
  refine ⟨P, hI, ?_, hS, hA, hN, hM, hT, hG, hO, ?_, hW⟩
  · simp only [RelL, gL_sL] at hL ⊢
    simp [hL]
  · exact hV
theorem Rel.L24 {a u : St} (h : Rel a u) (w : Int64) (hw : w &&& 1 = 0) : Rel (sL a 24 w) (sL u 0 w) := by
  obtain ⟨P, hI, hL, hS, hA, hN, hM, hT, hG, hO, hV, hW⟩ := h
  refine ⟨P, hI, ?_, hS, hA, hN, hM, hT, hG, hO, ?_, hW⟩
  · simp only [RelL, gL_sL] at hL ⊢
    simp [hL]
  · obtain ⟨v0, v1, v2, v3, v4, v5, v6, v7⟩ := hV
    exact ⟨hw, v1, v2, v3, v4, v5, v6, v7⟩
theorem known_in : ∀ i j : Fin 64, f_X12_isControl (nI (64 * i.val + j.val)) = some (f_X4_knows (nI (64 * i.val + j.val))) ∧ (f_X4_knows (nI (64 * i.val + j.val)) = 0 ∨ (f_X4_knows (nI (64 * i.val + j.val)) = 1 ∧ nI (64 * i.val + j.val) ∈ [(256 : Int32), (260 : Int32), (261 : Int32), (262 : Int32), (320 : Int32), (321 : Int32), (322 : Int32), (323 : Int32), (324 : Int32), (384 : Int32), (768 : Int32), (769 : Int32), (770 : Int32), (771 : Int32), (772 : Int32), (773 : Int32), (774 : Int32), (832 : Int32), (833 : Int32), (834 : Int32), (835 : Int32), (836 : Int32), (2816 : Int32), (2818 : Int32), (3072 : Int32), (3073 : Int32), (3074 : Int32), (3857 : Int32), (3858 : Int32), (3859 : Int32), (3860 : Int32)])) := by decide +kernel
theorem known_out {n : Int32} (h : n < 0 ∨ nI 4096 ≤ n) : f_X12_isControl n = some 0 ∧ f_X4_knows n = 0 := by
  have ne : ∀ c : Int32, 0 ≤ c → c < 4096 → ¬ n = c := by
    intro c h0 h1
    rcases h with h | h
    · exact neg_ne h h0
    · exact big_ne h h1
  constructor
  · unfold f_X12_isControl
    rw [if_neg (ne 256 (by decide) (by decide))]
    rw [if_neg (ne 260 (by decide) (by decide))]
    rw [if_neg (ne 261 (by decide) (by decide))]
    rw [if_neg (ne 262 (by decide) (by decide))]
    rw [if_neg (ne 320 (by decide) (by decide))]
    rw [if_neg (ne 321 (by decide) (by decide))]
    rw [if_neg (ne 322 (by decide) (by decide))]
    rw [if_neg (ne 323 (by decide) (by decide))]
    rw [if_neg (ne 324 (by decide) (by decide))]
    rw [if_neg (ne 384 (by decide) (by decide))]
    rw [if_neg (ne 768 (by decide) (by decide))]
    rw [if_neg (ne 769 (by decide) (by decide))]
    rw [if_neg (ne 770 (by decide) (by decide))]
    rw [if_neg (ne 771 (by decide) (by decide))]
    rw [if_neg (ne 772 (by decide) (by decide))]
    rw [if_neg (ne 773 (by decide) (by decide))]
    rw [if_neg (ne 774 (by decide) (by decide))]
    rw [if_neg (ne 832 (by decide) (by decide))]
    rw [if_neg (ne 833 (by decide) (by decide))]
    rw [if_neg (ne 834 (by decide) (by decide))]
    rw [if_neg (ne 835 (by decide) (by decide))]
    rw [if_neg (ne 836 (by decide) (by decide))]
    rw [if_neg (ne 2816 (by decide) (by decide))]
    rw [if_neg (ne 2818 (by decide) (by decide))]
    rw [if_neg (ne 3857 (by decide) (by decide))]
    rw [if_neg (ne 3858 (by decide) (by decide))]
    rw [if_neg (ne 3859 (by decide) (by decide))]
    rw [if_neg (ne 3860 (by decide) (by decide))]
    unfold f_X12_in
    rcases h with h | h
    · have e : n.toInt64 < 3072 := by
        rw [Int64.lt_iff_toInt_lt, Int32.toInt_toInt64]
        have := Int32.lt_iff_toInt_lt.mp h
        have e1 : (0 : Int32).toInt = 0 := rfl
        have e2 : (3072 : Int64).toInt = 3072 := rfl
        omega
      simp [e, f_X12_in, f_X12_in_b17, f_X12_isControl, f_X12_isControl_b238, f_X12_isControl_b236]
    · have e : ¬ n.toInt64 < 3072 ∧ ¬ n.toInt64 ≤ 3074 ∧ (3074 : Int64) < n.toInt64 := by
        rw [Int64.lt_iff_toInt_lt, Int64.le_iff_toInt_le, Int64.lt_iff_toInt_lt, Int32.toInt_toInt64]
        have := Int32.le_iff_toInt_le.mp h
        have e1 : (nI 4096).toInt = 4096 := rfl
        have e2 : (3072 : Int64).toInt = 3072 := rfl
        have e3 : (3074 : Int64).toInt = 3074 := rfl
        omega
      simp [e, f_X12_in, f_X12_in_b17, f_X12_isControl, f_X12_isControl_b238, f_X12_isControl_b236]
  · simp only [f_X4_knows, f_X4_knows_b112, f_X4_knows_b116, f_X4_knows_b98, f_X4_knows_b70, f_X4_knows_b56, f_X4_knows_b35, f_X4_knows_b21]
    rcases h with h | h
    · have e : ∀ c : Int32, 0 ≤ c → n < c := fun c hc => Int32.lt_of_lt_of_le h hc
      simp [e 260 (by decide), e 320 (by decide), e 768 (by decide), e 832 (by decide), e 3072 (by decide), e 3857 (by decide), ne 256 (by decide) (by decide), ne 384 (by decide) (by decide), ne 2816 (by decide) (by decide), ne 2818 (by decide) (by decide)]
    · have e : ∀ c : Int32, c ≤ 4096 → ¬ n < c := fun c hc => big_lt h hc
      have e2 : ∀ c : Int32, c < 4096 → ¬ n ≤ c := fun c hc => big_le h hc
      have e3 : (3860 : Int32) < n := Int32.lt_of_lt_of_le (by decide) (show (4096 : Int32) ≤ n from h)
      simp [e 260 (by decide), e 320 (by decide), e 768 (by decide), e 832 (by decide), e 3072 (by decide), e 3857 (by decide), e2 262 (by decide), e2 324 (by decide), e2 774 (by decide), e2 836 (by decide), e2 3074 (by decide), ne 256 (by decide) (by decide), ne 384 (by decide) (by decide), ne 2816 (by decide) (by decide), ne 2818 (by decide) (by decide), e3]
theorem known (n : Int32) : f_X12_isControl n = some (f_X4_knows n) ∧ (f_X4_knows n = 0 ∨ (f_X4_knows n = 1 ∧ n ∈ [(256 : Int32), (260 : Int32), (261 : Int32), (262 : Int32), (320 : Int32), (321 : Int32), (322 : Int32), (323 : Int32), (324 : Int32), (384 : Int32), (768 : Int32), (769 : Int32), (770 : Int32), (771 : Int32), (772 : Int32), (773 : Int32), (774 : Int32), (832 : Int32), (833 : Int32), (834 : Int32), (835 : Int32), (836 : Int32), (2816 : Int32), (2818 : Int32), (3072 : Int32), (3073 : Int32), (3074 : Int32), (3857 : Int32), (3858 : Int32), (3859 : Int32), (3860 : Int32)])) := by
  rcases pk_ix n (n := 4096) (by omega) with h | h | ⟨j, hj, rfl⟩
  · obtain ⟨h1, h2⟩ := known_out (Or.inl h)
    exact ⟨by rw [h1, h2], Or.inl h2⟩
  · obtain ⟨h1, h2⟩ := known_out (Or.inr h)
    exact ⟨by rw [h1, h2], Or.inl h2⟩
  · have e := known_in ⟨j / 64, by omega⟩ ⟨j % 64, by omega⟩
    rw [show 64 * (j / 64) + j % 64 = j by omega] at e
    exact e
theorem rel_read {a u : St} (h : Rel a u) (n : Int32) (hn : n ∈ [(256 : Int32), (260 : Int32), (261 : Int32), (262 : Int32), (320 : Int32), (321 : Int32), (322 : Int32), (323 : Int32), (324 : Int32), (384 : Int32), (768 : Int32), (769 : Int32), (770 : Int32), (771 : Int32), (772 : Int32), (773 : Int32), (774 : Int32), (832 : Int32), (833 : Int32), (834 : Int32), (835 : Int32), (836 : Int32), (2816 : Int32), (2818 : Int32), (3072 : Int32), (3073 : Int32), (3074 : Int32), (3857 : Int32), (3858 : Int32), (3859 : Int32), (3860 : Int32)]) : f_X4_read n a = f_X12_controlOf n u := by
  have hp := rel_pend h
  obtain ⟨L2, L3, L4, L5, L6, L7, L14, L23, L15, L16, L8, L9, L10, L11, L12, L13, L17, L18, L19, L20, L21, L22, L0⟩ := h.longs
  simp only [List.mem_cons, List.not_mem_nil, or_false] at hn
  rcases hn with rfl | rfl | rfl | rfl | rfl | rfl | rfl | rfl | rfl | rfl | rfl | rfl | rfl | rfl | rfl | rfl | rfl | rfl | rfl | rfl | rfl | rfl | rfl | rfl | rfl | rfl | rfl | rfl | rfl | rfl | rfl
  · exact congrArg (fun z => some ((z &&& 786722) ||| 8589934592)) L4.symm
  · show some (gL a 7 &&& gL a 6) = some (gL u 7 &&& gL u 6)
    rw [L7, L6]
  · exact congrArg some L17.symm
  · exact congrArg some L18.symm
  · exact congrArg some L19.symm
  · exact congrArg some L20.symm
  · exact congrArg some L21.symm
  · exact congrArg some L22.symm
  · show (f_X4_pendingInterrupts a).bind (fun y => some (y &&& gL a 6)) = (f_X12_pendings u).bind (fun y => some (y &&& gL u 6))
    rw [hp, L6]
  · exact congrArg some L23.symm
  · exact congrArg (fun z => some (z ||| 42949672960)) L4.symm
  · exact (rfl : f_X4_read 769 a = some (-9223372036853460731)).trans (rfl : some (-9223372036853460731) = f_X12_controlOf 769 u)
  · exact congrArg some L5.symm
  · exact congrArg some L6.symm
  · exact congrArg some L7.symm
  · exact congrArg some L8.symm
  · exact congrArg some L9.symm
  · exact congrArg some L10.symm
  · exact congrArg some L11.symm
  · exact congrArg some L12.symm
  · exact congrArg some L13.symm
  · show (f_X4_pendingInterrupts a).bind (fun y => some y) = (f_X12_pendings u).bind (fun y => some y)
    rw [hp]
  · exact congrArg some L15.symm
  · exact congrArg some L16.symm
  · exact congrArg some L15.symm
  · exact congrArg some L3.symm
  · exact congrArg some L16.symm
  · exact (rfl : f_X4_read 3857 a = some 0).trans (rfl : some 0 = f_X12_controlOf 3857 u)
  · exact (rfl : f_X4_read 3858 a = some 0).trans (rfl : some 0 = f_X12_controlOf 3858 u)
  · exact (rfl : f_X4_read 3859 a = some 0).trans (rfl : some 0 = f_X12_controlOf 3859 u)
  · exact (rfl : f_X4_read 3860 a = some 0).trans (rfl : some 0 = f_X12_controlOf 3860 u)
theorem st_256 (s v : Int64) (hs : s &&& 8264106 = s) : f_X4_mixed s v 786722 &&& 8264106 = f_X4_mixed s v 786722 := by
  rw [← hs]; unfold f_X4_mixed; refine qb_ext (al_64 ?_); simp [qb_or, qb_and, qb_xor, qt_or, qt_and, qt_xor, qb_lit, qt_lit, qb_m1, qt_m1, qb_not, qt_not, qbn_2, qbn_3, qbn_4, qbn_8, qbn_6145, qbn_786723, qb_ofI, qt_ofL, sh6_lit, sh5_lit, qb_shl, qb_sshr, qb_ushr, qt_shl, qt_sshr, qt_ushr, Nat.testBit_eq_decide_div_mod_eq]
theorem st_256x (s v : Int64) : f_X4_mixed s v 786722 &&& 6144 = s &&& 6144 := by
  unfold f_X4_mixed; refine qb_ext (al_64 ?_); simp [qb_or, qb_and, qb_xor, qt_or, qt_and, qt_xor, qb_lit, qt_lit, qb_m1, qt_m1, qb_not, qt_not, qbn_2, qbn_3, qbn_4, qbn_8, qbn_6145, qbn_786723, qb_ofI, qt_ofL, sh6_lit, sh5_lit, qb_shl, qb_sshr, qb_ushr, qt_shl, qt_sshr, qt_ushr, Nat.testBit_eq_decide_div_mod_eq]
theorem st_260 (s v m : Int64) (hs : s &&& 2730 = s) (hm : m &&& 546 = m) : f_X4_mixed s v m &&& 2730 = f_X4_mixed s v m := by
  rw [← hs, ← hm]; unfold f_X4_mixed; refine qb_ext (al_64 ?_); simp [qb_or, qb_and, qb_xor, qt_or, qt_and, qt_xor, qb_lit, qt_lit, qb_m1, qt_m1, qb_not, qt_not, qbn_2, qbn_3, qbn_4, qbn_8, qbn_6145, qbn_786723, qb_ofI, qt_ofL, sh6_lit, sh5_lit, qb_shl, qb_sshr, qb_ushr, qt_shl, qt_sshr, qt_ushr, Nat.testBit_eq_decide_div_mod_eq]
theorem st_768a (s v : Int64) (hs : s &&& 8264106 = s) : f_X4_mixed s v 8257962 = ((v &&& 8264106) &&& -6145) ||| (s &&& 6144) := by
  rw [← hs]; unfold f_X4_mixed; refine qb_ext (al_64 ?_); simp [qb_or, qb_and, qb_xor, qt_or, qt_and, qt_xor, qb_lit, qt_lit, qb_m1, qt_m1, qb_not, qt_not, qbn_2, qbn_3, qbn_4, qbn_8, qbn_6145, qbn_786723, qb_ofI, qt_ofL, sh6_lit, sh5_lit, qb_shl, qb_sshr, qb_ushr, qt_shl, qt_sshr, qt_ushr, Nat.testBit_eq_decide_div_mod_eq]
theorem st_768b (s v : Int64) (hs : s &&& 8264106 = s) : f_X4_mixed s v 8264106 = v &&& 8264106 := by
  rw [← hs]; unfold f_X4_mixed; refine qb_ext (al_64 ?_); simp [qb_or, qb_and, qb_xor, qt_or, qt_and, qt_xor, qb_lit, qt_lit, qb_m1, qt_m1, qb_not, qt_not, qbn_2, qbn_3, qbn_4, qbn_8, qbn_6145, qbn_786723, qb_ofI, qt_ofL, sh6_lit, sh5_lit, qb_shl, qb_sshr, qb_ushr, qt_shl, qt_sshr, qt_ushr, Nat.testBit_eq_decide_div_mod_eq]
theorem st_768c (s v : Int64) (hs : s &&& 8264106 = s) : f_X4_mixed s v 8257962 &&& 8264106 = f_X4_mixed s v 8257962 := by
  rw [← hs]; unfold f_X4_mixed; refine qb_ext (al_64 ?_); simp [qb_or, qb_and, qb_xor, qt_or, qt_and, qt_xor, qb_lit, qt_lit, qb_m1, qt_m1, qb_not, qt_not, qbn_2, qbn_3, qbn_4, qbn_8, qbn_6145, qbn_786723, qb_ofI, qt_ofL, sh6_lit, sh5_lit, qb_shl, qb_sshr, qb_ushr, qt_shl, qt_sshr, qt_ushr, Nat.testBit_eq_decide_div_mod_eq]
theorem st_768d (s v : Int64) : f_X4_mixed s v 8257962 &&& 6144 = s &&& 6144 := by
  unfold f_X4_mixed; refine qb_ext (al_64 ?_); simp [qb_or, qb_and, qb_xor, qt_or, qt_and, qt_xor, qb_lit, qt_lit, qb_m1, qt_m1, qb_not, qt_not, qbn_2, qbn_3, qbn_4, qbn_8, qbn_6145, qbn_786723, qb_ofI, qt_ofL, sh6_lit, sh5_lit, qb_shl, qb_sshr, qb_ushr, qt_shl, qt_sshr, qt_ushr, Nat.testBit_eq_decide_div_mod_eq]
theorem st_768e (v : Int64) : (v &&& 8264106) &&& 6144 = v &&& 6144 := by
  refine qb_ext (al_64 ?_); simp [qb_or, qb_and, qb_xor, qt_or, qt_and, qt_xor, qb_lit, qt_lit, qb_m1, qt_m1, qb_not, qt_not, qbn_2, qbn_3, qbn_4, qbn_8, qbn_6145, qbn_786723, qb_ofI, qt_ofL, sh6_lit, sh5_lit, qb_shl, qb_sshr, qb_ushr, qt_shl, qt_sshr, qt_ushr, Nat.testBit_eq_decide_div_mod_eq]
theorem st_idem (v m : Int64) : (v &&& m) &&& m = v &&& m := by rw [Int64.and_assoc, Int64.and_self]
theorem cut_12_11 (v : Int64) : f_X12_cut v 12 11 = j_lshr (v &&& 6144) 11 := by
  rw [show f_X12_cut v 12 11 = j_lushr v 11 &&& 3 from rfl]; refine qb_ext (al_64 ?_); simp [qb_or, qb_and, qb_xor, qt_or, qt_and, qt_xor, qb_lit, qt_lit, qb_m1, qt_m1, qb_not, qt_not, qbn_2, qbn_3, qbn_4, qbn_8, qbn_6145, qbn_786723, qb_ofI, qt_ofL, sh6_lit, sh5_lit, qb_shl, qb_sshr, qb_ushr, qt_shl, qt_sshr, qt_ushr, Nat.testBit_eq_decide_div_mod_eq]
theorem cut_63_60 (v : Int64) : f_X12_cut v 63 60 = j_lushr v 60 := by
  rw [show f_X12_cut v 63 60 = j_lushr v 60 &&& 15 from rfl]; refine qb_ext (al_64 ?_); simp [qb_or, qb_and, qb_xor, qt_or, qt_and, qt_xor, qb_lit, qt_lit, qb_m1, qt_m1, qb_not, qt_not, qbn_2, qbn_3, qbn_4, qbn_8, qbn_6145, qbn_786723, qb_ofI, qt_ofL, sh6_lit, sh5_lit, qb_shl, qb_sshr, qb_ushr, qt_shl, qt_sshr, qt_ushr, Nat.testBit_eq_decide_div_mod_eq, qb_big]
theorem mpp_iff (v : Int64) : j_lshr (v &&& 6144) 11 = 2 ↔ v &&& 6144 = 4096 := by
  constructor
  · intro e
    have e2 : v &&& 6144 = j_lshl (j_lshr (v &&& 6144) 11) 11 := by refine qb_ext (al_64 ?_); simp [qb_or, qb_and, qb_xor, qt_or, qt_and, qt_xor, qb_lit, qt_lit, qb_m1, qt_m1, qb_not, qt_not, qbn_2, qbn_3, qbn_4, qbn_8, qbn_6145, qbn_786723, qb_ofI, qt_ofL, sh6_lit, sh5_lit, qb_shl, qb_sshr, qb_ushr, qt_shl, qt_sshr, qt_ushr, Nat.testBit_eq_decide_div_mod_eq]
    rw [e2, e]; rfl
  · intro e; rw [e]; rfl
theorem st_324 (x v m : Int64) : f_X4_mixed x v (m &&& 2) = (x &&& ((2 &&& m) ^^^ -1)) ||| ((v &&& 2) &&& m) := by
  unfold f_X4_mixed; refine qb_ext (al_64 ?_); simp [qb_or, qb_and, qb_xor, qt_or, qt_and, qt_xor, qb_lit, qt_lit, qb_m1, qt_m1, qb_not, qt_not, qbn_2, qbn_3, qbn_4, qbn_8, qbn_6145, qbn_786723, qb_ofI, qt_ofL, sh6_lit, sh5_lit, qb_shl, qb_sshr, qb_ushr, qt_shl, qt_sshr, qt_ushr, Nat.testBit_eq_decide_div_mod_eq, Bool.and_comm]
theorem even_and (v : Int64) : (v &&& -2) &&& 1 = 0 := by rw [Int64.and_assoc]; exact Int64.and_zero
theorem Rel.id23 {a u : St} (h : Rel a u) : Rel a (sL u 23 (gL u 23)) := by
  obtain ⟨P, hI, hL, hS, hA, hN, hM, hT, hG, hO, hV, hW⟩ := h
  exact ⟨P, hI, hL, hS, hA, hN, hM, hT, hG, hO, hV, hW⟩
theorem rel_write {a u : St} (h : Rel a u) (v : Int64) (n : Int32) (hn : n ∈ [(256 : Int32), (260 : Int32), (261 : Int32), (262 : Int32), (320 : Int32), (321 : Int32), (322 : Int32), (323 : Int32), (324 : Int32), (384 : Int32), (768 : Int32), (769 : Int32), (770 : Int32), (771 : Int32), (772 : Int32), (773 : Int32), (774 : Int32), (832 : Int32), (833 : Int32), (834 : Int32), (835 : Int32), (836 : Int32), (2816 : Int32), (2818 : Int32), (3072 : Int32), (3073 : Int32), (3074 : Int32), (3857 : Int32), (3858 : Int32), (3859 : Int32), (3860 : Int32)]) : Rel (f_X4_write n v a) (f_X12_writeControl n v u) := by
  obtain ⟨⟨v0, v1, v2, v3, v4, v5, v6, v7⟩, -⟩ := h.inv
  obtain ⟨L2, L3, L4, L5, L6, L7, L14, L23, L15, L16, L8, L9, L10, L11, L12, L13, L17, L18, L19, L20, L21, L22, L0⟩ := h.longs
  simp only [List.mem_cons, List.not_mem_nil, or_false] at hn
  rcases hn with rfl | rfl | rfl | rfl | rfl | rfl | rfl | rfl | rfl | rfl | rfl | rfl | rfl | rfl | rfl | rfl | rfl | rfl | rfl | rfl | rfl | rfl | rfl | rfl | rfl | rfl | rfl | rfl | rfl | rfl | rfl
  · show Rel (sL a 4 (f_X4_mixed (gL a 4) v 786722)) (sL u 4 (f_X4_mixed (gL u 4) v 786722))
    rw [L4]
    exact h.L4 _ (st_256 _ _ v3) (by rw [st_256x]; exact v4)
  · show Rel (sL a 7 (f_X4_mixed (gL a 7) v (gL a 6))) (sL u 7 (f_X4_mixed (gL u 7) v (gL u 6)))
    rw [L7, L6]
    exact h.L7 _ (st_260 _ _ _ v5 v6)
  · exact h.L18 _
  · exact h.L19 _
  · exact h.L20 _
  · exact h.L21 _ (even_and v)
  · exact h.L22 _
  · exact h.L23 _
  · show Rel (sL a 8 (f_X4_mixed (gL a 8) v (gL a 6 &&& 2))) (sL u 14 ((gL u 14 &&& ((2 &&& gL u 6) ^^^ -1)) ||| ((v &&& 2) &&& gL u 6)))
    rw [← st_324, L14, L6]
    exact h.L8 _
  · show Rel (f_X4_writeSatp v a) (if f_X12_cut v 63 60 = 0 then f_X12_writeControl_b500 v u else if f_X12_cut v 63 60 = 8 then f_X12_writeControl_b500 v u else f_X12_writeControl_b508 (gL u 23) u)
    unfold f_X4_writeSatp f_X4_writeSatp_b19 f_X12_writeControl_b500 f_X12_writeControl_b508
    rw [cut_63_60]
    by_cases e0 : j_lushr v 60 = 0
    · rw [if_pos e0, if_pos e0]; exact h.L9 _
    · rw [if_neg e0, if_neg e0]
      by_cases e8 : j_lushr v 60 = 8
      · rw [if_pos e8, if_pos e8]; exact h.L9 _
      · rw [if_neg e8, if_neg e8]; exact h.id23
  · show Rel (f_X4_writeStatus v a) (f_X12_writeStatus v u)
    unfold f_X4_writeStatus f_X4_writeStatus_b20 f_X4_writeStatus_b40 f_X12_writeStatus f_X12_writeStatus_b36
    rw [cut_12_11]
    by_cases e : j_lshr (v &&& 6144) 11 = 2
    · rw [if_pos e, if_pos e, if_neg n10, L4, ← st_768a _ _ v3]
      exact h.L4 _ (st_768c _ _ v3) (by rw [st_768d]; exact v4)
    · rw [if_neg e, if_neg e, if_pos rfl, st_768b _ _ v3]
      exact h.L4 _ (st_idem _ _) (by rw [st_768e]; exact fun q => e ((mpp_iff v).mpr q))
  · exact h
  · exact h.L5 _
  · exact h.L6 _ (st_idem _ _)
  · exact h.L7 _ (st_idem _ _)
  · exact h.L12 _
  · exact h.L13 _
  · exact h.L14 _
  · exact h.L15 _ (even_and v)
  · exact h.L16 _
  · exact h.L17 _
  · exact h.L8 _
  · exact h.L10 _
  · exact h.L11 _
  · exact h
  · exact h
  · exact h
  · exact h
  · exact h
  · exact h
  · exact h
theorem asksT (c : Int32) (u : St) (m2 : gN u 2 = 8) (hc3 : inB c (gN u 3)) (hc4u : inB c (gN u 4)) : ∀ d, d ≤ 7 → ∀ m, d < m → ∃ r, f_X12_asks_b4 m c 0 (nI (8 - d)) u = some r := by
  intro d
  induction d with
  | zero => intro _ m hm; obtain ⟨m, rfl⟩ : ∃ k, m = k + 1 := ⟨m - 1, by omega⟩; exact ⟨0, rfl⟩
  | succ d ih =>
    intro hd m hm
    obtain ⟨m, rfl⟩ : ∃ k, m = k + 1 := ⟨m - 1, by omega⟩
    show ∃ r, f_X12_asks_b4_s (f_X12_asks_b4 m) c 0 (nI (8 - (d + 1))) u = some r
    unfold f_X12_asks_b4_s f_X12_asks_b48 f_X12_asks_b52 f_X12_asks_b53
    rw [if_neg (nI8 (by omega)), if_pos rfl, if_pos hc3, if_pos (in_d (by omega) (by omega) m2), if_pos hc4u, nI_1, show 8 - (d + 1) + 1 = 8 - d by omega]
    have h1 := asks1 c u d (by omega) m (by omega)
    have h0 := ih (by omega) m (by omega)
    split
    · split
      · exact h0
      · exact ⟨1, h1⟩
    · exact h0
theorem rel_pendT {a u : St} (h : Rel a u) : ∃ r, f_X12_pendings u = some r := by
  obtain ⟨P, hN, -⟩ := h.lens
  obtain ⟨_, _, _, _, _, n2, n3, n4, n7, _, m1, m2, m3, m4, _⟩ := hN
  obtain ⟨r0, h0⟩ := asksT 0 u m2 (in_d (s := 0) (by omega) (by omega) m3) (in_d (s := 0) (by omega) (by omega) m4) 7 (by omega) FU (by decide)
  obtain ⟨r1, h1⟩ := asksT 1 u m2 (in_d (s := 1) (by omega) (by omega) m3) (in_d (s := 1) (by omega) (by omega) m4) 7 (by omega) FU (by decide)
  have h0' : f_X12_asks 0 u = some r0 := h0
  have h1' : f_X12_asks 1 u = some r1 := h1
  unfold f_X12_pendings f_X12_pendings_b33 f_X12_pendings_b49 f_X12_pendings_b65
  rw [h0', h1']
  simp only [Option.bind_some]
  split <;> split <;> split <;> exact ⟨_, rfl⟩
theorem rel_readT {a u : St} (h : Rel a u) (n : Int32) : ∃ r, f_X12_controlOf n u = some r := by
  obtain ⟨r, hr⟩ := rel_pendT h
  unfold f_X12_controlOf f_X12_controlOf_b291 f_X12_controlOf_b296
  rw [hr]
  simp only [Option.bind_some]
  by_cases h256 : n = 256
  · rw [if_pos h256]; exact ⟨_, rfl⟩
  rw [if_neg h256]
  by_cases h260 : n = 260
  · rw [if_pos h260]; exact ⟨_, rfl⟩
  rw [if_neg h260]
  by_cases h261 : n = 261
  · rw [if_pos h261]; exact ⟨_, rfl⟩
  rw [if_neg h261]
  by_cases h262 : n = 262
  · rw [if_pos h262]; exact ⟨_, rfl⟩
  rw [if_neg h262]
  by_cases h320 : n = 320
  · rw [if_pos h320]; exact ⟨_, rfl⟩
  rw [if_neg h320]
  by_cases h321 : n = 321
  · rw [if_pos h321]; exact ⟨_, rfl⟩
  rw [if_neg h321]
  by_cases h322 : n = 322
  · rw [if_pos h322]; exact ⟨_, rfl⟩
  rw [if_neg h322]
  by_cases h323 : n = 323
  · rw [if_pos h323]; exact ⟨_, rfl⟩
  rw [if_neg h323]
  by_cases h324 : n = 324
  · rw [if_pos h324]; exact ⟨_, rfl⟩
  rw [if_neg h324]
  by_cases h384 : n = 384
  · rw [if_pos h384]; exact ⟨_, rfl⟩
  rw [if_neg h384]
  by_cases h768 : n = 768
  · rw [if_pos h768]; exact ⟨_, rfl⟩
  rw [if_neg h768]
  by_cases h769 : n = 769
  · rw [if_pos h769]; exact ⟨_, rfl⟩
  rw [if_neg h769]
  by_cases h770 : n = 770
  · rw [if_pos h770]; exact ⟨_, rfl⟩
  rw [if_neg h770]
  by_cases h771 : n = 771
  · rw [if_pos h771]; exact ⟨_, rfl⟩
  rw [if_neg h771]
  by_cases h772 : n = 772
  · rw [if_pos h772]; exact ⟨_, rfl⟩
  rw [if_neg h772]
  by_cases h773 : n = 773
  · rw [if_pos h773]; exact ⟨_, rfl⟩
  rw [if_neg h773]
  by_cases h774 : n = 774
  · rw [if_pos h774]; exact ⟨_, rfl⟩
  rw [if_neg h774]
  by_cases h832 : n = 832
  · rw [if_pos h832]; exact ⟨_, rfl⟩
  rw [if_neg h832]
  by_cases h833 : n = 833
  · rw [if_pos h833]; exact ⟨_, rfl⟩
  rw [if_neg h833]
  by_cases h834 : n = 834
  · rw [if_pos h834]; exact ⟨_, rfl⟩
  rw [if_neg h834]
  by_cases h835 : n = 835
  · rw [if_pos h835]; exact ⟨_, rfl⟩
  rw [if_neg h835]
  by_cases h836 : n = 836
  · rw [if_pos h836]; exact ⟨_, rfl⟩
  rw [if_neg h836]
  by_cases h2816 : n = 2816
  · rw [if_pos h2816]; exact ⟨_, rfl⟩
  rw [if_neg h2816]
  by_cases h2818 : n = 2818
  · rw [if_pos h2818]; exact ⟨_, rfl⟩
  rw [if_neg h2818]
  by_cases h3072 : n = 3072
  · rw [if_pos h3072]; exact ⟨_, rfl⟩
  rw [if_neg h3072]
  by_cases h3073 : n = 3073
  · rw [if_pos h3073]; exact ⟨_, rfl⟩
  rw [if_neg h3073]
  by_cases h3074 : n = 3074
  · rw [if_pos h3074]; exact ⟨_, rfl⟩
  rw [if_neg h3074]
  exact ⟨_, rfl⟩
theorem ite_N {p : Prop} [Decidable p] {x y a : St} (hx : gN x = gN a) (hy : gN y = gN a) : gN (if p then x else y) = gN a := by split <;> assumption
theorem ite_I {p : Prop} [Decidable p] {x y : St} {k : Nat} {c : Int32} (hx : gI x k = c) (hy : gI y k = c) : gI (if p then x else y) k = c := by split <;> assumption
theorem wr_N (n : Int32) (v : Int64) (a : St) : gN (f_X4_write n v a) = gN a := by
  unfold f_X4_write f_X4_writeSatp f_X4_writeSatp_b19 f_X4_writeStatus f_X4_writeStatus_b20 f_X4_writeStatus_b40 f_X4_writeOfLevel f_X7_write_o16 f_X7_write_o17
  repeat' (first | exact rfl | apply ite_N)
theorem wr_0 (n : Int32) (v : Int64) (u : St) : gI (f_X12_writeControl n v u) 0 = gI u 0 := by
  unfold f_X12_writeControl f_X12_writeControl_b500 f_X12_writeControl_b508 f_X12_writeStatus f_X12_writeStatus_b36
  repeat' (first | exact rfl | apply ite_I)
theorem op_control : Op_control Rel Bud := by
  intro n a u h
  obtain ⟨k1, k2⟩ := known n
  rcases k2 with k | ⟨k, hn⟩
  · refine Or.inr ⟨0, sI u 0 1, ?_, ?_, rfl, h.thr 1⟩
    · unfold f_X11_control
      rw [if_pos k]
    · unfold f_X12_control f_X12_control_b13
      rw [k1, k]
      rfl
  · obtain ⟨r, hr⟩ := rel_readT (h.thr 0) n
    have e := rel_read (h.thr 0) n hn
    refine Or.inl ⟨r, r, sI u 0 0, ?_, ?_, rfl, rfl, h.thr 0⟩
    · unfold f_X11_control
      rw [k, if_neg n10, e, hr]
      rfl
    · unfold f_X12_control f_X12_control_b13
      rw [k1, k, Option.bind_some, if_neg n10, fails_0, Option.bind_some]
      show (if (0 : Int32) = 0 then (f_X12_controlOf n (sI u 0 0)).bind _ else _) = _
      rw [if_pos rfl, hr]
      rfl
theorem op_order : Op_order Rel Bud := by
  intro n v a u h
  obtain ⟨k1, k2⟩ := known n
  rcases k2 with k | ⟨k, hn⟩
  · refine Or.inr ⟨sI u 0 1, ?_, ?_, rfl, h.thr 1⟩
    · unfold f_X11_order
      rw [if_pos k]
    · unfold f_X12_order f_X12_order_b13
      rw [k1, k]
      rfl
  · have hr := rel_write (h.thr 0) v n hn
    refine Or.inl ⟨f_X4_write n v a, f_X12_writeControl n v (sI u 0 0), ?_, ?_, ?_, hr, ?_⟩
    · unfold f_X11_order
      rw [k, if_neg n10]
      rfl
    · unfold f_X12_order f_X12_order_b13
      rw [k1, k]
      rfl
    · exact wr_0 n v (sI u 0 0)
    · unfold Bud; rw [wr_N]; exact Nat.le_refl _

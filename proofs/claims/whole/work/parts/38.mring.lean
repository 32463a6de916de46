theorem qt_b8 (x : Int32) (i : Nat) : qt (x.toInt8.toInt32) i = (decide (i < 32) && if i < 8 then qt x i else qt x 7) := by
  unfold qt
  rw [Int8.toBitVec_toInt32, BitVec.getLsbD_signExtend, Int32.toBitVec_toInt8, BitVec.msb_eq_getLsbD_last, BitVec.getLsbD_signExtend, BitVec.getLsbD_signExtend]
  rcases Nat.lt_or_ge i 8 with h | h
  · simp [h, show i < 32 by omega]
  · simp [Nat.not_lt.mpr h]
theorem nb_255 (x : Int32) : vp_nar .byte x &&& 255 = x &&& 255 := by
  rw [vp_nar_byte]
  refine qt_ext (al_32 ?_)
  simp [qb_or, qb_and, qb_xor, qt_or, qt_and, qt_xor, qb_lit, qt_lit, qb_m1, qt_m1, qb_not, qt_not, qbn_2, qbn_3, qbn_4, qbn_8, qbn_6145, qbn_786723, qb_ofI, qt_ofL, sh6_lit, sh5_lit, qb_shl, qb_sshr, qb_ushr, qt_shl, qt_sshr, qt_ushr, Nat.testBit_eq_decide_div_mod_eq, qt_b8]
theorem nb_256 (x : Int32) : vp_nar .byte x.toInt8.toInt32 &&& 255 = x &&& 255 := by
  rw [pk_vb]
  refine qt_ext (al_32 ?_)
  simp [qb_or, qb_and, qb_xor, qt_or, qt_and, qt_xor, qb_lit, qt_lit, qb_m1, qt_m1, qb_not, qt_not, qbn_2, qbn_3, qbn_4, qbn_8, qbn_6145, qbn_786723, qb_ofI, qt_ofL, sh6_lit, sh5_lit, qb_shl, qb_sshr, qb_ushr, qt_shl, qt_sshr, qt_ushr, Nat.testBit_eq_decide_div_mod_eq, qt_b8]
theorem md_ {f k len : Nat} (hf : f < len) (hk : k ≤ len) : (f + k) % len = if f + k < len then f + k else f + k - len := by
  split
  · exact Nat.mod_eq_of_lt (by assumption)
  · rw [Nat.mod_eq_sub_mod (by omega), Nat.mod_eq_of_lt (by omega)]
theorem mk_ {n e len : Nat} (hl : len = 2 ^ e) (h1 : len ≤ 65536) (hn : n < 2 ^ 31) : nI n &&& (Int32.ofNat len - 1) = nI (n % len) := by
  have h0 : 0 < len := by rw [hl]; exact Nat.two_pow_pos e
  have e1 : Int32.ofNat len - 1 = nI (len - 1) := pk_sub (a := len) (b := 1) h0
  rw [e1, pk_andN (by omega) e (by rw [pk_tn (by omega), hl]), hl]
/-- nothing else changed -/
def Fr (I A N : List Nat) (a b : St) : Prop := gL b = gL a ∧ gB b = gB a ∧ (∀ j, j ∉ I → gI b j = gI a j) ∧ (∀ j, j ∉ A → gA b j = gA a j) ∧ (∀ j, j ∉ N → gN b j = gN a j)
theorem at_o1 {a : St} {bs : Nat → Int32} (hR : Ring 65536 (gI a 1) (gI a 2) (gA a 0) (gN a 0) bs) {c k : Nat} (hc : gI a 2 = nI c) (hc2 : c ≤ 65536) (hk : k < c) : f_X2_byteAt_o1 (nI k) a = some (bs k &&& 255) := by
  obtain ⟨e, f, c', he, hl, h1, h2, hf, hcc, hfl, hcl, hb⟩ := hR
  have e1 : c' = c := (nI_eq (by omega) (by omega)).mp (hcc.symm.trans hc)
  subst e1
  unfold f_X2_byteAt_o1
  rw [if_neg (nI_pos (by omega)), hcc, if_pos (nI_lt hk (by omega)), hf, nI_add, mk_ hl (by omega) (by omega), if_pos (in_d (Nat.mod_lt _ (by omega)) (by omega) rfl), nI_clamp (by have := Nat.mod_lt (f + k) (show 0 < gN a 0 by omega); omega), hb k hk]
theorem ap0_o1 {a : St} {bs : Nat → Int32} {e f c : Nat} (he : 6 ≤ e) (hl : gN a 0 = 2 ^ e) (h1 : gN a 0 ≤ 65536) (hf : gI a 1 = nI f) (hc : gI a 2 = nI c) (hfl : f < gN a 0) (hcl : c < gN a 0) (hb : ∀ k, k < c → gA a 0 ((f + k) % gN a 0) &&& 255 = bs k &&& 255) (x : Int32) : ∃ a', f_X2_append_o1_b83 x a = some (a', 0) ∧ Fr [1, 2] [0, 6] [0, 8] a a' ∧ gN a' 0 = gN a 0 ∧ gI a' 2 = nI (c + 1) ∧ Ring 65536 (gI a' 1) (gI a' 2) (gA a' 0) (gN a' 0) (fun j => if j = c then x else bs j) := by
  have hm := Nat.mod_lt (f + c) (show 0 < gN a 0 by omega)
  unfold f_X2_append_o1_b83
  rw [hf, hc, nI_add, mk_ hl (by omega) (by omega), if_pos (in_d hm (by omega) rfl), nI_clamp (by omega)]
  refine ⟨_, rfl, ⟨rfl, rfl, ?_, ?_, fun _ _ => rfl⟩, rfl, ?_, ?_⟩
  · intro j hj
    have : j ≠ 2 := fun q => hj (by subst q; decide)
    simp [gI_sI, gI_sA, this]
  · intro j hj
    have : j ≠ 0 := fun q => hj (by subst q; decide)
    simp [gA_sI, gA_sA, this]
  · show gI a 2 + 1 = _
    rw [hc, nI_1]
  · refine ⟨e, f, c + 1, he, hl, h1, by omega, hf, ?_, hfl, ?_, ?_⟩
    · show gI a 2 + 1 = _
      rw [hc, nI_1]
    · exact hcl
    · intro k hk
      show upd (gA a 0) ((f + c) % gN a 0) _ ((f + k) % gN a 0) &&& 255 = (if k = c then x else bs k) &&& 255
      unfold upd
      by_cases q : k = c
      · subst q
        rw [if_pos rfl, if_pos rfl, nb_256]
      · have hne : ¬ (f + k) % gN a 0 = (f + c) % gN a 0 := by
          rw [md_ hfl (by omega), md_ hfl (by omega)]
          split <;> split <;> omega
        rw [if_neg hne, if_neg q]
        exact hb k (by omega)
theorem apL_o1 {a : St} {bs : Nat → Int32} {e f : Nat} (he : 6 ≤ e) (hl : gN a 0 = 2 ^ e) (h1 : 2 * gN a 0 ≤ 65536) (hf : gI a 1 = nI f) (hc : gI a 2 = nI (gN a 0)) (hfl : f < gN a 0) (hb : ∀ k, k < gN a 0 → gA a 0 ((f + k) % gN a 0) &&& 255 = bs k &&& 255) (x : Int32) : ∀ d t u, t + d = gN a 0 → gI u = gI a → gL u = gL a → gB u = gB a → (∀ j, j ≠ 6 → gA u j = gA a j) → (∀ j, j ≠ 8 → gN u j = gN a j) → gN u 8 = 2 * gN a 0 → (∀ j, j < t → gA u 6 j &&& 255 = bs j &&& 255) → ∀ n, d < n → ∃ a', f_X2_append_o1_b36 n x (nI t) u = some (a', 0) ∧ Fr [1, 2] [0, 6] [0, 8] a a' ∧ gN a' 0 = 2 * gN a 0 ∧ gI a' 2 = nI (gN a 0 + 1) ∧ Ring 65536 (gI a' 1) (gI a' 2) (gA a' 0) (gN a' 0) (fun j => if j = gN a 0 then x else bs j) := by
  intro d
  induction d with
  | zero =>
    intro t u ht uI uL uB uA uN u8 hcp n hn
    obtain ⟨n, rfl⟩ : ∃ k, n = k + 1 := ⟨n - 1, by omega⟩
    show ∃ a', f_X2_append_o1_b36_s (f_X2_append_o1_b36 n) x (nI t) u = some (a', 0) ∧ _
    unfold f_X2_append_o1_b36_s
    have ht0 : t = gN a 0 := by omega
    subst ht0
    have eN : gN u 0 = gN a 0 := uN 0 (by decide)
    rw [eN, if_pos (show Int32.ofNat (gN a 0) ≤ nI (gN a 0) from Int32.le_refl _)]
    have q := ap0_o1 (a := sI (sR u 0 0 (gN u 8) (gA u 6)) 1 0) (bs := bs) (e := e + 1) (f := 0) (c := gN a 0) (by omega) (by show gN u 8 = _; rw [u8, hl, Nat.pow_succ, Nat.mul_comm]) (by show gN u 8 ≤ _; rw [u8]; exact h1) rfl (by show gI u 2 = _; rw [uI]; exact hc) (by show 0 < gN u 8; omega) (by show _ < gN u 8; omega) (by
      intro k hk
      show gA u 6 ((0 + k) % gN u 8) &&& 255 = _
      rw [u8, Nat.zero_add, Nat.mod_eq_of_lt (by omega)]
      exact hcp k hk) x
    obtain ⟨a', q1, q2, q3, q4, q5⟩ := q
    refine ⟨a', q1, ?_, ?_, q4, q5⟩
    · obtain ⟨r1, r2, r3, r4, r5⟩ := q2
      refine ⟨r1.trans uL, r2.trans uB, ?_, ?_, ?_⟩
      · intro j hj
        rw [r3 j hj, ← uI]
        have : j ≠ 1 := fun q => hj (by subst q; decide)
        simp [gI_sI, gI_sR, this]
      · intro j hj
        rw [r4 j hj]
        have h1 : j ≠ 0 := fun q => hj (by subst q; decide)
        have h2 : j ≠ 6 := fun q => hj (by subst q; decide)
        rw [← uA j h2]
        simp [gA_sI, gA_sR, h1]
      · intro j hj
        rw [r5 j hj]
        have h1 : j ≠ 0 := fun q => hj (by subst q; decide)
        have h2 : j ≠ 8 := fun q => hj (by subst q; decide)
        rw [← uN j h2]
        simp [gN_sI, gN_sR, h1]
    · rw [q3]
      exact u8
  | succ d ih =>
    intro t u ht uI uL uB uA uN u8 hcp n hn
    obtain ⟨n, rfl⟩ : ∃ k, n = k + 1 := ⟨n - 1, by omega⟩
    show ∃ a', f_X2_append_o1_b36_s (f_X2_append_o1_b36 n) x (nI t) u = some (a', 0) ∧ _
    unfold f_X2_append_o1_b36_s
    have eN : gN u 0 = gN a 0 := uN 0 (by decide)
    have hm := Nat.mod_lt (f + t) (show 0 < gN a 0 by omega)
    rw [eN, if_neg (show ¬ Int32.ofNat (gN a 0) ≤ nI t from nI_ge (b := gN a 0) (by omega) (by omega)), uI, hf, nI_add, mk_ hl (by omega) (by omega), if_pos (in_d hm (by omega) rfl), u8, if_pos (in_d (by omega) (by omega) rfl), nI_clamp (by omega), nI_clamp (by omega), uA 0 (by decide), nI_1]
    refine ih (t + 1) _ (by omega) (by exact uI) (by exact uL) (by exact uB) ?_ (by exact uN) (by exact u8) ?_ n (by omega)
    · intro j hj
      rw [← uA j hj]
      simp [gA_sA, hj]
    · intro j hj
      show upd (gA u 6) t _ j &&& 255 = _
      unfold upd
      by_cases q : j = t
      · subst q
        rw [if_pos rfl, nb_255]
        exact hb j (by omega)
      · rw [if_neg q]
        exact hcp j (by omega)
theorem ap_o1 {a : St} {bs : Nat → Int32} (h0 : gI a 0 = 65536) (hR : Ring 65536 (gI a 1) (gI a 2) (gA a 0) (gN a 0) bs) {c : Nat} (hc : gI a 2 = nI c) (hlt : c < 65536) (x : Int32) : ∃ a' k, f_X2_append_o1 x a = some (a', k) ∧ Fr [1, 2] [0, 6] [0, 8] a a' ∧ k + 3 * gN a 0 ≤ 3 * gN a' 0 ∧ gI a' 2 = nI (c + 1) ∧ Ring 65536 (gI a' 1) (gI a' 2) (gA a' 0) (gN a' 0) (fun j => if j = c then x else bs j) := by
  obtain ⟨e, f, c', he, hl, h1, h2, hf, hcc, hfl, hcl, hb⟩ := hR
  have e1 : c' = c := (nI_eq (by omega) (by omega)).mp (hcc.symm.trans hc)
  subst e1
  unfold f_X2_append_o1
  rw [h0, hc, if_pos (show nI c' < (65536 : Int32) from nI_lt (b := 65536) hlt (by omega))]
  by_cases hg : c' = gN a 0
  · have h64 : 2 ^ 6 ≤ gN a 0 := by rw [hl]; exact Nat.pow_le_pow_right (by omega) he
    have hcap : 2 * gN a 0 ≤ 65536 := by
      subst hg
      rw [hl] at hlt ⊢
      have hx : e < 16 := (Nat.pow_lt_pow_iff_right (a := 2) (by omega)).mp (by simpa using hlt)
      calc 2 * 2 ^ e = 2 ^ (e + 1) := by rw [Nat.pow_succ, Nat.mul_comm]
        _ ≤ 2 ^ 16 := Nat.pow_le_pow_right (by omega) (by omega)
        _ = 65536 := rfl
    have e2 : Int32.ofNat (gN a 0) * 2 = nI (2 * gN a 0) := by
      rw [Nat.mul_comm]; exact pk_mul (gN a 0) 2
    rw [if_pos (by rw [hg]; rfl), e2, nI_clamp (by omega), if_pos ⟨nI_pos (by omega), by omega⟩]
    obtain ⟨a', q1, q2, q3, q4, q5⟩ := apL_o1 (a := a) (bs := bs) he hl hcap hf (by rw [hc, hg]) hfl (fun k hk => hb k (by omega)) x (gN a 0) 0 (sR a 6 8 (2 * gN a 0) (fun _ => 0)) (by omega) rfl rfl rfl (by intro j hj; simp [gA_sR, hj]) (by intro j hj; simp [gN_sR, hj]) rfl (fun j hj => absurd hj (by omega)) FU (by unfold FU; omega)
    rw [show f_X2_append_o1_b36 FU x 0 _ = some (a', 0) from q1]
    refine ⟨a', 2 * gN a 0 + 1 + 0, rfl, q2, by rw [q3]; omega, by rw [q4, hg], ?_⟩
    rw [hg]
    exact q5
  · rw [if_neg (by intro q; exact hg ((nI_eq (by omega) (by omega)).mp q))]
    obtain ⟨a', q1, q2, q3, q4, q5⟩ := ap0_o1 (a := a) (bs := bs) he hl h1 hf hc hfl (by omega) hb x
    exact ⟨a', 0, q1, q2, by rw [q3]; omega, q4, q5⟩
theorem at_o11 {a : St} {bs : Nat → Int32} (hR : Ring 65536 (gI a 11) (gI a 12) (gA a 4) (gN a 5) bs) {c k : Nat} (hc : gI a 12 = nI c) (hc2 : c ≤ 65536) (hk : k < c) : f_X2_byteAt_o11 (nI k) a = some (bs k &&& 255) := by
  obtain ⟨e, f, c', he, hl, h1, h2, hf, hcc, hfl, hcl, hb⟩ := hR
  have e1 : c' = c := (nI_eq (by omega) (by omega)).mp (hcc.symm.trans hc)
  subst e1
  unfold f_X2_byteAt_o11
  rw [if_neg (nI_pos (by omega)), hcc, if_pos (nI_lt hk (by omega)), hf, nI_add, mk_ hl (by omega) (by omega), if_pos (in_d (Nat.mod_lt _ (by omega)) (by omega) rfl), nI_clamp (by have := Nat.mod_lt (f + k) (show 0 < gN a 5 by omega); omega), hb k hk]
theorem ap0_o11 {a : St} {bs : Nat → Int32} {e f c : Nat} (he : 6 ≤ e) (hl : gN a 5 = 2 ^ e) (h1 : gN a 5 ≤ 65536) (hf : gI a 11 = nI f) (hc : gI a 12 = nI c) (hfl : f < gN a 5) (hcl : c < gN a 5) (hb : ∀ k, k < c → gA a 4 ((f + k) % gN a 5) &&& 255 = bs k &&& 255) (x : Int32) : ∃ a', f_X2_append_o11_b83 x a = some (a', 0) ∧ Fr [11, 12] [4, 6] [5, 8] a a' ∧ gN a' 5 = gN a 5 ∧ gI a' 12 = nI (c + 1) ∧ Ring 65536 (gI a' 11) (gI a' 12) (gA a' 4) (gN a' 5) (fun j => if j = c then x else bs j) := by
  have hm := Nat.mod_lt (f + c) (show 0 < gN a 5 by omega)
  unfold f_X2_append_o11_b83
  rw [hf, hc, nI_add, mk_ hl (by omega) (by omega), if_pos (in_d hm (by omega) rfl), nI_clamp (by omega)]
  refine ⟨_, rfl, ⟨rfl, rfl, ?_, ?_, fun _ _ => rfl⟩, rfl, ?_, ?_⟩
  · intro j hj
    have : j ≠ 12 := fun q => hj (by subst q; decide)
    simp [gI_sI, gI_sA, this]
  · intro j hj
    have : j ≠ 4 := fun q => hj (by subst q; decide)
    simp [gA_sI, gA_sA, this]
  · show gI a 12 + 1 = _
    rw [hc, nI_1]
  · refine ⟨e, f, c + 1, he, hl, h1, by omega, hf, ?_, hfl, ?_, ?_⟩
    · show gI a 12 + 1 = _
      rw [hc, nI_1]
    · exact hcl
    · intro k hk
      show upd (gA a 4) ((f + c) % gN a 5) _ ((f + k) % gN a 5) &&& 255 = (if k = c then x else bs k) &&& 255
      unfold upd
      by_cases q : k = c
      · subst q
        rw [if_pos rfl, if_pos rfl, nb_256]
      · have hne : ¬ (f + k) % gN a 5 = (f + c) % gN a 5 := by
          rw [md_ hfl (by omega), md_ hfl (by omega)]
          split <;> split <;> omega
        rw [if_neg hne, if_neg q]
        exact hb k (by omega)
theorem apL_o11 {a : St} {bs : Nat → Int32} {e f : Nat} (he : 6 ≤ e) (hl : gN a 5 = 2 ^ e) (h1 : 2 * gN a 5 ≤ 65536) (hf : gI a 11 = nI f) (hc : gI a 12 = nI (gN a 5)) (hfl : f < gN a 5) (hb : ∀ k, k < gN a 5 → gA a 4 ((f + k) % gN a 5) &&& 255 = bs k &&& 255) (x : Int32) : ∀ d t u, t + d = gN a 5 → gI u = gI a → gL u = gL a → gB u = gB a → (∀ j, j ≠ 6 → gA u j = gA a j) → (∀ j, j ≠ 8 → gN u j = gN a j) → gN u 8 = 2 * gN a 5 → (∀ j, j < t → gA u 6 j &&& 255 = bs j &&& 255) → ∀ n, d < n → ∃ a', f_X2_append_o11_b36 n x (nI t) u = some (a', 0) ∧ Fr [11, 12] [4, 6] [5, 8] a a' ∧ gN a' 5 = 2 * gN a 5 ∧ gI a' 12 = nI (gN a 5 + 1) ∧ Ring 65536 (gI a' 11) (gI a' 12) (gA a' 4) (gN a' 5) (fun j => if j = gN a 5 then x else bs j) := by
  intro d
  induction d with
  | zero =>
    intro t u ht uI uL uB uA uN u8 hcp n hn
    obtain ⟨n, rfl⟩ : ∃ k, n = k + 1 := ⟨n - 1, by omega⟩
    show ∃ a', f_X2_append_o11_b36_s (f_X2_append_o11_b36 n) x (nI t) u = some (a', 0) ∧ _
    unfold f_X2_append_o11_b36_s
    have ht0 : t = gN a 5 := by omega
    subst ht0
    have eN : gN u 5 = gN a 5 := uN 5 (by decide)
    rw [eN, if_pos (show Int32.ofNat (gN a 5) ≤ nI (gN a 5) from Int32.le_refl _)]
    have q := ap0_o11 (a := sI (sR u 4 5 (gN u 8) (gA u 6)) 11 0) (bs := bs) (e := e + 1) (f := 0) (c := gN a 5) (by omega) (by show gN u 8 = _; rw [u8, hl, Nat.pow_succ, Nat.mul_comm]) (by show gN u 8 ≤ _; rw [u8]; exact h1) rfl (by show gI u 12 = _; rw [uI]; exact hc) (by show 0 < gN u 8; omega) (by show _ < gN u 8; omega) (by
      intro k hk
      show gA u 6 ((0 + k) % gN u 8) &&& 255 = _
      rw [u8, Nat.zero_add, Nat.mod_eq_of_lt (by omega)]
      exact hcp k hk) x
    obtain ⟨a', q1, q2, q3, q4, q5⟩ := q
    refine ⟨a', q1, ?_, ?_, q4, q5⟩
    · obtain ⟨r1, r2, r3, r4, r5⟩ := q2
      refine ⟨r1.trans uL, r2.trans uB, ?_, ?_, ?_⟩
      · intro j hj
        rw [r3 j hj, ← uI]
        have : j ≠ 11 := fun q => hj (by subst q; decide)
        simp [gI_sI, gI_sR, this]
      · intro j hj
        rw [r4 j hj]
        have h1 : j ≠ 4 := fun q => hj (by subst q; decide)
        have h2 : j ≠ 6 := fun q => hj (by subst q; decide)
        rw [← uA j h2]
        simp [gA_sI, gA_sR, h1]
      · intro j hj
        rw [r5 j hj]
        have h1 : j ≠ 5 := fun q => hj (by subst q; decide)
        have h2 : j ≠ 8 := fun q => hj (by subst q; decide)
        rw [← uN j h2]
        simp [gN_sI, gN_sR, h1]
    · rw [q3]
      exact u8
  | succ d ih =>
    intro t u ht uI uL uB uA uN u8 hcp n hn
    obtain ⟨n, rfl⟩ : ∃ k, n = k + 1 := ⟨n - 1, by omega⟩
    show ∃ a', f_X2_append_o11_b36_s (f_X2_append_o11_b36 n) x (nI t) u = some (a', 0) ∧ _
    unfold f_X2_append_o11_b36_s
    have eN : gN u 5 = gN a 5 := uN 5 (by decide)
    have hm := Nat.mod_lt (f + t) (show 0 < gN a 5 by omega)
    rw [eN, if_neg (show ¬ Int32.ofNat (gN a 5) ≤ nI t from nI_ge (b := gN a 5) (by omega) (by omega)), uI, hf, nI_add, mk_ hl (by omega) (by omega), if_pos (in_d hm (by omega) rfl), u8, if_pos (in_d (by omega) (by omega) rfl), nI_clamp (by omega), nI_clamp (by omega), uA 4 (by decide), nI_1]
    refine ih (t + 1) _ (by omega) (by exact uI) (by exact uL) (by exact uB) ?_ (by exact uN) (by exact u8) ?_ n (by omega)
    · intro j hj
      rw [← uA j hj]
      simp [gA_sA, hj]
    · intro j hj
      show upd (gA u 6) t _ j &&& 255 = _
      unfold upd
      by_cases q : j = t
      · subst q
        rw [if_pos rfl, nb_255]
        exact hb j (by omega)
      · rw [if_neg q]
        exact hcp j (by omega)
theorem ap_o11 {a : St} {bs : Nat → Int32} (h0 : gI a 10 = 65536) (hR : Ring 65536 (gI a 11) (gI a 12) (gA a 4) (gN a 5) bs) {c : Nat} (hc : gI a 12 = nI c) (hlt : c < 65536) (x : Int32) : ∃ a' k, f_X2_append_o11 x a = some (a', k) ∧ Fr [11, 12] [4, 6] [5, 8] a a' ∧ k + 3 * gN a 5 ≤ 3 * gN a' 5 ∧ gI a' 12 = nI (c + 1) ∧ Ring 65536 (gI a' 11) (gI a' 12) (gA a' 4) (gN a' 5) (fun j => if j = c then x else bs j) := by
  obtain ⟨e, f, c', he, hl, h1, h2, hf, hcc, hfl, hcl, hb⟩ := hR
  have e1 : c' = c := (nI_eq (by omega) (by omega)).mp (hcc.symm.trans hc)
  subst e1
  unfold f_X2_append_o11
  rw [h0, hc, if_pos (show nI c' < (65536 : Int32) from nI_lt (b := 65536) hlt (by omega))]
  by_cases hg : c' = gN a 5
  · have h64 : 2 ^ 6 ≤ gN a 5 := by rw [hl]; exact Nat.pow_le_pow_right (by omega) he
    have hcap : 2 * gN a 5 ≤ 65536 := by
      subst hg
      rw [hl] at hlt ⊢
      have hx : e < 16 := (Nat.pow_lt_pow_iff_right (a := 2) (by omega)).mp (by simpa using hlt)
      calc 2 * 2 ^ e = 2 ^ (e + 1) := by rw [Nat.pow_succ, Nat.mul_comm]
        _ ≤ 2 ^ 16 := Nat.pow_le_pow_right (by omega) (by omega)
        _ = 65536 := rfl
    have e2 : Int32.ofNat (gN a 5) * 2 = nI (2 * gN a 5) := by
      rw [Nat.mul_comm]; exact pk_mul (gN a 5) 2
    rw [if_pos (by rw [hg]; rfl), e2, nI_clamp (by omega), if_pos ⟨nI_pos (by omega), by omega⟩]
    obtain ⟨a', q1, q2, q3, q4, q5⟩ := apL_o11 (a := a) (bs := bs) he hl hcap hf (by rw [hc, hg]) hfl (fun k hk => hb k (by omega)) x (gN a 5) 0 (sR a 6 8 (2 * gN a 5) (fun _ => 0)) (by omega) rfl rfl rfl (by intro j hj; simp [gA_sR, hj]) (by intro j hj; simp [gN_sR, hj]) rfl (fun j hj => absurd hj (by omega)) FU (by unfold FU; omega)
    rw [show f_X2_append_o11_b36 FU x 0 _ = some (a', 0) from q1]
    refine ⟨a', 2 * gN a 5 + 1 + 0, rfl, q2, by rw [q3]; omega, by rw [q4, hg], ?_⟩
    rw [hg]
    exact q5
  · rw [if_neg (by intro q; exact hg ((nI_eq (by omega) (by omega)).mp q))]
    obtain ⟨a', q1, q2, q3, q4, q5⟩ := ap0_o11 (a := a) (bs := bs) he hl h1 hf hc hfl (by omega) hb x
    exact ⟨a', 0, q1, q2, by rw [q3]; omega, q4, q5⟩
theorem at_o13 {a : St} {bs : Nat → Int32} (hR : Ring 4096 (gI a 14) (gI a 15) (gA a 5) (gN a 6) bs) {c k : Nat} (hc : gI a 15 = nI c) (hc2 : c ≤ 65536) (hk : k < c) : f_X2_byteAt_o13 (nI k) a = some (bs k &&& 255) := by
  obtain ⟨e, f, c', he, hl, h1, h2, hf, hcc, hfl, hcl, hb⟩ := hR
  have e1 : c' = c := (nI_eq (by omega) (by omega)).mp (hcc.symm.trans hc)
  subst e1
  unfold f_X2_byteAt_o13
  rw [if_neg (nI_pos (by omega)), hcc, if_pos (nI_lt hk (by omega)), hf, nI_add, mk_ hl (by omega) (by omega), if_pos (in_d (Nat.mod_lt _ (by omega)) (by omega) rfl), nI_clamp (by have := Nat.mod_lt (f + k) (show 0 < gN a 6 by omega); omega), hb k hk]
theorem ap0_o13 {a : St} {bs : Nat → Int32} {e f c : Nat} (he : 6 ≤ e) (hl : gN a 6 = 2 ^ e) (h1 : gN a 6 ≤ 4096) (hf : gI a 14 = nI f) (hc : gI a 15 = nI c) (hfl : f < gN a 6) (hcl : c < gN a 6) (hb : ∀ k, k < c → gA a 5 ((f + k) % gN a 6) &&& 255 = bs k &&& 255) (x : Int32) : ∃ a', f_X2_append_o13_b83 x a = some (a', 0) ∧ Fr [14, 15] [5, 6] [6, 8] a a' ∧ gN a' 6 = gN a 6 ∧ gI a' 15 = nI (c + 1) ∧ Ring 4096 (gI a' 14) (gI a' 15) (gA a' 5) (gN a' 6) (fun j => if j = c then x else bs j) := by
  have hm := Nat.mod_lt (f + c) (show 0 < gN a 6 by omega)
  unfold f_X2_append_o13_b83
  rw [hf, hc, nI_add, mk_ hl (by omega) (by omega), if_pos (in_d hm (by omega) rfl), nI_clamp (by omega)]
  refine ⟨_, rfl, ⟨rfl, rfl, ?_, ?_, fun _ _ => rfl⟩, rfl, ?_, ?_⟩
  · intro j hj
    have : j ≠ 15 := fun q => hj (by subst q; decide)
    simp [gI_sI, gI_sA, this]
  · intro j hj
    have : j ≠ 5 := fun q => hj (by subst q; decide)
    simp [gA_sI, gA_sA, this]
  · show gI a 15 + 1 = _
    rw [hc, nI_1]
  · refine ⟨e, f, c + 1, he, hl, h1, by omega, hf, ?_, hfl, ?_, ?_⟩
    · show gI a 15 + 1 = _
      rw [hc, nI_1]
    · exact hcl
    · intro k hk
      show upd (gA a 5) ((f + c) % gN a 6) _ ((f + k) % gN a 6) &&& 255 = (if k = c then x else bs k) &&& 255
      unfold upd
      by_cases q : k = c
      · subst q
        rw [if_pos rfl, if_pos rfl, nb_256]
      · have hne : ¬ (f + k) % gN a 6 = (f + c) % gN a 6 := by
          rw [md_ hfl (by omega), md_ hfl (by omega)]
          split <;> split <;> omega
        rw [if_neg hne, if_neg q]
        exact hb k (by omega)
theorem apL_o13 {a : St} {bs : Nat → Int32} {e f : Nat} (he : 6 ≤ e) (hl : gN a 6 = 2 ^ e) (h1 : 2 * gN a 6 ≤ 4096) (hf : gI a 14 = nI f) (hc : gI a 15 = nI (gN a 6)) (hfl : f < gN a 6) (hb : ∀ k, k < gN a 6 → gA a 5 ((f + k) % gN a 6) &&& 255 = bs k &&& 255) (x : Int32) : ∀ d t u, t + d = gN a 6 → gI u = gI a → gL u = gL a → gB u = gB a → (∀ j, j ≠ 6 → gA u j = gA a j) → (∀ j, j ≠ 8 → gN u j = gN a j) → gN u 8 = 2 * gN a 6 → (∀ j, j < t → gA u 6 j &&& 255 = bs j &&& 255) → ∀ n, d < n → ∃ a', f_X2_append_o13_b36 n x (nI t) u = some (a', 0) ∧ Fr [14, 15] [5, 6] [6, 8] a a' ∧ gN a' 6 = 2 * gN a 6 ∧ gI a' 15 = nI (gN a 6 + 1) ∧ Ring 4096 (gI a' 14) (gI a' 15) (gA a' 5) (gN a' 6) (fun j => if j = gN a 6 then x else bs j) := by
  intro d
  induction d with
  | zero =>
    intro t u ht uI uL uB uA uN u8 hcp n hn
    obtain ⟨n, rfl⟩ : ∃ k, n = k + 1 := ⟨n - 1, by omega⟩
    show ∃ a', f_X2_append_o13_b36_s (f_X2_append_o13_b36 n) x (nI t) u = some (a', 0) ∧ _
    unfold f_X2_append_o13_b36_s
    have ht0 : t = gN a 6 := by omega
    subst ht0
    have eN : gN u 6 = gN a 6 := uN 6 (by decide)
    rw [eN, if_pos (show Int32.ofNat (gN a 6) ≤ nI (gN a 6) from Int32.le_refl _)]
    have q := ap0_o13 (a := sI (sR u 5 6 (gN u 8) (gA u 6)) 14 0) (bs := bs) (e := e + 1) (f := 0) (c := gN a 6) (by omega) (by show gN u 8 = _; rw [u8, hl, Nat.pow_succ, Nat.mul_comm]) (by show gN u 8 ≤ _; rw [u8]; exact h1) rfl (by show gI u 15 = _; rw [uI]; exact hc) (by show 0 < gN u 8; omega) (by show _ < gN u 8; omega) (by
      intro k hk
      show gA u 6 ((0 + k) % gN u 8) &&& 255 = _
      rw [u8, Nat.zero_add, Nat.mod_eq_of_lt (by omega)]
      exact hcp k hk) x
    obtain ⟨a', q1, q2, q3, q4, q5⟩ := q
    refine ⟨a', q1, ?_, ?_, q4, q5⟩
    · obtain ⟨r1, r2, r3, r4, r5⟩ := q2
      refine ⟨r1.trans uL, r2.trans uB, ?_, ?_, ?_⟩
      · intro j hj
        rw [r3 j hj, ← uI]
        have : j ≠ 14 := fun q => hj (by subst q; decide)
        simp [gI_sI, gI_sR, this]
      · intro j hj
        rw [r4 j hj]
        have h1 : j ≠ 5 := fun q => hj (by subst q; decide)
        have h2 : j ≠ 6 := fun q => hj (by subst q; decide)
        rw [← uA j h2]
        simp [gA_sI, gA_sR, h1]
      · intro j hj
        rw [r5 j hj]
        have h1 : j ≠ 6 := fun q => hj (by subst q; decide)
        have h2 : j ≠ 8 := fun q => hj (by subst q; decide)
        rw [← uN j h2]
        simp [gN_sI, gN_sR, h1]
    · rw [q3]
      exact u8
  | succ d ih =>
    intro t u ht uI uL uB uA uN u8 hcp n hn
    obtain ⟨n, rfl⟩ : ∃ k, n = k + 1 := ⟨n - 1, by omega⟩
    show ∃ a', f_X2_append_o13_b36_s (f_X2_append_o13_b36 n) x (nI t) u = some (a', 0) ∧ _
    unfold f_X2_append_o13_b36_s
    have eN : gN u 6 = gN a 6 := uN 6 (by decide)
    have hm := Nat.mod_lt (f + t) (show 0 < gN a 6 by omega)
    rw [eN, if_neg (show ¬ Int32.ofNat (gN a 6) ≤ nI t from nI_ge (b := gN a 6) (by omega) (by omega)), uI, hf, nI_add, mk_ hl (by omega) (by omega), if_pos (in_d hm (by omega) rfl), u8, if_pos (in_d (by omega) (by omega) rfl), nI_clamp (by omega), nI_clamp (by omega), uA 5 (by decide), nI_1]
    refine ih (t + 1) _ (by omega) (by exact uI) (by exact uL) (by exact uB) ?_ (by exact uN) (by exact u8) ?_ n (by omega)
    · intro j hj
      rw [← uA j hj]
      simp [gA_sA, hj]
    · intro j hj
      show upd (gA u 6) t _ j &&& 255 = _
      unfold upd
      by_cases q : j = t
      · subst q
        rw [if_pos rfl, nb_255]
        exact hb j (by omega)
      · rw [if_neg q]
        exact hcp j (by omega)
theorem ap_o13 {a : St} {bs : Nat → Int32} (h0 : gI a 13 = 4096) (hR : Ring 4096 (gI a 14) (gI a 15) (gA a 5) (gN a 6) bs) {c : Nat} (hc : gI a 15 = nI c) (hlt : c < 4096) (x : Int32) : ∃ a' k, f_X2_append_o13 x a = some (a', k) ∧ Fr [14, 15] [5, 6] [6, 8] a a' ∧ k + 3 * gN a 6 ≤ 3 * gN a' 6 ∧ gI a' 15 = nI (c + 1) ∧ Ring 4096 (gI a' 14) (gI a' 15) (gA a' 5) (gN a' 6) (fun j => if j = c then x else bs j) := by
  obtain ⟨e, f, c', he, hl, h1, h2, hf, hcc, hfl, hcl, hb⟩ := hR
  have e1 : c' = c := (nI_eq (by omega) (by omega)).mp (hcc.symm.trans hc)
  subst e1
  unfold f_X2_append_o13
  rw [h0, hc, if_pos (show nI c' < (4096 : Int32) from nI_lt (b := 4096) hlt (by omega))]
  by_cases hg : c' = gN a 6
  · have h64 : 2 ^ 6 ≤ gN a 6 := by rw [hl]; exact Nat.pow_le_pow_right (by omega) he
    have hcap : 2 * gN a 6 ≤ 4096 := by
      subst hg
      rw [hl] at hlt ⊢
      have hx : e < 12 := (Nat.pow_lt_pow_iff_right (a := 2) (by omega)).mp (by simpa using hlt)
      calc 2 * 2 ^ e = 2 ^ (e + 1) := by rw [Nat.pow_succ, Nat.mul_comm]
        _ ≤ 2 ^ 12 := Nat.pow_le_pow_right (by omega) (by omega)
        _ = 4096 := rfl
    have e2 : Int32.ofNat (gN a 6) * 2 = nI (2 * gN a 6) := by
      rw [Nat.mul_comm]; exact pk_mul (gN a 6) 2
    rw [if_pos (by rw [hg]; rfl), e2, nI_clamp (by omega), if_pos ⟨nI_pos (by omega), by omega⟩]
    obtain ⟨a', q1, q2, q3, q4, q5⟩ := apL_o13 (a := a) (bs := bs) he hl hcap hf (by rw [hc, hg]) hfl (fun k hk => hb k (by omega)) x (gN a 6) 0 (sR a 6 8 (2 * gN a 6) (fun _ => 0)) (by omega) rfl rfl rfl (by intro j hj; simp [gA_sR, hj]) (by intro j hj; simp [gN_sR, hj]) rfl (fun j hj => absurd hj (by omega)) FU (by unfold FU; omega)
    rw [show f_X2_append_o13_b36 FU x 0 _ = some (a', 0) from q1]
    refine ⟨a', 2 * gN a 6 + 1 + 0, rfl, q2, by rw [q3]; omega, by rw [q4, hg], ?_⟩
    rw [hg]
    exact q5
  · rw [if_neg (by intro q; exact hg ((nI_eq (by omega) (by omega)).mp q))]
    obtain ⟨a', q1, q2, q3, q4, q5⟩ := ap0_o13 (a := a) (bs := bs) he hl h1 hf hc hfl (by omega) hb x
    exact ⟨a', 0, q1, q2, by rw [q3]; omega, q4, q5⟩

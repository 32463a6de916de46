def rgI : List Nat := [1, 2, 11, 12, 14, 15]
def rgA : List Nat := [0, 4, 5, 6]
def rgN : List Nat := [0, 5, 6, 8]
theorem Fr.mono {I A N I' A' N' : List Nat} {a b : St} (h : Fr I A N a b) (hI : ∀ j, j ∈ I → j ∈ I') (hA : ∀ j, j ∈ A → j ∈ A') (hN : ∀ j, j ∈ N → j ∈ N') : Fr I' A' N' a b :=
  ⟨h.1, h.2.1, fun j hj => h.2.2.1 j (fun q => hj (hI j q)), fun j hj => h.2.2.2.1 j (fun q => hj (hA j q)), fun j hj => h.2.2.2.2 j (fun q => hj (hN j q))⟩
theorem Ring.congr {lim len c : Nat} {first cnt : Int32} {row bs bs' : Nat → Int32} (h : Ring lim first cnt row len bs) (hc : cnt = nI c) (hc2 : c ≤ 65536) (e : ∀ k, k < c → bs k &&& 255 = bs' k &&& 255) : Ring lim first cnt row len bs' := by
  obtain ⟨x, f, c', he, hl, h1, h2, hf, hcc, hfl, hcl, hb⟩ := h
  have e1 : c' = c := (nI_eq (by omega) (by omega)).mp (hcc.symm.trans hc)
  subst e1
  exact ⟨x, f, c', he, hl, h1, h2, hf, hcc, hfl, hcl, fun k hk => (hb k hk).trans (e k hk)⟩
theorem Ring.cnt {lim len : Nat} {first cnt : Int32} {row bs : Nat → Int32} (h : Ring lim first cnt row len bs) : ∃ c, cnt = nI c ∧ c ≤ lim ∧ lim ≤ 65536 := by
  obtain ⟨x, f, c', he, hl, h1, h2, hf, hcc, hfl, hcl, hb⟩ := h
  exact ⟨c', hcc, by omega, h2⟩
theorem Rel.fr {a u a' u' : St} (h : Rel a u) (f : Fr rgI rgA rgN a a') (uL : gL u' = gL u) (uB : gB u' = gB u) (uI : ∀ j, j ∉ [8, 9, 10, 11] → gI u' j = gI u j) (uA : ∀ j, j ∉ [4, 5, 6] → gA u' j = gA u j) (uN : gN u' = gN u) (h8 : gI u' 8 = gI a' 2) (h10 : gI u' 10 = gI a' 12) (h11 : gI u' 11 = gI a' 15) (hT' : RelT a' u') (hG' : RelG a' u') (hO' : RelO a' u') : Rel a' u' := by
  obtain ⟨P, hI, hL, hS, hA, hN, hM, hT, hG, hO, hV, hW⟩ := h
  obtain ⟨fL, fB, fI, fA, fN⟩ := f
  have a4 := fI 4 (by decide)
  have a5 := fI 5 (by decide)
  have a6 := fI 6 (by decide)
  have a7 := fI 7 (by decide)
  have a8 := fI 8 (by decide)
  have a9 := fI 9 (by decide)
  have a16 := fI 16 (by decide)
  have a19 := fI 19 (by decide)
  have a20 := fI 20 (by decide)
  have a21 := fI 21 (by decide)
  have b1 := fA 1 (by decide)
  have b2 := fA 2 (by decide)
  have b3 := fA 3 (by decide)
  have c1 := fN 1 (by decide)
  have c2 := fN 2 (by decide)
  have c3 := fN 3 (by decide)
  have c4 := fN 4 (by decide)
  have c7 := fN 7 (by decide)
  have u1 := uI 1 (by decide)
  have u2 := uI 2 (by decide)
  have u3 := uI 3 (by decide)
  have u4 := uI 4 (by decide)
  have u5 := uI 5 (by decide)
  have u6 := uI 6 (by decide)
  have u7 := uI 7 (by decide)
  have u12 := uI 12 (by decide)
  have u13 := uI 13 (by decide)
  have u14 := uI 14 (by decide)
  have u15 := uI 15 (by decide)
  have v0 := uA 0 (by decide)
  have v1 := uA 1 (by decide)
  have v2 := uA 2 (by decide)
  have v3 := uA 3 (by decide)
  refine ⟨P, ?_, ?_, ?_, ?_, ?_, ?_, hT', hG', hO', ?_, ?_⟩
  · obtain ⟨i2, i3, i5, i6, i7, i12, i13, i14, i15, i8, i10, i11⟩ := hI
    unfold RelI
    rw [u2, u3, u5, u6, u7, u12, u13, u14, u15, a16, a4, a7, a8, a6, a9, a19, a20, a21]
    exact ⟨i2, i3, i5, i6, i7, i12, i13, i14, i15, h8, h10, h11⟩
  · unfold RelL
    rw [uL, fL]
    exact hL
  · unfold RelS
    rw [uL, fL, u4, a4]
    exact hS
  · unfold RelA
    rw [v1, v2, v3, b1, b2, b3, uB, fB]
    exact hA
  · unfold RelN
    rw [c1, a5, u1, c2, c3, c4, c7, uN]
    exact hN
  · unfold RelM
    rw [fB, v0]
    exact hM
  · unfold RelV
    rw [fL, a16]
    exact hV
  · unfold RelW
    rw [a7, a6, a9, b1, b2, b3]
    exact hW
theorem nm_or2 {j x y : Nat} (h : j = x ∨ j = y → False) : j ≠ x ∧ j ≠ y := ⟨fun q => h (Or.inl q), fun q => h (Or.inr q)⟩
theorem Rel.ap1 {a u : St} (h : Rel a u) {c : Nat} (hc : gI a 2 = nI c) (hlt : c < 65536) (x y : Int32) (hy : y &&& 255 = x &&& 255) : ∃ a' k, f_X2_append_o1 x a = some (a', k) ∧ Rel a' (sI (sA u 4 c y) 8 (nI (c + 1))) ∧ k + Bud a ≤ Bud a' ∧ gI a' 2 = nI (c + 1) := by
  obtain ⟨P, hI, hL, hS, hA, hN, hM, hT, hG, hO, hV, hW⟩ := id h
  obtain ⟨a', k, q1, q2, q3, q4, q5⟩ := ap_o1 hT.1 hT.2 hc hlt x
  have q9 : Fr rgI rgA rgN a a' := q2.mono (by decide) (by decide) (by decide)
  obtain ⟨fL, fB, fI, fA, fN⟩ := q2
  have a0 := fI 0 (by decide)
  have a10 := fI 10 (by decide)
  have a11 := fI 11 (by decide)
  have a12 := fI 12 (by decide)
  have a13 := fI 13 (by decide)
  have a14 := fI 14 (by decide)
  have a15 := fI 15 (by decide)
  have b4 := fA 4 (by decide)
  have b5 := fA 5 (by decide)
  have c5 := fN 5 (by decide)
  have c6 := fN 6 (by decide)
  refine ⟨a', k, q1, ?_, ?_, q4⟩
  · refine h.fr q9 rfl rfl ?_ ?_ rfl ?_ ?_ ?_ ?_ ?_ ?_
    · intro j hj
      have : j ≠ 8 := fun q => hj (by subst q; decide)
      simp [gI_sI, gI_sA, this]
    · intro j hj
      have : j ≠ 4 := fun q => hj (by subst q; decide)
      simp [gA_sI, gA_sA, this]
    · exact q4.symm
    · rw [a12]; exact hI.2.2.2.2.2.2.2.2.2.2.1
    · rw [a15]; exact hI.2.2.2.2.2.2.2.2.2.2.2
    · refine ⟨a0.trans hT.1, q5.congr q4 (by omega) ?_⟩
      intro k hk
      show (if k = c then x else gA u 4 k) &&& 255 = upd (gA u 4) c y k &&& 255
      unfold upd
      by_cases e : k = c
      · rw [if_pos e, if_pos e, hy]
      · rw [if_neg e, if_neg e]
    · unfold RelG
      rw [a10, a11, a12, b4, c5]
      exact hG
    · unfold RelO
      rw [a13, a14, a15, b5, c6]
      exact hO
  · unfold Bud
    rw [c5, c6]
    omega
theorem Rel.ap13 {a u : St} (h : Rel a u) {c : Nat} (hc : gI a 15 = nI c) (hlt : c < 4096) (x y : Int32) (hy : y &&& 255 = x &&& 255) : ∃ a' k, f_X2_append_o13 x a = some (a', k) ∧ Rel a' (sI (sA u 6 c y) 11 (nI (c + 1))) ∧ k + Bud a ≤ Bud a' ∧ Fr rgI rgA rgN a a' := by
  obtain ⟨P, hI, hL, hS, hA, hN, hM, hT, hG, hO, hV, hW⟩ := id h
  obtain ⟨a', k, q1, q2, q3, q4, q5⟩ := ap_o13 hO.1 hO.2 hc hlt x
  have q9 : Fr rgI rgA rgN a a' := q2.mono (by decide) (by decide) (by decide)
  obtain ⟨fL, fB, fI, fA, fN⟩ := q2
  have a0 := fI 0 (by decide)
  have a1 := fI 1 (by decide)
  have a2 := fI 2 (by decide)
  have a10 := fI 10 (by decide)
  have a11 := fI 11 (by decide)
  have a12 := fI 12 (by decide)
  have a13 := fI 13 (by decide)
  have b0 := fA 0 (by decide)
  have b4 := fA 4 (by decide)
  have c0 := fN 0 (by decide)
  have c5 := fN 5 (by decide)
  refine ⟨a', k, q1, ?_, ?_, q9⟩
  · refine h.fr q9 rfl rfl ?_ ?_ rfl ?_ ?_ ?_ ?_ ?_ ?_
    · intro j hj
      have : j ≠ 11 := fun q => hj (by subst q; decide)
      simp [gI_sI, gI_sA, this]
    · intro j hj
      have : j ≠ 6 := fun q => hj (by subst q; decide)
      simp [gA_sI, gA_sA, this]
    · rw [a2]; exact hI.2.2.2.2.2.2.2.2.2.1
    · rw [a12]; exact hI.2.2.2.2.2.2.2.2.2.2.1
    · exact q4.symm
    · unfold RelT
      rw [a0, a1, a2, b0, c0]
      exact hT
    · unfold RelG
      rw [a10, a11, a12, b4, c5]
      exact hG
    · refine ⟨a13.trans hO.1, q5.congr q4 (by omega) ?_⟩
      intro k hk
      show (if k = c then x else gA u 6 k) &&& 255 = upd (gA u 6) c y k &&& 255
      unfold upd
      by_cases e : k = c
      · rw [if_pos e, if_pos e, hy]
      · rw [if_neg e, if_neg e]
  · unfold Bud
    rw [c5, c0]
    omega
theorem Rel.ap11 {a u : St} (h : Rel a u) {c : Nat} (hc : gI a 12 = nI c) (hlt : c < 65536) : ∃ g, g < 65536 ∧ gI u 9 = nI g ∧ ∀ x y : Int32, y &&& 255 = x &&& 255 → ∃ a' k, f_X2_append_o11 x a = some (a', k) ∧ Rel a' (sI (sA u 5 ((g + c) % 65536) y) 10 (nI (c + 1))) ∧ k + Bud a ≤ Bud a' ∧ gI a' 2 = gI a 2 ∧ gI a' 12 = nI (c + 1) := by
  obtain ⟨P, hI, hL, hS, hA, hN, hM, hT, hG, hO, hV, hW⟩ := id h
  obtain ⟨h0, g, hg, hg9, hR⟩ := hG
  refine ⟨g, hg, hg9, ?_⟩
  intro x y hy
  obtain ⟨a', k, q1, q2, q3, q4, q5⟩ := ap_o11 h0 hR hc hlt x
  have q9 : Fr rgI rgA rgN a a' := q2.mono (by decide) (by decide) (by decide)
  obtain ⟨fL, fB, fI, fA, fN⟩ := q2
  have a0 := fI 0 (by decide)
  have a1 := fI 1 (by decide)
  have a2 := fI 2 (by decide)
  have a10 := fI 10 (by decide)
  have a13 := fI 13 (by decide)
  have a14 := fI 14 (by decide)
  have a15 := fI 15 (by decide)
  have b0 := fA 0 (by decide)
  have b5 := fA 5 (by decide)
  have c0 := fN 0 (by decide)
  have c6 := fN 6 (by decide)
  refine ⟨a', k, q1, ?_, ?_, a2, q4⟩
  · refine h.fr q9 rfl rfl ?_ ?_ rfl ?_ ?_ ?_ ?_ ?_ ?_
    · intro j hj
      have : j ≠ 10 := fun q => hj (by subst q; decide)
      simp [gI_sI, gI_sA, this]
    · intro j hj
      have : j ≠ 5 := fun q => hj (by subst q; decide)
      simp [gA_sI, gA_sA, this]
    · rw [a2]; exact hI.2.2.2.2.2.2.2.2.2.1
    · exact q4.symm
    · rw [a15]; exact hI.2.2.2.2.2.2.2.2.2.2.2
    · unfold RelT
      rw [a0, a1, a2, b0, c0]
      exact hT
    · refine ⟨a10.trans h0, g, hg, hg9, q5.congr q4 (by omega) ?_⟩
      intro k hk
      show (if k = c then x else gA u 5 ((g + k) % 65536)) &&& 255 = upd (gA u 5) ((g + c) % 65536) y ((g + k) % 65536) &&& 255
      unfold upd
      by_cases e : k = c
      · rw [if_pos e, e, if_pos rfl, hy]
      · rw [if_neg e, if_neg (by omega)]
    · unfold RelO
      rw [a13, a14, a15, b5, c6]
      exact hO
  · unfold Bud
    rw [c0, c6]
    omega
theorem sh_by (v : Int64) {k : Nat} (hk : k < 8) : bv v k &&& 255 = (j_lushr v (8 * nI k)).toInt32 &&& 255 := by
  refine qt_ext (fun i hi => ?_)
  have e2 : Nat.testBit 255 i = decide (i < 8) := Nat.testBit_two_pow_sub_one 8 i
  rw [qt_and, qt_and, qt_lit, e2]
  by_cases c : i < 8
  · rw [bv_bits v hk c, qt_ofL, qb_ushr, sh6_8 ⟨k, hk⟩]
    simp [hi]
  · simp [c]
theorem feedL {v : Int64} {m c : Nat} (hm8 : m ≤ 8) (hcm : c + m ≤ 65536) : ∀ d k a u, k + d = m → Rel a (sI u 8 (nI (c + k))) → gI u 8 = nI c → gI a 2 = nI (c + k) → gN u 5 = 65536 → ∀ n n', d < n → d < n' → ∃ a' u' K, f_X11_feed_b48 n (nI m) v (nI k) a = some (nI (c + m), a', K) ∧ f_X12_feed_b53 n' (nI m) v (nI k) u = some (nI (c + m), u') ∧ Rel a' u' ∧ K + Bud a ≤ Bud a' ∧ gI u' 0 = gI u 0 := by
  intro d
  induction d with
  | zero =>
    intro k a u hk h h8 h2 h5 n n' hn hn'
    obtain ⟨n, rfl⟩ : ∃ q, n = q + 1 := ⟨n - 1, by omega⟩
    obtain ⟨n', rfl⟩ : ∃ q, n' = q + 1 := ⟨n' - 1, by omega⟩
    have hk0 : k = m := by omega
    subst hk0
    refine ⟨a, sI u 8 (nI (c + k)), 0, ?_, ?_, h, by omega, rfl⟩
    · show f_X11_feed_b48_s (f_X11_feed_b48 n) (nI k) v (nI k) a = _
      unfold f_X11_feed_b48_s f_X2_size_o1
      rw [if_pos (Int32.le_refl _), h2]
    · show f_X12_feed_b53_s (f_X12_feed_b53 n') (nI k) v (nI k) u = _
      unfold f_X12_feed_b53_s
      rw [if_pos (Int32.le_refl _), h8, nI_add]
      rfl
  | succ d ih =>
    intro k a u hk h h8 h2 h5 n n' hn hn'
    obtain ⟨n, rfl⟩ : ∃ q, n = q + 1 := ⟨n - 1, by omega⟩
    obtain ⟨n', rfl⟩ : ∃ q, n' = q + 1 := ⟨n' - 1, by omega⟩
    show ∃ a' u' K, f_X11_feed_b48_s (f_X11_feed_b48 n) (nI m) v (nI k) a = some (nI (c + m), a', K) ∧ f_X12_feed_b53_s (f_X12_feed_b53 n') (nI m) v (nI k) u = some (nI (c + m), u') ∧ _
    unfold f_X11_feed_b48_s f_X12_feed_b53_s
    rw [if_neg (nI_ge (by omega) (by omega)), if_neg (nI_ge (by omega) (by omega)), h8, nI_add, if_pos (in_d (N := 65536) (by omega) (by omega) h5), nI_clamp (by omega), nI_1]
    obtain ⟨a1, k1, r1, r2, r3, r4⟩ := h.ap1 h2 (by omega) ((j_lushr v (8 * nI k)).toInt32) (bv v k) (sh_by v (by omega))
    rw [r1, Option.bind_some]
    obtain ⟨a', u', K, t1, t2, t3, t4, t5⟩ := ih (k + 1) a1 (sA u 4 (c + k) (bv v k)) (by omega) r2 h8 r4 h5 n n' (by omega) (by omega)
    refine ⟨a', u', k1 + K, ?_, t2, t3, by omega, t5⟩
    show ak1 k1 (f_X11_feed_b48 n (nI m) v (nI (k + 1)) a1) = _
    rw [t1]
    rfl
theorem op_feed : Op_feed Rel Bud := by
  intro n v a u h
  obtain ⟨P, hI, hL, hS, hA, hN, hM, hT, hG, hO, hV, hW⟩ := id h
  obtain ⟨c, hc, hc2, -⟩ := hT.2.cnt
  have i8 : gI u 8 = gI a 2 := hI.2.2.2.2.2.2.2.2.2.1
  have h5 : gN u 5 = 65536 := hN.2.2.2.2.2.2.2.2.2.2.2.2.2.2.1
  rcases pk_ix n (n := 9) (by omega) with h0 | h0 | ⟨j, hj, rfl⟩
  · have h2 : n < 1 := Int32.lt_trans h0 (by decide)
    refine Or.inr (Or.inl ⟨0, sI u 0 1, ?_, ?_, rfl, h.thr 1⟩)
    · simp [h2, f_X11_feed, f_X11_feed_b11, f_X11_feed_b48_s, f_X11_feed_b48]
    · simp [h2, f_X12_feed, f_X12_feed_b12, f_X12_feed_b17, f_X12_feed_b48, fails_1]
  · have h1 : (9 : Int32) ≤ n := h0
    refine Or.inr (Or.inl ⟨0, sI u 0 1, ?_, ?_, rfl, h.thr 1⟩)
    · simp [big_lt h1 (show (1 : Int32) ≤ 9 by decide), big_le h1 (show (8 : Int32) < 9 by decide), f_X11_feed, f_X11_feed_b11]
    · simp [big_lt h1 (show (1 : Int32) ≤ 9 by decide), big_le h1 (show (8 : Int32) < 9 by decide), f_X12_feed, f_X12_feed_b12, f_X12_feed_b17, f_X12_feed_b48, fails_1]
  · by_cases z : j < 1
    · have h2 : nI j < 1 := nI_lt (b := 1) z (by omega)
      refine Or.inr (Or.inl ⟨0, sI u 0 1, ?_, ?_, rfl, h.thr 1⟩)
      · simp [h2, f_X11_feed, f_X11_feed_b11]
      · simp [h2, f_X12_feed, f_X12_feed_b12, f_X12_feed_b17, f_X12_feed_b48, fails_1]
    · have p0 : ¬ nI j < 1 := nI_nlt (b := 1) (by omega) (by omega)
      have p1 : nI j ≤ 8 := nI_le (b := 8) (by omega) (by omega)
      by_cases g : c + j ≤ 65536
      · left
        have g1 : nI c + nI j ≤ 65536 := by rw [nI_add]; exact nI_le (b := 65536) g (by omega)
        obtain ⟨a', u', K, t1, t2, t3, t4, t5⟩ := feedL (v := v) (m := j) (c := c) (by omega) g j 0 a (sI (sI u 0 0) 0 0) (by omega) (by
          obtain ⟨P, q⟩ := h
          refine ⟨P, ?_, q.2⟩
          have q1 := q.1
          simp only [RelI, gI_sI] at q1 ⊢
          simp only [hc] at q1 ⊢
          simp [q1]) (i8.trans hc) hc h5 FU FU (by unfold FU; omega) (by unfold FU; omega)
        refine ⟨nI (c + j), a', K, nI (c + j), u', ?_, ?_, ?_, rfl, t3, t4⟩
        · unfold f_X11_feed f_X2_size_o1
          rw [if_neg p0, if_pos p1, hc, if_pos g1]
          show rI (f_X11_feed_b48 FU (nI j) v (nI 0) a) = _
          rw [t1]
          rfl
        · unfold f_X12_feed f_X12_feed_b17 f_X12_feed_b41
          rw [if_neg p0, if_pos p1, fails_0, Option.bind_some, if_pos rfl]
          rw [show gI (0, sI u 0 0).2 8 = nI c from i8.trans hc, if_pos g1, fails_0, Option.bind_some, if_pos rfl]
          exact t2
        · unfold f_X12_thrown
          rw [t5]
          rfl
      · have g1 : ¬ nI c + nI j ≤ 65536 := by rw [nI_add]; exact nI_ge (a := 65536) (by omega) (by omega)
        refine Or.inr (Or.inr ⟨0, sI (sI u 0 0) 0 2, ?_, ?_, rfl, (h.thr 0).thr 2⟩)
        · unfold f_X11_feed f_X2_size_o1
          rw [if_neg p0, if_pos p1, hc, if_neg g1]
        · unfold f_X12_feed f_X12_feed_b17 f_X12_feed_b41 f_X12_feed_b48
          rw [if_neg p0, if_pos p1, fails_0, Option.bind_some, if_pos rfl]
          rw [show gI (0, sI u 0 0).2 8 = nI c from i8.trans hc, if_neg g1, fails_1, Option.bind_some, if_neg n10]
theorem Rel.clear {a u : St} (h : Rel a u) : Rel (f_X2_clear_o1 a) (sI u 8 0) := by
  obtain ⟨P, hI, hL, hS, hA, hN, hM, hT, hG, hO, hV, hW⟩ := h
  refine ⟨P, ?_, hL, hS, hA, hN, hM, ?_, hG, hO, hV, hW⟩
  · simp only [RelI, f_X2_clear_o1, gI_sI, gI_sL, gI_sA, gI_sB, gI_sR, gL_sI, gL_sL, gL_sA, gL_sB, gL_sR, gA_sI, gA_sL, gA_sA, gA_sB, gA_sR, gB_sI, gB_sL, gB_sA, gB_sB, gB_sR, gN_sI, gN_sL, gN_sA, gN_sB, gN_sR] at hI ⊢
    simp [hI]
  · obtain ⟨h0, e, f, c, he, hl, h1, h2, hf, hc, hfl, hcl, hk⟩ := hT
    refine ⟨h0, e, 0, 0, he, hl, h1, h2, ?_, ?_, ?_, Nat.zero_le _, fun k hk => absurd hk (Nat.not_lt_zero _)⟩
    · simp [f_X2_clear_o1, gI_sI, gI_sL, gI_sA, gI_sB, gI_sR, gL_sI, gL_sL, gL_sA, gL_sB, gL_sR, gA_sI, gA_sL, gA_sA, gA_sB, gA_sR, gB_sI, gB_sL, gB_sA, gB_sB, gB_sR, gN_sI, gN_sL, gN_sA, gN_sB, gN_sR, nI_0]
    · simp [f_X2_clear_o1, gI_sI, gI_sL, gI_sA, gI_sB, gI_sR, gL_sI, gL_sL, gL_sA, gL_sB, gL_sR, gA_sI, gA_sL, gA_sA, gA_sB, gA_sR, gB_sI, gB_sL, gB_sA, gB_sB, gB_sR, gN_sI, gN_sL, gN_sA, gN_sB, gN_sR, nI_0]
    · rw [show gN (f_X2_clear_o1 a) 0 = gN a 0 from rfl, hl]
      exact Nat.two_pow_pos e
theorem typeL {m : Nat} : ∀ d k a u c, k + d = m → m ≤ 65536 → Rel a u → gI a 2 = nI m → gI a 12 = nI c → c + d ≤ 65536 → ∀ n n', d < n → d < n' → ∃ a' u' K r, f_X11_type_b48 n (nI m) (nI k) a = some (r, a', K) ∧ f_X12_type_b31 n' (nI k) u = some (r, u') ∧ Rel a' u' ∧ K + Bud a ≤ Bud a' ∧ gI u' 0 = gI u 0 := by
  intro d
  induction d with
  | zero =>
    intro k a u c hk hm h h2 h12 hcd n n' hn hn'
    obtain ⟨n, rfl⟩ : ∃ q, n = q + 1 := ⟨n - 1, by omega⟩
    obtain ⟨n', rfl⟩ : ∃ q, n' = q + 1 := ⟨n' - 1, by omega⟩
    have hk0 : k = m := by omega
    subst hk0
    have hs := h.clear.settle
    have i8 : gI u 8 = gI a 2 := h.ints.2.2.2.2.2.2.2.2.2.1
    refine ⟨f_X1_settle (f_X2_clear_o1 a), f_X12_gather (sI u 8 0), 0, gI (f_X1_settle (f_X2_clear_o1 a)) 12, ?_, ?_, hs, ?_, ?_⟩
    · show f_X11_type_b48_s (f_X11_type_b48 n) (nI k) (nI k) a = _
      unfold f_X11_type_b48_s f_X2_size_o11
      rw [if_pos (Int32.le_refl _)]
    · show f_X12_type_b31_s (f_X12_type_b31 n') (nI k) u = _
      unfold f_X12_type_b31_s
      rw [i8, h2, if_pos (Int32.le_refl _), hs.ints.2.2.2.2.2.2.2.2.2.2.1]
    · unfold Bud
      rw [settle_N]
      show 0 + 3 * (gN a 0 + gN a 5 + gN a 6) ≤ 3 * (gN a 0 + gN a 5 + gN a 6)
      omega
    · rw [gather_0]
      rfl
  | succ d ih =>
    intro k a u c hk hm h h2 h12 hcd n n' hn hn'
    obtain ⟨n, rfl⟩ : ∃ q, n = q + 1 := ⟨n - 1, by omega⟩
    obtain ⟨n', rfl⟩ : ∃ q, n' = q + 1 := ⟨n' - 1, by omega⟩
    obtain ⟨P, hI, hL, hS, hA, hN, hM, hT, hG, hO, hV, hW⟩ := id h
    have i8 : gI u 8 = gI a 2 := hI.2.2.2.2.2.2.2.2.2.1
    have i10 : gI u 10 = gI a 12 := hI.2.2.2.2.2.2.2.2.2.2.1
    have m5 : gN u 5 = 65536 := hN.2.2.2.2.2.2.2.2.2.2.2.2.2.2.1
    have m6 : gN u 6 = 65536 := hN.2.2.2.2.2.2.2.2.2.2.2.2.2.2.2.1
    obtain ⟨g, hg, hg9, hap⟩ := h.ap11 h12 (by omega)
    show ∃ a' u' K r, f_X11_type_b48_s (f_X11_type_b48 n) (nI m) (nI k) a = some (r, a', K) ∧ f_X12_type_b31_s (f_X12_type_b31 n') (nI k) u = some (r, u') ∧ _
    unfold f_X11_type_b48_s f_X12_type_b31_s
    have hy : vp_nar .byte (gA u 4 k) &&& 255 = (gA u 4 k &&& 255) &&& 255 := by rw [nb_255, Int32.and_assoc, Int32.and_self]
    obtain ⟨a1, k1, r1, r2, r3, r4, r5⟩ := hap (gA u 4 k &&& 255) (vp_nar .byte (gA u 4 k)) hy
    rw [if_neg (nI_ge (by omega) (by omega)), i8, h2, if_neg (nI_ge (by omega) (by omega)), if_pos (in_d (N := 65536) (by omega) (by omega) m5), at_o1 hT.2 h2 hm (by omega), Option.bind_some, r1, Option.bind_some, hg9, i10, h12, nI_add, show (65536 : Int32) = nI 65536 from rfl, pk_rem (by omega) (by omega) (by omega), if_pos (in_d (N := 65536) (Nat.mod_lt _ (by omega)) (by omega) m6), nI_clamp (by omega), nI_clamp (by omega), nI_1]
    obtain ⟨a', u', K, r, t1, t2, t3, t4, t5⟩ := ih (k + 1) a1 _ (c + 1) (by omega) hm r2 (r4.trans h2) r5 (by omega) n n' (by omega) (by omega)
    refine ⟨a', u', k1 + K, r, ?_, ?_, t3, by omega, t5⟩
    · show ak1 k1 (f_X11_type_b48 n (nI m) (nI (k + 1)) a1) = _
      rw [t1]
      rfl
    · rw [show gI (sA u 5 ((g + c) % 65536) (vp_nar .byte (gA u 4 k))) 10 + 1 = nI (c + 1) from by show gI u 10 + 1 = _; rw [i10, h12, nI_1]]
      exact t2
theorem op_type : Op_type Rel Bud := by
  intro a u h
  obtain ⟨P, hI, hL, hS, hA, hN, hM, hT, hG, hO, hV, hW⟩ := id h
  obtain ⟨m, hm, hm2, -⟩ := hT.2.cnt
  obtain ⟨-, g, -, -, hR⟩ := hG
  obtain ⟨c, hc, hc2, -⟩ := hR.cnt
  have i8 : gI u 8 = gI a 2 := hI.2.2.2.2.2.2.2.2.2.1
  have i10 : gI u 10 = gI a 12 := hI.2.2.2.2.2.2.2.2.2.2.1
  by_cases g : c + m ≤ 65536
  · left
    have g1 : nI c + nI m ≤ 65536 := by rw [nI_add]; exact nI_le (b := 65536) g (by omega)
    obtain ⟨a', u', K, r, t1, t2, t3, t4, t5⟩ := typeL (m := m) m 0 a (sI u 0 0) c (by omega) hm2 (h.thr 0) hm hc g FU FU (by unfold FU; omega) (by unfold FU; omega)
    refine ⟨r, a', K, r, u', ?_, ?_, ?_, rfl, t3, t4⟩
    · unfold f_X11_type f_X2_size_o1 f_X2_size_o11
      rw [hc, hm, if_pos g1]
      show rI (f_X11_type_b48 FU (nI m) (nI 0) a) = _
      rw [t1]
      rfl
    · unfold f_X12_type f_X12_type_b20
      rw [i10, i8, hc, hm, if_pos g1, fails_0, Option.bind_some, if_pos rfl]
      exact t2
    · unfold f_X12_thrown
      rw [t5]
      rfl
  · have g1 : ¬ nI c + nI m ≤ 65536 := by rw [nI_add]; exact nI_ge (a := 65536) (by omega) (by omega)
    refine Or.inr ⟨0, sI u 0 1, ?_, ?_, rfl, h.thr 1⟩
    · unfold f_X11_type f_X2_size_o1 f_X2_size_o11
      rw [hc, hm, if_neg g1]
    · unfold f_X12_type f_X12_type_b20
      rw [i10, i8, hc, hm, if_neg g1, fails_1, Option.bind_some, if_neg n10]

def bv (v : Int64) (q : Nat) : Int32 := vp_nar .byte (((j_lshr v (8 * nI q)).toInt32).toInt8.toInt32)
theorem bv_bits (v : Int64) {q b : Nat} (hq : q < 8) (hb : b < 8) : qt (bv v q) b = qb v (8 * q + b) := by
  unfold bv
  rw [pk_vb, qt_b8, qt_ofL, qb_sshr, sh6_8 ⟨q, hq⟩]
  simp [hb, show b < 32 by omega, show ¬ 64 ≤ b by omega, show 8 * q + b < 64 by omega]
theorem sr_loop {u : St} {x v : Int64} {i m : Nat} (n0 : gN u 0 = 262144) (hx : x - 2147483648 = lN i) (hi : i + m ≤ 262144) (hm : m ≤ 8) : ∀ d k f, k + d = m → ∀ n, d < n → ∃ g, f_X12_setRam_b3 n x (nI m) v (nI k) (sF u 0 f) = some (sF u 0 g) ∧ ∀ p, g p = if i + k ≤ p ∧ p < i + m then bv v (p - i) else f p := by
  intro d
  induction d with
  | zero =>
    intro k f hk n hn
    obtain ⟨n, rfl⟩ : ∃ q, n = q + 1 := ⟨n - 1, by omega⟩
    refine ⟨f, ?_, fun p => ?_⟩
    · show f_X12_setRam_b3_s (f_X12_setRam_b3 n) x (nI m) v (nI k) (sF u 0 f) = _
      unfold f_X12_setRam_b3_s
      rw [if_pos (nI_le (by omega) (by omega))]
    · rw [if_neg (by omega)]
  | succ d ih =>
    intro k f hk n hn
    obtain ⟨n, rfl⟩ : ∃ q, n = q + 1 := ⟨n - 1, by omega⟩
    show ∃ g, f_X12_setRam_b3_s (f_X12_setRam_b3 n) x (nI m) v (nI k) (sF u 0 f) = some (sF u 0 g) ∧ _
    unfold f_X12_setRam_b3_s
    rw [if_neg (nI_ge (by omega) (by omega)), hx, lN_i, nI_add, if_pos (in_d (s := i + k) (N := 262144) (by omega) (by omega) (show gN (sF u 0 f) 0 = 262144 from n0)), nI_clamp (by omega), sA_sF, gA_sF, sF_sF, nI_1]
    obtain ⟨g, h1, h2⟩ := ih (k + 1) (upd f (i + k) (bv v k)) (by omega) n (by omega)
    refine ⟨g, h1, fun p => ?_⟩
    rw [h2 p]
    unfold upd
    by_cases c : p = i + k
    · subst c
      rw [if_neg (by omega), if_pos rfl, if_pos (by omega), show i + k - i = k by omega]
    · rw [if_neg c]
      by_cases c2 : i + (k + 1) ≤ p ∧ p < i + m
      · rw [if_pos c2, if_pos (by omega)]
      · rw [if_neg c2, if_neg (by omega)]
theorem sr_all {u : St} {x v : Int64} {i m : Nat} (n0 : gN u 0 = 262144) (hx : x - 2147483648 = lN i) (hi : i + m ≤ 262144) (hm : m ≤ 8) : ∃ g, f_X12_setRam x (nI m) v u = some (sF u 0 g) ∧ ∀ p, g p = if i ≤ p ∧ p < i + m then bv v (p - i) else gA u 0 p := by
  obtain ⟨g, h1, h2⟩ := sr_loop (u := u) (v := v) n0 hx hi hm m 0 (gA u 0) (by omega) FU (by unfold FU; omega)
  rw [sF_id] at h1
  exact ⟨g, h1, h2⟩
theorem wr_bits {a : St} {P : Nat} (s5 : gI a 5 = nI (4096 * P)) (n1 : gN a 1 = 512 * P) (hP : P ≤ 64) {i m : Nat} (hm : wid m) (hi : i + m ≤ 4096 * P) (hal : i % m = 0) (v : Int64) : ∃ w, f_X10_write (nI i) (nI m) v a = some (sB a 0 (i / 8) w) ∧ ∀ j, j < 64 → qb w j = if 8 * (i % 8) ≤ j ∧ j < 8 * (i % 8) + 8 * m then qb v (j - 8 * (i % 8)) else qb (gB a 0 (i / 8)) j := by
  have hm1 : 1 ≤ m ∧ m ≤ 8 := by rcases hm with h | h | h | h <;> omega
  unfold f_X10_write
  rw [if_neg (nI_pos (by omega)), s5, if_pos (nI_lt (by omega) (by omega)), shr3 i (by omega), if_pos (in_d (N := 512 * P) (by omega) (by omega) n1), if_pos (in_d (N := 512 * P) (by omega) (by omega) n1), nI_clamp (by omega)]
  refine ⟨_, rfl, ?_⟩
  intro j hj
  have hab := sh6_ab ⟨m, by omega⟩ hm1.1
  simp only at hab
  rw [qb_or, qb_and, qb_and, qb_xor, qb_m1, qb_shl, qb_shl, qb_ushr, qb_m1, hab, sh6_at i (by omega)]
  by_cases c1 : 8 * (i % 8) ≤ j
  · by_cases c2 : j < 8 * (i % 8) + 8 * m
    · rw [if_pos ⟨c1, c2⟩]
      have d1 : ¬ j < 8 * (i % 8) := by omega
      have d2 : 64 - 8 * m + (j - 8 * (i % 8)) < 64 := by omega
      simp [hj, d1, d2]
    · rw [if_neg (by omega)]
      have d2 : ¬ 64 - 8 * m + (j - 8 * (i % 8)) < 64 := by omega
      simp [hj, d2]
  · rw [if_neg (by omega)]
    have d1 : j < 8 * (i % 8) := by omega
    simp [hj, d1]
theorem Rel.ram {a u : St} (h : Rel a u) {q : Nat} {w : Int64} {g : Nat → Int32} (hM : ∀ P, RelN a u P → RelM a u P → RelM (sB a 0 q w) (sF u 0 g) P) : Rel (sB a 0 q w) (sF u 0 g) := by
  obtain ⟨P, hI, hL, hS, hA, hN, hM0, hT, hG, hO, hV, hW⟩ := h
  exact ⟨P, hI, hL, hS, hA, hN, hM P hN hM0, hT, hG, hO, hV, hW⟩
theorem Rel.ramw {a u : St} (h : Rel a u) {P : Nat} (hN : RelN a u P) {i m : Nat} (hm : wid m) (hi : i + m ≤ 4096 * P) (hal : i % m = 0) {x : Int64} (hx : x - 2147483648 = lN i) (v : Int64) : ∃ q w g, f_X10_write (nI i) (nI m) v a = some (sB a 0 q w) ∧ f_X12_setRam x (nI m) v u = some (sF u 0 g) ∧ Rel (sB a 0 q w) (sF u 0 g) := by
  have hN' := hN
  obtain ⟨p0, p1, n1, s5, s1, _, _, _, _, n0, _⟩ := hN
  have hm1 : 1 ≤ m ∧ m ≤ 8 := by rcases hm with h | h | h | h <;> omega
  obtain ⟨w, h1, h2⟩ := wr_bits s5 n1 p1 hm hi hal v
  obtain ⟨g, h3, h4⟩ := sr_all (u := u) (v := v) n0 hx (by omega : i + m ≤ 262144) hm1.2
  refine ⟨_, w, g, h1, h3, h.ram ?_⟩
  intro P' hN2 hM p hp b hb
  have hP : P' = P := by
    have e1 := hN2.2.2.1
    have e2 := hN'.2.2.1
    omega
  subst hP
  show qb (vp_updL (gB a 0) (i / 8) w (p / 8)) (8 * (p % 8) + b) = qt (g p) b
  rw [h4 p]
  unfold vp_updL
  by_cases c : p / 8 = i / 8
  · rw [if_pos c, h2 _ (by omega)]
    by_cases c2 : i ≤ p ∧ p < i + m
    · rw [if_pos c2, if_pos (by omega), bv_bits v (by omega) hb]
      congr 1
      omega
    · rw [if_neg c2, if_neg (by omega), ← c]
      exact hM p hp b hb
  · rw [if_neg c, if_neg (by rcases hm with h | h | h | h <;> subst h <;> omega)]
    exact hM p hp b hb
/-- one byte -/
theorem Rel.ram1 {a u : St} (h : Rel a u) {P : Nat} (hN : RelN a u P) {i : Nat} (hi : i < 4096 * P) (v : Int64) (y : Int32) (hy : ∀ b, b < 8 → qt y b = qb v b) : ∃ q w, f_X10_write (nI i) 1 v a = some (sB a 0 q w) ∧ Rel (sB a 0 q w) (sA u 0 i y) := by
  have hN' := hN
  obtain ⟨p0, p1, n1, s5, s1, _, _, _, _, n0, _⟩ := hN
  obtain ⟨w, h1, h2⟩ := wr_bits (m := 1) s5 n1 p1 (Or.inl rfl) (by omega : i + 1 ≤ 4096 * P) (by omega) v
  refine ⟨_, w, h1, ?_⟩
  rw [sA_sF]
  refine h.ram ?_
  intro P' hN2 hM p hp b hb
  have hP : P' = P := by
    have e1 := hN2.2.2.1
    have e2 := hN'.2.2.1
    omega
  subst hP
  show qb (vp_updL (gB a 0) (i / 8) w (p / 8)) (8 * (p % 8) + b) = qt (upd (gA u 0) i y p) b
  unfold vp_updL upd
  by_cases c2 : p = i
  · subst c2
    rw [if_pos rfl, if_pos rfl, h2 _ (by omega), if_pos (by omega), hy b hb]
    congr 1
    omega
  · rw [if_neg c2]
    by_cases c : p / 8 = i / 8
    · rw [if_pos c, h2 _ (by omega), if_neg (by omega), ← c]
      exact hM p hp b hb
    · rw [if_neg c]
      exact hM p hp b hb
theorem rd1 {a u : St} {P : Nat} (hN : RelN a u P) (hM : RelM a u P) {i : Nat} (hi : i < 4096 * P) : f_X10_read (nI i) 1 a = some ((gA u 0 i).toInt64 &&& 255) := by
  obtain ⟨p0, p1, n1, s5, s1, _⟩ := hN
  obtain ⟨v, h1, h2⟩ := rd_bits (m := 1) s5 n1 p1 (Or.inl rfl) (by omega : i + 1 ≤ 4096 * P)
  refine h1.trans (congrArg some ?_)
  refine qb_ext (fun j hj => ?_)
  rw [h2 j, qb_byte]
  by_cases c : j < 8
  · rw [← hM i hi j c]
  · simp [c]
theorem peekL {a u : St} {P : Nat} (hN : RelN a u P) (hM : RelM a u P) {i : Nat} {x : Int64} (hx : x - 2147483648 = lN i) : ∀ k, i + k ≤ 4096 * P → k ≤ 8 → ∀ n m, k < n → k < m → ∀ v : Int64, f_X11_peek_b36 n (nI i) v (nI k - 1) a = f_X12_ramAt_b8 m x v (nI k - 1) u := by
  have hN' := hN
  obtain ⟨p0, p1, n1, s5, s1, _, _, _, _, n0, _⟩ := hN
  intro k
  induction k with
  | zero =>
    intro _ _ n m hn hm v
    obtain ⟨n, rfl⟩ : ∃ q, n = q + 1 := ⟨n - 1, by omega⟩
    obtain ⟨m, rfl⟩ : ∃ q, m = q + 1 := ⟨m - 1, by omega⟩
    show f_X11_peek_b36_s (f_X11_peek_b36 n) (nI i) v (nI 0 - 1) a = f_X12_ramAt_b8_s (f_X12_ramAt_b8 m) x v (nI 0 - 1) u
    unfold f_X12_ramAt_b8_s f_X11_peek_b36_s
    rw [if_pos (by decide), if_pos (by decide)]
  | succ k ih =>
    intro hi hk n m hn hm v
    obtain ⟨n, rfl⟩ : ∃ q, n = q + 1 := ⟨n - 1, by omega⟩
    obtain ⟨m, rfl⟩ : ∃ q, m = q + 1 := ⟨m - 1, by omega⟩
    show f_X11_peek_b36_s (f_X11_peek_b36 n) (nI i) v (nI (k + 1) - 1) a = f_X12_ramAt_b8_s (f_X12_ramAt_b8 m) x v (nI (k + 1) - 1) u
    unfold f_X12_ramAt_b8_s f_X11_peek_b36_s
    have e : nI k + -1 = nI k - 1 := by
      rw [Int32.sub_eq_add_neg]
    rw [nI_pred, if_neg (nI_pos (by omega)), if_neg (nI_pos (by omega)), hx, lN_i, nI_add, if_pos (in_d (N := 262144) (by omega) (by omega) n0), nI_clamp (by omega), rd1 hN' hM (by omega), Option.bind_some, e]
    exact ih (by omega) (by omega) n m (by omega) (by omega) _
theorem op_peek : Op_peek Rel Bud := by
  intro x a u h
  obtain ⟨P, hN, hM⟩ := h.lens
  have hN2 : RelN a (sI u 0 0) P := hN
  rcases ram_cases hN (m := 8) (by omega) (by omega) x with ⟨h1, h2⟩ | ⟨i, hi, -, hx, h1, h2⟩
  · refine Or.inr ⟨0, sI u 0 1, ?_, ?_, rfl, h.thr 1⟩
    · have h1' : f_X10_place x 8 a = -1 := h1
      unfold f_X11_peek
      rw [if_pos h1']
    · have h2' : f_X12_isRam x 8 u = 0 := h2
      unfold f_X12_peek f_X12_peek_b16
      rw [if_pos h2']
      rfl
  · left
    obtain ⟨p0, p1, n1, s5, s1, _, _, _, _, n0, _⟩ := hN2
    obtain ⟨v, h3, -⟩ := ra_bits (u := sI u 0 0) n0 p1 hx 8 hi (by omega) FU (by unfold FU; omega) 0
    have h4 := peekL (a := a) (u := sI u 0 0) hN hM hx 8 hi (by omega) FU FU (by unfold FU; omega) (by unfold FU; omega) 0
    refine ⟨v, v, sI u 0 0, ?_, ?_, rfl, rfl, h.thr 0⟩
    · unfold f_X11_peek
      have h1' : f_X10_place x 8 a = nI i := h1
      rw [h1', if_neg (by intro q; exact absurd (congrArg (fun z => z < (0 : Int32)) q) (by simp only [eq_iff_iff]; intro q2; exact nI_pos (n := i) (by omega) (q2.mpr (by decide))))]
      show rI (f_X11_peek_b36 FU (nI i) 0 (nI 8 - 1) a) = _
      rw [h4, h3]
      rfl
    · unfold f_X12_peek f_X12_peek_b16
      have h2' : f_X12_isRam x 8 u = 1 := h2
      rw [h2', if_neg n10, fails_0, Option.bind_some, if_pos rfl]
      show (f_X12_ramAt_b8 FU x 0 (nI 8 - 1) (sI u 0 0)).bind _ = _
      rw [h3]
      rfl
theorem nI_m1 {i : Nat} (h : i < 2 ^ 31) : ¬ nI i = -1 := by
  intro q
  exact absurd (q ▸ nI_pos h : ¬ (-1 : Int32) < 0) (by decide)
theorem pokeL {x v : Int64} {i m : Nat} (hm : m ≤ 8) (hx : x - 2147483648 = lN i) : ∀ d k a u, k + d = m → Rel a u → (∃ P, RelN a u P ∧ i + m ≤ 4096 * P) → ∀ n n', d < n → d < n' → ∃ a' u', f_X11_poke_b54 n (nI m) v (nI i) (nI k) a = some a' ∧ f_X12_setRam_b3 n' x (nI m) v (nI k) u = some u' ∧ Rel a' u' ∧ Bud a ≤ Bud a' ∧ gI u' 0 = gI u 0 := by
  intro d
  induction d with
  | zero =>
    intro k a u hk h hP n n' hn hn'
    obtain ⟨n, rfl⟩ : ∃ q, n = q + 1 := ⟨n - 1, by omega⟩
    obtain ⟨n', rfl⟩ : ∃ q, n' = q + 1 := ⟨n' - 1, by omega⟩
    refine ⟨a, u, ?_, ?_, h, Nat.le_refl _, rfl⟩
    · show f_X11_poke_b54_s (f_X11_poke_b54 n) (nI m) v (nI i) (nI k) a = _
      unfold f_X11_poke_b54_s
      rw [if_pos (nI_le (by omega) (by omega))]
    · show f_X12_setRam_b3_s (f_X12_setRam_b3 n') x (nI m) v (nI k) u = _
      unfold f_X12_setRam_b3_s
      rw [if_pos (nI_le (by omega) (by omega))]
  | succ d ih =>
    intro k a u hk h hP n n' hn hn'
    obtain ⟨n, rfl⟩ : ∃ q, n = q + 1 := ⟨n - 1, by omega⟩
    obtain ⟨n', rfl⟩ : ∃ q, n' = q + 1 := ⟨n' - 1, by omega⟩
    obtain ⟨P, hN, hi⟩ := hP
    have hN' := hN
    obtain ⟨p0, p1, n1, s5, s1, _, _, _, _, n0, _⟩ := hN
    show ∃ a' u', f_X11_poke_b54_s (f_X11_poke_b54 n) (nI m) v (nI i) (nI k) a = some a' ∧ f_X12_setRam_b3_s (f_X12_setRam_b3 n') x (nI m) v (nI k) u = some u' ∧ _
    unfold f_X12_setRam_b3_s f_X11_poke_b54_s
    rw [if_neg (nI_ge (by omega) (by omega)), if_neg (nI_ge (by omega) (by omega)), hx, lN_i, nI_add, if_pos (in_d (N := 262144) (by omega) (by omega) n0), nI_clamp (by omega), nI_1]
    obtain ⟨q, w, h1, h2⟩ := h.ram1 hN' (i := i + k) (by omega) (j_lushr v (8 * nI k)) (bv v k) (by
      intro b hb
      rw [bv_bits v (by omega) hb, qb_ushr, sh6_8 ⟨k, by omega⟩])
    rw [h1, Option.bind_some]
    obtain ⟨a', u', h3, h4, h5, h6, h7⟩ := ih (k + 1) _ _ (by omega) h2 ⟨P, hN', hi⟩ n n' (by omega) (by omega)
    exact ⟨a', u', h3, h4, h5, h6, h7⟩
theorem op_poke : Op_poke Rel Bud := by
  intro x n v a u h
  obtain ⟨P, hN, hM⟩ := h.lens
  rcases pk_ix n (n := 9) (by omega) with h0 | h0 | ⟨j, hj, rfl⟩
  · have h2 : n < 1 := Int32.lt_trans h0 (by decide)
    refine Or.inr (Or.inl ⟨sI u 0 1, ?_, ?_, rfl, h.thr 1⟩)
    · simp [h2, f_X11_poke, f_X11_poke_b11, f_X11_poke_b54_s, f_X11_poke_b54]
    · simp [h2, f_X12_poke, f_X12_poke_b39, f_X12_poke_b17, f_X12_poke_b12, fails_1]
  · have h1 : (9 : Int32) ≤ n := h0
    refine Or.inr (Or.inl ⟨sI u 0 1, ?_, ?_, rfl, h.thr 1⟩)
    · simp [big_lt h1 (show (1 : Int32) ≤ 9 by decide), big_le h1 (show (8 : Int32) < 9 by decide), f_X11_poke, f_X11_poke_b11, f_X11_poke_b54_s, f_X11_poke_b54]
    · simp [big_lt h1 (show (1 : Int32) ≤ 9 by decide), big_le h1 (show (8 : Int32) < 9 by decide), f_X12_poke, f_X12_poke_b39, f_X12_poke_b17, f_X12_poke_b12, fails_1]
  · by_cases z : j < 1
    · have h2 : nI j < 1 := nI_lt (b := 1) z (by omega)
      refine Or.inr (Or.inl ⟨sI u 0 1, ?_, ?_, rfl, h.thr 1⟩)
      · simp [h2, f_X11_poke, f_X11_poke_b11, f_X11_poke_b54_s, f_X11_poke_b54]
      · simp [h2, f_X12_poke, f_X12_poke_b39, f_X12_poke_b17, f_X12_poke_b12, fails_1]
    · have p0 : ¬ nI j < 1 := nI_nlt (b := 1) (by omega) (by omega)
      have p1 : nI j ≤ 8 := nI_le (b := 8) (by omega) (by omega)
      rcases ram_cases hN (m := j) (by omega) (by omega) x with ⟨h1, h2⟩ | ⟨i, hi, -, hx, h1, h2⟩
      · refine Or.inr (Or.inr ⟨sI (sI u 0 0) 0 2, ?_, ?_, rfl, (h.thr 0).thr 2⟩)
        · unfold f_X11_poke
          rw [if_neg p0, if_pos p1, if_pos h1]
        · unfold f_X12_poke f_X12_poke_b17 f_X12_poke_b39
          rw [if_neg p0, if_pos p1, fails_0, Option.bind_some, if_pos rfl]
          rw [show f_X12_isRam x (nI j) (0, sI u 0 0).2 = 0 from h2, if_pos rfl]
          rfl
      · left
        have hN2 : RelN a (sI (sI u 0 0) 0 0) P := hN
        obtain ⟨a', u', h3, h4, h5, h6, h7⟩ := pokeL (x := x) (v := v) (i := i) (m := j) (by omega) hx j 0 a (sI (sI u 0 0) 0 0) (by omega) ((h.thr 0).thr 0) ⟨P, hN2, hi⟩ FU FU (by unfold FU; omega) (by unfold FU; omega)
        refine ⟨a', u', ?_, ?_, ?_, h5, h6⟩
        · unfold f_X11_poke
          rw [if_neg p0, if_pos p1, h1, if_neg (nI_m1 (by have := hN.2.1; omega))]
          show rI (f_X11_poke_b54 FU (nI j) v (nI i) (nI 0) a) = _
          rw [h3]
          rfl
        · unfold f_X12_poke f_X12_poke_b17 f_X12_poke_b39
          rw [if_neg p0, if_pos p1, fails_0, Option.bind_some, if_pos rfl]
          rw [show f_X12_isRam x (nI j) (0, sI u 0 0).2 = 1 from h2, if_neg n10, fails_0, Option.bind_some, if_pos rfl]
          show (f_X12_setRam_b3 FU x (nI j) v (nI 0) (sI (sI u 0 0) 0 0)).bind _ = _
          rw [h4]
          rfl
        · unfold f_X12_thrown
          rw [h7]
          rfl

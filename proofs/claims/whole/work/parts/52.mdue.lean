theorem bsh (x : Int64) (r : Int32) : (x &&& j_lshl 1 r = 0) ↔ qb x (sh6 r) = false := by
  refine bm_ x (sh6 r) (sh6_lt r) _ (fun i hi => ?_)
  rw [qb_shl, qb_lit]
  by_cases c : i = sh6 r
  · subst c
    simp [hi]
  · by_cases c2 : i < sh6 r
    · simp [c, c2]
    · have e : Nat.testBit 1 (i - sh6 r) = false := by
        obtain ⟨t, ht⟩ : ∃ t, i - sh6 r = t + 1 := ⟨i - sh6 r - 1, by omega⟩
        rw [ht, Nat.testBit_succ]
        exact Nat.zero_testBit t
      simp [c, e]
def rb (j : Nat) : Nat := sh6 (rkn j)
theorem rk_eq {j : Nat} (h : j < 6) : f_X12_ranked (nI j) = rkn j := by
  match j, h with
  | 0, _ => rfl
  | 1, _ => rfl
  | 2, _ => rfl
  | 3, _ => rfl
  | 4, _ => rfl
  | 5, _ => rfl
def ff (p : Nat → Bool) (e : Option Int32) : Nat → Option Int32
  | 0 => e
  | d + 1 => if p (6 - (d + 1)) then some (rkn (6 - (d + 1))) else ff p e d
theorem ff_no (p : Nat → Bool) (e : Option Int32) (h : ∀ j, j < 6 → p j = false) : ∀ d, d ≤ 6 → ff p e d = e := by
  intro d
  induction d with
  | zero => intro _; rfl
  | succ d ih =>
    intro hd
    unfold ff
    rw [h _ (by omega), if_neg (by decide), ih (by omega)]
theorem ff_yes (p : Nat → Bool) (e e' : Option Int32) : ∀ d, d ≤ 6 → (∃ j, 6 - d ≤ j ∧ j < 6 ∧ p j = true) → ff p e d = ff p e' d := by
  intro d
  induction d with
  | zero =>
    rintro _ ⟨j, h1, h2, -⟩
    omega
  | succ d ih =>
    rintro hd ⟨j, h1, h2, h3⟩
    unfold ff
    by_cases c : p (6 - (d + 1)) = true
    · rw [if_pos c, if_pos c]
    · rw [if_neg c, if_neg c]
      refine ih (by omega) ⟨j, ?_, h2, h3⟩
      rcases Nat.lt_or_ge j (6 - d) with q | q
      · exfalso
        have : j = 6 - (d + 1) := by omega
        subst this
        exact c h3
      · exact q
theorem ff_congr (p q : Nat → Bool) (e : Option Int32) (h : ∀ j, j < 6 → p j = q j) : ∀ d, d ≤ 6 → ff p e d = ff q e d := by
  intro d
  induction d with
  | zero => intro _; rfl
  | succ d ih =>
    intro hd
    unfold ff
    by_cases c : p (6 - (d + 1)) = true
    · rw [if_pos c, if_pos (by rw [← h _ (by omega)]; exact c)]
    · rw [if_neg c, if_neg (by rw [← h _ (by omega)]; exact c), ih (by omega)]
theorem nI_6 {s : Nat} (h : s < 6) : ¬ (6 : Int32) ≤ nI s := nI_ge (b := 6) h (by omega)
theorem foL (x : Int64) (a : St) : ∀ d, d ≤ 6 → ∀ n, d < n → f_X6_foremost_b10 n x 6 (nI (6 - d)) a = ff (fun j => qb x (rb j)) (some (-1)) d := by
  intro d
  induction d with
  | zero =>
    intro _ n hn
    obtain ⟨n, rfl⟩ : ∃ k, n = k + 1 := ⟨n - 1, by omega⟩
    show f_X6_foremost_b10_s _ _ _ _ _ = _
    unfold f_X6_foremost_b10_s
    rw [if_pos (by decide)]
    rfl
  | succ d ih =>
    intro hd n hn
    obtain ⟨n, rfl⟩ : ∃ k, n = k + 1 := ⟨n - 1, by omega⟩
    have hnx : nI (6 - (d + 1)) + 1 = nI (6 - d) := by rw [nI_1, show 6 - (d + 1) + 1 = 6 - d by omega]
    have IH := ih (by omega) n (by omega)
    show f_X6_foremost_b10_s _ _ _ _ _ = _
    unfold f_X6_foremost_b10_s ff
    have hs : 6 - (d + 1) < 6 := by omega
    rw [hnx, IH]
    generalize 6 - (d + 1) = s at *
    rw [if_neg (nI_6 hs), if_pos (in_d hs (by omega) rfl), nI_clamp (by omega), ts_s]
    unfold rb
    cases qb x (sh6 (rkn s)) <;> simp
def AM (u : St) : Bool := decide (gI u 2 < 3) || decide (¬ f_X12_is 3 u = 0)
def BM (u : St) : Bool := decide (gI u 2 = 0) || (decide (gI u 2 = 1) && decide (¬ f_X12_is 1 u = 0))
theorem tk2 (x : Int64) (u : St) : ∀ d, d ≤ 6 → ∀ n, d < n → f_X12_taken_b76 n x (nI (6 - d)) u = ff (fun j => qb x (rb j) && qb (gL u 6) (rb j) && BM u) (some (-1)) d := by
  intro d
  induction d with
  | zero =>
    intro _ n hn
    obtain ⟨n, rfl⟩ : ∃ k, n = k + 1 := ⟨n - 1, by omega⟩
    show f_X12_taken_b76_s _ _ _ _ = _
    unfold f_X12_taken_b76_s
    rw [if_pos (by decide)]
    rfl
  | succ d ih =>
    intro hd n hn
    obtain ⟨n, rfl⟩ : ∃ k, n = k + 1 := ⟨n - 1, by omega⟩
    have hnx : nI (6 - (d + 1)) + 1 = nI (6 - d) := by rw [nI_1, show 6 - (d + 1) + 1 = 6 - d by omega]
    have IH := ih (by omega) n (by omega)
    show f_X12_taken_b76_s _ _ _ _ = _
    unfold f_X12_taken_b76_s f_X12_taken_b139 f_X12_taken_b134 ff
    have hs : 6 - (d + 1) < 6 := by omega
    rw [hnx, IH]
    generalize 6 - (d + 1) = s at *
    rw [if_neg (nI_6 hs), rk_eq hs]
    have k1 := bsh x (rkn s)
    have k2 := bsh (gL u 6) (rkn s)
    unfold rb BM
    by_cases c1 : x &&& j_lshl 1 (rkn s) = 0
    · rw [if_pos c1]
      have q := k1.mp c1
      simp [q]
    · rw [if_neg c1]
      have q : qb x (sh6 (rkn s)) = true := by
        cases z : qb x (sh6 (rkn s))
        · exact absurd (k1.mpr z) c1
        · rfl
      by_cases c2 : gL u 6 &&& j_lshl 1 (rkn s) = 0
      · rw [if_pos c2]
        have q2 := k2.mp c2
        simp [q2]
      · rw [if_neg c2]
        have q2 : qb (gL u 6) (sh6 (rkn s)) = true := by
          cases z : qb (gL u 6) (sh6 (rkn s))
          · exact absurd (k2.mpr z) c2
          · rfl
        by_cases c3 : gI u 2 = 0
        · simp [q, q2, c3]
        · by_cases c4 : gI u 2 = 1
          · by_cases c5 : f_X12_is 1 u = 0
            · simp [q, q2, c4, c5]
            · simp [q, q2, c4, c5]
          · simp [c3, c4]
theorem tk1 (x : Int64) (u : St) : ∀ d, d ≤ 6 → ∀ n, d < n → f_X12_taken_b12 n x (nI (6 - d)) u = ff (fun j => qb x (rb j) && !qb (gL u 6) (rb j) && AM u) (f_X12_taken_b76 FU x 0 u) d := by
  intro d
  induction d with
  | zero =>
    intro _ n hn
    obtain ⟨n, rfl⟩ : ∃ k, n = k + 1 := ⟨n - 1, by omega⟩
    show f_X12_taken_b12_s _ _ _ _ = _
    unfold f_X12_taken_b12_s
    rw [if_pos (by decide)]
    rfl
  | succ d ih =>
    intro hd n hn
    obtain ⟨n, rfl⟩ : ∃ k, n = k + 1 := ⟨n - 1, by omega⟩
    have hnx : nI (6 - (d + 1)) + 1 = nI (6 - d) := by rw [nI_1, show 6 - (d + 1) + 1 = 6 - d by omega]
    have IH := ih (by omega) n (by omega)
    show f_X12_taken_b12_s _ _ _ _ = _
    unfold f_X12_taken_b12_s f_X12_taken_b68 f_X12_taken_b63 ff
    have hs : 6 - (d + 1) < 6 := by omega
    rw [hnx, IH]
    generalize 6 - (d + 1) = s at *
    rw [if_neg (nI_6 hs), rk_eq hs]
    have k1 := bsh x (rkn s)
    have k2 := bsh (gL u 6) (rkn s)
    unfold rb AM
    by_cases c1 : x &&& j_lshl 1 (rkn s) = 0
    · rw [if_pos c1]
      have q := k1.mp c1
      simp [q]
    · rw [if_neg c1]
      have q : qb x (sh6 (rkn s)) = true := by
        cases z : qb x (sh6 (rkn s))
        · exact absurd (k1.mpr z) c1
        · rfl
      by_cases c2 : gL u 6 &&& j_lshl 1 (rkn s) = 0
      · rw [if_pos c2]
        have q2 := k2.mp c2
        by_cases c3 : gI u 2 < 3
        · simp [q, q2, c3]
        · by_cases c5 : f_X12_is 3 u = 0
          · simp [c3, c5]
          · simp [q, q2, c3, c5]
      · rw [if_neg c2]
        have q2 : qb (gL u 6) (sh6 (rkn s)) = true := by
          cases z : qb (gL u 6) (sh6 (rkn s))
          · exact absurd (k2.mpr z) c2
          · rfl
        simp [q2]
theorem six (x : Int64) (hx : x &&& 2730 = x) (h0 : ¬ x = 0) : ∃ j, j < 6 ∧ qb x (rb j) = true := by
  have key : ∀ i, i < 64 → qb x i = true → ∃ j, j < 6 ∧ rb j = i := by
    intro i hi q
    have e := congrArg (fun z => qb z i) hx
    simp only [qb_and, q, Bool.true_and] at e
    have t : ∀ i : Fin 64, qb 2730 i.val = true → ∃ j, j < 6 ∧ rb j = i.val := by decide +kernel
    exact t ⟨i, hi⟩ e
  have ex : ∃ i, i < 64 ∧ qb x i = true := by
    apply Classical.byContradiction
    intro no
    apply h0
    refine qb_ext (fun i hi => ?_)
    cases z : qb x i
    · rw [qb_lit]; simp
    · exact absurd ⟨i, hi, z⟩ no
  obtain ⟨i, hi, q⟩ := ex
  obtain ⟨j, hj, e⟩ := key i hi q
  exact ⟨j, hj, by rw [e]; exact q⟩
theorem is_hs3 (u : St) : f_X12_is 3 u = if gL u 4 &&& 8 = 0 then 0 else 1 := by
  unfold f_X12_is
  rcases bt_3 (gL u 4) with ⟨-, t, r⟩ | ⟨-, t, r⟩
  · rw [t, if_neg (by decide), if_pos r]
  · rw [t, if_pos rfl, if_neg r]
theorem is_hs1 (u : St) : f_X12_is 1 u = if gL u 4 &&& 2 = 0 then 0 else 1 := by
  unfold f_X12_is
  rcases bt_1 (gL u 4) with ⟨-, t, r⟩ | ⟨-, t, r⟩
  · rw [t, if_neg (by decide), if_pos r]
  · rw [t, if_pos rfl, if_neg r]
theorem rel_due {a u : St} (h : Rel a u) : ∃ r, f_X6_dueInterrupt a = some r ∧ f_X12_taken u = some r ∧ (r = -1 ∨ ∃ c, c < 64 ∧ r = nI c) := by
  obtain ⟨p, hp⟩ := rel_pendT h
  have hpc : f_X4_pendingInterrupts a = some p := by rw [rel_pend h]; exact hp
  have h4 : gL u 4 = gL a 4 := h.longs.2.2.1
  have h6 : gL u 6 = gL a 6 := h.longs.2.2.2.2.1
  have h7 : gL u 7 = gL a 7 := h.longs.2.2.2.2.2.1
  have i2 : gI u 2 = gI a 16 := h.ints.1
  obtain ⟨⟨-, -, -, -, -, v5, -, v7⟩, -⟩ := h.inv
  have hAM : AM u = true ↔ (gI a 16 < 3 ∨ ¬ f_X4_has 8 a = 0) := by
    unfold AM f_X4_has
    rw [is_hs3, i2, h4]
    simp
  have hBM : BM u = true ↔ (gI a 16 = 0 ∨ (gI a 16 = 1 ∧ ¬ f_X4_has 2 a = 0)) := by
    unfold BM f_X4_has
    rw [is_hs1, i2, h4]
    simp
  have hC : f_X6_dueInterrupt a = f_X6_dueInterrupt_b31 (p &&& gL a 7) a := by
    unfold f_X6_dueInterrupt
    by_cases c : gL a 7 = 0
    · rw [if_pos c, c, Int64.and_zero]
    · rw [if_neg c, hpc, Option.bind_some, Int64.and_comm]
  have hx : (p &&& gL a 7) &&& 2730 = p &&& gL a 7 := by rw [Int64.and_assoc, v5]
  have hT : f_X12_taken u = ff (fun j => qb (p &&& gL a 7) (rb j) && !qb (gL a 6) (rb j) && AM u) (ff (fun j => qb (p &&& gL a 7) (rb j) && qb (gL a 6) (rb j) && BM u) (some (-1)) 6) 6 := by
    unfold f_X12_taken
    rw [hp, Option.bind_some, h7]
    have q := tk1 (p &&& gL a 7) u 6 (by omega) FU (by unfold FU; omega)
    have q2 := tk2 (p &&& gL a 7) u 6 (by omega) FU (by unfold FU; omega)
    rw [show nI (6 - 6) = 0 from rfl] at q q2
    rw [q, q2, h6]
  have hF : ∀ x, f_X6_foremost x a = ff (fun j => qb x (rb j)) (some (-1)) 6 := by
    intro x
    have q := foL x a 6 (by omega) FU (by unfold FU; omega)
    exact q
  have hr : ∀ (q : Nat → Bool) (e : Option Int32) (d : Nat), (∃ r, e = some r ∧ (r = -1 ∨ ∃ c, c < 64 ∧ r = nI c)) → d ≤ 6 → ∃ r, ff q e d = some r ∧ (r = -1 ∨ ∃ c, c < 64 ∧ r = nI c) := by
    intro q e d he
    induction d with
    | zero => intro _; exact he
    | succ d ih =>
      intro hd
      unfold ff
      split
      · refine ⟨_, rfl, Or.inr ?_⟩
        have hs : 6 - (d + 1) < 6 := by omega
        generalize 6 - (d + 1) = s at *
        match s, hs with
        | 0, _ => exact ⟨11, by omega, rfl⟩
        | 1, _ => exact ⟨3, by omega, rfl⟩
        | 2, _ => exact ⟨7, by omega, rfl⟩
        | 3, _ => exact ⟨9, by omega, rfl⟩
        | 4, _ => exact ⟨1, by omega, rfl⟩
        | 5, _ => exact ⟨5, by omega, rfl⟩
      · exact ih (by omega)
  have hm1 : ∃ r, (some (-1) : Option Int32) = some r ∧ (r = -1 ∨ ∃ c, c < 64 ∧ r = nI c) := ⟨-1, rfl, Or.inl rfl⟩
  obtain ⟨r, e1, e2⟩ := hr (fun j => qb (p &&& gL a 7) (rb j) && !qb (gL a 6) (rb j) && AM u) (ff (fun j => qb (p &&& gL a 7) (rb j) && qb (gL a 6) (rb j) && BM u) (some (-1)) 6) 6 (hr _ _ 6 hm1 (by omega)) (by omega)
  refine ⟨r, ?_, by rw [hT]; exact e1, e2⟩
  rw [← e1, hC]
  generalize p &&& gL a 7 = x at *
  unfold f_X6_dueInterrupt_b31
  by_cases x0 : x = 0
  · rw [if_pos x0]
    have z : ∀ i, qb x i = false := by
      intro i
      rw [x0, qb_lit]
      simp
    rw [ff_no _ _ (fun j _ => by simp [z]) 6 (by omega), ff_no _ _ (fun j _ => by simp [z]) 6 (by omega)]
  · rw [if_neg x0]
    have hb86 : f_X6_dueInterrupt_b86 x a = ff (fun j => qb x (rb j) && qb (gL a 6) (rb j) && BM u) (some (-1)) 6 := by
      have yes : BM u = true → f_X6_dueInterrupt_b114 x a = ff (fun j => qb x (rb j) && qb (gL a 6) (rb j) && BM u) (some (-1)) 6 := by
        intro B
        unfold f_X6_dueInterrupt_b114 f_X6_dueInterrupt_b119
        rw [if_neg n10, bs, hF]
        refine ff_congr _ _ _ (fun j _ => ?_) 6 (by omega)
        rw [qb_and]
        simp [B]
      have no : BM u = false → f_X6_dueInterrupt_b118 x a = ff (fun j => qb x (rb j) && qb (gL a 6) (rb j) && BM u) (some (-1)) 6 := by
        intro B
        unfold f_X6_dueInterrupt_b118 f_X6_dueInterrupt_b119
        rw [if_pos rfl, ff_no _ _ (fun j _ => by simp [B]) 6 (by omega)]
      unfold f_X6_dueInterrupt_b86
      by_cases c0 : gI a 16 = 0
      · rw [if_pos c0]
        exact yes (hBM.mpr (Or.inl c0))
      · rw [if_neg c0]
        by_cases c1 : gI a 16 = 1
        · rw [if_pos c1]
          by_cases c2 : f_X4_has 2 a = 0
          · rw [if_pos c2]
            exact no (Bool.eq_false_iff.mpr (fun q => by rcases hBM.mp q with q | q; exact c0 q; exact q.2 c2))
          · rw [if_neg c2]
            exact yes (hBM.mpr (Or.inr ⟨c1, c2⟩))
        · rw [if_neg c1]
          exact no (Bool.eq_false_iff.mpr (fun q => by rcases hBM.mp q with q | q; exact c0 q; exact c1 q.1))
    have hm : ∀ j, qb (x &&& (gL a 6 ^^^ -1)) (rb j) = (qb x (rb j) && !qb (gL a 6) (rb j)) := by
      intro j
      have : rb j < 64 := sh6_lt _
      rw [qb_and, qb_xor, qb_m1]
      simp [this]
    have skip : (∀ j, j < 6 → (qb x (rb j) && !qb (gL a 6) (rb j) && AM u) = false) → f_X6_dueInterrupt_b86 x a = ff (fun j => qb x (rb j) && !qb (gL a 6) (rb j) && AM u) (ff (fun j => qb x (rb j) && qb (gL a 6) (rb j) && BM u) (some (-1)) 6) 6 := by
      intro q
      rw [ff_no _ _ q 6 (by omega), hb86]
    by_cases m0 : x &&& (gL a 6 ^^^ -1) = 0
    · rw [if_pos m0]
      refine skip (fun j _ => ?_)
      have q := hm j
      rw [m0, qb_lit] at q
      rw [← q]
      simp
    · rw [if_neg m0]
      have take : AM u = true → f_X6_dueInterrupt_b81 (x &&& (gL a 6 ^^^ -1)) a = ff (fun j => qb x (rb j) && !qb (gL a 6) (rb j) && AM u) (ff (fun j => qb x (rb j) && qb (gL a 6) (rb j) && BM u) (some (-1)) 6) 6 := by
        intro hA
        unfold f_X6_dueInterrupt_b81
        rw [bs, hF]
        have hx2 : (x &&& (gL a 6 ^^^ -1)) &&& 2730 = x &&& (gL a 6 ^^^ -1) := by
          rw [Int64.and_assoc, Int64.and_comm (gL a 6 ^^^ -1), ← Int64.and_assoc, hx]
        obtain ⟨j, hj, hq⟩ := six _ hx2 m0
        rw [hm j] at hq
        refine Eq.trans (ff_congr _ (fun j => qb x (rb j) && !qb (gL a 6) (rb j) && AM u) _ (fun j _ => ?_) 6 (by omega)) (ff_yes _ _ _ 6 (by omega) ⟨j, by omega, hj, ?_⟩)
        · rw [hm j]
          simp [hA]
        · show (qb x (rb j) && !qb (gL a 6) (rb j) && AM u) = true
          rw [hq, hA]
          rfl
      by_cases c3 : gI a 16 < 3
      · rw [if_pos c3]
        exact take (hAM.mpr (Or.inl c3))
      · rw [if_neg c3]
        by_cases c4 : f_X4_has 8 a = 0
        · rw [if_pos c4]
          have hA : AM u = false := Bool.eq_false_iff.mpr (fun q => by rcases hAM.mp q with q | q; exact c3 q; exact q c4)
          exact skip (fun j _ => by simp [hA])
        · rw [if_neg c4]
          exact take (hAM.mpr (Or.inr c4))

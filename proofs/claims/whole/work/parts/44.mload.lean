theorem entE {a u : St} {T : Nat → Int32} {c P : Nat} (hN : RelN a u P) (hc2 : c ≤ 65536) (h64 : 64 ≤ c) (nC : NumC T c a) (nM : NumM T u) : ∃ e, f_X11_imageError_b197 a = some e ∧ ((f_X12_number 24 8 u).bind (fun y22 => if (f_X12_isRam y22 1 u) = 0 then (f_X12_errorOf_b334 u) else (if (y22 &&& 1) = 0 then (some 0) else (f_X12_errorOf_b334 u))) = some e) ∧ ((e = 0 ∧ tn T 24 8 0 &&& 1 = 0) ∨ (¬ e = 0 ∧ 0 < e)) := by
  have c24 : f_X2_number_o1 24 8 a = some (tn T 24 8 0) := nC 24 8 (by omega) (by omega)
  have m24 : f_X12_number 24 8 u = some (tn T 24 8 0) := nM 24 8 (by omega) (by omega)
  unfold f_X11_imageError_b197 f_X11_imageError_b236 f_X12_errorOf_b334
  rw [c24, m24, Option.bind_some, Option.bind_some]
  by_cases e : tn T 24 8 0 &&& 1 = 0
  · rw [if_pos e, if_pos e]
    rcases ram_cases hN (m := 1) (by omega) (by omega) (tn T 24 8 0) with ⟨h1, h2⟩ | ⟨i, hi, -, -, h1, h2⟩
    · have h1' : f_X10_place (tn T 24 8 0) 1 a = -1 := h1
      have h2' : f_X12_isRam (tn T 24 8 0) 1 u = 0 := h2
      rw [if_pos h1', if_pos h2']
      exact ⟨9, rfl, rfl, Or.inr ⟨by decide, by decide⟩⟩
    · have h1' : f_X10_place (tn T 24 8 0) 1 a = nI i := h1
      have h2' : f_X12_isRam (tn T 24 8 0) 1 u = 1 := h2
      have := hN.2.1
      rw [h1', if_neg (nI_m1 (by omega)), h2', if_neg n10]
      exact ⟨0, rfl, rfl, Or.inl ⟨rfl, e⟩⟩
  · rw [if_neg e, if_neg e]
    refine ⟨9, rfl, ?_, Or.inr ⟨by decide, by decide⟩⟩
    split <;> rfl
theorem errL {a u : St} {T : Nat → Int32} {c P r b : Nat} (hN : RelN a u P) (i8 : gI u 8 = gI a 2) (hc : gI a 2 = nI c) (hc2 : c ≤ 65536) (h64 : 64 ≤ c) (nC : NumC T c a) (nM : NumM T u) (hr : r ≤ 16) (hb : b + 56 * r ≤ c) : ∀ d k, k + d = r → (∀ j, j < k → RowOK T c P (b + 56 * j)) → ∀ n n', d < n → d < n' → ∃ e, f_X11_imageError_b156 n (nI r) (lN b) (nI k) a = some e ∧ f_X12_errorOf_b157 n' (lN r) (lN b) (nI k) u = some e ∧ ((e = 0 ∧ tn T 24 8 0 &&& 1 = 0 ∧ ∀ j, j < r → RowOK T c P (b + 56 * j)) ∨ (¬ e = 0 ∧ 0 < e)) := by
  intro d
  induction d with
  | zero =>
    intro k hk hj n n' hn hn'
    obtain ⟨n, rfl⟩ : ∃ q, n = q + 1 := ⟨n - 1, by omega⟩
    obtain ⟨n', rfl⟩ : ∃ q, n' = q + 1 := ⟨n' - 1, by omega⟩
    have hk0 : k = r := by omega
    subst hk0
    obtain ⟨e, h1, h2, h3⟩ := entE hN hc2 h64 nC nM
    refine ⟨e, ?_, ?_, ?_⟩
    · show f_X11_imageError_b156_s (f_X11_imageError_b156 n) (nI k) (lN b) (nI k) a = _
      unfold f_X11_imageError_b156_s
      rw [if_pos (Int32.le_refl _)]
      exact h1
    · show f_X12_errorOf_b157_s (f_X12_errorOf_b157 n') (lN k) (lN b) (nI k) u = _
      unfold f_X12_errorOf_b157_s
      rw [nI_l (by omega), if_pos (Int64.le_refl _)]
      exact h2
    · rcases h3 with ⟨q1, q2⟩ | q
      · exact Or.inl ⟨q1, q2, hj⟩
      · exact Or.inr q
  | succ d ih =>
    intro k hk hj n n' hn hn'
    obtain ⟨n, rfl⟩ : ∃ q, n = q + 1 := ⟨n - 1, by omega⟩
    obtain ⟨n', rfl⟩ : ∃ q, n' = q + 1 := ⟨n' - 1, by omega⟩
    have hx : lN b + 56 * (nI k).toInt64 = lN (b + 56 * k) := by
      rw [nI_l (by omega), show (56 : Int64) = lN 56 from rfl, lN_mul, lN_add]
    obtain ⟨e, h1, h2⟩ := rowE hN i8 hc hc2 nC nM (p := b + 56 * k) (by omega) (lN b) (nI k) hx (f_X12_errorOf_b157 n') (lN r)
    have hC : f_X11_imageError_b156 (n + 1) (nI r) (lN b) (nI k) a = if e = 0 then f_X11_imageError_b156 n (nI r) (lN b) (nI (k + 1)) a else some e := by
      show f_X11_imageError_b156_s (f_X11_imageError_b156 n) (nI r) (lN b) (nI k) a = _
      unfold f_X11_imageError_b156_s
      rw [if_neg (nI_ge (by omega) (by omega)), if_neg (show ¬ (16 : Int32) ≤ nI k from nI_ge (b := 16) (by omega) (by omega)), lN_i, show (56 : Int32) * nI k = nI (56 * k) from pk_mul 56 k, nI_add, h1, Option.bind_some, nI_1]
    have hM0 : ∀ z, f_X12_errorOf_b157 (n' + 1) (lN r) (lN b) (nI k) u = z ↔ f_X12_errorOf_b157_s (f_X12_errorOf_b157 n') (lN r) (lN b) (nI k) u = z := fun z => Iff.rfl
    have hlt : ¬ lN r ≤ (nI k).toInt64 := by rw [nI_l (by omega), pk_lLE (by omega) (by omega)]; omega
    rcases h2 with ⟨q1, q2, q3⟩ | ⟨q1, q2, q3⟩
    · obtain ⟨e', t1, t2, t3⟩ := ih (k + 1) (by omega) (by
        intro j hjk
        by_cases z : j = k
        · subst z; exact q2
        · exact hj j (by omega)) n n' (by omega) (by omega)
      refine ⟨e', ?_, ?_, t3⟩
      · rw [hC, if_pos q1, t1]
      · rw [hM0]
        unfold f_X12_errorOf_b157_s
        rw [if_neg hlt, q3]
        unfold f_X12_errorOf_b294
        rw [nI_1]
        exact t2
    · refine ⟨e, ?_, ?_, Or.inr ⟨q1, q2⟩⟩
      · rw [hC, if_neg q1]
      · rw [hM0]
        unfold f_X12_errorOf_b157_s
        rw [if_neg hlt]
        exact q3
theorem magL {u : St} {T : Nat → Int32} (nM : NumM T u) : ∀ d k, k + d = 7 → ∀ n, d < n → ((∀ j, k ≤ j → j < 7 → tn T j 1 0 = (f_X12_magic (nI j)).toInt64) → f_X12_errorOf_b13 n (nI k) u = f_X12_errorOf_b13 (n - d) (nI 7) u) ∧ ((¬ ∀ j, k ≤ j → j < 7 → tn T j 1 0 = (f_X12_magic (nI j)).toInt64) → f_X12_errorOf_b13 n (nI k) u = some 2) := by
  intro d
  induction d with
  | zero =>
    intro k hk n hn
    have hk0 : k = 7 := by omega
    subst hk0
    exact ⟨fun _ => rfl, fun q => absurd (fun j h1 h2 => absurd h2 (by omega)) q⟩
  | succ d ih =>
    intro k hk n hn
    obtain ⟨n, rfl⟩ : ∃ q, n = q + 1 := ⟨n - 1, by omega⟩
    have m1 : f_X12_number (lN k) 1 u = some (tn T k 1 0) := nM k 1 (by omega) (by omega)
    have hs : f_X12_errorOf_b13 (n + 1) (nI k) u = if tn T k 1 0 = (f_X12_magic (nI k)).toInt64 then f_X12_errorOf_b13 n (nI (k + 1)) u else some 2 := by
      show f_X12_errorOf_b13_s (f_X12_errorOf_b13 n) (nI k) u = _
      unfold f_X12_errorOf_b13_s
      rw [if_neg (show ¬ (7 : Int32) ≤ nI k from nI_ge (b := 7) (by omega) (by omega)), nI_l (by omega), m1, Option.bind_some, nI_1]
    obtain ⟨i1, i2⟩ := ih (k + 1) (by omega) n (by omega)
    rw [hs]
    constructor
    · intro hall
      rw [if_pos (hall k (Nat.le_refl _) (by omega)), i1 (fun j h1 h2 => hall j (by omega) h2), show n + 1 - (d + 1) = n - d by omega]
    · intro hno
      by_cases e : tn T k 1 0 = (f_X12_magic (nI k)).toInt64
      · rw [if_pos e]
        refine i2 (fun q => hno (fun j h1 h2 => ?_))
        by_cases z : j = k
        · subst z; exact e
        · exact q j (by omega) h2
      · rw [if_neg e]
theorem rel_err {a u : St} (h : Rel a u) : ∃ P c e, RelN a u P ∧ gI a 2 = nI c ∧ c ≤ 65536 ∧ f_X11_imageError a = some e ∧ f_X12_errorOf u = some e ∧ ((e = 0 ∧ Good (gA u 4) c P) ∨ (¬ e = 0 ∧ 0 < e)) := by
  obtain ⟨P, hN, hM⟩ := h.lens
  obtain ⟨c, hc, hc2, nC, nM⟩ := h.num
  have i8 : gI u 8 = gI a 2 := h.ints.2.2.2.2.2.2.2.2.2.1
  generalize gA u 4 = T at nC nM ⊢
  refine ⟨P, c, ?_⟩
  suffices hh : ∃ e, f_X11_imageError a = some e ∧ f_X12_errorOf u = some e ∧ ((e = 0 ∧ Good T c P) ∨ (¬ e = 0 ∧ 0 < e)) by
    obtain ⟨e, q⟩ := hh
    exact ⟨e, hN, hc, hc2, q⟩
  unfold f_X11_imageError f_X12_errorOf f_X2_size_o1 f_X11_imageRows
  rw [i8, hc]
  by_cases h64 : 64 ≤ c
  · have c0 : f_X2_number_o1 0 7 a = some (tn T 0 7 0) := nC 0 7 (by omega) (by omega)
    have c16 : f_X2_number_o1 16 2 a = some (tn T 16 2 0) := nC 16 2 (by omega) (by omega)
    have c18 : f_X2_number_o1 18 2 a = some (tn T 18 2 0) := nC 18 2 (by omega) (by omega)
    have c20 : f_X2_number_o1 20 4 a = some (tn T 20 4 0) := nC 20 4 (by omega) (by omega)
    have c56 : f_X2_number_o1 56 2 a = some (tn T 56 2 0) := nC 56 2 (by omega) (by omega)
    have c54 : f_X2_number_o1 54 2 a = some (tn T 54 2 0) := nC 54 2 (by omega) (by omega)
    have c32 : f_X2_number_o1 32 8 a = some (tn T 32 8 0) := nC 32 8 (by omega) (by omega)
    have m16 : f_X12_number 16 2 u = some (tn T 16 2 0) := nM 16 2 (by omega) (by omega)
    have m18 : f_X12_number 18 2 u = some (tn T 18 2 0) := nM 18 2 (by omega) (by omega)
    have m20 : f_X12_number 20 4 u = some (tn T 20 4 0) := nM 20 4 (by omega) (by omega)
    have m56 : f_X12_number 56 2 u = some (tn T 56 2 0) := nM 56 2 (by omega) (by omega)
    have m54 : f_X12_number 54 2 u = some (tn T 54 2 0) := nM 54 2 (by omega) (by omega)
    have m32 : f_X12_number 32 8 u = some (tn T 32 8 0) := nM 32 8 (by omega) (by omega)
    have g64 : (64 : Int32) ≤ nI c := nI_le (a := 64) h64 (by omega)
    rw [if_pos g64, if_pos g64, c0, c16, c18, c20, c56, c54, c32]
    simp only [Option.bind_some]
    obtain ⟨g1, g2⟩ := magL nM 7 0 (by omega) FU (by unfold FU; omega)
    by_cases em : tn T 0 7 0 = 282584257676671
    · have hall := (mark_iff T).mp em
      rw [if_pos em, show f_X12_errorOf_b13 FU 0 u = f_X12_errorOf_b13 (FU - 7) (nI 7) u from g1 (fun j _ h2 => hall j h2)]
      show ∃ e, _ ∧ f_X12_errorOf_b13_s (f_X12_errorOf_b13 299992) (nI 7) u = some e ∧ _
      unfold f_X12_errorOf_b13_s f_X12_errorOf_b86 f_X11_imageError_b82 f_X12_errorOf_b123 f_X11_imageError_b117
      rw [if_pos (show (7 : Int32) ≤ nI 7 by decide), m16, m18, m20, m56, m54, m32]
      simp only [Option.bind_some]
      by_cases e2 : tn T 16 2 0 = 2
      · rw [if_pos e2, if_pos e2]
        by_cases e3 : tn T 18 2 0 = 243
        · rw [if_pos e3, if_pos e3]
          by_cases e4 : tn T 20 4 0 = 1
          · rw [if_pos e4, if_pos e4]
            by_cases e5 : tn T 54 2 0 = 56
            · rw [if_pos e5, if_pos e5]
              obtain ⟨r, hr, er⟩ := tn_small T 56 (k := 2) (by omega)
              rw [er, lN_i]
              unfold f_X12_in f_X12_in_b17
              by_cases r1 : r < 1
              · rw [if_pos (show nI r < 1 from nI_lt (b := 1) r1 (by omega)), if_pos (show lN r < 1 from (pk_lLT (b := 1) (by omega) (by omega)).mpr r1), if_pos rfl]
                exact ⟨4, rfl, rfl, Or.inr ⟨by decide, by decide⟩⟩
              · rw [if_neg (show ¬ nI r < 1 from nI_nlt (b := 1) (by omega) (by omega)), if_neg (show ¬ lN r < 1 from fun q => r1 ((pk_lLT (b := 1) (by omega) (by omega)).mp q))]
                by_cases r16 : r ≤ 16
                · rw [if_pos (show nI r ≤ 16 from nI_le (b := 16) r16 (by omega)), if_neg (show ¬ (16 : Int64) < lN r from fun q => absurd ((pk_lLT (a := 16) (by omega) (by omega)).mp q) (by omega)), if_neg n10, nI_l (by omega), i8, hc, nI_l (by omega), show (56 : Int64) * lN r = lN (56 * r) from lN_mul 56 r]
                  rcases lies_cases (S := c) (by omega) (tn T 32 8 0) (lN (56 * r)) with ⟨l1, l2⟩ | ⟨l1, l2, b, s, hbs, eb, es⟩
                  · rw [l1, l2, if_pos rfl, if_pos rfl]
                    exact ⟨5, rfl, rfl, Or.inr ⟨by decide, by decide⟩⟩
                  · rw [l1, l2, if_neg n10, if_neg n10, eb]
                    have es2 : 56 * r = s := by
                      have q := congrArg (fun z : Int64 => z.toBitVec.toNat) es
                      have q1 : (lN (56 * r)).toBitVec.toNat = 56 * r := Nat.mod_eq_of_lt (by omega)
                      have q2 : (lN s).toBitVec.toNat = s := Nat.mod_eq_of_lt (by omega)
                      omega
                    obtain ⟨e, t1, t2, t3⟩ := errL (T := T) (r := r) (b := b) hN i8 hc hc2 h64 nC nM r16 (by omega) r 0 (by omega) (fun j hj => absurd hj (by omega)) FU FU (by unfold FU; omega) (by unfold FU; omega)
                    refine ⟨e, t1, t2, ?_⟩
                    rcases t3 with ⟨q1, q2, q3⟩ | q
                    · exact Or.inl ⟨q1, r, b, by omega, r16, er, eb, by omega, h64, q2, q3⟩
                    · exact Or.inr q
                · rw [if_neg (show ¬ nI r ≤ 16 from nI_ge (a := 16) (by omega) (by omega)), if_pos (show (16 : Int64) < lN r from (pk_lLT (a := 16) (by omega) (by omega)).mpr (by omega)), if_pos rfl]
                  exact ⟨4, rfl, rfl, Or.inr ⟨by decide, by decide⟩⟩
            · rw [if_neg e5, if_neg e5]
              exact ⟨4, rfl, rfl, Or.inr ⟨by decide, by decide⟩⟩
          · rw [if_neg e4, if_neg e4]
            exact ⟨3, rfl, rfl, Or.inr ⟨by decide, by decide⟩⟩
        · rw [if_neg e3, if_neg e3]
          exact ⟨3, rfl, rfl, Or.inr ⟨by decide, by decide⟩⟩
      · rw [if_neg e2, if_neg e2]
        exact ⟨3, rfl, rfl, Or.inr ⟨by decide, by decide⟩⟩
    · rw [if_neg em, show f_X12_errorOf_b13 FU 0 u = some 2 from g2 (fun q => em ((mark_iff T).mpr (fun j hj => q j (Nat.zero_le _) hj)))]
      exact ⟨2, rfl, rfl, Or.inr ⟨by decide, by decide⟩⟩
  · have g64 : ¬ (64 : Int32) ≤ nI c := nI_ge (b := 64) (by omega) (by omega)
    rw [if_neg g64, if_neg g64]
    exact ⟨1, rfl, rfl, Or.inr ⟨by decide, by decide⟩⟩
/-- zeros -/
def zf (f : Nat → Int32) (x y : Nat) : Nat → Int32 := fun p => if x ≤ p ∧ p < y then 0 else f p
theorem zf_nil (f : Nat → Int32) {x y : Nat} (h : y ≤ x) : zf f x y = f := by
  funext p
  unfold zf
  rw [if_neg (by omega)]
theorem zf_cat (f : Nat → Int32) {x y z : Nat} (h : x ≤ y) (h2 : y ≤ z) : zf (zf f x y) y z = zf f x z := by
  funext p
  unfold zf
  by_cases c : y ≤ p ∧ p < z
  · rw [if_pos c, if_pos (by omega)]
  · rw [if_neg c]
    by_cases c2 : x ≤ p ∧ p < y
    · rw [if_pos c2, if_pos (by omega)]
    · rw [if_neg c2, if_neg (by omega)]
theorem qt_0 (b : Nat) : qt 0 b = false := BitVec.getLsbD_zero
theorem qb_0 (b : Nat) : qb 0 b = false := BitVec.getLsbD_zero
theorem Rel.z8 {a u : St} (h : Rel a u) {P : Nat} (hN : RelN a u P) {i : Nat} (hi : i + 8 ≤ 4096 * P) (hal : i % 8 = 0) : ∃ q w, f_X10_write (nI i) 8 0 a = some (sB a 0 q w) ∧ Rel (sB a 0 q w) (sF u 0 (zf (gA u 0) i (i + 8))) := by
  have hN' := hN
  obtain ⟨p0, p1, n1, s5, s1, _, _, _, _, n0, _⟩ := hN
  obtain ⟨w, h1, h2⟩ := wr_bits (m := 8) s5 n1 p1 (Or.inr (Or.inr (Or.inr rfl))) hi hal 0
  refine ⟨_, w, h1, h.ram ?_⟩
  intro P' hN2 hM p hp b hb
  have hP : P' = P := by
    have e1 := hN2.2.2.1
    have e2 := hN'.2.2.1
    omega
  subst hP
  show qb (vp_updL (gB a 0) (i / 8) w (p / 8)) (8 * (p % 8) + b) = qt (zf (gA u 0) i (i + 8) p) b
  unfold vp_updL zf
  by_cases c : p / 8 = i / 8
  · rw [if_pos c, h2 _ (by omega), if_pos (by omega), if_pos (by omega), qb_0, qt_0]
  · rw [if_neg c, if_neg (by omega)]
    exact hM p hp b hb
theorem zeroL {P y : Nat} (hy : y ≤ 4096 * P) : ∀ d x a u, x + d = y → Rel a u → RelN a u P → ∀ n, d < n → ∃ a', f_X10_zero_b2 n (nI y) (nI x) a = some a' ∧ Rel a' (sF u 0 (zf (gA u 0) x y)) ∧ Bud a ≤ Bud a' ∧ gL a' = gL a ∧ gI a' = gI a := by
  intro d
  induction d using Nat.strongRecOn with
  | _ d ih =>
    intro x a u hx h hN n hn
    obtain ⟨n, rfl⟩ : ∃ q, n = q + 1 := ⟨n - 1, by omega⟩
    have hN' := hN
    obtain ⟨p0, p1, n1, s5, s1, _, _, _, _, n0, _⟩ := hN
    show ∃ a', f_X10_zero_b2_s (f_X10_zero_b2 n) (nI y) (nI x) a = some a' ∧ _
    unfold f_X10_zero_b2_s f_X10_zero_b27 f_X10_zero_b28
    by_cases d0 : d = 0
    · subst d0
      rw [if_pos (nI_le (by omega) (by omega)), zf_nil _ (by omega), sF_id]
      exact ⟨a, rfl, h, Nat.le_refl _, rfl, rfl⟩
    · rw [if_neg (nI_ge (by omega) (by omega)), and7 x (by omega), pk_sub (by omega)]
      have one : ∃ a', ((f_X10_write (nI x) 1 0 a).bind fun y3 => f_X10_zero_b2 n (nI y) (nI x + 1) y3) = some a' ∧ Rel a' (sF u 0 (zf (gA u 0) x y)) ∧ Bud a ≤ Bud a' ∧ gL a' = gL a ∧ gI a' = gI a := by
        obtain ⟨q, w, h1, h2⟩ := h.ram1 hN' (i := x) (by omega) 0 0 (fun b hb => by rw [qt_0, qb_0])
        rw [h1, Option.bind_some, nI_1]
        obtain ⟨a', t1, t2, t3, t4, t5⟩ := ih (d - 1) (by omega) (x + 1) _ _ (by omega) h2 (by exact hN') n (by omega)
        refine ⟨a', t1, ?_, t3, t4, t5⟩
        rw [sA_sF, sF_sF, gA_sF] at t2
        have e : upd (gA u 0) x 0 = zf (gA u 0) x (x + 1) := by
          funext p
          unfold upd zf
          by_cases c : p = x
          · rw [if_pos c, if_pos (by omega)]
          · rw [if_neg c, if_neg (by omega)]
        rw [e, zf_cat _ (by omega) (by omega)] at t2
        exact t2
      by_cases c7 : x % 8 = 0
      · rw [if_pos (show nI (x % 8) = 0 by rw [c7]; rfl)]
        by_cases c8 : y - x < 8
        · rw [if_pos (show nI (y - x) < 8 from nI_lt (b := 8) c8 (by omega))]
          exact one
        · rw [if_neg (show ¬ nI (y - x) < 8 from nI_nlt (b := 8) (by omega) (by omega))]
          obtain ⟨q, w, h1, h2⟩ := h.z8 hN' (i := x) (by omega) c7
          rw [h1, Option.bind_some, show nI x + 8 = nI (x + 8) from nI_add x 8]
          obtain ⟨a', t1, t2, t3, t4, t5⟩ := ih (d - 8) (by omega) (x + 8) _ _ (by omega) h2 (by exact hN') n (by omega)
          refine ⟨a', t1, ?_, t3, t4, t5⟩
          rw [sF_sF, gA_sF, zf_cat _ (by omega) (by omega)] at t2
          exact t2
      · rw [if_neg (show ¬ nI (x % 8) = 0 from nI_ne0 (by omega) (by omega))]
        exact one
/-- the bytes of a row, first those of the tape -/
theorem rowL {T : Nat → Int32} {c P o s t g : Nat} (hos : o + s ≤ c) (htg : t + g ≤ 4096 * P) (hsg : s ≤ g) (hc2 : c ≤ 65536) (k29 : Int64 → Int32 → St → Option (Int32 × St)) (x2 : Int64) (x4 : Int32) : ∀ d k a u, k + d = s → Rel a u → RelN a u P → gA u 4 = T → gI a 2 = nI c → ∀ n n', d < n → d < n' → ∃ a1 u1 n1 n2, f_X11_bringRow_b69 n (nI o) (nI t) (nI s) (nI g) (nI k) a = f_X11_bringRow_b69_s (f_X11_bringRow_b69 n1) (nI o) (nI t) (nI s) (nI g) (nI s) a1 ∧ f_X12_load_b134 k29 n' x2 x4 (lN o) (lN s) (nI t) (lN g) (nI k) u = f_X12_load_b134 k29 n2 x2 x4 (lN o) (lN s) (nI t) (lN g) (nI s) u1 ∧ n2 = n' - d ∧ Rel a1 u1 ∧ RelN a1 u1 P ∧ gA u1 4 = T ∧ gI a1 2 = nI c ∧ Bud a ≤ Bud a1 ∧ gI u1 0 = gI u 0 := by
  intro d
  induction d with
  | zero =>
    intro k a u hk h hN hT hc n n' hn hn'
    obtain ⟨n, rfl⟩ : ∃ q, n = q + 1 := ⟨n - 1, by omega⟩
    have hk0 : k = s := by omega
    subst hk0
    exact ⟨a, u, n, n', rfl, rfl, rfl, h, hN, hT, hc, Nat.le_refl _, rfl⟩
  | succ d ih =>
    intro k a u hk h hN hT hc n n' hn hn'
    obtain ⟨n, rfl⟩ : ∃ q, n = q + 1 := ⟨n - 1, by omega⟩
    obtain ⟨n', rfl⟩ : ∃ q, n' = q + 1 := ⟨n' - 1, by omega⟩
    have hN' := hN
    obtain ⟨p0, p1, n1, s5, s1, _, _, _, _, n0, _, _, _, _, m5, _⟩ := hN
    obtain ⟨P', hI, hL, hS, hA, hN0, hM, hTT, hG, hO, hV, hW⟩ := id h
    obtain ⟨q, w, h1, h2⟩ := h.ram1 hN' (i := t + k) (by omega) ((gA u 4 (o + k) &&& 255).toInt64) (vp_nar .byte (gA u 4 (o + k))) (by
      intro b hb
      rw [and_l, qb_byte, vp_nar_byte, qt_b8]
      simp [hb, show b < 32 by omega])
    obtain ⟨a1, u1, m1, m2, r1, r2, r3, r4⟩ := ih (k + 1) _ _ (by omega) h2 hN' hT hc n n' (by omega) (by omega)
    refine ⟨a1, u1, m1, m2, ?_, ?_, by omega, r4⟩
    · rw [← r1]
      show f_X11_bringRow_b69_s (f_X11_bringRow_b69 n) (nI o) (nI t) (nI s) (nI g) (nI k) a = _
      rw [show f_X11_bringRow_b69_s (f_X11_bringRow_b69 n) (nI o) (nI t) (nI s) (nI g) (nI k) a = if nI s ≤ nI k then ((f_X10_zero (nI t + nI s) (nI t + nI g) a).bind (fun y10 => some y10)) else ((f_X2_byteAt_o1 (nI o + nI k) a).bind (fun y12 => (f_X10_write (nI t + nI k) 1 y12.toInt64 a).bind (fun y14 => f_X11_bringRow_b69 n (nI o) (nI t) (nI s) (nI g) (nI k + 1) y14))) from rfl]
      rw [if_neg (nI_ge (by omega) (by omega)), nI_add, nI_add, at_o1 hTT.2 hc hc2 (by omega), Option.bind_some, h1, Option.bind_some, nI_1]
    · rw [← r2]
      show f_X12_load_b134_s k29 (f_X12_load_b134 k29 n') x2 x4 (lN o) (lN s) (nI t) (lN g) (nI k) u = _
      unfold f_X12_load_b134_s f_X12_load_b176
      rw [nI_l (by omega), if_neg (by rw [pk_lLE (by omega) (by omega)]; omega), if_neg (by rw [pk_lLE (by omega) (by omega)]; omega), lN_i, nI_add, nI_add, if_pos (in_d (N := 65536) (by omega) (by omega) m5), if_pos (in_d (N := 262144) (by omega) (by omega) n0), nI_clamp (by omega), nI_clamp (by omega), nI_1]
theorem nar0 : vp_nar .byte 0 = 0 := by rw [vp_nar_byte]; rfl
/-- then the zeros of the reference -/
theorem zerM {P o s t g : Nat} (htg : t + g ≤ 4096 * P) (hP : P ≤ 64) (hs : s < 2 ^ 31) (k29 : Int64 → Int32 → St → Option (Int32 × St)) (x2 : Int64) (x4 : Int32) (u : St) (n0 : gN u 0 = 262144) : ∀ d k f, k + d = g → s ≤ k → ∀ n, d < n → f_X12_load_b134 k29 n x2 x4 (lN o) (lN s) (nI t) (lN g) (nI k) (sF u 0 f) = k29 x2 (x4 + 1) (sF u 0 (zf f (t + k) (t + g))) := by
  intro d
  induction d with
  | zero =>
    intro k f hk hsk n hn
    obtain ⟨n, rfl⟩ : ∃ q, n = q + 1 := ⟨n - 1, by omega⟩
    have hk0 : k = g := by omega
    subst hk0
    show f_X12_load_b134_s k29 (f_X12_load_b134 k29 n) x2 x4 (lN o) (lN s) (nI t) (lN k) (nI k) (sF u 0 f) = _
    unfold f_X12_load_b134_s f_X12_load_b183
    rw [nI_l (by omega), if_pos (Int64.le_refl _), zf_nil _ (by omega)]
  | succ d ih =>
    intro k f hk hsk n hn
    obtain ⟨n, rfl⟩ : ∃ q, n = q + 1 := ⟨n - 1, by omega⟩
    show f_X12_load_b134_s k29 (f_X12_load_b134 k29 n) x2 x4 (lN o) (lN s) (nI t) (lN g) (nI k) (sF u 0 f) = _
    unfold f_X12_load_b134_s f_X12_load_b176
    rw [nI_l (by omega), if_neg (by rw [pk_lLE (by omega) (by omega)]; omega), if_pos (by rw [pk_lLE (by omega) (by omega)]; omega), nI_add, if_pos (in_d (s := t + k) (N := 262144) (by omega) (by omega) (show gN (sF u 0 f) 0 = 262144 from n0)), nI_clamp (by omega), nI_1, sA_sF, gA_sF, sF_sF, nar0, ih (k + 1) _ (by omega) (by omega) n (by omega)]
    have e : upd f (t + k) 0 = zf f (t + k) (t + (k + 1)) := by
      funext p
      unfold upd zf
      by_cases c : p = t + k
      · rw [if_pos c, if_pos (by omega)]
      · rw [if_neg c, if_neg (by omega)]
    rw [e, zf_cat _ (by omega) (by omega)]
theorem rowB {a u : St} {T : Nat → Int32} {c P p : Nat} (h : Rel a u) (hN : RelN a u P) (hT : gA u 4 = T) (hc : gI a 2 = nI c) (hc2 : c ≤ 65536) (hp : p + 56 ≤ c) (hrow : RowOK T c P p) (h1 : tn T p 4 0 = 1) (k29 : Int64 → Int32 → St → Option (Int32 × St)) (x2 : Int64) (x4 : Int32) : ∃ a1 u1, f_X11_bringRow (nI p) a = some a1 ∧ ((f_X12_number (lN p + 8) 8 u).bind (fun y14 => (f_X12_number (lN p + 32) 8 u).bind (fun y16 => (f_X12_number (lN p + 24) 8 u).bind (fun y18 => (f_X12_number (lN p + 40) 8 u).bind (fun y20 => f_X12_load_b134 k29 FU x2 x4 y14 y16 ((y18 - 2147483648).toInt32) y20 0 u))))) = k29 x2 (x4 + 1) u1 ∧ Rel a1 u1 ∧ RelN a1 u1 P ∧ gA u1 4 = T ∧ gI a1 2 = nI c ∧ Bud a ≤ Bud a1 ∧ gI u1 0 = gI u 0 := by
  obtain ⟨o, s, t, g, eo, es, et, eg, hos, htg, hsg⟩ := hrow h1
  obtain ⟨c', hc', hc2', nC, nM⟩ := h.num
  have e1 : c' = c := (nI_eq (by omega) (by omega)).mp (hc'.symm.trans hc)
  subst e1
  rw [hT] at nC nM
  have p1 := hN.2.1
  have c32 : f_X2_number_o1 (nI p + 32) 8 a = some (tn T (p + 32) 8 0) := by rw [show nI p + 32 = nI (p + 32) from nI_add p 32]; exact nC (p + 32) 8 (by omega) (by omega)
  have c40 : f_X2_number_o1 (nI p + 40) 8 a = some (tn T (p + 40) 8 0) := by rw [show nI p + 40 = nI (p + 40) from nI_add p 40]; exact nC (p + 40) 8 (by omega) (by omega)
  have c8 : f_X2_number_o1 (nI p + 8) 8 a = some (tn T (p + 8) 8 0) := by rw [show nI p + 8 = nI (p + 8) from nI_add p 8]; exact nC (p + 8) 8 (by omega) (by omega)
  have c24 : f_X2_number_o1 (nI p + 24) 8 a = some (tn T (p + 24) 8 0) := by rw [show nI p + 24 = nI (p + 24) from nI_add p 24]; exact nC (p + 24) 8 (by omega) (by omega)
  have m32 : f_X12_number (lN p + 32) 8 u = some (tn T (p + 32) 8 0) := by rw [show lN p + 32 = lN (p + 32) from lN_add p 32]; exact nM (p + 32) 8 (by omega) (by omega)
  have m40 : f_X12_number (lN p + 40) 8 u = some (tn T (p + 40) 8 0) := by rw [show lN p + 40 = lN (p + 40) from lN_add p 40]; exact nM (p + 40) 8 (by omega) (by omega)
  have m8 : f_X12_number (lN p + 8) 8 u = some (tn T (p + 8) 8 0) := by rw [show lN p + 8 = lN (p + 8) from lN_add p 8]; exact nM (p + 8) 8 (by omega) (by omega)
  have m24 : f_X12_number (lN p + 24) 8 u = some (tn T (p + 24) 8 0) := by rw [show lN p + 24 = lN (p + 24) from lN_add p 24]; exact nM (p + 24) 8 (by omega) (by omega)
  unfold f_X11_bringRow
  rw [c8, c24, c32, c40, m8, m24, m32, m40]
  simp only [Option.bind_some]
  rw [eo, es, et, eg, lN_i, lN_i, lN_i, lN_i]
  obtain ⟨a1, u1, n1, n2, r1, r2, r3, r4, r5, r6, r7, r8, r9⟩ := rowL hos htg hsg hc2 k29 x2 x4 s 0 a u (by omega) h hN hT hc FU FU (by unfold FU; omega) (by unfold FU; omega)
  have n0 : gN u1 0 = 262144 := r5.2.2.2.2.2.2.2.2.2.1
  obtain ⟨a2, t1, t2, t3, t4, t5⟩ := zeroL (P := P) (y := t + g) htg (g - s) (t + s) a1 u1 (by omega) r4 r5 FU (by unfold FU; omega)
  have z := zerM (o := o) (s := s) htg p1 (by omega) k29 x2 x4 u1 n0 (g - s) s (gA u1 0) (by omega) (Nat.le_refl _) n2 (by rw [r3]; unfold FU; omega)
  rw [sF_id] at z
  refine ⟨a2, sF u1 0 (zf (gA u1 0) (t + s) (t + g)), ?_, ?_, t2, ?_, r6, ?_, by omega, r9⟩
  · rw [show f_X11_bringRow_b69 FU (nI o) (nI t) (nI s) (nI g) 0 a = _ from r1]
    unfold f_X11_bringRow_b69_s f_X10_zero
    rw [if_pos (Int32.le_refl _), nI_add, nI_add, t1]
    rfl
  · rw [show f_X12_load_b134 k29 FU x2 x4 (lN o) (lN s) (nI t) (lN g) 0 u = _ from r2]
    exact z
  · obtain ⟨P2, hN2, -⟩ := t2.lens
    have e2 : P2 = P := by
      have q1 := hN2.2.2.2.2.1
      have q2 := r5.2.2.2.2.1
      exact (nI_eq (by have := hN2.2.1; omega) (by omega)).mp (q1.symm.trans q2)
    rw [← e2]
    exact hN2
  · rw [t5]
    exact r7
theorem loadL {T : Nat → Int32} {c P r b : Nat} (hc2 : c ≤ 65536) (h64 : 64 ≤ c) (hr16 : r ≤ 16) (er : tn T 56 2 0 = lN r) (hb : b + 56 * r ≤ c) (hev : tn T 24 8 0 &&& 1 = 0) (hrow : ∀ k, k < r → RowOK T c P (b + 56 * k)) : ∀ d k a u, k + d = r → Rel a u → RelN a u P → gA u 4 = T → gI a 2 = nI c → ∀ n n', d < n → d < n' → ∃ a1 u1, f_X11_bringImage_b20 n (nI b) (nI r) (nI k) a = some a1 ∧ f_X12_load_b29 n' (lN b) (nI k) u = some (0, u1) ∧ Rel a1 u1 ∧ Bud a ≤ Bud a1 ∧ gI u1 0 = gI u 0 := by
  intro d
  induction d with
  | zero =>
    intro k a u hk h hN hT hc n n' hn hn'
    obtain ⟨n, rfl⟩ : ∃ q, n = q + 1 := ⟨n - 1, by omega⟩
    obtain ⟨n', rfl⟩ : ∃ q, n' = q + 1 := ⟨n' - 1, by omega⟩
    have hk0 : k = r := by omega
    subst hk0
    obtain ⟨c', hc', hc2', nC, nM⟩ := h.num
    have e1 : c' = c := (nI_eq (by omega) (by omega)).mp (hc'.symm.trans hc)
    subst e1
    rw [hT] at nC nM
    have c24 : f_X2_number_o1 24 8 a = some (tn T 24 8 0) := nC 24 8 (by omega) (by omega)
    have m24 : f_X12_number 24 8 u = some (tn T 24 8 0) := nM 24 8 (by omega) (by omega)
    have m56 : f_X12_number 56 2 u = some (tn T 56 2 0) := nM 56 2 (by omega) (by omega)
    refine ⟨_, _, ?_, ?_, (((h.L24 (tn T 24 8 0) hev).I16 3 (Or.inr (Or.inr rfl))).endRes), Nat.le_refl _, rfl⟩
    · show f_X11_bringImage_b20_s (f_X11_bringImage_b20 n) (nI b) (nI k) (nI k) a = _
      unfold f_X11_bringImage_b20_s f_X11_bringImage_b66
      rw [if_pos (Int32.le_refl _), c24]
      rfl
    · show f_X12_load_b29_s (f_X12_load_b29 n') (lN b) (nI k) u = _
      unfold f_X12_load_b29_s
      rw [m56, Option.bind_some, er, nI_l (by omega), if_pos (Int64.le_refl _), m24]
      rfl
  | succ d ih =>
    intro k a u hk h hN hT hc n n' hn hn'
    obtain ⟨n, rfl⟩ : ∃ q, n = q + 1 := ⟨n - 1, by omega⟩
    obtain ⟨n', rfl⟩ : ∃ q, n' = q + 1 := ⟨n' - 1, by omega⟩
    obtain ⟨c', hc', hc2', nC, nM⟩ := h.num
    have e1 : c' = c := (nI_eq (by omega) (by omega)).mp (hc'.symm.trans hc)
    subst e1
    rw [hT] at nC nM
    have m56 : f_X12_number 56 2 u = some (tn T 56 2 0) := nM 56 2 (by omega) (by omega)
    have c4 : f_X2_number_o1 (nI (b + 56 * k)) 4 a = some (tn T (b + 56 * k) 4 0) := nC (b + 56 * k) 4 (by omega) (by omega)
    have m4 : f_X12_number (lN (b + 56 * k)) 4 u = some (tn T (b + 56 * k) 4 0) := nM (b + 56 * k) 4 (by omega) (by omega)
    have hx : lN b + 56 * (nI k).toInt64 = lN (b + 56 * k) := by
      rw [nI_l (by omega), show (56 : Int64) = lN 56 from rfl, lN_mul, lN_add]
    have hlt : ¬ lN r ≤ (nI k).toInt64 := by rw [nI_l (by omega), pk_lLE (by omega) (by omega)]; omega
    show ∃ a1 u1, f_X11_bringImage_b20_s (f_X11_bringImage_b20 n) (nI b) (nI r) (nI k) a = some a1 ∧ f_X12_load_b29_s (f_X12_load_b29 n') (lN b) (nI k) u = some (0, u1) ∧ _
    unfold f_X11_bringImage_b20_s f_X12_load_b29_s f_X11_bringImage_b60 f_X12_load_b183
    rw [if_neg (nI_ge (by omega) (by omega)), if_neg (show ¬ (16 : Int32) ≤ nI k from nI_ge (b := 16) (by omega) (by omega)), show (56 : Int32) * nI k = nI (56 * k) from pk_mul 56 k, nI_add, c4, Option.bind_some, m56, Option.bind_some, er, if_neg hlt, hx, m4, Option.bind_some]
    by_cases e : tn T (b + 56 * k) 4 0 = 1
    · rw [if_pos e, if_pos e]
      obtain ⟨a1, u1, r1, r2, r3, r4, r5, r6, r7, r8⟩ := rowB h hN hT hc hc2 (p := b + 56 * k) (by omega) (hrow k (by omega)) e (f_X12_load_b29 n') (lN b) (nI k)
      rw [r1, r2, Option.bind_some, nI_1]
      obtain ⟨a2, u2, t1, t2, t3, t4, t5⟩ := ih (k + 1) a1 u1 (by omega) r3 r4 r5 r6 n n' (by omega) (by omega)
      exact ⟨a2, u2, t1, t2, t3, by omega, t5.trans r8⟩
    · rw [if_neg e, if_neg e, nI_1]
      exact ih (k + 1) a u (by omega) h hN hT hc n n' (by omega) (by omega)
theorem op_load : Op_load Rel Bud := by
  intro a u h
  obtain ⟨P, c, e, hN, hc, hc2, h1, h2, h3⟩ := rel_err (h.thr 0)
  unfold f_X11_load f_X12_load f_X11_load_b13
  rw [h1, h2, Option.bind_some, Option.bind_some]
  rcases h3 with ⟨rfl, hg⟩ | ⟨q1, q2⟩
  · obtain ⟨r, b, hr1, hr16, er, eb, hb, h64, hev, hrow⟩ := hg
    obtain ⟨c', hc', hc2', nC, nM⟩ := (h.thr 0).num
    have e1 : c' = c := (nI_eq (by omega) (by omega)).mp (hc'.symm.trans hc)
    subst e1
    have c32 : f_X2_number_o1 32 8 a = some (tn (gA u 4) 32 8 0) := nC 32 8 (by omega) (by omega)
    have c56 : f_X2_number_o1 56 2 a = some (tn (gA u 4) 56 2 0) := nC 56 2 (by omega) (by omega)
    have m32 : f_X12_number 32 8 (sI u 0 0) = some (tn (gA u 4) 32 8 0) := nM 32 8 (by omega) (by omega)
    obtain ⟨a1, u1, t1, t2, t3, t4, t5⟩ := loadL (T := gA u 4) (r := r) (b := b) hc2 h64 hr16 er hb hev hrow r 0 a (sI u 0 0) (by omega) (h.thr 0) hN rfl hc FU FU (by unfold FU; omega) (by unfold FU; omega)
    rw [if_pos rfl, if_pos (by decide)]
    refine ⟨0, a1, 0, u1, ?_, ?_, rfl, t3, t4⟩
    · unfold f_X11_bringImage f_X11_imageRows
      rw [c32, c56]
      simp only [Option.bind_some]
      rw [show tn (gA u 4) 32 8 0 = lN b from eb, show tn (gA u 4) 56 2 0 = lN r from er, lN_i, lN_i, show f_X11_bringImage_b20 FU (nI b) (nI r) 0 a = some a1 from t1]
      rfl
    · rw [m32, Option.bind_some, show tn (gA u 4) 32 8 0 = lN b from eb]
      exact t2
  · rw [if_neg q1, if_neg (Int32.not_le.mpr q2)]
    exact ⟨e, a, e, sI u 0 0, rfl, rfl, rfl, h.thr 0, Nat.le_refl _⟩

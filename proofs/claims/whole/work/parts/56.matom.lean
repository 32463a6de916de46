theorem rd_case (w : Int32) : ((∀ v a, f_X6_putRd w v a = some a) ∧ (∀ v u, f_X12_gives (w.toInt64 &&& 4294967295) v u = some u)) ∨ ∃ n, (∀ v a, gN a 7 = 32 → f_X6_putRd w v a = some (sB a 1 n v)) ∧ (∀ v u, gN u 1 = 32 → f_X12_gives (w.toInt64 &&& 4294967295) v u = some (sB u 0 n v)) := by
  unfold f_X6_putRd f_X12_gives
  rw [fl_rd]
  obtain ⟨k, hk, e⟩ := pk_andE (w >>> ((7 : Int32) &&& 31)) (m := 31) 5 rfl
  rw [e]
  by_cases c : k = 0
  · subst c
    left
    exact ⟨fun v a => by rw [if_pos nI_0], fun v u => by rw [if_pos (by decide)]⟩
  · right
    refine ⟨k, fun v a n7 => ?_, fun v u m1 => ?_⟩
    · rw [if_neg (nI_ne0 (by omega) (by omega)), n7, if_pos (in_32 hk), nI_clamp (by omega)]
    · rw [if_neg (nI_nle (by omega) (by omega)), m1, if_pos (in_32 hk), nI_clamp (by omega)]
theorem sr_same {u b : St} {x v : Int64} {i m : Nat} {g : Nat → Int32} (n0 : gN u 0 = 262144) (hx : x - 2147483648 = lN i) (hi : i + m ≤ 262144) (hm : m ≤ 8) (e : f_X12_setRam x (nI m) v u = some (sF u 0 g)) (hA : gA b 0 = gA u 0) (hN : gN b = gN u) : f_X12_setRam x (nI m) v b = some (sF b 0 g) := by
  obtain ⟨g1, e1, f1⟩ := sr_all (u := u) (v := v) n0 hx hi hm
  obtain ⟨g2, e2, f2⟩ := sr_all (u := b) (v := v) (by rw [hN]; exact n0) hx hi hm
  have q : g1 = g := by
    rw [e] at e1
    have z := congrArg (fun s : St => gA s 0) (Option.some.inj e1)
    simp only [gA_sF] at z
    exact z.symm
  have q2 : g2 = g1 := by
    funext p
    rw [f1, f2, hA]
  rw [e2, q2, q]
theorem wa_B {u : St} {x v z : Int64} {i m k : Nat} {g : Nat → Int32} (n0 : gN u 0 = 262144) (hx : x - 2147483648 = lN i) (hi : i + m ≤ 262144) (hm : m ≤ 8) (h2 : f_X12_isRam x (nI m) u = 1) (e : f_X12_setRam x (nI m) v u = some (sF u 0 g)) {U : St} (hU : f_X12_writeAt x (nI m) v u = some U) : f_X12_writeAt x (nI m) v (sB u 0 k z) = some (sB U 0 k z) := by
  have e2 := sr_same (b := sB u 0 k z) n0 hx hi hm e rfl rfl
  unfold f_X12_writeAt at hU ⊢
  rw [show f_X12_isRam x (nI m) (sB u 0 k z) = 1 from h2, if_neg n10, e2, Option.bind_some]
  rw [h2, if_neg n10, e, Option.bind_some] at hU
  show (if gI (sF u 0 g) 3 ≤ 0 then some (sB (sF u 0 g) 0 k z) else (if (gL (sF u 0 g) 1 + (gI (sF u 0 g) 3).toInt64) ≤ x then some (sB (sF u 0 g) 0 k z) else (if (x + (nI m).toInt64) ≤ gL (sF u 0 g) 1 then some (sB (sF u 0 g) 0 k z) else some (sB (sI (sF u 0 g) 3 0) 0 k z)))) = _
  by_cases c1 : gI (sF u 0 g) 3 ≤ 0
  · rw [if_pos c1] at hU ⊢
    rw [← Option.some.inj hU]
  · rw [if_neg c1] at hU ⊢
    by_cases c2 : (gL (sF u 0 g) 1 + (gI (sF u 0 g) 3).toInt64) ≤ x
    · rw [if_pos c2] at hU ⊢
      rw [← Option.some.inj hU]
    · rw [if_neg c2] at hU ⊢
      by_cases c3 : (x + (nI m).toInt64) ≤ gL (sF u 0 g) 1
      · rw [if_pos c3] at hU ⊢
        rw [← Option.some.inj hU]
      · rw [if_neg c3] at hU ⊢
        rw [← Option.some.inj hU]
theorem wa_3 {u : St} {x v : Int64} {i m : Nat} {g : Nat → Int32} (n0 : gN u 0 = 262144) (hx : x - 2147483648 = lN i) (hi : i + m ≤ 262144) (hm : m ≤ 8) (h2 : f_X12_isRam x (nI m) u = 1) (e : f_X12_setRam x (nI m) v u = some (sF u 0 g)) : f_X12_writeAt x (nI m) v (sI u 3 0) = some (sI (sF u 0 g) 3 0) := by
  have e2 := sr_same (b := sI u 3 0) n0 hx hi hm e rfl rfl
  unfold f_X12_writeAt
  rw [show f_X12_isRam x (nI m) (sI u 3 0) = 1 from h2, if_neg n10, e2, Option.bind_some, if_pos (show gI (sF (sI u 3 0) 0 g) 3 ≤ 0 from (by decide : (0 : Int32) ≤ 0))]
  rfl
theorem Rel.resv {a u : St} (h : Rel a u) (x : Int64) {m : Nat} (hm : m = 4 ∨ m = 8) : Rel (sI (sL a 3 x) 4 (nI m)) (sI (sL u 1 x) 3 (nI m)) := by
  obtain ⟨P, hI, hL, ⟨s1, s2, s3, s4, s5⟩, hA, hN, hM, hT, hG, hO, hV, hW⟩ := h
  refine ⟨P, ?_, hL, ⟨s1, s2, ?_, ?_, fun _ => rfl⟩, hA, hN, hM, hT, hG, hO, hV, hW⟩
  · simp only [RelI, gI_sI, gI_sL, gI_sA, gI_sB, gI_sR, gL_sI, gL_sL, gL_sA, gL_sB, gL_sR, gA_sI, gA_sL, gA_sA, gA_sB, gA_sR, gB_sI, gB_sL, gB_sA, gB_sB, gB_sR, gN_sI, gN_sL, gN_sA, gN_sB, gN_sR] at hI ⊢
    simp [hI]
  · show nI m = 0 ∨ nI m = 4 ∨ nI m = 8
    rcases hm with rfl | rfl
    · exact Or.inr (Or.inl rfl)
    · exact Or.inr (Or.inr rfl)
  · intro q
    exfalso
    have q2 : nI m = 0 := q
    rcases hm with rfl | rfl
    · exact absurd q2 (by decide)
    · exact absurd q2 (by decide)
theorem at_eq (op : Int32) (x y : Int64) : f_X0_atomic op x y = f_X12_joined op x y := rfl
theorem sg_eq (x : Int64) (n : Int32) : f_X0_signed x n = f_X12_signed x (8 * n) := rfl
theorem acf {K : Int32} (hK : K = 1 ∨ K = 2) : ∃ c, c < 64 ∧ f_X9_accessFault K = nI c ∧ f_X12_accessFault K = nI c := by
  rcases hK with rfl | rfl
  · exact ⟨5, by omega, rfl, rfl⟩
  · exact ⟨7, by omega, rfl, rfl⟩
theorem at_core {a u : St} (h : Mid a u) (w : Int32) {m : Nat} (hm : m = 4 ∨ m = 8) (A B : Int64) (hA : f_X6_a w a = some A) (hB : f_X6_b w a = some B) (op x4 K : Int32) (hop : (op = 2 ∧ x4 = 1 ∧ K = 1) ∨ (¬ op = 2 ∧ x4 = 0 ∧ K = 2)) : Ex (f_X6_atomic_b74 w op x4 (nI m) K a) (f_X12_atomics_b99 (w.toInt64 &&& 4294967295) B op (nI m) K (nI m) A u) a := by
  have hK : K = 1 ∨ K = 2 := by
    rcases hop with q | q
    · exact Or.inl q.2.2
    · exact Or.inr q.2.2
  have hwid : wid m := by
    rcases hm with rfl | rfl
    · exact Or.inr (Or.inr (Or.inl rfl))
    · exact Or.inr (Or.inr (Or.inr rfl))
  have hm8 : 1 ≤ m ∧ m ≤ 8 := by omega
  obtain ⟨P, hN, hM⟩ := h.1.lens
  have hP := hN.2.1
  have n7 : gN a 7 = 32 := hN.2.2.2.2.2.2.2.2.1
  have m0 : gN u 0 = 262144 := hN.2.2.2.2.2.2.2.2.2.1
  have m1 : gN u 1 = 32 := hN.2.2.2.2.2.2.2.2.2.2.1
  unfold f_X6_atomic_b74 f_X12_atomics_b99
  rw [hA, Option.bind_some]
  rcases rel_reached h.1 K hK hwid A 1 with ⟨c, hc, y, e1, e2⟩ | ⟨x, hx, e1, e2⟩
  · rw [e1, e2, Option.bind_some, Option.bind_some, if_neg (show ¬ gI (f_X6_fail (nI c) A a) 18 = -1 from nI_m1 (by omega)), if_neg (show ¬ gI (f_X12_fail (nI c) A u) 16 < 0 from nlt0 hc)]
    exact ⟨_, 0, _, rfl, rfl, Out.fail h.1 h.z hc A, bud_le rfl⟩
  · rw [e1, e2, Option.bind_some]
    rw [if_pos (show gI (x, a).2 18 = -1 from h.2.1)]
    unfold f_X12_reach_b67 f_X12_reach_b95 f_X12_reach_b105
    rw [if_neg n10]
    show Ex (if f_X10_place x (nI m) a = -1 then some (f_X6_fail (f_X9_accessFault K) A a, 0) else _) _ a
    rcases ram_cases hN hm8.1 hm8.2 x with ⟨h1, h2⟩ | ⟨i, hi, ex, hx2, h1, h2⟩
    · obtain ⟨c, hc, q1, q2⟩ := acf hK
      rw [h1, if_pos rfl, h2, if_pos rfl, Option.bind_some, q1, q2, if_neg (show ¬ gI (f_X12_fail (nI c) A u) 16 < 0 from nlt0 hc)]
      exact ⟨_, 0, _, rfl, rfl, Out.fail h.1 h.z hc A, bud_le rfl⟩
    · have hal : i % m = 0 := by
        rw [ex, un_lN] at hx
        rcases hm with rfl | rfl <;> omega
      have hi2 : i + m ≤ 262144 := by omega
      rw [h1, if_neg (nI_m1 (by omega)), h2, if_neg n10, Option.bind_some, if_pos (show gI (x, u).2 16 < 0 by rw [show gI (x, u).2 16 = gI u 16 from rfl, h.2.2.1]; decide)]
      by_cases o3 : op = 3
      · rw [if_pos o3, if_pos o3]
        show Ex ((f_X6_storeReserved w x (nI m) a).bind (fun y24 => ak0 y24.2 (some (y24.1, 0)))) (if gI u 3 = nI m then (if gL u 1 = x then f_X12_atomics_b143 (w.toInt64 &&& 4294967295) B (nI m) x 1 u else f_X12_atomics_b142 (w.toInt64 &&& 4294967295) B (nI m) x u) else f_X12_atomics_b142 (w.toInt64 &&& 4294967295) B (nI m) x u) a
        have i3 : gI u 3 = gI a 4 := h.1.ints.2.1
        obtain ⟨-, -, -, -, s5⟩ := h.1.res
        have mz : ¬ nI m = 0 := by rcases hm with rfl | rfl <;> decide
        have no : Ex ((f_X6_storeReserved_b32 w 0 a).bind (fun y24 => ak0 y24.2 (some (y24.1, 0)))) (f_X12_atomics_b142 (w.toInt64 &&& 4294967295) B (nI m) x u) a := by
          unfold f_X6_storeReserved_b32 f_X6_storeReserved_b44 f_X12_atomics_b142 f_X12_atomics_b143 f_X12_atomics_b165 f_X12_atomics_b177
          rw [if_pos rfl, if_pos rfl, if_pos rfl, bs]
          rcases rd_case w with ⟨q1, q2⟩ | ⟨n, q1, q2⟩
          · rw [q1, q2]
            exact ⟨_, 0, _, rfl, rfl, ⟨h.1.endRes, Or.inl ⟨h.2.1, h.2.2.1, h.2.2.2.1, h.2.2.2.2.1⟩, h.z⟩, bud_le rfl⟩
          · rw [q1 _ _ n7, q2 _ _ (show gN (sI u 3 0) 1 = 32 from m1)]
            exact ⟨_, 0, _, rfl, rfl, ⟨(h.1.B1 n 1).endRes, Or.inl ⟨h.2.1, h.2.2.1, h.2.2.2.1, h.2.2.2.2.1⟩, h.z⟩, bud_le rfl⟩
        unfold f_X6_storeReserved f_X1_reserves f_X1_reserves_b21
        rw [i3]
        by_cases r1 : gI a 4 = nI m
        · have sz : gL u 1 = gL a 3 := s5 (by rw [r1]; exact mz)
          rw [if_pos r1, if_pos r1, sz]
          by_cases r2 : gL a 3 = x
          · rw [if_pos r2, if_pos r2, if_neg n10, hB, Option.bind_some]
            obtain ⟨S, g, U, w1, w2, w3, w4, w5, w6, w7, w8, w9⟩ := wr_ram h.1 hN hwid hi hal ex hx2 h1 h2 B
            have w10 := wa_3 m0 hx2 hi2 hm8.2 h2 w2
            have w11 : sI U 3 0 = sI (sF u 0 g) 3 0 := by
              rcases w4 with q | q
              · rw [q]
              · rw [q, sI_sI]
            have wz : gI U 0 = 0 := by
              rcases w4 with q | q <;> (rw [q]; exact h.z)
            have w16 : gI U 16 = -1 := by
              rcases w4 with q | q <;> (rw [q]; exact h.2.2.1)
            have w25 : gL U 25 = gL S 25 := by
              rw [w8.2.2.2.2.1]
              rcases w4 with q | q <;> (rw [q]; exact h.2.2.2.1)
            have uN : gN U 1 = 32 := by
              rcases w4 with q | q <;> (rw [q]; exact m1)
            rw [w1, Option.bind_some]
            unfold f_X6_storeReserved_b32 f_X6_storeReserved_b44 f_X12_atomics_b143 f_X12_atomics_b165 f_X12_atomics_b177
            rw [if_neg n10, if_neg n10, w10, Option.bind_some, if_neg n10, bs, ← w11]
            rcases rd_case w with ⟨q1, q2⟩ | ⟨n, q1, q2⟩
            · rw [q1, q2]
              exact ⟨_, 0, _, rfl, rfl, ⟨w5.endRes, Or.inl ⟨by rw [show gI (f_X1_endReservation S) 18 = gI S 18 from rfl, w8.2.2.1]; exact h.2.1, w16, w25, by rw [show gL (f_X1_endReservation S) 25 = gL S 25 from rfl, w8.2.2.2.2.1]; exact h.2.2.2.2.1⟩, wz⟩, bud_le w7⟩
            · rw [q1 _ _ (show gN S 7 = 32 by rw [w7]; exact n7), q2 _ _ (show gN (sI U 3 0) 1 = 32 from uN)]
              exact ⟨_, 0, _, rfl, rfl, ⟨(w5.B1 n 0).endRes, Or.inl ⟨by rw [show gI (f_X1_endReservation (sB S 1 n 0)) 18 = gI S 18 from rfl, w8.2.2.1]; exact h.2.1, w16, w25, by rw [show gL (f_X1_endReservation (sB S 1 n 0)) 25 = gL S 25 from rfl, w8.2.2.2.2.1]; exact h.2.2.2.2.1⟩, wz⟩, bud_le w7⟩
          · rw [if_neg r2, if_neg r2, if_pos rfl]
            exact no
        · rw [if_neg r1, if_neg r1, if_pos rfl]
          exact no
      · rw [if_neg o3, if_neg o3]
        show Ex ((f_X6_b w a).bind _) ((f_X12_ramAt x (nI m) u).bind _) a
        obtain ⟨e, r1, r2, -⟩ := rel_ramAt hN hM hwid hi hal hx2
        have rd : f_X1_read x (nI m) a = some (e, sI a 3 0) := by
          unfold f_X1_read
          rw [show f_X10_place x (nI m) (sI a 3 0) = nI i from h1, if_neg (nI_m1 (by omega)), show f_X10_read (nI i) (nI m) (sI a 3 0) = some e from r1]
          rfl
        rw [hB, Option.bind_some, r2, Option.bind_some]
        show Ex ((f_X1_read x (nI m) a).bind _) _ a
        rw [rd, Option.bind_some]
        show Ex ((f_X6_putRd w (f_X0_signed e (nI m)) (sI a 3 0)).bind _) _ a
        rw [sg_eq, sg_eq]
        generalize f_X12_signed e (8 * nI m) = old
        generalize f_X12_signed B (8 * nI m) = b
        rcases hop with ⟨o2, ox, -⟩ | ⟨o2, ox, -⟩
        · rw [if_pos o2]
          unfold f_X12_atomics_b245
          rw [bs]
          rcases rd_case w with ⟨q1, q2⟩ | ⟨n, q1, q2⟩
          · rw [q1, q2, Option.bind_some, if_neg (by rw [ox]; exact n10)]
            exact ⟨_, 0, _, rfl, rfl, ⟨(h.1.s3 0).resv x hm, Or.inl ⟨h.2.1, h.2.2.1, h.2.2.2.1, h.2.2.2.2.1⟩, h.z⟩, bud_le rfl⟩
          · rw [q1 _ _ (show gN (sI a 3 0) 7 = 32 from n7), q2 _ _ (show gN (sI (sL u 1 x) 3 (nI m)) 1 = 32 from m1), Option.bind_some, if_neg (by rw [ox]; exact n10)]
            exact ⟨_, 0, _, rfl, rfl, ⟨((h.1.s3 0).resv x hm).B1 n old, Or.inl ⟨h.2.1, h.2.2.1, h.2.2.2.1, h.2.2.2.2.1⟩, h.z⟩, bud_le rfl⟩
        · rw [if_neg o2, at_eq]
          generalize f_X12_joined op old b = val
          show Ex _ ((f_X12_writeAt x (nI m) val u).bind (fun y14 => f_X12_atomics_b245 (w.toInt64 &&& 4294967295) old y14)) a
          unfold f_X12_atomics_b245
          simp only [bs]
          have key : ∀ a1 u1 : St, Rel a1 u1 → RelN a1 u1 P → f_X10_place x (nI m) a1 = nI i → f_X12_isRam x (nI m) u1 = 1 → gI a1 18 = -1 → gI u1 16 = -1 → gL u1 25 = gL a1 25 → gL a1 25 &&& 1 = 0 → gI u1 0 = 0 → gN a1 = gN a → ∀ R, f_X12_writeAt x (nI m) val u1 = R → Ex ((f_X1_write x (nI m) val a1).bind (fun y20 => ak0 y20.2 (some (y20.1, 0)))) R a := by
            intro a1 u1 k0 k1 k2 k3 k4 k5 k6 k7 k8 k9 R hR
            obtain ⟨S, g, U, w1, w2, w3, w4, w5, w6, w7, w8, w9⟩ := wr_ram k0 k1 hwid hi hal ex hx2 k2 k3 val
            rw [w1, ← hR, w3, Option.bind_some]
            refine ⟨S, 0, U, rfl, rfl, ⟨w5, Or.inl ⟨?_, ?_, ?_, ?_⟩, ?_⟩, bud_le (by rw [w7]; exact k9)⟩
            · rw [w8.2.2.1]; exact k4
            · rcases w4 with q | q <;> (rw [q]; exact k5)
            · rw [w8.2.2.2.2.1]
              rcases w4 with q | q <;> (rw [q]; exact k6)
            · rw [w8.2.2.2.2.1]; exact k7
            · rcases w4 with q | q <;> (rw [q]; exact k8)
          obtain ⟨S, g, U, w1, w2, w3, w4, -⟩ := wr_ram h.1 hN hwid hi hal ex hx2 h1 h2 val
          have uN : gN U 1 = 32 := by
            rcases w4 with q | q <;> (rw [q]; exact m1)
          rw [w3, Option.bind_some]
          rcases rd_case w with ⟨q1, q2⟩ | ⟨n, q1, q2⟩
          · rw [q1, q2, Option.bind_some, if_pos ox]
            exact key (sI a 3 0) u (h.1.s3 0) hN h1 h2 h.2.1 h.2.2.1 h.2.2.2.1 h.2.2.2.2.1 h.z rfl _ w3
          · rw [q1 _ _ (show gN (sI a 3 0) 7 = 32 from n7), q2 _ _ uN, Option.bind_some, if_pos ox]
            exact key (sB (sI a 3 0) 1 n old) (sB u 0 n old) ((h.1.s3 0).B1 n old) hN h1 h2 h.2.1 h.2.2.1 h.2.2.2.1 h.2.2.2.2.1 h.z rfl _ (wa_B m0 hx2 hi2 hm8.2 h2 w2 w3)
theorem op32 (w : Int32) : ∃ k, k < 32 ∧ j_iushr w 27 = nI k := by
  have e : j_iushr w 27 = j_iushr w 27 &&& 31 := by
    refine qt_ext (al_32 ?_)
    simp [qb_or, qb_and, qb_xor, qt_or, qt_and, qt_xor, qb_lit, qt_lit, qb_m1, qt_m1, qb_not, qt_not, qbn_2, qbn_3, qbn_4, qbn_8, qbn_6145, qbn_786723, qb_ofI, qt_ofL, sh6_lit, sh5_lit, qb_shl, qb_sshr, qb_ushr, qt_shl, qt_sshr, qt_ushr, Nat.testBit_eq_decide_div_mod_eq, qt_big, qb_big, qt_s31, qt_l31]
  rw [e]
  exact pk_andE _ 5 rfl
theorem isat : ∀ k : Fin 32, (f_X0_isAtomic (nI k.val) = 1 ∧ (nI k.val < 4 ∨ nI k.val - nI k.val / 4 * 4 = 0)) ∨ (f_X0_isAtomic (nI k.val) = 0 ∧ ¬ nI k.val < 4 ∧ ¬ nI k.val - nI k.val / 4 * 4 = 0) := by decide +kernel
theorem x_atomic {a u : St} (h : Mid a u) (w : Int32) (A B : Int64) (hA : f_X6_a w a = some A) (hB : f_X6_b w a = some B) : Ex (f_X6_atomic w a) (f_X12_atomics (w.toInt64 &&& 4294967295) (f_X6_f w) A B u) a := by
  have ill : Ex (some (f_X6_illegal a, 0)) (some (f_X12_illegal u)) a := ⟨_, 0, _, rfl, rfl, h.ill, bud_le rfl⟩
  have r20 : (f_X12_cut (w.toInt64 &&& 4294967295) 24 20 = 0) ↔ (w >>> ((20 : Int32) &&& 31)) &&& 31 = 0 := by rw [fl_r2l]; exact toL_inj _ 0
  obtain ⟨k, hk, ek⟩ := op32 w
  -- the reference, by its flag
  have ref : ∀ s, (s = 1 ∧ (nI k < 4 ∨ nI k - nI k / 4 * 4 = 0)) ∨ (s = 0 ∧ ¬ nI k < 4 ∧ ¬ nI k - nI k / 4 * 4 = 0) → f_X12_atomics (w.toInt64 &&& 4294967295) (f_X6_f w) A B u = f_X12_atomics_b29 (w.toInt64 &&& 4294967295) (f_X6_f w) A B (nI k) s u := by
    intro s hs
    unfold f_X12_atomics f_X12_atomics_b24
    rw [fl_o5, ek]
    rcases hs with ⟨rfl, q⟩ | ⟨rfl, q1, q2⟩
    · by_cases c : nI k < 4
      · rw [if_pos c]
      · rw [if_neg c, if_pos (q.resolve_left c)]
    · rw [if_neg q1, if_neg q2]
  -- the class, by its flag
  have cls : f_X6_atomic w a = f_X6_atomic_b20 w (f_X6_f w) (nI k) (if nI k = 2 then 1 else 0) a := by
    unfold f_X6_atomic
    rw [ek]
    split <;> rfl
  have main : ∀ F : Int32, ∀ m : Nat, (m = 4 ∨ m = 8) → (1 : Int32) <<< (F &&& 31) = nI m → f_X12_atomics_b70 (w.toInt64 &&& 4294967295) F A B (nI k) u = f_X12_atomics_b81 (w.toInt64 &&& 4294967295) A B (nI k) (nI m) u → ∀ s, (s = 1 ∧ f_X0_isAtomic (nI k) = 1) ∨ (s = 0 ∧ f_X0_isAtomic (nI k) = 0) → Ex (f_X6_atomic_b32 w F (nI k) (if nI k = 2 then 1 else 0) a) (f_X12_atomics_b41 (w.toInt64 &&& 4294967295) F A B (nI k) s u) a := by
    intro F m hm hF hr s hs
    unfold f_X6_atomic_b32 f_X6_atomic_b54 f_X12_atomics_b41 f_X12_atomics_b65
    have go : Ex (f_X6_atomic_b59 w F (nI k) (if nI k = 2 then 1 else 0) a) (f_X12_atomics_b70 (w.toInt64 &&& 4294967295) F A B (nI k) u) a := by
      rw [hr]
      unfold f_X6_atomic_b59 f_X12_atomics_b81
      rw [hF]
      by_cases c : nI k = 2
      · rw [if_pos c, if_neg n10, if_pos c]
        exact at_core h w hm A B hA hB (nI k) 1 1 (Or.inl ⟨c, rfl, rfl⟩)
      · rw [if_neg c, if_pos rfl, if_neg c]
        exact at_core h w hm A B hA hB (nI k) 0 2 (Or.inr ⟨c, rfl, rfl⟩)
    rcases hs with ⟨rfl, q⟩ | ⟨rfl, q⟩
    · rw [q, if_neg n10, if_neg n10]
      by_cases c : nI k = 2
      · rw [if_pos c] at go ⊢
        rw [if_neg n10, if_pos c]
        by_cases z : (w >>> ((20 : Int32) &&& 31)) &&& 31 = 0
        · rw [if_pos z, if_pos (r20.mpr z)]
          exact go
        · rw [if_neg z, if_neg (fun q => z (r20.mp q))]
          exact ill
      · rw [if_neg c] at go ⊢
        rw [if_pos rfl, if_neg c]
        exact go
    · rw [q, if_pos rfl, if_pos rfl]
      exact ill
  have fin : ∀ s, (s = 1 ∧ f_X0_isAtomic (nI k) = 1) ∨ (s = 0 ∧ f_X0_isAtomic (nI k) = 0) → Ex (f_X6_atomic_b20 w (f_X6_f w) (nI k) (if nI k = 2 then 1 else 0) a) (f_X12_atomics_b29 (w.toInt64 &&& 4294967295) (f_X6_f w) A B (nI k) s u) a := by
    intro s hs
    unfold f_X6_atomic_b20 f_X12_atomics_b29 f_X6_atomic_b54 f_X12_atomics_b65
    by_cases f2 : f_X6_f w = 2
    · rw [f2, if_pos rfl, if_pos rfl]
      exact main 2 4 (Or.inl rfl) (by decide) (by unfold f_X12_atomics_b70; rw [if_pos rfl]; rfl) s hs
    · rw [if_neg f2, if_neg f2]
      by_cases f3 : f_X6_f w = 3
      · rw [f3, if_pos rfl, if_pos rfl]
        exact main 3 8 (Or.inr rfl) (by decide) (by unfold f_X12_atomics_b70; rw [if_neg (by decide)]; rfl) s hs
      · rw [if_neg f3, if_neg f3]
        exact ill
  rw [cls]
  rcases isat ⟨k, hk⟩ with ⟨q1, q2⟩ | ⟨q1, q2, q3⟩
  · rw [ref 1 (Or.inl ⟨rfl, q2⟩)]
    exact fin 1 (Or.inl ⟨rfl, q1⟩)
  · rw [ref 0 (Or.inr ⟨rfl, q2, q3⟩)]
    exact fin 0 (Or.inr ⟨rfl, q1⟩)
theorem x_exec {a u : St} (h : Mid a u) (w : Int32) : Ex (f_X6_execute w a) (f_X12_works (w.toInt64 &&& 4294967295) u) a := by
  obtain ⟨A, ea, ia, ga⟩ := reg_a h.1 w
  obtain ⟨B, eb, ib, gb⟩ := reg_b h.1 w
  unfold f_X6_execute f_X12_works
  rw [if_pos ia, if_pos ib, ga, gb, fl_f, fl_op, fl_imm, fl_up, fl_s, fl_j]
  by_cases e3 : w &&& 127 = 3
  · rw [if_pos e3, if_pos e3]
    exact (x_load h w A ea).up
  rw [if_neg e3, if_neg e3]
  by_cases e15 : w &&& 127 = 15
  · rw [if_pos e15, if_pos e15]
    exact (x_fence h w).up2
  rw [if_neg e15, if_neg e15]
  by_cases e19 : w &&& 127 = 19
  · rw [if_pos e19, if_pos e19]
    exact ((x_imm w a u A ea).ex h).up
  rw [if_neg e19, if_neg e19]
  by_cases e23 : w &&& 127 = 23
  · rw [if_pos e23, if_pos e23]
    have h0 : gL u 0 = gL a 24 := h.1.longs.2.2.2.2.2.2.2.2.2.2.2.2.2.2.2.2.2.2.2.2.2.2
    rw [h0]
    exact (h.val w _).up
  rw [if_neg e23, if_neg e23]
  by_cases e27 : w &&& 127 = 27
  · rw [if_pos e27, if_pos e27]
    exact ((x_nimm w a u A ea).ex h).up
  rw [if_neg e27, if_neg e27]
  by_cases e35 : w &&& 127 = 35
  · rw [if_pos e35, if_pos e35]
    exact (x_store h w A B ea eb).up
  rw [if_neg e35, if_neg e35]
  by_cases e47 : w &&& 127 = 47
  · rw [if_pos e47, if_pos e47]
    exact (x_atomic h w A B ea eb).up
  rw [if_neg e47, if_neg e47]
  by_cases e51 : w &&& 127 = 51
  · rw [if_pos e51, if_pos e51]
    exact ((x_reg w a u A B ea eb).ex h).up
  rw [if_neg e51, if_neg e51]
  by_cases e55 : w &&& 127 = 55
  · rw [if_pos e55, if_pos e55]
    exact (h.val w _).up
  rw [if_neg e55, if_neg e55]
  by_cases e59 : w &&& 127 = 59
  · rw [if_pos e59, if_pos e59]
    exact ((x_nreg w a u A B ea eb).ex h).up
  rw [if_neg e59, if_neg e59]
  by_cases e99 : w &&& 127 = 99
  · rw [if_pos e99, if_pos e99]
    exact (x_branch h w A B ea eb).up2
  rw [if_neg e99, if_neg e99]
  by_cases e103 : w &&& 127 = 103
  · rw [if_pos e103, if_pos e103]
    exact (x_jalr h w A ea).up2
  rw [if_neg e103, if_neg e103]
  by_cases e111 : w &&& 127 = 111
  · rw [if_pos e111, if_pos e111]
    exact (x_jal h w).up2
  rw [if_neg e111, if_neg e111]
  by_cases e115 : w &&& 127 = 115
  · rw [if_pos e115, if_pos e115]
    by_cases f0 : f_X6_f w = 0
    · rw [if_pos f0]
      have q := (x_system h w).up
      have e : f_X12_systems (w.toInt64 &&& 4294967295) (f_X6_f w) A u = some (f_X12_calls (w.toInt64 &&& 4294967295) u) := by
        unfold f_X12_systems
        rw [if_pos f0]
      rw [e]
      exact q
    · rw [if_neg f0]
      exact (x_csr h w A ea f0).up
  rw [if_neg e115, if_neg e115]
  exact ⟨_, 0, _, rfl, rfl, h.ill, bud_le rfl⟩

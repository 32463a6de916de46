theorem hw_3 (x : Int32) : (x.toInt64 &&& 3 = 3) ↔ x &&& 3 = 3 := by
  rw [show x.toInt64 &&& 3 = (x &&& 3).toInt64 from (Int32.toInt64_and x 3).symm]
  exact toL_inj _ 3
theorem hw_w (x z : Int32) (hx : x &&& 65535 = x) (hz : z &&& 65535 = z) : (j_lshl z.toInt64 16) ||| x.toInt64 = ((z <<< ((16 : Int32) &&& 31)) ||| x).toInt64 &&& 4294967295 := by
  rw [← hx, ← hz]
  refine qb_ext (al_64 ?_)
  simp [qb_or, qb_and, qb_xor, qt_or, qt_and, qt_xor, qb_lit, qt_lit, qb_m1, qt_m1, qb_not, qt_not, qbn_2, qbn_3, qbn_4, qbn_8, qbn_6145, qbn_786723, qb_ofI, qt_ofL, sh6_lit, sh5_lit, qb_shl, qb_sshr, qb_ushr, qt_shl, qt_sshr, qt_ushr, Nat.testBit_eq_decide_div_mod_eq, qt_big, qb_big, qt_s31, qt_l31]
theorem hw_x (x : Int32) (hx : x &&& 65535 = x) : x.toInt64 = x.toInt64 &&& 4294967295 := by
  rw [← hx]
  refine qb_ext (al_64 ?_)
  simp [qb_or, qb_and, qb_xor, qt_or, qt_and, qt_xor, qb_lit, qt_lit, qb_m1, qt_m1, qb_not, qt_not, qbn_2, qbn_3, qbn_4, qbn_8, qbn_6145, qbn_786723, qb_ofI, qt_ofL, sh6_lit, sh5_lit, qb_shl, qb_sshr, qb_ushr, qt_shl, qt_sshr, qt_ushr, Nat.testBit_eq_decide_div_mod_eq, qt_big, qb_big, qt_s31, qt_l31]
/-- after an instruction: the class before pc moves, the reference after -/
def Fin (a u : St) : Prop := ((gI a 18 = -1 ∧ gI u 16 = -1 ∧ Rel (sL a 24 (gL a 25)) u) ∨ (∃ c, c < 64 ∧ gI a 18 = nI c ∧ gI u 16 = nI c ∧ gL u 24 = gL a 26 ∧ Rel a u)) ∧ gI u 0 = 0
theorem Out.fin {a u : St} (h : Out a u) : ∃ u', f_X12_goes_b126 u = some u' ∧ Fin a u' := by
  obtain ⟨r, q, z⟩ := h
  unfold f_X12_goes_b126
  rcases q with ⟨q1, q2, q3, q4⟩ | ⟨c, hc, q1, q2, q3⟩
  · refine ⟨sL u 0 (gL u 25), by rw [if_neg (by rw [q2]; decide)], Or.inl ⟨q1, q2, ?_⟩, z⟩
    rw [q3]
    exact r.L24 _ q4
  · exact ⟨_, by rw [if_pos (by rw [q2]; exact nI_pos' (by omega))], Or.inr ⟨c, hc, q1, q2, q3, r⟩, z⟩
theorem Rel.raw {a u : St} (h : Rel a u) (r t : Int32) (n v w : Int64) : Rel (sL (sI a 17 r) 25 n) (sL (sL (sI u 17 t) 26 v) 25 w) := by
  obtain ⟨P, h⟩ := h
  exact ⟨P, h⟩
theorem Rel.rawF {a u : St} (h : Rel a u) (r t : Int32) (n v : Int64) : Rel (sL (sI a 17 r) 25 n) (sL (sI u 17 t) 26 v) := by
  obtain ⟨P, h⟩ := h
  exact ⟨P, h⟩
theorem Rel.told {a u : St} (h : Rel a u) (t : Int32) (v : Int64) : Rel a (sL (sI u 17 t) 26 v) := by
  obtain ⟨P, h⟩ := h
  exact ⟨P, h⟩
theorem ex_0 (a : St) : f_X6_execute 0 a = some (f_X6_illegal a, 0) := by
  unfold f_X6_execute
  rw [show (0 : Int32) &&& 127 = 0 by decide, if_neg (by decide), if_neg (by decide), if_neg (by decide), if_neg (by decide), if_neg (by decide), if_neg (by decide), if_neg (by decide), if_neg (by decide), if_neg (by decide), if_neg (by decide), if_neg (by decide), if_neg (by decide), if_neg (by decide), if_neg (by decide)]
theorem x_goes {a u : St} (h : Rel a u) (c0 : gI a 18 = -1) (c1 : gI u 16 = -1) (z : gI u 0 = 0) : ∃ w a2 a' k u', f_X6_fetched a = some (w, a2) ∧ ((gI a2 18 = -1 ∧ f_X6_execute w a2 = some (a', k)) ∨ (¬ gI a2 18 = -1 ∧ a' = a2 ∧ k = 0)) ∧ f_X12_goes u = some u' ∧ Fin a' u' ∧ k + Bud a ≤ Bud a' := by
  have h0 : gL u 0 = gL a 24 := h.longs.2.2.2.2.2.2.2.2.2.2.2.2.2.2.2.2.2.2.2.2.2.2
  have v0 := h.inv.1.1
  have e2 : gL a 24 + 2 &&& 1 = 0 := ev_add v0 (by decide)
  have e4 : gL a 24 + 4 &&& 1 = 0 := ev_add v0 (by decide)
  unfold f_X6_fetched f_X12_goes
  rw [h0]
  rcases rel_half h c0 (gL a 24) v0 with ⟨x, hx, p1, p2⟩ | ⟨c, hc, y, y', p1, p2⟩
  · rw [p1, p2, Option.bind_some, Option.bind_some, if_pos (show gI (x, a).2 18 = -1 from c0), if_pos (show gI (x.toInt64, u).2 16 < 0 by rw [show gI (x.toInt64, u).2 16 = gI u 16 from rfl, c1]; decide)]
    show ∃ w a2 a' k u', (if x &&& 3 = 3 then _ else _) = _ ∧ _ ∧ (if x.toInt64 &&& 3 = 3 then _ else _) = _ ∧ _ ∧ _
    by_cases t : x &&& 3 = 3
    · rw [if_pos t, if_pos ((hw_3 x).mpr t)]
      show ∃ w a2 a' k u', ((f_X6_fetchedHalf (gL a 24 + 2) a).bind _) = _ ∧ _ ∧ ((f_X12_half (gL u 0 + 2) (sL (sI u 17 2) 26 x.toInt64)).bind _) = _ ∧ _ ∧ _
      rw [h0]
      rcases rel_half (h.told 2 x.toInt64) c0 (gL a 24 + 2) e2 with ⟨y, hy, r1, r2⟩ | ⟨c, hc, y, y', r1, r2⟩
      · rw [r1, r2, Option.bind_some, Option.bind_some, if_pos (show gI (sL (sI u 17 2) 26 x.toInt64) 16 < 0 by rw [show gI (sL (sI u 17 2) 26 x.toInt64) 16 = gI u 16 from rfl, c1]; decide)]
        show ∃ w a2 a' k u', some (((y <<< ((16 : Int32) &&& 31)) ||| x), sL (sI a 17 ((y <<< ((16 : Int32) &&& 31)) ||| x)) 25 (gL a 24 + 4)) = some (w, a2) ∧ _ ∧ (f_X12_goes_b89 ((j_lshl y.toInt64 16) ||| x.toInt64) (sL (sI (sL (sI u 17 2) 26 x.toInt64) 17 4) 26 ((j_lshl y.toInt64 16) ||| x.toInt64))) = _ ∧ _ ∧ _
        rw [hw_w x y hx hy]
        have lo : ((y <<< ((16 : Int32) &&& 31)) ||| x) &&& 3 = 3 := by
          have q : ((y <<< ((16 : Int32) &&& 31)) ||| x) &&& 3 = x &&& 3 := by
            refine qt_ext (al_32 ?_)
            simp [qb_or, qb_and, qb_xor, qt_or, qt_and, qt_xor, qb_lit, qt_lit, qb_m1, qt_m1, qb_not, qt_not, qbn_2, qbn_3, qbn_4, qbn_8, qbn_6145, qbn_786723, qb_ofI, qt_ofL, sh6_lit, sh5_lit, qb_shl, qb_sshr, qb_ushr, qt_shl, qt_sshr, qt_ushr, Nat.testBit_eq_decide_div_mod_eq, qt_big, qb_big, qt_s31, qt_l31]
          rw [q, t]
        generalize (y <<< ((16 : Int32) &&& 31)) ||| x = w at lo ⊢
        have w0 : ¬ (w.toInt64 &&& 4294967295) = 0 := by
          intro q
          have q2 := (W_eq w 0).mp q
          rw [q2] at lo
          exact absurd lo (by decide)
        have M : Mid (sL (sI a 17 w) 25 (gL a 24 + 4)) (sL (sL (sI (sL (sI u 17 2) 26 x.toInt64) 17 4) 26 (w.toInt64 &&& 4294967295)) 25 (gL u 0 + (4 : Int32).toInt64)) := by
          refine ⟨(h.told 2 x.toInt64).raw w 4 _ _ _, c0, c1, ?_, e4, rfl, ?_, z⟩
          · show gL u 0 + 4 = gL a 24 + 4
            rw [h0]
          · show gL u 0 + 4 = gL a 24 + 4
            rw [h0]
        obtain ⟨a', k, u1, q1, q2, q3, q4⟩ := x_exec M w
        obtain ⟨u', f1, f2⟩ := q3.fin
        refine ⟨w, _, a', k, u', rfl, Or.inl ⟨c0, q1⟩, ?_, f2, q4⟩
        unfold f_X12_goes_b89
        rw [if_neg w0]
        show (f_X12_works (w.toInt64 &&& 4294967295) (sL (sL (sI (sL (sI u 17 2) 26 x.toInt64) 17 4) 26 (w.toInt64 &&& 4294967295)) 25 (gL u 0 + (4 : Int32).toInt64))).bind _ = _
        rw [q2, Option.bind_some]
        exact f1
      · rw [r1, r2, Option.bind_some, Option.bind_some, if_neg (show ¬ gI (f_X12_fail (nI c) (gL a 24 + 2) (sL (sI u 17 2) 26 x.toInt64)) 16 < 0 from nlt0 hc)]
        refine ⟨_, _, _, 0, _, rfl, Or.inr ⟨show ¬ nI c = -1 from nI_m1 (by omega), rfl, rfl⟩, rfl, ⟨Or.inr ⟨c, hc, rfl, rfl, rfl, ?_⟩, z⟩, bud_le rfl⟩
        obtain ⟨P, hh⟩ := h
        exact ⟨P, hh⟩
    · rw [if_neg t, if_neg (fun q => t ((hw_3 x).mp q))]
      show ∃ w a2 a' k u', some (f_X5_widened x, sL (sI a 17 x) 25 (gL a 24 + 2)) = some (w, a2) ∧ _ ∧ ((f_X12_wide x.toInt64).bind (fun y5 => f_X12_goes_b89 y5 (sL (sI u 17 2) 26 x.toInt64))) = _ ∧ _ ∧ _
      rw [wd_all x hx t, Option.bind_some]
      generalize f_X5_widened x = w
      have M : Mid (sL (sI a 17 x) 25 (gL a 24 + 2)) (sL (sL (sI u 17 2) 26 x.toInt64) 25 (gL u 0 + (2 : Int32).toInt64)) := by
        refine ⟨h.raw x 2 _ _ _, c0, c1, ?_, e2, hw_x x hx, ?_, z⟩
        · show gL u 0 + 2 = gL a 24 + 2
          rw [h0]
        · show gL u 0 + 2 = gL a 24 + 2
          rw [h0]
      unfold f_X12_goes_b89
      by_cases w0 : w = 0
      · subst w0
        obtain ⟨u', f1, f2⟩ := M.ill.fin
        refine ⟨0, _, f_X6_illegal (sL (sI a 17 x) 25 (gL a 24 + 2)), 0, u', rfl, Or.inl ⟨c0, ex_0 _⟩, ?_, f2, bud_le rfl⟩
        rw [if_pos (by decide)]
        exact f1
      · have w1 : ¬ (w.toInt64 &&& 4294967295) = 0 := fun q => w0 ((W_eq w 0).mp q)
        obtain ⟨a', k, u1, q1, q2, q3, q4⟩ := x_exec M w
        obtain ⟨u', f1, f2⟩ := q3.fin
        refine ⟨w, _, a', k, u', rfl, Or.inl ⟨c0, q1⟩, ?_, f2, q4⟩
        rw [if_neg w1]
        show (f_X12_works (w.toInt64 &&& 4294967295) (sL (sL (sI u 17 2) 26 x.toInt64) 25 (gL u 0 + (2 : Int32).toInt64))).bind _ = _
        rw [q2, Option.bind_some]
        exact f1
  · rw [p1, p2, Option.bind_some, Option.bind_some, if_neg (show ¬ gI (f_X6_fail (nI c) (gL a 24) a) 18 = -1 from nI_m1 (by omega)), if_neg (show ¬ gI (f_X12_fail (nI c) (gL a 24) u) 16 < 0 from nlt0 hc)]
    exact ⟨_, _, _, 0, _, rfl, Or.inr ⟨show ¬ nI c = -1 from nI_m1 (by omega), rfl, rfl⟩, rfl, ⟨Or.inr ⟨c, hc, rfl, rfl, rfl, h.scr _ _ _ _⟩, z⟩, bud_le rfl⟩
theorem sL_comm (u : St) {j k : Nat} (h : j ≠ k) (x y : Int64) : sL (sL u j x) k y = sL (sL u k y) j x := by
  have e : (sL (sL u j x) k y).2.1 = (sL (sL u k y) j x).2.1 := by
    funext q
    show (if q = k then y else (if q = j then x else _)) = (if q = j then x else (if q = k then y else _))
    by_cases c1 : q = k
    · rw [if_pos c1, if_neg (by omega), if_pos c1]
    · rw [if_neg c1]
      by_cases c2 : q = j
      · rw [if_pos c2, if_pos c2]
      · rw [if_neg c2, if_neg c2, if_neg c1]
  exact Prod.ext rfl (Prod.ext e rfl)
theorem sL_id (u : St) (j : Nat) : sL u j (gL u j) = u := by
  have e : (sL u j (gL u j)).2.1 = u.2.1 := by
    funext q
    show (if q = j then gL u j else gL u q) = gL u q
    split
    · rename_i c
      rw [c]
    · rfl
  exact Prod.ext rfl (Prod.ext e rfl)
theorem settle_18 (a : St) : gI (f_X1_settle a) 18 = gI a 18 := by
  unfold f_X1_settle f_X3_settle f_X3_settle_b22
  split <;> rfl
theorem Rel.s18 {a u : St} (h : Rel a u) (c d : Int32) : Rel (sI a 18 c) (sI u 16 d) := by
  obtain ⟨P, h⟩ := h
  exact ⟨P, h⟩
theorem Rel.c18 {a u : St} (h : Rel a u) (c : Int32) : Rel (sI a 18 c) u := by
  obtain ⟨P, h⟩ := h
  exact ⟨P, h⟩
theorem trap_0 (x1 x2 : Int32) (x3 : Int64) (hx : x1 = 0 ∨ x1 = 1) (u : St) : gI (f_X12_trap x1 x2 x3 u) 0 = gI u 0 := by
  have b48 : ∀ v : St, gI (f_X12_trap_b48 x1 x2 x3 v) 0 = gI v 0 := by
    intro v
    have b80 : ∀ s c, gI (f_X12_trap_b80 x1 x2 x3 s c v) 0 = gI v 0 := by
      intro s c
      by_cases p : (3 : Int32) ≤ gI v 2
      · unfold f_X12_trap_b80
        rw [if_pos p, trM_eq _ _ hx]
        rfl
      · by_cases d : (j_lshr s x2) &&& 1 = 1
        · rw [trS_eq _ _ hx _ _ _ (Int32.not_le.mp p) _ d]
          rfl
        · unfold f_X12_trap_b80
          rw [if_neg p, if_neg d, trM_eq _ _ hx]
          rfl
    unfold f_X12_trap_b48 f_X12_trap_b63
    split
    · exact b80 _ _
    · exact b80 _ _
  unfold f_X12_trap f_X12_trap_b18
  rcases hx with rfl | rfl
  · rw [if_pos rfl, if_pos rfl, b48]
    rfl
  · rw [if_neg n10, if_neg n10, b48]
    rfl
/-- the end of a step: the clocks, and what the controller gathers -/
theorem x_end {a u : St} (h : Rel a u) : Rel (f_X1_settle (sL (sL a 10 ((gL a 10) + (1 : Int64))) 2 ((gL (sL a 10 ((gL a 10) + (1 : Int64))) 2) + (1 : Int64)))) (f_X12_gather (sL (sL u 15 ((gL u 15) + (1 : Int64))) 3 ((gL (sL u 15 ((gL u 15) + (1 : Int64))) 3) + (1 : Int64)))) := by
  have h15 : gL u 15 = gL a 10 := h.longs.2.2.2.2.2.2.2.2.1
  have h3 : gL u 3 = gL a 2 := h.longs.2.1
  rw [show gL (sL a 10 ((gL a 10) + (1 : Int64))) 2 = gL a 2 from rfl, show gL (sL u 15 ((gL u 15) + (1 : Int64))) 3 = gL u 3 from rfl, h15, h3]
  exact ((h.L10 _).L2 _).settle
theorem x_adv {a u : St} (h : Rel a u) (z : gI u 0 = 0) : ∃ r a' k u', f_X6_advance a = some (r, a', k) ∧ f_X12_steps u = some (r, u') ∧ (r = 0 ∨ r = 1) ∧ Rel a' u' ∧ k + Bud a ≤ Bud a' ∧ gI u' 0 = 0 := by
  obtain ⟨d, d1, d2, d3⟩ := rel_due (h.c18 (-1))
  unfold f_X6_advance f_X12_steps
  rw [d1, d2, Option.bind_some, Option.bind_some]
  rcases d3 with d3 | ⟨c, hc, d3⟩
  · rw [d3, if_pos rfl, if_pos (by decide)]
    have H : Rel (sI a 18 (-1)) (sI u 16 (-1)) := h.s18 _ _
    obtain ⟨w, a2, a', k, u', p1, p2, p3, ⟨p4, pz⟩, p5⟩ := x_goes H rfl rfl z
    rw [p1, p3, Option.bind_some, Option.bind_some]
    have p5' : k + Bud a ≤ Bud a' := p5
    -- what the class does after the instruction
    have cl : (if (gI (w, a2).2 18) = (-1 : Int32) then ((f_X6_execute (w, a2).1 (w, a2).2).bind (fun y10 => ak1 y10.2 (f_X6_advance_b61 (-1) y10.1))) else (f_X6_advance_b61 (-1) (w, a2).2)) = ak1 k (f_X6_advance_b61 (-1) a') := by
      rcases p2 with ⟨q1, q2⟩ | ⟨q1, q2, q3⟩
      · rw [if_pos q1]
        show (f_X6_execute w a2).bind _ = _
        rw [q2]
        rfl
      · rw [if_neg q1, q2, q3]
        show f_X6_advance_b61 (-1) a2 = _
        unfold ak1
        cases f_X6_advance_b61 (-1) a2 with
        | none => rfl
        | some q => simp
    rw [cl]
    rcases p4 with ⟨q1, q2, q3⟩ | ⟨c, hc, q1, q2, q3, q4⟩
    · rw [if_neg (by rw [q2]; decide)]
      unfold f_X6_advance_b61 f_X6_advance_b124
      rw [if_pos q1, if_pos rfl]
      rw [if_pos (by rw [settle_18]; exact q1)]
      have R : Rel (sL (sL a' 24 (gL a' 25)) 11 ((gL (sL a' 24 (gL a' 25)) 11) + 1)) (sL u' 16 ((gL u' 16) + 1)) := by
        have h16 : gL u' 16 = gL (sL a' 24 (gL a' 25)) 11 := q3.longs.2.2.2.2.2.2.2.2.2.1
        rw [h16]
        exact q3.L11 _
      have E := x_end R
      refine ⟨1, _, k, _, rfl, ?_, Or.inr rfl, E, ?_, ?_⟩
      · unfold f_X12_steps_b42 f_X12_steps_b60 f_X12_steps_b94
        rw [if_neg n10, if_neg n10, if_pos (by decide)]
        have e : sL (sL (sL u' 15 (gL u' 15 + 1)) 3 (gL (sL u' 15 (gL u' 15 + 1)) 3 + 1)) 16 (gL (sL (sL u' 15 (gL u' 15 + 1)) 3 (gL (sL u' 15 (gL u' 15 + 1)) 3 + 1)) 16 + 1) = sL (sL (sL u' 16 (gL u' 16 + 1)) 15 (gL (sL u' 16 (gL u' 16 + 1)) 15 + 1)) 3 (gL (sL (sL u' 16 (gL u' 16 + 1)) 15 (gL (sL u' 16 (gL u' 16 + 1)) 15 + 1)) 3 + 1) := by
          show sL (sL (sL u' 15 (gL u' 15 + 1)) 3 (gL u' 3 + 1)) 16 (gL u' 16 + 1) = sL (sL (sL u' 16 (gL u' 16 + 1)) 15 (gL u' 15 + 1)) 3 (gL u' 3 + 1)
          rw [sL_comm u' (show 16 ≠ 15 by decide), sL_comm _ (show 16 ≠ 3 by decide)]
        rw [e]
      · unfold Bud
        rw [settle_N]
        exact p5'
      · rw [gather_0]
        exact pz
    · rw [if_pos (by rw [q2]; exact nI_pos' (by omega))]
      have T := rel_trapE q4 (nI c) (gL a' 26)
      have n18 := (enter_N (nI c) 0 (Or.inl rfl) (gL a' 26) (sI (sI a' 19 (gI a' 19 + 1)) 21 (nI c)) q4.inv.1.2.2.2.2.2.2.2)
      unfold f_X6_advance_b61
      rw [if_neg (by rw [q1]; exact nI_m1 (by omega))]
      have ec : f_X6_enter (gI (sI (sI a' 19 ((gI a' 19) + (1 : Int32))) 21 (gI (sI a' 19 ((gI a' 19) + (1 : Int32))) 18)) 18) (0 : Int32) (gL (sI (sI a' 19 ((gI a' 19) + (1 : Int32))) 21 (gI (sI a' 19 ((gI a' 19) + (1 : Int32))) 18)) 26) (sI (sI a' 19 ((gI a' 19) + (1 : Int32))) 21 (gI (sI a' 19 ((gI a' 19) + (1 : Int32))) 18)) = f_X6_enter (nI c) 0 (gL a' 26) (sI (sI a' 19 (gI a' 19 + 1)) 21 (nI c)) := by
        show f_X6_enter (gI a' 18) 0 (gL a' 26) (sI (sI a' 19 ((gI a' 19) + (1 : Int32))) 21 (gI a' 18)) = _
        rw [q1]
      rw [ec]
      generalize f_X6_enter (nI c) 0 (gL a' 26) (sI (sI a' 19 (gI a' 19 + 1)) 21 (nI c)) = G at T n18
      have g18 : gI G 18 = nI c := by
        rw [n18.2]
        exact q1
      unfold f_X6_advance_b124 f_X6_advance_b174
      rw [if_pos rfl, if_neg (by rw [settle_18]; show ¬ gI G 18 = -1; rw [g18]; exact nI_m1 (by omega))]
      have E := x_end T
      refine ⟨0, _, k, _, rfl, ?_, Or.inl rfl, E, ?_, ?_⟩
      · unfold f_X12_steps_b42 f_X12_steps_b60 f_X12_steps_b94
        rw [if_pos rfl, if_pos rfl, if_pos (by decide), q2, q3, Int64.add_zero, sL_id]
      · unfold Bud
        rw [settle_N]
        show k + 3 * (gN a 0 + gN a 5 + gN a 6) ≤ 3 * (gN G 0 + gN G 5 + gN G 6)
        rw [n18.1]
        exact p5'
      · rw [gather_0]
        show gI (f_X12_trap 0 (nI c) (gL a' 26) u') 0 = 0
        rw [trap_0 _ _ _ (Or.inl rfl)]
        exact pz
  · rw [d3, if_neg (nI_m1 (by omega)), if_neg (nlt0 hc)]
    have T := rel_trapI (h.c18 (-1)) (nI c)
    have n18 := (enter_N (nI c) 1 (Or.inr rfl) 0 (sI (sI (sI a 18 (-1)) 20 (gI a 20 + 1)) 21 (64 + nI c)) h.inv.1.2.2.2.2.2.2.2)
    show ∃ r a' k u', f_X6_advance_b124 (nI c) (f_X6_enter (nI c) 1 0 (sI (sI (sI a 18 (-1)) 20 (gI a 20 + 1)) 21 (64 + nI c))) = _ ∧ _
    have T' : Rel (f_X6_enter (nI c) 1 0 (sI (sI (sI a 18 (-1)) 20 (gI a 20 + 1)) 21 (64 + nI c))) (f_X12_trap 1 (nI c) 0 u) := T
    generalize f_X6_enter (nI c) 1 0 (sI (sI (sI a 18 (-1)) 20 (gI a 20 + 1)) 21 (64 + nI c)) = G at T' n18
    unfold f_X6_advance_b124 f_X6_advance_b174
    rw [if_neg (nI_m1 (by omega))]
    have E := x_end T'
    refine ⟨0, _, 0, _, rfl, ?_, Or.inl rfl, E, ?_, ?_⟩
    · unfold f_X12_steps_b60 f_X12_steps_b94
      rw [if_pos rfl, if_pos (by decide), Int64.add_zero, sL_id]
    · unfold Bud
      rw [settle_N]
      show 0 + 3 * (gN a 0 + gN a 5 + gN a 6) ≤ 3 * (gN G 0 + gN G 5 + gN G 6)
      rw [n18.1]
      show 0 + 3 * (gN a 0 + gN a 5 + gN a 6) ≤ 3 * (gN a 0 + gN a 5 + gN a 6)
      omega
    · rw [gather_0]
      show gI (f_X12_trap 1 (nI c) 0 u) 0 = 0
      rw [trap_0 _ _ _ (Or.inr rfl)]
      exact z
theorem stepL {m : Nat} (hm : m ≤ 4096) : ∀ d t s a u, t + d = m → s ≤ t → Rel a u → gI u 0 = 0 → ∀ n n', d < n → d < n' → ∃ r a' K u', f_X11_step_b25 n (nI m) (nI s) (nI t) a = some (r, a', K) ∧ f_X12_step_b30 n' (nI m) (nI s) (nI t) u = some (r, u') ∧ Rel a' u' ∧ K + Bud a ≤ Bud a' ∧ gI u' 0 = 0 := by
  intro d
  induction d with
  | zero =>
    intro t s a u htd hst h z n n' hn hn'
    obtain ⟨n, rfl⟩ : ∃ k, n = k + 1 := ⟨n - 1, by omega⟩
    obtain ⟨n', rfl⟩ : ∃ k, n' = k + 1 := ⟨n' - 1, by omega⟩
    have e : nI m ≤ nI t := nI_le (by omega) (by omega)
    refine ⟨nI s, a, 0, u, ?_, ?_, h, by omega, z⟩
    · show f_X11_step_b25_s _ _ _ _ _ = _
      unfold f_X11_step_b25_s
      rw [if_pos e]
    · show f_X12_step_b30_s _ _ _ _ _ = _
      unfold f_X12_step_b30_s
      rw [if_pos e]
  | succ d ih =>
    intro t s a u htd hst h z n n' hn hn'
    obtain ⟨n, rfl⟩ : ∃ k, n = k + 1 := ⟨n - 1, by omega⟩
    obtain ⟨n', rfl⟩ : ∃ k, n' = k + 1 := ⟨n' - 1, by omega⟩
    have e : ¬ nI m ≤ nI t := nI_ge (by omega) (by omega)
    obtain ⟨r, a1, k, u1, p1, p2, p3, p4, p5, p6⟩ := x_adv h z
    show ∃ r a' K u', f_X11_step_b25_s _ _ _ _ _ = _ ∧ f_X12_step_b30_s _ _ _ _ _ = _ ∧ _ ∧ _ ∧ _
    unfold f_X11_step_b25_s f_X12_step_b30_s f_X11_step_b43 f_X12_step_b48
    rw [if_neg e, if_neg e, p1, p2, Option.bind_some, Option.bind_some]
    show ∃ r' a' K u', ak1 k (if r = 0 then f_X11_step_b25 n (nI m) (nI s) (nI t + 1) a1 else f_X11_step_b25 n (nI m) (nI s + 1) (nI t + 1) a1) = some (r', a', K) ∧ (if r = 0 then f_X12_step_b30 n' (nI m) (nI s + 0) (nI t + 1) u1 else f_X12_step_b30 n' (nI m) (nI s + 1) (nI t + 1) u1) = some (r', u') ∧ _ ∧ _ ∧ _
    rw [nI_1, nI_1, Int32.add_zero]
    rcases p3 with rfl | rfl
    · rw [if_pos rfl, if_pos rfl]
      obtain ⟨r2, a2, K, u2, q1, q2, q3, q4, q5⟩ := ih (t + 1) s a1 u1 (by omega) (by omega) p4 p6 n n' (by omega) (by omega)
      exact ⟨r2, a2, k + K, u2, by rw [q1]; rfl, q2, q3, by omega, q5⟩
    · rw [if_neg n10, if_neg n10]
      obtain ⟨r2, a2, K, u2, q1, q2, q3, q4, q5⟩ := ih (t + 1) (s + 1) a1 u1 (by omega) (by omega) p4 p6 n n' (by omega) (by omega)
      exact ⟨r2, a2, k + K, u2, by rw [q1]; rfl, q2, q3, by omega, q5⟩
theorem op_step : Op_step Rel Bud := by
  intro n a u h
  rcases pk_ix n (n := 4097) (by omega) with h0 | h0 | ⟨j, hj, rfl⟩
  · refine Or.inr ⟨0, sI u 0 1, ?_, ?_, rfl, h.thr 1⟩
    · unfold f_X11_step f_X11_step_b11
      rw [if_pos h0]
    · unfold f_X12_step f_X12_step_b12 f_X12_step_b17
      rw [if_pos h0, fails_1]
      rfl
  · have h1 : (4097 : Int32) ≤ n := h0
    have p0 : ¬ n < 0 := big_lt h1 (by decide)
    have p1 : ¬ n ≤ 4096 := big_le h1 (by decide)
    refine Or.inr ⟨0, sI u 0 1, ?_, ?_, rfl, h.thr 1⟩
    · unfold f_X11_step f_X11_step_b11
      rw [if_neg p0, if_neg p1]
    · unfold f_X12_step f_X12_step_b12 f_X12_step_b17
      rw [if_neg p0, if_neg p1, fails_1]
      rfl
  · left
    have p0 : ¬ nI j < 0 := nI_pos (by omega)
    have p1 : nI j ≤ 4096 := nI_le (b := 4096) (by omega) (by omega)
    obtain ⟨r, a', K, u', q1, q2, q3, q4, q5⟩ := stepL (m := j) (by omega) j 0 0 a (sI u 0 0) (by omega) (by omega) (h.thr 0) rfl FU FU (by unfold FU; omega) (by unfold FU; omega)
    refine ⟨r, a', K, r, u', ?_, ?_, q5, rfl, q3, q4⟩
    · unfold f_X11_step
      rw [if_neg p0, if_pos p1]
      show rI (f_X11_step_b25 FU (nI j) (nI 0) (nI 0) a) = _
      rw [q1]
      rfl
    · unfold f_X12_step f_X12_step_b17
      rw [if_neg p0, if_pos p1, fails_0, Option.bind_some, if_pos rfl]
      exact q2

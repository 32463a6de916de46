def Mid (a u : St) : Prop := Rel a u ∧ gI a 18 = -1 ∧ gI u 16 = -1 ∧ gL u 25 = gL a 25 ∧ gL a 25 &&& 1 = 0 ∧ gL u 26 = (gI a 17).toInt64 &&& 4294967295 ∧ gL u 0 + (gI u 17).toInt64 = gL a 25 ∧ gI u 0 = 0
def Out (a u : St) : Prop := Rel a u ∧ ((gI a 18 = -1 ∧ gI u 16 = -1 ∧ gL u 25 = gL a 25 ∧ gL a 25 &&& 1 = 0) ∨ ∃ c, c < 64 ∧ gI a 18 = nI c ∧ gI u 16 = nI c ∧ gL u 24 = gL a 26) ∧ gI u 0 = 0
def Ex (x : Option (St × Nat)) (y : Option St) (a : St) : Prop := ∃ a' k u', x = some (a', k) ∧ y = some u' ∧ Out a' u' ∧ k + Bud a ≤ Bud a'
def Ex1 (x y : Option St) (a : St) : Prop := ∃ a' u', x = some a' ∧ y = some u' ∧ Out a' u' ∧ gN a' = gN a
theorem Rel.scr {a u : St} (h : Rel a u) (c d : Int32) (v w : Int64) : Rel (sL (sI a 18 c) 26 v) (sL (sI u 16 d) 24 w) := by
  obtain ⟨P, h⟩ := h
  exact ⟨P, h⟩
theorem Rel.nx {a u : St} (h : Rel a u) (v w : Int64) : Rel (sL a 25 v) (sL u 25 w) := by
  obtain ⟨P, h⟩ := h
  exact ⟨P, h⟩
theorem Mid.z {a u : St} (h : Mid a u) : gI u 0 = 0 := h.2.2.2.2.2.2.2
theorem Out.fail {a u : St} (h : Rel a u) (z : gI u 0 = 0) {c : Nat} (hc : c < 64) (v : Int64) : Out (f_X6_fail (nI c) v a) (f_X12_fail (nI c) v u) := ⟨h.scr _ _ _ _, Or.inr ⟨c, hc, rfl, rfl, rfl⟩, z⟩
theorem Mid.ill {a u : St} (h : Mid a u) : Out (f_X6_illegal a) (f_X12_illegal u) := by
  unfold f_X6_illegal f_X12_illegal
  rw [h.2.2.2.2.2.1]
  exact Out.fail h.1 h.z (c := 2) (by omega) _
theorem Mid.out {a u : St} (h : Mid a u) : Out a u := ⟨h.1, Or.inl ⟨h.2.1, h.2.2.1, h.2.2.2.1, h.2.2.2.2.1⟩, h.z⟩
theorem Mid.illx {a u : St} (h : Mid a u) : Ex1 (some (f_X6_illegal a)) (some (f_X12_illegal u)) a := ⟨_, _, rfl, rfl, h.ill, rfl⟩
theorem rd_put {a u : St} (h : Rel a u) (w : Int32) (v : Int64) : (f_X6_putRd w v a = some a ∧ f_X12_gives (w.toInt64 &&& 4294967295) v u = some u) ∨ ∃ n, f_X6_putRd w v a = some (sB a 1 n v) ∧ f_X12_gives (w.toInt64 &&& 4294967295) v u = some (sB u 0 n v) := by
  obtain ⟨P, hN, -⟩ := h.lens
  obtain ⟨_, _, _, _, _, _, _, _, n7, _, m1, _⟩ := hN
  unfold f_X6_putRd f_X12_gives
  rw [fl_rd]
  obtain ⟨k, hk, e⟩ := pk_andE (w >>> ((7 : Int32) &&& 31)) (m := 31) 5 rfl
  rw [e]
  by_cases c : k = 0
  · subst c
    left
    exact ⟨by rw [if_pos nI_0], by rw [if_pos (by decide)]⟩
  · right
    refine ⟨k, ?_, ?_⟩
    · rw [if_neg (nI_ne0 (by omega) (by omega)), n7, if_pos (in_32 hk), nI_clamp (by omega)]
    · rw [if_neg (nI_nle (by omega) (by omega)), m1, if_pos (in_32 hk), nI_clamp (by omega)]
theorem Mid.put {a u : St} (h : Mid a u) (w : Int32) (v : Int64) : ∃ a' u', f_X6_putRd w v a = some a' ∧ f_X12_gives (w.toInt64 &&& 4294967295) v u = some u' ∧ Mid a' u' ∧ gN a' = gN a ∧ gL a' = gL a ∧ gL u' = gL u := by
  rcases rd_put h.1 w v with ⟨e1, e2⟩ | ⟨n, e1, e2⟩
  · exact ⟨a, u, e1, e2, h, rfl, rfl, rfl⟩
  · exact ⟨_, _, e1, e2, ⟨h.1.B1 n v, h.2⟩, rfl, rfl, rfl⟩
theorem Mid.val {a u : St} (h : Mid a u) (w : Int32) (v : Int64) : Ex1 (f_X6_putRd w v a) (f_X12_gives (w.toInt64 &&& 4294967295) v u) a := by
  obtain ⟨a', u', e1, e2, m, n, -, -⟩ := h.put w v
  exact ⟨a', u', e1, e2, m.out, n⟩
theorem VI.ex {a u : St} {w : Int32} {x y : Option St} (v : VI w a u x y) (h : Mid a u) : Ex1 x y a := by
  rcases v with ⟨v, rfl, rfl⟩ | ⟨rfl, rfl⟩
  · exact h.val w v
  · exact h.illx
theorem Ex1.up {x y : Option St} {a : St} (h : Ex1 x y a) : Ex (x.bind (fun y => some (y, 0))) (y.bind (fun y => some y)) a := by
  obtain ⟨a', u', rfl, rfl, q, n⟩ := h
  exact ⟨a', 0, u', rfl, rfl, q, bud_le n⟩
theorem Ex1.up2 {x y : Option St} {a : St} (h : Ex1 x y a) : Ex (x.bind (fun y => some (y, 0))) y a := by
  obtain ⟨a', u', rfl, rfl, q, n⟩ := h
  exact ⟨a', 0, u', rfl, rfl, q, bud_le n⟩
theorem Ex.up {x : Option (St × Nat)} {y : Option St} {a : St} (h : Ex x y a) : Ex (x.bind (fun y => ak0 y.2 (some (y.1, 0)))) (y.bind (fun y => some y)) a := by
  obtain ⟨a', k, u', rfl, rfl, q, n⟩ := h
  exact ⟨a', k, u', rfl, rfl, q, n⟩
theorem reg_a {a u : St} (h : Rel a u) (w : Int32) : ∃ A, f_X6_a w a = some A ∧ inB ((f_X12_cut (w.toInt64 &&& 4294967295) 19 15).toInt32) (gN u 1) ∧ gB u 0 ((f_X12_cut (w.toInt64 &&& 4294967295) 19 15).toInt32).toNatClampNeg = A := by
  obtain ⟨P, hN, -⟩ := h.lens
  obtain ⟨_, _, _, _, _, _, _, _, n7, _, m1, _⟩ := hN
  unfold f_X6_a
  rw [fl_r1]
  obtain ⟨k, hk, e⟩ := pk_andE (w >>> ((15 : Int32) &&& 31)) (m := 31) 5 rfl
  rw [e, n7, m1, if_pos (in_32 hk), nI_clamp (by omega), h.rows.2.2.2]
  exact ⟨_, rfl, in_32 hk, rfl⟩
theorem reg_b {a u : St} (h : Rel a u) (w : Int32) : ∃ A, f_X6_b w a = some A ∧ inB ((f_X12_cut (w.toInt64 &&& 4294967295) 24 20).toInt32) (gN u 1) ∧ gB u 0 ((f_X12_cut (w.toInt64 &&& 4294967295) 24 20).toInt32).toNatClampNeg = A := by
  obtain ⟨P, hN, -⟩ := h.lens
  obtain ⟨_, _, _, _, _, _, _, _, n7, _, m1, _⟩ := hN
  unfold f_X6_b
  rw [fl_r2]
  obtain ⟨k, hk, e⟩ := pk_andE (w >>> ((20 : Int32) &&& 31)) (m := 31) 5 rfl
  rw [e, n7, m1, if_pos (in_32 hk), nI_clamp (by omega), h.rows.2.2.2]
  exact ⟨_, rfl, in_32 hk, rfl⟩
theorem gB_a {a b : St} (w : Int32) (h1 : gB b = gB a) (h2 : gN b = gN a) : f_X6_a w b = f_X6_a w a := by
  unfold f_X6_a
  rw [h1, h2]
theorem gB_b {a b : St} (w : Int32) (h1 : gB b = gB a) (h2 : gN b = gN a) : f_X6_b w b = f_X6_b w a := by
  unfold f_X6_b
  rw [h1, h2]
theorem nlt0 {c : Nat} (h : c < 64) : ¬ nI c < 0 := nI_pos (by omega)
theorem Mid.rd {a u a' u' : St} (h : Mid a u) (r : Rel a' u') (k : KpC a a') (l : KpM u u') : Mid a' u' := by
  obtain ⟨k1, k2, k3, k4, k5, k6⟩ := k
  obtain ⟨l1, l2, l3, l4, l5⟩ := l
  refine ⟨r, ?_, ?_, ?_, ?_, ?_, ?_, ?_⟩
  · rw [k6]; exact h.2.1
  · rw [l4]; exact h.2.2.1
  · rw [l1, k1]; exact h.2.2.2.1
  · rw [k1]; exact h.2.2.2.2.1
  · rw [l1, k5]; exact h.2.2.2.2.2.1
  · rw [l1, l5, k1]; exact h.2.2.2.2.2.2.1
  · rw [l3]; exact h.z
theorem ld_core {a u : St} (h : Mid a u) (w : Int32) {m : Nat} (hm : wid m) (v : Int64) (FC FM : Int64 → Int64) (hF : ∀ z, FC (low m z) = FM z) : Ex1 ((f_X6_reached v (nI m) 1 a).bind (fun y4 => if (gI y4.2 18) = (-1 : Int32) then ((f_X1_read y4.1 (nI m) y4.2).bind (fun y7 => if (gI y7.2 3) = (0 : Int32) then f_X6_putRd w (FC y7.1) y7.2 else (some (f_X6_fail (f_X9_accessFault (1 : Int32)) v y7.2)))) else (some y4.2))) ((f_X12_reach v (nI m) 1 0 u).bind (fun y2 => if (gI y2.2 16) < (0 : Int32) then ((f_X12_readAt y2.1 (nI m) y2.2).bind (fun y5 => f_X12_gives (w.toInt64 &&& 4294967295) (FM y5.1) y5.2)) else (some y2.2))) a := by
  rcases rel_reached h.1 1 (Or.inl rfl) hm v 0 with ⟨c, hc, y, e1, e2⟩ | ⟨x, hx, e1, e2⟩
  · rw [e1, e2, Option.bind_some, Option.bind_some, if_neg (show ¬ gI (f_X6_fail (nI c) v a) 18 = -1 from nI_m1 (by omega)), if_neg (show ¬ gI (f_X12_fail (nI c) v u) 16 < 0 from nlt0 hc)]
    exact ⟨_, _, rfl, rfl, Out.fail h.1 h.z hc v, rfl⟩
  · rw [e1, e2, Option.bind_some]
    rw [if_pos (show gI (x, a).2 18 = -1 from h.2.1)]
    unfold f_X12_reach_b67 f_X12_reach_b95 f_X12_reach_b105
    rw [if_pos rfl]
    rcases rel_bread h.1 hm x hx with ⟨t, r⟩ | ⟨t, z, z', a', u', r1, r2, r3, r4, r5, r6, r7⟩
    · rw [t, if_pos rfl, Option.bind_some]
      show Ex1 ((f_X1_read x (nI m) a).bind _) _ a
      rw [r, Option.bind_some, if_neg (show ¬ gI (sI (sI a 3 0) 3 1) 3 = 0 from n10), if_neg (show ¬ gI (f_X12_fail (f_X12_accessFault 1) v u) 16 < 0 from (by decide : ¬ (5 : Int32) < 0))]
      exact ⟨_, _, rfl, rfl, Out.fail (c := 5) ((h.1.s3 0).s3 1) h.z (by omega) v, rfl⟩
    · rw [t, if_neg n10, Option.bind_some, if_pos (show gI u 16 < 0 by rw [h.2.2.1]; decide)]
      show Ex1 ((f_X1_read x (nI m) a).bind _) ((f_X12_readAt x (nI m) u).bind _) a
      rw [r1, r3, Option.bind_some, Option.bind_some, if_pos r2]
      have M := h.rd r5 r6 r7
      obtain ⟨b, c, q1, q2, q3, q4⟩ := M.val w (FM z')
      refine ⟨b, c, ?_, q2, q3, by rw [q4]; exact r6.2.2.1⟩
      show f_X6_putRd w (FC z) a' = some b
      rw [r4, hF]
      exact q1
theorem sgl_1 (z : Int64) : f_X0_signed (low 1 z) 1 = f_X12_signed z 8 := by
  rw [show f_X0_signed (low 1 z) 1 = j_lshr (j_lshl (z &&& 255) 56) 56 from rfl, show f_X12_signed z 8 = j_lshr (j_lshl z 56) 56 from rfl]
  refine qb_ext (al_64 ?_)
  simp [qb_or, qb_and, qb_xor, qt_or, qt_and, qt_xor, qb_lit, qt_lit, qb_m1, qt_m1, qb_not, qt_not, qbn_2, qbn_3, qbn_4, qbn_8, qbn_6145, qbn_786723, qb_ofI, qt_ofL, sh6_lit, sh5_lit, qb_shl, qb_sshr, qb_ushr, qt_shl, qt_sshr, qt_ushr, Nat.testBit_eq_decide_div_mod_eq, qt_big, qb_big, qt_s31, qt_l31]
theorem sgl_2 (z : Int64) : f_X0_signed (low 2 z) 2 = f_X12_signed z 16 := by
  rw [show f_X0_signed (low 2 z) 2 = j_lshr (j_lshl (z &&& 65535) 48) 48 from rfl, show f_X12_signed z 16 = j_lshr (j_lshl z 48) 48 from rfl]
  refine qb_ext (al_64 ?_)
  simp [qb_or, qb_and, qb_xor, qt_or, qt_and, qt_xor, qb_lit, qt_lit, qb_m1, qt_m1, qb_not, qt_not, qbn_2, qbn_3, qbn_4, qbn_8, qbn_6145, qbn_786723, qb_ofI, qt_ofL, sh6_lit, sh5_lit, qb_shl, qb_sshr, qb_ushr, qt_shl, qt_sshr, qt_ushr, Nat.testBit_eq_decide_div_mod_eq, qt_big, qb_big, qt_s31, qt_l31]
theorem sgl_4 (z : Int64) : f_X0_signed (low 4 z) 4 = f_X12_signed z 32 := by
  rw [show f_X0_signed (low 4 z) 4 = j_lshr (j_lshl (z &&& 4294967295) 32) 32 from rfl, show f_X12_signed z 32 = j_lshr (j_lshl z 32) 32 from rfl]
  refine qb_ext (al_64 ?_)
  simp [qb_or, qb_and, qb_xor, qt_or, qt_and, qt_xor, qb_lit, qt_lit, qb_m1, qt_m1, qb_not, qt_not, qbn_2, qbn_3, qbn_4, qbn_8, qbn_6145, qbn_786723, qb_ofI, qt_ofL, sh6_lit, sh5_lit, qb_shl, qb_sshr, qb_ushr, qt_shl, qt_sshr, qt_ushr, Nat.testBit_eq_decide_div_mod_eq, qt_big, qb_big, qt_s31, qt_l31]
theorem sgl_8 (z : Int64) : f_X0_signed (low 8 z) 8 = z := by
  rw [show f_X0_signed (low 8 z) 8 = j_lshr (j_lshl z 0) 0 from rfl]
  refine qb_ext (al_64 ?_)
  simp [qb_or, qb_and, qb_xor, qt_or, qt_and, qt_xor, qb_lit, qt_lit, qb_m1, qt_m1, qb_not, qt_not, qbn_2, qbn_3, qbn_4, qbn_8, qbn_6145, qbn_786723, qb_ofI, qt_ofL, sh6_lit, sh5_lit, qb_shl, qb_sshr, qb_ushr, qt_shl, qt_sshr, qt_ushr, Nat.testBit_eq_decide_div_mod_eq, qt_big, qb_big, qt_s31, qt_l31]
theorem ctl_1 (z : Int64) : low 1 z = f_X12_cut z 7 0 := by
  rw [show f_X12_cut z 7 0 = j_lushr z 0 &&& 255 from rfl, ush0]
  rfl
theorem ctl_2 (z : Int64) : low 2 z = f_X12_cut z 15 0 := by
  rw [show f_X12_cut z 15 0 = j_lushr z 0 &&& 65535 from rfl, ush0]
  rfl
theorem ctl_4 (z : Int64) : low 4 z = f_X12_cut z 31 0 := by
  rw [show f_X12_cut z 31 0 = j_lushr z 0 &&& 4294967295 from rfl, ush0]
  rfl
theorem x_load {a u : St} (h : Mid a u) (w : Int32) (A : Int64) (hA : f_X6_a w a = some A) : Ex1 (f_X6_loadRegister w a) (f_X12_loads (w.toInt64 &&& 4294967295) (f_X6_f w) (A + ((w >>> ((20 : Int32) &&& 31)).toInt64)) u) a := by
  rcases f_8 w with f | f | f | f | f | f | f | f
  · have q := ld_core h w (m := 1) (Or.inl rfl) (A + ((w >>> ((20 : Int32) &&& 31)).toInt64)) (fun z => f_X0_signed z (nI 1)) (fun z => f_X12_signed z (8 * nI 1)) sgl_1
    simp only [f_X6_loadRegister, f_X6_loadRegister_b105, f_X12_loads, f_X12_loads_b93, f, hA, Option.bind_some, bs, if_true, if_false, show ¬ (0 : Int32) = 7 by decide, show (1 : Int32) <<< (((0 : Int32) &&& 3) &&& 31) = nI 1 by decide, show (1 : Int32) <<< (((0 : Int32) - 0 / 4 * 4) &&& 31) = nI 1 by decide, show ¬ (4 : Int32) ≤ 0 by decide, show ¬ nI 1 = 8 by decide, show (0 : Int32) ≤ 3 by decide]
    exact q
  · have q := ld_core h w (m := 2) (Or.inr (Or.inl rfl)) (A + ((w >>> ((20 : Int32) &&& 31)).toInt64)) (fun z => f_X0_signed z (nI 2)) (fun z => f_X12_signed z (8 * nI 2)) sgl_2
    simp only [f_X6_loadRegister, f_X6_loadRegister_b105, f_X12_loads, f_X12_loads_b93, f, hA, Option.bind_some, bs, if_true, if_false, show ¬ (1 : Int32) = 7 by decide, show (1 : Int32) <<< (((1 : Int32) &&& 3) &&& 31) = nI 2 by decide, show (1 : Int32) <<< (((1 : Int32) - 1 / 4 * 4) &&& 31) = nI 2 by decide, show ¬ (4 : Int32) ≤ 1 by decide, show ¬ nI 2 = 8 by decide, show (1 : Int32) ≤ 3 by decide]
    exact q
  · have q := ld_core h w (m := 4) (Or.inr (Or.inr (Or.inl rfl))) (A + ((w >>> ((20 : Int32) &&& 31)).toInt64)) (fun z => f_X0_signed z (nI 4)) (fun z => f_X12_signed z (8 * nI 4)) sgl_4
    simp only [f_X6_loadRegister, f_X6_loadRegister_b105, f_X12_loads, f_X12_loads_b93, f, hA, Option.bind_some, bs, if_true, if_false, show ¬ (2 : Int32) = 7 by decide, show (1 : Int32) <<< (((2 : Int32) &&& 3) &&& 31) = nI 4 by decide, show (1 : Int32) <<< (((2 : Int32) - 2 / 4 * 4) &&& 31) = nI 4 by decide, show ¬ (4 : Int32) ≤ 2 by decide, show ¬ nI 4 = 8 by decide, show (2 : Int32) ≤ 3 by decide]
    exact q
  · have q := ld_core h w (m := 8) (Or.inr (Or.inr (Or.inr rfl))) (A + ((w >>> ((20 : Int32) &&& 31)).toInt64)) (fun z => f_X0_signed z (8)) (fun z => z) sgl_8
    simp only [f_X6_loadRegister, f_X6_loadRegister_b105, f_X12_loads, f_X12_loads_b93, f, hA, Option.bind_some, bs, if_true, if_false, show ¬ (3 : Int32) = 7 by decide, show (1 : Int32) <<< (((3 : Int32) &&& 3) &&& 31) = 8 by decide, show (1 : Int32) <<< (((3 : Int32) - 3 / 4 * 4) &&& 31) = 8 by decide, show ¬ (4 : Int32) ≤ 3 by decide]
    exact q
  · have q := ld_core h w (m := 1) (Or.inl rfl) (A + ((w >>> ((20 : Int32) &&& 31)).toInt64)) (fun z => z) (fun z => f_X12_cut z (8 * nI 1 - 1) 0) ctl_1
    simp only [f_X6_loadRegister, f_X6_loadRegister_b105, f_X12_loads, f_X12_loads_b93, f, hA, Option.bind_some, bs, if_true, if_false, show ¬ (4 : Int32) = 7 by decide, show (1 : Int32) <<< (((4 : Int32) &&& 3) &&& 31) = nI 1 by decide, show (1 : Int32) <<< (((4 : Int32) - 4 / 4 * 4) &&& 31) = nI 1 by decide, show (4 : Int32) ≤ 4 by decide, show ¬ nI 1 = 8 by decide, show ¬ (4 : Int32) ≤ 3 by decide]
    exact q
  · have q := ld_core h w (m := 2) (Or.inr (Or.inl rfl)) (A + ((w >>> ((20 : Int32) &&& 31)).toInt64)) (fun z => z) (fun z => f_X12_cut z (8 * nI 2 - 1) 0) ctl_2
    simp only [f_X6_loadRegister, f_X6_loadRegister_b105, f_X12_loads, f_X12_loads_b93, f, hA, Option.bind_some, bs, if_true, if_false, show ¬ (5 : Int32) = 7 by decide, show (1 : Int32) <<< (((5 : Int32) &&& 3) &&& 31) = nI 2 by decide, show (1 : Int32) <<< (((5 : Int32) - 5 / 4 * 4) &&& 31) = nI 2 by decide, show (4 : Int32) ≤ 5 by decide, show ¬ nI 2 = 8 by decide, show ¬ (5 : Int32) ≤ 3 by decide]
    exact q
  · have q := ld_core h w (m := 4) (Or.inr (Or.inr (Or.inl rfl))) (A + ((w >>> ((20 : Int32) &&& 31)).toInt64)) (fun z => z) (fun z => f_X12_cut z (8 * nI 4 - 1) 0) ctl_4
    simp only [f_X6_loadRegister, f_X6_loadRegister_b105, f_X12_loads, f_X12_loads_b93, f, hA, Option.bind_some, bs, if_true, if_false, show ¬ (6 : Int32) = 7 by decide, show (1 : Int32) <<< (((6 : Int32) &&& 3) &&& 31) = nI 4 by decide, show (1 : Int32) <<< (((6 : Int32) - 6 / 4 * 4) &&& 31) = nI 4 by decide, show (4 : Int32) ≤ 6 by decide, show ¬ nI 4 = 8 by decide, show ¬ (6 : Int32) ≤ 3 by decide]
    exact q
  · simp only [f_X6_loadRegister, f_X12_loads, f, if_true]
    exact h.illx
theorem st_core {a u : St} (h : Mid a u) (w : Int32) {m : Nat} (hm : wid m) (v B : Int64) (hB : f_X6_b w a = some B) : Ex ((f_X6_reached v (nI m) 2 a).bind (fun y4 => if (gI y4.2 18) = (-1 : Int32) then ((f_X6_b w y4.2).bind (fun y7 => (f_X1_write y4.1 (nI m) y7 y4.2).bind (fun y9 => ak0 y9.2 (if (gI y9.1 3) = (0 : Int32) then (some (y9.1, 0)) else (some ((f_X6_fail (f_X9_accessFault (2 : Int32)) v y9.1), 0)))))) else (some (y4.2, 0)))) ((f_X12_reach v (nI m) 2 0 u).bind (fun y2 => if (0 : Int32) ≤ (gI y2.2 16) then (some y2.2) else (f_X12_writeAt y2.1 (nI m) B y2.2))) a := by
  rcases rel_reached h.1 2 (Or.inr rfl) hm v 0 with ⟨c, hc, y, e1, e2⟩ | ⟨x, hx, e1, e2⟩
  · rw [e1, e2, Option.bind_some, Option.bind_some, if_neg (show ¬ gI (f_X6_fail (nI c) v a) 18 = -1 from nI_m1 (by omega)), if_pos (show (0 : Int32) ≤ gI (f_X12_fail (nI c) v u) 16 from nI_pos' (by omega))]
    exact ⟨_, 0, _, rfl, rfl, Out.fail h.1 h.z hc v, bud_le rfl⟩
  · rw [e1, e2, Option.bind_some]
    rw [if_pos (show gI (x, a).2 18 = -1 from h.2.1)]
    unfold f_X12_reach_b67 f_X12_reach_b95 f_X12_reach_b105
    rw [if_pos rfl]
    show Ex ((f_X6_b w a).bind _) _ a
    rw [hB, Option.bind_some]
    rcases rel_bwrite h.1 hm x hx B with ⟨t, r⟩ | ⟨t, a', k, u', r1, r2, r3, r4, r5, r6, r7⟩
    · rw [t, if_pos rfl, Option.bind_some]
      show Ex ((f_X1_write x (nI m) B a).bind _) _ a
      rw [r, Option.bind_some, if_neg (show ¬ gI (sI (sI a 3 0) 3 1) 3 = 0 from n10), if_pos (show (0 : Int32) ≤ gI (f_X12_fail (f_X12_accessFault 2) v u) 16 from (by decide : (0 : Int32) ≤ 7))]
      exact ⟨_, 0, _, rfl, rfl, Out.fail (c := 7) ((h.1.s3 0).s3 1) h.z (by omega) v, bud_le rfl⟩
    · rw [t, if_neg n10, Option.bind_some, if_neg (show ¬ (0 : Int32) ≤ gI u 16 by rw [h.2.2.1]; decide)]
      show Ex ((f_X1_write x (nI m) B a).bind _) (f_X12_writeAt x (nI m) B u) a
      rw [r1, r3, Option.bind_some, if_pos r2]
      refine ⟨a', k, u', rfl, rfl, ⟨r4, Or.inl ⟨?_, ?_, ?_, ?_⟩, by rw [r7.1]; exact h.z⟩, r5⟩
      · rw [r6.2.2.1]; exact h.2.1
      · rw [r7.2.1]; exact h.2.2.1
      · rw [r7.2.2.2.2.2.1, r6.2.2.2.2.1]; exact h.2.2.2.1
      · rw [r6.2.2.2.2.1]; exact h.2.2.2.2.1
theorem x_store {a u : St} (h : Mid a u) (w : Int32) (A B : Int64) (hA : f_X6_a w a = some A) (hB : f_X6_b w a = some B) : Ex (f_X6_storeRegister w a) (f_X12_stores (f_X6_f w) (A + (((w >>> ((25 : Int32) &&& 31)) <<< ((5 : Int32) &&& 31)) ||| ((w >>> ((7 : Int32) &&& 31)) &&& (31 : Int32))).toInt64) B u) a := by
  rcases f_8 w with f | f | f | f | f | f | f | f
  · have q := st_core h w (m := 1) (Or.inl rfl) (A + (((w >>> ((25 : Int32) &&& 31)) <<< ((5 : Int32) &&& 31)) ||| ((w >>> ((7 : Int32) &&& 31)) &&& (31 : Int32))).toInt64) B hB
    simp only [f_X6_storeRegister, f_X12_stores, f, hA, Option.bind_some, bs, if_true, if_false, show (0 : Int32) ≤ 3 by decide, show (1 : Int32) <<< ((0 : Int32) &&& 31) = nI 1 by decide]
    exact q
  · have q := st_core h w (m := 2) (Or.inr (Or.inl rfl)) (A + (((w >>> ((25 : Int32) &&& 31)) <<< ((5 : Int32) &&& 31)) ||| ((w >>> ((7 : Int32) &&& 31)) &&& (31 : Int32))).toInt64) B hB
    simp only [f_X6_storeRegister, f_X12_stores, f, hA, Option.bind_some, bs, if_true, if_false, show (1 : Int32) ≤ 3 by decide, show (1 : Int32) <<< ((1 : Int32) &&& 31) = nI 2 by decide]
    exact q
  · have q := st_core h w (m := 4) (Or.inr (Or.inr (Or.inl rfl))) (A + (((w >>> ((25 : Int32) &&& 31)) <<< ((5 : Int32) &&& 31)) ||| ((w >>> ((7 : Int32) &&& 31)) &&& (31 : Int32))).toInt64) B hB
    simp only [f_X6_storeRegister, f_X12_stores, f, hA, Option.bind_some, bs, if_true, if_false, show (2 : Int32) ≤ 3 by decide, show (1 : Int32) <<< ((2 : Int32) &&& 31) = nI 4 by decide]
    exact q
  · have q := st_core h w (m := 8) (Or.inr (Or.inr (Or.inr rfl))) (A + (((w >>> ((25 : Int32) &&& 31)) <<< ((5 : Int32) &&& 31)) ||| ((w >>> ((7 : Int32) &&& 31)) &&& (31 : Int32))).toInt64) B hB
    simp only [f_X6_storeRegister, f_X12_stores, f, hA, Option.bind_some, bs, if_true, if_false, show (3 : Int32) ≤ 3 by decide, show (1 : Int32) <<< ((3 : Int32) &&& 31) = nI 8 by decide]
    exact q
  · simp only [f_X6_storeRegister, f_X12_stores, f, if_false, show ¬ (4 : Int32) ≤ 3 by decide]
    exact ⟨_, 0, _, rfl, rfl, h.ill, bud_le rfl⟩
  · simp only [f_X6_storeRegister, f_X12_stores, f, if_false, show ¬ (5 : Int32) ≤ 3 by decide]
    exact ⟨_, 0, _, rfl, rfl, h.ill, bud_le rfl⟩
  · simp only [f_X6_storeRegister, f_X12_stores, f, if_false, show ¬ (6 : Int32) ≤ 3 by decide]
    exact ⟨_, 0, _, rfl, rfl, h.ill, bud_le rfl⟩
  · simp only [f_X6_storeRegister, f_X12_stores, f, if_false, show ¬ (7 : Int32) ≤ 3 by decide]
    exact ⟨_, 0, _, rfl, rfl, h.ill, bud_le rfl⟩
theorem br_go {a u : St} (h : Mid a u) (w : Int32) : Ex1 (some (sL a 25 ((gL a 24) + (f_X6_branchOffset w).toInt64))) (some (sL u 25 ((gL u 0) + (f_X6_branchOffset w).toInt64))) a := by
  have h0 : gL u 0 = gL a 24 := h.1.longs.2.2.2.2.2.2.2.2.2.2.2.2.2.2.2.2.2.2.2.2.2.2
  refine ⟨_, _, rfl, rfl, ⟨h.1.nx _ _, Or.inl ⟨h.2.1, h.2.2.1, ?_, ev_add h.1.inv.1.1 (ev_b w)⟩, h.z⟩, rfl⟩
  show gL u 0 + _ = gL a 24 + _
  rw [h0]
theorem bn4 : (4 : Int32) &&& 1 = 0 := by decide
theorem bn5 : (5 : Int32) &&& 1 = 1 := by decide
theorem bn6 : (6 : Int32) &&& 1 = 0 := by decide
theorem bn7 : (7 : Int32) &&& 1 = 1 := by decide
theorem br_no {a u : St} (h : Mid a u) : Ex1 (some a) (some u) a := ⟨_, _, rfl, rfl, h.out, rfl⟩
theorem b160_eq (w s : Int32) (u : St) : f_X12_branches_b160 (w.toInt64 &&& 4294967295) s u = if s = 0 then u else sL u 25 ((gL u 0) + (f_X6_branchOffset w).toInt64) := by
  unfold f_X12_branches_b160
  rw [fl_b]
theorem x_branch {a u : St} (h : Mid a u) (w : Int32) (A B : Int64) (hA : f_X6_a w a = some A) (hB : f_X6_b w a = some B) : Ex1 (f_X6_branch w a) (some (f_X12_branches (w.toInt64 &&& 4294967295) (f_X6_f w) A B u)) a := by
  have go := br_go h w
  have no := br_no h
  have ill := h.illx
  have yes : ∀ s : Int32, ¬ s = 0 → some (f_X12_branches_b160 (w.toInt64 &&& 4294967295) s u) = some (sL u 25 ((gL u 0) + (f_X6_branchOffset w).toInt64)) := fun s q => by rw [b160_eq, if_neg q]
  have non : some (f_X12_branches_b160 (w.toInt64 &&& 4294967295) 0 u) = some u := by rw [b160_eq, if_pos rfl]
  have bE : ∀ F s : Int32, F &&& 1 = 0 → f_X6_branch_b80 w F s a = if s = 1 then some (sL a 25 ((gL a 24) + (f_X6_branchOffset w).toInt64)) else some a := by
    intro F s hF
    unfold f_X6_branch_b80 f_X6_branch_b95
    rw [if_pos hF]
  have bO : ∀ F s : Int32, ¬ F &&& 1 = 0 → f_X6_branch_b80 w F s a = if s = 0 then some (sL a 25 ((gL a 24) + (f_X6_branchOffset w).toInt64)) else some a := by
    intro F s hF
    unfold f_X6_branch_b80 f_X6_branch_b95
    rw [if_neg hF]
  have cl : ∀ F : Int32, f_X6_f w = F → ¬ F = 2 → ¬ F = 3 → f_X6_branch w a = if (2 : Int32) ≤ F then (if (6 : Int32) ≤ F then (f_X6_branch_b80 w F (f_X12_isLess A B) a) else (if B ≤ A then (f_X6_branch_b80 w F (0 : Int32) a) else (f_X6_branch_b80 w F (1 : Int32) a))) else (if A = B then (f_X6_branch_b80 w F (1 : Int32) a) else (f_X6_branch_b80 w F (0 : Int32) a)) := by
    intro F hF n2 n3
    unfold f_X6_branch
    rw [hF, if_neg n2, if_neg n3, hA, hB, Option.bind_some, Option.bind_some, bl_eq]
  rcases f_8 w with f | f | f | f | f | f | f | f
  · have e2 : f_X12_branches (w.toInt64 &&& 4294967295) (f_X6_f w) A B u = (if A = B then f_X12_branches_b160 (w.toInt64 &&& 4294967295) 1 u else f_X12_branches_b160 (w.toInt64 &&& 4294967295) 0 u) := by
      unfold f_X12_branches f_X12_branches_b65
      rw [f, if_pos (show (0 : Int32) = 0 from rfl)]
    rw [e2, cl 0 f (by decide) (by decide), if_neg (show ¬ (2 : Int32) ≤ 0 by decide)]
    by_cases c : A = B
    · rw [if_pos c, if_pos c]
      rw [bE 0 1 (by decide), if_pos rfl]
      rw [yes 1 n10]; exact go
    · rw [if_neg c, if_neg c]
      rw [bE 0 0 (by decide), if_neg n01]
      rw [non]; exact no
  · have e2 : f_X12_branches (w.toInt64 &&& 4294967295) (f_X6_f w) A B u = (if A = B then f_X12_branches_b160 (w.toInt64 &&& 4294967295) 0 u else f_X12_branches_b160 (w.toInt64 &&& 4294967295) 1 u) := by
      unfold f_X12_branches f_X12_branches_b83
      rw [f, if_neg (show ¬ (1 : Int32) = 0 by decide), if_pos (show (1 : Int32) = 1 from rfl)]
    rw [e2, cl 1 f (by decide) (by decide), if_neg (show ¬ (2 : Int32) ≤ 1 by decide)]
    by_cases c : A = B
    · rw [if_pos c, if_pos c]
      rw [bO 1 1 (by decide), if_neg n10]
      rw [non]; exact no
    · rw [if_neg c, if_neg c]
      rw [bO 1 0 (by decide), if_pos rfl]
      rw [yes 1 n10]; exact go
  · have e1 : f_X6_branch w a = some (f_X6_illegal a) := by
      unfold f_X6_branch f_X6_branch_b15
      rw [f, if_pos rfl]
    have e2 : f_X12_branches (w.toInt64 &&& 4294967295) (f_X6_f w) A B u = f_X12_illegal u := by
      unfold f_X12_branches f_X12_branches_b156
      rw [f, if_neg (show ¬ (2 : Int32) = 0 by decide), if_neg (show ¬ (2 : Int32) = 1 by decide), if_pos (show (2 : Int32) = 2 from rfl), b160_eq, if_pos rfl]
    rw [e1, e2]
    exact ill
  · have e1 : f_X6_branch w a = some (f_X6_illegal a) := by
      unfold f_X6_branch f_X6_branch_b15
      rw [f, if_neg (show ¬ (3 : Int32) = 2 by decide), if_pos rfl]
    have e2 : f_X12_branches (w.toInt64 &&& 4294967295) (f_X6_f w) A B u = f_X12_illegal u := by
      unfold f_X12_branches f_X12_branches_b156
      rw [f, if_neg (show ¬ (3 : Int32) = 0 by decide), if_neg (show ¬ (3 : Int32) = 1 by decide), if_neg (show ¬ (3 : Int32) = 2 by decide), if_pos (show (3 : Int32) = 3 from rfl), b160_eq, if_pos rfl]
    rw [e1, e2]
    exact ill
  · have e2 : f_X12_branches (w.toInt64 &&& 4294967295) (f_X6_f w) A B u = (if B ≤ A then f_X12_branches_b160 (w.toInt64 &&& 4294967295) 0 u else f_X12_branches_b160 (w.toInt64 &&& 4294967295) 1 u) := by
      unfold f_X12_branches f_X12_branches_b101
      rw [f, if_neg (show ¬ (4 : Int32) = 0 by decide), if_neg (show ¬ (4 : Int32) = 1 by decide), if_neg (show ¬ (4 : Int32) = 2 by decide), if_neg (show ¬ (4 : Int32) = 3 by decide), if_pos (show (4 : Int32) = 4 from rfl)]
    rw [e2, cl 4 f (by decide) (by decide), if_pos (show (2 : Int32) ≤ 4 by decide), if_neg (show ¬ (6 : Int32) ≤ 4 by decide)]
    by_cases c : B ≤ A
    · rw [if_pos c, if_pos c]
      rw [bE 4 0 (by decide), if_neg n01]
      rw [non]; exact no
    · rw [if_neg c, if_neg c]
      rw [bE 4 1 (by decide), if_pos rfl]
      rw [yes 1 n10]; exact go
  · have e2 : f_X12_branches (w.toInt64 &&& 4294967295) (f_X6_f w) A B u = (if A < B then f_X12_branches_b160 (w.toInt64 &&& 4294967295) 0 u else f_X12_branches_b160 (w.toInt64 &&& 4294967295) 1 u) := by
      unfold f_X12_branches f_X12_branches_b119
      rw [f, if_neg (show ¬ (5 : Int32) = 0 by decide), if_neg (show ¬ (5 : Int32) = 1 by decide), if_neg (show ¬ (5 : Int32) = 2 by decide), if_neg (show ¬ (5 : Int32) = 3 by decide), if_neg (show ¬ (5 : Int32) = 4 by decide), if_pos (show (5 : Int32) = 5 from rfl)]
    rw [e2, cl 5 f (by decide) (by decide), if_pos (show (2 : Int32) ≤ 5 by decide), if_neg (show ¬ (6 : Int32) ≤ 5 by decide)]
    by_cases c : B ≤ A
    · rw [if_pos c, if_neg (Int64.not_lt.mpr c)]
      rw [bO 5 0 (by decide), if_pos rfl]
      rw [yes 1 n10]; exact go
    · rw [if_neg c, if_pos (Int64.not_le.mp c)]
      rw [bO 5 1 (by decide), if_neg n10]
      rw [non]; exact no
  · have e2 : f_X12_branches (w.toInt64 &&& 4294967295) (f_X6_f w) A B u = (f_X12_branches_b160 (w.toInt64 &&& 4294967295) (f_X12_isLess A B) u) := by
      unfold f_X12_branches
      rw [f, if_neg (show ¬ (6 : Int32) = 0 by decide), if_neg (show ¬ (6 : Int32) = 1 by decide), if_neg (show ¬ (6 : Int32) = 2 by decide), if_neg (show ¬ (6 : Int32) = 3 by decide), if_neg (show ¬ (6 : Int32) = 4 by decide), if_neg (show ¬ (6 : Int32) = 5 by decide), if_pos (show (6 : Int32) = 6 from rfl)]
    rw [e2, cl 6 f (by decide) (by decide), if_pos (show (2 : Int32) ≤ 6 by decide), if_pos (show (6 : Int32) ≤ 6 by decide)]
    rcases bl_01 A B with c | c
    · rw [c]
      rw [bE 6 0 (by decide), if_neg n01]
      rw [non]; exact no
    · rw [c]
      rw [bE 6 1 (by decide), if_pos rfl]
      rw [yes 1 n10]; exact go
  · have e2 : f_X12_branches (w.toInt64 &&& 4294967295) (f_X6_f w) A B u = (if (f_X12_isLess A B) = (0 : Int32) then f_X12_branches_b160 (w.toInt64 &&& 4294967295) 1 u else f_X12_branches_b160 (w.toInt64 &&& 4294967295) 0 u) := by
      unfold f_X12_branches f_X12_branches_b151
      rw [f, if_neg (show ¬ (7 : Int32) = 0 by decide), if_neg (show ¬ (7 : Int32) = 1 by decide), if_neg (show ¬ (7 : Int32) = 2 by decide), if_neg (show ¬ (7 : Int32) = 3 by decide), if_neg (show ¬ (7 : Int32) = 4 by decide), if_neg (show ¬ (7 : Int32) = 5 by decide), if_neg (show ¬ (7 : Int32) = 6 by decide), if_pos (show (7 : Int32) = 7 from rfl)]
    rw [e2, cl 7 f (by decide) (by decide), if_pos (show (2 : Int32) ≤ 7 by decide), if_pos (show (6 : Int32) ≤ 7 by decide)]
    rcases bl_01 A B with c | c
    · rw [c, if_pos rfl]
      rw [bO 7 0 (by decide), if_pos rfl]
      rw [yes 1 n10]; exact go
    · rw [c, if_neg n10]
      rw [bO 7 1 (by decide), if_neg n10]
      rw [non]; exact no
theorem jp_core {a u : St} (h : Mid a u) (w : Int32) (t : Int64) (ht : t &&& 1 = 0) : Ex1 (f_X6_jump w t a) ((f_X12_gives (w.toInt64 &&& 4294967295) ((gL u 0) + (gI u 17).toInt64) u).bind (fun y => some (sL y 25 t))) a := by
  unfold f_X6_jump
  rw [h.2.2.2.2.2.2.1]
  obtain ⟨a', u', e1, e2, m, n, -, -⟩ := h.put w (gL a 25)
  rw [e1, e2]
  exact ⟨_, _, rfl, rfl, ⟨m.1.nx _ _, Or.inl ⟨m.2.1, m.2.2.1, rfl, ht⟩, m.z⟩, n⟩
theorem x_jal {a u : St} (h : Mid a u) (w : Int32) : Ex1 (f_X6_jump w ((gL a 24) + (f_X6_jumpOffset w).toInt64) a) ((f_X12_gives (w.toInt64 &&& 4294967295) ((gL u 0) + (gI u 17).toInt64) u).bind (fun y38 => some (sL y38 25 ((gL y38 0) + (f_X6_jumpOffset w).toInt64)))) a := by
  have h0 : gL u 0 = gL a 24 := h.1.longs.2.2.2.2.2.2.2.2.2.2.2.2.2.2.2.2.2.2.2.2.2.2
  have q := jp_core h w ((gL a 24) + (f_X6_jumpOffset w).toInt64) (ev_add h.1.inv.1.1 (ev_j w))
  rcases rd_put h.1 w ((gL u 0) + (gI u 17).toInt64) with ⟨-, e2⟩ | ⟨n, -, e2⟩
  · rw [e2] at q ⊢
    rw [Option.bind_some] at q ⊢
    rw [h0]
    exact q
  · rw [e2] at q ⊢
    rw [Option.bind_some] at q ⊢
    show Ex1 _ (some (sL _ 25 (gL u 0 + _))) a
    rw [h0]
    rw [h0] at q
    exact q
theorem x_jalr {a u : St} (h : Mid a u) (w : Int32) (A : Int64) (hA : f_X6_a w a = some A) : Ex1 (f_X6_jumpByRegister w a) (if f_X6_f w = (0 : Int32) then ((f_X12_gives (w.toInt64 &&& 4294967295) ((gL u 0) + (gI u 17).toInt64) u).bind (fun y35 => some (sL y35 25 ((A + ((w >>> ((20 : Int32) &&& 31)).toInt64)) &&& (-2 : Int64))))) else (some (f_X12_illegal u))) a := by
  unfold f_X6_jumpByRegister
  by_cases f : f_X6_f w = 0
  · rw [if_pos f, if_pos f, hA, Option.bind_some, bs]
    exact jp_core h w _ (even_and _)
  · rw [if_neg f, if_neg f]
    exact h.illx
theorem x_fence {a u : St} (h : Mid a u) (w : Int32) : Ex1 (some (f_X6_fence w a)) (if f_X6_f w ≤ (1 : Int32) then (some u) else (some (f_X12_illegal u))) a := by
  unfold f_X6_fence
  split
  · exact br_no h
  · exact h.illx
theorem W_eq (w c : Int32) : ((w.toInt64 &&& 4294967295) = (c.toInt64 &&& 4294967295)) ↔ w = c := by
  constructor
  · intro h
    have e := congrArg Int64.toInt32 h
    rw [W_low, W_low] at e
    exact e
  · intro h
    rw [h]
theorem lM_st (u : St) : f_X4_leaveMachine u = (f_X4_previousPrivilege u, sL u 4 (if f_X4_previousPrivilege u = 3 then pf (pf (pf (gL u 4) 8 (hs (gL u 4) 128)) 128 1) 6144 0 else pf (pf (pf (pf (gL u 4) 8 (hs (gL u 4) 128)) 128 1) 6144 0) 131072 0)) := by
  unfold f_X4_leaveMachine f_X4_leaveMachine_b48
  by_cases c : f_X4_previousPrivilege u = 3
  · rw [if_pos c, if_pos c, put_st, put_st, put_st, has_st, sL_sL, sL_sL]
    rfl
  · rw [if_neg c, if_neg c, put_st, put_st, put_st, put_st, has_st, sL_sL, sL_sL, sL_sL]
    rfl
theorem lS_st (u : St) : f_X4_leaveSupervisor u = (hs (gL u 4) 256, sL u 4 (pf (pf (pf (pf (gL u 4) 2 (hs (gL u 4) 32)) 32 1) 256 0) 131072 0)) := by
  unfold f_X4_leaveSupervisor f_X4_leaveSupervisor_b15
  rw [has_st]
  by_cases c : hs (gL u 4) 256 = 0
  · rw [if_pos c, c, put_st, put_st, put_st, put_st, has_st, sL_sL, sL_sL, sL_sL]
    rfl
  · have c2 : hs (gL u 4) 256 = 1 := by
      unfold hs at c ⊢
      split
      · rename_i q
        rw [if_pos q] at c
        exact absurd rfl c
      · rfl
    rw [if_neg c, c2, put_st, put_st, put_st, put_st, has_st, sL_sL, sL_sL, sL_sL]
    rfl
theorem hs_01 (s b : Int64) : hs s b = 0 ∨ hs s b = 1 := by
  unfold hs
  split
  · exact Or.inl rfl
  · exact Or.inr rfl
theorem mret_go {a u : St} (h : Mid a u) : Out (f_X1_endReservation (sI ((f_X4_leaveMachine (sL a 25 (gL a 15))).2) 16 ((f_X4_leaveMachine (sL a 25 (gL a 15))).1))) (if (f_X12_cut (gL u 4) (12 : Int32) (11 : Int32)).toInt32 = (3 : Int32) then (f_X12_calls_b178 ((f_X12_cut (gL u 4) (12 : Int32) (11 : Int32)).toInt32) (sL (f_X12_turn (7 : Int32) (1 : Int32) (f_X12_turn (3 : Int32) (f_X12_is (7 : Int32) (sL u 25 (gL u 11))) (sL u 25 (gL u 11)))) 4 ((gL (f_X12_turn (7 : Int32) (1 : Int32) (f_X12_turn (3 : Int32) (f_X12_is (7 : Int32) (sL u 25 (gL u 11))) (sL u 25 (gL u 11)))) 4) &&& (-6145 : Int64)))) else (f_X12_calls_b178 ((f_X12_cut (gL u 4) (12 : Int32) (11 : Int32)).toInt32) (f_X12_turn (17 : Int32) (0 : Int32) (sL (f_X12_turn (7 : Int32) (1 : Int32) (f_X12_turn (3 : Int32) (f_X12_is (7 : Int32) (sL u 25 (gL u 11))) (sL u 25 (gL u 11)))) 4 ((gL (f_X12_turn (7 : Int32) (1 : Int32) (f_X12_turn (3 : Int32) (f_X12_is (7 : Int32) (sL u 25 (gL u 11))) (sL u 25 (gL u 11)))) 4) &&& (-6145 : Int64)))))) := by
  obtain ⟨⟨v0, v1, v2, v3, v4, v5, v6, v7⟩, -⟩ := h.1.inv
  have h4 : gL u 4 = gL a 4 := h.1.longs.2.2.1
  have h11 : gL u 11 = gL a 15 := h.1.longs.2.2.2.2.2.2.2.2.2.2.2.2.2.1
  have m := mpp_v _ v4
  have e7 : j_lshl 1 7 = 128 := by decide
  have e3 : j_lshl 1 3 = 8 := by decide
  have e17 : j_lshl 1 17 = 131072 := by decide
  have ep : ∀ x, pf x 6144 0 = x &&& -6145 := fun x => by
    unfold pf
    rw [if_pos rfl, show (6144 : Int64) ^^^ -1 = -6145 by decide]
  have ok1 : ∀ x, x &&& 8264106 = x → pf (pf (pf x 8 (hs x 128)) 128 1) 6144 0 &&& 8264106 = pf (pf (pf x 8 (hs x 128)) 128 1) 6144 0 := fun x q => pf_ok _ (pf_ok _ (pf_ok _ q (by decide)) (by decide)) (by decide)
  have z1 : ∀ x, pf x 6144 0 &&& 6144 = 0 := fun x => by
    rw [ep, Int64.and_assoc]
    exact Int64.and_zero
  rw [lM_st]
  unfold f_X12_calls_b178
  simp only [turn_st, is_7, gI_sI, gI_sL, gI_sA, gI_sB, gI_sR, gL_sI, gL_sL, gL_sA, gL_sB, gL_sR, gA_sI, gA_sL, gA_sA, gA_sB, gA_sR, gB_sI, gB_sL, gB_sA, gB_sB, gB_sR, gN_sI, gN_sL, gN_sA, gN_sB, gN_sR, sL_sL, e7, e3, e17, cut_12_11, h4, h11, f_X4_previousPrivilege]
  simp only [show ¬ (4 : Nat) = 25 by decide, show ¬ (25 : Nat) = 4 by decide, if_false, if_true, ← ep]
  by_cases c : (j_lshr (gL a 4 &&& 6144) 11).toInt32 = 3
  · rw [if_pos c, if_pos c]
    refine ⟨(((h.1.nx _ _).L4 _ (ok1 _ v3) (by rw [z1]; decide)).I16 _ m).endRes, Or.inl ⟨h.2.1, h.2.2.1, rfl, v1⟩, h.z⟩
  · rw [if_neg c, if_neg c]
    refine ⟨(((h.1.nx _ _).L4 _ (pf_ok _ (ok1 _ v3) (by decide)) (by rw [pf_z _ (by decide), z1]; decide)).I16 _ m).endRes, Or.inl ⟨h.2.1, h.2.2.1, rfl, v1⟩, h.z⟩
theorem sret_go {a u : St} (h : Mid a u) : Out (f_X6_returnFromSupervisor_b33 a) (f_X12_calls_b225 u) := by
  obtain ⟨⟨v0, v1, v2, v3, v4, v5, v6, v7⟩, -⟩ := h.1.inv
  have h4 : gL u 4 = gL a 4 := h.1.longs.2.2.1
  have h20 : gL u 20 = gL a 21 := h.1.longs.2.2.2.2.2.2.2.2.2.2.2.2.2.2.2.2.2.2.2.1
  have e1 : j_lshl 1 1 = 2 := by decide
  have e5 : j_lshl 1 5 = 32 := by decide
  have e8 : j_lshl 1 8 = 256 := by decide
  have e17 : j_lshl 1 17 = 131072 := by decide
  have pr : hs (gL a 4) 256 = 0 ∨ hs (gL a 4) 256 = 1 ∨ hs (gL a 4) 256 = 3 := by
    rcases hs_01 (gL a 4) 256 with q | q
    · exact Or.inl q
    · exact Or.inr (Or.inl q)
  have fin : f_X12_calls_b225 u = sI (sL (sI (sL u 25 (gL a 21)) 2 (hs (gL a 4) 256)) 4 (pf (pf (pf (pf (gL a 4) 2 (hs (gL a 4) 32)) 32 1) 256 0) 131072 0)) 3 0 := by
    unfold f_X12_calls_b225 f_X12_calls_b248
    simp only [turn_st, is_8, is_5, gI_sI, gI_sL, gI_sA, gI_sB, gI_sR, gL_sI, gL_sL, gL_sA, gL_sB, gL_sR, gA_sI, gA_sL, gA_sA, gA_sB, gA_sR, gB_sI, gB_sL, gB_sA, gB_sB, gB_sR, gN_sI, gN_sL, gN_sA, gN_sB, gN_sR, sL_sL, e1, e5, e8, e17, h4, h20]
    simp only [show ¬ (4 : Nat) = 25 by decide, show ¬ (25 : Nat) = 4 by decide, if_false, if_true]
    rcases hs_01 (gL a 4) 256 with q | q
    · rw [q, if_pos rfl]
    · rw [q, if_neg n10]
  unfold f_X6_returnFromSupervisor_b33
  rw [lS_st, fin]
  refine ⟨(((h.1.nx _ _).I16 _ pr).L4 _ ?_ ?_).endRes, Or.inl ⟨h.2.1, h.2.2.1, rfl, v2⟩, h.z⟩
  · exact pf_ok _ (pf_ok _ (pf_ok _ (pf_ok _ v3 (by decide)) (by decide)) (by decide)) (by decide)
  · rw [pf_z _ (by decide), pf_z _ (by decide), pf_z _ (by decide), pf_z _ (by decide)]
    exact v4
theorem nu_go {a u : St} (h : Mid a u) (b : Int64) (k : Int32) (hk : f_X12_is k u = hs (gL u 4) b) : Out (f_X6_nothingUnless b a) (if (gI u 2) = (0 : Int32) then f_X12_illegal u else (if (gI u 2) = (1 : Int32) then (if (f_X12_is k u) = (0 : Int32) then u else f_X12_illegal u) else u)) := by
  have h4 : gL u 4 = gL a 4 := h.1.longs.2.2.1
  have i2 : gI u 2 = gI a 16 := h.1.ints.1
  unfold f_X6_nothingUnless f_X6_nothingUnless_b26
  rw [hk, i2, h4, has_st]
  split
  · exact h.ill
  · split
    · split
      · exact h.out
      · exact h.ill
    · exact h.out
theorem x_system {a u : St} (h : Mid a u) (w : Int32) : Ex1 (some (f_X6_system w a)) (some (f_X12_calls (w.toInt64 &&& 4294967295) u)) a := by
  have i2 : gI u 2 = gI a 16 := h.1.ints.1
  have h0 : gL u 0 = gL a 24 := h.1.longs.2.2.2.2.2.2.2.2.2.2.2.2.2.2.2.2.2.2.2.2.2.2
  have h4 : gL u 4 = gL a 4 := h.1.longs.2.2.1
  obtain ⟨⟨v0, v1, v2, v3, v4, v5, v6, v7⟩, -⟩ := h.1.inv
  have gn : gN (f_X6_system w a) = gN a := by
    unfold f_X6_system f_X6_system_b132 f_X6_nothingUnless f_X6_nothingUnless_b26 f_X6_returnFromMachine f_X6_returnFromSupervisor f_X6_returnFromSupervisor_b28 f_X6_returnFromSupervisor_b33
    rw [lM_st, lS_st]
    repeat' (first | exact rfl | apply ite_N)
  suffices hh : Out (f_X6_system w a) (f_X12_calls (w.toInt64 &&& 4294967295) u) from ⟨_, _, rfl, rfl, hh, gn⟩
  have w1 : ((w.toInt64 &&& 4294967295) = 115) ↔ w = 115 := W_eq w 115
  have w2 : ((w.toInt64 &&& 4294967295) = 1048691) ↔ w = 1048691 := W_eq w 1048691
  have w3 : ((w.toInt64 &&& 4294967295) = 270532723) ↔ w = 270532723 := W_eq w 270532723
  have w4 : ((w.toInt64 &&& 4294967295) = 273678451) ↔ w = 273678451 := W_eq w 273678451
  have w5 : ((w.toInt64 &&& 4294967295) = 807403635) ↔ w = 807403635 := W_eq w 807403635
  have g9 : (f_X12_cut (w.toInt64 &&& 4294967295) 31 25 = 9) ↔ j_iushr w 25 = 9 := by rw [fl_g]; exact toL_inj _ 9
  have r0 : (f_X12_cut (w.toInt64 &&& 4294967295) 11 7 = 0) ↔ (w >>> ((7 : Int32) &&& 31)) &&& 31 = 0 := by rw [fl_rdl]; exact toL_inj _ 0
  have ill := h.ill
  by_cases c1 : w = 115
  · subst c1
    show Out (f_X6_fail (8 + gI a 16) 0 a) (if (gI u 2) = (0 : Int32) then (f_X12_calls_b70 (8 : Int32) u) else (if (gI u 2) = (1 : Int32) then (f_X12_calls_b70 (9 : Int32) u) else (f_X12_calls_b70 (11 : Int32) u)))
    rw [i2]
    rcases v7 with q | q | q
    · rw [q]; exact Out.fail (c := 8) h.1 h.z (by omega) 0
    · rw [q]; exact Out.fail (c := 9) h.1 h.z (by omega) 0
    · rw [q]; exact Out.fail (c := 11) h.1 h.z (by omega) 0
  by_cases c2 : w = 1048691
  · subst c2
    show Out (f_X6_fail 3 (gL a 24) a) (f_X12_fail 3 (gL u 0) u)
    rw [h0]
    exact Out.fail (c := 3) h.1 h.z (by omega) _
  by_cases c3 : w = 270532723
  · subst c3
    show Out (f_X6_returnFromSupervisor a) (if (gI u 2) = (3 : Int32) then (f_X12_calls_b225 u) else (if (gI u 2) = (1 : Int32) then (if (f_X12_is (22 : Int32) u) = (0 : Int32) then (f_X12_calls_b225 u) else f_X12_illegal u) else f_X12_illegal u))
    unfold f_X6_returnFromSupervisor f_X6_returnFromSupervisor_b28
    rw [is_22, i2, h4, has_st]
    rcases v7 with q | q | q
    · rw [q]; exact ill
    · rw [q]
      show Out (if hs (gL a 4) 4194304 = 0 then _ else _) (if hs (gL a 4) 4194304 = 0 then _ else _)
      split
      · exact sret_go h
      · exact ill
    · rw [q]; exact sret_go h
  by_cases c4 : w = 273678451
  · subst c4
    exact nu_go h 2097152 21 (is_21 u)
  by_cases c5 : w = 807403635
  · subst c5
    show Out (f_X6_returnFromMachine a) (if (gI u 2) = (3 : Int32) then _ else f_X12_illegal u)
    unfold f_X6_returnFromMachine
    rw [i2]
    by_cases q : gI a 16 = 3
    · rw [if_pos q, if_pos q]
      exact mret_go h
    · rw [if_neg q, if_neg q]
      exact ill
  · unfold f_X6_system f_X6_system_b132
    rw [if_neg c1, if_neg c2, if_neg c3, if_neg c4, if_neg c5]
    have hc : ∀ s, f_X12_calls_b33 (w.toInt64 &&& 4294967295) s u = (if s = (0 : Int32) then f_X12_illegal u else (if (gI u 2) = (0 : Int32) then f_X12_illegal u else (if (gI u 2) = (1 : Int32) then (if (f_X12_is 20 u) = (0 : Int32) then u else f_X12_illegal u) else u))) := by
      intro s
      unfold f_X12_calls_b33 f_X12_calls_b192 f_X12_calls_b289 f_X12_calls_b356
      rw [if_neg (fun q => c1 (w1.mp q)), if_neg (fun q => c2 (w2.mp q)), if_neg (fun q => c5 (w5.mp q)), if_neg (fun q => c3 (w3.mp q)), if_neg (fun q => c4 (w4.mp q))]
    unfold f_X12_calls f_X12_calls_b32
    rw [hc, hc]
    by_cases g : j_iushr w 25 = 9
    · rw [if_pos g, if_pos (g9.mpr g)]
      by_cases r : (w >>> ((7 : Int32) &&& 31)) &&& 31 = 0
      · rw [if_pos r, if_pos (r0.mpr r), if_neg n10]
        exact nu_go h 1048576 20 (is_20 u)
      · rw [if_neg r, if_neg (fun q => r (r0.mp q)), if_pos rfl]
        exact ill
    · rw [if_neg g, if_neg (fun q => g (g9.mp q)), if_pos rfl]
      exact ill
theorem kn_cases (n : Int32) (hn : n ∈ [(256 : Int32), (260 : Int32), (261 : Int32), (262 : Int32), (320 : Int32), (321 : Int32), (322 : Int32), (323 : Int32), (324 : Int32), (384 : Int32), (768 : Int32), (769 : Int32), (770 : Int32), (771 : Int32), (772 : Int32), (773 : Int32), (774 : Int32), (832 : Int32), (833 : Int32), (834 : Int32), (835 : Int32), (836 : Int32), (2816 : Int32), (2818 : Int32), (3072 : Int32), (3073 : Int32), (3074 : Int32), (3857 : Int32), (3858 : Int32), (3859 : Int32), (3860 : Int32)]) : n = 384 ∨ n = 3072 ∨ n = 3073 ∨ n = 3074 ∨ (¬ n = 384 ∧ (n < 3072 ∨ 3074 < n) ∧ f_X12_in n.toInt64 3072 3074 = 0) := by
  have k : ∀ n ∈ [(256 : Int32), (260 : Int32), (261 : Int32), (262 : Int32), (320 : Int32), (321 : Int32), (322 : Int32), (323 : Int32), (324 : Int32), (384 : Int32), (768 : Int32), (769 : Int32), (770 : Int32), (771 : Int32), (772 : Int32), (773 : Int32), (774 : Int32), (832 : Int32), (833 : Int32), (834 : Int32), (835 : Int32), (836 : Int32), (2816 : Int32), (2818 : Int32), (3072 : Int32), (3073 : Int32), (3074 : Int32), (3857 : Int32), (3858 : Int32), (3859 : Int32), (3860 : Int32)], n = 384 ∨ n = 3072 ∨ n = 3073 ∨ n = 3074 ∨ (¬ n = 384 ∧ (n < 3072 ∨ 3074 < n) ∧ f_X12_in n.toInt64 3072 3074 = 0) := by decide
  exact k n hn
theorem co_eq {a u : St} (h : Rel a u) (k : Nat) (hk : k < 3) : f_X4_counterIsOpen (j_lshl (1 : Int64) (nI k)) (gI a 16) a &&& 1 = f_X4_counterIsOpen (j_lshl (1 : Int64) (nI k)) (gI a 16) a ∧ (if (gI a 16) = (3 : Int32) then (some (1 : Int32)) else (if ((j_lshr (gL u 9) (nI k)) &&& (1 : Int64)) = (1 : Int64) then (if (1 : Int32) = (0 : Int32) then (some (0 : Int32)) else (if (gI a 16) = (1 : Int32) then (some (1 : Int32)) else (if ((j_lshr (gL u 18) (nI k)) &&& (1 : Int64)) = (1 : Int64) then (some (1 : Int32)) else (some (0 : Int32))))) else (if (0 : Int32) = (0 : Int32) then (some (0 : Int32)) else (if (gI a 16) = (1 : Int32) then (some (1 : Int32)) else (if ((j_lshr (gL u 18) (nI k)) &&& (1 : Int64)) = (1 : Int64) then (some (1 : Int32)) else (some (0 : Int32))))))) = some (f_X4_counterIsOpen (j_lshl (1 : Int64) (nI k)) (gI a 16) a) := by
  have h9 : gL u 9 = gL a 13 := h.longs.2.2.2.2.2.2.2.2.2.2.2.1
  have h18 : gL u 18 = gL a 19 := h.longs.2.2.2.2.2.2.2.2.2.2.2.2.2.2.2.2.2.1
  have key : ∀ x : Int64, ((j_lshr x (nI k)) &&& (1 : Int64)) = (1 : Int64) ↔ ¬ (x &&& j_lshl 1 (nI k)) = 0 := by
    intro x
    rw [bsh, ts_s]
    cases qb x (sh6 (nI k)) <;> simp
  rw [h9, h18]
  unfold f_X4_counterIsOpen f_X4_counterIsOpen_b26 f_X4_counterIsOpen_b52 f_X4_counterIsOpen_b56
  by_cases p3 : gI a 16 = 3
  · simp [p3]
  · by_cases q : (gL a 13 &&& j_lshl 1 (nI k)) = 0
    · have q1 : ¬ ((j_lshr (gL a 13) (nI k)) &&& (1 : Int64)) = (1 : Int64) := fun z => (key _).mp z q
      simp [p3, q, q1]
    · have q1 := (key (gL a 13)).mpr q
      by_cases p1 : gI a 16 = 1
      · simp [p1, q, q1]
      · by_cases r : (gL a 19 &&& j_lshl 1 (nI k)) = 0
        · have r1 : ¬ ((j_lshr (gL a 19) (nI k)) &&& (1 : Int64)) = (1 : Int64) := fun z => (key _).mp z r
          simp [p3, p1, q, q1, r, r1]
        · have r1 := (key (gL a 19)).mpr r
          simp [p3, p1, q, q1, r, r1]
theorem rel_allows {a u : St} (h : Rel a u) (n s : Int32) : ∃ r, f_X4_allows n (gI a 16) s a = some r ∧ f_X12_mayControl n s u = some r ∧ (r = 0 ∨ n ∈ [(256 : Int32), (260 : Int32), (261 : Int32), (262 : Int32), (320 : Int32), (321 : Int32), (322 : Int32), (323 : Int32), (324 : Int32), (384 : Int32), (768 : Int32), (769 : Int32), (770 : Int32), (771 : Int32), (772 : Int32), (773 : Int32), (774 : Int32), (832 : Int32), (833 : Int32), (834 : Int32), (835 : Int32), (836 : Int32), (2816 : Int32), (2818 : Int32), (3072 : Int32), (3073 : Int32), (3074 : Int32), (3857 : Int32), (3858 : Int32), (3859 : Int32), (3860 : Int32)]) := by
  have i2 : gI u 2 = gI a 16 := h.ints.1
  have h4 : gL u 4 = gL a 4 := h.longs.2.2.1
  obtain ⟨k1, k2⟩ := known n
  unfold f_X4_allows f_X12_mayControl f_X4_allows_b29 f_X12_mayControl_b32
  rw [k1, Option.bind_some, i2]
  rcases k2 with k | ⟨k, hn⟩
  · rw [k, if_pos rfl, if_pos rfl]
    exact ⟨0, rfl, rfl, Or.inl rfl⟩
  · rw [k, if_neg n10, if_neg n10]
    have main : ∃ r, f_X4_allows_b31 n (gI a 16) a = some r ∧ f_X12_mayControl_b34 n u = some r ∧ (r = 0 ∨ n ∈ [(256 : Int32), (260 : Int32), (261 : Int32), (262 : Int32), (320 : Int32), (321 : Int32), (322 : Int32), (323 : Int32), (324 : Int32), (384 : Int32), (768 : Int32), (769 : Int32), (770 : Int32), (771 : Int32), (772 : Int32), (773 : Int32), (774 : Int32), (832 : Int32), (833 : Int32), (834 : Int32), (835 : Int32), (836 : Int32), (2816 : Int32), (2818 : Int32), (3072 : Int32), (3073 : Int32), (3074 : Int32), (3857 : Int32), (3858 : Int32), (3859 : Int32), (3860 : Int32)]) := by
      unfold f_X4_allows_b31 f_X12_mayControl_b34 f_X12_mayControl_b60 f_X4_allows_b53 f_X4_allows_b86 f_X12_mayControl_b82 f_X12_mayControl_b106 f_X12_mayControl_b136 f_X12_mayControl_b140
      rw [i2]
      rcases kn_cases n hn with c | c | c | c | ⟨c1, c2, c3⟩
      · subst c
        rw [if_pos rfl, if_pos rfl, is_20, h4, has_st]
        by_cases p : gI a 16 = 1
        · rw [if_pos p, if_pos p]
          split
          · exact ⟨1, rfl, rfl, Or.inr hn⟩
          · exact ⟨0, rfl, rfl, Or.inl rfl⟩
        · rw [if_neg p, if_neg p]
          exact ⟨1, rfl, rfl, Or.inr hn⟩
      · subst c
        obtain ⟨q1, q2⟩ := co_eq h 0 (by omega)
        refine ⟨f_X4_counterIsOpen (j_lshl (1 : Int64) (nI 0)) (gI a 16) a, ?_, ?_, Or.inr hn⟩
        · show (if (f_X4_counterIsOpen (j_lshl (1 : Int64) (nI 0)) (gI a 16) a) &&& 1 = (f_X4_counterIsOpen (j_lshl (1 : Int64) (nI 0)) (gI a 16) a) then some (f_X4_counterIsOpen (j_lshl (1 : Int64) (nI 0)) (gI a 16) a) else none) = _
          rw [if_pos q1]
        · exact q2
      · subst c
        obtain ⟨q1, q2⟩ := co_eq h 1 (by omega)
        refine ⟨f_X4_counterIsOpen (j_lshl (1 : Int64) (nI 1)) (gI a 16) a, ?_, ?_, Or.inr hn⟩
        · show (if (f_X4_counterIsOpen (j_lshl (1 : Int64) (nI 1)) (gI a 16) a) &&& 1 = (f_X4_counterIsOpen (j_lshl (1 : Int64) (nI 1)) (gI a 16) a) then some (f_X4_counterIsOpen (j_lshl (1 : Int64) (nI 1)) (gI a 16) a) else none) = _
          rw [if_pos q1]
        · exact q2
      · subst c
        obtain ⟨q1, q2⟩ := co_eq h 2 (by omega)
        refine ⟨f_X4_counterIsOpen (j_lshl (1 : Int64) (nI 2)) (gI a 16) a, ?_, ?_, Or.inr hn⟩
        · show (if (f_X4_counterIsOpen (j_lshl (1 : Int64) (nI 2)) (gI a 16) a) &&& 1 = (f_X4_counterIsOpen (j_lshl (1 : Int64) (nI 2)) (gI a 16) a) then some (f_X4_counterIsOpen (j_lshl (1 : Int64) (nI 2)) (gI a 16) a) else none) = _
          rw [if_pos q1]
        · exact q2
      · rw [if_neg c1, if_neg c1, c3, if_pos rfl]
        refine ⟨1, ?_, rfl, Or.inr hn⟩
        rcases c2 with c2 | c2
        · rw [if_pos c2]
        · rw [if_neg (Int32.not_lt.mpr (Int32.le_of_lt (Int32.lt_trans (by decide) c2))), if_pos c2]
    by_cases c1 : gI a 16 < (n >>> ((8 : Int32) &&& 31)) &&& 3
    · rw [if_pos c1, if_pos c1]
      exact ⟨0, rfl, rfl, Or.inl rfl⟩
    · rw [if_neg c1, if_neg c1]
      by_cases c2 : s = 0
      · rw [if_pos c2, if_pos c2]
        exact main
      · rw [if_neg c2, if_neg c2]
        by_cases c3 : n >>> ((10 : Int32) &&& 31) = 3
        · rw [if_pos c3, if_pos c3]
          exact ⟨0, rfl, rfl, Or.inl rfl⟩
        · rw [if_neg c3, if_neg c3]
          exact main
theorem ite_L {p : Prop} [Decidable p] {x y : St} {k : Nat} {c : Int64} (hx : gL x k = c) (hy : gL y k = c) : gL (if p then x else y) k = c := by split <;> assumption
theorem wrC_25 (n : Int32) (v : Int64) (a : St) : gL (f_X4_write n v a) 25 = gL a 25 := by
  unfold f_X4_write f_X4_writeSatp f_X4_writeSatp_b19 f_X4_writeStatus f_X4_writeStatus_b20 f_X4_writeStatus_b40 f_X4_writeOfLevel f_X7_write_o16 f_X7_write_o17
  repeat' (first | exact rfl | apply ite_L)
theorem wrC_18 (n : Int32) (v : Int64) (a : St) : gI (f_X4_write n v a) 18 = gI a 18 := by
  unfold f_X4_write f_X4_writeSatp f_X4_writeSatp_b19 f_X4_writeStatus f_X4_writeStatus_b20 f_X4_writeStatus_b40 f_X4_writeOfLevel f_X7_write_o16 f_X7_write_o17
  repeat' (first | exact rfl | apply ite_I)
theorem wrM_25 (n : Int32) (v : Int64) (u : St) : gL (f_X12_writeControl n v u) 25 = gL u 25 := by
  unfold f_X12_writeControl f_X12_writeControl_b500 f_X12_writeControl_b508 f_X12_writeStatus f_X12_writeStatus_b36
  repeat' (first | exact rfl | apply ite_L)
theorem wrM_16 (n : Int32) (v : Int64) (u : St) : gI (f_X12_writeControl n v u) 16 = gI u 16 := by
  unfold f_X12_writeControl f_X12_writeControl_b500 f_X12_writeControl_b508 f_X12_writeStatus f_X12_writeStatus_b36
  repeat' (first | exact rfl | apply ite_I)
theorem cw_core {a u : St} (h : Mid a u) (w n : Int32) (v old : Int64) (hn : n ∈ [(256 : Int32), (260 : Int32), (261 : Int32), (262 : Int32), (320 : Int32), (321 : Int32), (322 : Int32), (323 : Int32), (324 : Int32), (384 : Int32), (768 : Int32), (769 : Int32), (770 : Int32), (771 : Int32), (772 : Int32), (773 : Int32), (774 : Int32), (832 : Int32), (833 : Int32), (834 : Int32), (835 : Int32), (836 : Int32), (2816 : Int32), (2818 : Int32), (3072 : Int32), (3073 : Int32), (3074 : Int32), (3857 : Int32), (3858 : Int32), (3859 : Int32), (3860 : Int32)]) : Ex1 (f_X6_putRd w old (f_X4_write n v a)) (f_X12_gives (w.toInt64 &&& 4294967295) old (f_X12_writeControl n v u)) a := by
  have r := rel_write h.1 v n hn
  have o1 : gI (f_X4_write n v a) 18 = -1 := by rw [wrC_18]; exact h.2.1
  have o2 : gI (f_X12_writeControl n v u) 16 = -1 := by rw [wrM_16]; exact h.2.2.1
  have o3 : gL (f_X12_writeControl n v u) 25 = gL (f_X4_write n v a) 25 := by rw [wrC_25, wrM_25]; exact h.2.2.2.1
  have o4 : gL (f_X4_write n v a) 25 &&& 1 = 0 := by rw [wrC_25]; exact h.2.2.2.2.1
  have o5 : gI (f_X12_writeControl n v u) 0 = 0 := by rw [wr_0]; exact h.z
  rcases rd_put r w old with ⟨e1, e2⟩ | ⟨k, e1, e2⟩
  · exact ⟨_, _, e1, e2, ⟨r, Or.inl ⟨o1, o2, o3, o4⟩, o5⟩, wr_N n v a⟩
  · exact ⟨_, _, e1, e2, ⟨r.B1 k old, Or.inl ⟨o1, o2, o3, o4⟩, o5⟩, wr_N n v a⟩
theorem r5 (w : Int32) : ((w >>> ((15 : Int32) &&& 31)) &&& 31 ≤ 0) ↔ (w >>> ((15 : Int32) &&& 31)) &&& 31 = 0 := by
  obtain ⟨k, hk, e⟩ := pk_andE (w >>> ((15 : Int32) &&& 31)) (m := 31) 5 rfl
  rw [e, show (0 : Int32) = nI 0 from rfl, nI_leI (by omega) (by omega), nI_eq (by omega) (by omega)]
  omega
theorem x_csr {a u : St} (h : Mid a u) (w : Int32) (A : Int64) (hA : f_X6_a w a = some A) (hf : ¬ f_X6_f w = 0) : Ex1 (f_X6_controlInstruction w a) (f_X12_systems (w.toInt64 &&& 4294967295) (f_X6_f w) A u) a := by
  have main : ∀ (F how s : Int32) (X : Int64), F = f_X6_f w → ¬ F = 4 → ¬ how = 0 → (how = 1 ↔ F - F / 4 * 4 = 1) → (how = 2 ↔ F - F / 4 * 4 = 2) → (s = 0 ∨ s = 1) → X = (if F ≤ 3 then A else ((w >>> ((15 : Int32) &&& 31)) &&& 31).toInt64) → (F ≤ 4 ↔ F ≤ 3) → Ex1 (f_X6_controlInstruction_b36 w how (j_iushr w 20) ((w >>> ((15 : Int32) &&& 31)) &&& 31) s a) (f_X12_systems_b52 (w.toInt64 &&& 4294967295) F A (j_iushr w 20) ((w >>> ((15 : Int32) &&& 31)) &&& 31) s u) a := by
    intro F how s X hF h4 h0 h1 h2 hs hX h34
    unfold f_X6_controlInstruction_b36 f_X12_systems_b52 f_X6_controlInstruction_b59 f_X12_systems_b70
    rw [if_neg h0, if_neg h4, ← hF]
    obtain ⟨r, e1, e2, e3⟩ := rel_allows h.1 (j_iushr w 20) s
    rw [e1, e2, Option.bind_some, Option.bind_some]
    by_cases rz : r = 0
    · rw [if_pos rz, if_pos rz]
      exact h.illx
    · rw [if_neg rz, if_neg rz]
      have hn := e3.resolve_left rz
      obtain ⟨old, ho⟩ := rel_readT h.1 (j_iushr w 20)
      have hr := rel_read h.1 _ hn
      rw [ho, Option.bind_some]
      have fin : Ex1 (f_X6_controlInstruction_b83 w how (j_iushr w 20) s X a) (f_X12_systems_b96 (w.toInt64 &&& 4294967295) F (j_iushr w 20) s old X u) a := by
        unfold f_X6_controlInstruction_b83 f_X12_systems_b96 f_X6_controlInstruction_b137 f_X12_systems_b142 f_X6_controlInstruction_b140 f_X12_systems_b145
        rw [hr, ho, Option.bind_some]
        simp only [bs]
        by_cases s0 : s = 0
        · rw [if_pos s0, if_pos s0]
          exact h.val w old
        · rw [if_neg s0, if_neg s0]
          by_cases q1 : how = 1
          · rw [if_pos q1, if_pos (h1.mp q1)]
            exact cw_core h w _ _ _ hn
          · rw [if_neg q1, if_neg (fun q => q1 (h1.mpr q))]
            by_cases q2 : how = 2
            · rw [if_pos q2, if_pos (h2.mp q2)]
              exact cw_core h w _ _ _ hn
            · rw [if_neg q2, if_neg (fun q => q2 (h2.mpr q))]
              exact cw_core h w _ _ _ hn
      by_cases q : F ≤ 3
      · rw [if_pos q, if_pos (h34.mpr q), hA, Option.bind_some]
        rw [if_pos q] at hX
        rw [← hX]
        exact fin
      · rw [if_neg q, if_neg (fun z => q (h34.mp z))]
        rw [if_neg q] at hX
        rw [← hX]
        exact fin
  have ill4 : f_X6_f w = 4 → Ex1 (f_X6_controlInstruction w a) (f_X12_systems (w.toInt64 &&& 4294967295) (f_X6_f w) A u) a := by
    intro f
    have e1 : f_X6_controlInstruction w a = some (f_X6_illegal a) := by
      unfold f_X6_controlInstruction f_X6_controlInstruction_b31 f_X6_controlInstruction_b36 f_X6_controlInstruction_b59
      rw [f, if_neg (show ¬ (4 : Int32) &&& 3 = 1 by decide)]
      split <;> rw [if_pos (show (4 : Int32) &&& 3 = 0 by decide)]
    have e2 : f_X12_systems (w.toInt64 &&& 4294967295) (f_X6_f w) A u = some (f_X12_illegal u) := by
      unfold f_X12_systems f_X12_systems_b47 f_X12_systems_b52 f_X12_systems_b70
      rw [f, if_neg (show ¬ (4 : Int32) = 0 by decide), if_neg (show ¬ (4 : Int32) = 1 by decide), if_neg (show ¬ (4 : Int32) = 5 by decide)]
      split <;> rw [if_pos rfl]
    rw [e1, e2]
    exact h.illx
  have go : ∀ F how : Int32, f_X6_f w = F → F &&& 3 = how → ¬ F = 0 → ¬ F = 4 → ¬ how = 0 → (how = 1 ↔ F - F / 4 * 4 = 1) → (how = 2 ↔ F - F / 4 * 4 = 2) → (how = 1 ↔ (F = 1 ∨ F = 5)) → (F ≤ 4 ↔ F ≤ 3) → Ex1 (f_X6_controlInstruction w a) (f_X12_systems (w.toInt64 &&& 4294967295) (f_X6_f w) A u) a := by
    intro F how f hh f0 f4 h0 h1 h2 h15 h34
    unfold f_X6_controlInstruction f_X12_systems f_X6_controlInstruction_b31 f_X12_systems_b47
    rw [f, hh, if_neg f0, fl_n, fl_r1]
    have one := main F how 1 _ f.symm f4 h0 h1 h2 (Or.inr rfl) rfl h34
    have zero := main F how 0 _ f.symm f4 h0 h1 h2 (Or.inl rfl) rfl h34
    by_cases q : how = 1
    · rw [if_pos q]
      rcases h15.mp q with z | z
      · rw [if_pos z]; exact one
      · by_cases z1 : F = 1
        · rw [if_pos z1]; exact one
        · rw [if_neg z1, if_pos z]; exact one
    · have z1 : ¬ F = 1 := fun z => q (h15.mpr (Or.inl z))
      have z5 : ¬ F = 5 := fun z => q (h15.mpr (Or.inr z))
      rw [if_neg q, if_neg z1, if_neg z5]
      by_cases r : (w >>> ((15 : Int32) &&& 31)) &&& 31 = 0
      · rw [if_pos r, if_pos ((r5 w).mpr r)]; exact zero
      · rw [if_neg r, if_neg (fun z => r ((r5 w).mp z))]; exact one
  rcases f_8 w with f | f | f | f | f | f | f | f
  · exact absurd f hf
  · exact go 1 1 f (by decide) (by decide) (by decide) (by decide) (by decide) (by decide) (by decide) (by decide)
  · exact go 2 2 f (by decide) (by decide) (by decide) (by decide) (by decide) (by decide) (by decide) (by decide)
  · exact go 3 3 f (by decide) (by decide) (by decide) (by decide) (by decide) (by decide) (by decide) (by decide)
  · exact ill4 f
  · exact go 5 1 f (by decide) (by decide) (by decide) (by decide) (by decide) (by decide) (by decide) (by decide)
  · exact go 6 2 f (by decide) (by decide) (by decide) (by decide) (by decide) (by decide) (by decide) (by decide)
  · exact go 7 3 f (by decide) (by decide) (by decide) (by decide) (by decide) (by decide) (by decide) (by decide)

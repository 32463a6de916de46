theorem w_1656 : Cond.constantLong RL 78 (4294967295) ∈ gw := gw_t7 216 rfl rfl
theorem w_376 : Cond.methodLink RL 80 yL_feed ∈ gw := gw_t2 136 rfl rfl
theorem w_377 : Cond.static yL_feed ∈ gw := gw_t2 137 rfl rfl
theorem w_0 : Cond.initialized RL ∈ gw := gw_t1 0 rfl rfl
theorem w_378 : Cond.codeWith yL_feed cL_feed 6 (some .int) hh_feed ∈ gw := gw_t2 138 rfl rfl
theorem w_1290 : Cond.methodLink RL 83 yX12_feed ∈ gw := gw_t6 90 rfl rfl
theorem w_1291 : Cond.instanceMethod yX12_feed ∈ gw := gw_t6 91 rfl rfl
theorem w_1292 : Cond.selects RX12 yX12_feed yX12_feed ∈ gw := gw_t6 92 rfl rfl
theorem w_1293 : Cond.code yX12_feed cX12_feed 5 (some .int) ∈ gw := gw_t6 93 rfl rfl
theorem w_1248 : Cond.methodLink RL 84 yX12_thrown ∈ gw := gw_t6 48 rfl rfl
theorem w_1249 : Cond.instanceMethod yX12_thrown ∈ gw := gw_t6 49 rfl rfl
theorem w_1250 : Cond.selects RX12 yX12_thrown yX12_thrown ∈ gw := gw_t6 50 rfl rfl
theorem w_1251 : Cond.code yX12_thrown cX12_thrown 1 (some .int) ∈ gw := gw_t6 51 rfl rfl
theorem w_301 : Cond.methodLink RL 87 yX11_wipe ∈ gw := gw_t2 61 rfl rfl
theorem w_302 : Cond.instanceMethod yX11_wipe ∈ gw := gw_t2 62 rfl rfl
theorem w_303 : Cond.selects RX11 yX11_wipe yX11_wipe ∈ gw := gw_t2 63 rfl rfl
theorem w_304 : Cond.code yX11_wipe cX11_wipe 2 (some .int) ∈ gw := gw_t2 64 rfl rfl
theorem w_1298 : Cond.methodLink RL 90 yX12_wipe ∈ gw := gw_t6 98 rfl rfl
theorem w_1299 : Cond.instanceMethod yX12_wipe ∈ gw := gw_t6 99 rfl rfl
theorem w_1300 : Cond.selects RX12 yX12_wipe yX12_wipe ∈ gw := gw_t6 100 rfl rfl
theorem w_1301 : Cond.code yX12_wipe cX12_wipe 2 (some .int) ∈ gw := gw_t6 101 rfl rfl
theorem w_313 : Cond.methodLink RL 91 yX11_load ∈ gw := gw_t2 73 rfl rfl
theorem w_314 : Cond.instanceMethod yX11_load ∈ gw := gw_t2 74 rfl rfl
theorem w_315 : Cond.selects RX11 yX11_load yX11_load ∈ gw := gw_t2 75 rfl rfl
theorem w_316 : Cond.code yX11_load cX11_load 2 (some .int) ∈ gw := gw_t2 76 rfl rfl
theorem w_1252 : Cond.methodLink RL 94 yX12_load ∈ gw := gw_t6 52 rfl rfl
theorem w_1253 : Cond.instanceMethod yX12_load ∈ gw := gw_t6 53 rfl rfl
theorem w_1254 : Cond.selects RX12 yX12_load yX12_load ∈ gw := gw_t6 54 rfl rfl
theorem w_1255 : Cond.code yX12_load cX12_load 15 (some .int) ∈ gw := gw_t6 55 rfl rfl
theorem w_472 : Cond.methodLink RL 95 yL_type ∈ gw := gw_t2 232 rfl rfl
theorem w_473 : Cond.static yL_type ∈ gw := gw_t2 233 rfl rfl
theorem w_474 : Cond.codeWith yL_type cL_type 3 (some .int) hh_type ∈ gw := gw_t2 234 rfl rfl
theorem w_1302 : Cond.methodLink RL 98 yX12_type ∈ gw := gw_t6 102 rfl rfl
theorem w_1303 : Cond.instanceMethod yX12_type ∈ gw := gw_t6 103 rfl rfl
theorem w_1304 : Cond.selects RX12 yX12_type yX12_type ∈ gw := gw_t6 104 rfl rfl
theorem w_1305 : Cond.code yX12_type cX12_type 2 (some .int) ∈ gw := gw_t6 105 rfl rfl
theorem w_493 : Cond.methodLink RL 99 yL_poke ∈ gw := gw_t3 13 rfl rfl
theorem w_494 : Cond.static yL_poke ∈ gw := gw_t3 14 rfl rfl
theorem w_495 : Cond.codeWith yL_poke cL_poke 7 (some .int) hh_poke ∈ gw := gw_t3 15 rfl rfl
theorem w_1310 : Cond.methodLink RL 102 yX12_poke ∈ gw := gw_t6 110 rfl rfl
theorem w_1311 : Cond.instanceMethod yX12_poke ∈ gw := gw_t6 111 rfl rfl
theorem w_1312 : Cond.selects RX12 yX12_poke yX12_poke ∈ gw := gw_t6 112 rfl rfl
theorem w_1313 : Cond.code yX12_poke cX12_poke 6 (none) ∈ gw := gw_t6 113 rfl rfl
theorem w_517 : Cond.methodLink RL 103 yL_peek ∈ gw := gw_t3 37 rfl rfl
theorem w_518 : Cond.static yL_peek ∈ gw := gw_t3 38 rfl rfl
theorem w_519 : Cond.codeWith yL_peek cL_peek 5 (some .int) hh_peek ∈ gw := gw_t3 39 rfl rfl
theorem w_1318 : Cond.methodLink RL 106 yX12_peek ∈ gw := gw_t6 118 rfl rfl
theorem w_1319 : Cond.instanceMethod yX12_peek ∈ gw := gw_t6 119 rfl rfl
theorem w_1320 : Cond.selects RX12 yX12_peek yX12_peek ∈ gw := gw_t6 120 rfl rfl
theorem w_1321 : Cond.code yX12_peek cX12_peek 3 (some .long) ∈ gw := gw_t6 121 rfl rfl
theorem w_528 : Cond.methodLink RL 107 yL_set ∈ gw := gw_t3 48 rfl rfl
theorem w_529 : Cond.static yL_set ∈ gw := gw_t3 49 rfl rfl
theorem w_530 : Cond.codeWith yL_set cL_set 5 (some .int) hh_set ∈ gw := gw_t3 50 rfl rfl
theorem w_1326 : Cond.methodLink RL 110 yX12_set ∈ gw := gw_t6 126 rfl rfl
theorem w_1327 : Cond.instanceMethod yX12_set ∈ gw := gw_t6 127 rfl rfl
theorem w_1328 : Cond.selects RX12 yX12_set yX12_set ∈ gw := gw_t6 128 rfl rfl
theorem w_1329 : Cond.code yX12_set cX12_set 4 (none) ∈ gw := gw_t6 129 rfl rfl
theorem w_537 : Cond.methodLink RL 111 yL_get ∈ gw := gw_t3 57 rfl rfl
theorem w_538 : Cond.static yL_get ∈ gw := gw_t3 58 rfl rfl
theorem w_539 : Cond.codeWith yL_get cL_get 4 (some .int) hh_get ∈ gw := gw_t3 59 rfl rfl
theorem w_1331 : Cond.methodLink RL 114 yX12_get ∈ gw := gw_t6 131 rfl rfl
theorem w_1332 : Cond.instanceMethod yX12_get ∈ gw := gw_t6 132 rfl rfl
theorem w_1333 : Cond.selects RX12 yX12_get yX12_get ∈ gw := gw_t6 133 rfl rfl
theorem w_1334 : Cond.code yX12_get cX12_get 2 (some .long) ∈ gw := gw_t6 134 rfl rfl
theorem w_544 : Cond.methodLink RL 115 yL_lower ∈ gw := gw_t3 64 rfl rfl
theorem w_545 : Cond.static yL_lower ∈ gw := gw_t3 65 rfl rfl
theorem w_546 : Cond.codeWith yL_lower cL_lower 3 (some .int) hh_lower ∈ gw := gw_t3 66 rfl rfl
theorem w_1335 : Cond.methodLink RL 118 yX12_lower ∈ gw := gw_t6 135 rfl rfl
theorem w_1336 : Cond.instanceMethod yX12_lower ∈ gw := gw_t6 136 rfl rfl
theorem w_1337 : Cond.selects RX12 yX12_lower yX12_lower ∈ gw := gw_t6 137 rfl rfl
theorem w_1338 : Cond.code yX12_lower cX12_lower 2 (none) ∈ gw := gw_t6 138 rfl rfl
theorem w_552 : Cond.methodLink RL 119 yL_control ∈ gw := gw_t3 72 rfl rfl
theorem w_553 : Cond.static yL_control ∈ gw := gw_t3 73 rfl rfl
theorem w_554 : Cond.codeWith yL_control cL_control 4 (some .int) hh_control ∈ gw := gw_t3 74 rfl rfl
theorem w_1339 : Cond.methodLink RL 121 yX12_control ∈ gw := gw_t6 139 rfl rfl
theorem w_1340 : Cond.instanceMethod yX12_control ∈ gw := gw_t6 140 rfl rfl
theorem w_1341 : Cond.selects RX12 yX12_control yX12_control ∈ gw := gw_t6 141 rfl rfl
theorem w_1342 : Cond.code yX12_control cX12_control 2 (some .long) ∈ gw := gw_t6 142 rfl rfl
theorem w_591 : Cond.methodLink RL 122 yL_order ∈ gw := gw_t3 111 rfl rfl
theorem w_592 : Cond.static yL_order ∈ gw := gw_t3 112 rfl rfl
theorem w_593 : Cond.codeWith yL_order cL_order 5 (some .int) hh_order ∈ gw := gw_t3 113 rfl rfl
theorem w_1371 : Cond.methodLink RL 124 yX12_order ∈ gw := gw_t6 171 rfl rfl
theorem w_1372 : Cond.instanceMethod yX12_order ∈ gw := gw_t6 172 rfl rfl
theorem w_1373 : Cond.selects RX12 yX12_order yX12_order ∈ gw := gw_t6 173 rfl rfl
theorem w_1374 : Cond.code yX12_order cX12_order 4 (none) ∈ gw := gw_t6 174 rfl rfl
theorem w_633 : Cond.methodLink RL 125 yL_raise ∈ gw := gw_t3 153 rfl rfl
theorem w_634 : Cond.static yL_raise ∈ gw := gw_t3 154 rfl rfl
theorem w_635 : Cond.codeWith yL_raise cL_raise 4 (some .int) hh_raise ∈ gw := gw_t3 155 rfl rfl
theorem w_1395 : Cond.methodLink RL 128 yX12_raise ∈ gw := gw_t6 195 rfl rfl
theorem w_1396 : Cond.instanceMethod yX12_raise ∈ gw := gw_t6 196 rfl rfl
theorem w_1397 : Cond.selects RX12 yX12_raise yX12_raise ∈ gw := gw_t6 197 rfl rfl
theorem w_1398 : Cond.code yX12_raise cX12_raise 3 (none) ∈ gw := gw_t6 198 rfl rfl
theorem w_645 : Cond.methodLink RL 129 yL_step ∈ gw := gw_t3 165 rfl rfl
theorem w_646 : Cond.static yL_step ∈ gw := gw_t3 166 rfl rfl
theorem w_647 : Cond.codeWith yL_step cL_step 4 (some .int) hh_step ∈ gw := gw_t3 167 rfl rfl
theorem w_1399 : Cond.methodLink RL 131 yX12_step ∈ gw := gw_t6 199 rfl rfl
theorem w_1400 : Cond.instanceMethod yX12_step ∈ gw := gw_t6 200 rfl rfl
theorem w_1401 : Cond.selects RX12 yX12_step yX12_step ∈ gw := gw_t6 201 rfl rfl
theorem w_1402 : Cond.code yX12_step cX12_step 4 (some .int) ∈ gw := gw_t6 202 rfl rfl
theorem w_1051 : Cond.methodLink RL 132 yL_translate ∈ gw := gw_t5 91 rfl rfl
theorem w_1052 : Cond.static yL_translate ∈ gw := gw_t5 92 rfl rfl
theorem w_1053 : Cond.codeWith yL_translate cL_translate 6 (some .int) hh_translate ∈ gw := gw_t5 93 rfl rfl
theorem w_1644 : Cond.methodLink RL 135 yX12_translate ∈ gw := gw_t7 204 rfl rfl
theorem w_1645 : Cond.instanceMethod yX12_translate ∈ gw := gw_t7 205 rfl rfl
theorem w_1646 : Cond.selects RX12 yX12_translate yX12_translate ∈ gw := gw_t7 206 rfl rfl
theorem w_1647 : Cond.code yX12_translate cX12_translate 4 (some .long) ∈ gw := gw_t7 207 rfl rfl
theorem w_1062 : Cond.methodLink RL 136 yL_look ∈ gw := gw_t5 102 rfl rfl
theorem w_1063 : Cond.static yL_look ∈ gw := gw_t5 103 rfl rfl
theorem w_1064 : Cond.codeWith yL_look cL_look 4 (some .int) hh_look ∈ gw := gw_t5 104 rfl rfl
theorem w_1648 : Cond.methodLink RL 138 yX12_look ∈ gw := gw_t7 208 rfl rfl
theorem w_1649 : Cond.instanceMethod yX12_look ∈ gw := gw_t7 209 rfl rfl
theorem w_1650 : Cond.selects RX12 yX12_look yX12_look ∈ gw := gw_t7 210 rfl rfl
theorem w_1651 : Cond.code yX12_look cX12_look 2 (some .int) ∈ gw := gw_t7 211 rfl rfl
theorem w_1070 : Cond.methodLink RL 139 yL_out ∈ gw := gw_t5 110 rfl rfl
theorem w_1071 : Cond.static yL_out ∈ gw := gw_t5 111 rfl rfl
theorem w_1072 : Cond.codeWith yL_out cL_out 4 (some .int) hh_out ∈ gw := gw_t5 112 rfl rfl
theorem w_1652 : Cond.methodLink RL 141 yX12_out ∈ gw := gw_t7 212 rfl rfl
theorem w_1653 : Cond.instanceMethod yX12_out ∈ gw := gw_t7 213 rfl rfl
theorem w_1654 : Cond.selects RX12 yX12_out yX12_out ∈ gw := gw_t7 214 rfl rfl
theorem w_1655 : Cond.code yX12_out cX12_out 2 (some .int) ∈ gw := gw_t7 215 rfl rfl
theorem sx1 {j L : Nat} (h : j + 6 ≤ L) (hL : L ≤ 3073) : vp_in (nI j + 1) L := by
  have e : nI j + 1 = nI (j + 1) := nI_add j 1
  rw [e]; exact vp_in_nI (by omega) (by omega)
theorem sx2 {j L : Nat} (h : j + 6 ≤ L) (hL : L ≤ 3073) : vp_in (nI j + 2) L := by
  have e : nI j + 2 = nI (j + 2) := nI_add j 2
  rw [e]; exact vp_in_nI (by omega) (by omega)
theorem sx3 {j L : Nat} (h : j + 6 ≤ L) (hL : L ≤ 3073) : vp_in (nI j + 3) L := by
  have e : nI j + 3 = nI (j + 3) := nI_add j 3
  rw [e]; exact vp_in_nI (by omega) (by omega)
theorem sx4 {j L : Nat} (h : j + 6 ≤ L) (hL : L ≤ 3073) : vp_in (nI j + 4) L := by
  have e : nI j + 4 = nI (j + 4) := nI_add j 4
  rw [e]; exact vp_in_nI (by omega) (by omega)
theorem sx5 {j L : Nat} (h : j + 6 ≤ L) (hL : L ≤ 3073) : vp_in (nI j + 5) L := by
  have e : nI j + 5 = nI (j + 5) := nI_add j 5
  rw [e]; exact vp_in_nI (by omega) (by omega)
theorem WZ.assoc {a b c : va_W} {D : va_G} {cy : ClassId × ClassId × ClassId} {A : Nat → Prop} {s : State} {H : Heap} {locs : List Loc} (w : WZ ((a ++ b) ++ c) D cy A s H locs) : WZ (a ++ (b ++ c)) D cy A s H locs := by rw [List.append_assoc] at w; exact w
theorem WZ.unassoc {a b c : va_W} {D : va_G} {cy : ClassId × ClassId × ClassId} {A : Nat → Prop} {s : State} {H : Heap} {locs : List Loc} (w : WZ (a ++ (b ++ c)) D cy A s H locs) : WZ ((a ++ b) ++ c) D cy A s H locs := by rw [List.append_assoc]; exact w
theorem WZ.toC {a b c : va_W} {D : va_G} {cy : ClassId × ClassId × ClassId} {A : Nat → Prop} {s : State} {H : Heap} {locs : List Loc} (w : WZ ((a ++ b) ++ c) D cy A s H locs) : WZ ((a ++ []) ++ (b ++ c)) D cy A s H locs := by rw [List.append_nil]; exact w.assoc
theorem WZ.fromC {a b c : va_W} {D : va_G} {cy : ClassId × ClassId × ClassId} {A : Nat → Prop} {s : State} {H : Heap} {locs : List Loc} (w : WZ ((a ++ []) ++ (b ++ c)) D cy A s H locs) : WZ ((a ++ b) ++ c) D cy A s H locs := by rw [List.append_nil] at w; exact w.unassoc
/-- out[0] read -/
theorem zld {p : Program} {l : Launch} {e : Env} {R : Room} {s : State} {m : MethodId} {args : Array Value} {below : List Frame} {meth : Method} {c : Code} {H : Heap} {locs : List Loc} {cells slots : Nat} {Q : State → Prop} {D : va_G} {cy : ClassId × ClassId × ClassId} {ad rr : Nat → Nat} {u : St} {A : Nat → Prop} {cc : ByteArray} {nL pc ob : Nat} {own : String} {ls : Array Slot} {rest : List Value} {f : Nat → Int64} {v : Int64} {M : va_W} (E : CallFix p m c cc nL s args gw own) (w : WZ ((wC cy ad rr u ++ [(ob, .inl (cy.2.2, 1, .inr (.inl f)))]) ++ M) D cy A s H locs) (hv : f 0 = v) (hdg : decode cc pc = .ok (.laload, 1))
    (kk : W p l e R s m args below meth c H locs cells slots Q (F0 m (pc + 1) ls (.long v :: rest))) : W p l e R s m args below meth c H locs cells slots Q (F0 m pc ls (.int 0 :: .ref ob :: rest)) := by
  subst hv
  exact va_lald E.1 E.2.1 w.2.2.2.1.1 w.1 20 2 rfl rfl (show inB 0 1 by decide) hdg kk
def dl_law_0 : List (Nat × Instr × Nat) := [(0, .new 8, 3), (3, .dup, 1), (4, .aload_n 0, 1), (5, .iconst 0, 1), (6, .invokestatic 67, 3), (9, .invokespecial 73, 3), (12, .astore_n 1, 1), (13, .new 75, 3), (16, .dup, 1), (17, .aload_n 0, 1), (18, .iconst 0, 1), (19, .invokestatic 67, 3), (22, .invokespecial 77, 3), (25, .astore_n 2, 1), (26, .iconst 1, 1), (27, .newarray .long, 2), (29, .astore_n 3, 1), (30, .iconst 1, 1), (31, .istore 4, 2), (33, .iload 4, 2), (35, .aload_n 0, 1), (36, .arraylength, 1), (37, .bipush 6, 2), (39, .isub, 1), (40, .if_icmp .gt 1112, 3), (43, .aload_n 0, 1), (44, .iload 4, 2), (46, .iaload, 1), (47, .bipush 15, 2), (49, .iand, 1), (50, .tableswitch 1096 0 15 #[78, 178, 191, 204, 248, 372, 459, 539, 594, 630, 685, 765, 829, 885, 984, 1040], 78)]
theorem da_law_0 : dkL code dl_law_0 = true := by decide +kernel
def dl_law_1 : List (Nat × Instr × Nat) := [(128, .aload_n 1, 1), (129, .aload_n 0, 1), (130, .iload 4, 2), (132, .iconst 1, 1), (133, .iadd, 1), (134, .iaload, 1), (135, .aload_n 0, 1), (136, .iload 4, 2), (138, .iconst 2, 1), (139, .iadd, 1), (140, .iaload, 1), (141, .i2l, 1), (142, .bipush 32, 2), (144, .lshl, 1), (145, .aload_n 0, 1), (146, .iload 4, 2), (148, .iconst 3, 1), (149, .iadd, 1), (150, .iaload, 1), (151, .i2l, 1), (152, .ldc2_w 78, 3), (155, .land, 1), (156, .lor, 1), (157, .aload_n 3, 1), (158, .invokestatic 80, 3), (161, .istore 5, 2), (163, .aload_n 2, 1), (164, .aload_n 0, 1), (165, .iload 4, 2), (167, .iconst 1, 1), (168, .iadd, 1), (169, .iaload, 1), (170, .aload_n 0, 1), (171, .iload 4, 2), (173, .iconst 2, 1), (174, .iadd, 1), (175, .iaload, 1), (176, .i2l, 1), (177, .bipush 32, 2), (179, .lshl, 1), (180, .aload_n 0, 1), (181, .iload 4, 2), (183, .iconst 3, 1), (184, .iadd, 1), (185, .iaload, 1), (186, .i2l, 1), (187, .ldc2_w 78, 3), (190, .land, 1), (191, .lor, 1), (192, .invokevirtual 83, 3), (195, .istore 6, 2), (197, .aload_n 2, 1), (198, .invokevirtual 84, 3), (201, .iload 5, 2), (203, .if_icmp .eq 5, 3), (206, .iconst 0, 1), (207, .ireturn, 1), (208, .iload 5, 2), (210, .ifCond .ne 15, 3), (213, .aload_n 3, 1), (214, .iconst 0, 1), (215, .laload, 1), (216, .iload 6, 2), (218, .i2l, 1), (219, .lcmp, 1), (220, .ifCond .eq 5, 3), (223, .iconst 0, 1), (224, .ireturn, 1), (225, .goto 921, 3)]
theorem da_law_1 : dkL code dl_law_1 = true := by decide +kernel
def dl_law_2 : List (Nat × Instr × Nat) := [(228, .aload_n 1, 1), (229, .invokevirtual 87, 3), (232, .aload_n 2, 1), (233, .invokevirtual 90, 3), (236, .if_icmp .eq 910, 3), (239, .iconst 0, 1), (240, .ireturn, 1)]
theorem da_law_2 : dkL code dl_law_2 = true := by decide +kernel
def dl_law_3 : List (Nat × Instr × Nat) := [(241, .aload_n 1, 1), (242, .invokevirtual 91, 3), (245, .aload_n 2, 1), (246, .invokevirtual 94, 3), (249, .if_icmp .eq 897, 3), (252, .iconst 0, 1), (253, .ireturn, 1)]
theorem da_law_3 : dkL code dl_law_3 = true := by decide +kernel
def dl_law_4 : List (Nat × Instr × Nat) := [(254, .aload_n 1, 1), (255, .aload_n 3, 1), (256, .invokestatic 95, 3), (259, .istore 5, 2), (261, .aload_n 2, 1), (262, .invokevirtual 98, 3), (265, .istore 6, 2), (267, .aload_n 2, 1), (268, .invokevirtual 84, 3), (271, .iload 5, 2), (273, .if_icmp .eq 5, 3), (276, .iconst 0, 1), (277, .ireturn, 1), (278, .iload 5, 2), (280, .ifCond .ne 15, 3), (283, .aload_n 3, 1), (284, .iconst 0, 1), (285, .laload, 1), (286, .iload 6, 2), (288, .i2l, 1), (289, .lcmp, 1), (290, .ifCond .eq 5, 3), (293, .iconst 0, 1), (294, .ireturn, 1), (295, .goto 851, 3)]
theorem da_law_4 : dkL code dl_law_4 = true := by decide +kernel
def dl_law_5 : List (Nat × Instr × Nat) := [(298, .aload_n 1, 1), (299, .aload_n 0, 1), (300, .iload 4, 2), (302, .iconst 1, 1), (303, .iadd, 1), (304, .iaload, 1), (305, .i2l, 1), (306, .bipush 32, 2), (308, .lshl, 1), (309, .aload_n 0, 1), (310, .iload 4, 2), (312, .iconst 2, 1), (313, .iadd, 1), (314, .iaload, 1), (315, .i2l, 1), (316, .ldc2_w 78, 3), (319, .land, 1), (320, .lor, 1), (321, .aload_n 0, 1), (322, .iload 4, 2), (324, .iconst 3, 1), (325, .iadd, 1), (326, .iaload, 1), (327, .aload_n 0, 1), (328, .iload 4, 2), (330, .iconst 4, 1), (331, .iadd, 1), (332, .iaload, 1), (333, .i2l, 1), (334, .bipush 32, 2), (336, .lshl, 1), (337, .aload_n 0, 1), (338, .iload 4, 2), (340, .iconst 5, 1), (341, .iadd, 1), (342, .iaload, 1), (343, .i2l, 1), (344, .ldc2_w 78, 3), (347, .land, 1), (348, .lor, 1), (349, .invokestatic 99, 3), (352, .istore 5, 2), (354, .aload_n 2, 1), (355, .aload_n 0, 1), (356, .iload 4, 2), (358, .iconst 1, 1), (359, .iadd, 1), (360, .iaload, 1), (361, .i2l, 1), (362, .bipush 32, 2), (364, .lshl, 1), (365, .aload_n 0, 1), (366, .iload 4, 2), (368, .iconst 2, 1), (369, .iadd, 1), (370, .iaload, 1), (371, .i2l, 1), (372, .ldc2_w 78, 3), (375, .land, 1), (376, .lor, 1), (377, .aload_n 0, 1), (378, .iload 4, 2), (380, .iconst 3, 1), (381, .iadd, 1), (382, .iaload, 1), (383, .aload_n 0, 1), (384, .iload 4, 2), (386, .iconst 4, 1), (387, .iadd, 1), (388, .iaload, 1), (389, .i2l, 1), (390, .bipush 32, 2), (392, .lshl, 1), (393, .aload_n 0, 1), (394, .iload 4, 2), (396, .iconst 5, 1), (397, .iadd, 1), (398, .iaload, 1), (399, .i2l, 1), (400, .ldc2_w 78, 3), (403, .land, 1), (404, .lor, 1), (405, .invokevirtual 102, 3), (408, .aload_n 2, 1), (409, .invokevirtual 84, 3), (412, .iload 5, 2), (414, .if_icmp .eq 5, 3), (417, .iconst 0, 1), (418, .ireturn, 1), (419, .goto 727, 3)]
theorem da_law_5 : dkL code dl_law_5 = true := by decide +kernel
def dl_law_6 : List (Nat × Instr × Nat) := [(422, .aload_n 1, 1), (423, .aload_n 0, 1), (424, .iload 4, 2), (426, .iconst 1, 1), (427, .iadd, 1), (428, .iaload, 1), (429, .i2l, 1), (430, .bipush 32, 2), (432, .lshl, 1), (433, .aload_n 0, 1), (434, .iload 4, 2), (436, .iconst 2, 1), (437, .iadd, 1), (438, .iaload, 1), (439, .i2l, 1), (440, .ldc2_w 78, 3), (443, .land, 1), (444, .lor, 1), (445, .aload_n 3, 1), (446, .invokestatic 103, 3), (449, .istore 5, 2), (451, .aload_n 2, 1), (452, .aload_n 0, 1), (453, .iload 4, 2), (455, .iconst 1, 1), (456, .iadd, 1), (457, .iaload, 1), (458, .i2l, 1), (459, .bipush 32, 2), (461, .lshl, 1), (462, .aload_n 0, 1), (463, .iload 4, 2), (465, .iconst 2, 1), (466, .iadd, 1), (467, .iaload, 1), (468, .i2l, 1), (469, .ldc2_w 78, 3), (472, .land, 1), (473, .lor, 1), (474, .invokevirtual 106, 3), (477, .lstore 6, 2), (479, .aload_n 2, 1), (480, .invokevirtual 84, 3), (483, .iload 5, 2), (485, .if_icmp .eq 5, 3), (488, .iconst 0, 1), (489, .ireturn, 1), (490, .iload 5, 2), (492, .ifCond .ne 14, 3), (495, .aload_n 3, 1), (496, .iconst 0, 1), (497, .laload, 1), (498, .lload 6, 2), (500, .lcmp, 1), (501, .ifCond .eq 5, 3), (504, .iconst 0, 1), (505, .ireturn, 1), (506, .goto 640, 3)]
theorem da_law_6 : dkL code dl_law_6 = true := by decide +kernel
def dl_law_7 : List (Nat × Instr × Nat) := [(509, .aload_n 1, 1), (510, .aload_n 0, 1), (511, .iload 4, 2), (513, .iconst 1, 1), (514, .iadd, 1), (515, .iaload, 1), (516, .aload_n 0, 1), (517, .iload 4, 2), (519, .iconst 2, 1), (520, .iadd, 1), (521, .iaload, 1), (522, .i2l, 1), (523, .bipush 32, 2), (525, .lshl, 1), (526, .aload_n 0, 1), (527, .iload 4, 2), (529, .iconst 3, 1), (530, .iadd, 1), (531, .iaload, 1), (532, .i2l, 1), (533, .ldc2_w 78, 3), (536, .land, 1), (537, .lor, 1), (538, .invokestatic 107, 3), (541, .istore 5, 2), (543, .aload_n 2, 1), (544, .aload_n 0, 1), (545, .iload 4, 2), (547, .iconst 1, 1), (548, .iadd, 1), (549, .iaload, 1), (550, .aload_n 0, 1), (551, .iload 4, 2), (553, .iconst 2, 1), (554, .iadd, 1), (555, .iaload, 1), (556, .i2l, 1), (557, .bipush 32, 2), (559, .lshl, 1), (560, .aload_n 0, 1), (561, .iload 4, 2), (563, .iconst 3, 1), (564, .iadd, 1), (565, .iaload, 1), (566, .i2l, 1), (567, .ldc2_w 78, 3), (570, .land, 1), (571, .lor, 1), (572, .invokevirtual 110, 3), (575, .aload_n 2, 1), (576, .invokevirtual 84, 3), (579, .iload 5, 2), (581, .if_icmp .eq 5, 3), (584, .iconst 0, 1), (585, .ireturn, 1), (586, .goto 560, 3)]
theorem da_law_7 : dkL code dl_law_7 = true := by decide +kernel
def dl_law_8 : List (Nat × Instr × Nat) := [(589, .aload_n 1, 1), (590, .aload_n 0, 1), (591, .iload 4, 2), (593, .iconst 1, 1), (594, .iadd, 1), (595, .iaload, 1), (596, .aload_n 3, 1), (597, .invokestatic 111, 3), (600, .istore 5, 2), (602, .aload_n 2, 1), (603, .aload_n 0, 1), (604, .iload 4, 2), (606, .iconst 1, 1), (607, .iadd, 1), (608, .iaload, 1), (609, .invokevirtual 114, 3), (612, .lstore 6, 2), (614, .aload_n 2, 1), (615, .invokevirtual 84, 3), (618, .iload 5, 2), (620, .if_icmp .eq 5, 3), (623, .iconst 0, 1), (624, .ireturn, 1), (625, .iload 5, 2), (627, .ifCond .ne 14, 3), (630, .aload_n 3, 1), (631, .iconst 0, 1), (632, .laload, 1), (633, .lload 6, 2), (635, .lcmp, 1), (636, .ifCond .eq 5, 3), (639, .iconst 0, 1), (640, .ireturn, 1), (641, .goto 505, 3)]
theorem da_law_8 : dkL code dl_law_8 = true := by decide +kernel
def dl_law_9 : List (Nat × Instr × Nat) := [(644, .aload_n 1, 1), (645, .aload_n 0, 1), (646, .iload 4, 2), (648, .iconst 1, 1), (649, .iadd, 1), (650, .iaload, 1), (651, .invokestatic 115, 3), (654, .istore 5, 2), (656, .aload_n 2, 1), (657, .aload_n 0, 1), (658, .iload 4, 2), (660, .iconst 1, 1), (661, .iadd, 1), (662, .iaload, 1), (663, .invokevirtual 118, 3), (666, .aload_n 2, 1), (667, .invokevirtual 84, 3), (670, .iload 5, 2), (672, .if_icmp .eq 5, 3), (675, .iconst 0, 1), (676, .ireturn, 1), (677, .goto 469, 3)]
theorem da_law_9 : dkL code dl_law_9 = true := by decide +kernel
def dl_law_10 : List (Nat × Instr × Nat) := [(680, .aload_n 1, 1), (681, .aload_n 0, 1), (682, .iload 4, 2), (684, .iconst 1, 1), (685, .iadd, 1), (686, .iaload, 1), (687, .aload_n 3, 1), (688, .invokestatic 119, 3), (691, .istore 5, 2), (693, .aload_n 2, 1), (694, .aload_n 0, 1), (695, .iload 4, 2), (697, .iconst 1, 1), (698, .iadd, 1), (699, .iaload, 1), (700, .invokevirtual 121, 3), (703, .lstore 6, 2), (705, .aload_n 2, 1), (706, .invokevirtual 84, 3), (709, .iload 5, 2), (711, .if_icmp .eq 5, 3), (714, .iconst 0, 1), (715, .ireturn, 1), (716, .iload 5, 2), (718, .ifCond .ne 14, 3), (721, .aload_n 3, 1), (722, .iconst 0, 1), (723, .laload, 1), (724, .lload 6, 2), (726, .lcmp, 1), (727, .ifCond .eq 5, 3), (730, .iconst 0, 1), (731, .ireturn, 1), (732, .goto 414, 3)]
theorem da_law_10 : dkL code dl_law_10 = true := by decide +kernel
def dl_law_11 : List (Nat × Instr × Nat) := [(735, .aload_n 1, 1), (736, .aload_n 0, 1), (737, .iload 4, 2), (739, .iconst 1, 1), (740, .iadd, 1), (741, .iaload, 1), (742, .aload_n 0, 1), (743, .iload 4, 2), (745, .iconst 2, 1), (746, .iadd, 1), (747, .iaload, 1), (748, .i2l, 1), (749, .bipush 32, 2), (751, .lshl, 1), (752, .aload_n 0, 1), (753, .iload 4, 2), (755, .iconst 3, 1), (756, .iadd, 1), (757, .iaload, 1), (758, .i2l, 1), (759, .ldc2_w 78, 3), (762, .land, 1), (763, .lor, 1), (764, .invokestatic 122, 3), (767, .istore 5, 2), (769, .aload_n 2, 1), (770, .aload_n 0, 1), (771, .iload 4, 2), (773, .iconst 1, 1), (774, .iadd, 1), (775, .iaload, 1), (776, .aload_n 0, 1), (777, .iload 4, 2), (779, .iconst 2, 1), (780, .iadd, 1), (781, .iaload, 1), (782, .i2l, 1), (783, .bipush 32, 2), (785, .lshl, 1), (786, .aload_n 0, 1), (787, .iload 4, 2), (789, .iconst 3, 1), (790, .iadd, 1), (791, .iaload, 1), (792, .i2l, 1), (793, .ldc2_w 78, 3), (796, .land, 1), (797, .lor, 1), (798, .invokevirtual 124, 3), (801, .aload_n 2, 1), (802, .invokevirtual 84, 3), (805, .iload 5, 2), (807, .if_icmp .eq 5, 3), (810, .iconst 0, 1), (811, .ireturn, 1), (812, .goto 334, 3)]
theorem da_law_11 : dkL code dl_law_11 = true := by decide +kernel
def dl_law_12 : List (Nat × Instr × Nat) := [(815, .aload_n 1, 1), (816, .aload_n 0, 1), (817, .iload 4, 2), (819, .iconst 1, 1), (820, .iadd, 1), (821, .iaload, 1), (822, .aload_n 0, 1), (823, .iload 4, 2), (825, .iconst 2, 1), (826, .iadd, 1), (827, .iaload, 1), (828, .ifCond .eq 7, 3), (831, .iconst 1, 1), (832, .goto 4, 3), (835, .iconst 0, 1), (836, .invokestatic 125, 3), (839, .istore 5, 2), (841, .aload_n 2, 1), (842, .aload_n 0, 1), (843, .iload 4, 2), (845, .iconst 1, 1), (846, .iadd, 1), (847, .iaload, 1), (848, .aload_n 0, 1), (849, .iload 4, 2), (851, .iconst 2, 1), (852, .iadd, 1), (853, .iaload, 1), (854, .ifCond .eq 7, 3), (857, .iconst 1, 1), (858, .goto 4, 3), (861, .iconst 0, 1), (862, .invokevirtual 128, 3), (865, .aload_n 2, 1), (866, .invokevirtual 84, 3), (869, .iload 5, 2), (871, .if_icmp .eq 5, 3), (874, .iconst 0, 1), (875, .ireturn, 1), (876, .goto 270, 3)]
theorem da_law_12 : dkL code dl_law_12 = true := by decide +kernel
def dl_law_13 : List (Nat × Instr × Nat) := [(879, .aload_n 1, 1), (880, .aload_n 0, 1), (881, .iload 4, 2), (883, .iconst 1, 1), (884, .iadd, 1), (885, .iaload, 1), (886, .aload_n 3, 1), (887, .invokestatic 129, 3), (890, .istore 5, 2), (892, .aload_n 2, 1), (893, .aload_n 0, 1), (894, .iload 4, 2), (896, .iconst 1, 1), (897, .iadd, 1), (898, .iaload, 1), (899, .invokevirtual 131, 3), (902, .istore 6, 2), (904, .aload_n 2, 1), (905, .invokevirtual 84, 3), (908, .iload 5, 2), (910, .if_icmp .eq 5, 3), (913, .iconst 0, 1), (914, .ireturn, 1), (915, .iload 5, 2), (917, .ifCond .ne 15, 3), (920, .aload_n 3, 1), (921, .iconst 0, 1), (922, .laload, 1), (923, .iload 6, 2), (925, .i2l, 1), (926, .lcmp, 1), (927, .ifCond .eq 5, 3), (930, .iconst 0, 1), (931, .ireturn, 1), (932, .goto 214, 3)]
theorem da_law_13 : dkL code dl_law_13 = true := by decide +kernel
def dl_law_14 : List (Nat × Instr × Nat) := [(935, .aload_n 1, 1), (936, .aload_n 0, 1), (937, .iload 4, 2), (939, .iconst 1, 1), (940, .iadd, 1), (941, .iaload, 1), (942, .i2l, 1), (943, .bipush 32, 2), (945, .lshl, 1), (946, .aload_n 0, 1), (947, .iload 4, 2), (949, .iconst 2, 1), (950, .iadd, 1), (951, .iaload, 1), (952, .i2l, 1), (953, .ldc2_w 78, 3), (956, .land, 1), (957, .lor, 1), (958, .aload_n 0, 1), (959, .iload 4, 2), (961, .iconst 3, 1), (962, .iadd, 1), (963, .iaload, 1), (964, .aload_n 3, 1), (965, .invokestatic 132, 3), (968, .istore 5, 2), (970, .aload_n 2, 1), (971, .aload_n 0, 1), (972, .iload 4, 2), (974, .iconst 1, 1), (975, .iadd, 1), (976, .iaload, 1), (977, .i2l, 1), (978, .bipush 32, 2), (980, .lshl, 1), (981, .aload_n 0, 1), (982, .iload 4, 2), (984, .iconst 2, 1), (985, .iadd, 1), (986, .iaload, 1), (987, .i2l, 1), (988, .ldc2_w 78, 3), (991, .land, 1), (992, .lor, 1), (993, .aload_n 0, 1), (994, .iload 4, 2), (996, .iconst 3, 1), (997, .iadd, 1), (998, .iaload, 1), (999, .invokevirtual 135, 3), (1002, .lstore 6, 2), (1004, .aload_n 2, 1), (1005, .invokevirtual 84, 3), (1008, .iload 5, 2), (1010, .if_icmp .eq 5, 3), (1013, .iconst 0, 1), (1014, .ireturn, 1), (1015, .iload 5, 2), (1017, .ifCond .ne 14, 3), (1020, .aload_n 3, 1), (1021, .iconst 0, 1), (1022, .laload, 1), (1023, .lload 6, 2), (1025, .lcmp, 1), (1026, .ifCond .eq 5, 3), (1029, .iconst 0, 1), (1030, .ireturn, 1), (1031, .goto 115, 3)]
theorem da_law_14 : dkL code dl_law_14 = true := by decide +kernel
def dl_law_15 : List (Nat × Instr × Nat) := [(1034, .aload_n 1, 1), (1035, .aload_n 0, 1), (1036, .iload 4, 2), (1038, .iconst 1, 1), (1039, .iadd, 1), (1040, .iaload, 1), (1041, .aload_n 3, 1), (1042, .invokestatic 136, 3), (1045, .istore 5, 2), (1047, .aload_n 2, 1), (1048, .aload_n 0, 1), (1049, .iload 4, 2), (1051, .iconst 1, 1), (1052, .iadd, 1), (1053, .iaload, 1), (1054, .invokevirtual 138, 3), (1057, .istore 6, 2), (1059, .aload_n 2, 1), (1060, .invokevirtual 84, 3), (1063, .iload 5, 2), (1065, .if_icmp .eq 5, 3), (1068, .iconst 0, 1), (1069, .ireturn, 1), (1070, .iload 5, 2), (1072, .ifCond .ne 15, 3), (1075, .aload_n 3, 1), (1076, .iconst 0, 1), (1077, .laload, 1), (1078, .iload 6, 2), (1080, .i2l, 1), (1081, .lcmp, 1), (1082, .ifCond .eq 5, 3), (1085, .iconst 0, 1), (1086, .ireturn, 1), (1087, .goto 59, 3)]
theorem da_law_15 : dkL code dl_law_15 = true := by decide +kernel
def dl_law_16 : List (Nat × Instr × Nat) := [(1090, .aload_n 1, 1), (1091, .aload_n 0, 1), (1092, .iload 4, 2), (1094, .iconst 1, 1), (1095, .iadd, 1), (1096, .iaload, 1), (1097, .aload_n 3, 1), (1098, .invokestatic 139, 3), (1101, .istore 5, 2), (1103, .aload_n 2, 1), (1104, .aload_n 0, 1), (1105, .iload 4, 2), (1107, .iconst 1, 1), (1108, .iadd, 1), (1109, .iaload, 1), (1110, .invokevirtual 141, 3), (1113, .istore 6, 2), (1115, .aload_n 2, 1), (1116, .invokevirtual 84, 3), (1119, .iload 5, 2), (1121, .if_icmp .eq 5, 3), (1124, .iconst 0, 1), (1125, .ireturn, 1), (1126, .iload 5, 2), (1128, .ifCond .ne 15, 3), (1131, .aload_n 3, 1), (1132, .iconst 0, 1), (1133, .laload, 1), (1134, .iload 6, 2), (1136, .i2l, 1), (1137, .lcmp, 1), (1138, .ifCond .eq 5, 3), (1141, .iconst 0, 1), (1142, .ireturn, 1), (1143, .goto 3, 3)]
theorem da_law_16 : dkL code dl_law_16 = true := by decide +kernel
def dl_law_17 : List (Nat × Instr × Nat) := [(1146, .iinc 4 6, 3), (1149, .goto (-1116), 3), (1152, .iconst 1, 1), (1153, .ireturn, 1)]
theorem da_law_17 : dkL code dl_law_17 = true := by decide +kernel
set_option maxRecDepth 100000 in
set_option maxHeartbeats 8000000 in
theorem lw_feed {p : Program} {e : Env} {s : State} {m : MethodId} {below : List Frame} {meth : Method} {c : Code} {Q : State → Prop} {D : va_G} {cy : ClassId × ClassId × ClassId} {ad am : Nat → Nat} {ob b L : Nat} {xs : Nat → Int32} {A : Nat → Prop} (l : Launch) (hca : CatchP) (hl0 : l.stackTraces = false) (E : CallFix p m c code 8 s #[Value.ref b] gw RL) (hX : va_X b L xs s s.heap) (hbl : b < s.heap.size) (hbA : ¬ A b) {S : St → St → Prop} {B : St → Nat} (hB : ∀ uC uM, S uC uM → B uC ≤ 500000) (hop : Op_feed S B) {uC uM : St} (hS : S uC uM) {t j : Nat} (ht : t < 520) (hj : j + 6 ≤ L) (hL9 : L ≤ 3073) {f : Nat → Int64} {H : Heap} {locs : List Loc} {rr rm : Nat → Nat} {cells slots : Nat} {ls : Array Slot} (hc : cells ≤ 100 + B uC + 6 * t) (hs : slots ≤ 500000 + B uC + 6 * t) (hl : lv_has ls 8 [(0, .ref b), (1, .ref (ad 0)), (2, .ref (am 0)), (3, .ref ob), (4, .int (nI j))]) (w : WZ ((wC cy ad rr uC ++ [(ob, .inl (cy.2.2, 1, .inr (.inl f)))]) ++ wM cy am rm uM) D cy A s H locs) (hnext : ∀ (uC uM : St) (f : Nat → Int64) (H : Heap) (locs : List Loc) (rr rm : Nat → Nat) (cells slots : Nat) (ls : Array Slot), S uC uM → cells ≤ 100 + B uC + 6 * (t + 1) → slots ≤ 500000 + B uC + 6 * (t + 1) → lv_has ls 8 [(0, .ref b), (1, .ref (ad 0)), (2, .ref (am 0)), (3, .ref ob), (4, .int (nI j))] → WZ ((wC cy ad rr uC ++ [(ob, .inl (cy.2.2, 1, .inr (.inl f)))]) ++ wM cy am rm uM) D cy A s H locs → W p l e room_1 s m #[Value.ref b] below meth c H locs cells slots Q (F0 m 1146 ls [])) : W p l e room_1 s m #[Value.ref b] below meth c H locs cells slots Q (F0 m 128 ls []) := by
  have hx := E.1
  have hb := E.2.1
  have hown := E.2.2.2.1
  have hts := E.2.2.2.2
  have hB0 := hB _ _ hS
  rcases hop (xs (nI j + 1).toNatClampNeg) (j_lshl (xs (nI j + 2).toNatClampNeg).toInt64 32 ||| ((xs (nI j + 3).toNatClampNeg).toInt64 &&& (4294967295 : Int64))) uC uM hS with ⟨r, uC', k', rb, uM', h1, h2, h3, h4, hS', hk⟩ | ⟨rb, uM', h1, h2, h3, hS'⟩ | ⟨rb, uM', h1, h2, h3, hS'⟩
  · have hB1 := hB _ _ hS'
    refine lv_aload_n hx hb (dq da_law_1 0 rfl) rfl (lv_at hl 1 rfl) ?_
    refine lv_aload_n hx hb (dq da_law_1 1 rfl) rfl (lv_at hl 0 rfl) ?_
    refine lv_iload hx hb (dq da_law_1 2 rfl) (lv_at hl 4 rfl) ?_
    refine lv_iconst (v := 1) hx hb (dq da_law_1 3 rfl) rfl ?_
    refine lv_iadd hx hb (dq da_law_1 4 rfl) ?_
    refine va_sld hx hb hX hbl hbA w.2.2.1 (sx1 hj hL9) (dq da_law_1 5 rfl) ?_
    refine lv_aload_n hx hb (dq da_law_1 6 rfl) rfl (lv_at hl 0 rfl) ?_
    refine lv_iload hx hb (dq da_law_1 7 rfl) (lv_at hl 4 rfl) ?_
    refine lv_iconst (v := 2) hx hb (dq da_law_1 8 rfl) rfl ?_
    refine lv_iadd hx hb (dq da_law_1 9 rfl) ?_
    refine va_sld hx hb hX hbl hbA w.2.2.1 (sx2 hj hL9) (dq da_law_1 10 rfl) ?_
    refine lv_i2l (v := (xs (nI j + 2).toNatClampNeg).toInt64) hx hb (dq da_law_1 11 rfl) rfl ?_
    refine lv_bipush (v := 32) hx hb (dq da_law_1 12 rfl) rfl ?_
    refine lv_lshl (v := (j_lshl ((xs (nI j + 2).toNatClampNeg).toInt64) 32)) hx hb (dq da_law_1 13 rfl) rfl ?_
    refine lv_aload_n hx hb (dq da_law_1 14 rfl) rfl (lv_at hl 0 rfl) ?_
    refine lv_iload hx hb (dq da_law_1 15 rfl) (lv_at hl 4 rfl) ?_
    refine lv_iconst (v := 3) hx hb (dq da_law_1 16 rfl) rfl ?_
    refine lv_iadd hx hb (dq da_law_1 17 rfl) ?_
    refine va_sld hx hb hX hbl hbA w.2.2.1 (sx3 hj hL9) (dq da_law_1 18 rfl) ?_
    refine lv_i2l (v := (xs (nI j + 3).toNatClampNeg).toInt64) hx hb (dq da_law_1 19 rfl) rfl ?_
    refine lv_ldc2 hx hb hown (hts _ w_1656) (dq da_law_1 20 rfl) ?_
    refine lv_land hx hb (dq da_law_1 21 rfl) ?_
    refine lv_lor hx hb (dq da_law_1 22 rfl) ?_
    refine lv_aload_n hx hb (dq da_law_1 23 rfl) rfl (lv_at hl 3 rfl) ?_
    refine zH E (c_L_feed_R l D cy ad ob f _ _ uC h1) w_376 w_377 w_0 w_378 hd_L_feed rfl hl.1 rfl (Nat.le_of_ble_eq_true rfl) ⟨Nat.le_of_ble_eq_true rfl, Nat.le_of_ble_eq_true rfl⟩ ⟨by show cells + k' ≤ 601024; omega, by show slots + k' ≤ 7293000; omega⟩ w (dq da_law_1 24 rfl) (fun H locs rr w => ?_)
    refine lv_istore (lv' := [(5, .int (0 : Int32)), (0, .ref b), (1, .ref (ad 0)), (2, .ref (am 0)), (3, .ref ob), (4, .int (nI j))]) hx hb (dq da_law_1 25 rfl) hl (by decide) rfl (fun ls hl => ?_)
    refine lv_aload_n hx hb (dq da_law_1 26 rfl) rfl (lv_at hl 3 rfl) ?_
    refine lv_aload_n hx hb (dq da_law_1 27 rfl) rfl (lv_at hl 1 rfl) ?_
    refine lv_iload hx hb (dq da_law_1 28 rfl) (lv_at hl 5 rfl) ?_
    refine lv_iconst (v := 1) hx hb (dq da_law_1 29 rfl) rfl ?_
    refine lv_iadd hx hb (dq da_law_1 30 rfl) ?_
    refine va_sld hx hb hX hbl hbA w.2.2.1 (sx1 hj hL9) (dq da_law_1 31 rfl) ?_
    refine lv_aload_n hx hb (dq da_law_1 32 rfl) rfl (lv_at hl 1 rfl) ?_
    refine lv_iload hx hb (dq da_law_1 33 rfl) (lv_at hl 5 rfl) ?_
    refine lv_iconst (v := 2) hx hb (dq da_law_1 34 rfl) rfl ?_
    refine lv_iadd hx hb (dq da_law_1 35 rfl) ?_
    refine va_sld hx hb hX hbl hbA w.2.2.1 (sx2 hj hL9) (dq da_law_1 36 rfl) ?_
    refine lv_i2l (v := (xs (nI j + 2).toNatClampNeg).toInt64) hx hb (dq da_law_1 37 rfl) rfl ?_
    refine lv_bipush (v := 32) hx hb (dq da_law_1 38 rfl) rfl ?_
    refine lv_lshl (v := (j_lshl ((xs (nI j + 2).toNatClampNeg).toInt64) 32)) hx hb (dq da_law_1 39 rfl) rfl ?_
    refine lv_aload_n hx hb (dq da_law_1 40 rfl) rfl (lv_at hl 1 rfl) ?_
    refine lv_iload hx hb (dq da_law_1 41 rfl) (lv_at hl 5 rfl) ?_
    refine lv_iconst (v := 3) hx hb (dq da_law_1 42 rfl) rfl ?_
    refine lv_iadd hx hb (dq da_law_1 43 rfl) ?_
    refine va_sld hx hb hX hbl hbA w.2.2.1 (sx3 hj hL9) (dq da_law_1 44 rfl) ?_
    refine lv_i2l (v := (xs (nI j + 3).toNatClampNeg).toInt64) hx hb (dq da_law_1 45 rfl) rfl ?_
    refine lv_ldc2 hx hb hown (hts _ w_1656) (dq da_law_1 46 rfl) ?_
    refine lv_land hx hb (dq da_law_1 47 rfl) ?_
    refine lv_lor hx hb (dq da_law_1 48 rfl) ?_
    have w := w.comm
    refine zV1 (Wd := wM cy am) E (c_X12_feed l D cy am _ _ uM h2) w_1290 w_1291 w_1292 w_10 w_1293 rfl hd_X12_feed rfl hl.1 rfl (Nat.le_of_ble_eq_true rfl) ⟨Nat.le_of_ble_eq_true rfl, Nat.le_of_ble_eq_true rfl⟩ ⟨by show _ + 0 ≤ 601024; omega, by show _ + 0 ≤ 7293000; omega⟩ w (rc_wM_0 w.x) (dq da_law_1 49 rfl) (fun H locs rm w => ?_)
    have w := w.comm
    refine lv_istore (lv' := [(6, .int rb), (5, .int (0 : Int32)), (0, .ref b), (1, .ref (ad 0)), (2, .ref (am 0)), (3, .ref ob), (4, .int (nI j))]) hx hb (dq da_law_1 50 rfl) hl (by decide) rfl (fun ls hl => ?_)
    refine lv_aload_n hx hb (dq da_law_1 51 rfl) rfl (lv_at hl 4 rfl) ?_
    have w := w.comm
    refine zV1 (Wd := wM cy am) E (c_X12_thrown l D cy am uM') w_1248 w_1249 w_1250 w_10 w_1251 rfl hd_X12_thrown rfl hl.1 rfl (Nat.le_of_ble_eq_true rfl) ⟨Nat.le_of_ble_eq_true rfl, Nat.le_of_ble_eq_true rfl⟩ ⟨by show _ + 0 ≤ 601024; omega, by show _ + 0 ≤ 7293000; omega⟩ w (rc_wM_0 w.x) (dq da_law_1 52 rfl) (fun H locs rm w => ?_)
    have w := w.comm
    refine lv_iload hx hb (dq da_law_1 53 rfl) (lv_at hl 1 rfl) ?_
    refine lv_icmp_eq (tgt := 208) hx hb (dq da_law_1 54 rfl) (by decide) (fun c1 => ?_) (fun c1 => absurd h3 c1)
    refine lv_iload hx hb (dq da_law_1 57 rfl) (lv_at hl 1 rfl) ?_
    refine lv_if_ne (tgt := 225) hx hb (dq da_law_1 58 rfl) (by decide) (fun c2 => absurd rfl c2) (fun c2 => ?_)
    refine lv_aload_n hx hb (dq da_law_1 59 rfl) rfl (lv_at hl 5 rfl) ?_
    refine lv_iconst (v := 0) hx hb (dq da_law_1 60 rfl) rfl ?_
    refine zld (v := r.toInt64) E w rfl (dq da_law_1 61 rfl) ?_
    refine lv_iload hx hb (dq da_law_1 62 rfl) (lv_at hl 0 rfl) ?_
    refine lv_i2l (v := rb.toInt64) hx hb (dq da_law_1 63 rfl) rfl ?_
    refine lc_eq (tgt := 225) hx hb (dq da_law_1 64 rfl) (dq da_law_1 65 rfl) (by decide) (fun c3 => ?_) (fun c3 => absurd (by rw [h4]) c3)
    refine lv_goto (tgt := 1146) hx hb (dq da_law_1 68 rfl) (by decide) ?_
    exact hnext _ _ _ H locs _ _ _ _ ls hS' (by omega) (by omega) (lv_sub hl [2, 3, 4, 5, 6] rfl) w
  · have hB1 := hB _ _ hS'
    refine lv_aload_n hx hb (dq da_law_1 0 rfl) rfl (lv_at hl 1 rfl) ?_
    refine lv_aload_n hx hb (dq da_law_1 1 rfl) rfl (lv_at hl 0 rfl) ?_
    refine lv_iload hx hb (dq da_law_1 2 rfl) (lv_at hl 4 rfl) ?_
    refine lv_iconst (v := 1) hx hb (dq da_law_1 3 rfl) rfl ?_
    refine lv_iadd hx hb (dq da_law_1 4 rfl) ?_
    refine va_sld hx hb hX hbl hbA w.2.2.1 (sx1 hj hL9) (dq da_law_1 5 rfl) ?_
    refine lv_aload_n hx hb (dq da_law_1 6 rfl) rfl (lv_at hl 0 rfl) ?_
    refine lv_iload hx hb (dq da_law_1 7 rfl) (lv_at hl 4 rfl) ?_
    refine lv_iconst (v := 2) hx hb (dq da_law_1 8 rfl) rfl ?_
    refine lv_iadd hx hb (dq da_law_1 9 rfl) ?_
    refine va_sld hx hb hX hbl hbA w.2.2.1 (sx2 hj hL9) (dq da_law_1 10 rfl) ?_
    refine lv_i2l (v := (xs (nI j + 2).toNatClampNeg).toInt64) hx hb (dq da_law_1 11 rfl) rfl ?_
    refine lv_bipush (v := 32) hx hb (dq da_law_1 12 rfl) rfl ?_
    refine lv_lshl (v := (j_lshl ((xs (nI j + 2).toNatClampNeg).toInt64) 32)) hx hb (dq da_law_1 13 rfl) rfl ?_
    refine lv_aload_n hx hb (dq da_law_1 14 rfl) rfl (lv_at hl 0 rfl) ?_
    refine lv_iload hx hb (dq da_law_1 15 rfl) (lv_at hl 4 rfl) ?_
    refine lv_iconst (v := 3) hx hb (dq da_law_1 16 rfl) rfl ?_
    refine lv_iadd hx hb (dq da_law_1 17 rfl) ?_
    refine va_sld hx hb hX hbl hbA w.2.2.1 (sx3 hj hL9) (dq da_law_1 18 rfl) ?_
    refine lv_i2l (v := (xs (nI j + 3).toNatClampNeg).toInt64) hx hb (dq da_law_1 19 rfl) rfl ?_
    refine lv_ldc2 hx hb hown (hts _ w_1656) (dq da_law_1 20 rfl) ?_
    refine lv_land hx hb (dq da_law_1 21 rfl) ?_
    refine lv_lor hx hb (dq da_law_1 22 rfl) ?_
    refine lv_aload_n hx hb (dq da_law_1 23 rfl) rfl (lv_at hl 3 rfl) ?_
    refine zH E (c_L_feed_T0 l hca hl0 D cy ad ob f _ _ uC h1) w_376 w_377 w_0 w_378 hd_L_feed rfl hl.1 rfl (Nat.le_of_ble_eq_true rfl) ⟨Nat.le_of_ble_eq_true rfl, Nat.le_of_ble_eq_true rfl⟩ ⟨by show cells + 1 ≤ 601024; omega, by show slots + 6 ≤ 7293000; omega⟩ w (dq da_law_1 24 rfl) (fun H locs rr w => ?_)
    refine lv_istore (lv' := [(5, .int (1 : Int32)), (0, .ref b), (1, .ref (ad 0)), (2, .ref (am 0)), (3, .ref ob), (4, .int (nI j))]) hx hb (dq da_law_1 25 rfl) hl (by decide) rfl (fun ls hl => ?_)
    refine lv_aload_n hx hb (dq da_law_1 26 rfl) rfl (lv_at hl 3 rfl) ?_
    refine lv_aload_n hx hb (dq da_law_1 27 rfl) rfl (lv_at hl 1 rfl) ?_
    refine lv_iload hx hb (dq da_law_1 28 rfl) (lv_at hl 5 rfl) ?_
    refine lv_iconst (v := 1) hx hb (dq da_law_1 29 rfl) rfl ?_
    refine lv_iadd hx hb (dq da_law_1 30 rfl) ?_
    refine va_sld hx hb hX hbl hbA w.2.2.1 (sx1 hj hL9) (dq da_law_1 31 rfl) ?_
    refine lv_aload_n hx hb (dq da_law_1 32 rfl) rfl (lv_at hl 1 rfl) ?_
    refine lv_iload hx hb (dq da_law_1 33 rfl) (lv_at hl 5 rfl) ?_
    refine lv_iconst (v := 2) hx hb (dq da_law_1 34 rfl) rfl ?_
    refine lv_iadd hx hb (dq da_law_1 35 rfl) ?_
    refine va_sld hx hb hX hbl hbA w.2.2.1 (sx2 hj hL9) (dq da_law_1 36 rfl) ?_
    refine lv_i2l (v := (xs (nI j + 2).toNatClampNeg).toInt64) hx hb (dq da_law_1 37 rfl) rfl ?_
    refine lv_bipush (v := 32) hx hb (dq da_law_1 38 rfl) rfl ?_
    refine lv_lshl (v := (j_lshl ((xs (nI j + 2).toNatClampNeg).toInt64) 32)) hx hb (dq da_law_1 39 rfl) rfl ?_
    refine lv_aload_n hx hb (dq da_law_1 40 rfl) rfl (lv_at hl 1 rfl) ?_
    refine lv_iload hx hb (dq da_law_1 41 rfl) (lv_at hl 5 rfl) ?_
    refine lv_iconst (v := 3) hx hb (dq da_law_1 42 rfl) rfl ?_
    refine lv_iadd hx hb (dq da_law_1 43 rfl) ?_
    refine va_sld hx hb hX hbl hbA w.2.2.1 (sx3 hj hL9) (dq da_law_1 44 rfl) ?_
    refine lv_i2l (v := (xs (nI j + 3).toNatClampNeg).toInt64) hx hb (dq da_law_1 45 rfl) rfl ?_
    refine lv_ldc2 hx hb hown (hts _ w_1656) (dq da_law_1 46 rfl) ?_
    refine lv_land hx hb (dq da_law_1 47 rfl) ?_
    refine lv_lor hx hb (dq da_law_1 48 rfl) ?_
    have w := w.comm
    refine zV1 (Wd := wM cy am) E (c_X12_feed l D cy am _ _ uM h2) w_1290 w_1291 w_1292 w_10 w_1293 rfl hd_X12_feed rfl hl.1 rfl (Nat.le_of_ble_eq_true rfl) ⟨Nat.le_of_ble_eq_true rfl, Nat.le_of_ble_eq_true rfl⟩ ⟨by show _ + 0 ≤ 601024; omega, by show _ + 0 ≤ 7293000; omega⟩ w (rc_wM_0 w.x) (dq da_law_1 49 rfl) (fun H locs rm w => ?_)
    have w := w.comm
    refine lv_istore (lv' := [(6, .int rb), (5, .int (1 : Int32)), (0, .ref b), (1, .ref (ad 0)), (2, .ref (am 0)), (3, .ref ob), (4, .int (nI j))]) hx hb (dq da_law_1 50 rfl) hl (by decide) rfl (fun ls hl => ?_)
    refine lv_aload_n hx hb (dq da_law_1 51 rfl) rfl (lv_at hl 4 rfl) ?_
    have w := w.comm
    refine zV1 (Wd := wM cy am) E (c_X12_thrown l D cy am uM') w_1248 w_1249 w_1250 w_10 w_1251 rfl hd_X12_thrown rfl hl.1 rfl (Nat.le_of_ble_eq_true rfl) ⟨Nat.le_of_ble_eq_true rfl, Nat.le_of_ble_eq_true rfl⟩ ⟨by show _ + 0 ≤ 601024; omega, by show _ + 0 ≤ 7293000; omega⟩ w (rc_wM_0 w.x) (dq da_law_1 52 rfl) (fun H locs rm w => ?_)
    have w := w.comm
    refine lv_iload hx hb (dq da_law_1 53 rfl) (lv_at hl 1 rfl) ?_
    refine lv_icmp_eq (tgt := 208) hx hb (dq da_law_1 54 rfl) (by decide) (fun c1 => ?_) (fun c1 => absurd h3 c1)
    refine lv_iload hx hb (dq da_law_1 57 rfl) (lv_at hl 1 rfl) ?_
    refine lv_if_ne (tgt := 225) hx hb (dq da_law_1 58 rfl) (by decide) (fun c2 => ?_) (fun c2 => absurd c2 (by decide))
    refine lv_goto (tgt := 1146) hx hb (dq da_law_1 68 rfl) (by decide) ?_
    exact hnext _ _ _ H locs _ _ _ _ ls hS' (by omega) (by omega) (lv_sub hl [2, 3, 4, 5, 6] rfl) w
  · have hB1 := hB _ _ hS'
    refine lv_aload_n hx hb (dq da_law_1 0 rfl) rfl (lv_at hl 1 rfl) ?_
    refine lv_aload_n hx hb (dq da_law_1 1 rfl) rfl (lv_at hl 0 rfl) ?_
    refine lv_iload hx hb (dq da_law_1 2 rfl) (lv_at hl 4 rfl) ?_
    refine lv_iconst (v := 1) hx hb (dq da_law_1 3 rfl) rfl ?_
    refine lv_iadd hx hb (dq da_law_1 4 rfl) ?_
    refine va_sld hx hb hX hbl hbA w.2.2.1 (sx1 hj hL9) (dq da_law_1 5 rfl) ?_
    refine lv_aload_n hx hb (dq da_law_1 6 rfl) rfl (lv_at hl 0 rfl) ?_
    refine lv_iload hx hb (dq da_law_1 7 rfl) (lv_at hl 4 rfl) ?_
    refine lv_iconst (v := 2) hx hb (dq da_law_1 8 rfl) rfl ?_
    refine lv_iadd hx hb (dq da_law_1 9 rfl) ?_
    refine va_sld hx hb hX hbl hbA w.2.2.1 (sx2 hj hL9) (dq da_law_1 10 rfl) ?_
    refine lv_i2l (v := (xs (nI j + 2).toNatClampNeg).toInt64) hx hb (dq da_law_1 11 rfl) rfl ?_
    refine lv_bipush (v := 32) hx hb (dq da_law_1 12 rfl) rfl ?_
    refine lv_lshl (v := (j_lshl ((xs (nI j + 2).toNatClampNeg).toInt64) 32)) hx hb (dq da_law_1 13 rfl) rfl ?_
    refine lv_aload_n hx hb (dq da_law_1 14 rfl) rfl (lv_at hl 0 rfl) ?_
    refine lv_iload hx hb (dq da_law_1 15 rfl) (lv_at hl 4 rfl) ?_
    refine lv_iconst (v := 3) hx hb (dq da_law_1 16 rfl) rfl ?_
    refine lv_iadd hx hb (dq da_law_1 17 rfl) ?_
    refine va_sld hx hb hX hbl hbA w.2.2.1 (sx3 hj hL9) (dq da_law_1 18 rfl) ?_
    refine lv_i2l (v := (xs (nI j + 3).toNatClampNeg).toInt64) hx hb (dq da_law_1 19 rfl) rfl ?_
    refine lv_ldc2 hx hb hown (hts _ w_1656) (dq da_law_1 20 rfl) ?_
    refine lv_land hx hb (dq da_law_1 21 rfl) ?_
    refine lv_lor hx hb (dq da_law_1 22 rfl) ?_
    refine lv_aload_n hx hb (dq da_law_1 23 rfl) rfl (lv_at hl 3 rfl) ?_
    refine zH E (c_L_feed_T1 l hca hl0 D cy ad ob f _ _ uC h1) w_376 w_377 w_0 w_378 hd_L_feed rfl hl.1 rfl (Nat.le_of_ble_eq_true rfl) ⟨Nat.le_of_ble_eq_true rfl, Nat.le_of_ble_eq_true rfl⟩ ⟨by show cells + 1 ≤ 601024; omega, by show slots + 6 ≤ 7293000; omega⟩ w (dq da_law_1 24 rfl) (fun H locs rr w => ?_)
    refine lv_istore (lv' := [(5, .int (2 : Int32)), (0, .ref b), (1, .ref (ad 0)), (2, .ref (am 0)), (3, .ref ob), (4, .int (nI j))]) hx hb (dq da_law_1 25 rfl) hl (by decide) rfl (fun ls hl => ?_)
    refine lv_aload_n hx hb (dq da_law_1 26 rfl) rfl (lv_at hl 3 rfl) ?_
    refine lv_aload_n hx hb (dq da_law_1 27 rfl) rfl (lv_at hl 1 rfl) ?_
    refine lv_iload hx hb (dq da_law_1 28 rfl) (lv_at hl 5 rfl) ?_
    refine lv_iconst (v := 1) hx hb (dq da_law_1 29 rfl) rfl ?_
    refine lv_iadd hx hb (dq da_law_1 30 rfl) ?_
    refine va_sld hx hb hX hbl hbA w.2.2.1 (sx1 hj hL9) (dq da_law_1 31 rfl) ?_
    refine lv_aload_n hx hb (dq da_law_1 32 rfl) rfl (lv_at hl 1 rfl) ?_
    refine lv_iload hx hb (dq da_law_1 33 rfl) (lv_at hl 5 rfl) ?_
    refine lv_iconst (v := 2) hx hb (dq da_law_1 34 rfl) rfl ?_
    refine lv_iadd hx hb (dq da_law_1 35 rfl) ?_
    refine va_sld hx hb hX hbl hbA w.2.2.1 (sx2 hj hL9) (dq da_law_1 36 rfl) ?_
    refine lv_i2l (v := (xs (nI j + 2).toNatClampNeg).toInt64) hx hb (dq da_law_1 37 rfl) rfl ?_
    refine lv_bipush (v := 32) hx hb (dq da_law_1 38 rfl) rfl ?_
    refine lv_lshl (v := (j_lshl ((xs (nI j + 2).toNatClampNeg).toInt64) 32)) hx hb (dq da_law_1 39 rfl) rfl ?_
    refine lv_aload_n hx hb (dq da_law_1 40 rfl) rfl (lv_at hl 1 rfl) ?_
    refine lv_iload hx hb (dq da_law_1 41 rfl) (lv_at hl 5 rfl) ?_
    refine lv_iconst (v := 3) hx hb (dq da_law_1 42 rfl) rfl ?_
    refine lv_iadd hx hb (dq da_law_1 43 rfl) ?_
    refine va_sld hx hb hX hbl hbA w.2.2.1 (sx3 hj hL9) (dq da_law_1 44 rfl) ?_
    refine lv_i2l (v := (xs (nI j + 3).toNatClampNeg).toInt64) hx hb (dq da_law_1 45 rfl) rfl ?_
    refine lv_ldc2 hx hb hown (hts _ w_1656) (dq da_law_1 46 rfl) ?_
    refine lv_land hx hb (dq da_law_1 47 rfl) ?_
    refine lv_lor hx hb (dq da_law_1 48 rfl) ?_
    have w := w.comm
    refine zV1 (Wd := wM cy am) E (c_X12_feed l D cy am _ _ uM h2) w_1290 w_1291 w_1292 w_10 w_1293 rfl hd_X12_feed rfl hl.1 rfl (Nat.le_of_ble_eq_true rfl) ⟨Nat.le_of_ble_eq_true rfl, Nat.le_of_ble_eq_true rfl⟩ ⟨by show _ + 0 ≤ 601024; omega, by show _ + 0 ≤ 7293000; omega⟩ w (rc_wM_0 w.x) (dq da_law_1 49 rfl) (fun H locs rm w => ?_)
    have w := w.comm
    refine lv_istore (lv' := [(6, .int rb), (5, .int (2 : Int32)), (0, .ref b), (1, .ref (ad 0)), (2, .ref (am 0)), (3, .ref ob), (4, .int (nI j))]) hx hb (dq da_law_1 50 rfl) hl (by decide) rfl (fun ls hl => ?_)
    refine lv_aload_n hx hb (dq da_law_1 51 rfl) rfl (lv_at hl 4 rfl) ?_
    have w := w.comm
    refine zV1 (Wd := wM cy am) E (c_X12_thrown l D cy am uM') w_1248 w_1249 w_1250 w_10 w_1251 rfl hd_X12_thrown rfl hl.1 rfl (Nat.le_of_ble_eq_true rfl) ⟨Nat.le_of_ble_eq_true rfl, Nat.le_of_ble_eq_true rfl⟩ ⟨by show _ + 0 ≤ 601024; omega, by show _ + 0 ≤ 7293000; omega⟩ w (rc_wM_0 w.x) (dq da_law_1 52 rfl) (fun H locs rm w => ?_)
    have w := w.comm
    refine lv_iload hx hb (dq da_law_1 53 rfl) (lv_at hl 1 rfl) ?_
    refine lv_icmp_eq (tgt := 208) hx hb (dq da_law_1 54 rfl) (by decide) (fun c1 => ?_) (fun c1 => absurd h3 c1)
    refine lv_iload hx hb (dq da_law_1 57 rfl) (lv_at hl 1 rfl) ?_
    refine lv_if_ne (tgt := 225) hx hb (dq da_law_1 58 rfl) (by decide) (fun c2 => ?_) (fun c2 => absurd c2 (by decide))
    refine lv_goto (tgt := 1146) hx hb (dq da_law_1 68 rfl) (by decide) ?_
    exact hnext _ _ _ H locs _ _ _ _ ls hS' (by omega) (by omega) (lv_sub hl [2, 3, 4, 5, 6] rfl) w
set_option maxRecDepth 100000 in
set_option maxHeartbeats 8000000 in
theorem lw_wipe {p : Program} {e : Env} {s : State} {m : MethodId} {below : List Frame} {meth : Method} {c : Code} {Q : State → Prop} {D : va_G} {cy : ClassId × ClassId × ClassId} {ad am : Nat → Nat} {ob b L : Nat} {xs : Nat → Int32} {A : Nat → Prop} (l : Launch) (hca : CatchP) (hl0 : l.stackTraces = false) (E : CallFix p m c code 8 s #[Value.ref b] gw RL) (hX : va_X b L xs s s.heap) (hbl : b < s.heap.size) (hbA : ¬ A b) {S : St → St → Prop} {B : St → Nat} (hB : ∀ uC uM, S uC uM → B uC ≤ 500000) (hop : Op_wipe S B) {uC uM : St} (hS : S uC uM) {t j : Nat} (ht : t < 520) (hj : j + 6 ≤ L) (hL9 : L ≤ 3073) {f : Nat → Int64} {H : Heap} {locs : List Loc} {rr rm : Nat → Nat} {cells slots : Nat} {ls : Array Slot} (hc : cells ≤ 100 + B uC + 6 * t) (hs : slots ≤ 500000 + B uC + 6 * t) (hl : lv_has ls 8 [(0, .ref b), (1, .ref (ad 0)), (2, .ref (am 0)), (3, .ref ob), (4, .int (nI j))]) (w : WZ ((wC cy ad rr uC ++ [(ob, .inl (cy.2.2, 1, .inr (.inl f)))]) ++ wM cy am rm uM) D cy A s H locs) (hnext : ∀ (uC uM : St) (f : Nat → Int64) (H : Heap) (locs : List Loc) (rr rm : Nat → Nat) (cells slots : Nat) (ls : Array Slot), S uC uM → cells ≤ 100 + B uC + 6 * (t + 1) → slots ≤ 500000 + B uC + 6 * (t + 1) → lv_has ls 8 [(0, .ref b), (1, .ref (ad 0)), (2, .ref (am 0)), (3, .ref ob), (4, .int (nI j))] → WZ ((wC cy ad rr uC ++ [(ob, .inl (cy.2.2, 1, .inr (.inl f)))]) ++ wM cy am rm uM) D cy A s H locs → W p l e room_1 s m #[Value.ref b] below meth c H locs cells slots Q (F0 m 1146 ls [])) : W p l e room_1 s m #[Value.ref b] below meth c H locs cells slots Q (F0 m 228 ls []) := by
  have hx := E.1
  have hb := E.2.1
  have hown := E.2.2.2.1
  have hts := E.2.2.2.2
  have hB0 := hB _ _ hS
  rcases hop  uC uM hS with ⟨r, uC', rb, uM', h1, h2, h4, hS', hk⟩
  have hB1 := hB _ _ hS'
  refine lv_aload_n hx hb (dq da_law_2 0 rfl) rfl (lv_at hl 1 rfl) ?_
  have cC := c_X11_wipe l D cy ad  uC
  rw [h1] at cC
  have w := w.assoc
  refine zV1 (Wd := wC cy ad) E cC w_301 w_302 w_303 w_1 w_304 rfl hd_X11_wipe rfl hl.1 rfl (Nat.le_of_ble_eq_true rfl) ⟨Nat.le_of_ble_eq_true rfl, Nat.le_of_ble_eq_true rfl⟩ ⟨by show _ + 0 ≤ 601024; omega, by show _ + 0 ≤ 7293000; omega⟩ w (rc_wC_0 w.x) (dq da_law_2 1 rfl) (fun H locs rr w => ?_)
  have w := w.unassoc
  refine lv_aload_n hx hb (dq da_law_2 2 rfl) rfl (lv_at hl 2 rfl) ?_
  have cM := c_X12_wipe l D cy am  uM
  rw [h2] at cM
  have w := w.comm
  refine zV1 (Wd := wM cy am) E cM w_1298 w_1299 w_1300 w_10 w_1301 rfl hd_X12_wipe rfl hl.1 rfl (Nat.le_of_ble_eq_true rfl) ⟨Nat.le_of_ble_eq_true rfl, Nat.le_of_ble_eq_true rfl⟩ ⟨by show _ + 0 ≤ 601024; omega, by show _ + 0 ≤ 7293000; omega⟩ w (rc_wM_0 w.x) (dq da_law_2 3 rfl) (fun H locs rm w => ?_)
  have w := w.comm
  refine lv_icmp_eq (tgt := 1146) hx hb (dq da_law_2 4 rfl) (by decide) (fun c1 => ?_) (fun c1 => absurd h4 c1)
  exact hnext _ _ _ H locs _ _ _ _ ls hS' (by omega) (by omega) (lv_sub hl [0, 1, 2, 3, 4] rfl) w
set_option maxRecDepth 100000 in
set_option maxHeartbeats 8000000 in
theorem lw_load {p : Program} {e : Env} {s : State} {m : MethodId} {below : List Frame} {meth : Method} {c : Code} {Q : State → Prop} {D : va_G} {cy : ClassId × ClassId × ClassId} {ad am : Nat → Nat} {ob b L : Nat} {xs : Nat → Int32} {A : Nat → Prop} (l : Launch) (hca : CatchP) (hl0 : l.stackTraces = false) (E : CallFix p m c code 8 s #[Value.ref b] gw RL) (hX : va_X b L xs s s.heap) (hbl : b < s.heap.size) (hbA : ¬ A b) {S : St → St → Prop} {B : St → Nat} (hB : ∀ uC uM, S uC uM → B uC ≤ 500000) (hop : Op_load S B) {uC uM : St} (hS : S uC uM) {t j : Nat} (ht : t < 520) (hj : j + 6 ≤ L) (hL9 : L ≤ 3073) {f : Nat → Int64} {H : Heap} {locs : List Loc} {rr rm : Nat → Nat} {cells slots : Nat} {ls : Array Slot} (hc : cells ≤ 100 + B uC + 6 * t) (hs : slots ≤ 500000 + B uC + 6 * t) (hl : lv_has ls 8 [(0, .ref b), (1, .ref (ad 0)), (2, .ref (am 0)), (3, .ref ob), (4, .int (nI j))]) (w : WZ ((wC cy ad rr uC ++ [(ob, .inl (cy.2.2, 1, .inr (.inl f)))]) ++ wM cy am rm uM) D cy A s H locs) (hnext : ∀ (uC uM : St) (f : Nat → Int64) (H : Heap) (locs : List Loc) (rr rm : Nat → Nat) (cells slots : Nat) (ls : Array Slot), S uC uM → cells ≤ 100 + B uC + 6 * (t + 1) → slots ≤ 500000 + B uC + 6 * (t + 1) → lv_has ls 8 [(0, .ref b), (1, .ref (ad 0)), (2, .ref (am 0)), (3, .ref ob), (4, .int (nI j))] → WZ ((wC cy ad rr uC ++ [(ob, .inl (cy.2.2, 1, .inr (.inl f)))]) ++ wM cy am rm uM) D cy A s H locs → W p l e room_1 s m #[Value.ref b] below meth c H locs cells slots Q (F0 m 1146 ls [])) : W p l e room_1 s m #[Value.ref b] below meth c H locs cells slots Q (F0 m 241 ls []) := by
  have hx := E.1
  have hb := E.2.1
  have hown := E.2.2.2.1
  have hts := E.2.2.2.2
  have hB0 := hB _ _ hS
  rcases hop  uC uM hS with ⟨r, uC', rb, uM', h1, h2, h4, hS', hk⟩
  have hB1 := hB _ _ hS'
  refine lv_aload_n hx hb (dq da_law_3 0 rfl) rfl (lv_at hl 1 rfl) ?_
  have w := w.assoc
  refine zV1 (Wd := wC cy ad) E (c_X11_load l D cy ad  uC h1) w_313 w_314 w_315 w_1 w_316 rfl hd_X11_load rfl hl.1 rfl (Nat.le_of_ble_eq_true rfl) ⟨Nat.le_of_ble_eq_true rfl, Nat.le_of_ble_eq_true rfl⟩ ⟨by show _ + 0 ≤ 601024; omega, by show _ + 0 ≤ 7293000; omega⟩ w (rc_wC_0 w.x) (dq da_law_3 1 rfl) (fun H locs rr w => ?_)
  have w := w.unassoc
  refine lv_aload_n hx hb (dq da_law_3 2 rfl) rfl (lv_at hl 2 rfl) ?_
  have w := w.comm
  refine zV1 (Wd := wM cy am) E (c_X12_load l D cy am  uM h2) w_1252 w_1253 w_1254 w_10 w_1255 rfl hd_X12_load rfl hl.1 rfl (Nat.le_of_ble_eq_true rfl) ⟨Nat.le_of_ble_eq_true rfl, Nat.le_of_ble_eq_true rfl⟩ ⟨by show _ + 0 ≤ 601024; omega, by show _ + 0 ≤ 7293000; omega⟩ w (rc_wM_0 w.x) (dq da_law_3 3 rfl) (fun H locs rm w => ?_)
  have w := w.comm
  refine lv_icmp_eq (tgt := 1146) hx hb (dq da_law_3 4 rfl) (by decide) (fun c1 => ?_) (fun c1 => absurd h4 c1)
  exact hnext _ _ _ H locs _ _ _ _ ls hS' (by omega) (by omega) (lv_sub hl [0, 1, 2, 3, 4] rfl) w
set_option maxRecDepth 100000 in
set_option maxHeartbeats 8000000 in
theorem lw_type {p : Program} {e : Env} {s : State} {m : MethodId} {below : List Frame} {meth : Method} {c : Code} {Q : State → Prop} {D : va_G} {cy : ClassId × ClassId × ClassId} {ad am : Nat → Nat} {ob b L : Nat} {xs : Nat → Int32} {A : Nat → Prop} (l : Launch) (hca : CatchP) (hl0 : l.stackTraces = false) (E : CallFix p m c code 8 s #[Value.ref b] gw RL) (hX : va_X b L xs s s.heap) (hbl : b < s.heap.size) (hbA : ¬ A b) {S : St → St → Prop} {B : St → Nat} (hB : ∀ uC uM, S uC uM → B uC ≤ 500000) (hop : Op_type S B) {uC uM : St} (hS : S uC uM) {t j : Nat} (ht : t < 520) (hj : j + 6 ≤ L) (hL9 : L ≤ 3073) {f : Nat → Int64} {H : Heap} {locs : List Loc} {rr rm : Nat → Nat} {cells slots : Nat} {ls : Array Slot} (hc : cells ≤ 100 + B uC + 6 * t) (hs : slots ≤ 500000 + B uC + 6 * t) (hl : lv_has ls 8 [(0, .ref b), (1, .ref (ad 0)), (2, .ref (am 0)), (3, .ref ob), (4, .int (nI j))]) (w : WZ ((wC cy ad rr uC ++ [(ob, .inl (cy.2.2, 1, .inr (.inl f)))]) ++ wM cy am rm uM) D cy A s H locs) (hnext : ∀ (uC uM : St) (f : Nat → Int64) (H : Heap) (locs : List Loc) (rr rm : Nat → Nat) (cells slots : Nat) (ls : Array Slot), S uC uM → cells ≤ 100 + B uC + 6 * (t + 1) → slots ≤ 500000 + B uC + 6 * (t + 1) → lv_has ls 8 [(0, .ref b), (1, .ref (ad 0)), (2, .ref (am 0)), (3, .ref ob), (4, .int (nI j))] → WZ ((wC cy ad rr uC ++ [(ob, .inl (cy.2.2, 1, .inr (.inl f)))]) ++ wM cy am rm uM) D cy A s H locs → W p l e room_1 s m #[Value.ref b] below meth c H locs cells slots Q (F0 m 1146 ls [])) : W p l e room_1 s m #[Value.ref b] below meth c H locs cells slots Q (F0 m 254 ls []) := by
  have hx := E.1
  have hb := E.2.1
  have hown := E.2.2.2.1
  have hts := E.2.2.2.2
  have hB0 := hB _ _ hS
  rcases hop  uC uM hS with ⟨r, uC', k', rb, uM', h1, h2, h3, h4, hS', hk⟩ | ⟨rb, uM', h1, h2, h3, hS'⟩
  · have hB1 := hB _ _ hS'
    refine lv_aload_n hx hb (dq da_law_4 0 rfl) rfl (lv_at hl 1 rfl) ?_
    refine lv_aload_n hx hb (dq da_law_4 1 rfl) rfl (lv_at hl 3 rfl) ?_
    refine zH E (c_L_type_R l D cy ad ob f  uC h1) w_472 w_473 w_0 w_474 hd_L_type rfl hl.1 rfl (Nat.le_of_ble_eq_true rfl) ⟨Nat.le_of_ble_eq_true rfl, Nat.le_of_ble_eq_true rfl⟩ ⟨by show cells + k' ≤ 601024; omega, by show slots + k' ≤ 7293000; omega⟩ w (dq da_law_4 2 rfl) (fun H locs rr w => ?_)
    refine lv_istore (lv' := [(5, .int (0 : Int32)), (0, .ref b), (1, .ref (ad 0)), (2, .ref (am 0)), (3, .ref ob), (4, .int (nI j))]) hx hb (dq da_law_4 3 rfl) hl (by decide) rfl (fun ls hl => ?_)
    refine lv_aload_n hx hb (dq da_law_4 4 rfl) rfl (lv_at hl 3 rfl) ?_
    have w := w.comm
    refine zV1 (Wd := wM cy am) E (c_X12_type l D cy am  uM h2) w_1302 w_1303 w_1304 w_10 w_1305 rfl hd_X12_type rfl hl.1 rfl (Nat.le_of_ble_eq_true rfl) ⟨Nat.le_of_ble_eq_true rfl, Nat.le_of_ble_eq_true rfl⟩ ⟨by show _ + 0 ≤ 601024; omega, by show _ + 0 ≤ 7293000; omega⟩ w (rc_wM_0 w.x) (dq da_law_4 5 rfl) (fun H locs rm w => ?_)
    have w := w.comm
    refine lv_istore (lv' := [(6, .int rb), (5, .int (0 : Int32)), (0, .ref b), (1, .ref (ad 0)), (2, .ref (am 0)), (3, .ref ob), (4, .int (nI j))]) hx hb (dq da_law_4 6 rfl) hl (by decide) rfl (fun ls hl => ?_)
    refine lv_aload_n hx hb (dq da_law_4 7 rfl) rfl (lv_at hl 4 rfl) ?_
    have w := w.comm
    refine zV1 (Wd := wM cy am) E (c_X12_thrown l D cy am uM') w_1248 w_1249 w_1250 w_10 w_1251 rfl hd_X12_thrown rfl hl.1 rfl (Nat.le_of_ble_eq_true rfl) ⟨Nat.le_of_ble_eq_true rfl, Nat.le_of_ble_eq_true rfl⟩ ⟨by show _ + 0 ≤ 601024; omega, by show _ + 0 ≤ 7293000; omega⟩ w (rc_wM_0 w.x) (dq da_law_4 8 rfl) (fun H locs rm w => ?_)
    have w := w.comm
    refine lv_iload hx hb (dq da_law_4 9 rfl) (lv_at hl 1 rfl) ?_
    refine lv_icmp_eq (tgt := 278) hx hb (dq da_law_4 10 rfl) (by decide) (fun c1 => ?_) (fun c1 => absurd h3 c1)
    refine lv_iload hx hb (dq da_law_4 13 rfl) (lv_at hl 1 rfl) ?_
    refine lv_if_ne (tgt := 295) hx hb (dq da_law_4 14 rfl) (by decide) (fun c2 => absurd rfl c2) (fun c2 => ?_)
    refine lv_aload_n hx hb (dq da_law_4 15 rfl) rfl (lv_at hl 5 rfl) ?_
    refine lv_iconst (v := 0) hx hb (dq da_law_4 16 rfl) rfl ?_
    refine zld (v := r.toInt64) E w rfl (dq da_law_4 17 rfl) ?_
    refine lv_iload hx hb (dq da_law_4 18 rfl) (lv_at hl 0 rfl) ?_
    refine lv_i2l (v := rb.toInt64) hx hb (dq da_law_4 19 rfl) rfl ?_
    refine lc_eq (tgt := 295) hx hb (dq da_law_4 20 rfl) (dq da_law_4 21 rfl) (by decide) (fun c3 => ?_) (fun c3 => absurd (by rw [h4]) c3)
    refine lv_goto (tgt := 1146) hx hb (dq da_law_4 24 rfl) (by decide) ?_
    exact hnext _ _ _ H locs _ _ _ _ ls hS' (by omega) (by omega) (lv_sub hl [2, 3, 4, 5, 6] rfl) w
  · have hB1 := hB _ _ hS'
    refine lv_aload_n hx hb (dq da_law_4 0 rfl) rfl (lv_at hl 1 rfl) ?_
    refine lv_aload_n hx hb (dq da_law_4 1 rfl) rfl (lv_at hl 3 rfl) ?_
    refine zH E (c_L_type_T1 l hca hl0 D cy ad ob f  uC h1) w_472 w_473 w_0 w_474 hd_L_type rfl hl.1 rfl (Nat.le_of_ble_eq_true rfl) ⟨Nat.le_of_ble_eq_true rfl, Nat.le_of_ble_eq_true rfl⟩ ⟨by show cells + 1 ≤ 601024; omega, by show slots + 6 ≤ 7293000; omega⟩ w (dq da_law_4 2 rfl) (fun H locs rr w => ?_)
    refine lv_istore (lv' := [(5, .int (1 : Int32)), (0, .ref b), (1, .ref (ad 0)), (2, .ref (am 0)), (3, .ref ob), (4, .int (nI j))]) hx hb (dq da_law_4 3 rfl) hl (by decide) rfl (fun ls hl => ?_)
    refine lv_aload_n hx hb (dq da_law_4 4 rfl) rfl (lv_at hl 3 rfl) ?_
    have w := w.comm
    refine zV1 (Wd := wM cy am) E (c_X12_type l D cy am  uM h2) w_1302 w_1303 w_1304 w_10 w_1305 rfl hd_X12_type rfl hl.1 rfl (Nat.le_of_ble_eq_true rfl) ⟨Nat.le_of_ble_eq_true rfl, Nat.le_of_ble_eq_true rfl⟩ ⟨by show _ + 0 ≤ 601024; omega, by show _ + 0 ≤ 7293000; omega⟩ w (rc_wM_0 w.x) (dq da_law_4 5 rfl) (fun H locs rm w => ?_)
    have w := w.comm
    refine lv_istore (lv' := [(6, .int rb), (5, .int (1 : Int32)), (0, .ref b), (1, .ref (ad 0)), (2, .ref (am 0)), (3, .ref ob), (4, .int (nI j))]) hx hb (dq da_law_4 6 rfl) hl (by decide) rfl (fun ls hl => ?_)
    refine lv_aload_n hx hb (dq da_law_4 7 rfl) rfl (lv_at hl 4 rfl) ?_
    have w := w.comm
    refine zV1 (Wd := wM cy am) E (c_X12_thrown l D cy am uM') w_1248 w_1249 w_1250 w_10 w_1251 rfl hd_X12_thrown rfl hl.1 rfl (Nat.le_of_ble_eq_true rfl) ⟨Nat.le_of_ble_eq_true rfl, Nat.le_of_ble_eq_true rfl⟩ ⟨by show _ + 0 ≤ 601024; omega, by show _ + 0 ≤ 7293000; omega⟩ w (rc_wM_0 w.x) (dq da_law_4 8 rfl) (fun H locs rm w => ?_)
    have w := w.comm
    refine lv_iload hx hb (dq da_law_4 9 rfl) (lv_at hl 1 rfl) ?_
    refine lv_icmp_eq (tgt := 278) hx hb (dq da_law_4 10 rfl) (by decide) (fun c1 => ?_) (fun c1 => absurd h3 c1)
    refine lv_iload hx hb (dq da_law_4 13 rfl) (lv_at hl 1 rfl) ?_
    refine lv_if_ne (tgt := 295) hx hb (dq da_law_4 14 rfl) (by decide) (fun c2 => ?_) (fun c2 => absurd c2 (by decide))
    refine lv_goto (tgt := 1146) hx hb (dq da_law_4 24 rfl) (by decide) ?_
    exact hnext _ _ _ H locs _ _ _ _ ls hS' (by omega) (by omega) (lv_sub hl [2, 3, 4, 5, 6] rfl) w
set_option maxRecDepth 100000 in
set_option maxHeartbeats 8000000 in
theorem lw_poke {p : Program} {e : Env} {s : State} {m : MethodId} {below : List Frame} {meth : Method} {c : Code} {Q : State → Prop} {D : va_G} {cy : ClassId × ClassId × ClassId} {ad am : Nat → Nat} {ob b L : Nat} {xs : Nat → Int32} {A : Nat → Prop} (l : Launch) (hca : CatchP) (hl0 : l.stackTraces = false) (E : CallFix p m c code 8 s #[Value.ref b] gw RL) (hX : va_X b L xs s s.heap) (hbl : b < s.heap.size) (hbA : ¬ A b) {S : St → St → Prop} {B : St → Nat} (hB : ∀ uC uM, S uC uM → B uC ≤ 500000) (hop : Op_poke S B) {uC uM : St} (hS : S uC uM) {t j : Nat} (ht : t < 520) (hj : j + 6 ≤ L) (hL9 : L ≤ 3073) {f : Nat → Int64} {H : Heap} {locs : List Loc} {rr rm : Nat → Nat} {cells slots : Nat} {ls : Array Slot} (hc : cells ≤ 100 + B uC + 6 * t) (hs : slots ≤ 500000 + B uC + 6 * t) (hl : lv_has ls 8 [(0, .ref b), (1, .ref (ad 0)), (2, .ref (am 0)), (3, .ref ob), (4, .int (nI j))]) (w : WZ ((wC cy ad rr uC ++ [(ob, .inl (cy.2.2, 1, .inr (.inl f)))]) ++ wM cy am rm uM) D cy A s H locs) (hnext : ∀ (uC uM : St) (f : Nat → Int64) (H : Heap) (locs : List Loc) (rr rm : Nat → Nat) (cells slots : Nat) (ls : Array Slot), S uC uM → cells ≤ 100 + B uC + 6 * (t + 1) → slots ≤ 500000 + B uC + 6 * (t + 1) → lv_has ls 8 [(0, .ref b), (1, .ref (ad 0)), (2, .ref (am 0)), (3, .ref ob), (4, .int (nI j))] → WZ ((wC cy ad rr uC ++ [(ob, .inl (cy.2.2, 1, .inr (.inl f)))]) ++ wM cy am rm uM) D cy A s H locs → W p l e room_1 s m #[Value.ref b] below meth c H locs cells slots Q (F0 m 1146 ls [])) : W p l e room_1 s m #[Value.ref b] below meth c H locs cells slots Q (F0 m 298 ls []) := by
  have hx := E.1
  have hb := E.2.1
  have hown := E.2.2.2.1
  have hts := E.2.2.2.2
  have hB0 := hB _ _ hS
  rcases hop (j_lshl (xs (nI j + 1).toNatClampNeg).toInt64 32 ||| ((xs (nI j + 2).toNatClampNeg).toInt64 &&& (4294967295 : Int64))) (xs (nI j + 3).toNatClampNeg) (j_lshl (xs (nI j + 4).toNatClampNeg).toInt64 32 ||| ((xs (nI j + 5).toNatClampNeg).toInt64 &&& (4294967295 : Int64))) uC uM hS with ⟨uC', uM', h1, h2, h3, hS', hk⟩ | ⟨uM', h1, h2, h3, hS'⟩ | ⟨uM', h1, h2, h3, hS'⟩
  · have hB1 := hB _ _ hS'
    refine lv_aload_n hx hb (dq da_law_5 0 rfl) rfl (lv_at hl 1 rfl) ?_
    refine lv_aload_n hx hb (dq da_law_5 1 rfl) rfl (lv_at hl 0 rfl) ?_
    refine lv_iload hx hb (dq da_law_5 2 rfl) (lv_at hl 4 rfl) ?_
    refine lv_iconst (v := 1) hx hb (dq da_law_5 3 rfl) rfl ?_
    refine lv_iadd hx hb (dq da_law_5 4 rfl) ?_
    refine va_sld hx hb hX hbl hbA w.2.2.1 (sx1 hj hL9) (dq da_law_5 5 rfl) ?_
    refine lv_i2l (v := (xs (nI j + 1).toNatClampNeg).toInt64) hx hb (dq da_law_5 6 rfl) rfl ?_
    refine lv_bipush (v := 32) hx hb (dq da_law_5 7 rfl) rfl ?_
    refine lv_lshl (v := (j_lshl ((xs (nI j + 1).toNatClampNeg).toInt64) 32)) hx hb (dq da_law_5 8 rfl) rfl ?_
    refine lv_aload_n hx hb (dq da_law_5 9 rfl) rfl (lv_at hl 0 rfl) ?_
    refine lv_iload hx hb (dq da_law_5 10 rfl) (lv_at hl 4 rfl) ?_
    refine lv_iconst (v := 2) hx hb (dq da_law_5 11 rfl) rfl ?_
    refine lv_iadd hx hb (dq da_law_5 12 rfl) ?_
    refine va_sld hx hb hX hbl hbA w.2.2.1 (sx2 hj hL9) (dq da_law_5 13 rfl) ?_
    refine lv_i2l (v := (xs (nI j + 2).toNatClampNeg).toInt64) hx hb (dq da_law_5 14 rfl) rfl ?_
    refine lv_ldc2 hx hb hown (hts _ w_1656) (dq da_law_5 15 rfl) ?_
    refine lv_land hx hb (dq da_law_5 16 rfl) ?_
    refine lv_lor hx hb (dq da_law_5 17 rfl) ?_
    refine lv_aload_n hx hb (dq da_law_5 18 rfl) rfl (lv_at hl 0 rfl) ?_
    refine lv_iload hx hb (dq da_law_5 19 rfl) (lv_at hl 4 rfl) ?_
    refine lv_iconst (v := 3) hx hb (dq da_law_5 20 rfl) rfl ?_
    refine lv_iadd hx hb (dq da_law_5 21 rfl) ?_
    refine va_sld hx hb hX hbl hbA w.2.2.1 (sx3 hj hL9) (dq da_law_5 22 rfl) ?_
    refine lv_aload_n hx hb (dq da_law_5 23 rfl) rfl (lv_at hl 0 rfl) ?_
    refine lv_iload hx hb (dq da_law_5 24 rfl) (lv_at hl 4 rfl) ?_
    refine lv_iconst (v := 4) hx hb (dq da_law_5 25 rfl) rfl ?_
    refine lv_iadd hx hb (dq da_law_5 26 rfl) ?_
    refine va_sld hx hb hX hbl hbA w.2.2.1 (sx4 hj hL9) (dq da_law_5 27 rfl) ?_
    refine lv_i2l (v := (xs (nI j + 4).toNatClampNeg).toInt64) hx hb (dq da_law_5 28 rfl) rfl ?_
    refine lv_bipush (v := 32) hx hb (dq da_law_5 29 rfl) rfl ?_
    refine lv_lshl (v := (j_lshl ((xs (nI j + 4).toNatClampNeg).toInt64) 32)) hx hb (dq da_law_5 30 rfl) rfl ?_
    refine lv_aload_n hx hb (dq da_law_5 31 rfl) rfl (lv_at hl 0 rfl) ?_
    refine lv_iload hx hb (dq da_law_5 32 rfl) (lv_at hl 4 rfl) ?_
    refine lv_iconst (v := 5) hx hb (dq da_law_5 33 rfl) rfl ?_
    refine lv_iadd hx hb (dq da_law_5 34 rfl) ?_
    refine va_sld hx hb hX hbl hbA w.2.2.1 (sx5 hj hL9) (dq da_law_5 35 rfl) ?_
    refine lv_i2l (v := (xs (nI j + 5).toNatClampNeg).toInt64) hx hb (dq da_law_5 36 rfl) rfl ?_
    refine lv_ldc2 hx hb hown (hts _ w_1656) (dq da_law_5 37 rfl) ?_
    refine lv_land hx hb (dq da_law_5 38 rfl) ?_
    refine lv_lor hx hb (dq da_law_5 39 rfl) ?_
    have w := w.toC
    refine zH (G := []) E (c_L_poke_R l D cy ad _ _ _ uC h1) w_493 w_494 w_0 w_495 hd_L_poke rfl hl.1 rfl (Nat.le_of_ble_eq_true rfl) ⟨Nat.le_of_ble_eq_true rfl, Nat.le_of_ble_eq_true rfl⟩ ⟨by show cells + 0 ≤ 601024; omega, by show slots + 0 ≤ 7293000; omega⟩ w (dq da_law_5 40 rfl) (fun H locs rr w => ?_)
    have w := w.fromC
    refine lv_istore (lv' := [(5, .int (0 : Int32)), (0, .ref b), (1, .ref (ad 0)), (2, .ref (am 0)), (3, .ref ob), (4, .int (nI j))]) hx hb (dq da_law_5 41 rfl) hl (by decide) rfl (fun ls hl => ?_)
    refine lv_aload_n hx hb (dq da_law_5 42 rfl) rfl (lv_at hl 3 rfl) ?_
    refine lv_aload_n hx hb (dq da_law_5 43 rfl) rfl (lv_at hl 1 rfl) ?_
    refine lv_iload hx hb (dq da_law_5 44 rfl) (lv_at hl 5 rfl) ?_
    refine lv_iconst (v := 1) hx hb (dq da_law_5 45 rfl) rfl ?_
    refine lv_iadd hx hb (dq da_law_5 46 rfl) ?_
    refine va_sld hx hb hX hbl hbA w.2.2.1 (sx1 hj hL9) (dq da_law_5 47 rfl) ?_
    refine lv_i2l (v := (xs (nI j + 1).toNatClampNeg).toInt64) hx hb (dq da_law_5 48 rfl) rfl ?_
    refine lv_bipush (v := 32) hx hb (dq da_law_5 49 rfl) rfl ?_
    refine lv_lshl (v := (j_lshl ((xs (nI j + 1).toNatClampNeg).toInt64) 32)) hx hb (dq da_law_5 50 rfl) rfl ?_
    refine lv_aload_n hx hb (dq da_law_5 51 rfl) rfl (lv_at hl 1 rfl) ?_
    refine lv_iload hx hb (dq da_law_5 52 rfl) (lv_at hl 5 rfl) ?_
    refine lv_iconst (v := 2) hx hb (dq da_law_5 53 rfl) rfl ?_
    refine lv_iadd hx hb (dq da_law_5 54 rfl) ?_
    refine va_sld hx hb hX hbl hbA w.2.2.1 (sx2 hj hL9) (dq da_law_5 55 rfl) ?_
    refine lv_i2l (v := (xs (nI j + 2).toNatClampNeg).toInt64) hx hb (dq da_law_5 56 rfl) rfl ?_
    refine lv_ldc2 hx hb hown (hts _ w_1656) (dq da_law_5 57 rfl) ?_
    refine lv_land hx hb (dq da_law_5 58 rfl) ?_
    refine lv_lor hx hb (dq da_law_5 59 rfl) ?_
    refine lv_aload_n hx hb (dq da_law_5 60 rfl) rfl (lv_at hl 1 rfl) ?_
    refine lv_iload hx hb (dq da_law_5 61 rfl) (lv_at hl 5 rfl) ?_
    refine lv_iconst (v := 3) hx hb (dq da_law_5 62 rfl) rfl ?_
    refine lv_iadd hx hb (dq da_law_5 63 rfl) ?_
    refine va_sld hx hb hX hbl hbA w.2.2.1 (sx3 hj hL9) (dq da_law_5 64 rfl) ?_
    refine lv_aload_n hx hb (dq da_law_5 65 rfl) rfl (lv_at hl 1 rfl) ?_
    refine lv_iload hx hb (dq da_law_5 66 rfl) (lv_at hl 5 rfl) ?_
    refine lv_iconst (v := 4) hx hb (dq da_law_5 67 rfl) rfl ?_
    refine lv_iadd hx hb (dq da_law_5 68 rfl) ?_
    refine va_sld hx hb hX hbl hbA w.2.2.1 (sx4 hj hL9) (dq da_law_5 69 rfl) ?_
    refine lv_i2l (v := (xs (nI j + 4).toNatClampNeg).toInt64) hx hb (dq da_law_5 70 rfl) rfl ?_
    refine lv_bipush (v := 32) hx hb (dq da_law_5 71 rfl) rfl ?_
    refine lv_lshl (v := (j_lshl ((xs (nI j + 4).toNatClampNeg).toInt64) 32)) hx hb (dq da_law_5 72 rfl) rfl ?_
    refine lv_aload_n hx hb (dq da_law_5 73 rfl) rfl (lv_at hl 1 rfl) ?_
    refine lv_iload hx hb (dq da_law_5 74 rfl) (lv_at hl 5 rfl) ?_
    refine lv_iconst (v := 5) hx hb (dq da_law_5 75 rfl) rfl ?_
    refine lv_iadd hx hb (dq da_law_5 76 rfl) ?_
    refine va_sld hx hb hX hbl hbA w.2.2.1 (sx5 hj hL9) (dq da_law_5 77 rfl) ?_
    refine lv_i2l (v := (xs (nI j + 5).toNatClampNeg).toInt64) hx hb (dq da_law_5 78 rfl) rfl ?_
    refine lv_ldc2 hx hb hown (hts _ w_1656) (dq da_law_5 79 rfl) ?_
    refine lv_land hx hb (dq da_law_5 80 rfl) ?_
    refine lv_lor hx hb (dq da_law_5 81 rfl) ?_
    have w := w.comm
    refine zV0 (Wd := wM cy am) E (c_X12_poke l D cy am _ _ _ uM h2) w_1310 w_1311 w_1312 w_10 w_1313 rfl hd_X12_poke rfl hl.1 rfl (Nat.le_of_ble_eq_true rfl) ⟨Nat.le_of_ble_eq_true rfl, Nat.le_of_ble_eq_true rfl⟩ ⟨by show _ + 0 ≤ 601024; omega, by show _ + 0 ≤ 7293000; omega⟩ w (rc_wM_0 w.x) (dq da_law_5 82 rfl) (fun H locs rm w => ?_)
    have w := w.comm
    refine lv_aload_n hx hb (dq da_law_5 83 rfl) rfl (lv_at hl 3 rfl) ?_
    have w := w.comm
    refine zV1 (Wd := wM cy am) E (c_X12_thrown l D cy am uM') w_1248 w_1249 w_1250 w_10 w_1251 rfl hd_X12_thrown rfl hl.1 rfl (Nat.le_of_ble_eq_true rfl) ⟨Nat.le_of_ble_eq_true rfl, Nat.le_of_ble_eq_true rfl⟩ ⟨by show _ + 0 ≤ 601024; omega, by show _ + 0 ≤ 7293000; omega⟩ w (rc_wM_0 w.x) (dq da_law_5 84 rfl) (fun H locs rm w => ?_)
    have w := w.comm
    refine lv_iload hx hb (dq da_law_5 85 rfl) (lv_at hl 0 rfl) ?_
    refine lv_icmp_eq (tgt := 419) hx hb (dq da_law_5 86 rfl) (by decide) (fun c1 => ?_) (fun c1 => absurd h3 c1)
    refine lv_goto (tgt := 1146) hx hb (dq da_law_5 89 rfl) (by decide) ?_
    exact hnext _ _ _ H locs _ _ _ _ ls hS' (by omega) (by omega) (lv_sub hl [1, 2, 3, 4, 5] rfl) w
  · have hB1 := hB _ _ hS'
    refine lv_aload_n hx hb (dq da_law_5 0 rfl) rfl (lv_at hl 1 rfl) ?_
    refine lv_aload_n hx hb (dq da_law_5 1 rfl) rfl (lv_at hl 0 rfl) ?_
    refine lv_iload hx hb (dq da_law_5 2 rfl) (lv_at hl 4 rfl) ?_
    refine lv_iconst (v := 1) hx hb (dq da_law_5 3 rfl) rfl ?_
    refine lv_iadd hx hb (dq da_law_5 4 rfl) ?_
    refine va_sld hx hb hX hbl hbA w.2.2.1 (sx1 hj hL9) (dq da_law_5 5 rfl) ?_
    refine lv_i2l (v := (xs (nI j + 1).toNatClampNeg).toInt64) hx hb (dq da_law_5 6 rfl) rfl ?_
    refine lv_bipush (v := 32) hx hb (dq da_law_5 7 rfl) rfl ?_
    refine lv_lshl (v := (j_lshl ((xs (nI j + 1).toNatClampNeg).toInt64) 32)) hx hb (dq da_law_5 8 rfl) rfl ?_
    refine lv_aload_n hx hb (dq da_law_5 9 rfl) rfl (lv_at hl 0 rfl) ?_
    refine lv_iload hx hb (dq da_law_5 10 rfl) (lv_at hl 4 rfl) ?_
    refine lv_iconst (v := 2) hx hb (dq da_law_5 11 rfl) rfl ?_
    refine lv_iadd hx hb (dq da_law_5 12 rfl) ?_
    refine va_sld hx hb hX hbl hbA w.2.2.1 (sx2 hj hL9) (dq da_law_5 13 rfl) ?_
    refine lv_i2l (v := (xs (nI j + 2).toNatClampNeg).toInt64) hx hb (dq da_law_5 14 rfl) rfl ?_
    refine lv_ldc2 hx hb hown (hts _ w_1656) (dq da_law_5 15 rfl) ?_
    refine lv_land hx hb (dq da_law_5 16 rfl) ?_
    refine lv_lor hx hb (dq da_law_5 17 rfl) ?_
    refine lv_aload_n hx hb (dq da_law_5 18 rfl) rfl (lv_at hl 0 rfl) ?_
    refine lv_iload hx hb (dq da_law_5 19 rfl) (lv_at hl 4 rfl) ?_
    refine lv_iconst (v := 3) hx hb (dq da_law_5 20 rfl) rfl ?_
    refine lv_iadd hx hb (dq da_law_5 21 rfl) ?_
    refine va_sld hx hb hX hbl hbA w.2.2.1 (sx3 hj hL9) (dq da_law_5 22 rfl) ?_
    refine lv_aload_n hx hb (dq da_law_5 23 rfl) rfl (lv_at hl 0 rfl) ?_
    refine lv_iload hx hb (dq da_law_5 24 rfl) (lv_at hl 4 rfl) ?_
    refine lv_iconst (v := 4) hx hb (dq da_law_5 25 rfl) rfl ?_
    refine lv_iadd hx hb (dq da_law_5 26 rfl) ?_
    refine va_sld hx hb hX hbl hbA w.2.2.1 (sx4 hj hL9) (dq da_law_5 27 rfl) ?_
    refine lv_i2l (v := (xs (nI j + 4).toNatClampNeg).toInt64) hx hb (dq da_law_5 28 rfl) rfl ?_
    refine lv_bipush (v := 32) hx hb (dq da_law_5 29 rfl) rfl ?_
    refine lv_lshl (v := (j_lshl ((xs (nI j + 4).toNatClampNeg).toInt64) 32)) hx hb (dq da_law_5 30 rfl) rfl ?_
    refine lv_aload_n hx hb (dq da_law_5 31 rfl) rfl (lv_at hl 0 rfl) ?_
    refine lv_iload hx hb (dq da_law_5 32 rfl) (lv_at hl 4 rfl) ?_
    refine lv_iconst (v := 5) hx hb (dq da_law_5 33 rfl) rfl ?_
    refine lv_iadd hx hb (dq da_law_5 34 rfl) ?_
    refine va_sld hx hb hX hbl hbA w.2.2.1 (sx5 hj hL9) (dq da_law_5 35 rfl) ?_
    refine lv_i2l (v := (xs (nI j + 5).toNatClampNeg).toInt64) hx hb (dq da_law_5 36 rfl) rfl ?_
    refine lv_ldc2 hx hb hown (hts _ w_1656) (dq da_law_5 37 rfl) ?_
    refine lv_land hx hb (dq da_law_5 38 rfl) ?_
    refine lv_lor hx hb (dq da_law_5 39 rfl) ?_
    have w := w.toC
    refine zH (G := []) E (c_L_poke_T0 l hca hl0 D cy ad _ _ _ uC h1) w_493 w_494 w_0 w_495 hd_L_poke rfl hl.1 rfl (Nat.le_of_ble_eq_true rfl) ⟨Nat.le_of_ble_eq_true rfl, Nat.le_of_ble_eq_true rfl⟩ ⟨by show cells + 1 ≤ 601024; omega, by show slots + 6 ≤ 7293000; omega⟩ w (dq da_law_5 40 rfl) (fun H locs rr w => ?_)
    have w := w.fromC
    refine lv_istore (lv' := [(5, .int (1 : Int32)), (0, .ref b), (1, .ref (ad 0)), (2, .ref (am 0)), (3, .ref ob), (4, .int (nI j))]) hx hb (dq da_law_5 41 rfl) hl (by decide) rfl (fun ls hl => ?_)
    refine lv_aload_n hx hb (dq da_law_5 42 rfl) rfl (lv_at hl 3 rfl) ?_
    refine lv_aload_n hx hb (dq da_law_5 43 rfl) rfl (lv_at hl 1 rfl) ?_
    refine lv_iload hx hb (dq da_law_5 44 rfl) (lv_at hl 5 rfl) ?_
    refine lv_iconst (v := 1) hx hb (dq da_law_5 45 rfl) rfl ?_
    refine lv_iadd hx hb (dq da_law_5 46 rfl) ?_
    refine va_sld hx hb hX hbl hbA w.2.2.1 (sx1 hj hL9) (dq da_law_5 47 rfl) ?_
    refine lv_i2l (v := (xs (nI j + 1).toNatClampNeg).toInt64) hx hb (dq da_law_5 48 rfl) rfl ?_
    refine lv_bipush (v := 32) hx hb (dq da_law_5 49 rfl) rfl ?_
    refine lv_lshl (v := (j_lshl ((xs (nI j + 1).toNatClampNeg).toInt64) 32)) hx hb (dq da_law_5 50 rfl) rfl ?_
    refine lv_aload_n hx hb (dq da_law_5 51 rfl) rfl (lv_at hl 1 rfl) ?_
    refine lv_iload hx hb (dq da_law_5 52 rfl) (lv_at hl 5 rfl) ?_
    refine lv_iconst (v := 2) hx hb (dq da_law_5 53 rfl) rfl ?_
    refine lv_iadd hx hb (dq da_law_5 54 rfl) ?_
    refine va_sld hx hb hX hbl hbA w.2.2.1 (sx2 hj hL9) (dq da_law_5 55 rfl) ?_
    refine lv_i2l (v := (xs (nI j + 2).toNatClampNeg).toInt64) hx hb (dq da_law_5 56 rfl) rfl ?_
    refine lv_ldc2 hx hb hown (hts _ w_1656) (dq da_law_5 57 rfl) ?_
    refine lv_land hx hb (dq da_law_5 58 rfl) ?_
    refine lv_lor hx hb (dq da_law_5 59 rfl) ?_
    refine lv_aload_n hx hb (dq da_law_5 60 rfl) rfl (lv_at hl 1 rfl) ?_
    refine lv_iload hx hb (dq da_law_5 61 rfl) (lv_at hl 5 rfl) ?_
    refine lv_iconst (v := 3) hx hb (dq da_law_5 62 rfl) rfl ?_
    refine lv_iadd hx hb (dq da_law_5 63 rfl) ?_
    refine va_sld hx hb hX hbl hbA w.2.2.1 (sx3 hj hL9) (dq da_law_5 64 rfl) ?_
    refine lv_aload_n hx hb (dq da_law_5 65 rfl) rfl (lv_at hl 1 rfl) ?_
    refine lv_iload hx hb (dq da_law_5 66 rfl) (lv_at hl 5 rfl) ?_
    refine lv_iconst (v := 4) hx hb (dq da_law_5 67 rfl) rfl ?_
    refine lv_iadd hx hb (dq da_law_5 68 rfl) ?_
    refine va_sld hx hb hX hbl hbA w.2.2.1 (sx4 hj hL9) (dq da_law_5 69 rfl) ?_
    refine lv_i2l (v := (xs (nI j + 4).toNatClampNeg).toInt64) hx hb (dq da_law_5 70 rfl) rfl ?_
    refine lv_bipush (v := 32) hx hb (dq da_law_5 71 rfl) rfl ?_
    refine lv_lshl (v := (j_lshl ((xs (nI j + 4).toNatClampNeg).toInt64) 32)) hx hb (dq da_law_5 72 rfl) rfl ?_
    refine lv_aload_n hx hb (dq da_law_5 73 rfl) rfl (lv_at hl 1 rfl) ?_
    refine lv_iload hx hb (dq da_law_5 74 rfl) (lv_at hl 5 rfl) ?_
    refine lv_iconst (v := 5) hx hb (dq da_law_5 75 rfl) rfl ?_
    refine lv_iadd hx hb (dq da_law_5 76 rfl) ?_
    refine va_sld hx hb hX hbl hbA w.2.2.1 (sx5 hj hL9) (dq da_law_5 77 rfl) ?_
    refine lv_i2l (v := (xs (nI j + 5).toNatClampNeg).toInt64) hx hb (dq da_law_5 78 rfl) rfl ?_
    refine lv_ldc2 hx hb hown (hts _ w_1656) (dq da_law_5 79 rfl) ?_
    refine lv_land hx hb (dq da_law_5 80 rfl) ?_
    refine lv_lor hx hb (dq da_law_5 81 rfl) ?_
    have w := w.comm
    refine zV0 (Wd := wM cy am) E (c_X12_poke l D cy am _ _ _ uM h2) w_1310 w_1311 w_1312 w_10 w_1313 rfl hd_X12_poke rfl hl.1 rfl (Nat.le_of_ble_eq_true rfl) ⟨Nat.le_of_ble_eq_true rfl, Nat.le_of_ble_eq_true rfl⟩ ⟨by show _ + 0 ≤ 601024; omega, by show _ + 0 ≤ 7293000; omega⟩ w (rc_wM_0 w.x) (dq da_law_5 82 rfl) (fun H locs rm w => ?_)
    have w := w.comm
    refine lv_aload_n hx hb (dq da_law_5 83 rfl) rfl (lv_at hl 3 rfl) ?_
    have w := w.comm
    refine zV1 (Wd := wM cy am) E (c_X12_thrown l D cy am uM') w_1248 w_1249 w_1250 w_10 w_1251 rfl hd_X12_thrown rfl hl.1 rfl (Nat.le_of_ble_eq_true rfl) ⟨Nat.le_of_ble_eq_true rfl, Nat.le_of_ble_eq_true rfl⟩ ⟨by show _ + 0 ≤ 601024; omega, by show _ + 0 ≤ 7293000; omega⟩ w (rc_wM_0 w.x) (dq da_law_5 84 rfl) (fun H locs rm w => ?_)
    have w := w.comm
    refine lv_iload hx hb (dq da_law_5 85 rfl) (lv_at hl 0 rfl) ?_
    refine lv_icmp_eq (tgt := 419) hx hb (dq da_law_5 86 rfl) (by decide) (fun c1 => ?_) (fun c1 => absurd h3 c1)
    refine lv_goto (tgt := 1146) hx hb (dq da_law_5 89 rfl) (by decide) ?_
    exact hnext _ _ _ H locs _ _ _ _ ls hS' (by omega) (by omega) (lv_sub hl [1, 2, 3, 4, 5] rfl) w
  · have hB1 := hB _ _ hS'
    refine lv_aload_n hx hb (dq da_law_5 0 rfl) rfl (lv_at hl 1 rfl) ?_
    refine lv_aload_n hx hb (dq da_law_5 1 rfl) rfl (lv_at hl 0 rfl) ?_
    refine lv_iload hx hb (dq da_law_5 2 rfl) (lv_at hl 4 rfl) ?_
    refine lv_iconst (v := 1) hx hb (dq da_law_5 3 rfl) rfl ?_
    refine lv_iadd hx hb (dq da_law_5 4 rfl) ?_
    refine va_sld hx hb hX hbl hbA w.2.2.1 (sx1 hj hL9) (dq da_law_5 5 rfl) ?_
    refine lv_i2l (v := (xs (nI j + 1).toNatClampNeg).toInt64) hx hb (dq da_law_5 6 rfl) rfl ?_
    refine lv_bipush (v := 32) hx hb (dq da_law_5 7 rfl) rfl ?_
    refine lv_lshl (v := (j_lshl ((xs (nI j + 1).toNatClampNeg).toInt64) 32)) hx hb (dq da_law_5 8 rfl) rfl ?_
    refine lv_aload_n hx hb (dq da_law_5 9 rfl) rfl (lv_at hl 0 rfl) ?_
    refine lv_iload hx hb (dq da_law_5 10 rfl) (lv_at hl 4 rfl) ?_
    refine lv_iconst (v := 2) hx hb (dq da_law_5 11 rfl) rfl ?_
    refine lv_iadd hx hb (dq da_law_5 12 rfl) ?_
    refine va_sld hx hb hX hbl hbA w.2.2.1 (sx2 hj hL9) (dq da_law_5 13 rfl) ?_
    refine lv_i2l (v := (xs (nI j + 2).toNatClampNeg).toInt64) hx hb (dq da_law_5 14 rfl) rfl ?_
    refine lv_ldc2 hx hb hown (hts _ w_1656) (dq da_law_5 15 rfl) ?_
    refine lv_land hx hb (dq da_law_5 16 rfl) ?_
    refine lv_lor hx hb (dq da_law_5 17 rfl) ?_
    refine lv_aload_n hx hb (dq da_law_5 18 rfl) rfl (lv_at hl 0 rfl) ?_
    refine lv_iload hx hb (dq da_law_5 19 rfl) (lv_at hl 4 rfl) ?_
    refine lv_iconst (v := 3) hx hb (dq da_law_5 20 rfl) rfl ?_
    refine lv_iadd hx hb (dq da_law_5 21 rfl) ?_
    refine va_sld hx hb hX hbl hbA w.2.2.1 (sx3 hj hL9) (dq da_law_5 22 rfl) ?_
    refine lv_aload_n hx hb (dq da_law_5 23 rfl) rfl (lv_at hl 0 rfl) ?_
    refine lv_iload hx hb (dq da_law_5 24 rfl) (lv_at hl 4 rfl) ?_
    refine lv_iconst (v := 4) hx hb (dq da_law_5 25 rfl) rfl ?_
    refine lv_iadd hx hb (dq da_law_5 26 rfl) ?_
    refine va_sld hx hb hX hbl hbA w.2.2.1 (sx4 hj hL9) (dq da_law_5 27 rfl) ?_
    refine lv_i2l (v := (xs (nI j + 4).toNatClampNeg).toInt64) hx hb (dq da_law_5 28 rfl) rfl ?_
    refine lv_bipush (v := 32) hx hb (dq da_law_5 29 rfl) rfl ?_
    refine lv_lshl (v := (j_lshl ((xs (nI j + 4).toNatClampNeg).toInt64) 32)) hx hb (dq da_law_5 30 rfl) rfl ?_
    refine lv_aload_n hx hb (dq da_law_5 31 rfl) rfl (lv_at hl 0 rfl) ?_
    refine lv_iload hx hb (dq da_law_5 32 rfl) (lv_at hl 4 rfl) ?_
    refine lv_iconst (v := 5) hx hb (dq da_law_5 33 rfl) rfl ?_
    refine lv_iadd hx hb (dq da_law_5 34 rfl) ?_
    refine va_sld hx hb hX hbl hbA w.2.2.1 (sx5 hj hL9) (dq da_law_5 35 rfl) ?_
    refine lv_i2l (v := (xs (nI j + 5).toNatClampNeg).toInt64) hx hb (dq da_law_5 36 rfl) rfl ?_
    refine lv_ldc2 hx hb hown (hts _ w_1656) (dq da_law_5 37 rfl) ?_
    refine lv_land hx hb (dq da_law_5 38 rfl) ?_
    refine lv_lor hx hb (dq da_law_5 39 rfl) ?_
    have w := w.toC
    refine zH (G := []) E (c_L_poke_T2 l hca hl0 D cy ad _ _ _ uC h1) w_493 w_494 w_0 w_495 hd_L_poke rfl hl.1 rfl (Nat.le_of_ble_eq_true rfl) ⟨Nat.le_of_ble_eq_true rfl, Nat.le_of_ble_eq_true rfl⟩ ⟨by show cells + 1 ≤ 601024; omega, by show slots + 6 ≤ 7293000; omega⟩ w (dq da_law_5 40 rfl) (fun H locs rr w => ?_)
    have w := w.fromC
    refine lv_istore (lv' := [(5, .int (2 : Int32)), (0, .ref b), (1, .ref (ad 0)), (2, .ref (am 0)), (3, .ref ob), (4, .int (nI j))]) hx hb (dq da_law_5 41 rfl) hl (by decide) rfl (fun ls hl => ?_)
    refine lv_aload_n hx hb (dq da_law_5 42 rfl) rfl (lv_at hl 3 rfl) ?_
    refine lv_aload_n hx hb (dq da_law_5 43 rfl) rfl (lv_at hl 1 rfl) ?_
    refine lv_iload hx hb (dq da_law_5 44 rfl) (lv_at hl 5 rfl) ?_
    refine lv_iconst (v := 1) hx hb (dq da_law_5 45 rfl) rfl ?_
    refine lv_iadd hx hb (dq da_law_5 46 rfl) ?_
    refine va_sld hx hb hX hbl hbA w.2.2.1 (sx1 hj hL9) (dq da_law_5 47 rfl) ?_
    refine lv_i2l (v := (xs (nI j + 1).toNatClampNeg).toInt64) hx hb (dq da_law_5 48 rfl) rfl ?_
    refine lv_bipush (v := 32) hx hb (dq da_law_5 49 rfl) rfl ?_
    refine lv_lshl (v := (j_lshl ((xs (nI j + 1).toNatClampNeg).toInt64) 32)) hx hb (dq da_law_5 50 rfl) rfl ?_
    refine lv_aload_n hx hb (dq da_law_5 51 rfl) rfl (lv_at hl 1 rfl) ?_
    refine lv_iload hx hb (dq da_law_5 52 rfl) (lv_at hl 5 rfl) ?_
    refine lv_iconst (v := 2) hx hb (dq da_law_5 53 rfl) rfl ?_
    refine lv_iadd hx hb (dq da_law_5 54 rfl) ?_
    refine va_sld hx hb hX hbl hbA w.2.2.1 (sx2 hj hL9) (dq da_law_5 55 rfl) ?_
    refine lv_i2l (v := (xs (nI j + 2).toNatClampNeg).toInt64) hx hb (dq da_law_5 56 rfl) rfl ?_
    refine lv_ldc2 hx hb hown (hts _ w_1656) (dq da_law_5 57 rfl) ?_
    refine lv_land hx hb (dq da_law_5 58 rfl) ?_
    refine lv_lor hx hb (dq da_law_5 59 rfl) ?_
    refine lv_aload_n hx hb (dq da_law_5 60 rfl) rfl (lv_at hl 1 rfl) ?_
    refine lv_iload hx hb (dq da_law_5 61 rfl) (lv_at hl 5 rfl) ?_
    refine lv_iconst (v := 3) hx hb (dq da_law_5 62 rfl) rfl ?_
    refine lv_iadd hx hb (dq da_law_5 63 rfl) ?_
    refine va_sld hx hb hX hbl hbA w.2.2.1 (sx3 hj hL9) (dq da_law_5 64 rfl) ?_
    refine lv_aload_n hx hb (dq da_law_5 65 rfl) rfl (lv_at hl 1 rfl) ?_
    refine lv_iload hx hb (dq da_law_5 66 rfl) (lv_at hl 5 rfl) ?_
    refine lv_iconst (v := 4) hx hb (dq da_law_5 67 rfl) rfl ?_
    refine lv_iadd hx hb (dq da_law_5 68 rfl) ?_
    refine va_sld hx hb hX hbl hbA w.2.2.1 (sx4 hj hL9) (dq da_law_5 69 rfl) ?_
    refine lv_i2l (v := (xs (nI j + 4).toNatClampNeg).toInt64) hx hb (dq da_law_5 70 rfl) rfl ?_
    refine lv_bipush (v := 32) hx hb (dq da_law_5 71 rfl) rfl ?_
    refine lv_lshl (v := (j_lshl ((xs (nI j + 4).toNatClampNeg).toInt64) 32)) hx hb (dq da_law_5 72 rfl) rfl ?_
    refine lv_aload_n hx hb (dq da_law_5 73 rfl) rfl (lv_at hl 1 rfl) ?_
    refine lv_iload hx hb (dq da_law_5 74 rfl) (lv_at hl 5 rfl) ?_
    refine lv_iconst (v := 5) hx hb (dq da_law_5 75 rfl) rfl ?_
    refine lv_iadd hx hb (dq da_law_5 76 rfl) ?_
    refine va_sld hx hb hX hbl hbA w.2.2.1 (sx5 hj hL9) (dq da_law_5 77 rfl) ?_
    refine lv_i2l (v := (xs (nI j + 5).toNatClampNeg).toInt64) hx hb (dq da_law_5 78 rfl) rfl ?_
    refine lv_ldc2 hx hb hown (hts _ w_1656) (dq da_law_5 79 rfl) ?_
    refine lv_land hx hb (dq da_law_5 80 rfl) ?_
    refine lv_lor hx hb (dq da_law_5 81 rfl) ?_
    have w := w.comm
    refine zV0 (Wd := wM cy am) E (c_X12_poke l D cy am _ _ _ uM h2) w_1310 w_1311 w_1312 w_10 w_1313 rfl hd_X12_poke rfl hl.1 rfl (Nat.le_of_ble_eq_true rfl) ⟨Nat.le_of_ble_eq_true rfl, Nat.le_of_ble_eq_true rfl⟩ ⟨by show _ + 0 ≤ 601024; omega, by show _ + 0 ≤ 7293000; omega⟩ w (rc_wM_0 w.x) (dq da_law_5 82 rfl) (fun H locs rm w => ?_)
    have w := w.comm
    refine lv_aload_n hx hb (dq da_law_5 83 rfl) rfl (lv_at hl 3 rfl) ?_
    have w := w.comm
    refine zV1 (Wd := wM cy am) E (c_X12_thrown l D cy am uM') w_1248 w_1249 w_1250 w_10 w_1251 rfl hd_X12_thrown rfl hl.1 rfl (Nat.le_of_ble_eq_true rfl) ⟨Nat.le_of_ble_eq_true rfl, Nat.le_of_ble_eq_true rfl⟩ ⟨by show _ + 0 ≤ 601024; omega, by show _ + 0 ≤ 7293000; omega⟩ w (rc_wM_0 w.x) (dq da_law_5 84 rfl) (fun H locs rm w => ?_)
    have w := w.comm
    refine lv_iload hx hb (dq da_law_5 85 rfl) (lv_at hl 0 rfl) ?_
    refine lv_icmp_eq (tgt := 419) hx hb (dq da_law_5 86 rfl) (by decide) (fun c1 => ?_) (fun c1 => absurd h3 c1)
    refine lv_goto (tgt := 1146) hx hb (dq da_law_5 89 rfl) (by decide) ?_
    exact hnext _ _ _ H locs _ _ _ _ ls hS' (by omega) (by omega) (lv_sub hl [1, 2, 3, 4, 5] rfl) w
set_option maxRecDepth 100000 in
set_option maxHeartbeats 8000000 in
theorem lw_peek {p : Program} {e : Env} {s : State} {m : MethodId} {below : List Frame} {meth : Method} {c : Code} {Q : State → Prop} {D : va_G} {cy : ClassId × ClassId × ClassId} {ad am : Nat → Nat} {ob b L : Nat} {xs : Nat → Int32} {A : Nat → Prop} (l : Launch) (hca : CatchP) (hl0 : l.stackTraces = false) (E : CallFix p m c code 8 s #[Value.ref b] gw RL) (hX : va_X b L xs s s.heap) (hbl : b < s.heap.size) (hbA : ¬ A b) {S : St → St → Prop} {B : St → Nat} (hB : ∀ uC uM, S uC uM → B uC ≤ 500000) (hop : Op_peek S B) {uC uM : St} (hS : S uC uM) {t j : Nat} (ht : t < 520) (hj : j + 6 ≤ L) (hL9 : L ≤ 3073) {f : Nat → Int64} {H : Heap} {locs : List Loc} {rr rm : Nat → Nat} {cells slots : Nat} {ls : Array Slot} (hc : cells ≤ 100 + B uC + 6 * t) (hs : slots ≤ 500000 + B uC + 6 * t) (hl : lv_has ls 8 [(0, .ref b), (1, .ref (ad 0)), (2, .ref (am 0)), (3, .ref ob), (4, .int (nI j))]) (w : WZ ((wC cy ad rr uC ++ [(ob, .inl (cy.2.2, 1, .inr (.inl f)))]) ++ wM cy am rm uM) D cy A s H locs) (hnext : ∀ (uC uM : St) (f : Nat → Int64) (H : Heap) (locs : List Loc) (rr rm : Nat → Nat) (cells slots : Nat) (ls : Array Slot), S uC uM → cells ≤ 100 + B uC + 6 * (t + 1) → slots ≤ 500000 + B uC + 6 * (t + 1) → lv_has ls 8 [(0, .ref b), (1, .ref (ad 0)), (2, .ref (am 0)), (3, .ref ob), (4, .int (nI j))] → WZ ((wC cy ad rr uC ++ [(ob, .inl (cy.2.2, 1, .inr (.inl f)))]) ++ wM cy am rm uM) D cy A s H locs → W p l e room_1 s m #[Value.ref b] below meth c H locs cells slots Q (F0 m 1146 ls [])) : W p l e room_1 s m #[Value.ref b] below meth c H locs cells slots Q (F0 m 422 ls []) := by
  have hx := E.1
  have hb := E.2.1
  have hown := E.2.2.2.1
  have hts := E.2.2.2.2
  have hB0 := hB _ _ hS
  rcases hop (j_lshl (xs (nI j + 1).toNatClampNeg).toInt64 32 ||| ((xs (nI j + 2).toNatClampNeg).toInt64 &&& (4294967295 : Int64))) uC uM hS with ⟨r, rb, uM', h1, h2, h3, h4, hS'⟩ | ⟨rb, uM', h1, h2, h3, hS'⟩
  · have hB1 := hB _ _ hS'
    refine lv_aload_n hx hb (dq da_law_6 0 rfl) rfl (lv_at hl 1 rfl) ?_
    refine lv_aload_n hx hb (dq da_law_6 1 rfl) rfl (lv_at hl 0 rfl) ?_
    refine lv_iload hx hb (dq da_law_6 2 rfl) (lv_at hl 4 rfl) ?_
    refine lv_iconst (v := 1) hx hb (dq da_law_6 3 rfl) rfl ?_
    refine lv_iadd hx hb (dq da_law_6 4 rfl) ?_
    refine va_sld hx hb hX hbl hbA w.2.2.1 (sx1 hj hL9) (dq da_law_6 5 rfl) ?_
    refine lv_i2l (v := (xs (nI j + 1).toNatClampNeg).toInt64) hx hb (dq da_law_6 6 rfl) rfl ?_
    refine lv_bipush (v := 32) hx hb (dq da_law_6 7 rfl) rfl ?_
    refine lv_lshl (v := (j_lshl ((xs (nI j + 1).toNatClampNeg).toInt64) 32)) hx hb (dq da_law_6 8 rfl) rfl ?_
    refine lv_aload_n hx hb (dq da_law_6 9 rfl) rfl (lv_at hl 0 rfl) ?_
    refine lv_iload hx hb (dq da_law_6 10 rfl) (lv_at hl 4 rfl) ?_
    refine lv_iconst (v := 2) hx hb (dq da_law_6 11 rfl) rfl ?_
    refine lv_iadd hx hb (dq da_law_6 12 rfl) ?_
    refine va_sld hx hb hX hbl hbA w.2.2.1 (sx2 hj hL9) (dq da_law_6 13 rfl) ?_
    refine lv_i2l (v := (xs (nI j + 2).toNatClampNeg).toInt64) hx hb (dq da_law_6 14 rfl) rfl ?_
    refine lv_ldc2 hx hb hown (hts _ w_1656) (dq da_law_6 15 rfl) ?_
    refine lv_land hx hb (dq da_law_6 16 rfl) ?_
    refine lv_lor hx hb (dq da_law_6 17 rfl) ?_
    refine lv_aload_n hx hb (dq da_law_6 18 rfl) rfl (lv_at hl 3 rfl) ?_
    refine zH E (c_L_peek_R l D cy ad ob f _ uC h1) w_517 w_518 w_0 w_519 hd_L_peek rfl hl.1 rfl (Nat.le_of_ble_eq_true rfl) ⟨Nat.le_of_ble_eq_true rfl, Nat.le_of_ble_eq_true rfl⟩ ⟨by show cells + 0 ≤ 601024; omega, by show slots + 0 ≤ 7293000; omega⟩ w (dq da_law_6 19 rfl) (fun H locs rr w => ?_)
    refine lv_istore (lv' := [(5, .int (0 : Int32)), (0, .ref b), (1, .ref (ad 0)), (2, .ref (am 0)), (3, .ref ob), (4, .int (nI j))]) hx hb (dq da_law_6 20 rfl) hl (by decide) rfl (fun ls hl => ?_)
    refine lv_aload_n hx hb (dq da_law_6 21 rfl) rfl (lv_at hl 3 rfl) ?_
    refine lv_aload_n hx hb (dq da_law_6 22 rfl) rfl (lv_at hl 1 rfl) ?_
    refine lv_iload hx hb (dq da_law_6 23 rfl) (lv_at hl 5 rfl) ?_
    refine lv_iconst (v := 1) hx hb (dq da_law_6 24 rfl) rfl ?_
    refine lv_iadd hx hb (dq da_law_6 25 rfl) ?_
    refine va_sld hx hb hX hbl hbA w.2.2.1 (sx1 hj hL9) (dq da_law_6 26 rfl) ?_
    refine lv_i2l (v := (xs (nI j + 1).toNatClampNeg).toInt64) hx hb (dq da_law_6 27 rfl) rfl ?_
    refine lv_bipush (v := 32) hx hb (dq da_law_6 28 rfl) rfl ?_
    refine lv_lshl (v := (j_lshl ((xs (nI j + 1).toNatClampNeg).toInt64) 32)) hx hb (dq da_law_6 29 rfl) rfl ?_
    refine lv_aload_n hx hb (dq da_law_6 30 rfl) rfl (lv_at hl 1 rfl) ?_
    refine lv_iload hx hb (dq da_law_6 31 rfl) (lv_at hl 5 rfl) ?_
    refine lv_iconst (v := 2) hx hb (dq da_law_6 32 rfl) rfl ?_
    refine lv_iadd hx hb (dq da_law_6 33 rfl) ?_
    refine va_sld hx hb hX hbl hbA w.2.2.1 (sx2 hj hL9) (dq da_law_6 34 rfl) ?_
    refine lv_i2l (v := (xs (nI j + 2).toNatClampNeg).toInt64) hx hb (dq da_law_6 35 rfl) rfl ?_
    refine lv_ldc2 hx hb hown (hts _ w_1656) (dq da_law_6 36 rfl) ?_
    refine lv_land hx hb (dq da_law_6 37 rfl) ?_
    refine lv_lor hx hb (dq da_law_6 38 rfl) ?_
    have w := w.comm
    refine zV1 (Wd := wM cy am) E (c_X12_peek l D cy am _ uM h2) w_1318 w_1319 w_1320 w_10 w_1321 rfl hd_X12_peek rfl hl.1 rfl (Nat.le_of_ble_eq_true rfl) ⟨Nat.le_of_ble_eq_true rfl, Nat.le_of_ble_eq_true rfl⟩ ⟨by show _ + 0 ≤ 601024; omega, by show _ + 0 ≤ 7293000; omega⟩ w (rc_wM_0 w.x) (dq da_law_6 39 rfl) (fun H locs rm w => ?_)
    have w := w.comm
    refine lv_lstore (lv' := [(6, .long rb), (5, .int (0 : Int32)), (0, .ref b), (1, .ref (ad 0)), (2, .ref (am 0)), (3, .ref ob), (4, .int (nI j))]) hx hb (dq da_law_6 40 rfl) hl (by decide) rfl (fun ls hl => ?_)
    refine lv_aload_n hx hb (dq da_law_6 41 rfl) rfl (lv_at hl 4 rfl) ?_
    have w := w.comm
    refine zV1 (Wd := wM cy am) E (c_X12_thrown l D cy am uM') w_1248 w_1249 w_1250 w_10 w_1251 rfl hd_X12_thrown rfl hl.1 rfl (Nat.le_of_ble_eq_true rfl) ⟨Nat.le_of_ble_eq_true rfl, Nat.le_of_ble_eq_true rfl⟩ ⟨by show _ + 0 ≤ 601024; omega, by show _ + 0 ≤ 7293000; omega⟩ w (rc_wM_0 w.x) (dq da_law_6 42 rfl) (fun H locs rm w => ?_)
    have w := w.comm
    refine lv_iload hx hb (dq da_law_6 43 rfl) (lv_at hl 1 rfl) ?_
    refine lv_icmp_eq (tgt := 490) hx hb (dq da_law_6 44 rfl) (by decide) (fun c1 => ?_) (fun c1 => absurd h3 c1)
    refine lv_iload hx hb (dq da_law_6 47 rfl) (lv_at hl 1 rfl) ?_
    refine lv_if_ne (tgt := 506) hx hb (dq da_law_6 48 rfl) (by decide) (fun c2 => absurd rfl c2) (fun c2 => ?_)
    refine lv_aload_n hx hb (dq da_law_6 49 rfl) rfl (lv_at hl 5 rfl) ?_
    refine lv_iconst (v := 0) hx hb (dq da_law_6 50 rfl) rfl ?_
    refine zld (v := r) E w rfl (dq da_law_6 51 rfl) ?_
    refine lv_lload hx hb (dq da_law_6 52 rfl) (lv_at hl 0 rfl) ?_
    refine lc_eq (tgt := 506) hx hb (dq da_law_6 53 rfl) (dq da_law_6 54 rfl) (by decide) (fun c3 => ?_) (fun c3 => absurd (by rw [h4]) c3)
    refine lv_goto (tgt := 1146) hx hb (dq da_law_6 57 rfl) (by decide) ?_
    exact hnext _ _ _ H locs _ _ _ _ ls hS' (by omega) (by omega) (lv_sub hl [2, 3, 4, 5, 6] rfl) w
  · have hB1 := hB _ _ hS'
    refine lv_aload_n hx hb (dq da_law_6 0 rfl) rfl (lv_at hl 1 rfl) ?_
    refine lv_aload_n hx hb (dq da_law_6 1 rfl) rfl (lv_at hl 0 rfl) ?_
    refine lv_iload hx hb (dq da_law_6 2 rfl) (lv_at hl 4 rfl) ?_
    refine lv_iconst (v := 1) hx hb (dq da_law_6 3 rfl) rfl ?_
    refine lv_iadd hx hb (dq da_law_6 4 rfl) ?_
    refine va_sld hx hb hX hbl hbA w.2.2.1 (sx1 hj hL9) (dq da_law_6 5 rfl) ?_
    refine lv_i2l (v := (xs (nI j + 1).toNatClampNeg).toInt64) hx hb (dq da_law_6 6 rfl) rfl ?_
    refine lv_bipush (v := 32) hx hb (dq da_law_6 7 rfl) rfl ?_
    refine lv_lshl (v := (j_lshl ((xs (nI j + 1).toNatClampNeg).toInt64) 32)) hx hb (dq da_law_6 8 rfl) rfl ?_
    refine lv_aload_n hx hb (dq da_law_6 9 rfl) rfl (lv_at hl 0 rfl) ?_
    refine lv_iload hx hb (dq da_law_6 10 rfl) (lv_at hl 4 rfl) ?_
    refine lv_iconst (v := 2) hx hb (dq da_law_6 11 rfl) rfl ?_
    refine lv_iadd hx hb (dq da_law_6 12 rfl) ?_
    refine va_sld hx hb hX hbl hbA w.2.2.1 (sx2 hj hL9) (dq da_law_6 13 rfl) ?_
    refine lv_i2l (v := (xs (nI j + 2).toNatClampNeg).toInt64) hx hb (dq da_law_6 14 rfl) rfl ?_
    refine lv_ldc2 hx hb hown (hts _ w_1656) (dq da_law_6 15 rfl) ?_
    refine lv_land hx hb (dq da_law_6 16 rfl) ?_
    refine lv_lor hx hb (dq da_law_6 17 rfl) ?_
    refine lv_aload_n hx hb (dq da_law_6 18 rfl) rfl (lv_at hl 3 rfl) ?_
    refine zH E (c_L_peek_T2 l hca hl0 D cy ad ob f _ uC h1) w_517 w_518 w_0 w_519 hd_L_peek rfl hl.1 rfl (Nat.le_of_ble_eq_true rfl) ⟨Nat.le_of_ble_eq_true rfl, Nat.le_of_ble_eq_true rfl⟩ ⟨by show cells + 1 ≤ 601024; omega, by show slots + 6 ≤ 7293000; omega⟩ w (dq da_law_6 19 rfl) (fun H locs rr w => ?_)
    refine lv_istore (lv' := [(5, .int (1 : Int32)), (0, .ref b), (1, .ref (ad 0)), (2, .ref (am 0)), (3, .ref ob), (4, .int (nI j))]) hx hb (dq da_law_6 20 rfl) hl (by decide) rfl (fun ls hl => ?_)
    refine lv_aload_n hx hb (dq da_law_6 21 rfl) rfl (lv_at hl 3 rfl) ?_
    refine lv_aload_n hx hb (dq da_law_6 22 rfl) rfl (lv_at hl 1 rfl) ?_
    refine lv_iload hx hb (dq da_law_6 23 rfl) (lv_at hl 5 rfl) ?_
    refine lv_iconst (v := 1) hx hb (dq da_law_6 24 rfl) rfl ?_
    refine lv_iadd hx hb (dq da_law_6 25 rfl) ?_
    refine va_sld hx hb hX hbl hbA w.2.2.1 (sx1 hj hL9) (dq da_law_6 26 rfl) ?_
    refine lv_i2l (v := (xs (nI j + 1).toNatClampNeg).toInt64) hx hb (dq da_law_6 27 rfl) rfl ?_
    refine lv_bipush (v := 32) hx hb (dq da_law_6 28 rfl) rfl ?_
    refine lv_lshl (v := (j_lshl ((xs (nI j + 1).toNatClampNeg).toInt64) 32)) hx hb (dq da_law_6 29 rfl) rfl ?_
    refine lv_aload_n hx hb (dq da_law_6 30 rfl) rfl (lv_at hl 1 rfl) ?_
    refine lv_iload hx hb (dq da_law_6 31 rfl) (lv_at hl 5 rfl) ?_
    refine lv_iconst (v := 2) hx hb (dq da_law_6 32 rfl) rfl ?_
    refine lv_iadd hx hb (dq da_law_6 33 rfl) ?_
    refine va_sld hx hb hX hbl hbA w.2.2.1 (sx2 hj hL9) (dq da_law_6 34 rfl) ?_
    refine lv_i2l (v := (xs (nI j + 2).toNatClampNeg).toInt64) hx hb (dq da_law_6 35 rfl) rfl ?_
    refine lv_ldc2 hx hb hown (hts _ w_1656) (dq da_law_6 36 rfl) ?_
    refine lv_land hx hb (dq da_law_6 37 rfl) ?_
    refine lv_lor hx hb (dq da_law_6 38 rfl) ?_
    have w := w.comm
    refine zV1 (Wd := wM cy am) E (c_X12_peek l D cy am _ uM h2) w_1318 w_1319 w_1320 w_10 w_1321 rfl hd_X12_peek rfl hl.1 rfl (Nat.le_of_ble_eq_true rfl) ⟨Nat.le_of_ble_eq_true rfl, Nat.le_of_ble_eq_true rfl⟩ ⟨by show _ + 0 ≤ 601024; omega, by show _ + 0 ≤ 7293000; omega⟩ w (rc_wM_0 w.x) (dq da_law_6 39 rfl) (fun H locs rm w => ?_)
    have w := w.comm
    refine lv_lstore (lv' := [(6, .long rb), (5, .int (1 : Int32)), (0, .ref b), (1, .ref (ad 0)), (2, .ref (am 0)), (3, .ref ob), (4, .int (nI j))]) hx hb (dq da_law_6 40 rfl) hl (by decide) rfl (fun ls hl => ?_)
    refine lv_aload_n hx hb (dq da_law_6 41 rfl) rfl (lv_at hl 4 rfl) ?_
    have w := w.comm
    refine zV1 (Wd := wM cy am) E (c_X12_thrown l D cy am uM') w_1248 w_1249 w_1250 w_10 w_1251 rfl hd_X12_thrown rfl hl.1 rfl (Nat.le_of_ble_eq_true rfl) ⟨Nat.le_of_ble_eq_true rfl, Nat.le_of_ble_eq_true rfl⟩ ⟨by show _ + 0 ≤ 601024; omega, by show _ + 0 ≤ 7293000; omega⟩ w (rc_wM_0 w.x) (dq da_law_6 42 rfl) (fun H locs rm w => ?_)
    have w := w.comm
    refine lv_iload hx hb (dq da_law_6 43 rfl) (lv_at hl 1 rfl) ?_
    refine lv_icmp_eq (tgt := 490) hx hb (dq da_law_6 44 rfl) (by decide) (fun c1 => ?_) (fun c1 => absurd h3 c1)
    refine lv_iload hx hb (dq da_law_6 47 rfl) (lv_at hl 1 rfl) ?_
    refine lv_if_ne (tgt := 506) hx hb (dq da_law_6 48 rfl) (by decide) (fun c2 => ?_) (fun c2 => absurd c2 (by decide))
    refine lv_goto (tgt := 1146) hx hb (dq da_law_6 57 rfl) (by decide) ?_
    exact hnext _ _ _ H locs _ _ _ _ ls hS' (by omega) (by omega) (lv_sub hl [2, 3, 4, 5, 6] rfl) w
set_option maxRecDepth 100000 in
set_option maxHeartbeats 8000000 in
theorem lw_set {p : Program} {e : Env} {s : State} {m : MethodId} {below : List Frame} {meth : Method} {c : Code} {Q : State → Prop} {D : va_G} {cy : ClassId × ClassId × ClassId} {ad am : Nat → Nat} {ob b L : Nat} {xs : Nat → Int32} {A : Nat → Prop} (l : Launch) (hca : CatchP) (hl0 : l.stackTraces = false) (E : CallFix p m c code 8 s #[Value.ref b] gw RL) (hX : va_X b L xs s s.heap) (hbl : b < s.heap.size) (hbA : ¬ A b) {S : St → St → Prop} {B : St → Nat} (hB : ∀ uC uM, S uC uM → B uC ≤ 500000) (hop : Op_set S B) {uC uM : St} (hS : S uC uM) {t j : Nat} (ht : t < 520) (hj : j + 6 ≤ L) (hL9 : L ≤ 3073) {f : Nat → Int64} {H : Heap} {locs : List Loc} {rr rm : Nat → Nat} {cells slots : Nat} {ls : Array Slot} (hc : cells ≤ 100 + B uC + 6 * t) (hs : slots ≤ 500000 + B uC + 6 * t) (hl : lv_has ls 8 [(0, .ref b), (1, .ref (ad 0)), (2, .ref (am 0)), (3, .ref ob), (4, .int (nI j))]) (w : WZ ((wC cy ad rr uC ++ [(ob, .inl (cy.2.2, 1, .inr (.inl f)))]) ++ wM cy am rm uM) D cy A s H locs) (hnext : ∀ (uC uM : St) (f : Nat → Int64) (H : Heap) (locs : List Loc) (rr rm : Nat → Nat) (cells slots : Nat) (ls : Array Slot), S uC uM → cells ≤ 100 + B uC + 6 * (t + 1) → slots ≤ 500000 + B uC + 6 * (t + 1) → lv_has ls 8 [(0, .ref b), (1, .ref (ad 0)), (2, .ref (am 0)), (3, .ref ob), (4, .int (nI j))] → WZ ((wC cy ad rr uC ++ [(ob, .inl (cy.2.2, 1, .inr (.inl f)))]) ++ wM cy am rm uM) D cy A s H locs → W p l e room_1 s m #[Value.ref b] below meth c H locs cells slots Q (F0 m 1146 ls [])) : W p l e room_1 s m #[Value.ref b] below meth c H locs cells slots Q (F0 m 509 ls []) := by
  have hx := E.1
  have hb := E.2.1
  have hown := E.2.2.2.1
  have hts := E.2.2.2.2
  have hB0 := hB _ _ hS
  rcases hop (xs (nI j + 1).toNatClampNeg) (j_lshl (xs (nI j + 2).toNatClampNeg).toInt64 32 ||| ((xs (nI j + 3).toNatClampNeg).toInt64 &&& (4294967295 : Int64))) uC uM hS with ⟨uC', uM', h1, h2, h3, hS', hk⟩ | ⟨uM', h1, h2, h3, hS'⟩
  · have hB1 := hB _ _ hS'
    refine lv_aload_n hx hb (dq da_law_7 0 rfl) rfl (lv_at hl 1 rfl) ?_
    refine lv_aload_n hx hb (dq da_law_7 1 rfl) rfl (lv_at hl 0 rfl) ?_
    refine lv_iload hx hb (dq da_law_7 2 rfl) (lv_at hl 4 rfl) ?_
    refine lv_iconst (v := 1) hx hb (dq da_law_7 3 rfl) rfl ?_
    refine lv_iadd hx hb (dq da_law_7 4 rfl) ?_
    refine va_sld hx hb hX hbl hbA w.2.2.1 (sx1 hj hL9) (dq da_law_7 5 rfl) ?_
    refine lv_aload_n hx hb (dq da_law_7 6 rfl) rfl (lv_at hl 0 rfl) ?_
    refine lv_iload hx hb (dq da_law_7 7 rfl) (lv_at hl 4 rfl) ?_
    refine lv_iconst (v := 2) hx hb (dq da_law_7 8 rfl) rfl ?_
    refine lv_iadd hx hb (dq da_law_7 9 rfl) ?_
    refine va_sld hx hb hX hbl hbA w.2.2.1 (sx2 hj hL9) (dq da_law_7 10 rfl) ?_
    refine lv_i2l (v := (xs (nI j + 2).toNatClampNeg).toInt64) hx hb (dq da_law_7 11 rfl) rfl ?_
    refine lv_bipush (v := 32) hx hb (dq da_law_7 12 rfl) rfl ?_
    refine lv_lshl (v := (j_lshl ((xs (nI j + 2).toNatClampNeg).toInt64) 32)) hx hb (dq da_law_7 13 rfl) rfl ?_
    refine lv_aload_n hx hb (dq da_law_7 14 rfl) rfl (lv_at hl 0 rfl) ?_
    refine lv_iload hx hb (dq da_law_7 15 rfl) (lv_at hl 4 rfl) ?_
    refine lv_iconst (v := 3) hx hb (dq da_law_7 16 rfl) rfl ?_
    refine lv_iadd hx hb (dq da_law_7 17 rfl) ?_
    refine va_sld hx hb hX hbl hbA w.2.2.1 (sx3 hj hL9) (dq da_law_7 18 rfl) ?_
    refine lv_i2l (v := (xs (nI j + 3).toNatClampNeg).toInt64) hx hb (dq da_law_7 19 rfl) rfl ?_
    refine lv_ldc2 hx hb hown (hts _ w_1656) (dq da_law_7 20 rfl) ?_
    refine lv_land hx hb (dq da_law_7 21 rfl) ?_
    refine lv_lor hx hb (dq da_law_7 22 rfl) ?_
    have w := w.toC
    refine zH (G := []) E (c_L_set_R l D cy ad _ _ uC h1) w_528 w_529 w_0 w_530 hd_L_set rfl hl.1 rfl (Nat.le_of_ble_eq_true rfl) ⟨Nat.le_of_ble_eq_true rfl, Nat.le_of_ble_eq_true rfl⟩ ⟨by show cells + 0 ≤ 601024; omega, by show slots + 0 ≤ 7293000; omega⟩ w (dq da_law_7 23 rfl) (fun H locs rr w => ?_)
    have w := w.fromC
    refine lv_istore (lv' := [(5, .int (0 : Int32)), (0, .ref b), (1, .ref (ad 0)), (2, .ref (am 0)), (3, .ref ob), (4, .int (nI j))]) hx hb (dq da_law_7 24 rfl) hl (by decide) rfl (fun ls hl => ?_)
    refine lv_aload_n hx hb (dq da_law_7 25 rfl) rfl (lv_at hl 3 rfl) ?_
    refine lv_aload_n hx hb (dq da_law_7 26 rfl) rfl (lv_at hl 1 rfl) ?_
    refine lv_iload hx hb (dq da_law_7 27 rfl) (lv_at hl 5 rfl) ?_
    refine lv_iconst (v := 1) hx hb (dq da_law_7 28 rfl) rfl ?_
    refine lv_iadd hx hb (dq da_law_7 29 rfl) ?_
    refine va_sld hx hb hX hbl hbA w.2.2.1 (sx1 hj hL9) (dq da_law_7 30 rfl) ?_
    refine lv_aload_n hx hb (dq da_law_7 31 rfl) rfl (lv_at hl 1 rfl) ?_
    refine lv_iload hx hb (dq da_law_7 32 rfl) (lv_at hl 5 rfl) ?_
    refine lv_iconst (v := 2) hx hb (dq da_law_7 33 rfl) rfl ?_
    refine lv_iadd hx hb (dq da_law_7 34 rfl) ?_
    refine va_sld hx hb hX hbl hbA w.2.2.1 (sx2 hj hL9) (dq da_law_7 35 rfl) ?_
    refine lv_i2l (v := (xs (nI j + 2).toNatClampNeg).toInt64) hx hb (dq da_law_7 36 rfl) rfl ?_
    refine lv_bipush (v := 32) hx hb (dq da_law_7 37 rfl) rfl ?_
    refine lv_lshl (v := (j_lshl ((xs (nI j + 2).toNatClampNeg).toInt64) 32)) hx hb (dq da_law_7 38 rfl) rfl ?_
    refine lv_aload_n hx hb (dq da_law_7 39 rfl) rfl (lv_at hl 1 rfl) ?_
    refine lv_iload hx hb (dq da_law_7 40 rfl) (lv_at hl 5 rfl) ?_
    refine lv_iconst (v := 3) hx hb (dq da_law_7 41 rfl) rfl ?_
    refine lv_iadd hx hb (dq da_law_7 42 rfl) ?_
    refine va_sld hx hb hX hbl hbA w.2.2.1 (sx3 hj hL9) (dq da_law_7 43 rfl) ?_
    refine lv_i2l (v := (xs (nI j + 3).toNatClampNeg).toInt64) hx hb (dq da_law_7 44 rfl) rfl ?_
    refine lv_ldc2 hx hb hown (hts _ w_1656) (dq da_law_7 45 rfl) ?_
    refine lv_land hx hb (dq da_law_7 46 rfl) ?_
    refine lv_lor hx hb (dq da_law_7 47 rfl) ?_
    have w := w.comm
    refine zV0 (Wd := wM cy am) E (c_X12_set l D cy am _ _ uM h2) w_1326 w_1327 w_1328 w_10 w_1329 rfl hd_X12_set rfl hl.1 rfl (Nat.le_of_ble_eq_true rfl) ⟨Nat.le_of_ble_eq_true rfl, Nat.le_of_ble_eq_true rfl⟩ ⟨by show _ + 0 ≤ 601024; omega, by show _ + 0 ≤ 7293000; omega⟩ w (rc_wM_0 w.x) (dq da_law_7 48 rfl) (fun H locs rm w => ?_)
    have w := w.comm
    refine lv_aload_n hx hb (dq da_law_7 49 rfl) rfl (lv_at hl 3 rfl) ?_
    have w := w.comm
    refine zV1 (Wd := wM cy am) E (c_X12_thrown l D cy am uM') w_1248 w_1249 w_1250 w_10 w_1251 rfl hd_X12_thrown rfl hl.1 rfl (Nat.le_of_ble_eq_true rfl) ⟨Nat.le_of_ble_eq_true rfl, Nat.le_of_ble_eq_true rfl⟩ ⟨by show _ + 0 ≤ 601024; omega, by show _ + 0 ≤ 7293000; omega⟩ w (rc_wM_0 w.x) (dq da_law_7 50 rfl) (fun H locs rm w => ?_)
    have w := w.comm
    refine lv_iload hx hb (dq da_law_7 51 rfl) (lv_at hl 0 rfl) ?_
    refine lv_icmp_eq (tgt := 586) hx hb (dq da_law_7 52 rfl) (by decide) (fun c1 => ?_) (fun c1 => absurd h3 c1)
    refine lv_goto (tgt := 1146) hx hb (dq da_law_7 55 rfl) (by decide) ?_
    exact hnext _ _ _ H locs _ _ _ _ ls hS' (by omega) (by omega) (lv_sub hl [1, 2, 3, 4, 5] rfl) w
  · have hB1 := hB _ _ hS'
    refine lv_aload_n hx hb (dq da_law_7 0 rfl) rfl (lv_at hl 1 rfl) ?_
    refine lv_aload_n hx hb (dq da_law_7 1 rfl) rfl (lv_at hl 0 rfl) ?_
    refine lv_iload hx hb (dq da_law_7 2 rfl) (lv_at hl 4 rfl) ?_
    refine lv_iconst (v := 1) hx hb (dq da_law_7 3 rfl) rfl ?_
    refine lv_iadd hx hb (dq da_law_7 4 rfl) ?_
    refine va_sld hx hb hX hbl hbA w.2.2.1 (sx1 hj hL9) (dq da_law_7 5 rfl) ?_
    refine lv_aload_n hx hb (dq da_law_7 6 rfl) rfl (lv_at hl 0 rfl) ?_
    refine lv_iload hx hb (dq da_law_7 7 rfl) (lv_at hl 4 rfl) ?_
    refine lv_iconst (v := 2) hx hb (dq da_law_7 8 rfl) rfl ?_
    refine lv_iadd hx hb (dq da_law_7 9 rfl) ?_
    refine va_sld hx hb hX hbl hbA w.2.2.1 (sx2 hj hL9) (dq da_law_7 10 rfl) ?_
    refine lv_i2l (v := (xs (nI j + 2).toNatClampNeg).toInt64) hx hb (dq da_law_7 11 rfl) rfl ?_
    refine lv_bipush (v := 32) hx hb (dq da_law_7 12 rfl) rfl ?_
    refine lv_lshl (v := (j_lshl ((xs (nI j + 2).toNatClampNeg).toInt64) 32)) hx hb (dq da_law_7 13 rfl) rfl ?_
    refine lv_aload_n hx hb (dq da_law_7 14 rfl) rfl (lv_at hl 0 rfl) ?_
    refine lv_iload hx hb (dq da_law_7 15 rfl) (lv_at hl 4 rfl) ?_
    refine lv_iconst (v := 3) hx hb (dq da_law_7 16 rfl) rfl ?_
    refine lv_iadd hx hb (dq da_law_7 17 rfl) ?_
    refine va_sld hx hb hX hbl hbA w.2.2.1 (sx3 hj hL9) (dq da_law_7 18 rfl) ?_
    refine lv_i2l (v := (xs (nI j + 3).toNatClampNeg).toInt64) hx hb (dq da_law_7 19 rfl) rfl ?_
    refine lv_ldc2 hx hb hown (hts _ w_1656) (dq da_law_7 20 rfl) ?_
    refine lv_land hx hb (dq da_law_7 21 rfl) ?_
    refine lv_lor hx hb (dq da_law_7 22 rfl) ?_
    have w := w.toC
    refine zH (G := []) E (c_L_set_T0 l hca hl0 D cy ad _ _ uC h1) w_528 w_529 w_0 w_530 hd_L_set rfl hl.1 rfl (Nat.le_of_ble_eq_true rfl) ⟨Nat.le_of_ble_eq_true rfl, Nat.le_of_ble_eq_true rfl⟩ ⟨by show cells + 1 ≤ 601024; omega, by show slots + 6 ≤ 7293000; omega⟩ w (dq da_law_7 23 rfl) (fun H locs rr w => ?_)
    have w := w.fromC
    refine lv_istore (lv' := [(5, .int (1 : Int32)), (0, .ref b), (1, .ref (ad 0)), (2, .ref (am 0)), (3, .ref ob), (4, .int (nI j))]) hx hb (dq da_law_7 24 rfl) hl (by decide) rfl (fun ls hl => ?_)
    refine lv_aload_n hx hb (dq da_law_7 25 rfl) rfl (lv_at hl 3 rfl) ?_
    refine lv_aload_n hx hb (dq da_law_7 26 rfl) rfl (lv_at hl 1 rfl) ?_
    refine lv_iload hx hb (dq da_law_7 27 rfl) (lv_at hl 5 rfl) ?_
    refine lv_iconst (v := 1) hx hb (dq da_law_7 28 rfl) rfl ?_
    refine lv_iadd hx hb (dq da_law_7 29 rfl) ?_
    refine va_sld hx hb hX hbl hbA w.2.2.1 (sx1 hj hL9) (dq da_law_7 30 rfl) ?_
    refine lv_aload_n hx hb (dq da_law_7 31 rfl) rfl (lv_at hl 1 rfl) ?_
    refine lv_iload hx hb (dq da_law_7 32 rfl) (lv_at hl 5 rfl) ?_
    refine lv_iconst (v := 2) hx hb (dq da_law_7 33 rfl) rfl ?_
    refine lv_iadd hx hb (dq da_law_7 34 rfl) ?_
    refine va_sld hx hb hX hbl hbA w.2.2.1 (sx2 hj hL9) (dq da_law_7 35 rfl) ?_
    refine lv_i2l (v := (xs (nI j + 2).toNatClampNeg).toInt64) hx hb (dq da_law_7 36 rfl) rfl ?_
    refine lv_bipush (v := 32) hx hb (dq da_law_7 37 rfl) rfl ?_
    refine lv_lshl (v := (j_lshl ((xs (nI j + 2).toNatClampNeg).toInt64) 32)) hx hb (dq da_law_7 38 rfl) rfl ?_
    refine lv_aload_n hx hb (dq da_law_7 39 rfl) rfl (lv_at hl 1 rfl) ?_
    refine lv_iload hx hb (dq da_law_7 40 rfl) (lv_at hl 5 rfl) ?_
    refine lv_iconst (v := 3) hx hb (dq da_law_7 41 rfl) rfl ?_
    refine lv_iadd hx hb (dq da_law_7 42 rfl) ?_
    refine va_sld hx hb hX hbl hbA w.2.2.1 (sx3 hj hL9) (dq da_law_7 43 rfl) ?_
    refine lv_i2l (v := (xs (nI j + 3).toNatClampNeg).toInt64) hx hb (dq da_law_7 44 rfl) rfl ?_
    refine lv_ldc2 hx hb hown (hts _ w_1656) (dq da_law_7 45 rfl) ?_
    refine lv_land hx hb (dq da_law_7 46 rfl) ?_
    refine lv_lor hx hb (dq da_law_7 47 rfl) ?_
    have w := w.comm
    refine zV0 (Wd := wM cy am) E (c_X12_set l D cy am _ _ uM h2) w_1326 w_1327 w_1328 w_10 w_1329 rfl hd_X12_set rfl hl.1 rfl (Nat.le_of_ble_eq_true rfl) ⟨Nat.le_of_ble_eq_true rfl, Nat.le_of_ble_eq_true rfl⟩ ⟨by show _ + 0 ≤ 601024; omega, by show _ + 0 ≤ 7293000; omega⟩ w (rc_wM_0 w.x) (dq da_law_7 48 rfl) (fun H locs rm w => ?_)
    have w := w.comm
    refine lv_aload_n hx hb (dq da_law_7 49 rfl) rfl (lv_at hl 3 rfl) ?_
    have w := w.comm
    refine zV1 (Wd := wM cy am) E (c_X12_thrown l D cy am uM') w_1248 w_1249 w_1250 w_10 w_1251 rfl hd_X12_thrown rfl hl.1 rfl (Nat.le_of_ble_eq_true rfl) ⟨Nat.le_of_ble_eq_true rfl, Nat.le_of_ble_eq_true rfl⟩ ⟨by show _ + 0 ≤ 601024; omega, by show _ + 0 ≤ 7293000; omega⟩ w (rc_wM_0 w.x) (dq da_law_7 50 rfl) (fun H locs rm w => ?_)
    have w := w.comm
    refine lv_iload hx hb (dq da_law_7 51 rfl) (lv_at hl 0 rfl) ?_
    refine lv_icmp_eq (tgt := 586) hx hb (dq da_law_7 52 rfl) (by decide) (fun c1 => ?_) (fun c1 => absurd h3 c1)
    refine lv_goto (tgt := 1146) hx hb (dq da_law_7 55 rfl) (by decide) ?_
    exact hnext _ _ _ H locs _ _ _ _ ls hS' (by omega) (by omega) (lv_sub hl [1, 2, 3, 4, 5] rfl) w
set_option maxRecDepth 100000 in
set_option maxHeartbeats 8000000 in
theorem lw_get {p : Program} {e : Env} {s : State} {m : MethodId} {below : List Frame} {meth : Method} {c : Code} {Q : State → Prop} {D : va_G} {cy : ClassId × ClassId × ClassId} {ad am : Nat → Nat} {ob b L : Nat} {xs : Nat → Int32} {A : Nat → Prop} (l : Launch) (hca : CatchP) (hl0 : l.stackTraces = false) (E : CallFix p m c code 8 s #[Value.ref b] gw RL) (hX : va_X b L xs s s.heap) (hbl : b < s.heap.size) (hbA : ¬ A b) {S : St → St → Prop} {B : St → Nat} (hB : ∀ uC uM, S uC uM → B uC ≤ 500000) (hop : Op_get S B) {uC uM : St} (hS : S uC uM) {t j : Nat} (ht : t < 520) (hj : j + 6 ≤ L) (hL9 : L ≤ 3073) {f : Nat → Int64} {H : Heap} {locs : List Loc} {rr rm : Nat → Nat} {cells slots : Nat} {ls : Array Slot} (hc : cells ≤ 100 + B uC + 6 * t) (hs : slots ≤ 500000 + B uC + 6 * t) (hl : lv_has ls 8 [(0, .ref b), (1, .ref (ad 0)), (2, .ref (am 0)), (3, .ref ob), (4, .int (nI j))]) (w : WZ ((wC cy ad rr uC ++ [(ob, .inl (cy.2.2, 1, .inr (.inl f)))]) ++ wM cy am rm uM) D cy A s H locs) (hnext : ∀ (uC uM : St) (f : Nat → Int64) (H : Heap) (locs : List Loc) (rr rm : Nat → Nat) (cells slots : Nat) (ls : Array Slot), S uC uM → cells ≤ 100 + B uC + 6 * (t + 1) → slots ≤ 500000 + B uC + 6 * (t + 1) → lv_has ls 8 [(0, .ref b), (1, .ref (ad 0)), (2, .ref (am 0)), (3, .ref ob), (4, .int (nI j))] → WZ ((wC cy ad rr uC ++ [(ob, .inl (cy.2.2, 1, .inr (.inl f)))]) ++ wM cy am rm uM) D cy A s H locs → W p l e room_1 s m #[Value.ref b] below meth c H locs cells slots Q (F0 m 1146 ls [])) : W p l e room_1 s m #[Value.ref b] below meth c H locs cells slots Q (F0 m 589 ls []) := by
  have hx := E.1
  have hb := E.2.1
  have hown := E.2.2.2.1
  have hts := E.2.2.2.2
  have hB0 := hB _ _ hS
  rcases hop (xs (nI j + 1).toNatClampNeg) uC uM hS with ⟨r, rb, uM', h1, h2, h3, h4, hS'⟩ | ⟨rb, uM', h1, h2, h3, hS'⟩
  · have hB1 := hB _ _ hS'
    refine lv_aload_n hx hb (dq da_law_8 0 rfl) rfl (lv_at hl 1 rfl) ?_
    refine lv_aload_n hx hb (dq da_law_8 1 rfl) rfl (lv_at hl 0 rfl) ?_
    refine lv_iload hx hb (dq da_law_8 2 rfl) (lv_at hl 4 rfl) ?_
    refine lv_iconst (v := 1) hx hb (dq da_law_8 3 rfl) rfl ?_
    refine lv_iadd hx hb (dq da_law_8 4 rfl) ?_
    refine va_sld hx hb hX hbl hbA w.2.2.1 (sx1 hj hL9) (dq da_law_8 5 rfl) ?_
    refine lv_aload_n hx hb (dq da_law_8 6 rfl) rfl (lv_at hl 3 rfl) ?_
    refine zH E (c_L_get_R l D cy ad ob f _ uC h1) w_537 w_538 w_0 w_539 hd_L_get rfl hl.1 rfl (Nat.le_of_ble_eq_true rfl) ⟨Nat.le_of_ble_eq_true rfl, Nat.le_of_ble_eq_true rfl⟩ ⟨by show cells + 0 ≤ 601024; omega, by show slots + 0 ≤ 7293000; omega⟩ w (dq da_law_8 7 rfl) (fun H locs rr w => ?_)
    refine lv_istore (lv' := [(5, .int (0 : Int32)), (0, .ref b), (1, .ref (ad 0)), (2, .ref (am 0)), (3, .ref ob), (4, .int (nI j))]) hx hb (dq da_law_8 8 rfl) hl (by decide) rfl (fun ls hl => ?_)
    refine lv_aload_n hx hb (dq da_law_8 9 rfl) rfl (lv_at hl 3 rfl) ?_
    refine lv_aload_n hx hb (dq da_law_8 10 rfl) rfl (lv_at hl 1 rfl) ?_
    refine lv_iload hx hb (dq da_law_8 11 rfl) (lv_at hl 5 rfl) ?_
    refine lv_iconst (v := 1) hx hb (dq da_law_8 12 rfl) rfl ?_
    refine lv_iadd hx hb (dq da_law_8 13 rfl) ?_
    refine va_sld hx hb hX hbl hbA w.2.2.1 (sx1 hj hL9) (dq da_law_8 14 rfl) ?_
    have w := w.comm
    refine zV1 (Wd := wM cy am) E (c_X12_get l D cy am _ uM h2) w_1331 w_1332 w_1333 w_10 w_1334 rfl hd_X12_get rfl hl.1 rfl (Nat.le_of_ble_eq_true rfl) ⟨Nat.le_of_ble_eq_true rfl, Nat.le_of_ble_eq_true rfl⟩ ⟨by show _ + 0 ≤ 601024; omega, by show _ + 0 ≤ 7293000; omega⟩ w (rc_wM_0 w.x) (dq da_law_8 15 rfl) (fun H locs rm w => ?_)
    have w := w.comm
    refine lv_lstore (lv' := [(6, .long rb), (5, .int (0 : Int32)), (0, .ref b), (1, .ref (ad 0)), (2, .ref (am 0)), (3, .ref ob), (4, .int (nI j))]) hx hb (dq da_law_8 16 rfl) hl (by decide) rfl (fun ls hl => ?_)
    refine lv_aload_n hx hb (dq da_law_8 17 rfl) rfl (lv_at hl 4 rfl) ?_
    have w := w.comm
    refine zV1 (Wd := wM cy am) E (c_X12_thrown l D cy am uM') w_1248 w_1249 w_1250 w_10 w_1251 rfl hd_X12_thrown rfl hl.1 rfl (Nat.le_of_ble_eq_true rfl) ⟨Nat.le_of_ble_eq_true rfl, Nat.le_of_ble_eq_true rfl⟩ ⟨by show _ + 0 ≤ 601024; omega, by show _ + 0 ≤ 7293000; omega⟩ w (rc_wM_0 w.x) (dq da_law_8 18 rfl) (fun H locs rm w => ?_)
    have w := w.comm
    refine lv_iload hx hb (dq da_law_8 19 rfl) (lv_at hl 1 rfl) ?_
    refine lv_icmp_eq (tgt := 625) hx hb (dq da_law_8 20 rfl) (by decide) (fun c1 => ?_) (fun c1 => absurd h3 c1)
    refine lv_iload hx hb (dq da_law_8 23 rfl) (lv_at hl 1 rfl) ?_
    refine lv_if_ne (tgt := 641) hx hb (dq da_law_8 24 rfl) (by decide) (fun c2 => absurd rfl c2) (fun c2 => ?_)
    refine lv_aload_n hx hb (dq da_law_8 25 rfl) rfl (lv_at hl 5 rfl) ?_
    refine lv_iconst (v := 0) hx hb (dq da_law_8 26 rfl) rfl ?_
    refine zld (v := r) E w rfl (dq da_law_8 27 rfl) ?_
    refine lv_lload hx hb (dq da_law_8 28 rfl) (lv_at hl 0 rfl) ?_
    refine lc_eq (tgt := 641) hx hb (dq da_law_8 29 rfl) (dq da_law_8 30 rfl) (by decide) (fun c3 => ?_) (fun c3 => absurd (by rw [h4]) c3)
    refine lv_goto (tgt := 1146) hx hb (dq da_law_8 33 rfl) (by decide) ?_
    exact hnext _ _ _ H locs _ _ _ _ ls hS' (by omega) (by omega) (lv_sub hl [2, 3, 4, 5, 6] rfl) w
  · have hB1 := hB _ _ hS'
    refine lv_aload_n hx hb (dq da_law_8 0 rfl) rfl (lv_at hl 1 rfl) ?_
    refine lv_aload_n hx hb (dq da_law_8 1 rfl) rfl (lv_at hl 0 rfl) ?_
    refine lv_iload hx hb (dq da_law_8 2 rfl) (lv_at hl 4 rfl) ?_
    refine lv_iconst (v := 1) hx hb (dq da_law_8 3 rfl) rfl ?_
    refine lv_iadd hx hb (dq da_law_8 4 rfl) ?_
    refine va_sld hx hb hX hbl hbA w.2.2.1 (sx1 hj hL9) (dq da_law_8 5 rfl) ?_
    refine lv_aload_n hx hb (dq da_law_8 6 rfl) rfl (lv_at hl 3 rfl) ?_
    refine zH E (c_L_get_T0 l hca hl0 D cy ad ob f _ uC h1) w_537 w_538 w_0 w_539 hd_L_get rfl hl.1 rfl (Nat.le_of_ble_eq_true rfl) ⟨Nat.le_of_ble_eq_true rfl, Nat.le_of_ble_eq_true rfl⟩ ⟨by show cells + 1 ≤ 601024; omega, by show slots + 6 ≤ 7293000; omega⟩ w (dq da_law_8 7 rfl) (fun H locs rr w => ?_)
    refine lv_istore (lv' := [(5, .int (1 : Int32)), (0, .ref b), (1, .ref (ad 0)), (2, .ref (am 0)), (3, .ref ob), (4, .int (nI j))]) hx hb (dq da_law_8 8 rfl) hl (by decide) rfl (fun ls hl => ?_)
    refine lv_aload_n hx hb (dq da_law_8 9 rfl) rfl (lv_at hl 3 rfl) ?_
    refine lv_aload_n hx hb (dq da_law_8 10 rfl) rfl (lv_at hl 1 rfl) ?_
    refine lv_iload hx hb (dq da_law_8 11 rfl) (lv_at hl 5 rfl) ?_
    refine lv_iconst (v := 1) hx hb (dq da_law_8 12 rfl) rfl ?_
    refine lv_iadd hx hb (dq da_law_8 13 rfl) ?_
    refine va_sld hx hb hX hbl hbA w.2.2.1 (sx1 hj hL9) (dq da_law_8 14 rfl) ?_
    have w := w.comm
    refine zV1 (Wd := wM cy am) E (c_X12_get l D cy am _ uM h2) w_1331 w_1332 w_1333 w_10 w_1334 rfl hd_X12_get rfl hl.1 rfl (Nat.le_of_ble_eq_true rfl) ⟨Nat.le_of_ble_eq_true rfl, Nat.le_of_ble_eq_true rfl⟩ ⟨by show _ + 0 ≤ 601024; omega, by show _ + 0 ≤ 7293000; omega⟩ w (rc_wM_0 w.x) (dq da_law_8 15 rfl) (fun H locs rm w => ?_)
    have w := w.comm
    refine lv_lstore (lv' := [(6, .long rb), (5, .int (1 : Int32)), (0, .ref b), (1, .ref (ad 0)), (2, .ref (am 0)), (3, .ref ob), (4, .int (nI j))]) hx hb (dq da_law_8 16 rfl) hl (by decide) rfl (fun ls hl => ?_)
    refine lv_aload_n hx hb (dq da_law_8 17 rfl) rfl (lv_at hl 4 rfl) ?_
    have w := w.comm
    refine zV1 (Wd := wM cy am) E (c_X12_thrown l D cy am uM') w_1248 w_1249 w_1250 w_10 w_1251 rfl hd_X12_thrown rfl hl.1 rfl (Nat.le_of_ble_eq_true rfl) ⟨Nat.le_of_ble_eq_true rfl, Nat.le_of_ble_eq_true rfl⟩ ⟨by show _ + 0 ≤ 601024; omega, by show _ + 0 ≤ 7293000; omega⟩ w (rc_wM_0 w.x) (dq da_law_8 18 rfl) (fun H locs rm w => ?_)
    have w := w.comm
    refine lv_iload hx hb (dq da_law_8 19 rfl) (lv_at hl 1 rfl) ?_
    refine lv_icmp_eq (tgt := 625) hx hb (dq da_law_8 20 rfl) (by decide) (fun c1 => ?_) (fun c1 => absurd h3 c1)
    refine lv_iload hx hb (dq da_law_8 23 rfl) (lv_at hl 1 rfl) ?_
    refine lv_if_ne (tgt := 641) hx hb (dq da_law_8 24 rfl) (by decide) (fun c2 => ?_) (fun c2 => absurd c2 (by decide))
    refine lv_goto (tgt := 1146) hx hb (dq da_law_8 33 rfl) (by decide) ?_
    exact hnext _ _ _ H locs _ _ _ _ ls hS' (by omega) (by omega) (lv_sub hl [2, 3, 4, 5, 6] rfl) w
set_option maxRecDepth 100000 in
set_option maxHeartbeats 8000000 in
theorem lw_lower {p : Program} {e : Env} {s : State} {m : MethodId} {below : List Frame} {meth : Method} {c : Code} {Q : State → Prop} {D : va_G} {cy : ClassId × ClassId × ClassId} {ad am : Nat → Nat} {ob b L : Nat} {xs : Nat → Int32} {A : Nat → Prop} (l : Launch) (hca : CatchP) (hl0 : l.stackTraces = false) (E : CallFix p m c code 8 s #[Value.ref b] gw RL) (hX : va_X b L xs s s.heap) (hbl : b < s.heap.size) (hbA : ¬ A b) {S : St → St → Prop} {B : St → Nat} (hB : ∀ uC uM, S uC uM → B uC ≤ 500000) (hop : Op_lower S B) {uC uM : St} (hS : S uC uM) {t j : Nat} (ht : t < 520) (hj : j + 6 ≤ L) (hL9 : L ≤ 3073) {f : Nat → Int64} {H : Heap} {locs : List Loc} {rr rm : Nat → Nat} {cells slots : Nat} {ls : Array Slot} (hc : cells ≤ 100 + B uC + 6 * t) (hs : slots ≤ 500000 + B uC + 6 * t) (hl : lv_has ls 8 [(0, .ref b), (1, .ref (ad 0)), (2, .ref (am 0)), (3, .ref ob), (4, .int (nI j))]) (w : WZ ((wC cy ad rr uC ++ [(ob, .inl (cy.2.2, 1, .inr (.inl f)))]) ++ wM cy am rm uM) D cy A s H locs) (hnext : ∀ (uC uM : St) (f : Nat → Int64) (H : Heap) (locs : List Loc) (rr rm : Nat → Nat) (cells slots : Nat) (ls : Array Slot), S uC uM → cells ≤ 100 + B uC + 6 * (t + 1) → slots ≤ 500000 + B uC + 6 * (t + 1) → lv_has ls 8 [(0, .ref b), (1, .ref (ad 0)), (2, .ref (am 0)), (3, .ref ob), (4, .int (nI j))] → WZ ((wC cy ad rr uC ++ [(ob, .inl (cy.2.2, 1, .inr (.inl f)))]) ++ wM cy am rm uM) D cy A s H locs → W p l e room_1 s m #[Value.ref b] below meth c H locs cells slots Q (F0 m 1146 ls [])) : W p l e room_1 s m #[Value.ref b] below meth c H locs cells slots Q (F0 m 644 ls []) := by
  have hx := E.1
  have hb := E.2.1
  have hown := E.2.2.2.1
  have hts := E.2.2.2.2
  have hB0 := hB _ _ hS
  rcases hop (xs (nI j + 1).toNatClampNeg) uC uM hS with ⟨uC', uM', h1, h2, h3, hS', hk⟩ | ⟨uM', h1, h2, h3, hS'⟩
  · have hB1 := hB _ _ hS'
    refine lv_aload_n hx hb (dq da_law_9 0 rfl) rfl (lv_at hl 1 rfl) ?_
    refine lv_aload_n hx hb (dq da_law_9 1 rfl) rfl (lv_at hl 0 rfl) ?_
    refine lv_iload hx hb (dq da_law_9 2 rfl) (lv_at hl 4 rfl) ?_
    refine lv_iconst (v := 1) hx hb (dq da_law_9 3 rfl) rfl ?_
    refine lv_iadd hx hb (dq da_law_9 4 rfl) ?_
    refine va_sld hx hb hX hbl hbA w.2.2.1 (sx1 hj hL9) (dq da_law_9 5 rfl) ?_
    have w := w.toC
    refine zH (G := []) E (c_L_lower_R l D cy ad _ uC h1) w_544 w_545 w_0 w_546 hd_L_lower rfl hl.1 rfl (Nat.le_of_ble_eq_true rfl) ⟨Nat.le_of_ble_eq_true rfl, Nat.le_of_ble_eq_true rfl⟩ ⟨by show cells + 0 ≤ 601024; omega, by show slots + 0 ≤ 7293000; omega⟩ w (dq da_law_9 6 rfl) (fun H locs rr w => ?_)
    have w := w.fromC
    refine lv_istore (lv' := [(5, .int (0 : Int32)), (0, .ref b), (1, .ref (ad 0)), (2, .ref (am 0)), (3, .ref ob), (4, .int (nI j))]) hx hb (dq da_law_9 7 rfl) hl (by decide) rfl (fun ls hl => ?_)
    refine lv_aload_n hx hb (dq da_law_9 8 rfl) rfl (lv_at hl 3 rfl) ?_
    refine lv_aload_n hx hb (dq da_law_9 9 rfl) rfl (lv_at hl 1 rfl) ?_
    refine lv_iload hx hb (dq da_law_9 10 rfl) (lv_at hl 5 rfl) ?_
    refine lv_iconst (v := 1) hx hb (dq da_law_9 11 rfl) rfl ?_
    refine lv_iadd hx hb (dq da_law_9 12 rfl) ?_
    refine va_sld hx hb hX hbl hbA w.2.2.1 (sx1 hj hL9) (dq da_law_9 13 rfl) ?_
    have w := w.comm
    refine zV0 (Wd := wM cy am) E (c_X12_lower l D cy am _ uM h2) w_1335 w_1336 w_1337 w_10 w_1338 rfl hd_X12_lower rfl hl.1 rfl (Nat.le_of_ble_eq_true rfl) ⟨Nat.le_of_ble_eq_true rfl, Nat.le_of_ble_eq_true rfl⟩ ⟨by show _ + 0 ≤ 601024; omega, by show _ + 0 ≤ 7293000; omega⟩ w (rc_wM_0 w.x) (dq da_law_9 14 rfl) (fun H locs rm w => ?_)
    have w := w.comm
    refine lv_aload_n hx hb (dq da_law_9 15 rfl) rfl (lv_at hl 3 rfl) ?_
    have w := w.comm
    refine zV1 (Wd := wM cy am) E (c_X12_thrown l D cy am uM') w_1248 w_1249 w_1250 w_10 w_1251 rfl hd_X12_thrown rfl hl.1 rfl (Nat.le_of_ble_eq_true rfl) ⟨Nat.le_of_ble_eq_true rfl, Nat.le_of_ble_eq_true rfl⟩ ⟨by show _ + 0 ≤ 601024; omega, by show _ + 0 ≤ 7293000; omega⟩ w (rc_wM_0 w.x) (dq da_law_9 16 rfl) (fun H locs rm w => ?_)
    have w := w.comm
    refine lv_iload hx hb (dq da_law_9 17 rfl) (lv_at hl 0 rfl) ?_
    refine lv_icmp_eq (tgt := 677) hx hb (dq da_law_9 18 rfl) (by decide) (fun c1 => ?_) (fun c1 => absurd h3 c1)
    refine lv_goto (tgt := 1146) hx hb (dq da_law_9 21 rfl) (by decide) ?_
    exact hnext _ _ _ H locs _ _ _ _ ls hS' (by omega) (by omega) (lv_sub hl [1, 2, 3, 4, 5] rfl) w
  · have hB1 := hB _ _ hS'
    refine lv_aload_n hx hb (dq da_law_9 0 rfl) rfl (lv_at hl 1 rfl) ?_
    refine lv_aload_n hx hb (dq da_law_9 1 rfl) rfl (lv_at hl 0 rfl) ?_
    refine lv_iload hx hb (dq da_law_9 2 rfl) (lv_at hl 4 rfl) ?_
    refine lv_iconst (v := 1) hx hb (dq da_law_9 3 rfl) rfl ?_
    refine lv_iadd hx hb (dq da_law_9 4 rfl) ?_
    refine va_sld hx hb hX hbl hbA w.2.2.1 (sx1 hj hL9) (dq da_law_9 5 rfl) ?_
    have w := w.toC
    refine zH (G := []) E (c_L_lower_T0 l hca hl0 D cy ad _ uC h1) w_544 w_545 w_0 w_546 hd_L_lower rfl hl.1 rfl (Nat.le_of_ble_eq_true rfl) ⟨Nat.le_of_ble_eq_true rfl, Nat.le_of_ble_eq_true rfl⟩ ⟨by show cells + 1 ≤ 601024; omega, by show slots + 6 ≤ 7293000; omega⟩ w (dq da_law_9 6 rfl) (fun H locs rr w => ?_)
    have w := w.fromC
    refine lv_istore (lv' := [(5, .int (1 : Int32)), (0, .ref b), (1, .ref (ad 0)), (2, .ref (am 0)), (3, .ref ob), (4, .int (nI j))]) hx hb (dq da_law_9 7 rfl) hl (by decide) rfl (fun ls hl => ?_)
    refine lv_aload_n hx hb (dq da_law_9 8 rfl) rfl (lv_at hl 3 rfl) ?_
    refine lv_aload_n hx hb (dq da_law_9 9 rfl) rfl (lv_at hl 1 rfl) ?_
    refine lv_iload hx hb (dq da_law_9 10 rfl) (lv_at hl 5 rfl) ?_
    refine lv_iconst (v := 1) hx hb (dq da_law_9 11 rfl) rfl ?_
    refine lv_iadd hx hb (dq da_law_9 12 rfl) ?_
    refine va_sld hx hb hX hbl hbA w.2.2.1 (sx1 hj hL9) (dq da_law_9 13 rfl) ?_
    have w := w.comm
    refine zV0 (Wd := wM cy am) E (c_X12_lower l D cy am _ uM h2) w_1335 w_1336 w_1337 w_10 w_1338 rfl hd_X12_lower rfl hl.1 rfl (Nat.le_of_ble_eq_true rfl) ⟨Nat.le_of_ble_eq_true rfl, Nat.le_of_ble_eq_true rfl⟩ ⟨by show _ + 0 ≤ 601024; omega, by show _ + 0 ≤ 7293000; omega⟩ w (rc_wM_0 w.x) (dq da_law_9 14 rfl) (fun H locs rm w => ?_)
    have w := w.comm
    refine lv_aload_n hx hb (dq da_law_9 15 rfl) rfl (lv_at hl 3 rfl) ?_
    have w := w.comm
    refine zV1 (Wd := wM cy am) E (c_X12_thrown l D cy am uM') w_1248 w_1249 w_1250 w_10 w_1251 rfl hd_X12_thrown rfl hl.1 rfl (Nat.le_of_ble_eq_true rfl) ⟨Nat.le_of_ble_eq_true rfl, Nat.le_of_ble_eq_true rfl⟩ ⟨by show _ + 0 ≤ 601024; omega, by show _ + 0 ≤ 7293000; omega⟩ w (rc_wM_0 w.x) (dq da_law_9 16 rfl) (fun H locs rm w => ?_)
    have w := w.comm
    refine lv_iload hx hb (dq da_law_9 17 rfl) (lv_at hl 0 rfl) ?_
    refine lv_icmp_eq (tgt := 677) hx hb (dq da_law_9 18 rfl) (by decide) (fun c1 => ?_) (fun c1 => absurd h3 c1)
    refine lv_goto (tgt := 1146) hx hb (dq da_law_9 21 rfl) (by decide) ?_
    exact hnext _ _ _ H locs _ _ _ _ ls hS' (by omega) (by omega) (lv_sub hl [1, 2, 3, 4, 5] rfl) w
set_option maxRecDepth 100000 in
set_option maxHeartbeats 8000000 in
theorem lw_control {p : Program} {e : Env} {s : State} {m : MethodId} {below : List Frame} {meth : Method} {c : Code} {Q : State → Prop} {D : va_G} {cy : ClassId × ClassId × ClassId} {ad am : Nat → Nat} {ob b L : Nat} {xs : Nat → Int32} {A : Nat → Prop} (l : Launch) (hca : CatchP) (hl0 : l.stackTraces = false) (E : CallFix p m c code 8 s #[Value.ref b] gw RL) (hX : va_X b L xs s s.heap) (hbl : b < s.heap.size) (hbA : ¬ A b) {S : St → St → Prop} {B : St → Nat} (hB : ∀ uC uM, S uC uM → B uC ≤ 500000) (hop : Op_control S B) {uC uM : St} (hS : S uC uM) {t j : Nat} (ht : t < 520) (hj : j + 6 ≤ L) (hL9 : L ≤ 3073) {f : Nat → Int64} {H : Heap} {locs : List Loc} {rr rm : Nat → Nat} {cells slots : Nat} {ls : Array Slot} (hc : cells ≤ 100 + B uC + 6 * t) (hs : slots ≤ 500000 + B uC + 6 * t) (hl : lv_has ls 8 [(0, .ref b), (1, .ref (ad 0)), (2, .ref (am 0)), (3, .ref ob), (4, .int (nI j))]) (w : WZ ((wC cy ad rr uC ++ [(ob, .inl (cy.2.2, 1, .inr (.inl f)))]) ++ wM cy am rm uM) D cy A s H locs) (hnext : ∀ (uC uM : St) (f : Nat → Int64) (H : Heap) (locs : List Loc) (rr rm : Nat → Nat) (cells slots : Nat) (ls : Array Slot), S uC uM → cells ≤ 100 + B uC + 6 * (t + 1) → slots ≤ 500000 + B uC + 6 * (t + 1) → lv_has ls 8 [(0, .ref b), (1, .ref (ad 0)), (2, .ref (am 0)), (3, .ref ob), (4, .int (nI j))] → WZ ((wC cy ad rr uC ++ [(ob, .inl (cy.2.2, 1, .inr (.inl f)))]) ++ wM cy am rm uM) D cy A s H locs → W p l e room_1 s m #[Value.ref b] below meth c H locs cells slots Q (F0 m 1146 ls [])) : W p l e room_1 s m #[Value.ref b] below meth c H locs cells slots Q (F0 m 680 ls []) := by
  have hx := E.1
  have hb := E.2.1
  have hown := E.2.2.2.1
  have hts := E.2.2.2.2
  have hB0 := hB _ _ hS
  rcases hop (xs (nI j + 1).toNatClampNeg) uC uM hS with ⟨r, rb, uM', h1, h2, h3, h4, hS'⟩ | ⟨rb, uM', h1, h2, h3, hS'⟩
  · have hB1 := hB _ _ hS'
    refine lv_aload_n hx hb (dq da_law_10 0 rfl) rfl (lv_at hl 1 rfl) ?_
    refine lv_aload_n hx hb (dq da_law_10 1 rfl) rfl (lv_at hl 0 rfl) ?_
    refine lv_iload hx hb (dq da_law_10 2 rfl) (lv_at hl 4 rfl) ?_
    refine lv_iconst (v := 1) hx hb (dq da_law_10 3 rfl) rfl ?_
    refine lv_iadd hx hb (dq da_law_10 4 rfl) ?_
    refine va_sld hx hb hX hbl hbA w.2.2.1 (sx1 hj hL9) (dq da_law_10 5 rfl) ?_
    refine lv_aload_n hx hb (dq da_law_10 6 rfl) rfl (lv_at hl 3 rfl) ?_
    refine zH E (c_L_control_R l D cy ad ob f _ uC h1) w_552 w_553 w_0 w_554 hd_L_control rfl hl.1 rfl (Nat.le_of_ble_eq_true rfl) ⟨Nat.le_of_ble_eq_true rfl, Nat.le_of_ble_eq_true rfl⟩ ⟨by show cells + 0 ≤ 601024; omega, by show slots + 0 ≤ 7293000; omega⟩ w (dq da_law_10 7 rfl) (fun H locs rr w => ?_)
    refine lv_istore (lv' := [(5, .int (0 : Int32)), (0, .ref b), (1, .ref (ad 0)), (2, .ref (am 0)), (3, .ref ob), (4, .int (nI j))]) hx hb (dq da_law_10 8 rfl) hl (by decide) rfl (fun ls hl => ?_)
    refine lv_aload_n hx hb (dq da_law_10 9 rfl) rfl (lv_at hl 3 rfl) ?_
    refine lv_aload_n hx hb (dq da_law_10 10 rfl) rfl (lv_at hl 1 rfl) ?_
    refine lv_iload hx hb (dq da_law_10 11 rfl) (lv_at hl 5 rfl) ?_
    refine lv_iconst (v := 1) hx hb (dq da_law_10 12 rfl) rfl ?_
    refine lv_iadd hx hb (dq da_law_10 13 rfl) ?_
    refine va_sld hx hb hX hbl hbA w.2.2.1 (sx1 hj hL9) (dq da_law_10 14 rfl) ?_
    have w := w.comm
    refine zV1 (Wd := wM cy am) E (c_X12_control l D cy am _ uM h2) w_1339 w_1340 w_1341 w_10 w_1342 rfl hd_X12_control rfl hl.1 rfl (Nat.le_of_ble_eq_true rfl) ⟨Nat.le_of_ble_eq_true rfl, Nat.le_of_ble_eq_true rfl⟩ ⟨by show _ + 0 ≤ 601024; omega, by show _ + 0 ≤ 7293000; omega⟩ w (rc_wM_0 w.x) (dq da_law_10 15 rfl) (fun H locs rm w => ?_)
    have w := w.comm
    refine lv_lstore (lv' := [(6, .long rb), (5, .int (0 : Int32)), (0, .ref b), (1, .ref (ad 0)), (2, .ref (am 0)), (3, .ref ob), (4, .int (nI j))]) hx hb (dq da_law_10 16 rfl) hl (by decide) rfl (fun ls hl => ?_)
    refine lv_aload_n hx hb (dq da_law_10 17 rfl) rfl (lv_at hl 4 rfl) ?_
    have w := w.comm
    refine zV1 (Wd := wM cy am) E (c_X12_thrown l D cy am uM') w_1248 w_1249 w_1250 w_10 w_1251 rfl hd_X12_thrown rfl hl.1 rfl (Nat.le_of_ble_eq_true rfl) ⟨Nat.le_of_ble_eq_true rfl, Nat.le_of_ble_eq_true rfl⟩ ⟨by show _ + 0 ≤ 601024; omega, by show _ + 0 ≤ 7293000; omega⟩ w (rc_wM_0 w.x) (dq da_law_10 18 rfl) (fun H locs rm w => ?_)
    have w := w.comm
    refine lv_iload hx hb (dq da_law_10 19 rfl) (lv_at hl 1 rfl) ?_
    refine lv_icmp_eq (tgt := 716) hx hb (dq da_law_10 20 rfl) (by decide) (fun c1 => ?_) (fun c1 => absurd h3 c1)
    refine lv_iload hx hb (dq da_law_10 23 rfl) (lv_at hl 1 rfl) ?_
    refine lv_if_ne (tgt := 732) hx hb (dq da_law_10 24 rfl) (by decide) (fun c2 => absurd rfl c2) (fun c2 => ?_)
    refine lv_aload_n hx hb (dq da_law_10 25 rfl) rfl (lv_at hl 5 rfl) ?_
    refine lv_iconst (v := 0) hx hb (dq da_law_10 26 rfl) rfl ?_
    refine zld (v := r) E w rfl (dq da_law_10 27 rfl) ?_
    refine lv_lload hx hb (dq da_law_10 28 rfl) (lv_at hl 0 rfl) ?_
    refine lc_eq (tgt := 732) hx hb (dq da_law_10 29 rfl) (dq da_law_10 30 rfl) (by decide) (fun c3 => ?_) (fun c3 => absurd (by rw [h4]) c3)
    refine lv_goto (tgt := 1146) hx hb (dq da_law_10 33 rfl) (by decide) ?_
    exact hnext _ _ _ H locs _ _ _ _ ls hS' (by omega) (by omega) (lv_sub hl [2, 3, 4, 5, 6] rfl) w
  · have hB1 := hB _ _ hS'
    refine lv_aload_n hx hb (dq da_law_10 0 rfl) rfl (lv_at hl 1 rfl) ?_
    refine lv_aload_n hx hb (dq da_law_10 1 rfl) rfl (lv_at hl 0 rfl) ?_
    refine lv_iload hx hb (dq da_law_10 2 rfl) (lv_at hl 4 rfl) ?_
    refine lv_iconst (v := 1) hx hb (dq da_law_10 3 rfl) rfl ?_
    refine lv_iadd hx hb (dq da_law_10 4 rfl) ?_
    refine va_sld hx hb hX hbl hbA w.2.2.1 (sx1 hj hL9) (dq da_law_10 5 rfl) ?_
    refine lv_aload_n hx hb (dq da_law_10 6 rfl) rfl (lv_at hl 3 rfl) ?_
    refine zH E (c_L_control_T0 l hca hl0 D cy ad ob f _ uC h1) w_552 w_553 w_0 w_554 hd_L_control rfl hl.1 rfl (Nat.le_of_ble_eq_true rfl) ⟨Nat.le_of_ble_eq_true rfl, Nat.le_of_ble_eq_true rfl⟩ ⟨by show cells + 1 ≤ 601024; omega, by show slots + 6 ≤ 7293000; omega⟩ w (dq da_law_10 7 rfl) (fun H locs rr w => ?_)
    refine lv_istore (lv' := [(5, .int (1 : Int32)), (0, .ref b), (1, .ref (ad 0)), (2, .ref (am 0)), (3, .ref ob), (4, .int (nI j))]) hx hb (dq da_law_10 8 rfl) hl (by decide) rfl (fun ls hl => ?_)
    refine lv_aload_n hx hb (dq da_law_10 9 rfl) rfl (lv_at hl 3 rfl) ?_
    refine lv_aload_n hx hb (dq da_law_10 10 rfl) rfl (lv_at hl 1 rfl) ?_
    refine lv_iload hx hb (dq da_law_10 11 rfl) (lv_at hl 5 rfl) ?_
    refine lv_iconst (v := 1) hx hb (dq da_law_10 12 rfl) rfl ?_
    refine lv_iadd hx hb (dq da_law_10 13 rfl) ?_
    refine va_sld hx hb hX hbl hbA w.2.2.1 (sx1 hj hL9) (dq da_law_10 14 rfl) ?_
    have w := w.comm
    refine zV1 (Wd := wM cy am) E (c_X12_control l D cy am _ uM h2) w_1339 w_1340 w_1341 w_10 w_1342 rfl hd_X12_control rfl hl.1 rfl (Nat.le_of_ble_eq_true rfl) ⟨Nat.le_of_ble_eq_true rfl, Nat.le_of_ble_eq_true rfl⟩ ⟨by show _ + 0 ≤ 601024; omega, by show _ + 0 ≤ 7293000; omega⟩ w (rc_wM_0 w.x) (dq da_law_10 15 rfl) (fun H locs rm w => ?_)
    have w := w.comm
    refine lv_lstore (lv' := [(6, .long rb), (5, .int (1 : Int32)), (0, .ref b), (1, .ref (ad 0)), (2, .ref (am 0)), (3, .ref ob), (4, .int (nI j))]) hx hb (dq da_law_10 16 rfl) hl (by decide) rfl (fun ls hl => ?_)
    refine lv_aload_n hx hb (dq da_law_10 17 rfl) rfl (lv_at hl 4 rfl) ?_
    have w := w.comm
    refine zV1 (Wd := wM cy am) E (c_X12_thrown l D cy am uM') w_1248 w_1249 w_1250 w_10 w_1251 rfl hd_X12_thrown rfl hl.1 rfl (Nat.le_of_ble_eq_true rfl) ⟨Nat.le_of_ble_eq_true rfl, Nat.le_of_ble_eq_true rfl⟩ ⟨by show _ + 0 ≤ 601024; omega, by show _ + 0 ≤ 7293000; omega⟩ w (rc_wM_0 w.x) (dq da_law_10 18 rfl) (fun H locs rm w => ?_)
    have w := w.comm
    refine lv_iload hx hb (dq da_law_10 19 rfl) (lv_at hl 1 rfl) ?_
    refine lv_icmp_eq (tgt := 716) hx hb (dq da_law_10 20 rfl) (by decide) (fun c1 => ?_) (fun c1 => absurd h3 c1)
    refine lv_iload hx hb (dq da_law_10 23 rfl) (lv_at hl 1 rfl) ?_
    refine lv_if_ne (tgt := 732) hx hb (dq da_law_10 24 rfl) (by decide) (fun c2 => ?_) (fun c2 => absurd c2 (by decide))
    refine lv_goto (tgt := 1146) hx hb (dq da_law_10 33 rfl) (by decide) ?_
    exact hnext _ _ _ H locs _ _ _ _ ls hS' (by omega) (by omega) (lv_sub hl [2, 3, 4, 5, 6] rfl) w
set_option maxRecDepth 100000 in
set_option maxHeartbeats 8000000 in
theorem lw_order {p : Program} {e : Env} {s : State} {m : MethodId} {below : List Frame} {meth : Method} {c : Code} {Q : State → Prop} {D : va_G} {cy : ClassId × ClassId × ClassId} {ad am : Nat → Nat} {ob b L : Nat} {xs : Nat → Int32} {A : Nat → Prop} (l : Launch) (hca : CatchP) (hl0 : l.stackTraces = false) (E : CallFix p m c code 8 s #[Value.ref b] gw RL) (hX : va_X b L xs s s.heap) (hbl : b < s.heap.size) (hbA : ¬ A b) {S : St → St → Prop} {B : St → Nat} (hB : ∀ uC uM, S uC uM → B uC ≤ 500000) (hop : Op_order S B) {uC uM : St} (hS : S uC uM) {t j : Nat} (ht : t < 520) (hj : j + 6 ≤ L) (hL9 : L ≤ 3073) {f : Nat → Int64} {H : Heap} {locs : List Loc} {rr rm : Nat → Nat} {cells slots : Nat} {ls : Array Slot} (hc : cells ≤ 100 + B uC + 6 * t) (hs : slots ≤ 500000 + B uC + 6 * t) (hl : lv_has ls 8 [(0, .ref b), (1, .ref (ad 0)), (2, .ref (am 0)), (3, .ref ob), (4, .int (nI j))]) (w : WZ ((wC cy ad rr uC ++ [(ob, .inl (cy.2.2, 1, .inr (.inl f)))]) ++ wM cy am rm uM) D cy A s H locs) (hnext : ∀ (uC uM : St) (f : Nat → Int64) (H : Heap) (locs : List Loc) (rr rm : Nat → Nat) (cells slots : Nat) (ls : Array Slot), S uC uM → cells ≤ 100 + B uC + 6 * (t + 1) → slots ≤ 500000 + B uC + 6 * (t + 1) → lv_has ls 8 [(0, .ref b), (1, .ref (ad 0)), (2, .ref (am 0)), (3, .ref ob), (4, .int (nI j))] → WZ ((wC cy ad rr uC ++ [(ob, .inl (cy.2.2, 1, .inr (.inl f)))]) ++ wM cy am rm uM) D cy A s H locs → W p l e room_1 s m #[Value.ref b] below meth c H locs cells slots Q (F0 m 1146 ls [])) : W p l e room_1 s m #[Value.ref b] below meth c H locs cells slots Q (F0 m 735 ls []) := by
  have hx := E.1
  have hb := E.2.1
  have hown := E.2.2.2.1
  have hts := E.2.2.2.2
  have hB0 := hB _ _ hS
  rcases hop (xs (nI j + 1).toNatClampNeg) (j_lshl (xs (nI j + 2).toNatClampNeg).toInt64 32 ||| ((xs (nI j + 3).toNatClampNeg).toInt64 &&& (4294967295 : Int64))) uC uM hS with ⟨uC', uM', h1, h2, h3, hS', hk⟩ | ⟨uM', h1, h2, h3, hS'⟩
  · have hB1 := hB _ _ hS'
    refine lv_aload_n hx hb (dq da_law_11 0 rfl) rfl (lv_at hl 1 rfl) ?_
    refine lv_aload_n hx hb (dq da_law_11 1 rfl) rfl (lv_at hl 0 rfl) ?_
    refine lv_iload hx hb (dq da_law_11 2 rfl) (lv_at hl 4 rfl) ?_
    refine lv_iconst (v := 1) hx hb (dq da_law_11 3 rfl) rfl ?_
    refine lv_iadd hx hb (dq da_law_11 4 rfl) ?_
    refine va_sld hx hb hX hbl hbA w.2.2.1 (sx1 hj hL9) (dq da_law_11 5 rfl) ?_
    refine lv_aload_n hx hb (dq da_law_11 6 rfl) rfl (lv_at hl 0 rfl) ?_
    refine lv_iload hx hb (dq da_law_11 7 rfl) (lv_at hl 4 rfl) ?_
    refine lv_iconst (v := 2) hx hb (dq da_law_11 8 rfl) rfl ?_
    refine lv_iadd hx hb (dq da_law_11 9 rfl) ?_
    refine va_sld hx hb hX hbl hbA w.2.2.1 (sx2 hj hL9) (dq da_law_11 10 rfl) ?_
    refine lv_i2l (v := (xs (nI j + 2).toNatClampNeg).toInt64) hx hb (dq da_law_11 11 rfl) rfl ?_
    refine lv_bipush (v := 32) hx hb (dq da_law_11 12 rfl) rfl ?_
    refine lv_lshl (v := (j_lshl ((xs (nI j + 2).toNatClampNeg).toInt64) 32)) hx hb (dq da_law_11 13 rfl) rfl ?_
    refine lv_aload_n hx hb (dq da_law_11 14 rfl) rfl (lv_at hl 0 rfl) ?_
    refine lv_iload hx hb (dq da_law_11 15 rfl) (lv_at hl 4 rfl) ?_
    refine lv_iconst (v := 3) hx hb (dq da_law_11 16 rfl) rfl ?_
    refine lv_iadd hx hb (dq da_law_11 17 rfl) ?_
    refine va_sld hx hb hX hbl hbA w.2.2.1 (sx3 hj hL9) (dq da_law_11 18 rfl) ?_
    refine lv_i2l (v := (xs (nI j + 3).toNatClampNeg).toInt64) hx hb (dq da_law_11 19 rfl) rfl ?_
    refine lv_ldc2 hx hb hown (hts _ w_1656) (dq da_law_11 20 rfl) ?_
    refine lv_land hx hb (dq da_law_11 21 rfl) ?_
    refine lv_lor hx hb (dq da_law_11 22 rfl) ?_
    have w := w.toC
    refine zH (G := []) E (c_L_order_R l D cy ad _ _ uC h1) w_591 w_592 w_0 w_593 hd_L_order rfl hl.1 rfl (Nat.le_of_ble_eq_true rfl) ⟨Nat.le_of_ble_eq_true rfl, Nat.le_of_ble_eq_true rfl⟩ ⟨by show cells + 0 ≤ 601024; omega, by show slots + 0 ≤ 7293000; omega⟩ w (dq da_law_11 23 rfl) (fun H locs rr w => ?_)
    have w := w.fromC
    refine lv_istore (lv' := [(5, .int (0 : Int32)), (0, .ref b), (1, .ref (ad 0)), (2, .ref (am 0)), (3, .ref ob), (4, .int (nI j))]) hx hb (dq da_law_11 24 rfl) hl (by decide) rfl (fun ls hl => ?_)
    refine lv_aload_n hx hb (dq da_law_11 25 rfl) rfl (lv_at hl 3 rfl) ?_
    refine lv_aload_n hx hb (dq da_law_11 26 rfl) rfl (lv_at hl 1 rfl) ?_
    refine lv_iload hx hb (dq da_law_11 27 rfl) (lv_at hl 5 rfl) ?_
    refine lv_iconst (v := 1) hx hb (dq da_law_11 28 rfl) rfl ?_
    refine lv_iadd hx hb (dq da_law_11 29 rfl) ?_
    refine va_sld hx hb hX hbl hbA w.2.2.1 (sx1 hj hL9) (dq da_law_11 30 rfl) ?_
    refine lv_aload_n hx hb (dq da_law_11 31 rfl) rfl (lv_at hl 1 rfl) ?_
    refine lv_iload hx hb (dq da_law_11 32 rfl) (lv_at hl 5 rfl) ?_
    refine lv_iconst (v := 2) hx hb (dq da_law_11 33 rfl) rfl ?_
    refine lv_iadd hx hb (dq da_law_11 34 rfl) ?_
    refine va_sld hx hb hX hbl hbA w.2.2.1 (sx2 hj hL9) (dq da_law_11 35 rfl) ?_
    refine lv_i2l (v := (xs (nI j + 2).toNatClampNeg).toInt64) hx hb (dq da_law_11 36 rfl) rfl ?_
    refine lv_bipush (v := 32) hx hb (dq da_law_11 37 rfl) rfl ?_
    refine lv_lshl (v := (j_lshl ((xs (nI j + 2).toNatClampNeg).toInt64) 32)) hx hb (dq da_law_11 38 rfl) rfl ?_
    refine lv_aload_n hx hb (dq da_law_11 39 rfl) rfl (lv_at hl 1 rfl) ?_
    refine lv_iload hx hb (dq da_law_11 40 rfl) (lv_at hl 5 rfl) ?_
    refine lv_iconst (v := 3) hx hb (dq da_law_11 41 rfl) rfl ?_
    refine lv_iadd hx hb (dq da_law_11 42 rfl) ?_
    refine va_sld hx hb hX hbl hbA w.2.2.1 (sx3 hj hL9) (dq da_law_11 43 rfl) ?_
    refine lv_i2l (v := (xs (nI j + 3).toNatClampNeg).toInt64) hx hb (dq da_law_11 44 rfl) rfl ?_
    refine lv_ldc2 hx hb hown (hts _ w_1656) (dq da_law_11 45 rfl) ?_
    refine lv_land hx hb (dq da_law_11 46 rfl) ?_
    refine lv_lor hx hb (dq da_law_11 47 rfl) ?_
    have w := w.comm
    refine zV0 (Wd := wM cy am) E (c_X12_order l D cy am _ _ uM h2) w_1371 w_1372 w_1373 w_10 w_1374 rfl hd_X12_order rfl hl.1 rfl (Nat.le_of_ble_eq_true rfl) ⟨Nat.le_of_ble_eq_true rfl, Nat.le_of_ble_eq_true rfl⟩ ⟨by show _ + 0 ≤ 601024; omega, by show _ + 0 ≤ 7293000; omega⟩ w (rc_wM_0 w.x) (dq da_law_11 48 rfl) (fun H locs rm w => ?_)
    have w := w.comm
    refine lv_aload_n hx hb (dq da_law_11 49 rfl) rfl (lv_at hl 3 rfl) ?_
    have w := w.comm
    refine zV1 (Wd := wM cy am) E (c_X12_thrown l D cy am uM') w_1248 w_1249 w_1250 w_10 w_1251 rfl hd_X12_thrown rfl hl.1 rfl (Nat.le_of_ble_eq_true rfl) ⟨Nat.le_of_ble_eq_true rfl, Nat.le_of_ble_eq_true rfl⟩ ⟨by show _ + 0 ≤ 601024; omega, by show _ + 0 ≤ 7293000; omega⟩ w (rc_wM_0 w.x) (dq da_law_11 50 rfl) (fun H locs rm w => ?_)
    have w := w.comm
    refine lv_iload hx hb (dq da_law_11 51 rfl) (lv_at hl 0 rfl) ?_
    refine lv_icmp_eq (tgt := 812) hx hb (dq da_law_11 52 rfl) (by decide) (fun c1 => ?_) (fun c1 => absurd h3 c1)
    refine lv_goto (tgt := 1146) hx hb (dq da_law_11 55 rfl) (by decide) ?_
    exact hnext _ _ _ H locs _ _ _ _ ls hS' (by omega) (by omega) (lv_sub hl [1, 2, 3, 4, 5] rfl) w
  · have hB1 := hB _ _ hS'
    refine lv_aload_n hx hb (dq da_law_11 0 rfl) rfl (lv_at hl 1 rfl) ?_
    refine lv_aload_n hx hb (dq da_law_11 1 rfl) rfl (lv_at hl 0 rfl) ?_
    refine lv_iload hx hb (dq da_law_11 2 rfl) (lv_at hl 4 rfl) ?_
    refine lv_iconst (v := 1) hx hb (dq da_law_11 3 rfl) rfl ?_
    refine lv_iadd hx hb (dq da_law_11 4 rfl) ?_
    refine va_sld hx hb hX hbl hbA w.2.2.1 (sx1 hj hL9) (dq da_law_11 5 rfl) ?_
    refine lv_aload_n hx hb (dq da_law_11 6 rfl) rfl (lv_at hl 0 rfl) ?_
    refine lv_iload hx hb (dq da_law_11 7 rfl) (lv_at hl 4 rfl) ?_
    refine lv_iconst (v := 2) hx hb (dq da_law_11 8 rfl) rfl ?_
    refine lv_iadd hx hb (dq da_law_11 9 rfl) ?_
    refine va_sld hx hb hX hbl hbA w.2.2.1 (sx2 hj hL9) (dq da_law_11 10 rfl) ?_
    refine lv_i2l (v := (xs (nI j + 2).toNatClampNeg).toInt64) hx hb (dq da_law_11 11 rfl) rfl ?_
    refine lv_bipush (v := 32) hx hb (dq da_law_11 12 rfl) rfl ?_
    refine lv_lshl (v := (j_lshl ((xs (nI j + 2).toNatClampNeg).toInt64) 32)) hx hb (dq da_law_11 13 rfl) rfl ?_
    refine lv_aload_n hx hb (dq da_law_11 14 rfl) rfl (lv_at hl 0 rfl) ?_
    refine lv_iload hx hb (dq da_law_11 15 rfl) (lv_at hl 4 rfl) ?_
    refine lv_iconst (v := 3) hx hb (dq da_law_11 16 rfl) rfl ?_
    refine lv_iadd hx hb (dq da_law_11 17 rfl) ?_
    refine va_sld hx hb hX hbl hbA w.2.2.1 (sx3 hj hL9) (dq da_law_11 18 rfl) ?_
    refine lv_i2l (v := (xs (nI j + 3).toNatClampNeg).toInt64) hx hb (dq da_law_11 19 rfl) rfl ?_
    refine lv_ldc2 hx hb hown (hts _ w_1656) (dq da_law_11 20 rfl) ?_
    refine lv_land hx hb (dq da_law_11 21 rfl) ?_
    refine lv_lor hx hb (dq da_law_11 22 rfl) ?_
    have w := w.toC
    refine zH (G := []) E (c_L_order_T0 l hca hl0 D cy ad _ _ uC h1) w_591 w_592 w_0 w_593 hd_L_order rfl hl.1 rfl (Nat.le_of_ble_eq_true rfl) ⟨Nat.le_of_ble_eq_true rfl, Nat.le_of_ble_eq_true rfl⟩ ⟨by show cells + 1 ≤ 601024; omega, by show slots + 6 ≤ 7293000; omega⟩ w (dq da_law_11 23 rfl) (fun H locs rr w => ?_)
    have w := w.fromC
    refine lv_istore (lv' := [(5, .int (1 : Int32)), (0, .ref b), (1, .ref (ad 0)), (2, .ref (am 0)), (3, .ref ob), (4, .int (nI j))]) hx hb (dq da_law_11 24 rfl) hl (by decide) rfl (fun ls hl => ?_)
    refine lv_aload_n hx hb (dq da_law_11 25 rfl) rfl (lv_at hl 3 rfl) ?_
    refine lv_aload_n hx hb (dq da_law_11 26 rfl) rfl (lv_at hl 1 rfl) ?_
    refine lv_iload hx hb (dq da_law_11 27 rfl) (lv_at hl 5 rfl) ?_
    refine lv_iconst (v := 1) hx hb (dq da_law_11 28 rfl) rfl ?_
    refine lv_iadd hx hb (dq da_law_11 29 rfl) ?_
    refine va_sld hx hb hX hbl hbA w.2.2.1 (sx1 hj hL9) (dq da_law_11 30 rfl) ?_
    refine lv_aload_n hx hb (dq da_law_11 31 rfl) rfl (lv_at hl 1 rfl) ?_
    refine lv_iload hx hb (dq da_law_11 32 rfl) (lv_at hl 5 rfl) ?_
    refine lv_iconst (v := 2) hx hb (dq da_law_11 33 rfl) rfl ?_
    refine lv_iadd hx hb (dq da_law_11 34 rfl) ?_
    refine va_sld hx hb hX hbl hbA w.2.2.1 (sx2 hj hL9) (dq da_law_11 35 rfl) ?_
    refine lv_i2l (v := (xs (nI j + 2).toNatClampNeg).toInt64) hx hb (dq da_law_11 36 rfl) rfl ?_
    refine lv_bipush (v := 32) hx hb (dq da_law_11 37 rfl) rfl ?_
    refine lv_lshl (v := (j_lshl ((xs (nI j + 2).toNatClampNeg).toInt64) 32)) hx hb (dq da_law_11 38 rfl) rfl ?_
    refine lv_aload_n hx hb (dq da_law_11 39 rfl) rfl (lv_at hl 1 rfl) ?_
    refine lv_iload hx hb (dq da_law_11 40 rfl) (lv_at hl 5 rfl) ?_
    refine lv_iconst (v := 3) hx hb (dq da_law_11 41 rfl) rfl ?_
    refine lv_iadd hx hb (dq da_law_11 42 rfl) ?_
    refine va_sld hx hb hX hbl hbA w.2.2.1 (sx3 hj hL9) (dq da_law_11 43 rfl) ?_
    refine lv_i2l (v := (xs (nI j + 3).toNatClampNeg).toInt64) hx hb (dq da_law_11 44 rfl) rfl ?_
    refine lv_ldc2 hx hb hown (hts _ w_1656) (dq da_law_11 45 rfl) ?_
    refine lv_land hx hb (dq da_law_11 46 rfl) ?_
    refine lv_lor hx hb (dq da_law_11 47 rfl) ?_
    have w := w.comm
    refine zV0 (Wd := wM cy am) E (c_X12_order l D cy am _ _ uM h2) w_1371 w_1372 w_1373 w_10 w_1374 rfl hd_X12_order rfl hl.1 rfl (Nat.le_of_ble_eq_true rfl) ⟨Nat.le_of_ble_eq_true rfl, Nat.le_of_ble_eq_true rfl⟩ ⟨by show _ + 0 ≤ 601024; omega, by show _ + 0 ≤ 7293000; omega⟩ w (rc_wM_0 w.x) (dq da_law_11 48 rfl) (fun H locs rm w => ?_)
    have w := w.comm
    refine lv_aload_n hx hb (dq da_law_11 49 rfl) rfl (lv_at hl 3 rfl) ?_
    have w := w.comm
    refine zV1 (Wd := wM cy am) E (c_X12_thrown l D cy am uM') w_1248 w_1249 w_1250 w_10 w_1251 rfl hd_X12_thrown rfl hl.1 rfl (Nat.le_of_ble_eq_true rfl) ⟨Nat.le_of_ble_eq_true rfl, Nat.le_of_ble_eq_true rfl⟩ ⟨by show _ + 0 ≤ 601024; omega, by show _ + 0 ≤ 7293000; omega⟩ w (rc_wM_0 w.x) (dq da_law_11 50 rfl) (fun H locs rm w => ?_)
    have w := w.comm
    refine lv_iload hx hb (dq da_law_11 51 rfl) (lv_at hl 0 rfl) ?_
    refine lv_icmp_eq (tgt := 812) hx hb (dq da_law_11 52 rfl) (by decide) (fun c1 => ?_) (fun c1 => absurd h3 c1)
    refine lv_goto (tgt := 1146) hx hb (dq da_law_11 55 rfl) (by decide) ?_
    exact hnext _ _ _ H locs _ _ _ _ ls hS' (by omega) (by omega) (lv_sub hl [1, 2, 3, 4, 5] rfl) w
set_option maxRecDepth 100000 in
set_option maxHeartbeats 8000000 in
theorem lw_raise {p : Program} {e : Env} {s : State} {m : MethodId} {below : List Frame} {meth : Method} {c : Code} {Q : State → Prop} {D : va_G} {cy : ClassId × ClassId × ClassId} {ad am : Nat → Nat} {ob b L : Nat} {xs : Nat → Int32} {A : Nat → Prop} (l : Launch) (hca : CatchP) (hl0 : l.stackTraces = false) (E : CallFix p m c code 8 s #[Value.ref b] gw RL) (hX : va_X b L xs s s.heap) (hbl : b < s.heap.size) (hbA : ¬ A b) {S : St → St → Prop} {B : St → Nat} (hB : ∀ uC uM, S uC uM → B uC ≤ 500000) (hop : Op_raise S B) {uC uM : St} (hS : S uC uM) {t j : Nat} (ht : t < 520) (hj : j + 6 ≤ L) (hL9 : L ≤ 3073) {f : Nat → Int64} {H : Heap} {locs : List Loc} {rr rm : Nat → Nat} {cells slots : Nat} {ls : Array Slot} (hc : cells ≤ 100 + B uC + 6 * t) (hs : slots ≤ 500000 + B uC + 6 * t) (hl : lv_has ls 8 [(0, .ref b), (1, .ref (ad 0)), (2, .ref (am 0)), (3, .ref ob), (4, .int (nI j))]) (w : WZ ((wC cy ad rr uC ++ [(ob, .inl (cy.2.2, 1, .inr (.inl f)))]) ++ wM cy am rm uM) D cy A s H locs) (hnext : ∀ (uC uM : St) (f : Nat → Int64) (H : Heap) (locs : List Loc) (rr rm : Nat → Nat) (cells slots : Nat) (ls : Array Slot), S uC uM → cells ≤ 100 + B uC + 6 * (t + 1) → slots ≤ 500000 + B uC + 6 * (t + 1) → lv_has ls 8 [(0, .ref b), (1, .ref (ad 0)), (2, .ref (am 0)), (3, .ref ob), (4, .int (nI j))] → WZ ((wC cy ad rr uC ++ [(ob, .inl (cy.2.2, 1, .inr (.inl f)))]) ++ wM cy am rm uM) D cy A s H locs → W p l e room_1 s m #[Value.ref b] below meth c H locs cells slots Q (F0 m 1146 ls [])) : W p l e room_1 s m #[Value.ref b] below meth c H locs cells slots Q (F0 m 815 ls []) := by
  have hx := E.1
  have hb := E.2.1
  have hown := E.2.2.2.1
  have hts := E.2.2.2.2
  have hB0 := hB _ _ hS
  by_cases z9 : (xs (nI j + 2).toNatClampNeg) = 0
  · skip
    rcases hop (xs (nI j + 1).toNatClampNeg) 0 uC uM (Or.inl rfl) hS with ⟨uC', uM', h1, h2, h3, hS', hk⟩ | ⟨uM', h1, h2, h3, hS'⟩
    · have hB1 := hB _ _ hS'
      refine lv_aload_n hx hb (dq da_law_12 0 rfl) rfl (lv_at hl 1 rfl) ?_
      refine lv_aload_n hx hb (dq da_law_12 1 rfl) rfl (lv_at hl 0 rfl) ?_
      refine lv_iload hx hb (dq da_law_12 2 rfl) (lv_at hl 4 rfl) ?_
      refine lv_iconst (v := 1) hx hb (dq da_law_12 3 rfl) rfl ?_
      refine lv_iadd hx hb (dq da_law_12 4 rfl) ?_
      refine va_sld hx hb hX hbl hbA w.2.2.1 (sx1 hj hL9) (dq da_law_12 5 rfl) ?_
      refine lv_aload_n hx hb (dq da_law_12 6 rfl) rfl (lv_at hl 0 rfl) ?_
      refine lv_iload hx hb (dq da_law_12 7 rfl) (lv_at hl 4 rfl) ?_
      refine lv_iconst (v := 2) hx hb (dq da_law_12 8 rfl) rfl ?_
      refine lv_iadd hx hb (dq da_law_12 9 rfl) ?_
      refine va_sld hx hb hX hbl hbA w.2.2.1 (sx2 hj hL9) (dq da_law_12 10 rfl) ?_
      refine lv_if_eq (tgt := 835) hx hb (dq da_law_12 11 rfl) (by decide) (fun c1 => ?_) (fun c1 => ?_)
      · refine lv_iconst (v := 0) hx hb (dq da_law_12 14 rfl) rfl ?_
        have w := w.toC
        refine zH (G := []) E (c_L_raise_R l D cy ad _ _ uC h1) w_633 w_634 w_0 w_635 hd_L_raise rfl hl.1 rfl (Nat.le_of_ble_eq_true rfl) ⟨Nat.le_of_ble_eq_true rfl, Nat.le_of_ble_eq_true rfl⟩ ⟨by show cells + 0 ≤ 601024; omega, by show slots + 0 ≤ 7293000; omega⟩ w (dq da_law_12 15 rfl) (fun H locs rr w => ?_)
        have w := w.fromC
        refine lv_istore (lv' := [(5, .int (0 : Int32)), (0, .ref b), (1, .ref (ad 0)), (2, .ref (am 0)), (3, .ref ob), (4, .int (nI j))]) hx hb (dq da_law_12 16 rfl) hl (by decide) rfl (fun ls hl => ?_)
        refine lv_aload_n hx hb (dq da_law_12 17 rfl) rfl (lv_at hl 3 rfl) ?_
        refine lv_aload_n hx hb (dq da_law_12 18 rfl) rfl (lv_at hl 1 rfl) ?_
        refine lv_iload hx hb (dq da_law_12 19 rfl) (lv_at hl 5 rfl) ?_
        refine lv_iconst (v := 1) hx hb (dq da_law_12 20 rfl) rfl ?_
        refine lv_iadd hx hb (dq da_law_12 21 rfl) ?_
        refine va_sld hx hb hX hbl hbA w.2.2.1 (sx1 hj hL9) (dq da_law_12 22 rfl) ?_
        refine lv_aload_n hx hb (dq da_law_12 23 rfl) rfl (lv_at hl 1 rfl) ?_
        refine lv_iload hx hb (dq da_law_12 24 rfl) (lv_at hl 5 rfl) ?_
        refine lv_iconst (v := 2) hx hb (dq da_law_12 25 rfl) rfl ?_
        refine lv_iadd hx hb (dq da_law_12 26 rfl) ?_
        refine va_sld hx hb hX hbl hbA w.2.2.1 (sx2 hj hL9) (dq da_law_12 27 rfl) ?_
        refine lv_if_eq (tgt := 861) hx hb (dq da_law_12 28 rfl) (by decide) (fun c2 => ?_) (fun c2 => ?_)
        · refine lv_iconst (v := 0) hx hb (dq da_law_12 31 rfl) rfl ?_
          have w := w.comm
          refine zV0 (Wd := wM cy am) E (c_X12_raise l D cy am _ _ uM h2) w_1395 w_1396 w_1397 w_10 w_1398 rfl hd_X12_raise rfl hl.1 rfl (Nat.le_of_ble_eq_true rfl) ⟨Nat.le_of_ble_eq_true rfl, Nat.le_of_ble_eq_true rfl⟩ ⟨by show _ + 0 ≤ 601024; omega, by show _ + 0 ≤ 7293000; omega⟩ w (rc_wM_0 w.x) (dq da_law_12 32 rfl) (fun H locs rm w => ?_)
          have w := w.comm
          refine lv_aload_n hx hb (dq da_law_12 33 rfl) rfl (lv_at hl 3 rfl) ?_
          have w := w.comm
          refine zV1 (Wd := wM cy am) E (c_X12_thrown l D cy am uM') w_1248 w_1249 w_1250 w_10 w_1251 rfl hd_X12_thrown rfl hl.1 rfl (Nat.le_of_ble_eq_true rfl) ⟨Nat.le_of_ble_eq_true rfl, Nat.le_of_ble_eq_true rfl⟩ ⟨by show _ + 0 ≤ 601024; omega, by show _ + 0 ≤ 7293000; omega⟩ w (rc_wM_0 w.x) (dq da_law_12 34 rfl) (fun H locs rm w => ?_)
          have w := w.comm
          refine lv_iload hx hb (dq da_law_12 35 rfl) (lv_at hl 0 rfl) ?_
          refine lv_icmp_eq (tgt := 876) hx hb (dq da_law_12 36 rfl) (by decide) (fun c3 => ?_) (fun c3 => absurd h3 c3)
          refine lv_goto (tgt := 1146) hx hb (dq da_law_12 39 rfl) (by decide) ?_
          exact hnext _ _ _ H locs _ _ _ _ ls hS' (by omega) (by omega) (lv_sub hl [1, 2, 3, 4, 5] rfl) w
        · exact absurd z9 c2
      · exact absurd z9 c1
    · have hB1 := hB _ _ hS'
      refine lv_aload_n hx hb (dq da_law_12 0 rfl) rfl (lv_at hl 1 rfl) ?_
      refine lv_aload_n hx hb (dq da_law_12 1 rfl) rfl (lv_at hl 0 rfl) ?_
      refine lv_iload hx hb (dq da_law_12 2 rfl) (lv_at hl 4 rfl) ?_
      refine lv_iconst (v := 1) hx hb (dq da_law_12 3 rfl) rfl ?_
      refine lv_iadd hx hb (dq da_law_12 4 rfl) ?_
      refine va_sld hx hb hX hbl hbA w.2.2.1 (sx1 hj hL9) (dq da_law_12 5 rfl) ?_
      refine lv_aload_n hx hb (dq da_law_12 6 rfl) rfl (lv_at hl 0 rfl) ?_
      refine lv_iload hx hb (dq da_law_12 7 rfl) (lv_at hl 4 rfl) ?_
      refine lv_iconst (v := 2) hx hb (dq da_law_12 8 rfl) rfl ?_
      refine lv_iadd hx hb (dq da_law_12 9 rfl) ?_
      refine va_sld hx hb hX hbl hbA w.2.2.1 (sx2 hj hL9) (dq da_law_12 10 rfl) ?_
      refine lv_if_eq (tgt := 835) hx hb (dq da_law_12 11 rfl) (by decide) (fun c1 => ?_) (fun c1 => ?_)
      · refine lv_iconst (v := 0) hx hb (dq da_law_12 14 rfl) rfl ?_
        have w := w.toC
        refine zH (G := []) E (c_L_raise_T0 l hca hl0 D cy ad _ _ uC h1) w_633 w_634 w_0 w_635 hd_L_raise rfl hl.1 rfl (Nat.le_of_ble_eq_true rfl) ⟨Nat.le_of_ble_eq_true rfl, Nat.le_of_ble_eq_true rfl⟩ ⟨by show cells + 1 ≤ 601024; omega, by show slots + 6 ≤ 7293000; omega⟩ w (dq da_law_12 15 rfl) (fun H locs rr w => ?_)
        have w := w.fromC
        refine lv_istore (lv' := [(5, .int (1 : Int32)), (0, .ref b), (1, .ref (ad 0)), (2, .ref (am 0)), (3, .ref ob), (4, .int (nI j))]) hx hb (dq da_law_12 16 rfl) hl (by decide) rfl (fun ls hl => ?_)
        refine lv_aload_n hx hb (dq da_law_12 17 rfl) rfl (lv_at hl 3 rfl) ?_
        refine lv_aload_n hx hb (dq da_law_12 18 rfl) rfl (lv_at hl 1 rfl) ?_
        refine lv_iload hx hb (dq da_law_12 19 rfl) (lv_at hl 5 rfl) ?_
        refine lv_iconst (v := 1) hx hb (dq da_law_12 20 rfl) rfl ?_
        refine lv_iadd hx hb (dq da_law_12 21 rfl) ?_
        refine va_sld hx hb hX hbl hbA w.2.2.1 (sx1 hj hL9) (dq da_law_12 22 rfl) ?_
        refine lv_aload_n hx hb (dq da_law_12 23 rfl) rfl (lv_at hl 1 rfl) ?_
        refine lv_iload hx hb (dq da_law_12 24 rfl) (lv_at hl 5 rfl) ?_
        refine lv_iconst (v := 2) hx hb (dq da_law_12 25 rfl) rfl ?_
        refine lv_iadd hx hb (dq da_law_12 26 rfl) ?_
        refine va_sld hx hb hX hbl hbA w.2.2.1 (sx2 hj hL9) (dq da_law_12 27 rfl) ?_
        refine lv_if_eq (tgt := 861) hx hb (dq da_law_12 28 rfl) (by decide) (fun c2 => ?_) (fun c2 => ?_)
        · refine lv_iconst (v := 0) hx hb (dq da_law_12 31 rfl) rfl ?_
          have w := w.comm
          refine zV0 (Wd := wM cy am) E (c_X12_raise l D cy am _ _ uM h2) w_1395 w_1396 w_1397 w_10 w_1398 rfl hd_X12_raise rfl hl.1 rfl (Nat.le_of_ble_eq_true rfl) ⟨Nat.le_of_ble_eq_true rfl, Nat.le_of_ble_eq_true rfl⟩ ⟨by show _ + 0 ≤ 601024; omega, by show _ + 0 ≤ 7293000; omega⟩ w (rc_wM_0 w.x) (dq da_law_12 32 rfl) (fun H locs rm w => ?_)
          have w := w.comm
          refine lv_aload_n hx hb (dq da_law_12 33 rfl) rfl (lv_at hl 3 rfl) ?_
          have w := w.comm
          refine zV1 (Wd := wM cy am) E (c_X12_thrown l D cy am uM') w_1248 w_1249 w_1250 w_10 w_1251 rfl hd_X12_thrown rfl hl.1 rfl (Nat.le_of_ble_eq_true rfl) ⟨Nat.le_of_ble_eq_true rfl, Nat.le_of_ble_eq_true rfl⟩ ⟨by show _ + 0 ≤ 601024; omega, by show _ + 0 ≤ 7293000; omega⟩ w (rc_wM_0 w.x) (dq da_law_12 34 rfl) (fun H locs rm w => ?_)
          have w := w.comm
          refine lv_iload hx hb (dq da_law_12 35 rfl) (lv_at hl 0 rfl) ?_
          refine lv_icmp_eq (tgt := 876) hx hb (dq da_law_12 36 rfl) (by decide) (fun c3 => ?_) (fun c3 => absurd h3 c3)
          refine lv_goto (tgt := 1146) hx hb (dq da_law_12 39 rfl) (by decide) ?_
          exact hnext _ _ _ H locs _ _ _ _ ls hS' (by omega) (by omega) (lv_sub hl [1, 2, 3, 4, 5] rfl) w
        · exact absurd z9 c2
      · exact absurd z9 c1
  · skip
    rcases hop (xs (nI j + 1).toNatClampNeg) 1 uC uM (Or.inr rfl) hS with ⟨uC', uM', h1, h2, h3, hS', hk⟩ | ⟨uM', h1, h2, h3, hS'⟩
    · have hB1 := hB _ _ hS'
      refine lv_aload_n hx hb (dq da_law_12 0 rfl) rfl (lv_at hl 1 rfl) ?_
      refine lv_aload_n hx hb (dq da_law_12 1 rfl) rfl (lv_at hl 0 rfl) ?_
      refine lv_iload hx hb (dq da_law_12 2 rfl) (lv_at hl 4 rfl) ?_
      refine lv_iconst (v := 1) hx hb (dq da_law_12 3 rfl) rfl ?_
      refine lv_iadd hx hb (dq da_law_12 4 rfl) ?_
      refine va_sld hx hb hX hbl hbA w.2.2.1 (sx1 hj hL9) (dq da_law_12 5 rfl) ?_
      refine lv_aload_n hx hb (dq da_law_12 6 rfl) rfl (lv_at hl 0 rfl) ?_
      refine lv_iload hx hb (dq da_law_12 7 rfl) (lv_at hl 4 rfl) ?_
      refine lv_iconst (v := 2) hx hb (dq da_law_12 8 rfl) rfl ?_
      refine lv_iadd hx hb (dq da_law_12 9 rfl) ?_
      refine va_sld hx hb hX hbl hbA w.2.2.1 (sx2 hj hL9) (dq da_law_12 10 rfl) ?_
      refine lv_if_eq (tgt := 835) hx hb (dq da_law_12 11 rfl) (by decide) (fun c1 => ?_) (fun c1 => ?_)
      · exact absurd c1 z9
      · refine lv_iconst (v := 1) hx hb (dq da_law_12 12 rfl) rfl ?_
        refine lv_goto (tgt := 836) hx hb (dq da_law_12 13 rfl) (by decide) ?_
        have w := w.toC
        refine zH (G := []) E (c_L_raise_R l D cy ad _ _ uC h1) w_633 w_634 w_0 w_635 hd_L_raise rfl hl.1 rfl (Nat.le_of_ble_eq_true rfl) ⟨Nat.le_of_ble_eq_true rfl, Nat.le_of_ble_eq_true rfl⟩ ⟨by show cells + 0 ≤ 601024; omega, by show slots + 0 ≤ 7293000; omega⟩ w (dq da_law_12 15 rfl) (fun H locs rr w => ?_)
        have w := w.fromC
        refine lv_istore (lv' := [(5, .int (0 : Int32)), (0, .ref b), (1, .ref (ad 0)), (2, .ref (am 0)), (3, .ref ob), (4, .int (nI j))]) hx hb (dq da_law_12 16 rfl) hl (by decide) rfl (fun ls hl => ?_)
        refine lv_aload_n hx hb (dq da_law_12 17 rfl) rfl (lv_at hl 3 rfl) ?_
        refine lv_aload_n hx hb (dq da_law_12 18 rfl) rfl (lv_at hl 1 rfl) ?_
        refine lv_iload hx hb (dq da_law_12 19 rfl) (lv_at hl 5 rfl) ?_
        refine lv_iconst (v := 1) hx hb (dq da_law_12 20 rfl) rfl ?_
        refine lv_iadd hx hb (dq da_law_12 21 rfl) ?_
        refine va_sld hx hb hX hbl hbA w.2.2.1 (sx1 hj hL9) (dq da_law_12 22 rfl) ?_
        refine lv_aload_n hx hb (dq da_law_12 23 rfl) rfl (lv_at hl 1 rfl) ?_
        refine lv_iload hx hb (dq da_law_12 24 rfl) (lv_at hl 5 rfl) ?_
        refine lv_iconst (v := 2) hx hb (dq da_law_12 25 rfl) rfl ?_
        refine lv_iadd hx hb (dq da_law_12 26 rfl) ?_
        refine va_sld hx hb hX hbl hbA w.2.2.1 (sx2 hj hL9) (dq da_law_12 27 rfl) ?_
        refine lv_if_eq (tgt := 861) hx hb (dq da_law_12 28 rfl) (by decide) (fun c2 => ?_) (fun c2 => ?_)
        · exact absurd c2 z9
        · refine lv_iconst (v := 1) hx hb (dq da_law_12 29 rfl) rfl ?_
          refine lv_goto (tgt := 862) hx hb (dq da_law_12 30 rfl) (by decide) ?_
          have w := w.comm
          refine zV0 (Wd := wM cy am) E (c_X12_raise l D cy am _ _ uM h2) w_1395 w_1396 w_1397 w_10 w_1398 rfl hd_X12_raise rfl hl.1 rfl (Nat.le_of_ble_eq_true rfl) ⟨Nat.le_of_ble_eq_true rfl, Nat.le_of_ble_eq_true rfl⟩ ⟨by show _ + 0 ≤ 601024; omega, by show _ + 0 ≤ 7293000; omega⟩ w (rc_wM_0 w.x) (dq da_law_12 32 rfl) (fun H locs rm w => ?_)
          have w := w.comm
          refine lv_aload_n hx hb (dq da_law_12 33 rfl) rfl (lv_at hl 3 rfl) ?_
          have w := w.comm
          refine zV1 (Wd := wM cy am) E (c_X12_thrown l D cy am uM') w_1248 w_1249 w_1250 w_10 w_1251 rfl hd_X12_thrown rfl hl.1 rfl (Nat.le_of_ble_eq_true rfl) ⟨Nat.le_of_ble_eq_true rfl, Nat.le_of_ble_eq_true rfl⟩ ⟨by show _ + 0 ≤ 601024; omega, by show _ + 0 ≤ 7293000; omega⟩ w (rc_wM_0 w.x) (dq da_law_12 34 rfl) (fun H locs rm w => ?_)
          have w := w.comm
          refine lv_iload hx hb (dq da_law_12 35 rfl) (lv_at hl 0 rfl) ?_
          refine lv_icmp_eq (tgt := 876) hx hb (dq da_law_12 36 rfl) (by decide) (fun c3 => ?_) (fun c3 => absurd h3 c3)
          refine lv_goto (tgt := 1146) hx hb (dq da_law_12 39 rfl) (by decide) ?_
          exact hnext _ _ _ H locs _ _ _ _ ls hS' (by omega) (by omega) (lv_sub hl [1, 2, 3, 4, 5] rfl) w
    · have hB1 := hB _ _ hS'
      refine lv_aload_n hx hb (dq da_law_12 0 rfl) rfl (lv_at hl 1 rfl) ?_
      refine lv_aload_n hx hb (dq da_law_12 1 rfl) rfl (lv_at hl 0 rfl) ?_
      refine lv_iload hx hb (dq da_law_12 2 rfl) (lv_at hl 4 rfl) ?_
      refine lv_iconst (v := 1) hx hb (dq da_law_12 3 rfl) rfl ?_
      refine lv_iadd hx hb (dq da_law_12 4 rfl) ?_
      refine va_sld hx hb hX hbl hbA w.2.2.1 (sx1 hj hL9) (dq da_law_12 5 rfl) ?_
      refine lv_aload_n hx hb (dq da_law_12 6 rfl) rfl (lv_at hl 0 rfl) ?_
      refine lv_iload hx hb (dq da_law_12 7 rfl) (lv_at hl 4 rfl) ?_
      refine lv_iconst (v := 2) hx hb (dq da_law_12 8 rfl) rfl ?_
      refine lv_iadd hx hb (dq da_law_12 9 rfl) ?_
      refine va_sld hx hb hX hbl hbA w.2.2.1 (sx2 hj hL9) (dq da_law_12 10 rfl) ?_
      refine lv_if_eq (tgt := 835) hx hb (dq da_law_12 11 rfl) (by decide) (fun c1 => ?_) (fun c1 => ?_)
      · exact absurd c1 z9
      · refine lv_iconst (v := 1) hx hb (dq da_law_12 12 rfl) rfl ?_
        refine lv_goto (tgt := 836) hx hb (dq da_law_12 13 rfl) (by decide) ?_
        have w := w.toC
        refine zH (G := []) E (c_L_raise_T0 l hca hl0 D cy ad _ _ uC h1) w_633 w_634 w_0 w_635 hd_L_raise rfl hl.1 rfl (Nat.le_of_ble_eq_true rfl) ⟨Nat.le_of_ble_eq_true rfl, Nat.le_of_ble_eq_true rfl⟩ ⟨by show cells + 1 ≤ 601024; omega, by show slots + 6 ≤ 7293000; omega⟩ w (dq da_law_12 15 rfl) (fun H locs rr w => ?_)
        have w := w.fromC
        refine lv_istore (lv' := [(5, .int (1 : Int32)), (0, .ref b), (1, .ref (ad 0)), (2, .ref (am 0)), (3, .ref ob), (4, .int (nI j))]) hx hb (dq da_law_12 16 rfl) hl (by decide) rfl (fun ls hl => ?_)
        refine lv_aload_n hx hb (dq da_law_12 17 rfl) rfl (lv_at hl 3 rfl) ?_
        refine lv_aload_n hx hb (dq da_law_12 18 rfl) rfl (lv_at hl 1 rfl) ?_
        refine lv_iload hx hb (dq da_law_12 19 rfl) (lv_at hl 5 rfl) ?_
        refine lv_iconst (v := 1) hx hb (dq da_law_12 20 rfl) rfl ?_
        refine lv_iadd hx hb (dq da_law_12 21 rfl) ?_
        refine va_sld hx hb hX hbl hbA w.2.2.1 (sx1 hj hL9) (dq da_law_12 22 rfl) ?_
        refine lv_aload_n hx hb (dq da_law_12 23 rfl) rfl (lv_at hl 1 rfl) ?_
        refine lv_iload hx hb (dq da_law_12 24 rfl) (lv_at hl 5 rfl) ?_
        refine lv_iconst (v := 2) hx hb (dq da_law_12 25 rfl) rfl ?_
        refine lv_iadd hx hb (dq da_law_12 26 rfl) ?_
        refine va_sld hx hb hX hbl hbA w.2.2.1 (sx2 hj hL9) (dq da_law_12 27 rfl) ?_
        refine lv_if_eq (tgt := 861) hx hb (dq da_law_12 28 rfl) (by decide) (fun c2 => ?_) (fun c2 => ?_)
        · exact absurd c2 z9
        · refine lv_iconst (v := 1) hx hb (dq da_law_12 29 rfl) rfl ?_
          refine lv_goto (tgt := 862) hx hb (dq da_law_12 30 rfl) (by decide) ?_
          have w := w.comm
          refine zV0 (Wd := wM cy am) E (c_X12_raise l D cy am _ _ uM h2) w_1395 w_1396 w_1397 w_10 w_1398 rfl hd_X12_raise rfl hl.1 rfl (Nat.le_of_ble_eq_true rfl) ⟨Nat.le_of_ble_eq_true rfl, Nat.le_of_ble_eq_true rfl⟩ ⟨by show _ + 0 ≤ 601024; omega, by show _ + 0 ≤ 7293000; omega⟩ w (rc_wM_0 w.x) (dq da_law_12 32 rfl) (fun H locs rm w => ?_)
          have w := w.comm
          refine lv_aload_n hx hb (dq da_law_12 33 rfl) rfl (lv_at hl 3 rfl) ?_
          have w := w.comm
          refine zV1 (Wd := wM cy am) E (c_X12_thrown l D cy am uM') w_1248 w_1249 w_1250 w_10 w_1251 rfl hd_X12_thrown rfl hl.1 rfl (Nat.le_of_ble_eq_true rfl) ⟨Nat.le_of_ble_eq_true rfl, Nat.le_of_ble_eq_true rfl⟩ ⟨by show _ + 0 ≤ 601024; omega, by show _ + 0 ≤ 7293000; omega⟩ w (rc_wM_0 w.x) (dq da_law_12 34 rfl) (fun H locs rm w => ?_)
          have w := w.comm
          refine lv_iload hx hb (dq da_law_12 35 rfl) (lv_at hl 0 rfl) ?_
          refine lv_icmp_eq (tgt := 876) hx hb (dq da_law_12 36 rfl) (by decide) (fun c3 => ?_) (fun c3 => absurd h3 c3)
          refine lv_goto (tgt := 1146) hx hb (dq da_law_12 39 rfl) (by decide) ?_
          exact hnext _ _ _ H locs _ _ _ _ ls hS' (by omega) (by omega) (lv_sub hl [1, 2, 3, 4, 5] rfl) w
set_option maxRecDepth 100000 in
set_option maxHeartbeats 8000000 in
theorem lw_step {p : Program} {e : Env} {s : State} {m : MethodId} {below : List Frame} {meth : Method} {c : Code} {Q : State → Prop} {D : va_G} {cy : ClassId × ClassId × ClassId} {ad am : Nat → Nat} {ob b L : Nat} {xs : Nat → Int32} {A : Nat → Prop} (l : Launch) (hca : CatchP) (hl0 : l.stackTraces = false) (E : CallFix p m c code 8 s #[Value.ref b] gw RL) (hX : va_X b L xs s s.heap) (hbl : b < s.heap.size) (hbA : ¬ A b) {S : St → St → Prop} {B : St → Nat} (hB : ∀ uC uM, S uC uM → B uC ≤ 500000) (hop : Op_step S B) {uC uM : St} (hS : S uC uM) {t j : Nat} (ht : t < 520) (hj : j + 6 ≤ L) (hL9 : L ≤ 3073) {f : Nat → Int64} {H : Heap} {locs : List Loc} {rr rm : Nat → Nat} {cells slots : Nat} {ls : Array Slot} (hc : cells ≤ 100 + B uC + 6 * t) (hs : slots ≤ 500000 + B uC + 6 * t) (hl : lv_has ls 8 [(0, .ref b), (1, .ref (ad 0)), (2, .ref (am 0)), (3, .ref ob), (4, .int (nI j))]) (w : WZ ((wC cy ad rr uC ++ [(ob, .inl (cy.2.2, 1, .inr (.inl f)))]) ++ wM cy am rm uM) D cy A s H locs) (hnext : ∀ (uC uM : St) (f : Nat → Int64) (H : Heap) (locs : List Loc) (rr rm : Nat → Nat) (cells slots : Nat) (ls : Array Slot), S uC uM → cells ≤ 100 + B uC + 6 * (t + 1) → slots ≤ 500000 + B uC + 6 * (t + 1) → lv_has ls 8 [(0, .ref b), (1, .ref (ad 0)), (2, .ref (am 0)), (3, .ref ob), (4, .int (nI j))] → WZ ((wC cy ad rr uC ++ [(ob, .inl (cy.2.2, 1, .inr (.inl f)))]) ++ wM cy am rm uM) D cy A s H locs → W p l e room_1 s m #[Value.ref b] below meth c H locs cells slots Q (F0 m 1146 ls [])) : W p l e room_1 s m #[Value.ref b] below meth c H locs cells slots Q (F0 m 879 ls []) := by
  have hx := E.1
  have hb := E.2.1
  have hown := E.2.2.2.1
  have hts := E.2.2.2.2
  have hB0 := hB _ _ hS
  rcases hop (xs (nI j + 1).toNatClampNeg) uC uM hS with ⟨r, uC', k', rb, uM', h1, h2, h3, h4, hS', hk⟩ | ⟨rb, uM', h1, h2, h3, hS'⟩
  · have hB1 := hB _ _ hS'
    refine lv_aload_n hx hb (dq da_law_13 0 rfl) rfl (lv_at hl 1 rfl) ?_
    refine lv_aload_n hx hb (dq da_law_13 1 rfl) rfl (lv_at hl 0 rfl) ?_
    refine lv_iload hx hb (dq da_law_13 2 rfl) (lv_at hl 4 rfl) ?_
    refine lv_iconst (v := 1) hx hb (dq da_law_13 3 rfl) rfl ?_
    refine lv_iadd hx hb (dq da_law_13 4 rfl) ?_
    refine va_sld hx hb hX hbl hbA w.2.2.1 (sx1 hj hL9) (dq da_law_13 5 rfl) ?_
    refine lv_aload_n hx hb (dq da_law_13 6 rfl) rfl (lv_at hl 3 rfl) ?_
    refine zH E (c_L_step_R l D cy ad ob f _ uC h1) w_645 w_646 w_0 w_647 hd_L_step rfl hl.1 rfl (Nat.le_of_ble_eq_true rfl) ⟨Nat.le_of_ble_eq_true rfl, Nat.le_of_ble_eq_true rfl⟩ ⟨by show cells + k' ≤ 601024; omega, by show slots + k' ≤ 7293000; omega⟩ w (dq da_law_13 7 rfl) (fun H locs rr w => ?_)
    refine lv_istore (lv' := [(5, .int (0 : Int32)), (0, .ref b), (1, .ref (ad 0)), (2, .ref (am 0)), (3, .ref ob), (4, .int (nI j))]) hx hb (dq da_law_13 8 rfl) hl (by decide) rfl (fun ls hl => ?_)
    refine lv_aload_n hx hb (dq da_law_13 9 rfl) rfl (lv_at hl 3 rfl) ?_
    refine lv_aload_n hx hb (dq da_law_13 10 rfl) rfl (lv_at hl 1 rfl) ?_
    refine lv_iload hx hb (dq da_law_13 11 rfl) (lv_at hl 5 rfl) ?_
    refine lv_iconst (v := 1) hx hb (dq da_law_13 12 rfl) rfl ?_
    refine lv_iadd hx hb (dq da_law_13 13 rfl) ?_
    refine va_sld hx hb hX hbl hbA w.2.2.1 (sx1 hj hL9) (dq da_law_13 14 rfl) ?_
    have w := w.comm
    refine zV1 (Wd := wM cy am) E (c_X12_step l D cy am _ uM h2) w_1399 w_1400 w_1401 w_10 w_1402 rfl hd_X12_step rfl hl.1 rfl (Nat.le_of_ble_eq_true rfl) ⟨Nat.le_of_ble_eq_true rfl, Nat.le_of_ble_eq_true rfl⟩ ⟨by show _ + 0 ≤ 601024; omega, by show _ + 0 ≤ 7293000; omega⟩ w (rc_wM_0 w.x) (dq da_law_13 15 rfl) (fun H locs rm w => ?_)
    have w := w.comm
    refine lv_istore (lv' := [(6, .int rb), (5, .int (0 : Int32)), (0, .ref b), (1, .ref (ad 0)), (2, .ref (am 0)), (3, .ref ob), (4, .int (nI j))]) hx hb (dq da_law_13 16 rfl) hl (by decide) rfl (fun ls hl => ?_)
    refine lv_aload_n hx hb (dq da_law_13 17 rfl) rfl (lv_at hl 4 rfl) ?_
    have w := w.comm
    refine zV1 (Wd := wM cy am) E (c_X12_thrown l D cy am uM') w_1248 w_1249 w_1250 w_10 w_1251 rfl hd_X12_thrown rfl hl.1 rfl (Nat.le_of_ble_eq_true rfl) ⟨Nat.le_of_ble_eq_true rfl, Nat.le_of_ble_eq_true rfl⟩ ⟨by show _ + 0 ≤ 601024; omega, by show _ + 0 ≤ 7293000; omega⟩ w (rc_wM_0 w.x) (dq da_law_13 18 rfl) (fun H locs rm w => ?_)
    have w := w.comm
    refine lv_iload hx hb (dq da_law_13 19 rfl) (lv_at hl 1 rfl) ?_
    refine lv_icmp_eq (tgt := 915) hx hb (dq da_law_13 20 rfl) (by decide) (fun c1 => ?_) (fun c1 => absurd h3 c1)
    refine lv_iload hx hb (dq da_law_13 23 rfl) (lv_at hl 1 rfl) ?_
    refine lv_if_ne (tgt := 932) hx hb (dq da_law_13 24 rfl) (by decide) (fun c2 => absurd rfl c2) (fun c2 => ?_)
    refine lv_aload_n hx hb (dq da_law_13 25 rfl) rfl (lv_at hl 5 rfl) ?_
    refine lv_iconst (v := 0) hx hb (dq da_law_13 26 rfl) rfl ?_
    refine zld (v := r.toInt64) E w rfl (dq da_law_13 27 rfl) ?_
    refine lv_iload hx hb (dq da_law_13 28 rfl) (lv_at hl 0 rfl) ?_
    refine lv_i2l (v := rb.toInt64) hx hb (dq da_law_13 29 rfl) rfl ?_
    refine lc_eq (tgt := 932) hx hb (dq da_law_13 30 rfl) (dq da_law_13 31 rfl) (by decide) (fun c3 => ?_) (fun c3 => absurd (by rw [h4]) c3)
    refine lv_goto (tgt := 1146) hx hb (dq da_law_13 34 rfl) (by decide) ?_
    exact hnext _ _ _ H locs _ _ _ _ ls hS' (by omega) (by omega) (lv_sub hl [2, 3, 4, 5, 6] rfl) w
  · have hB1 := hB _ _ hS'
    refine lv_aload_n hx hb (dq da_law_13 0 rfl) rfl (lv_at hl 1 rfl) ?_
    refine lv_aload_n hx hb (dq da_law_13 1 rfl) rfl (lv_at hl 0 rfl) ?_
    refine lv_iload hx hb (dq da_law_13 2 rfl) (lv_at hl 4 rfl) ?_
    refine lv_iconst (v := 1) hx hb (dq da_law_13 3 rfl) rfl ?_
    refine lv_iadd hx hb (dq da_law_13 4 rfl) ?_
    refine va_sld hx hb hX hbl hbA w.2.2.1 (sx1 hj hL9) (dq da_law_13 5 rfl) ?_
    refine lv_aload_n hx hb (dq da_law_13 6 rfl) rfl (lv_at hl 3 rfl) ?_
    refine zH E (c_L_step_T0 l hca hl0 D cy ad ob f _ uC h1) w_645 w_646 w_0 w_647 hd_L_step rfl hl.1 rfl (Nat.le_of_ble_eq_true rfl) ⟨Nat.le_of_ble_eq_true rfl, Nat.le_of_ble_eq_true rfl⟩ ⟨by show cells + 1 ≤ 601024; omega, by show slots + 6 ≤ 7293000; omega⟩ w (dq da_law_13 7 rfl) (fun H locs rr w => ?_)
    refine lv_istore (lv' := [(5, .int (1 : Int32)), (0, .ref b), (1, .ref (ad 0)), (2, .ref (am 0)), (3, .ref ob), (4, .int (nI j))]) hx hb (dq da_law_13 8 rfl) hl (by decide) rfl (fun ls hl => ?_)
    refine lv_aload_n hx hb (dq da_law_13 9 rfl) rfl (lv_at hl 3 rfl) ?_
    refine lv_aload_n hx hb (dq da_law_13 10 rfl) rfl (lv_at hl 1 rfl) ?_
    refine lv_iload hx hb (dq da_law_13 11 rfl) (lv_at hl 5 rfl) ?_
    refine lv_iconst (v := 1) hx hb (dq da_law_13 12 rfl) rfl ?_
    refine lv_iadd hx hb (dq da_law_13 13 rfl) ?_
    refine va_sld hx hb hX hbl hbA w.2.2.1 (sx1 hj hL9) (dq da_law_13 14 rfl) ?_
    have w := w.comm
    refine zV1 (Wd := wM cy am) E (c_X12_step l D cy am _ uM h2) w_1399 w_1400 w_1401 w_10 w_1402 rfl hd_X12_step rfl hl.1 rfl (Nat.le_of_ble_eq_true rfl) ⟨Nat.le_of_ble_eq_true rfl, Nat.le_of_ble_eq_true rfl⟩ ⟨by show _ + 0 ≤ 601024; omega, by show _ + 0 ≤ 7293000; omega⟩ w (rc_wM_0 w.x) (dq da_law_13 15 rfl) (fun H locs rm w => ?_)
    have w := w.comm
    refine lv_istore (lv' := [(6, .int rb), (5, .int (1 : Int32)), (0, .ref b), (1, .ref (ad 0)), (2, .ref (am 0)), (3, .ref ob), (4, .int (nI j))]) hx hb (dq da_law_13 16 rfl) hl (by decide) rfl (fun ls hl => ?_)
    refine lv_aload_n hx hb (dq da_law_13 17 rfl) rfl (lv_at hl 4 rfl) ?_
    have w := w.comm
    refine zV1 (Wd := wM cy am) E (c_X12_thrown l D cy am uM') w_1248 w_1249 w_1250 w_10 w_1251 rfl hd_X12_thrown rfl hl.1 rfl (Nat.le_of_ble_eq_true rfl) ⟨Nat.le_of_ble_eq_true rfl, Nat.le_of_ble_eq_true rfl⟩ ⟨by show _ + 0 ≤ 601024; omega, by show _ + 0 ≤ 7293000; omega⟩ w (rc_wM_0 w.x) (dq da_law_13 18 rfl) (fun H locs rm w => ?_)
    have w := w.comm
    refine lv_iload hx hb (dq da_law_13 19 rfl) (lv_at hl 1 rfl) ?_
    refine lv_icmp_eq (tgt := 915) hx hb (dq da_law_13 20 rfl) (by decide) (fun c1 => ?_) (fun c1 => absurd h3 c1)
    refine lv_iload hx hb (dq da_law_13 23 rfl) (lv_at hl 1 rfl) ?_
    refine lv_if_ne (tgt := 932) hx hb (dq da_law_13 24 rfl) (by decide) (fun c2 => ?_) (fun c2 => absurd c2 (by decide))
    refine lv_goto (tgt := 1146) hx hb (dq da_law_13 34 rfl) (by decide) ?_
    exact hnext _ _ _ H locs _ _ _ _ ls hS' (by omega) (by omega) (lv_sub hl [2, 3, 4, 5, 6] rfl) w
set_option maxRecDepth 100000 in
set_option maxHeartbeats 8000000 in
theorem lw_translate {p : Program} {e : Env} {s : State} {m : MethodId} {below : List Frame} {meth : Method} {c : Code} {Q : State → Prop} {D : va_G} {cy : ClassId × ClassId × ClassId} {ad am : Nat → Nat} {ob b L : Nat} {xs : Nat → Int32} {A : Nat → Prop} (l : Launch) (hca : CatchP) (hl0 : l.stackTraces = false) (E : CallFix p m c code 8 s #[Value.ref b] gw RL) (hX : va_X b L xs s s.heap) (hbl : b < s.heap.size) (hbA : ¬ A b) {S : St → St → Prop} {B : St → Nat} (hB : ∀ uC uM, S uC uM → B uC ≤ 500000) (hop : Op_translate S B) {uC uM : St} (hS : S uC uM) {t j : Nat} (ht : t < 520) (hj : j + 6 ≤ L) (hL9 : L ≤ 3073) {f : Nat → Int64} {H : Heap} {locs : List Loc} {rr rm : Nat → Nat} {cells slots : Nat} {ls : Array Slot} (hc : cells ≤ 100 + B uC + 6 * t) (hs : slots ≤ 500000 + B uC + 6 * t) (hl : lv_has ls 8 [(0, .ref b), (1, .ref (ad 0)), (2, .ref (am 0)), (3, .ref ob), (4, .int (nI j))]) (w : WZ ((wC cy ad rr uC ++ [(ob, .inl (cy.2.2, 1, .inr (.inl f)))]) ++ wM cy am rm uM) D cy A s H locs) (hnext : ∀ (uC uM : St) (f : Nat → Int64) (H : Heap) (locs : List Loc) (rr rm : Nat → Nat) (cells slots : Nat) (ls : Array Slot), S uC uM → cells ≤ 100 + B uC + 6 * (t + 1) → slots ≤ 500000 + B uC + 6 * (t + 1) → lv_has ls 8 [(0, .ref b), (1, .ref (ad 0)), (2, .ref (am 0)), (3, .ref ob), (4, .int (nI j))] → WZ ((wC cy ad rr uC ++ [(ob, .inl (cy.2.2, 1, .inr (.inl f)))]) ++ wM cy am rm uM) D cy A s H locs → W p l e room_1 s m #[Value.ref b] below meth c H locs cells slots Q (F0 m 1146 ls [])) : W p l e room_1 s m #[Value.ref b] below meth c H locs cells slots Q (F0 m 935 ls []) := by
  have hx := E.1
  have hb := E.2.1
  have hown := E.2.2.2.1
  have hts := E.2.2.2.2
  have hB0 := hB _ _ hS
  rcases hop (j_lshl (xs (nI j + 1).toNatClampNeg).toInt64 32 ||| ((xs (nI j + 2).toNatClampNeg).toInt64 &&& (4294967295 : Int64))) (xs (nI j + 3).toNatClampNeg) uC uM hS with ⟨r, rb, uM', h1, h2, h3, h4, hS'⟩ | ⟨rb, uM', h1, h2, h3, hS'⟩
  · have hB1 := hB _ _ hS'
    refine lv_aload_n hx hb (dq da_law_14 0 rfl) rfl (lv_at hl 1 rfl) ?_
    refine lv_aload_n hx hb (dq da_law_14 1 rfl) rfl (lv_at hl 0 rfl) ?_
    refine lv_iload hx hb (dq da_law_14 2 rfl) (lv_at hl 4 rfl) ?_
    refine lv_iconst (v := 1) hx hb (dq da_law_14 3 rfl) rfl ?_
    refine lv_iadd hx hb (dq da_law_14 4 rfl) ?_
    refine va_sld hx hb hX hbl hbA w.2.2.1 (sx1 hj hL9) (dq da_law_14 5 rfl) ?_
    refine lv_i2l (v := (xs (nI j + 1).toNatClampNeg).toInt64) hx hb (dq da_law_14 6 rfl) rfl ?_
    refine lv_bipush (v := 32) hx hb (dq da_law_14 7 rfl) rfl ?_
    refine lv_lshl (v := (j_lshl ((xs (nI j + 1).toNatClampNeg).toInt64) 32)) hx hb (dq da_law_14 8 rfl) rfl ?_
    refine lv_aload_n hx hb (dq da_law_14 9 rfl) rfl (lv_at hl 0 rfl) ?_
    refine lv_iload hx hb (dq da_law_14 10 rfl) (lv_at hl 4 rfl) ?_
    refine lv_iconst (v := 2) hx hb (dq da_law_14 11 rfl) rfl ?_
    refine lv_iadd hx hb (dq da_law_14 12 rfl) ?_
    refine va_sld hx hb hX hbl hbA w.2.2.1 (sx2 hj hL9) (dq da_law_14 13 rfl) ?_
    refine lv_i2l (v := (xs (nI j + 2).toNatClampNeg).toInt64) hx hb (dq da_law_14 14 rfl) rfl ?_
    refine lv_ldc2 hx hb hown (hts _ w_1656) (dq da_law_14 15 rfl) ?_
    refine lv_land hx hb (dq da_law_14 16 rfl) ?_
    refine lv_lor hx hb (dq da_law_14 17 rfl) ?_
    refine lv_aload_n hx hb (dq da_law_14 18 rfl) rfl (lv_at hl 0 rfl) ?_
    refine lv_iload hx hb (dq da_law_14 19 rfl) (lv_at hl 4 rfl) ?_
    refine lv_iconst (v := 3) hx hb (dq da_law_14 20 rfl) rfl ?_
    refine lv_iadd hx hb (dq da_law_14 21 rfl) ?_
    refine va_sld hx hb hX hbl hbA w.2.2.1 (sx3 hj hL9) (dq da_law_14 22 rfl) ?_
    refine lv_aload_n hx hb (dq da_law_14 23 rfl) rfl (lv_at hl 3 rfl) ?_
    refine zH E (c_L_translate_R l D cy ad ob f _ _ uC h1) w_1051 w_1052 w_0 w_1053 hd_L_translate rfl hl.1 rfl (Nat.le_of_ble_eq_true rfl) ⟨Nat.le_of_ble_eq_true rfl, Nat.le_of_ble_eq_true rfl⟩ ⟨by show cells + 0 ≤ 601024; omega, by show slots + 0 ≤ 7293000; omega⟩ w (dq da_law_14 24 rfl) (fun H locs rr w => ?_)
    refine lv_istore (lv' := [(5, .int (0 : Int32)), (0, .ref b), (1, .ref (ad 0)), (2, .ref (am 0)), (3, .ref ob), (4, .int (nI j))]) hx hb (dq da_law_14 25 rfl) hl (by decide) rfl (fun ls hl => ?_)
    refine lv_aload_n hx hb (dq da_law_14 26 rfl) rfl (lv_at hl 3 rfl) ?_
    refine lv_aload_n hx hb (dq da_law_14 27 rfl) rfl (lv_at hl 1 rfl) ?_
    refine lv_iload hx hb (dq da_law_14 28 rfl) (lv_at hl 5 rfl) ?_
    refine lv_iconst (v := 1) hx hb (dq da_law_14 29 rfl) rfl ?_
    refine lv_iadd hx hb (dq da_law_14 30 rfl) ?_
    refine va_sld hx hb hX hbl hbA w.2.2.1 (sx1 hj hL9) (dq da_law_14 31 rfl) ?_
    refine lv_i2l (v := (xs (nI j + 1).toNatClampNeg).toInt64) hx hb (dq da_law_14 32 rfl) rfl ?_
    refine lv_bipush (v := 32) hx hb (dq da_law_14 33 rfl) rfl ?_
    refine lv_lshl (v := (j_lshl ((xs (nI j + 1).toNatClampNeg).toInt64) 32)) hx hb (dq da_law_14 34 rfl) rfl ?_
    refine lv_aload_n hx hb (dq da_law_14 35 rfl) rfl (lv_at hl 1 rfl) ?_
    refine lv_iload hx hb (dq da_law_14 36 rfl) (lv_at hl 5 rfl) ?_
    refine lv_iconst (v := 2) hx hb (dq da_law_14 37 rfl) rfl ?_
    refine lv_iadd hx hb (dq da_law_14 38 rfl) ?_
    refine va_sld hx hb hX hbl hbA w.2.2.1 (sx2 hj hL9) (dq da_law_14 39 rfl) ?_
    refine lv_i2l (v := (xs (nI j + 2).toNatClampNeg).toInt64) hx hb (dq da_law_14 40 rfl) rfl ?_
    refine lv_ldc2 hx hb hown (hts _ w_1656) (dq da_law_14 41 rfl) ?_
    refine lv_land hx hb (dq da_law_14 42 rfl) ?_
    refine lv_lor hx hb (dq da_law_14 43 rfl) ?_
    refine lv_aload_n hx hb (dq da_law_14 44 rfl) rfl (lv_at hl 1 rfl) ?_
    refine lv_iload hx hb (dq da_law_14 45 rfl) (lv_at hl 5 rfl) ?_
    refine lv_iconst (v := 3) hx hb (dq da_law_14 46 rfl) rfl ?_
    refine lv_iadd hx hb (dq da_law_14 47 rfl) ?_
    refine va_sld hx hb hX hbl hbA w.2.2.1 (sx3 hj hL9) (dq da_law_14 48 rfl) ?_
    have w := w.comm
    refine zV1 (Wd := wM cy am) E (c_X12_translate l D cy am _ _ uM h2) w_1644 w_1645 w_1646 w_10 w_1647 rfl hd_X12_translate rfl hl.1 rfl (Nat.le_of_ble_eq_true rfl) ⟨Nat.le_of_ble_eq_true rfl, Nat.le_of_ble_eq_true rfl⟩ ⟨by show _ + 0 ≤ 601024; omega, by show _ + 0 ≤ 7293000; omega⟩ w (rc_wM_0 w.x) (dq da_law_14 49 rfl) (fun H locs rm w => ?_)
    have w := w.comm
    refine lv_lstore (lv' := [(6, .long rb), (5, .int (0 : Int32)), (0, .ref b), (1, .ref (ad 0)), (2, .ref (am 0)), (3, .ref ob), (4, .int (nI j))]) hx hb (dq da_law_14 50 rfl) hl (by decide) rfl (fun ls hl => ?_)
    refine lv_aload_n hx hb (dq da_law_14 51 rfl) rfl (lv_at hl 4 rfl) ?_
    have w := w.comm
    refine zV1 (Wd := wM cy am) E (c_X12_thrown l D cy am uM') w_1248 w_1249 w_1250 w_10 w_1251 rfl hd_X12_thrown rfl hl.1 rfl (Nat.le_of_ble_eq_true rfl) ⟨Nat.le_of_ble_eq_true rfl, Nat.le_of_ble_eq_true rfl⟩ ⟨by show _ + 0 ≤ 601024; omega, by show _ + 0 ≤ 7293000; omega⟩ w (rc_wM_0 w.x) (dq da_law_14 52 rfl) (fun H locs rm w => ?_)
    have w := w.comm
    refine lv_iload hx hb (dq da_law_14 53 rfl) (lv_at hl 1 rfl) ?_
    refine lv_icmp_eq (tgt := 1015) hx hb (dq da_law_14 54 rfl) (by decide) (fun c1 => ?_) (fun c1 => absurd h3 c1)
    refine lv_iload hx hb (dq da_law_14 57 rfl) (lv_at hl 1 rfl) ?_
    refine lv_if_ne (tgt := 1031) hx hb (dq da_law_14 58 rfl) (by decide) (fun c2 => absurd rfl c2) (fun c2 => ?_)
    refine lv_aload_n hx hb (dq da_law_14 59 rfl) rfl (lv_at hl 5 rfl) ?_
    refine lv_iconst (v := 0) hx hb (dq da_law_14 60 rfl) rfl ?_
    refine zld (v := r) E w rfl (dq da_law_14 61 rfl) ?_
    refine lv_lload hx hb (dq da_law_14 62 rfl) (lv_at hl 0 rfl) ?_
    refine lc_eq (tgt := 1031) hx hb (dq da_law_14 63 rfl) (dq da_law_14 64 rfl) (by decide) (fun c3 => ?_) (fun c3 => absurd (by rw [h4]) c3)
    refine lv_goto (tgt := 1146) hx hb (dq da_law_14 67 rfl) (by decide) ?_
    exact hnext _ _ _ H locs _ _ _ _ ls hS' (by omega) (by omega) (lv_sub hl [2, 3, 4, 5, 6] rfl) w
  · have hB1 := hB _ _ hS'
    refine lv_aload_n hx hb (dq da_law_14 0 rfl) rfl (lv_at hl 1 rfl) ?_
    refine lv_aload_n hx hb (dq da_law_14 1 rfl) rfl (lv_at hl 0 rfl) ?_
    refine lv_iload hx hb (dq da_law_14 2 rfl) (lv_at hl 4 rfl) ?_
    refine lv_iconst (v := 1) hx hb (dq da_law_14 3 rfl) rfl ?_
    refine lv_iadd hx hb (dq da_law_14 4 rfl) ?_
    refine va_sld hx hb hX hbl hbA w.2.2.1 (sx1 hj hL9) (dq da_law_14 5 rfl) ?_
    refine lv_i2l (v := (xs (nI j + 1).toNatClampNeg).toInt64) hx hb (dq da_law_14 6 rfl) rfl ?_
    refine lv_bipush (v := 32) hx hb (dq da_law_14 7 rfl) rfl ?_
    refine lv_lshl (v := (j_lshl ((xs (nI j + 1).toNatClampNeg).toInt64) 32)) hx hb (dq da_law_14 8 rfl) rfl ?_
    refine lv_aload_n hx hb (dq da_law_14 9 rfl) rfl (lv_at hl 0 rfl) ?_
    refine lv_iload hx hb (dq da_law_14 10 rfl) (lv_at hl 4 rfl) ?_
    refine lv_iconst (v := 2) hx hb (dq da_law_14 11 rfl) rfl ?_
    refine lv_iadd hx hb (dq da_law_14 12 rfl) ?_
    refine va_sld hx hb hX hbl hbA w.2.2.1 (sx2 hj hL9) (dq da_law_14 13 rfl) ?_
    refine lv_i2l (v := (xs (nI j + 2).toNatClampNeg).toInt64) hx hb (dq da_law_14 14 rfl) rfl ?_
    refine lv_ldc2 hx hb hown (hts _ w_1656) (dq da_law_14 15 rfl) ?_
    refine lv_land hx hb (dq da_law_14 16 rfl) ?_
    refine lv_lor hx hb (dq da_law_14 17 rfl) ?_
    refine lv_aload_n hx hb (dq da_law_14 18 rfl) rfl (lv_at hl 0 rfl) ?_
    refine lv_iload hx hb (dq da_law_14 19 rfl) (lv_at hl 4 rfl) ?_
    refine lv_iconst (v := 3) hx hb (dq da_law_14 20 rfl) rfl ?_
    refine lv_iadd hx hb (dq da_law_14 21 rfl) ?_
    refine va_sld hx hb hX hbl hbA w.2.2.1 (sx3 hj hL9) (dq da_law_14 22 rfl) ?_
    refine lv_aload_n hx hb (dq da_law_14 23 rfl) rfl (lv_at hl 3 rfl) ?_
    refine zH E (c_L_translate_T0 l hca hl0 D cy ad ob f _ _ uC h1) w_1051 w_1052 w_0 w_1053 hd_L_translate rfl hl.1 rfl (Nat.le_of_ble_eq_true rfl) ⟨Nat.le_of_ble_eq_true rfl, Nat.le_of_ble_eq_true rfl⟩ ⟨by show cells + 1 ≤ 601024; omega, by show slots + 6 ≤ 7293000; omega⟩ w (dq da_law_14 24 rfl) (fun H locs rr w => ?_)
    refine lv_istore (lv' := [(5, .int (1 : Int32)), (0, .ref b), (1, .ref (ad 0)), (2, .ref (am 0)), (3, .ref ob), (4, .int (nI j))]) hx hb (dq da_law_14 25 rfl) hl (by decide) rfl (fun ls hl => ?_)
    refine lv_aload_n hx hb (dq da_law_14 26 rfl) rfl (lv_at hl 3 rfl) ?_
    refine lv_aload_n hx hb (dq da_law_14 27 rfl) rfl (lv_at hl 1 rfl) ?_
    refine lv_iload hx hb (dq da_law_14 28 rfl) (lv_at hl 5 rfl) ?_
    refine lv_iconst (v := 1) hx hb (dq da_law_14 29 rfl) rfl ?_
    refine lv_iadd hx hb (dq da_law_14 30 rfl) ?_
    refine va_sld hx hb hX hbl hbA w.2.2.1 (sx1 hj hL9) (dq da_law_14 31 rfl) ?_
    refine lv_i2l (v := (xs (nI j + 1).toNatClampNeg).toInt64) hx hb (dq da_law_14 32 rfl) rfl ?_
    refine lv_bipush (v := 32) hx hb (dq da_law_14 33 rfl) rfl ?_
    refine lv_lshl (v := (j_lshl ((xs (nI j + 1).toNatClampNeg).toInt64) 32)) hx hb (dq da_law_14 34 rfl) rfl ?_
    refine lv_aload_n hx hb (dq da_law_14 35 rfl) rfl (lv_at hl 1 rfl) ?_
    refine lv_iload hx hb (dq da_law_14 36 rfl) (lv_at hl 5 rfl) ?_
    refine lv_iconst (v := 2) hx hb (dq da_law_14 37 rfl) rfl ?_
    refine lv_iadd hx hb (dq da_law_14 38 rfl) ?_
    refine va_sld hx hb hX hbl hbA w.2.2.1 (sx2 hj hL9) (dq da_law_14 39 rfl) ?_
    refine lv_i2l (v := (xs (nI j + 2).toNatClampNeg).toInt64) hx hb (dq da_law_14 40 rfl) rfl ?_
    refine lv_ldc2 hx hb hown (hts _ w_1656) (dq da_law_14 41 rfl) ?_
    refine lv_land hx hb (dq da_law_14 42 rfl) ?_
    refine lv_lor hx hb (dq da_law_14 43 rfl) ?_
    refine lv_aload_n hx hb (dq da_law_14 44 rfl) rfl (lv_at hl 1 rfl) ?_
    refine lv_iload hx hb (dq da_law_14 45 rfl) (lv_at hl 5 rfl) ?_
    refine lv_iconst (v := 3) hx hb (dq da_law_14 46 rfl) rfl ?_
    refine lv_iadd hx hb (dq da_law_14 47 rfl) ?_
    refine va_sld hx hb hX hbl hbA w.2.2.1 (sx3 hj hL9) (dq da_law_14 48 rfl) ?_
    have w := w.comm
    refine zV1 (Wd := wM cy am) E (c_X12_translate l D cy am _ _ uM h2) w_1644 w_1645 w_1646 w_10 w_1647 rfl hd_X12_translate rfl hl.1 rfl (Nat.le_of_ble_eq_true rfl) ⟨Nat.le_of_ble_eq_true rfl, Nat.le_of_ble_eq_true rfl⟩ ⟨by show _ + 0 ≤ 601024; omega, by show _ + 0 ≤ 7293000; omega⟩ w (rc_wM_0 w.x) (dq da_law_14 49 rfl) (fun H locs rm w => ?_)
    have w := w.comm
    refine lv_lstore (lv' := [(6, .long rb), (5, .int (1 : Int32)), (0, .ref b), (1, .ref (ad 0)), (2, .ref (am 0)), (3, .ref ob), (4, .int (nI j))]) hx hb (dq da_law_14 50 rfl) hl (by decide) rfl (fun ls hl => ?_)
    refine lv_aload_n hx hb (dq da_law_14 51 rfl) rfl (lv_at hl 4 rfl) ?_
    have w := w.comm
    refine zV1 (Wd := wM cy am) E (c_X12_thrown l D cy am uM') w_1248 w_1249 w_1250 w_10 w_1251 rfl hd_X12_thrown rfl hl.1 rfl (Nat.le_of_ble_eq_true rfl) ⟨Nat.le_of_ble_eq_true rfl, Nat.le_of_ble_eq_true rfl⟩ ⟨by show _ + 0 ≤ 601024; omega, by show _ + 0 ≤ 7293000; omega⟩ w (rc_wM_0 w.x) (dq da_law_14 52 rfl) (fun H locs rm w => ?_)
    have w := w.comm
    refine lv_iload hx hb (dq da_law_14 53 rfl) (lv_at hl 1 rfl) ?_
    refine lv_icmp_eq (tgt := 1015) hx hb (dq da_law_14 54 rfl) (by decide) (fun c1 => ?_) (fun c1 => absurd h3 c1)
    refine lv_iload hx hb (dq da_law_14 57 rfl) (lv_at hl 1 rfl) ?_
    refine lv_if_ne (tgt := 1031) hx hb (dq da_law_14 58 rfl) (by decide) (fun c2 => ?_) (fun c2 => absurd c2 (by decide))
    refine lv_goto (tgt := 1146) hx hb (dq da_law_14 67 rfl) (by decide) ?_
    exact hnext _ _ _ H locs _ _ _ _ ls hS' (by omega) (by omega) (lv_sub hl [2, 3, 4, 5, 6] rfl) w
set_option maxRecDepth 100000 in
set_option maxHeartbeats 8000000 in
theorem lw_look {p : Program} {e : Env} {s : State} {m : MethodId} {below : List Frame} {meth : Method} {c : Code} {Q : State → Prop} {D : va_G} {cy : ClassId × ClassId × ClassId} {ad am : Nat → Nat} {ob b L : Nat} {xs : Nat → Int32} {A : Nat → Prop} (l : Launch) (hca : CatchP) (hl0 : l.stackTraces = false) (E : CallFix p m c code 8 s #[Value.ref b] gw RL) (hX : va_X b L xs s s.heap) (hbl : b < s.heap.size) (hbA : ¬ A b) {S : St → St → Prop} {B : St → Nat} (hB : ∀ uC uM, S uC uM → B uC ≤ 500000) (hop : Op_look S B) {uC uM : St} (hS : S uC uM) {t j : Nat} (ht : t < 520) (hj : j + 6 ≤ L) (hL9 : L ≤ 3073) {f : Nat → Int64} {H : Heap} {locs : List Loc} {rr rm : Nat → Nat} {cells slots : Nat} {ls : Array Slot} (hc : cells ≤ 100 + B uC + 6 * t) (hs : slots ≤ 500000 + B uC + 6 * t) (hl : lv_has ls 8 [(0, .ref b), (1, .ref (ad 0)), (2, .ref (am 0)), (3, .ref ob), (4, .int (nI j))]) (w : WZ ((wC cy ad rr uC ++ [(ob, .inl (cy.2.2, 1, .inr (.inl f)))]) ++ wM cy am rm uM) D cy A s H locs) (hnext : ∀ (uC uM : St) (f : Nat → Int64) (H : Heap) (locs : List Loc) (rr rm : Nat → Nat) (cells slots : Nat) (ls : Array Slot), S uC uM → cells ≤ 100 + B uC + 6 * (t + 1) → slots ≤ 500000 + B uC + 6 * (t + 1) → lv_has ls 8 [(0, .ref b), (1, .ref (ad 0)), (2, .ref (am 0)), (3, .ref ob), (4, .int (nI j))] → WZ ((wC cy ad rr uC ++ [(ob, .inl (cy.2.2, 1, .inr (.inl f)))]) ++ wM cy am rm uM) D cy A s H locs → W p l e room_1 s m #[Value.ref b] below meth c H locs cells slots Q (F0 m 1146 ls [])) : W p l e room_1 s m #[Value.ref b] below meth c H locs cells slots Q (F0 m 1034 ls []) := by
  have hx := E.1
  have hb := E.2.1
  have hown := E.2.2.2.1
  have hts := E.2.2.2.2
  have hB0 := hB _ _ hS
  rcases hop (xs (nI j + 1).toNatClampNeg) uC uM hS with ⟨r, rb, uM', h1, h2, h3, h4, hS'⟩ | ⟨rb, uM', h1, h2, h3, hS'⟩
  · have hB1 := hB _ _ hS'
    refine lv_aload_n hx hb (dq da_law_15 0 rfl) rfl (lv_at hl 1 rfl) ?_
    refine lv_aload_n hx hb (dq da_law_15 1 rfl) rfl (lv_at hl 0 rfl) ?_
    refine lv_iload hx hb (dq da_law_15 2 rfl) (lv_at hl 4 rfl) ?_
    refine lv_iconst (v := 1) hx hb (dq da_law_15 3 rfl) rfl ?_
    refine lv_iadd hx hb (dq da_law_15 4 rfl) ?_
    refine va_sld hx hb hX hbl hbA w.2.2.1 (sx1 hj hL9) (dq da_law_15 5 rfl) ?_
    refine lv_aload_n hx hb (dq da_law_15 6 rfl) rfl (lv_at hl 3 rfl) ?_
    refine zH E (c_L_look_R l D cy ad ob f _ uC h1) w_1062 w_1063 w_0 w_1064 hd_L_look rfl hl.1 rfl (Nat.le_of_ble_eq_true rfl) ⟨Nat.le_of_ble_eq_true rfl, Nat.le_of_ble_eq_true rfl⟩ ⟨by show cells + 0 ≤ 601024; omega, by show slots + 0 ≤ 7293000; omega⟩ w (dq da_law_15 7 rfl) (fun H locs rr w => ?_)
    refine lv_istore (lv' := [(5, .int (0 : Int32)), (0, .ref b), (1, .ref (ad 0)), (2, .ref (am 0)), (3, .ref ob), (4, .int (nI j))]) hx hb (dq da_law_15 8 rfl) hl (by decide) rfl (fun ls hl => ?_)
    refine lv_aload_n hx hb (dq da_law_15 9 rfl) rfl (lv_at hl 3 rfl) ?_
    refine lv_aload_n hx hb (dq da_law_15 10 rfl) rfl (lv_at hl 1 rfl) ?_
    refine lv_iload hx hb (dq da_law_15 11 rfl) (lv_at hl 5 rfl) ?_
    refine lv_iconst (v := 1) hx hb (dq da_law_15 12 rfl) rfl ?_
    refine lv_iadd hx hb (dq da_law_15 13 rfl) ?_
    refine va_sld hx hb hX hbl hbA w.2.2.1 (sx1 hj hL9) (dq da_law_15 14 rfl) ?_
    have w := w.comm
    refine zV1 (Wd := wM cy am) E (c_X12_look l D cy am _ uM h2) w_1648 w_1649 w_1650 w_10 w_1651 rfl hd_X12_look rfl hl.1 rfl (Nat.le_of_ble_eq_true rfl) ⟨Nat.le_of_ble_eq_true rfl, Nat.le_of_ble_eq_true rfl⟩ ⟨by show _ + 0 ≤ 601024; omega, by show _ + 0 ≤ 7293000; omega⟩ w (rc_wM_0 w.x) (dq da_law_15 15 rfl) (fun H locs rm w => ?_)
    have w := w.comm
    refine lv_istore (lv' := [(6, .int rb), (5, .int (0 : Int32)), (0, .ref b), (1, .ref (ad 0)), (2, .ref (am 0)), (3, .ref ob), (4, .int (nI j))]) hx hb (dq da_law_15 16 rfl) hl (by decide) rfl (fun ls hl => ?_)
    refine lv_aload_n hx hb (dq da_law_15 17 rfl) rfl (lv_at hl 4 rfl) ?_
    have w := w.comm
    refine zV1 (Wd := wM cy am) E (c_X12_thrown l D cy am uM') w_1248 w_1249 w_1250 w_10 w_1251 rfl hd_X12_thrown rfl hl.1 rfl (Nat.le_of_ble_eq_true rfl) ⟨Nat.le_of_ble_eq_true rfl, Nat.le_of_ble_eq_true rfl⟩ ⟨by show _ + 0 ≤ 601024; omega, by show _ + 0 ≤ 7293000; omega⟩ w (rc_wM_0 w.x) (dq da_law_15 18 rfl) (fun H locs rm w => ?_)
    have w := w.comm
    refine lv_iload hx hb (dq da_law_15 19 rfl) (lv_at hl 1 rfl) ?_
    refine lv_icmp_eq (tgt := 1070) hx hb (dq da_law_15 20 rfl) (by decide) (fun c1 => ?_) (fun c1 => absurd h3 c1)
    refine lv_iload hx hb (dq da_law_15 23 rfl) (lv_at hl 1 rfl) ?_
    refine lv_if_ne (tgt := 1087) hx hb (dq da_law_15 24 rfl) (by decide) (fun c2 => absurd rfl c2) (fun c2 => ?_)
    refine lv_aload_n hx hb (dq da_law_15 25 rfl) rfl (lv_at hl 5 rfl) ?_
    refine lv_iconst (v := 0) hx hb (dq da_law_15 26 rfl) rfl ?_
    refine zld (v := r.toInt64) E w rfl (dq da_law_15 27 rfl) ?_
    refine lv_iload hx hb (dq da_law_15 28 rfl) (lv_at hl 0 rfl) ?_
    refine lv_i2l (v := rb.toInt64) hx hb (dq da_law_15 29 rfl) rfl ?_
    refine lc_eq (tgt := 1087) hx hb (dq da_law_15 30 rfl) (dq da_law_15 31 rfl) (by decide) (fun c3 => ?_) (fun c3 => absurd (by rw [h4]) c3)
    refine lv_goto (tgt := 1146) hx hb (dq da_law_15 34 rfl) (by decide) ?_
    exact hnext _ _ _ H locs _ _ _ _ ls hS' (by omega) (by omega) (lv_sub hl [2, 3, 4, 5, 6] rfl) w
  · have hB1 := hB _ _ hS'
    refine lv_aload_n hx hb (dq da_law_15 0 rfl) rfl (lv_at hl 1 rfl) ?_
    refine lv_aload_n hx hb (dq da_law_15 1 rfl) rfl (lv_at hl 0 rfl) ?_
    refine lv_iload hx hb (dq da_law_15 2 rfl) (lv_at hl 4 rfl) ?_
    refine lv_iconst (v := 1) hx hb (dq da_law_15 3 rfl) rfl ?_
    refine lv_iadd hx hb (dq da_law_15 4 rfl) ?_
    refine va_sld hx hb hX hbl hbA w.2.2.1 (sx1 hj hL9) (dq da_law_15 5 rfl) ?_
    refine lv_aload_n hx hb (dq da_law_15 6 rfl) rfl (lv_at hl 3 rfl) ?_
    refine zH E (c_L_look_T0 l hca hl0 D cy ad ob f _ uC h1) w_1062 w_1063 w_0 w_1064 hd_L_look rfl hl.1 rfl (Nat.le_of_ble_eq_true rfl) ⟨Nat.le_of_ble_eq_true rfl, Nat.le_of_ble_eq_true rfl⟩ ⟨by show cells + 1 ≤ 601024; omega, by show slots + 6 ≤ 7293000; omega⟩ w (dq da_law_15 7 rfl) (fun H locs rr w => ?_)
    refine lv_istore (lv' := [(5, .int (1 : Int32)), (0, .ref b), (1, .ref (ad 0)), (2, .ref (am 0)), (3, .ref ob), (4, .int (nI j))]) hx hb (dq da_law_15 8 rfl) hl (by decide) rfl (fun ls hl => ?_)
    refine lv_aload_n hx hb (dq da_law_15 9 rfl) rfl (lv_at hl 3 rfl) ?_
    refine lv_aload_n hx hb (dq da_law_15 10 rfl) rfl (lv_at hl 1 rfl) ?_
    refine lv_iload hx hb (dq da_law_15 11 rfl) (lv_at hl 5 rfl) ?_
    refine lv_iconst (v := 1) hx hb (dq da_law_15 12 rfl) rfl ?_
    refine lv_iadd hx hb (dq da_law_15 13 rfl) ?_
    refine va_sld hx hb hX hbl hbA w.2.2.1 (sx1 hj hL9) (dq da_law_15 14 rfl) ?_
    have w := w.comm
    refine zV1 (Wd := wM cy am) E (c_X12_look l D cy am _ uM h2) w_1648 w_1649 w_1650 w_10 w_1651 rfl hd_X12_look rfl hl.1 rfl (Nat.le_of_ble_eq_true rfl) ⟨Nat.le_of_ble_eq_true rfl, Nat.le_of_ble_eq_true rfl⟩ ⟨by show _ + 0 ≤ 601024; omega, by show _ + 0 ≤ 7293000; omega⟩ w (rc_wM_0 w.x) (dq da_law_15 15 rfl) (fun H locs rm w => ?_)
    have w := w.comm
    refine lv_istore (lv' := [(6, .int rb), (5, .int (1 : Int32)), (0, .ref b), (1, .ref (ad 0)), (2, .ref (am 0)), (3, .ref ob), (4, .int (nI j))]) hx hb (dq da_law_15 16 rfl) hl (by decide) rfl (fun ls hl => ?_)
    refine lv_aload_n hx hb (dq da_law_15 17 rfl) rfl (lv_at hl 4 rfl) ?_
    have w := w.comm
    refine zV1 (Wd := wM cy am) E (c_X12_thrown l D cy am uM') w_1248 w_1249 w_1250 w_10 w_1251 rfl hd_X12_thrown rfl hl.1 rfl (Nat.le_of_ble_eq_true rfl) ⟨Nat.le_of_ble_eq_true rfl, Nat.le_of_ble_eq_true rfl⟩ ⟨by show _ + 0 ≤ 601024; omega, by show _ + 0 ≤ 7293000; omega⟩ w (rc_wM_0 w.x) (dq da_law_15 18 rfl) (fun H locs rm w => ?_)
    have w := w.comm
    refine lv_iload hx hb (dq da_law_15 19 rfl) (lv_at hl 1 rfl) ?_
    refine lv_icmp_eq (tgt := 1070) hx hb (dq da_law_15 20 rfl) (by decide) (fun c1 => ?_) (fun c1 => absurd h3 c1)
    refine lv_iload hx hb (dq da_law_15 23 rfl) (lv_at hl 1 rfl) ?_
    refine lv_if_ne (tgt := 1087) hx hb (dq da_law_15 24 rfl) (by decide) (fun c2 => ?_) (fun c2 => absurd c2 (by decide))
    refine lv_goto (tgt := 1146) hx hb (dq da_law_15 34 rfl) (by decide) ?_
    exact hnext _ _ _ H locs _ _ _ _ ls hS' (by omega) (by omega) (lv_sub hl [2, 3, 4, 5, 6] rfl) w
set_option maxRecDepth 100000 in
set_option maxHeartbeats 8000000 in
theorem lw_out {p : Program} {e : Env} {s : State} {m : MethodId} {below : List Frame} {meth : Method} {c : Code} {Q : State → Prop} {D : va_G} {cy : ClassId × ClassId × ClassId} {ad am : Nat → Nat} {ob b L : Nat} {xs : Nat → Int32} {A : Nat → Prop} (l : Launch) (hca : CatchP) (hl0 : l.stackTraces = false) (E : CallFix p m c code 8 s #[Value.ref b] gw RL) (hX : va_X b L xs s s.heap) (hbl : b < s.heap.size) (hbA : ¬ A b) {S : St → St → Prop} {B : St → Nat} (hB : ∀ uC uM, S uC uM → B uC ≤ 500000) (hop : Op_out S B) {uC uM : St} (hS : S uC uM) {t j : Nat} (ht : t < 520) (hj : j + 6 ≤ L) (hL9 : L ≤ 3073) {f : Nat → Int64} {H : Heap} {locs : List Loc} {rr rm : Nat → Nat} {cells slots : Nat} {ls : Array Slot} (hc : cells ≤ 100 + B uC + 6 * t) (hs : slots ≤ 500000 + B uC + 6 * t) (hl : lv_has ls 8 [(0, .ref b), (1, .ref (ad 0)), (2, .ref (am 0)), (3, .ref ob), (4, .int (nI j))]) (w : WZ ((wC cy ad rr uC ++ [(ob, .inl (cy.2.2, 1, .inr (.inl f)))]) ++ wM cy am rm uM) D cy A s H locs) (hnext : ∀ (uC uM : St) (f : Nat → Int64) (H : Heap) (locs : List Loc) (rr rm : Nat → Nat) (cells slots : Nat) (ls : Array Slot), S uC uM → cells ≤ 100 + B uC + 6 * (t + 1) → slots ≤ 500000 + B uC + 6 * (t + 1) → lv_has ls 8 [(0, .ref b), (1, .ref (ad 0)), (2, .ref (am 0)), (3, .ref ob), (4, .int (nI j))] → WZ ((wC cy ad rr uC ++ [(ob, .inl (cy.2.2, 1, .inr (.inl f)))]) ++ wM cy am rm uM) D cy A s H locs → W p l e room_1 s m #[Value.ref b] below meth c H locs cells slots Q (F0 m 1146 ls [])) : W p l e room_1 s m #[Value.ref b] below meth c H locs cells slots Q (F0 m 1090 ls []) := by
  have hx := E.1
  have hb := E.2.1
  have hown := E.2.2.2.1
  have hts := E.2.2.2.2
  have hB0 := hB _ _ hS
  rcases hop (xs (nI j + 1).toNatClampNeg) uC uM hS with ⟨r, rb, uM', h1, h2, h3, h4, hS'⟩ | ⟨rb, uM', h1, h2, h3, hS'⟩
  · have hB1 := hB _ _ hS'
    refine lv_aload_n hx hb (dq da_law_16 0 rfl) rfl (lv_at hl 1 rfl) ?_
    refine lv_aload_n hx hb (dq da_law_16 1 rfl) rfl (lv_at hl 0 rfl) ?_
    refine lv_iload hx hb (dq da_law_16 2 rfl) (lv_at hl 4 rfl) ?_
    refine lv_iconst (v := 1) hx hb (dq da_law_16 3 rfl) rfl ?_
    refine lv_iadd hx hb (dq da_law_16 4 rfl) ?_
    refine va_sld hx hb hX hbl hbA w.2.2.1 (sx1 hj hL9) (dq da_law_16 5 rfl) ?_
    refine lv_aload_n hx hb (dq da_law_16 6 rfl) rfl (lv_at hl 3 rfl) ?_
    refine zH E (c_L_out_R l D cy ad ob f _ uC h1) w_1070 w_1071 w_0 w_1072 hd_L_out rfl hl.1 rfl (Nat.le_of_ble_eq_true rfl) ⟨Nat.le_of_ble_eq_true rfl, Nat.le_of_ble_eq_true rfl⟩ ⟨by show cells + 0 ≤ 601024; omega, by show slots + 0 ≤ 7293000; omega⟩ w (dq da_law_16 7 rfl) (fun H locs rr w => ?_)
    refine lv_istore (lv' := [(5, .int (0 : Int32)), (0, .ref b), (1, .ref (ad 0)), (2, .ref (am 0)), (3, .ref ob), (4, .int (nI j))]) hx hb (dq da_law_16 8 rfl) hl (by decide) rfl (fun ls hl => ?_)
    refine lv_aload_n hx hb (dq da_law_16 9 rfl) rfl (lv_at hl 3 rfl) ?_
    refine lv_aload_n hx hb (dq da_law_16 10 rfl) rfl (lv_at hl 1 rfl) ?_
    refine lv_iload hx hb (dq da_law_16 11 rfl) (lv_at hl 5 rfl) ?_
    refine lv_iconst (v := 1) hx hb (dq da_law_16 12 rfl) rfl ?_
    refine lv_iadd hx hb (dq da_law_16 13 rfl) ?_
    refine va_sld hx hb hX hbl hbA w.2.2.1 (sx1 hj hL9) (dq da_law_16 14 rfl) ?_
    have w := w.comm
    refine zV1 (Wd := wM cy am) E (c_X12_out l D cy am _ uM h2) w_1652 w_1653 w_1654 w_10 w_1655 rfl hd_X12_out rfl hl.1 rfl (Nat.le_of_ble_eq_true rfl) ⟨Nat.le_of_ble_eq_true rfl, Nat.le_of_ble_eq_true rfl⟩ ⟨by show _ + 0 ≤ 601024; omega, by show _ + 0 ≤ 7293000; omega⟩ w (rc_wM_0 w.x) (dq da_law_16 15 rfl) (fun H locs rm w => ?_)
    have w := w.comm
    refine lv_istore (lv' := [(6, .int rb), (5, .int (0 : Int32)), (0, .ref b), (1, .ref (ad 0)), (2, .ref (am 0)), (3, .ref ob), (4, .int (nI j))]) hx hb (dq da_law_16 16 rfl) hl (by decide) rfl (fun ls hl => ?_)
    refine lv_aload_n hx hb (dq da_law_16 17 rfl) rfl (lv_at hl 4 rfl) ?_
    have w := w.comm
    refine zV1 (Wd := wM cy am) E (c_X12_thrown l D cy am uM') w_1248 w_1249 w_1250 w_10 w_1251 rfl hd_X12_thrown rfl hl.1 rfl (Nat.le_of_ble_eq_true rfl) ⟨Nat.le_of_ble_eq_true rfl, Nat.le_of_ble_eq_true rfl⟩ ⟨by show _ + 0 ≤ 601024; omega, by show _ + 0 ≤ 7293000; omega⟩ w (rc_wM_0 w.x) (dq da_law_16 18 rfl) (fun H locs rm w => ?_)
    have w := w.comm
    refine lv_iload hx hb (dq da_law_16 19 rfl) (lv_at hl 1 rfl) ?_
    refine lv_icmp_eq (tgt := 1126) hx hb (dq da_law_16 20 rfl) (by decide) (fun c1 => ?_) (fun c1 => absurd h3 c1)
    refine lv_iload hx hb (dq da_law_16 23 rfl) (lv_at hl 1 rfl) ?_
    refine lv_if_ne (tgt := 1143) hx hb (dq da_law_16 24 rfl) (by decide) (fun c2 => absurd rfl c2) (fun c2 => ?_)
    refine lv_aload_n hx hb (dq da_law_16 25 rfl) rfl (lv_at hl 5 rfl) ?_
    refine lv_iconst (v := 0) hx hb (dq da_law_16 26 rfl) rfl ?_
    refine zld (v := r.toInt64) E w rfl (dq da_law_16 27 rfl) ?_
    refine lv_iload hx hb (dq da_law_16 28 rfl) (lv_at hl 0 rfl) ?_
    refine lv_i2l (v := rb.toInt64) hx hb (dq da_law_16 29 rfl) rfl ?_
    refine lc_eq (tgt := 1143) hx hb (dq da_law_16 30 rfl) (dq da_law_16 31 rfl) (by decide) (fun c3 => ?_) (fun c3 => absurd (by rw [h4]) c3)
    refine lv_goto (tgt := 1146) hx hb (dq da_law_16 34 rfl) (by decide) ?_
    exact hnext _ _ _ H locs _ _ _ _ ls hS' (by omega) (by omega) (lv_sub hl [2, 3, 4, 5, 6] rfl) w
  · have hB1 := hB _ _ hS'
    refine lv_aload_n hx hb (dq da_law_16 0 rfl) rfl (lv_at hl 1 rfl) ?_
    refine lv_aload_n hx hb (dq da_law_16 1 rfl) rfl (lv_at hl 0 rfl) ?_
    refine lv_iload hx hb (dq da_law_16 2 rfl) (lv_at hl 4 rfl) ?_
    refine lv_iconst (v := 1) hx hb (dq da_law_16 3 rfl) rfl ?_
    refine lv_iadd hx hb (dq da_law_16 4 rfl) ?_
    refine va_sld hx hb hX hbl hbA w.2.2.1 (sx1 hj hL9) (dq da_law_16 5 rfl) ?_
    refine lv_aload_n hx hb (dq da_law_16 6 rfl) rfl (lv_at hl 3 rfl) ?_
    refine zH E (c_L_out_T2 l hca hl0 D cy ad ob f _ uC h1) w_1070 w_1071 w_0 w_1072 hd_L_out rfl hl.1 rfl (Nat.le_of_ble_eq_true rfl) ⟨Nat.le_of_ble_eq_true rfl, Nat.le_of_ble_eq_true rfl⟩ ⟨by show cells + 1 ≤ 601024; omega, by show slots + 6 ≤ 7293000; omega⟩ w (dq da_law_16 7 rfl) (fun H locs rr w => ?_)
    refine lv_istore (lv' := [(5, .int (1 : Int32)), (0, .ref b), (1, .ref (ad 0)), (2, .ref (am 0)), (3, .ref ob), (4, .int (nI j))]) hx hb (dq da_law_16 8 rfl) hl (by decide) rfl (fun ls hl => ?_)
    refine lv_aload_n hx hb (dq da_law_16 9 rfl) rfl (lv_at hl 3 rfl) ?_
    refine lv_aload_n hx hb (dq da_law_16 10 rfl) rfl (lv_at hl 1 rfl) ?_
    refine lv_iload hx hb (dq da_law_16 11 rfl) (lv_at hl 5 rfl) ?_
    refine lv_iconst (v := 1) hx hb (dq da_law_16 12 rfl) rfl ?_
    refine lv_iadd hx hb (dq da_law_16 13 rfl) ?_
    refine va_sld hx hb hX hbl hbA w.2.2.1 (sx1 hj hL9) (dq da_law_16 14 rfl) ?_
    have w := w.comm
    refine zV1 (Wd := wM cy am) E (c_X12_out l D cy am _ uM h2) w_1652 w_1653 w_1654 w_10 w_1655 rfl hd_X12_out rfl hl.1 rfl (Nat.le_of_ble_eq_true rfl) ⟨Nat.le_of_ble_eq_true rfl, Nat.le_of_ble_eq_true rfl⟩ ⟨by show _ + 0 ≤ 601024; omega, by show _ + 0 ≤ 7293000; omega⟩ w (rc_wM_0 w.x) (dq da_law_16 15 rfl) (fun H locs rm w => ?_)
    have w := w.comm
    refine lv_istore (lv' := [(6, .int rb), (5, .int (1 : Int32)), (0, .ref b), (1, .ref (ad 0)), (2, .ref (am 0)), (3, .ref ob), (4, .int (nI j))]) hx hb (dq da_law_16 16 rfl) hl (by decide) rfl (fun ls hl => ?_)
    refine lv_aload_n hx hb (dq da_law_16 17 rfl) rfl (lv_at hl 4 rfl) ?_
    have w := w.comm
    refine zV1 (Wd := wM cy am) E (c_X12_thrown l D cy am uM') w_1248 w_1249 w_1250 w_10 w_1251 rfl hd_X12_thrown rfl hl.1 rfl (Nat.le_of_ble_eq_true rfl) ⟨Nat.le_of_ble_eq_true rfl, Nat.le_of_ble_eq_true rfl⟩ ⟨by show _ + 0 ≤ 601024; omega, by show _ + 0 ≤ 7293000; omega⟩ w (rc_wM_0 w.x) (dq da_law_16 18 rfl) (fun H locs rm w => ?_)
    have w := w.comm
    refine lv_iload hx hb (dq da_law_16 19 rfl) (lv_at hl 1 rfl) ?_
    refine lv_icmp_eq (tgt := 1126) hx hb (dq da_law_16 20 rfl) (by decide) (fun c1 => ?_) (fun c1 => absurd h3 c1)
    refine lv_iload hx hb (dq da_law_16 23 rfl) (lv_at hl 1 rfl) ?_
    refine lv_if_ne (tgt := 1143) hx hb (dq da_law_16 24 rfl) (by decide) (fun c2 => ?_) (fun c2 => absurd c2 (by decide))
    refine lv_goto (tgt := 1146) hx hb (dq da_law_16 34 rfl) (by decide) ?_
    exact hnext _ _ _ H locs _ _ _ _ ls hS' (by omega) (by omega) (lv_sub hl [2, 3, 4, 5, 6] rfl) w

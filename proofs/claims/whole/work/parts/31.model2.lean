theorem w_1369 : Cond.constantLong RX12 289 (786722) ∈ gw := gw_t6 169 rfl rfl
theorem w_1370 : Cond.constantLong RX12 291 (8589934592) ∈ gw := gw_t6 170 rfl rfl
theorem w_1116 : Cond.fieldLink RX12 258 "HartBoardModel" "interruptsOn" "J" ∈ gw := gw_t5 156 rfl rfl
theorem w_1115 : Cond.fieldLink RX12 255 "HartBoardModel" "interruptsDown" "J" ∈ gw := gw_t5 155 rfl rfl
theorem w_1126 : Cond.fieldLink RX12 293 "HartBoardModel" "vector" "J" ∈ gw := gw_t5 166 rfl rfl
theorem w_1127 : Cond.fieldLink RX12 296 "HartBoardModel" "counters" "J" ∈ gw := gw_t5 167 rfl rfl
theorem w_1128 : Cond.fieldLink RX12 299 "HartBoardModel" "scratch" "J" ∈ gw := gw_t5 168 rfl rfl
theorem w_1129 : Cond.fieldLink RX12 302 "HartBoardModel" "epc" "J" ∈ gw := gw_t5 169 rfl rfl
theorem w_1130 : Cond.fieldLink RX12 305 "HartBoardModel" "cause" "J" ∈ gw := gw_t5 170 rfl rfl
theorem w_1131 : Cond.fieldLink RX12 308 "HartBoardModel" "trapValue" "J" ∈ gw := gw_t5 171 rfl rfl
theorem w_1354 : Cond.methodLink RX12 279 yX12_pendings ∈ gw := gw_t6 154 rfl rfl
theorem w_1356 : Cond.instanceMethod yX12_pendings ∈ gw := gw_t6 156 rfl rfl
theorem w_p50 : Cond.selects RX12 yX12_pendings yX12_pendings ∈ gw := gw_p 50 rfl rfl
theorem w_1357 : Cond.code yX12_pendings cX12_pendings 1 (some .long) ∈ gw := gw_t6 157 rfl rfl
theorem w_1352 : Cond.constantLong RX12 248 (42949672960) ∈ gw := gw_t6 152 rfl rfl
theorem w_1353 : Cond.constantLong RX12 250 (-9223372036853460731) ∈ gw := gw_t6 153 rfl rfl
theorem w_1114 : Cond.fieldLink RX12 252 "HartBoardModel" "exceptions" "J" ∈ gw := gw_t5 154 rfl rfl
theorem w_1117 : Cond.fieldLink RX12 261 "HartBoardModel" "machineVector" "J" ∈ gw := gw_t5 157 rfl rfl
theorem w_1118 : Cond.fieldLink RX12 264 "HartBoardModel" "machineCounters" "J" ∈ gw := gw_t5 158 rfl rfl
theorem w_1119 : Cond.fieldLink RX12 267 "HartBoardModel" "machineScratch" "J" ∈ gw := gw_t5 159 rfl rfl
theorem w_1120 : Cond.fieldLink RX12 270 "HartBoardModel" "machineEpc" "J" ∈ gw := gw_t5 160 rfl rfl
theorem w_1121 : Cond.fieldLink RX12 273 "HartBoardModel" "machineCause" "J" ∈ gw := gw_t5 161 rfl rfl
theorem w_1122 : Cond.fieldLink RX12 276 "HartBoardModel" "machineValue" "J" ∈ gw := gw_t5 162 rfl rfl
theorem w_1124 : Cond.fieldLink RX12 283 "HartBoardModel" "cycle" "J" ∈ gw := gw_t5 164 rfl rfl
theorem w_1125 : Cond.fieldLink RX12 286 "HartBoardModel" "retired" "J" ∈ gw := gw_t5 165 rfl rfl
theorem w_1383 : Cond.constantLong RX12 311 (8264106) ∈ gw := gw_t6 183 rfl rfl
theorem w_1387 : Cond.constantLong RX12 315 (-6145) ∈ gw := gw_t6 187 rfl rfl
theorem w_1388 : Cond.constantLong RX12 317 (6144) ∈ gw := gw_t6 188 rfl rfl
theorem w_1394 : Cond.constantLong RX12 333 (-786723) ∈ gw := gw_t6 194 rfl rfl
theorem w_1392 : Cond.constantLong RX12 329 (-3) ∈ gw := gw_t6 192 rfl rfl
theorem w_1330 : Cond.constantLong RX12 331 (-2) ∈ gw := gw_t6 130 rfl rfl
theorem w_1379 : Cond.methodLink RX12 319 yX12_writeStatus ∈ gw := gw_t6 179 rfl rfl
theorem w_1381 : Cond.instanceMethod yX12_writeStatus ∈ gw := gw_t6 181 rfl rfl
theorem w_p53 : Cond.selects RX12 yX12_writeStatus yX12_writeStatus ∈ gw := gw_p 53 rfl rfl
theorem w_1382 : Cond.code yX12_writeStatus cX12_writeStatus 5 (none) ∈ gw := gw_t6 182 rfl rfl
theorem w_1389 : Cond.constantLong RX12 323 (46079) ∈ gw := gw_t6 189 rfl rfl
theorem w_1390 : Cond.constantLong RX12 325 (546) ∈ gw := gw_t6 190 rfl rfl
theorem w_1391 : Cond.constantLong RX12 327 (2730) ∈ gw := gw_t6 191 rfl rfl
theorem w_1343 : Cond.methodLink RX12 335 yX12_isControl ∈ gw := gw_t6 143 rfl rfl
theorem w_1344 : Cond.static yX12_isControl ∈ gw := gw_t6 144 rfl rfl
theorem w_1345 : Cond.code yX12_isControl cX12_isControl 1 (some .boolean) ∈ gw := gw_t6 145 rfl rfl
theorem w_1133 : Cond.fieldLink RX12 341 "HartBoardModel" "traps" "I" ∈ gw := gw_t5 173 rfl rfl
theorem w_1422 : Cond.methodLink RX12 344 yX12_turn ∈ gw := gw_t6 222 rfl rfl
theorem w_1424 : Cond.instanceMethod yX12_turn ∈ gw := gw_t6 224 rfl rfl
theorem w_p58 : Cond.selects RX12 yX12_turn yX12_turn ∈ gw := gw_p 58 rfl rfl
theorem w_1425 : Cond.code yX12_turn cX12_turn 3 (none) ∈ gw := gw_t6 225 rfl rfl
theorem w_1426 : Cond.constantLong RX12 348 (-4) ∈ gw := gw_t6 226 rfl rfl
theorem w_1134 : Cond.fieldLink RX12 338 "HartBoardModel" "interrupts" "I" ∈ gw := gw_t5 174 rfl rfl
theorem w_1411 : Cond.methodLink RX12 350 yX12_ranked ∈ gw := gw_t6 211 rfl rfl
theorem w_1412 : Cond.static yX12_ranked ∈ gw := gw_t6 212 rfl rfl
theorem w_1413 : Cond.code yX12_ranked cX12_ranked 1 (some .int) ∈ gw := gw_t6 213 rfl rfl
theorem w_1138 : Cond.fieldLink RX12 382 "HartBoardModel" "following" "J" ∈ gw := gw_t5 178 rfl rfl
theorem w_1523 : Cond.methodLink RX12 396 yX12_illegal ∈ gw := gw_t7 83 rfl rfl
theorem w_1525 : Cond.instanceMethod yX12_illegal ∈ gw := gw_t7 85 rfl rfl
theorem w_p66 : Cond.selects RX12 yX12_illegal yX12_illegal ∈ gw := gw_p 66 rfl rfl
theorem w_1526 : Cond.code yX12_illegal cX12_illegal 1 (none) ∈ gw := gw_t7 86 rfl rfl
theorem w_1535 : Cond.methodLink RX12 428 yX12_reach ∈ gw := gw_t7 95 rfl rfl
theorem w_1537 : Cond.instanceMethod yX12_reach ∈ gw := gw_t7 97 rfl rfl
theorem w_p69 : Cond.selects RX12 yX12_reach yX12_reach ∈ gw := gw_p 69 rfl rfl
theorem w_1538 : Cond.code yX12_reach cX12_reach 8 (some .long) ∈ gw := gw_t7 98 rfl rfl
theorem w_1561 : Cond.methodLink RX12 432 yX12_readAt ∈ gw := gw_t7 121 rfl rfl
theorem w_1563 : Cond.instanceMethod yX12_readAt ∈ gw := gw_t7 123 rfl rfl
theorem w_p71 : Cond.selects RX12 yX12_readAt yX12_readAt ∈ gw := gw_p 71 rfl rfl
theorem w_1564 : Cond.code yX12_readAt cX12_readAt 7 (some .long) ∈ gw := gw_t7 124 rfl rfl
theorem w_1519 : Cond.methodLink RX12 392 yX12_gives ∈ gw := gw_t7 79 rfl rfl
theorem w_1521 : Cond.instanceMethod yX12_gives ∈ gw := gw_t7 81 rfl rfl
theorem w_p65 : Cond.selects RX12 yX12_gives yX12_gives ∈ gw := gw_p 65 rfl rfl
theorem w_1522 : Cond.code yX12_gives cX12_gives 6 (none) ∈ gw := gw_t7 82 rfl rfl
theorem w_1581 : Cond.methodLink RX12 435 yX12_writeAt ∈ gw := gw_t7 141 rfl rfl
theorem w_1583 : Cond.instanceMethod yX12_writeAt ∈ gw := gw_t7 143 rfl rfl
theorem w_p75 : Cond.selects RX12 yX12_writeAt yX12_writeAt ∈ gw := gw_p 75 rfl rfl
theorem w_1584 : Cond.code yX12_writeAt cX12_writeAt 8 (none) ∈ gw := gw_t7 144 rfl rfl
theorem w_1612 : Cond.methodLink RX12 452 yX12_upper ∈ gw := gw_t7 172 rfl rfl
theorem w_1613 : Cond.static yX12_upper ∈ gw := gw_t7 173 rfl rfl
theorem w_1614 : Cond.code yX12_upper cX12_upper 16 (some .long) ∈ gw := gw_t7 174 rfl rfl
theorem w_1606 : Cond.methodLink RX12 448 yX12_divided ∈ gw := gw_t7 166 rfl rfl
theorem w_1607 : Cond.static yX12_divided ∈ gw := gw_t7 167 rfl rfl
theorem w_1608 : Cond.code yX12_divided cX12_divided 5 (some .long) ∈ gw := gw_t7 168 rfl rfl
theorem w_1619 : Cond.constantLong RX12 455 (31) ∈ gw := gw_t7 179 rfl rfl
theorem w_1624 : Cond.methodLink RX12 457 yX12_joined ∈ gw := gw_t7 184 rfl rfl
theorem w_1625 : Cond.static yX12_joined ∈ gw := gw_t7 185 rfl rfl
theorem w_1626 : Cond.code yX12_joined cX12_joined 5 (some .long) ∈ gw := gw_t7 186 rfl rfl
theorem w_1640 : Cond.methodLink RX12 463 yX12_mayControl ∈ gw := gw_t7 200 rfl rfl
theorem w_1642 : Cond.instanceMethod yX12_mayControl ∈ gw := gw_t7 202 rfl rfl
theorem w_p84 : Cond.selects RX12 yX12_mayControl yX12_mayControl ∈ gw := gw_p 84 rfl rfl
theorem w_1643 : Cond.code yX12_mayControl cX12_mayControl 4 (some .boolean) ∈ gw := gw_t7 203 rfl rfl
theorem w_1348 : Cond.methodLink RX12 467 yX12_controlOf ∈ gw := gw_t6 148 rfl rfl
theorem w_1350 : Cond.instanceMethod yX12_controlOf ∈ gw := gw_t6 150 rfl rfl
theorem w_p49 : Cond.selects RX12 yX12_controlOf yX12_controlOf ∈ gw := gw_p 49 rfl rfl
theorem w_1351 : Cond.code yX12_controlOf cX12_controlOf 2 (some .long) ∈ gw := gw_t6 151 rfl rfl
theorem w_1375 : Cond.methodLink RX12 470 yX12_writeControl ∈ gw := gw_t6 175 rfl rfl
theorem w_1377 : Cond.instanceMethod yX12_writeControl ∈ gw := gw_t6 177 rfl rfl
theorem w_p52 : Cond.selects RX12 yX12_writeControl yX12_writeControl ∈ gw := gw_p 52 rfl rfl
theorem w_1378 : Cond.code yX12_writeControl cX12_writeControl 4 (none) ∈ gw := gw_t6 178 rfl rfl
theorem w_1635 : Cond.constantLong RX12 473 (9) ∈ gw := gw_t7 195 rfl rfl
theorem w_1636 : Cond.constantLong RX12 475 (115) ∈ gw := gw_t7 196 rfl rfl
theorem w_1637 : Cond.constantLong RX12 479 (807403635) ∈ gw := gw_t7 197 rfl rfl
theorem w_1638 : Cond.constantLong RX12 481 (270532723) ∈ gw := gw_t7 198 rfl rfl
theorem w_1639 : Cond.constantLong RX12 483 (273678451) ∈ gw := gw_t7 199 rfl rfl
theorem w_1631 : Cond.methodLink RX12 460 yX12_calls ∈ gw := gw_t7 191 rfl rfl
theorem w_1633 : Cond.instanceMethod yX12_calls ∈ gw := gw_t7 193 rfl rfl
theorem w_p83 : Cond.selects RX12 yX12_calls yX12_calls ∈ gw := gw_p 83 rfl rfl
theorem w_1634 : Cond.code yX12_calls cX12_calls 5 (none) ∈ gw := gw_t7 194 rfl rfl
theorem w_1517 : Cond.constantLong RX12 388 (4294963200) ∈ gw := gw_t7 77 rfl rfl
theorem w_1518 : Cond.constantLong RX12 390 (127) ∈ gw := gw_t7 78 rfl rfl
theorem w_1531 : Cond.methodLink RX12 403 yX12_loads ∈ gw := gw_t7 91 rfl rfl
theorem w_1533 : Cond.instanceMethod yX12_loads ∈ gw := gw_t7 93 rfl rfl
theorem w_p68 : Cond.selects RX12 yX12_loads yX12_loads ∈ gw := gw_p 68 rfl rfl
theorem w_1534 : Cond.code yX12_loads cX12_loads 11 (none) ∈ gw := gw_t7 94 rfl rfl
theorem w_1594 : Cond.methodLink RX12 410 yX12_immediates ∈ gw := gw_t7 154 rfl rfl
theorem w_1596 : Cond.instanceMethod yX12_immediates ∈ gw := gw_t7 156 rfl rfl
theorem w_p77 : Cond.selects RX12 yX12_immediates yX12_immediates ∈ gw := gw_p 77 rfl rfl
theorem w_1597 : Cond.code yX12_immediates cX12_immediates 11 (none) ∈ gw := gw_t7 157 rfl rfl
theorem w_1598 : Cond.methodLink RX12 413 yX12_shortImmediates ∈ gw := gw_t7 158 rfl rfl
theorem w_1600 : Cond.instanceMethod yX12_shortImmediates ∈ gw := gw_t7 160 rfl rfl
theorem w_p78 : Cond.selects RX12 yX12_shortImmediates yX12_shortImmediates ∈ gw := gw_p 78 rfl rfl
theorem w_1601 : Cond.code yX12_shortImmediates cX12_shortImmediates 11 (none) ∈ gw := gw_t7 161 rfl rfl
theorem w_1577 : Cond.methodLink RX12 406 yX12_stores ∈ gw := gw_t7 137 rfl rfl
theorem w_1579 : Cond.instanceMethod yX12_stores ∈ gw := gw_t7 139 rfl rfl
theorem w_p74 : Cond.selects RX12 yX12_stores yX12_stores ∈ gw := gw_p 74 rfl rfl
theorem w_1580 : Cond.code yX12_stores cX12_stores 8 (none) ∈ gw := gw_t7 140 rfl rfl
theorem w_1620 : Cond.methodLink RX12 422 yX12_atomics ∈ gw := gw_t7 180 rfl rfl
theorem w_1622 : Cond.instanceMethod yX12_atomics ∈ gw := gw_t7 182 rfl rfl
theorem w_p81 : Cond.selects RX12 yX12_atomics yX12_atomics ∈ gw := gw_p 81 rfl rfl
theorem w_1623 : Cond.code yX12_atomics cX12_atomics 15 (none) ∈ gw := gw_t7 183 rfl rfl
theorem w_1602 : Cond.methodLink RX12 416 yX12_registers ∈ gw := gw_t7 162 rfl rfl
theorem w_1604 : Cond.instanceMethod yX12_registers ∈ gw := gw_t7 164 rfl rfl
theorem w_p79 : Cond.selects RX12 yX12_registers yX12_registers ∈ gw := gw_p 79 rfl rfl
theorem w_1605 : Cond.code yX12_registers cX12_registers 11 (none) ∈ gw := gw_t7 165 rfl rfl
theorem w_1615 : Cond.methodLink RX12 419 yX12_shortRegisters ∈ gw := gw_t7 175 rfl rfl
theorem w_1617 : Cond.instanceMethod yX12_shortRegisters ∈ gw := gw_t7 177 rfl rfl
theorem w_p80 : Cond.selects RX12 yX12_shortRegisters yX12_shortRegisters ∈ gw := gw_p 80 rfl rfl
theorem w_1618 : Cond.code yX12_shortRegisters cX12_shortRegisters 16 (none) ∈ gw := gw_t7 178 rfl rfl
theorem w_1527 : Cond.methodLink RX12 399 yX12_branches ∈ gw := gw_t7 87 rfl rfl
theorem w_1529 : Cond.instanceMethod yX12_branches ∈ gw := gw_t7 89 rfl rfl
theorem w_p67 : Cond.selects RX12 yX12_branches yX12_branches ∈ gw := gw_p 67 rfl rfl
theorem w_1530 : Cond.code yX12_branches cX12_branches 9 (none) ∈ gw := gw_t7 90 rfl rfl
theorem w_1139 : Cond.fieldLink RX12 371 "HartBoardModel" "length" "I" ∈ gw := gw_t5 179 rfl rfl
theorem w_1627 : Cond.methodLink RX12 425 yX12_systems ∈ gw := gw_t7 187 rfl rfl
theorem w_1629 : Cond.instanceMethod yX12_systems ∈ gw := gw_t7 189 rfl rfl
theorem w_p82 : Cond.selects RX12 yX12_systems yX12_systems ∈ gw := gw_p 82 rfl rfl
theorem w_1630 : Cond.code yX12_systems cX12_systems 13 (none) ∈ gw := gw_t7 190 rfl rfl
theorem w_1432 : Cond.methodLink RX12 367 yX12_half ∈ gw := gw_t6 232 rfl rfl
theorem w_1434 : Cond.instanceMethod yX12_half ∈ gw := gw_t6 234 rfl rfl
theorem w_p60 : Cond.selects RX12 yX12_half yX12_half ∈ gw := gw_p 60 rfl rfl
theorem w_1435 : Cond.code yX12_half cX12_half 5 (some .long) ∈ gw := gw_t6 235 rfl rfl
theorem w_1459 : Cond.methodLink RX12 379 yX12_wide ∈ gw := gw_t7 19 rfl rfl
theorem w_1460 : Cond.static yX12_wide ∈ gw := gw_t7 20 rfl rfl
theorem w_1461 : Cond.code yX12_wide cX12_wide 2 (some .long) ∈ gw := gw_t7 21 rfl rfl
theorem w_1513 : Cond.methodLink RX12 385 yX12_works ∈ gw := gw_t7 73 rfl rfl
theorem w_1515 : Cond.instanceMethod yX12_works ∈ gw := gw_t7 75 rfl rfl
theorem w_p64 : Cond.selects RX12 yX12_works yX12_works ∈ gw := gw_p 64 rfl rfl
theorem w_1516 : Cond.code yX12_works cX12_works 12 (none) ∈ gw := gw_t7 76 rfl rfl
theorem w_1407 : Cond.methodLink RX12 353 yX12_taken ∈ gw := gw_t6 207 rfl rfl
theorem w_1409 : Cond.instanceMethod yX12_taken ∈ gw := gw_t6 209 rfl rfl
theorem w_p55 : Cond.selects RX12 yX12_taken yX12_taken ∈ gw := gw_p 55 rfl rfl
theorem w_1410 : Cond.code yX12_taken cX12_taken 6 (some .int) ∈ gw := gw_t6 210 rfl rfl
theorem w_1428 : Cond.methodLink RX12 361 yX12_goes ∈ gw := gw_t6 228 rfl rfl
theorem w_1430 : Cond.instanceMethod yX12_goes ∈ gw := gw_t6 230 rfl rfl
theorem w_p59 : Cond.selects RX12 yX12_goes yX12_goes ∈ gw := gw_p 59 rfl rfl
theorem w_1431 : Cond.code yX12_goes cX12_goes 7 (none) ∈ gw := gw_t6 231 rfl rfl
theorem w_1306 : Cond.methodLink RX12 364 yX12_gather ∈ gw := gw_t6 106 rfl rfl
theorem w_1308 : Cond.instanceMethod yX12_gather ∈ gw := gw_t6 108 rfl rfl
theorem w_p46 : Cond.selects RX12 yX12_gather yX12_gather ∈ gw := gw_p 46 rfl rfl
theorem w_1309 : Cond.code yX12_gather cX12_gather 2 (none) ∈ gw := gw_t6 109 rfl rfl
theorem w_1418 : Cond.methodLink RX12 357 yX12_trap ∈ gw := gw_t6 218 rfl rfl
theorem w_1420 : Cond.instanceMethod yX12_trap ∈ gw := gw_t6 220 rfl rfl
theorem w_p57 : Cond.selects RX12 yX12_trap yX12_trap ∈ gw := gw_p 57 rfl rfl
theorem w_1421 : Cond.code yX12_trap cX12_trap 9 (none) ∈ gw := gw_t6 221 rfl rfl
def dl_X12_controlOf : List (Nat × Instr × Nat) := [(0, .iload_n 1, 1), (1, .lookupswitch 373 #[(256, 305), (260, 318), (261, 328), (262, 333), (320, 338), (321, 343), (322, 348), (323, 353), (324, 358), (384, 368), (768, 227), (769, 236), (770, 240), (771, 245), (772, 250), (773, 255), (774, 260), (832, 265), (833, 270), (834, 275), (835, 280), (836, 285), (2816, 290), (2818, 295), (3072, 290), (3073, 300), (3074, 295)], 227), (228, .aload_n 0, 1), (229, .getfield 67, 3), (232, .ldc2_w 248, 3), (235, .lor, 1), (236, .lreturn, 1), (237, .ldc2_w 250, 3), (240, .lreturn, 1), (241, .aload_n 0, 1), (242, .getfield 252, 3), (245, .lreturn, 1), (246, .aload_n 0, 1), (247, .getfield 255, 3), (250, .lreturn, 1), (251, .aload_n 0, 1), (252, .getfield 258, 3), (255, .lreturn, 1), (256, .aload_n 0, 1), (257, .getfield 261, 3), (260, .lreturn, 1), (261, .aload_n 0, 1), (262, .getfield 264, 3), (265, .lreturn, 1), (266, .aload_n 0, 1), (267, .getfield 267, 3), (270, .lreturn, 1), (271, .aload_n 0, 1), (272, .getfield 270, 3), (275, .lreturn, 1), (276, .aload_n 0, 1), (277, .getfield 273, 3), (280, .lreturn, 1), (281, .aload_n 0, 1), (282, .getfield 276, 3), (285, .lreturn, 1), (286, .aload_n 0, 1), (287, .invokevirtual 279, 3), (290, .lreturn, 1), (291, .aload_n 0, 1), (292, .getfield 283, 3), (295, .lreturn, 1), (296, .aload_n 0, 1), (297, .getfield 286, 3), (300, .lreturn, 1), (301, .aload_n 0, 1), (302, .getfield 144, 3), (305, .lreturn, 1), (306, .aload_n 0, 1), (307, .getfield 67, 3), (310, .ldc2_w 289, 3), (313, .land, 1), (314, .ldc2_w 291, 3), (317, .lor, 1), (318, .lreturn, 1), (319, .aload_n 0, 1), (320, .getfield 258, 3), (323, .aload_n 0, 1), (324, .getfield 255, 3), (327, .land, 1), (328, .lreturn, 1), (329, .aload_n 0, 1), (330, .getfield 293, 3), (333, .lreturn, 1), (334, .aload_n 0, 1), (335, .getfield 296, 3), (338, .lreturn, 1), (339, .aload_n 0, 1), (340, .getfield 299, 3), (343, .lreturn, 1), (344, .aload_n 0, 1), (345, .getfield 302, 3), (348, .lreturn, 1), (349, .aload_n 0, 1), (350, .getfield 305, 3), (353, .lreturn, 1), (354, .aload_n 0, 1), (355, .getfield 308, 3), (358, .lreturn, 1), (359, .aload_n 0, 1), (360, .invokevirtual 279, 3), (363, .aload_n 0, 1), (364, .getfield 255, 3), (367, .land, 1), (368, .lreturn, 1), (369, .aload_n 0, 1), (370, .getfield 200, 3), (373, .lreturn, 1), (374, .lconst 0, 1), (375, .lreturn, 1)]
theorem da_X12_controlOf : dkL cX12_controlOf dl_X12_controlOf = true := by decide +kernel
def f_X12_controlOf_b291 (u : St) : Option (Int64) := some (gL u 15)
set_option maxRecDepth 100000 in
set_option maxHeartbeats 4000000 in
theorem b_X12_controlOf_b291 {p : Program} {l : Launch} {e : Env} {s : State} {m : MethodId} {args : Array Value} {below : List Frame} {meth : Method} {c : Code} {D : va_G} {cy : ClassId × ClassId × ClassId} {ad : Nat → Nat} {A : Nat → Prop} (E : CallFix p m c cX12_controlOf 2 s args gw RX12) (hr : meth.sig.returnType = some .long) (hlk : meth.locks = false) {u : St} {r : Int64} (h : f_X12_controlOf_b291 u = some r) {ls : Array Slot} {H : Heap} {locs : List Loc} {rr : Nat → Nat} (hl : lv_has ls 2 [(0, .ref (ad 0))]) (w : WX (wM cy ad) D cy rr u A s H locs) : Wx (wM cy ad) D p l e 2 43 0 s m args below meth c A u (some (.long r)) H locs 0 291 ls [] := by
  have hx := E.1
  have hb := E.2.1
  have hown := E.2.2.2.1
  have hts := E.2.2.2.2
  refine lv_aload_n hx hb (dq da_X12_controlOf 39 rfl) rfl (lv_at hl 0 rfl) ?_
  refine gt_wM_0_cycle E w w_1124 (dq da_X12_controlOf 40 rfl) ?_
  exact xret_l E hr hlk w (by decide) (os h) rfl (dq da_X12_controlOf 41 rfl)
def f_X12_controlOf_b296 (u : St) : Option (Int64) := some (gL u 16)
set_option maxRecDepth 100000 in
set_option maxHeartbeats 4000000 in
theorem b_X12_controlOf_b296 {p : Program} {l : Launch} {e : Env} {s : State} {m : MethodId} {args : Array Value} {below : List Frame} {meth : Method} {c : Code} {D : va_G} {cy : ClassId × ClassId × ClassId} {ad : Nat → Nat} {A : Nat → Prop} (E : CallFix p m c cX12_controlOf 2 s args gw RX12) (hr : meth.sig.returnType = some .long) (hlk : meth.locks = false) {u : St} {r : Int64} (h : f_X12_controlOf_b296 u = some r) {ls : Array Slot} {H : Heap} {locs : List Loc} {rr : Nat → Nat} (hl : lv_has ls 2 [(0, .ref (ad 0))]) (w : WX (wM cy ad) D cy rr u A s H locs) : Wx (wM cy ad) D p l e 2 43 0 s m args below meth c A u (some (.long r)) H locs 0 296 ls [] := by
  have hx := E.1
  have hb := E.2.1
  have hown := E.2.2.2.1
  have hts := E.2.2.2.2
  refine lv_aload_n hx hb (dq da_X12_controlOf 42 rfl) rfl (lv_at hl 0 rfl) ?_
  refine gt_wM_0_retired E w w_1125 (dq da_X12_controlOf 43 rfl) ?_
  exact xret_l E hr hlk w (by decide) (os h) rfl (dq da_X12_controlOf 44 rfl)
def f_X12_controlOf (x1 : Int32) (u : St) : Option (Int64) := if x1 = (256 : Int32) then (some (((gL u 4) &&& (786722 : Int64)) ||| (8589934592 : Int64))) else if x1 = (260 : Int32) then (some ((gL u 7) &&& (gL u 6))) else if x1 = (261 : Int32) then (some (gL u 17)) else if x1 = (262 : Int32) then (some (gL u 18)) else if x1 = (320 : Int32) then (some (gL u 19)) else if x1 = (321 : Int32) then (some (gL u 20)) else if x1 = (322 : Int32) then (some (gL u 21)) else if x1 = (323 : Int32) then (some (gL u 22)) else if x1 = (324 : Int32) then ((f_X12_pendings u).bind (fun y10 => some (y10 &&& (gL u 6)))) else if x1 = (384 : Int32) then (some (gL u 23)) else if x1 = (768 : Int32) then (some ((gL u 4) ||| (42949672960 : Int64))) else if x1 = (769 : Int32) then (some (-9223372036853460731 : Int64)) else if x1 = (770 : Int32) then (some (gL u 5)) else if x1 = (771 : Int32) then (some (gL u 6)) else if x1 = (772 : Int32) then (some (gL u 7)) else if x1 = (773 : Int32) then (some (gL u 8)) else if x1 = (774 : Int32) then (some (gL u 9)) else if x1 = (832 : Int32) then (some (gL u 10)) else if x1 = (833 : Int32) then (some (gL u 11)) else if x1 = (834 : Int32) then (some (gL u 12)) else if x1 = (835 : Int32) then (some (gL u 13)) else if x1 = (836 : Int32) then ((f_X12_pendings u).bind (fun y25 => some y25)) else if x1 = (2816 : Int32) then (f_X12_controlOf_b291 u) else if x1 = (2818 : Int32) then (f_X12_controlOf_b296 u) else if x1 = (3072 : Int32) then (f_X12_controlOf_b291 u) else if x1 = (3073 : Int32) then (some (gL u 3)) else if x1 = (3074 : Int32) then (f_X12_controlOf_b296 u) else (some (0 : Int64))
set_option maxRecDepth 100000 in
set_option maxHeartbeats 4000000 in
theorem c_X12_controlOf (l : Launch) (D : va_G) (cy : ClassId × ClassId × ClassId) (ad : Nat → Nat) (x1 : Int32) (u : St) {r : Int64} (h : f_X12_controlOf x1 u = some r) : MX (wM cy ad) D cy l yX12_controlOf cX12_controlOf 2 (some .long) 2 43 0 [.ref (ad 0), .int x1] u u (some (.long (r))) := by
  refine entX (by decide +kernel) (Nat.le_of_ble_eq_true rfl) ?_
  intro p e s m args below meth c ls rr A E hr hlk hl w
  have hl : lv_has ls 2 [(0, .ref (ad 0)), (1, .int x1)] := hl
  have hx := E.1
  have hb := E.2.1
  have hown := E.2.2.2.1
  have hts := E.2.2.2.2
  refine lv_iload_n hx hb (dq da_X12_controlOf 0 rfl) rfl (lv_at hl 1 rfl) ?_
  by_cases c1 : x1 = (256 : Int32)
  · have h := it c1 h
    refine lv_lookup (off := 305) (tgt := 306) hx hb (dq da_X12_controlOf 1 rfl) (by decide +kernel) (by rw [c1]; decide +kernel) (by decide) ?_
    refine lv_aload_n hx hb (dq da_X12_controlOf 48 rfl) rfl (lv_at hl 0 rfl) ?_
    refine gt_wM_0_status E w w_1113 (dq da_X12_controlOf 49 rfl) ?_
    refine lv_ldc2 hx hb hown (hts _ w_1369) (dq da_X12_controlOf 50 rfl) ?_
    refine lv_land hx hb (dq da_X12_controlOf 51 rfl) ?_
    refine lv_ldc2 hx hb hown (hts _ w_1370) (dq da_X12_controlOf 52 rfl) ?_
    refine lv_lor hx hb (dq da_X12_controlOf 53 rfl) ?_
    exact xret_l E hr hlk w (by decide) (os h) rfl (dq da_X12_controlOf 54 rfl)
  · have h := ie c1 h
    by_cases c2 : x1 = (260 : Int32)
    · have h := it c2 h
      refine lv_lookup (off := 318) (tgt := 319) hx hb (dq da_X12_controlOf 1 rfl) (by decide +kernel) (by rw [c2]; decide +kernel) (by decide) ?_
      refine lv_aload_n hx hb (dq da_X12_controlOf 55 rfl) rfl (lv_at hl 0 rfl) ?_
      refine gt_wM_0_interruptsOn E w w_1116 (dq da_X12_controlOf 56 rfl) ?_
      refine lv_aload_n hx hb (dq da_X12_controlOf 57 rfl) rfl (lv_at hl 0 rfl) ?_
      refine gt_wM_0_interruptsDown E w w_1115 (dq da_X12_controlOf 58 rfl) ?_
      refine lv_land hx hb (dq da_X12_controlOf 59 rfl) ?_
      exact xret_l E hr hlk w (by decide) (os h) rfl (dq da_X12_controlOf 60 rfl)
    · have h := ie c2 h
      by_cases c3 : x1 = (261 : Int32)
      · have h := it c3 h
        refine lv_lookup (off := 328) (tgt := 329) hx hb (dq da_X12_controlOf 1 rfl) (by decide +kernel) (by rw [c3]; decide +kernel) (by decide) ?_
        refine lv_aload_n hx hb (dq da_X12_controlOf 61 rfl) rfl (lv_at hl 0 rfl) ?_
        refine gt_wM_0_vector E w w_1126 (dq da_X12_controlOf 62 rfl) ?_
        exact xret_l E hr hlk w (by decide) (os h) rfl (dq da_X12_controlOf 63 rfl)
      · have h := ie c3 h
        by_cases c4 : x1 = (262 : Int32)
        · have h := it c4 h
          refine lv_lookup (off := 333) (tgt := 334) hx hb (dq da_X12_controlOf 1 rfl) (by decide +kernel) (by rw [c4]; decide +kernel) (by decide) ?_
          refine lv_aload_n hx hb (dq da_X12_controlOf 64 rfl) rfl (lv_at hl 0 rfl) ?_
          refine gt_wM_0_counters E w w_1127 (dq da_X12_controlOf 65 rfl) ?_
          exact xret_l E hr hlk w (by decide) (os h) rfl (dq da_X12_controlOf 66 rfl)
        · have h := ie c4 h
          by_cases c5 : x1 = (320 : Int32)
          · have h := it c5 h
            refine lv_lookup (off := 338) (tgt := 339) hx hb (dq da_X12_controlOf 1 rfl) (by decide +kernel) (by rw [c5]; decide +kernel) (by decide) ?_
            refine lv_aload_n hx hb (dq da_X12_controlOf 67 rfl) rfl (lv_at hl 0 rfl) ?_
            refine gt_wM_0_scratch E w w_1128 (dq da_X12_controlOf 68 rfl) ?_
            exact xret_l E hr hlk w (by decide) (os h) rfl (dq da_X12_controlOf 69 rfl)
          · have h := ie c5 h
            by_cases c6 : x1 = (321 : Int32)
            · have h := it c6 h
              refine lv_lookup (off := 343) (tgt := 344) hx hb (dq da_X12_controlOf 1 rfl) (by decide +kernel) (by rw [c6]; decide +kernel) (by decide) ?_
              refine lv_aload_n hx hb (dq da_X12_controlOf 70 rfl) rfl (lv_at hl 0 rfl) ?_
              refine gt_wM_0_epc E w w_1129 (dq da_X12_controlOf 71 rfl) ?_
              exact xret_l E hr hlk w (by decide) (os h) rfl (dq da_X12_controlOf 72 rfl)
            · have h := ie c6 h
              by_cases c7 : x1 = (322 : Int32)
              · have h := it c7 h
                refine lv_lookup (off := 348) (tgt := 349) hx hb (dq da_X12_controlOf 1 rfl) (by decide +kernel) (by rw [c7]; decide +kernel) (by decide) ?_
                refine lv_aload_n hx hb (dq da_X12_controlOf 73 rfl) rfl (lv_at hl 0 rfl) ?_
                refine gt_wM_0_cause E w w_1130 (dq da_X12_controlOf 74 rfl) ?_
                exact xret_l E hr hlk w (by decide) (os h) rfl (dq da_X12_controlOf 75 rfl)
              · have h := ie c7 h
                by_cases c8 : x1 = (323 : Int32)
                · have h := it c8 h
                  refine lv_lookup (off := 353) (tgt := 354) hx hb (dq da_X12_controlOf 1 rfl) (by decide +kernel) (by rw [c8]; decide +kernel) (by decide) ?_
                  refine lv_aload_n hx hb (dq da_X12_controlOf 76 rfl) rfl (lv_at hl 0 rfl) ?_
                  refine gt_wM_0_trapValue E w w_1131 (dq da_X12_controlOf 77 rfl) ?_
                  exact xret_l E hr hlk w (by decide) (os h) rfl (dq da_X12_controlOf 78 rfl)
                · have h := ie c8 h
                  by_cases c9 : x1 = (324 : Int32)
                  · have h := it c9 h
                    refine lv_lookup (off := 358) (tgt := 359) hx hb (dq da_X12_controlOf 1 rfl) (by decide +kernel) (by rw [c9]; decide +kernel) (by decide) ?_
                    refine lv_aload_n hx hb (dq da_X12_controlOf 79 rfl) rfl (lv_at hl 0 rfl) ?_
                    obtain ⟨y10, hy11, h⟩ := ob h
                    refine cV1 E (c_X12_pendings l D cy ad _ hy11) w_1354 w_1356 w_p50 w_10 w_1357 rfl hd_X12_pendings rfl hl.1 rfl (Nat.le_of_ble_eq_true rfl) ⟨Nat.le_of_ble_eq_true rfl, Nat.le_of_ble_eq_true rfl⟩ (by decide) w (rc_wM_0 w) (dq da_X12_controlOf 80 rfl) (fun H locs rr w => ?_)
                    refine lv_aload_n hx hb (dq da_X12_controlOf 81 rfl) rfl (lv_at hl 0 rfl) ?_
                    refine gt_wM_0_interruptsDown E w w_1115 (dq da_X12_controlOf 82 rfl) ?_
                    refine lv_land hx hb (dq da_X12_controlOf 83 rfl) ?_
                    exact xret_l E hr hlk w (by decide) (os h) rfl (dq da_X12_controlOf 84 rfl)
                  · have h := ie c9 h
                    by_cases c12 : x1 = (384 : Int32)
                    · have h := it c12 h
                      refine lv_lookup (off := 368) (tgt := 369) hx hb (dq da_X12_controlOf 1 rfl) (by decide +kernel) (by rw [c12]; decide +kernel) (by decide) ?_
                      refine lv_aload_n hx hb (dq da_X12_controlOf 85 rfl) rfl (lv_at hl 0 rfl) ?_
                      refine gt_wM_0_satp E w w_1132 (dq da_X12_controlOf 86 rfl) ?_
                      exact xret_l E hr hlk w (by decide) (os h) rfl (dq da_X12_controlOf 87 rfl)
                    · have h := ie c12 h
                      by_cases c13 : x1 = (768 : Int32)
                      · have h := it c13 h
                        refine lv_lookup (off := 227) (tgt := 228) hx hb (dq da_X12_controlOf 1 rfl) (by decide +kernel) (by rw [c13]; decide +kernel) (by decide) ?_
                        refine lv_aload_n hx hb (dq da_X12_controlOf 2 rfl) rfl (lv_at hl 0 rfl) ?_
                        refine gt_wM_0_status E w w_1113 (dq da_X12_controlOf 3 rfl) ?_
                        refine lv_ldc2 hx hb hown (hts _ w_1352) (dq da_X12_controlOf 4 rfl) ?_
                        refine lv_lor hx hb (dq da_X12_controlOf 5 rfl) ?_
                        exact xret_l E hr hlk w (by decide) (os h) rfl (dq da_X12_controlOf 6 rfl)
                      · have h := ie c13 h
                        by_cases c14 : x1 = (769 : Int32)
                        · have h := it c14 h
                          refine lv_lookup (off := 236) (tgt := 237) hx hb (dq da_X12_controlOf 1 rfl) (by decide +kernel) (by rw [c14]; decide +kernel) (by decide) ?_
                          refine lv_ldc2 hx hb hown (hts _ w_1353) (dq da_X12_controlOf 7 rfl) ?_
                          exact xret_l E hr hlk w (by decide) (os h) rfl (dq da_X12_controlOf 8 rfl)
                        · have h := ie c14 h
                          by_cases c15 : x1 = (770 : Int32)
                          · have h := it c15 h
                            refine lv_lookup (off := 240) (tgt := 241) hx hb (dq da_X12_controlOf 1 rfl) (by decide +kernel) (by rw [c15]; decide +kernel) (by decide) ?_
                            refine lv_aload_n hx hb (dq da_X12_controlOf 9 rfl) rfl (lv_at hl 0 rfl) ?_
                            refine gt_wM_0_exceptions E w w_1114 (dq da_X12_controlOf 10 rfl) ?_
                            exact xret_l E hr hlk w (by decide) (os h) rfl (dq da_X12_controlOf 11 rfl)
                          · have h := ie c15 h
                            by_cases c16 : x1 = (771 : Int32)
                            · have h := it c16 h
                              refine lv_lookup (off := 245) (tgt := 246) hx hb (dq da_X12_controlOf 1 rfl) (by decide +kernel) (by rw [c16]; decide +kernel) (by decide) ?_
                              refine lv_aload_n hx hb (dq da_X12_controlOf 12 rfl) rfl (lv_at hl 0 rfl) ?_
                              refine gt_wM_0_interruptsDown E w w_1115 (dq da_X12_controlOf 13 rfl) ?_
                              exact xret_l E hr hlk w (by decide) (os h) rfl (dq da_X12_controlOf 14 rfl)
                            · have h := ie c16 h
                              by_cases c17 : x1 = (772 : Int32)
                              · have h := it c17 h
                                refine lv_lookup (off := 250) (tgt := 251) hx hb (dq da_X12_controlOf 1 rfl) (by decide +kernel) (by rw [c17]; decide +kernel) (by decide) ?_
                                refine lv_aload_n hx hb (dq da_X12_controlOf 15 rfl) rfl (lv_at hl 0 rfl) ?_
                                refine gt_wM_0_interruptsOn E w w_1116 (dq da_X12_controlOf 16 rfl) ?_
                                exact xret_l E hr hlk w (by decide) (os h) rfl (dq da_X12_controlOf 17 rfl)
                              · have h := ie c17 h
                                by_cases c18 : x1 = (773 : Int32)
                                · have h := it c18 h
                                  refine lv_lookup (off := 255) (tgt := 256) hx hb (dq da_X12_controlOf 1 rfl) (by decide +kernel) (by rw [c18]; decide +kernel) (by decide) ?_
                                  refine lv_aload_n hx hb (dq da_X12_controlOf 18 rfl) rfl (lv_at hl 0 rfl) ?_
                                  refine gt_wM_0_machineVector E w w_1117 (dq da_X12_controlOf 19 rfl) ?_
                                  exact xret_l E hr hlk w (by decide) (os h) rfl (dq da_X12_controlOf 20 rfl)
                                · have h := ie c18 h
                                  by_cases c19 : x1 = (774 : Int32)
                                  · have h := it c19 h
                                    refine lv_lookup (off := 260) (tgt := 261) hx hb (dq da_X12_controlOf 1 rfl) (by decide +kernel) (by rw [c19]; decide +kernel) (by decide) ?_
                                    refine lv_aload_n hx hb (dq da_X12_controlOf 21 rfl) rfl (lv_at hl 0 rfl) ?_
                                    refine gt_wM_0_machineCounters E w w_1118 (dq da_X12_controlOf 22 rfl) ?_
                                    exact xret_l E hr hlk w (by decide) (os h) rfl (dq da_X12_controlOf 23 rfl)
                                  · have h := ie c19 h
                                    by_cases c20 : x1 = (832 : Int32)
                                    · have h := it c20 h
                                      refine lv_lookup (off := 265) (tgt := 266) hx hb (dq da_X12_controlOf 1 rfl) (by decide +kernel) (by rw [c20]; decide +kernel) (by decide) ?_
                                      refine lv_aload_n hx hb (dq da_X12_controlOf 24 rfl) rfl (lv_at hl 0 rfl) ?_
                                      refine gt_wM_0_machineScratch E w w_1119 (dq da_X12_controlOf 25 rfl) ?_
                                      exact xret_l E hr hlk w (by decide) (os h) rfl (dq da_X12_controlOf 26 rfl)
                                    · have h := ie c20 h
                                      by_cases c21 : x1 = (833 : Int32)
                                      · have h := it c21 h
                                        refine lv_lookup (off := 270) (tgt := 271) hx hb (dq da_X12_controlOf 1 rfl) (by decide +kernel) (by rw [c21]; decide +kernel) (by decide) ?_
                                        refine lv_aload_n hx hb (dq da_X12_controlOf 27 rfl) rfl (lv_at hl 0 rfl) ?_
                                        refine gt_wM_0_machineEpc E w w_1120 (dq da_X12_controlOf 28 rfl) ?_
                                        exact xret_l E hr hlk w (by decide) (os h) rfl (dq da_X12_controlOf 29 rfl)
                                      · have h := ie c21 h
                                        by_cases c22 : x1 = (834 : Int32)
                                        · have h := it c22 h
                                          refine lv_lookup (off := 275) (tgt := 276) hx hb (dq da_X12_controlOf 1 rfl) (by decide +kernel) (by rw [c22]; decide +kernel) (by decide) ?_
                                          refine lv_aload_n hx hb (dq da_X12_controlOf 30 rfl) rfl (lv_at hl 0 rfl) ?_
                                          refine gt_wM_0_machineCause E w w_1121 (dq da_X12_controlOf 31 rfl) ?_
                                          exact xret_l E hr hlk w (by decide) (os h) rfl (dq da_X12_controlOf 32 rfl)
                                        · have h := ie c22 h
                                          by_cases c23 : x1 = (835 : Int32)
                                          · have h := it c23 h
                                            refine lv_lookup (off := 280) (tgt := 281) hx hb (dq da_X12_controlOf 1 rfl) (by decide +kernel) (by rw [c23]; decide +kernel) (by decide) ?_
                                            refine lv_aload_n hx hb (dq da_X12_controlOf 33 rfl) rfl (lv_at hl 0 rfl) ?_
                                            refine gt_wM_0_machineValue E w w_1122 (dq da_X12_controlOf 34 rfl) ?_
                                            exact xret_l E hr hlk w (by decide) (os h) rfl (dq da_X12_controlOf 35 rfl)
                                          · have h := ie c23 h
                                            by_cases c24 : x1 = (836 : Int32)
                                            · have h := it c24 h
                                              refine lv_lookup (off := 285) (tgt := 286) hx hb (dq da_X12_controlOf 1 rfl) (by decide +kernel) (by rw [c24]; decide +kernel) (by decide) ?_
                                              refine lv_aload_n hx hb (dq da_X12_controlOf 36 rfl) rfl (lv_at hl 0 rfl) ?_
                                              obtain ⟨y25, hy26, h⟩ := ob h
                                              refine cV1 E (c_X12_pendings l D cy ad _ hy26) w_1354 w_1356 w_p50 w_10 w_1357 rfl hd_X12_pendings rfl hl.1 rfl (Nat.le_of_ble_eq_true rfl) ⟨Nat.le_of_ble_eq_true rfl, Nat.le_of_ble_eq_true rfl⟩ (by decide) w (rc_wM_0 w) (dq da_X12_controlOf 37 rfl) (fun H locs rr w => ?_)
                                              exact xret_l E hr hlk w (by decide) (os h) rfl (dq da_X12_controlOf 38 rfl)
                                            · have h := ie c24 h
                                              by_cases c27 : x1 = (2816 : Int32)
                                              · have h := it c27 h
                                                refine lv_lookup (off := 290) (tgt := 291) hx hb (dq da_X12_controlOf 1 rfl) (by decide +kernel) (by rw [c27]; decide +kernel) (by decide) ?_
                                                exact b_X12_controlOf_b291 E hr hlk h (lv_sub hl [0] rfl) w
                                              · have h := ie c27 h
                                                by_cases c28 : x1 = (2818 : Int32)
                                                · have h := it c28 h
                                                  refine lv_lookup (off := 295) (tgt := 296) hx hb (dq da_X12_controlOf 1 rfl) (by decide +kernel) (by rw [c28]; decide +kernel) (by decide) ?_
                                                  exact b_X12_controlOf_b296 E hr hlk h (lv_sub hl [0] rfl) w
                                                · have h := ie c28 h
                                                  by_cases c29 : x1 = (3072 : Int32)
                                                  · have h := it c29 h
                                                    refine lv_lookup (off := 290) (tgt := 291) hx hb (dq da_X12_controlOf 1 rfl) (by decide +kernel) (by rw [c29]; decide +kernel) (by decide) ?_
                                                    exact b_X12_controlOf_b291 E hr hlk h (lv_sub hl [0] rfl) w
                                                  · have h := ie c29 h
                                                    by_cases c30 : x1 = (3073 : Int32)
                                                    · have h := it c30 h
                                                      refine lv_lookup (off := 300) (tgt := 301) hx hb (dq da_X12_controlOf 1 rfl) (by decide +kernel) (by rw [c30]; decide +kernel) (by decide) ?_
                                                      refine lv_aload_n hx hb (dq da_X12_controlOf 45 rfl) rfl (lv_at hl 0 rfl) ?_
                                                      refine gt_wM_0_time E w w_1098 (dq da_X12_controlOf 46 rfl) ?_
                                                      exact xret_l E hr hlk w (by decide) (os h) rfl (dq da_X12_controlOf 47 rfl)
                                                    · have h := ie c30 h
                                                      by_cases c31 : x1 = (3074 : Int32)
                                                      · have h := it c31 h
                                                        refine lv_lookup (off := 295) (tgt := 296) hx hb (dq da_X12_controlOf 1 rfl) (by decide +kernel) (by rw [c31]; decide +kernel) (by decide) ?_
                                                        exact b_X12_controlOf_b296 E hr hlk h (lv_sub hl [0] rfl) w
                                                      · have h := ie c31 h
                                                        refine lv_lookup (off := 373) (tgt := 374) hx hb (dq da_X12_controlOf 1 rfl) (by decide +kernel) (by show Op.lookupswitch.offset [(256, 305), (260, 318), (261, 328), (262, 333), (320, 338), (321, 343), (322, 348), (323, 353), (324, 358), (384, 368), (768, 227), (769, 236), (770, 240), (771, 245), (772, 250), (773, 255), (774, 260), (832, 265), (833, 270), (834, 275), (835, 280), (836, 285), (2816, 290), (2818, 295), (3072, 290), (3073, 300), (3074, 295)] (373) _ = _; rw [lv_osw (k := (256 : Int32)) (a := 256) c1 rfl, lv_osw (k := (260 : Int32)) (a := 260) c2 rfl, lv_osw (k := (261 : Int32)) (a := 261) c3 rfl, lv_osw (k := (262 : Int32)) (a := 262) c4 rfl, lv_osw (k := (320 : Int32)) (a := 320) c5 rfl, lv_osw (k := (321 : Int32)) (a := 321) c6 rfl, lv_osw (k := (322 : Int32)) (a := 322) c7 rfl, lv_osw (k := (323 : Int32)) (a := 323) c8 rfl, lv_osw (k := (324 : Int32)) (a := 324) c9 rfl, lv_osw (k := (384 : Int32)) (a := 384) c12 rfl, lv_osw (k := (768 : Int32)) (a := 768) c13 rfl, lv_osw (k := (769 : Int32)) (a := 769) c14 rfl, lv_osw (k := (770 : Int32)) (a := 770) c15 rfl, lv_osw (k := (771 : Int32)) (a := 771) c16 rfl, lv_osw (k := (772 : Int32)) (a := 772) c17 rfl, lv_osw (k := (773 : Int32)) (a := 773) c18 rfl, lv_osw (k := (774 : Int32)) (a := 774) c19 rfl, lv_osw (k := (832 : Int32)) (a := 832) c20 rfl, lv_osw (k := (833 : Int32)) (a := 833) c21 rfl, lv_osw (k := (834 : Int32)) (a := 834) c22 rfl, lv_osw (k := (835 : Int32)) (a := 835) c23 rfl, lv_osw (k := (836 : Int32)) (a := 836) c24 rfl, lv_osw (k := (2816 : Int32)) (a := 2816) c27 rfl, lv_osw (k := (2818 : Int32)) (a := 2818) c28 rfl, lv_osw (k := (3072 : Int32)) (a := 3072) c29 rfl, lv_osw (k := (3073 : Int32)) (a := 3073) c30 rfl, lv_osw (k := (3074 : Int32)) (a := 3074) c31 rfl]; rfl) (by decide) ?_
                                                        refine lv_lconst (v := 0) hx hb (dq da_X12_controlOf 88 rfl) rfl ?_
                                                        exact xret_l E hr hlk w (by decide) (os h) rfl (dq da_X12_controlOf 89 rfl)
def dl_X12_writeStatus : List (Nat × Instr × Nat) := [(0, .lload_n 1, 1), (1, .ldc2_w 311, 3), (4, .land, 1), (5, .lstore_n 3, 1), (6, .lload_n 1, 1), (7, .bipush 12, 2), (9, .bipush 11, 2), (11, .invokestatic 196, 3), (14, .ldc2_w 313, 3), (17, .lcmp, 1), (18, .ifCond .ne 18, 3), (21, .lload_n 3, 1), (22, .ldc2_w 315, 3), (25, .land, 1), (26, .aload_n 0, 1), (27, .getfield 67, 3), (30, .ldc2_w 317, 3), (33, .land, 1), (34, .lor, 1), (35, .lstore_n 3, 1), (36, .aload_n 0, 1), (37, .lload_n 3, 1), (38, .putfield 67, 3), (41, .return_, 1)]
theorem da_X12_writeStatus : dkL cX12_writeStatus dl_X12_writeStatus = true := by decide +kernel
def f_X12_writeStatus_b36 (x3 : Int64) (u : St) : St := (sL u 4 x3)
set_option maxRecDepth 100000 in
set_option maxHeartbeats 4000000 in
theorem b_X12_writeStatus_b36 {p : Program} {l : Launch} {e : Env} {s : State} {m : MethodId} {args : Array Value} {below : List Frame} {meth : Method} {c : Code} {D : va_G} {cy : ClassId × ClassId × ClassId} {ad : Nat → Nat} {A : Nat → Prop} (E : CallFix p m c cX12_writeStatus 5 s args gw RX12) (hr : meth.sig.returnType = none) (hlk : meth.locks = false) {x3 : Int64} {u : St} {u' : St} (h : f_X12_writeStatus_b36 x3 u = u') {ls : Array Slot} {H : Heap} {locs : List Loc} {rr : Nat → Nat} (hl : lv_has ls 5 [(0, .ref (ad 0)), (3, .long x3)]) (w : WX (wM cy ad) D cy rr u A s H locs) : Wx (wM cy ad) D p l e 1 23 0 s m args below meth c A u' none H locs 0 36 ls [] := by
  have hx := E.1
  have hb := E.2.1
  have hown := E.2.2.2.1
  have hts := E.2.2.2.2
  refine lv_aload_n hx hb (dq da_X12_writeStatus 20 rfl) rfl (lv_at hl 0 rfl) ?_
  refine lv_lload_n hx hb (dq da_X12_writeStatus 21 rfl) rfl (lv_at hl 1 rfl) ?_
  refine pt_wM_0_status E w w_1113 (dq da_X12_writeStatus 22 rfl) (fun H locs w => ?_)
  exact xret_v E hr hlk w (by decide) h (dq da_X12_writeStatus 23 rfl)
def f_X12_writeStatus (x1 : Int64) (u : St) : St := if (f_X12_cut x1 (12 : Int32) (11 : Int32)) = (2 : Int64) then (f_X12_writeStatus_b36 (((x1 &&& (8264106 : Int64)) &&& (-6145 : Int64)) ||| ((gL u 4) &&& (6144 : Int64))) u) else (f_X12_writeStatus_b36 (x1 &&& (8264106 : Int64)) u)
set_option maxRecDepth 100000 in
set_option maxHeartbeats 4000000 in
theorem c_X12_writeStatus (l : Launch) (D : va_G) (cy : ClassId × ClassId × ClassId) (ad : Nat → Nat) (x1 : Int64) (u : St) : MX (wM cy ad) D cy l yX12_writeStatus cX12_writeStatus 5 (none) 1 23 0 [.ref (ad 0), .long x1] u (f_X12_writeStatus x1 u) none := by
  refine entX (by decide +kernel) (Nat.le_of_ble_eq_true rfl) ?_
  intro p e s m args below meth c ls rr A E hr hlk hl w
  have hl : lv_has ls 5 [(0, .ref (ad 0)), (1, .long x1)] := hl
  generalize h : f_X12_writeStatus x1 u = u'
  have hx := E.1
  have hb := E.2.1
  have hown := E.2.2.2.1
  have hts := E.2.2.2.2
  refine lv_lload_n hx hb (dq da_X12_writeStatus 0 rfl) rfl (lv_at hl 1 rfl) ?_
  refine lv_ldc2 hx hb hown (hts _ w_1383) (dq da_X12_writeStatus 1 rfl) ?_
  refine lv_land hx hb (dq da_X12_writeStatus 2 rfl) ?_
  refine lv_lstore_n (lv' := [(3, .long (x1 &&& (8264106 : Int64))), (0, .ref (ad 0)), (1, .long x1)]) hx hb (dq da_X12_writeStatus 3 rfl) rfl hl (by decide) rfl (fun ls hl => ?_)
  refine lv_lload_n hx hb (dq da_X12_writeStatus 4 rfl) rfl (lv_at hl 2 rfl) ?_
  refine lv_bipush (v := 12) hx hb (dq da_X12_writeStatus 5 rfl) rfl ?_
  refine lv_bipush (v := 11) hx hb (dq da_X12_writeStatus 6 rfl) rfl ?_
  refine callP E (c_X12_cut l _ _ _ ) w_1384 w_1385 w_10 w_1386 hd_X12_cut rfl hl.1 rfl (Nat.le_of_ble_eq_true rfl) ⟨Nat.le_of_ble_eq_true rfl, Nat.le_of_ble_eq_true rfl⟩ (by decide) (dq da_X12_writeStatus 7 rfl) ?_
  refine lv_ldc2 hx hb hown (hts _ w_1269) (dq da_X12_writeStatus 8 rfl) ?_
  refine lc_ne (tgt := 36) hx hb (dq da_X12_writeStatus 9 rfl) (dq da_X12_writeStatus 10 rfl) (by decide) (fun c1 => ?_) (fun c1 => ?_)
  · have h := ie c1 h
    exact b_X12_writeStatus_b36 E hr hlk h (lv_sub hl [1, 0] rfl) w
  · have h := it c1 h
    refine lv_lload_n hx hb (dq da_X12_writeStatus 11 rfl) rfl (lv_at hl 0 rfl) ?_
    refine lv_ldc2 hx hb hown (hts _ w_1387) (dq da_X12_writeStatus 12 rfl) ?_
    refine lv_land hx hb (dq da_X12_writeStatus 13 rfl) ?_
    refine lv_aload_n hx hb (dq da_X12_writeStatus 14 rfl) rfl (lv_at hl 1 rfl) ?_
    refine gt_wM_0_status E w w_1113 (dq da_X12_writeStatus 15 rfl) ?_
    refine lv_ldc2 hx hb hown (hts _ w_1388) (dq da_X12_writeStatus 16 rfl) ?_
    refine lv_land hx hb (dq da_X12_writeStatus 17 rfl) ?_
    refine lv_lor hx hb (dq da_X12_writeStatus 18 rfl) ?_
    refine lv_lstore_n (lv' := [(3, .long (((x1 &&& (8264106 : Int64)) &&& (-6145 : Int64)) ||| ((gL u 4) &&& (6144 : Int64)))), (0, .ref (ad 0)), (1, .long x1)]) hx hb (dq da_X12_writeStatus 19 rfl) rfl hl (by decide) rfl (fun ls hl => ?_)
    exact b_X12_writeStatus_b36 E hr hlk h (lv_sub hl [1, 0] rfl) w
def dl_X12_writeControl : List (Nat × Instr × Nat) := [(0, .iload_n 1, 1), (1, .lookupswitch 513 #[(256, 327), (260, 348), (261, 375), (262, 387), (320, 399), (321, 407), (322, 419), (323, 427), (324, 435), (384, 470), (768, 195), (770, 203), (771, 215), (772, 227), (773, 239), (774, 251), (832, 263), (833, 271), (834, 283), (835, 291), (836, 299), (2816, 311), (2818, 319)], 195), (196, .aload_n 0, 1), (197, .lload_n 2, 1), (198, .invokevirtual 319, 3), (201, .goto 313, 3), (204, .aload_n 0, 1), (205, .lload_n 2, 1), (206, .ldc2_w 323, 3), (209, .land, 1), (210, .putfield 252, 3), (213, .goto 301, 3), (216, .aload_n 0, 1), (217, .lload_n 2, 1), (218, .ldc2_w 325, 3), (221, .land, 1), (222, .putfield 255, 3), (225, .goto 289, 3), (228, .aload_n 0, 1), (229, .lload_n 2, 1), (230, .ldc2_w 327, 3), (233, .land, 1), (234, .putfield 258, 3), (237, .goto 277, 3), (240, .aload_n 0, 1), (241, .lload_n 2, 1), (242, .ldc2_w 329, 3), (245, .land, 1), (246, .putfield 261, 3), (249, .goto 265, 3), (252, .aload_n 0, 1), (253, .lload_n 2, 1), (254, .ldc2_w 127, 3), (257, .land, 1), (258, .putfield 264, 3), (261, .goto 253, 3), (264, .aload_n 0, 1), (265, .lload_n 2, 1), (266, .putfield 267, 3), (269, .goto 245, 3), (272, .aload_n 0, 1), (273, .lload_n 2, 1), (274, .ldc2_w 331, 3), (277, .land, 1), (278, .putfield 270, 3), (281, .goto 233, 3), (284, .aload_n 0, 1), (285, .lload_n 2, 1), (286, .putfield 273, 3), (289, .goto 225, 3), (292, .aload_n 0, 1), (293, .lload_n 2, 1), (294, .putfield 276, 3), (297, .goto 217, 3), (300, .aload_n 0, 1), (301, .lload_n 2, 1), (302, .ldc2_w 325, 3), (305, .land, 1), (306, .putfield 228, 3), (309, .goto 205, 3), (312, .aload_n 0, 1), (313, .lload_n 2, 1), (314, .putfield 283, 3), (317, .goto 197, 3), (320, .aload_n 0, 1), (321, .lload_n 2, 1), (322, .putfield 286, 3), (325, .goto 189, 3), (328, .aload_n 0, 1), (329, .aload_n 0, 1), (330, .getfield 67, 3), (333, .ldc2_w 333, 3), (336, .land, 1), (337, .lload_n 2, 1), (338, .ldc2_w 289, 3), (341, .land, 1), (342, .lor, 1), (343, .putfield 67, 3), (346, .goto 168, 3), (349, .aload_n 0, 1), (350, .aload_n 0, 1), (351, .getfield 258, 3), (354, .aload_n 0, 1), (355, .getfield 255, 3), (358, .ldc2_w 28, 3), (361, .lxor, 1), (362, .land, 1), (363, .lload_n 2, 1), (364, .aload_n 0, 1), (365, .getfield 255, 3), (368, .land, 1), (369, .lor, 1), (370, .putfield 258, 3), (373, .goto 141, 3), (376, .aload_n 0, 1), (377, .lload_n 2, 1), (378, .ldc2_w 329, 3), (381, .land, 1), (382, .putfield 293, 3), (385, .goto 129, 3), (388, .aload_n 0, 1), (389, .lload_n 2, 1), (390, .ldc2_w 127, 3), (393, .land, 1), (394, .putfield 296, 3), (397, .goto 117, 3), (400, .aload_n 0, 1), (401, .lload_n 2, 1), (402, .putfield 299, 3), (405, .goto 109, 3), (408, .aload_n 0, 1), (409, .lload_n 2, 1), (410, .ldc2_w 331, 3), (413, .land, 1), (414, .putfield 302, 3), (417, .goto 97, 3), (420, .aload_n 0, 1), (421, .lload_n 2, 1), (422, .putfield 305, 3), (425, .goto 89, 3), (428, .aload_n 0, 1), (429, .lload_n 2, 1), (430, .putfield 308, 3), (433, .goto 81, 3), (436, .aload_n 0, 1), (437, .aload_n 0, 1), (438, .getfield 228, 3), (441, .ldc2_w 313, 3), (444, .aload_n 0, 1), (445, .getfield 255, 3), (448, .land, 1), (449, .ldc2_w 28, 3), (452, .lxor, 1), (453, .land, 1), (454, .lload_n 2, 1), (455, .ldc2_w 313, 3), (458, .land, 1), (459, .aload_n 0, 1), (460, .getfield 255, 3), (463, .land, 1), (464, .lor, 1), (465, .putfield 228, 3), (468, .goto 46, 3), (471, .aload_n 0, 1), (472, .lload_n 2, 1), (473, .bipush 63, 2), (475, .bipush 60, 2), (477, .invokestatic 196, 3), (480, .lconst 0, 1), (481, .lcmp, 1), (482, .ifCond .eq 18, 3), (485, .lload_n 2, 1), (486, .bipush 63, 2), (488, .bipush 60, 2), (490, .invokestatic 196, 3), (493, .ldc2_w 203, 3), (496, .lcmp, 1), (497, .ifCond .ne 7, 3), (500, .lload_n 2, 1), (501, .goto 7, 3), (504, .aload_n 0, 1), (505, .getfield 200, 3), (508, .putfield 200, 3), (511, .goto 3, 3), (514, .return_, 1)]
theorem da_X12_writeControl : dkL cX12_writeControl dl_X12_writeControl = true := by decide +kernel
def f_X12_writeControl_b508 (s0 : Int64) (u : St) : St := (sL u 23 s0)
set_option maxRecDepth 100000 in
set_option maxHeartbeats 4000000 in
theorem b_X12_writeControl_b508 {p : Program} {l : Launch} {e : Env} {s : State} {m : MethodId} {args : Array Value} {below : List Frame} {meth : Method} {c : Code} {D : va_G} {cy : ClassId × ClassId × ClassId} {ad : Nat → Nat} {A : Nat → Prop} (E : CallFix p m c cX12_writeControl 4 s args gw RX12) (hr : meth.sig.returnType = none) (hlk : meth.locks = false) {s0 : Int64} {u : St} {u' : St} (h : f_X12_writeControl_b508 s0 u = u') {ls : Array Slot} {H : Heap} {locs : List Loc} {rr : Nat → Nat} (hl : lv_has ls 4 []) (w : WX (wM cy ad) D cy rr u A s H locs) : Wx (wM cy ad) D p l e 2 47 0 s m args below meth c A u' none H locs 0 508 ls [.long s0, .ref (ad 0)] := by
  have hx := E.1
  have hb := E.2.1
  have hown := E.2.2.2.1
  have hts := E.2.2.2.2
  refine pt_wM_0_satp E w w_1132 (dq da_X12_writeControl 162 rfl) (fun H locs w => ?_)
  refine lv_goto (tgt := 514) hx hb (dq da_X12_writeControl 163 rfl) (by decide) ?_
  exact xret_v E hr hlk w (by decide) h (dq da_X12_writeControl 164 rfl)
def f_X12_writeControl_b500 (x2 : Int64) (u : St) : St := f_X12_writeControl_b508 x2 u
set_option maxRecDepth 100000 in
set_option maxHeartbeats 4000000 in
theorem b_X12_writeControl_b500 {p : Program} {l : Launch} {e : Env} {s : State} {m : MethodId} {args : Array Value} {below : List Frame} {meth : Method} {c : Code} {D : va_G} {cy : ClassId × ClassId × ClassId} {ad : Nat → Nat} {A : Nat → Prop} (E : CallFix p m c cX12_writeControl 4 s args gw RX12) (hr : meth.sig.returnType = none) (hlk : meth.locks = false) {x2 : Int64} {u : St} {u' : St} (h : f_X12_writeControl_b500 x2 u = u') {ls : Array Slot} {H : Heap} {locs : List Loc} {rr : Nat → Nat} (hl : lv_has ls 4 [(2, .long x2)]) (w : WX (wM cy ad) D cy rr u A s H locs) : Wx (wM cy ad) D p l e 2 47 0 s m args below meth c A u' none H locs 0 500 ls [.ref (ad 0)] := by
  have hx := E.1
  have hb := E.2.1
  have hown := E.2.2.2.1
  have hts := E.2.2.2.2
  refine lv_lload_n hx hb (dq da_X12_writeControl 158 rfl) rfl (lv_at hl 0 rfl) ?_
  refine lv_goto (tgt := 508) hx hb (dq da_X12_writeControl 159 rfl) (by decide) ?_
  exact b_X12_writeControl_b508 E hr hlk h (lv_sub hl [] rfl) w
def f_X12_writeControl (x1 : Int32) (x2 : Int64) (u : St) : St := if x1 = (256 : Int32) then (sL u 4 (((gL u 4) &&& (-786723 : Int64)) ||| (x2 &&& (786722 : Int64)))) else if x1 = (260 : Int32) then (sL u 7 (((gL u 7) &&& ((gL u 6) ^^^ (-1 : Int64))) ||| (x2 &&& (gL u 6)))) else if x1 = (261 : Int32) then (sL u 17 (x2 &&& (-3 : Int64))) else if x1 = (262 : Int32) then (sL u 18 (x2 &&& (7 : Int64))) else if x1 = (320 : Int32) then (sL u 19 x2) else if x1 = (321 : Int32) then (sL u 20 (x2 &&& (-2 : Int64))) else if x1 = (322 : Int32) then (sL u 21 x2) else if x1 = (323 : Int32) then (sL u 22 x2) else if x1 = (324 : Int32) then (sL u 14 (((gL u 14) &&& (((2 : Int64) &&& (gL u 6)) ^^^ (-1 : Int64))) ||| ((x2 &&& (2 : Int64)) &&& (gL u 6)))) else if x1 = (384 : Int32) then (if (f_X12_cut x2 (63 : Int32) (60 : Int32)) = (0 : Int64) then (f_X12_writeControl_b500 x2 u) else (if (f_X12_cut x2 (63 : Int32) (60 : Int32)) = (8 : Int64) then (f_X12_writeControl_b500 x2 u) else (f_X12_writeControl_b508 (gL u 23) u))) else if x1 = (768 : Int32) then (f_X12_writeStatus x2 u) else if x1 = (770 : Int32) then (sL u 5 (x2 &&& (46079 : Int64))) else if x1 = (771 : Int32) then (sL u 6 (x2 &&& (546 : Int64))) else if x1 = (772 : Int32) then (sL u 7 (x2 &&& (2730 : Int64))) else if x1 = (773 : Int32) then (sL u 8 (x2 &&& (-3 : Int64))) else if x1 = (774 : Int32) then (sL u 9 (x2 &&& (7 : Int64))) else if x1 = (832 : Int32) then (sL u 10 x2) else if x1 = (833 : Int32) then (sL u 11 (x2 &&& (-2 : Int64))) else if x1 = (834 : Int32) then (sL u 12 x2) else if x1 = (835 : Int32) then (sL u 13 x2) else if x1 = (836 : Int32) then (sL u 14 (x2 &&& (546 : Int64))) else if x1 = (2816 : Int32) then (sL u 15 x2) else if x1 = (2818 : Int32) then (sL u 16 x2) else u
set_option maxRecDepth 100000 in
set_option maxHeartbeats 4000000 in
theorem c_X12_writeControl (l : Launch) (D : va_G) (cy : ClassId × ClassId × ClassId) (ad : Nat → Nat) (x1 : Int32) (x2 : Int64) (u : St) : MX (wM cy ad) D cy l yX12_writeControl cX12_writeControl 4 (none) 2 47 0 [.ref (ad 0), .int x1, .long x2] u (f_X12_writeControl x1 x2 u) none := by
  refine entX (by decide +kernel) (Nat.le_of_ble_eq_true rfl) ?_
  intro p e s m args below meth c ls rr A E hr hlk hl w
  have hl : lv_has ls 4 [(0, .ref (ad 0)), (1, .int x1), (2, .long x2)] := hl
  generalize h : f_X12_writeControl x1 x2 u = u'
  have hx := E.1
  have hb := E.2.1
  have hown := E.2.2.2.1
  have hts := E.2.2.2.2
  refine lv_iload_n hx hb (dq da_X12_writeControl 0 rfl) rfl (lv_at hl 1 rfl) ?_
  by_cases c1 : x1 = (256 : Int32)
  · have h := it c1 h
    refine lv_lookup (off := 327) (tgt := 328) hx hb (dq da_X12_writeControl 1 rfl) (by decide +kernel) (by rw [c1]; decide +kernel) (by decide) ?_
    refine lv_aload_n hx hb (dq da_X12_writeControl 68 rfl) rfl (lv_at hl 0 rfl) ?_
    refine lv_aload_n hx hb (dq da_X12_writeControl 69 rfl) rfl (lv_at hl 0 rfl) ?_
    refine gt_wM_0_status E w w_1113 (dq da_X12_writeControl 70 rfl) ?_
    refine lv_ldc2 hx hb hown (hts _ w_1394) (dq da_X12_writeControl 71 rfl) ?_
    refine lv_land hx hb (dq da_X12_writeControl 72 rfl) ?_
    refine lv_lload_n hx hb (dq da_X12_writeControl 73 rfl) rfl (lv_at hl 2 rfl) ?_
    refine lv_ldc2 hx hb hown (hts _ w_1369) (dq da_X12_writeControl 74 rfl) ?_
    refine lv_land hx hb (dq da_X12_writeControl 75 rfl) ?_
    refine lv_lor hx hb (dq da_X12_writeControl 76 rfl) ?_
    refine pt_wM_0_status E w w_1113 (dq da_X12_writeControl 77 rfl) (fun H locs w => ?_)
    refine lv_goto (tgt := 514) hx hb (dq da_X12_writeControl 78 rfl) (by decide) ?_
    exact xret_v E hr hlk w (by decide) h (dq da_X12_writeControl 164 rfl)
  · have h := ie c1 h
    by_cases c2 : x1 = (260 : Int32)
    · have h := it c2 h
      refine lv_lookup (off := 348) (tgt := 349) hx hb (dq da_X12_writeControl 1 rfl) (by decide +kernel) (by rw [c2]; decide +kernel) (by decide) ?_
      refine lv_aload_n hx hb (dq da_X12_writeControl 79 rfl) rfl (lv_at hl 0 rfl) ?_
      refine lv_aload_n hx hb (dq da_X12_writeControl 80 rfl) rfl (lv_at hl 0 rfl) ?_
      refine gt_wM_0_interruptsOn E w w_1116 (dq da_X12_writeControl 81 rfl) ?_
      refine lv_aload_n hx hb (dq da_X12_writeControl 82 rfl) rfl (lv_at hl 0 rfl) ?_
      refine gt_wM_0_interruptsDown E w w_1115 (dq da_X12_writeControl 83 rfl) ?_
      refine lv_ldc2 hx hb hown (hts _ w_1086) (dq da_X12_writeControl 84 rfl) ?_
      refine lv_lxor hx hb (dq da_X12_writeControl 85 rfl) ?_
      refine lv_land hx hb (dq da_X12_writeControl 86 rfl) ?_
      refine lv_lload_n hx hb (dq da_X12_writeControl 87 rfl) rfl (lv_at hl 2 rfl) ?_
      refine lv_aload_n hx hb (dq da_X12_writeControl 88 rfl) rfl (lv_at hl 0 rfl) ?_
      refine gt_wM_0_interruptsDown E w w_1115 (dq da_X12_writeControl 89 rfl) ?_
      refine lv_land hx hb (dq da_X12_writeControl 90 rfl) ?_
      refine lv_lor hx hb (dq da_X12_writeControl 91 rfl) ?_
      refine pt_wM_0_interruptsOn E w w_1116 (dq da_X12_writeControl 92 rfl) (fun H locs w => ?_)
      refine lv_goto (tgt := 514) hx hb (dq da_X12_writeControl 93 rfl) (by decide) ?_
      exact xret_v E hr hlk w (by decide) h (dq da_X12_writeControl 164 rfl)
    · have h := ie c2 h
      by_cases c3 : x1 = (261 : Int32)
      · have h := it c3 h
        refine lv_lookup (off := 375) (tgt := 376) hx hb (dq da_X12_writeControl 1 rfl) (by decide +kernel) (by rw [c3]; decide +kernel) (by decide) ?_
        refine lv_aload_n hx hb (dq da_X12_writeControl 94 rfl) rfl (lv_at hl 0 rfl) ?_
        refine lv_lload_n hx hb (dq da_X12_writeControl 95 rfl) rfl (lv_at hl 2 rfl) ?_
        refine lv_ldc2 hx hb hown (hts _ w_1392) (dq da_X12_writeControl 96 rfl) ?_
        refine lv_land hx hb (dq da_X12_writeControl 97 rfl) ?_
        refine pt_wM_0_vector E w w_1126 (dq da_X12_writeControl 98 rfl) (fun H locs w => ?_)
        refine lv_goto (tgt := 514) hx hb (dq da_X12_writeControl 99 rfl) (by decide) ?_
        exact xret_v E hr hlk w (by decide) h (dq da_X12_writeControl 164 rfl)
      · have h := ie c3 h
        by_cases c4 : x1 = (262 : Int32)
        · have h := it c4 h
          refine lv_lookup (off := 387) (tgt := 388) hx hb (dq da_X12_writeControl 1 rfl) (by decide +kernel) (by rw [c4]; decide +kernel) (by decide) ?_
          refine lv_aload_n hx hb (dq da_X12_writeControl 100 rfl) rfl (lv_at hl 0 rfl) ?_
          refine lv_lload_n hx hb (dq da_X12_writeControl 101 rfl) rfl (lv_at hl 2 rfl) ?_
          refine lv_ldc2 hx hb hown (hts _ w_1393) (dq da_X12_writeControl 102 rfl) ?_
          refine lv_land hx hb (dq da_X12_writeControl 103 rfl) ?_
          refine pt_wM_0_counters E w w_1127 (dq da_X12_writeControl 104 rfl) (fun H locs w => ?_)
          refine lv_goto (tgt := 514) hx hb (dq da_X12_writeControl 105 rfl) (by decide) ?_
          exact xret_v E hr hlk w (by decide) h (dq da_X12_writeControl 164 rfl)
        · have h := ie c4 h
          by_cases c5 : x1 = (320 : Int32)
          · have h := it c5 h
            refine lv_lookup (off := 399) (tgt := 400) hx hb (dq da_X12_writeControl 1 rfl) (by decide +kernel) (by rw [c5]; decide +kernel) (by decide) ?_
            refine lv_aload_n hx hb (dq da_X12_writeControl 106 rfl) rfl (lv_at hl 0 rfl) ?_
            refine lv_lload_n hx hb (dq da_X12_writeControl 107 rfl) rfl (lv_at hl 2 rfl) ?_
            refine pt_wM_0_scratch E w w_1128 (dq da_X12_writeControl 108 rfl) (fun H locs w => ?_)
            refine lv_goto (tgt := 514) hx hb (dq da_X12_writeControl 109 rfl) (by decide) ?_
            exact xret_v E hr hlk w (by decide) h (dq da_X12_writeControl 164 rfl)
          · have h := ie c5 h
            by_cases c6 : x1 = (321 : Int32)
            · have h := it c6 h
              refine lv_lookup (off := 407) (tgt := 408) hx hb (dq da_X12_writeControl 1 rfl) (by decide +kernel) (by rw [c6]; decide +kernel) (by decide) ?_
              refine lv_aload_n hx hb (dq da_X12_writeControl 110 rfl) rfl (lv_at hl 0 rfl) ?_
              refine lv_lload_n hx hb (dq da_X12_writeControl 111 rfl) rfl (lv_at hl 2 rfl) ?_
              refine lv_ldc2 hx hb hown (hts _ w_1330) (dq da_X12_writeControl 112 rfl) ?_
              refine lv_land hx hb (dq da_X12_writeControl 113 rfl) ?_
              refine pt_wM_0_epc E w w_1129 (dq da_X12_writeControl 114 rfl) (fun H locs w => ?_)
              refine lv_goto (tgt := 514) hx hb (dq da_X12_writeControl 115 rfl) (by decide) ?_
              exact xret_v E hr hlk w (by decide) h (dq da_X12_writeControl 164 rfl)
            · have h := ie c6 h
              by_cases c7 : x1 = (322 : Int32)
              · have h := it c7 h
                refine lv_lookup (off := 419) (tgt := 420) hx hb (dq da_X12_writeControl 1 rfl) (by decide +kernel) (by rw [c7]; decide +kernel) (by decide) ?_
                refine lv_aload_n hx hb (dq da_X12_writeControl 116 rfl) rfl (lv_at hl 0 rfl) ?_
                refine lv_lload_n hx hb (dq da_X12_writeControl 117 rfl) rfl (lv_at hl 2 rfl) ?_
                refine pt_wM_0_cause E w w_1130 (dq da_X12_writeControl 118 rfl) (fun H locs w => ?_)
                refine lv_goto (tgt := 514) hx hb (dq da_X12_writeControl 119 rfl) (by decide) ?_
                exact xret_v E hr hlk w (by decide) h (dq da_X12_writeControl 164 rfl)
              · have h := ie c7 h
                by_cases c8 : x1 = (323 : Int32)
                · have h := it c8 h
                  refine lv_lookup (off := 427) (tgt := 428) hx hb (dq da_X12_writeControl 1 rfl) (by decide +kernel) (by rw [c8]; decide +kernel) (by decide) ?_
                  refine lv_aload_n hx hb (dq da_X12_writeControl 120 rfl) rfl (lv_at hl 0 rfl) ?_
                  refine lv_lload_n hx hb (dq da_X12_writeControl 121 rfl) rfl (lv_at hl 2 rfl) ?_
                  refine pt_wM_0_trapValue E w w_1131 (dq da_X12_writeControl 122 rfl) (fun H locs w => ?_)
                  refine lv_goto (tgt := 514) hx hb (dq da_X12_writeControl 123 rfl) (by decide) ?_
                  exact xret_v E hr hlk w (by decide) h (dq da_X12_writeControl 164 rfl)
                · have h := ie c8 h
                  by_cases c9 : x1 = (324 : Int32)
                  · have h := it c9 h
                    refine lv_lookup (off := 435) (tgt := 436) hx hb (dq da_X12_writeControl 1 rfl) (by decide +kernel) (by rw [c9]; decide +kernel) (by decide) ?_
                    refine lv_aload_n hx hb (dq da_X12_writeControl 124 rfl) rfl (lv_at hl 0 rfl) ?_
                    refine lv_aload_n hx hb (dq da_X12_writeControl 125 rfl) rfl (lv_at hl 0 rfl) ?_
                    refine gt_wM_0_waiting E w w_1123 (dq da_X12_writeControl 126 rfl) ?_
                    refine lv_ldc2 hx hb hown (hts _ w_1269) (dq da_X12_writeControl 127 rfl) ?_
                    refine lv_aload_n hx hb (dq da_X12_writeControl 128 rfl) rfl (lv_at hl 0 rfl) ?_
                    refine gt_wM_0_interruptsDown E w w_1115 (dq da_X12_writeControl 129 rfl) ?_
                    refine lv_land hx hb (dq da_X12_writeControl 130 rfl) ?_
                    refine lv_ldc2 hx hb hown (hts _ w_1086) (dq da_X12_writeControl 131 rfl) ?_
                    refine lv_lxor hx hb (dq da_X12_writeControl 132 rfl) ?_
                    refine lv_land hx hb (dq da_X12_writeControl 133 rfl) ?_
                    refine lv_lload_n hx hb (dq da_X12_writeControl 134 rfl) rfl (lv_at hl 2 rfl) ?_
                    refine lv_ldc2 hx hb hown (hts _ w_1269) (dq da_X12_writeControl 135 rfl) ?_
                    refine lv_land hx hb (dq da_X12_writeControl 136 rfl) ?_
                    refine lv_aload_n hx hb (dq da_X12_writeControl 137 rfl) rfl (lv_at hl 0 rfl) ?_
                    refine gt_wM_0_interruptsDown E w w_1115 (dq da_X12_writeControl 138 rfl) ?_
                    refine lv_land hx hb (dq da_X12_writeControl 139 rfl) ?_
                    refine lv_lor hx hb (dq da_X12_writeControl 140 rfl) ?_
                    refine pt_wM_0_waiting E w w_1123 (dq da_X12_writeControl 141 rfl) (fun H locs w => ?_)
                    refine lv_goto (tgt := 514) hx hb (dq da_X12_writeControl 142 rfl) (by decide) ?_
                    exact xret_v E hr hlk w (by decide) h (dq da_X12_writeControl 164 rfl)
                  · have h := ie c9 h
                    by_cases c10 : x1 = (384 : Int32)
                    · have h := it c10 h
                      refine lv_lookup (off := 470) (tgt := 471) hx hb (dq da_X12_writeControl 1 rfl) (by decide +kernel) (by rw [c10]; decide +kernel) (by decide) ?_
                      refine lv_aload_n hx hb (dq da_X12_writeControl 143 rfl) rfl (lv_at hl 0 rfl) ?_
                      refine lv_lload_n hx hb (dq da_X12_writeControl 144 rfl) rfl (lv_at hl 2 rfl) ?_
                      refine lv_bipush (v := 63) hx hb (dq da_X12_writeControl 145 rfl) rfl ?_
                      refine lv_bipush (v := 60) hx hb (dq da_X12_writeControl 146 rfl) rfl ?_
                      refine callP E (c_X12_cut l _ _ _ ) w_1384 w_1385 w_10 w_1386 hd_X12_cut rfl hl.1 rfl (Nat.le_of_ble_eq_true rfl) ⟨Nat.le_of_ble_eq_true rfl, Nat.le_of_ble_eq_true rfl⟩ (by decide) (dq da_X12_writeControl 147 rfl) ?_
                      refine lv_lconst (v := 0) hx hb (dq da_X12_writeControl 148 rfl) rfl ?_
                      refine lc_eq (tgt := 500) hx hb (dq da_X12_writeControl 149 rfl) (dq da_X12_writeControl 150 rfl) (by decide) (fun c11 => ?_) (fun c11 => ?_)
                      · have h := it c11 h
                        exact b_X12_writeControl_b500 E hr hlk h (lv_sub hl [2] rfl) w
                      · have h := ie c11 h
                        refine lv_lload_n hx hb (dq da_X12_writeControl 151 rfl) rfl (lv_at hl 2 rfl) ?_
                        refine lv_bipush (v := 63) hx hb (dq da_X12_writeControl 152 rfl) rfl ?_
                        refine lv_bipush (v := 60) hx hb (dq da_X12_writeControl 153 rfl) rfl ?_
                        refine callP E (c_X12_cut l _ _ _ ) w_1384 w_1385 w_10 w_1386 hd_X12_cut rfl hl.1 rfl (Nat.le_of_ble_eq_true rfl) ⟨Nat.le_of_ble_eq_true rfl, Nat.le_of_ble_eq_true rfl⟩ (by decide) (dq da_X12_writeControl 154 rfl) ?_
                        refine lv_ldc2 hx hb hown (hts _ w_1283) (dq da_X12_writeControl 155 rfl) ?_
                        refine lc_ne (tgt := 504) hx hb (dq da_X12_writeControl 156 rfl) (dq da_X12_writeControl 157 rfl) (by decide) (fun c12 => ?_) (fun c12 => ?_)
                        · have h := ie c12 h
                          refine lv_aload_n hx hb (dq da_X12_writeControl 160 rfl) rfl (lv_at hl 0 rfl) ?_
                          refine gt_wM_0_satp E w w_1132 (dq da_X12_writeControl 161 rfl) ?_
                          exact b_X12_writeControl_b508 E hr hlk h (lv_sub hl [] rfl) w
                        · have h := it c12 h
                          exact b_X12_writeControl_b500 E hr hlk h (lv_sub hl [2] rfl) w
                    · have h := ie c10 h
                      by_cases c13 : x1 = (768 : Int32)
                      · have h := it c13 h
                        refine lv_lookup (off := 195) (tgt := 196) hx hb (dq da_X12_writeControl 1 rfl) (by decide +kernel) (by rw [c13]; decide +kernel) (by decide) ?_
                        refine lv_aload_n hx hb (dq da_X12_writeControl 2 rfl) rfl (lv_at hl 0 rfl) ?_
                        refine lv_lload_n hx hb (dq da_X12_writeControl 3 rfl) rfl (lv_at hl 2 rfl) ?_
                        refine cV0 E (c_X12_writeStatus l D cy ad _ _ ) w_1379 w_1381 w_p53 w_10 w_1382 rfl hd_X12_writeStatus rfl hl.1 rfl (Nat.le_of_ble_eq_true rfl) ⟨Nat.le_of_ble_eq_true rfl, Nat.le_of_ble_eq_true rfl⟩ (by decide) w (rc_wM_0 w) (dq da_X12_writeControl 4 rfl) (fun H locs rr w => ?_)
                        refine lv_goto (tgt := 514) hx hb (dq da_X12_writeControl 5 rfl) (by decide) ?_
                        exact xret_v E hr hlk w (by decide) h (dq da_X12_writeControl 164 rfl)
                      · have h := ie c13 h
                        by_cases c14 : x1 = (770 : Int32)
                        · have h := it c14 h
                          refine lv_lookup (off := 203) (tgt := 204) hx hb (dq da_X12_writeControl 1 rfl) (by decide +kernel) (by rw [c14]; decide +kernel) (by decide) ?_
                          refine lv_aload_n hx hb (dq da_X12_writeControl 6 rfl) rfl (lv_at hl 0 rfl) ?_
                          refine lv_lload_n hx hb (dq da_X12_writeControl 7 rfl) rfl (lv_at hl 2 rfl) ?_
                          refine lv_ldc2 hx hb hown (hts _ w_1389) (dq da_X12_writeControl 8 rfl) ?_
                          refine lv_land hx hb (dq da_X12_writeControl 9 rfl) ?_
                          refine pt_wM_0_exceptions E w w_1114 (dq da_X12_writeControl 10 rfl) (fun H locs w => ?_)
                          refine lv_goto (tgt := 514) hx hb (dq da_X12_writeControl 11 rfl) (by decide) ?_
                          exact xret_v E hr hlk w (by decide) h (dq da_X12_writeControl 164 rfl)
                        · have h := ie c14 h
                          by_cases c15 : x1 = (771 : Int32)
                          · have h := it c15 h
                            refine lv_lookup (off := 215) (tgt := 216) hx hb (dq da_X12_writeControl 1 rfl) (by decide +kernel) (by rw [c15]; decide +kernel) (by decide) ?_
                            refine lv_aload_n hx hb (dq da_X12_writeControl 12 rfl) rfl (lv_at hl 0 rfl) ?_
                            refine lv_lload_n hx hb (dq da_X12_writeControl 13 rfl) rfl (lv_at hl 2 rfl) ?_
                            refine lv_ldc2 hx hb hown (hts _ w_1390) (dq da_X12_writeControl 14 rfl) ?_
                            refine lv_land hx hb (dq da_X12_writeControl 15 rfl) ?_
                            refine pt_wM_0_interruptsDown E w w_1115 (dq da_X12_writeControl 16 rfl) (fun H locs w => ?_)
                            refine lv_goto (tgt := 514) hx hb (dq da_X12_writeControl 17 rfl) (by decide) ?_
                            exact xret_v E hr hlk w (by decide) h (dq da_X12_writeControl 164 rfl)
                          · have h := ie c15 h
                            by_cases c16 : x1 = (772 : Int32)
                            · have h := it c16 h
                              refine lv_lookup (off := 227) (tgt := 228) hx hb (dq da_X12_writeControl 1 rfl) (by decide +kernel) (by rw [c16]; decide +kernel) (by decide) ?_
                              refine lv_aload_n hx hb (dq da_X12_writeControl 18 rfl) rfl (lv_at hl 0 rfl) ?_
                              refine lv_lload_n hx hb (dq da_X12_writeControl 19 rfl) rfl (lv_at hl 2 rfl) ?_
                              refine lv_ldc2 hx hb hown (hts _ w_1391) (dq da_X12_writeControl 20 rfl) ?_
                              refine lv_land hx hb (dq da_X12_writeControl 21 rfl) ?_
                              refine pt_wM_0_interruptsOn E w w_1116 (dq da_X12_writeControl 22 rfl) (fun H locs w => ?_)
                              refine lv_goto (tgt := 514) hx hb (dq da_X12_writeControl 23 rfl) (by decide) ?_
                              exact xret_v E hr hlk w (by decide) h (dq da_X12_writeControl 164 rfl)
                            · have h := ie c16 h
                              by_cases c17 : x1 = (773 : Int32)
                              · have h := it c17 h
                                refine lv_lookup (off := 239) (tgt := 240) hx hb (dq da_X12_writeControl 1 rfl) (by decide +kernel) (by rw [c17]; decide +kernel) (by decide) ?_
                                refine lv_aload_n hx hb (dq da_X12_writeControl 24 rfl) rfl (lv_at hl 0 rfl) ?_
                                refine lv_lload_n hx hb (dq da_X12_writeControl 25 rfl) rfl (lv_at hl 2 rfl) ?_
                                refine lv_ldc2 hx hb hown (hts _ w_1392) (dq da_X12_writeControl 26 rfl) ?_
                                refine lv_land hx hb (dq da_X12_writeControl 27 rfl) ?_
                                refine pt_wM_0_machineVector E w w_1117 (dq da_X12_writeControl 28 rfl) (fun H locs w => ?_)
                                refine lv_goto (tgt := 514) hx hb (dq da_X12_writeControl 29 rfl) (by decide) ?_
                                exact xret_v E hr hlk w (by decide) h (dq da_X12_writeControl 164 rfl)
                              · have h := ie c17 h
                                by_cases c18 : x1 = (774 : Int32)
                                · have h := it c18 h
                                  refine lv_lookup (off := 251) (tgt := 252) hx hb (dq da_X12_writeControl 1 rfl) (by decide +kernel) (by rw [c18]; decide +kernel) (by decide) ?_
                                  refine lv_aload_n hx hb (dq da_X12_writeControl 30 rfl) rfl (lv_at hl 0 rfl) ?_
                                  refine lv_lload_n hx hb (dq da_X12_writeControl 31 rfl) rfl (lv_at hl 2 rfl) ?_
                                  refine lv_ldc2 hx hb hown (hts _ w_1393) (dq da_X12_writeControl 32 rfl) ?_
                                  refine lv_land hx hb (dq da_X12_writeControl 33 rfl) ?_
                                  refine pt_wM_0_machineCounters E w w_1118 (dq da_X12_writeControl 34 rfl) (fun H locs w => ?_)
                                  refine lv_goto (tgt := 514) hx hb (dq da_X12_writeControl 35 rfl) (by decide) ?_
                                  exact xret_v E hr hlk w (by decide) h (dq da_X12_writeControl 164 rfl)
                                · have h := ie c18 h
                                  by_cases c19 : x1 = (832 : Int32)
                                  · have h := it c19 h
                                    refine lv_lookup (off := 263) (tgt := 264) hx hb (dq da_X12_writeControl 1 rfl) (by decide +kernel) (by rw [c19]; decide +kernel) (by decide) ?_
                                    refine lv_aload_n hx hb (dq da_X12_writeControl 36 rfl) rfl (lv_at hl 0 rfl) ?_
                                    refine lv_lload_n hx hb (dq da_X12_writeControl 37 rfl) rfl (lv_at hl 2 rfl) ?_
                                    refine pt_wM_0_machineScratch E w w_1119 (dq da_X12_writeControl 38 rfl) (fun H locs w => ?_)
                                    refine lv_goto (tgt := 514) hx hb (dq da_X12_writeControl 39 rfl) (by decide) ?_
                                    exact xret_v E hr hlk w (by decide) h (dq da_X12_writeControl 164 rfl)
                                  · have h := ie c19 h
                                    by_cases c20 : x1 = (833 : Int32)
                                    · have h := it c20 h
                                      refine lv_lookup (off := 271) (tgt := 272) hx hb (dq da_X12_writeControl 1 rfl) (by decide +kernel) (by rw [c20]; decide +kernel) (by decide) ?_
                                      refine lv_aload_n hx hb (dq da_X12_writeControl 40 rfl) rfl (lv_at hl 0 rfl) ?_
                                      refine lv_lload_n hx hb (dq da_X12_writeControl 41 rfl) rfl (lv_at hl 2 rfl) ?_
                                      refine lv_ldc2 hx hb hown (hts _ w_1330) (dq da_X12_writeControl 42 rfl) ?_
                                      refine lv_land hx hb (dq da_X12_writeControl 43 rfl) ?_
                                      refine pt_wM_0_machineEpc E w w_1120 (dq da_X12_writeControl 44 rfl) (fun H locs w => ?_)
                                      refine lv_goto (tgt := 514) hx hb (dq da_X12_writeControl 45 rfl) (by decide) ?_
                                      exact xret_v E hr hlk w (by decide) h (dq da_X12_writeControl 164 rfl)
                                    · have h := ie c20 h
                                      by_cases c21 : x1 = (834 : Int32)
                                      · have h := it c21 h
                                        refine lv_lookup (off := 283) (tgt := 284) hx hb (dq da_X12_writeControl 1 rfl) (by decide +kernel) (by rw [c21]; decide +kernel) (by decide) ?_
                                        refine lv_aload_n hx hb (dq da_X12_writeControl 46 rfl) rfl (lv_at hl 0 rfl) ?_
                                        refine lv_lload_n hx hb (dq da_X12_writeControl 47 rfl) rfl (lv_at hl 2 rfl) ?_
                                        refine pt_wM_0_machineCause E w w_1121 (dq da_X12_writeControl 48 rfl) (fun H locs w => ?_)
                                        refine lv_goto (tgt := 514) hx hb (dq da_X12_writeControl 49 rfl) (by decide) ?_
                                        exact xret_v E hr hlk w (by decide) h (dq da_X12_writeControl 164 rfl)
                                      · have h := ie c21 h
                                        by_cases c22 : x1 = (835 : Int32)
                                        · have h := it c22 h
                                          refine lv_lookup (off := 291) (tgt := 292) hx hb (dq da_X12_writeControl 1 rfl) (by decide +kernel) (by rw [c22]; decide +kernel) (by decide) ?_
                                          refine lv_aload_n hx hb (dq da_X12_writeControl 50 rfl) rfl (lv_at hl 0 rfl) ?_
                                          refine lv_lload_n hx hb (dq da_X12_writeControl 51 rfl) rfl (lv_at hl 2 rfl) ?_
                                          refine pt_wM_0_machineValue E w w_1122 (dq da_X12_writeControl 52 rfl) (fun H locs w => ?_)
                                          refine lv_goto (tgt := 514) hx hb (dq da_X12_writeControl 53 rfl) (by decide) ?_
                                          exact xret_v E hr hlk w (by decide) h (dq da_X12_writeControl 164 rfl)
                                        · have h := ie c22 h
                                          by_cases c23 : x1 = (836 : Int32)
                                          · have h := it c23 h
                                            refine lv_lookup (off := 299) (tgt := 300) hx hb (dq da_X12_writeControl 1 rfl) (by decide +kernel) (by rw [c23]; decide +kernel) (by decide) ?_
                                            refine lv_aload_n hx hb (dq da_X12_writeControl 54 rfl) rfl (lv_at hl 0 rfl) ?_
                                            refine lv_lload_n hx hb (dq da_X12_writeControl 55 rfl) rfl (lv_at hl 2 rfl) ?_
                                            refine lv_ldc2 hx hb hown (hts _ w_1390) (dq da_X12_writeControl 56 rfl) ?_
                                            refine lv_land hx hb (dq da_X12_writeControl 57 rfl) ?_
                                            refine pt_wM_0_waiting E w w_1123 (dq da_X12_writeControl 58 rfl) (fun H locs w => ?_)
                                            refine lv_goto (tgt := 514) hx hb (dq da_X12_writeControl 59 rfl) (by decide) ?_
                                            exact xret_v E hr hlk w (by decide) h (dq da_X12_writeControl 164 rfl)
                                          · have h := ie c23 h
                                            by_cases c24 : x1 = (2816 : Int32)
                                            · have h := it c24 h
                                              refine lv_lookup (off := 311) (tgt := 312) hx hb (dq da_X12_writeControl 1 rfl) (by decide +kernel) (by rw [c24]; decide +kernel) (by decide) ?_
                                              refine lv_aload_n hx hb (dq da_X12_writeControl 60 rfl) rfl (lv_at hl 0 rfl) ?_
                                              refine lv_lload_n hx hb (dq da_X12_writeControl 61 rfl) rfl (lv_at hl 2 rfl) ?_
                                              refine pt_wM_0_cycle E w w_1124 (dq da_X12_writeControl 62 rfl) (fun H locs w => ?_)
                                              refine lv_goto (tgt := 514) hx hb (dq da_X12_writeControl 63 rfl) (by decide) ?_
                                              exact xret_v E hr hlk w (by decide) h (dq da_X12_writeControl 164 rfl)
                                            · have h := ie c24 h
                                              by_cases c25 : x1 = (2818 : Int32)
                                              · have h := it c25 h
                                                refine lv_lookup (off := 319) (tgt := 320) hx hb (dq da_X12_writeControl 1 rfl) (by decide +kernel) (by rw [c25]; decide +kernel) (by decide) ?_
                                                refine lv_aload_n hx hb (dq da_X12_writeControl 64 rfl) rfl (lv_at hl 0 rfl) ?_
                                                refine lv_lload_n hx hb (dq da_X12_writeControl 65 rfl) rfl (lv_at hl 2 rfl) ?_
                                                refine pt_wM_0_retired E w w_1125 (dq da_X12_writeControl 66 rfl) (fun H locs w => ?_)
                                                refine lv_goto (tgt := 514) hx hb (dq da_X12_writeControl 67 rfl) (by decide) ?_
                                                exact xret_v E hr hlk w (by decide) h (dq da_X12_writeControl 164 rfl)
                                              · have h := ie c25 h
                                                refine lv_lookup (off := 513) (tgt := 514) hx hb (dq da_X12_writeControl 1 rfl) (by decide +kernel) (by show Op.lookupswitch.offset [(256, 327), (260, 348), (261, 375), (262, 387), (320, 399), (321, 407), (322, 419), (323, 427), (324, 435), (384, 470), (768, 195), (770, 203), (771, 215), (772, 227), (773, 239), (774, 251), (832, 263), (833, 271), (834, 283), (835, 291), (836, 299), (2816, 311), (2818, 319)] (513) _ = _; rw [lv_osw (k := (256 : Int32)) (a := 256) c1 rfl, lv_osw (k := (260 : Int32)) (a := 260) c2 rfl, lv_osw (k := (261 : Int32)) (a := 261) c3 rfl, lv_osw (k := (262 : Int32)) (a := 262) c4 rfl, lv_osw (k := (320 : Int32)) (a := 320) c5 rfl, lv_osw (k := (321 : Int32)) (a := 321) c6 rfl, lv_osw (k := (322 : Int32)) (a := 322) c7 rfl, lv_osw (k := (323 : Int32)) (a := 323) c8 rfl, lv_osw (k := (324 : Int32)) (a := 324) c9 rfl, lv_osw (k := (384 : Int32)) (a := 384) c10 rfl, lv_osw (k := (768 : Int32)) (a := 768) c13 rfl, lv_osw (k := (770 : Int32)) (a := 770) c14 rfl, lv_osw (k := (771 : Int32)) (a := 771) c15 rfl, lv_osw (k := (772 : Int32)) (a := 772) c16 rfl, lv_osw (k := (773 : Int32)) (a := 773) c17 rfl, lv_osw (k := (774 : Int32)) (a := 774) c18 rfl, lv_osw (k := (832 : Int32)) (a := 832) c19 rfl, lv_osw (k := (833 : Int32)) (a := 833) c20 rfl, lv_osw (k := (834 : Int32)) (a := 834) c21 rfl, lv_osw (k := (835 : Int32)) (a := 835) c22 rfl, lv_osw (k := (836 : Int32)) (a := 836) c23 rfl, lv_osw (k := (2816 : Int32)) (a := 2816) c24 rfl, lv_osw (k := (2818 : Int32)) (a := 2818) c25 rfl]; rfl) (by decide) ?_
                                                exact xret_v E hr hlk w (by decide) h (dq da_X12_writeControl 164 rfl)
def dl_X12_mayControl : List (Nat × Instr × Nat) := [(0, .iload_n 1, 1), (1, .invokestatic 335, 3), (4, .ifCond .eq 28, 3), (7, .iload_n 1, 1), (8, .bipush 8, 2), (10, .ishr, 1), (11, .iconst 3, 1), (12, .iand, 1), (13, .aload_n 0, 1), (14, .getfield 24, 3), (17, .if_icmp .gt 15, 3), (20, .iload_n 2, 1), (21, .ifCond .eq 13, 3), (24, .iload_n 1, 1), (25, .bipush 10, 2), (27, .ishr, 1), (28, .iconst 3, 1), (29, .if_icmp .ne 5, 3), (32, .iconst 0, 1), (33, .ireturn, 1), (34, .iload_n 1, 1), (35, .sipush 384, 3), (38, .if_icmp .ne 22, 3), (41, .aload_n 0, 1), (42, .getfield 24, 3), (45, .iconst 1, 1), (46, .if_icmp .ne 14, 3), (49, .aload_n 0, 1), (50, .bipush 20, 2), (52, .invokevirtual 192, 3), (55, .ifCond .eq 5, 3), (58, .iconst 0, 1), (59, .ireturn, 1), (60, .iload_n 1, 1), (61, .i2l, 1), (62, .ldc2_w 244, 3), (65, .ldc2_w 246, 3), (68, .invokestatic 87, 3), (71, .ifCond .eq 11, 3), (74, .aload_n 0, 1), (75, .getfield 24, 3), (78, .iconst 3, 1), (79, .if_icmp .ne 5, 3), (82, .iconst 1, 1), (83, .ireturn, 1), (84, .aload_n 0, 1), (85, .getfield 264, 3), (88, .iload_n 1, 1), (89, .sipush 3072, 3), (92, .isub, 1), (93, .lshr, 1), (94, .lconst 1, 1), (95, .land, 1), (96, .lconst 1, 1), (97, .lcmp, 1), (98, .ifCond .ne 7, 3), (101, .iconst 1, 1), (102, .goto 4, 3), (105, .iconst 0, 1), (106, .istore_n 3, 1), (107, .iload_n 3, 1), (108, .ifCond .eq 32, 3), (111, .aload_n 0, 1), (112, .getfield 24, 3), (115, .iconst 1, 1), (116, .if_icmp .eq 20, 3), (119, .aload_n 0, 1), (120, .getfield 296, 3), (123, .iload_n 1, 1), (124, .sipush 3072, 3), (127, .isub, 1), (128, .lshr, 1), (129, .lconst 1, 1), (130, .land, 1), (131, .lconst 1, 1), (132, .lcmp, 1), (133, .ifCond .ne 7, 3), (136, .iconst 1, 1), (137, .goto 4, 3), (140, .iconst 0, 1), (141, .ireturn, 1)]
theorem da_X12_mayControl : dkL cX12_mayControl dl_X12_mayControl = true := by decide +kernel
def f_X12_mayControl_b32 (u : St) : Option (Int32) := some (0 : Int32)
set_option maxRecDepth 100000 in
set_option maxHeartbeats 4000000 in
theorem b_X12_mayControl_b32 {p : Program} {l : Launch} {e : Env} {s : State} {m : MethodId} {args : Array Value} {below : List Frame} {meth : Method} {c : Code} {D : va_G} {cy : ClassId × ClassId × ClassId} {ad : Nat → Nat} {A : Nat → Prop} (E : CallFix p m c cX12_mayControl 4 s args gw RX12) (hr : meth.sig.returnType = some .boolean) (hlk : meth.locks = false) {u : St} {r : Int32} (h : f_X12_mayControl_b32 u = some r) {ls : Array Slot} {H : Heap} {locs : List Loc} {rr : Nat → Nat} (hl : lv_has ls 4 []) (w : WX (wM cy ad) D cy rr u A s H locs) : Wx (wM cy ad) D p l e 2 45 0 s m args below meth c A u (some (.int r)) H locs 0 32 ls [] := by
  have hx := E.1
  have hb := E.2.1
  have hown := E.2.2.2.1
  have hts := E.2.2.2.2
  refine lv_iconst (v := 0) hx hb (dq da_X12_mayControl 18 rfl) rfl ?_
  exact xret_z E hr hlk rfl w (by decide) (os h) rfl (dq da_X12_mayControl 19 rfl)
def f_X12_mayControl_b82 (u : St) : Option (Int32) := some (1 : Int32)
set_option maxRecDepth 100000 in
set_option maxHeartbeats 4000000 in
theorem b_X12_mayControl_b82 {p : Program} {l : Launch} {e : Env} {s : State} {m : MethodId} {args : Array Value} {below : List Frame} {meth : Method} {c : Code} {D : va_G} {cy : ClassId × ClassId × ClassId} {ad : Nat → Nat} {A : Nat → Prop} (E : CallFix p m c cX12_mayControl 4 s args gw RX12) (hr : meth.sig.returnType = some .boolean) (hlk : meth.locks = false) {u : St} {r : Int32} (h : f_X12_mayControl_b82 u = some r) {ls : Array Slot} {H : Heap} {locs : List Loc} {rr : Nat → Nat} (hl : lv_has ls 4 []) (w : WX (wM cy ad) D cy rr u A s H locs) : Wx (wM cy ad) D p l e 2 45 0 s m args below meth c A u (some (.int r)) H locs 0 82 ls [] := by
  have hx := E.1
  have hb := E.2.1
  have hown := E.2.2.2.1
  have hts := E.2.2.2.2
  refine lv_iconst (v := 1) hx hb (dq da_X12_mayControl 43 rfl) rfl ?_
  exact xret_z E hr hlk rfl w (by decide) (os h) rfl (dq da_X12_mayControl 44 rfl)
def f_X12_mayControl_b140 (u : St) : Option (Int32) := some (0 : Int32)
set_option maxRecDepth 100000 in
set_option maxHeartbeats 4000000 in
theorem b_X12_mayControl_b140 {p : Program} {l : Launch} {e : Env} {s : State} {m : MethodId} {args : Array Value} {below : List Frame} {meth : Method} {c : Code} {D : va_G} {cy : ClassId × ClassId × ClassId} {ad : Nat → Nat} {A : Nat → Prop} (E : CallFix p m c cX12_mayControl 4 s args gw RX12) (hr : meth.sig.returnType = some .boolean) (hlk : meth.locks = false) {u : St} {r : Int32} (h : f_X12_mayControl_b140 u = some r) {ls : Array Slot} {H : Heap} {locs : List Loc} {rr : Nat → Nat} (hl : lv_has ls 4 []) (w : WX (wM cy ad) D cy rr u A s H locs) : Wx (wM cy ad) D p l e 2 45 0 s m args below meth c A u (some (.int r)) H locs 0 140 ls [] := by
  have hx := E.1
  have hb := E.2.1
  have hown := E.2.2.2.1
  have hts := E.2.2.2.2
  refine lv_iconst (v := 0) hx hb (dq da_X12_mayControl 79 rfl) rfl ?_
  exact xret_z E hr hlk rfl w (by decide) (os h) rfl (dq da_X12_mayControl 80 rfl)
def f_X12_mayControl_b136 (u : St) : Option (Int32) := some (1 : Int32)
set_option maxRecDepth 100000 in
set_option maxHeartbeats 4000000 in
theorem b_X12_mayControl_b136 {p : Program} {l : Launch} {e : Env} {s : State} {m : MethodId} {args : Array Value} {below : List Frame} {meth : Method} {c : Code} {D : va_G} {cy : ClassId × ClassId × ClassId} {ad : Nat → Nat} {A : Nat → Prop} (E : CallFix p m c cX12_mayControl 4 s args gw RX12) (hr : meth.sig.returnType = some .boolean) (hlk : meth.locks = false) {u : St} {r : Int32} (h : f_X12_mayControl_b136 u = some r) {ls : Array Slot} {H : Heap} {locs : List Loc} {rr : Nat → Nat} (hl : lv_has ls 4 []) (w : WX (wM cy ad) D cy rr u A s H locs) : Wx (wM cy ad) D p l e 2 45 0 s m args below meth c A u (some (.int r)) H locs 0 136 ls [] := by
  have hx := E.1
  have hb := E.2.1
  have hown := E.2.2.2.1
  have hts := E.2.2.2.2
  refine lv_iconst (v := 1) hx hb (dq da_X12_mayControl 77 rfl) rfl ?_
  refine lv_goto (tgt := 141) hx hb (dq da_X12_mayControl 78 rfl) (by decide) ?_
  exact xret_z E hr hlk rfl w (by decide) (os h) rfl (dq da_X12_mayControl 80 rfl)
def f_X12_mayControl_b106 (x1 : Int32) (s0 : Int32) (u : St) : Option (Int32) := if s0 = (0 : Int32) then (f_X12_mayControl_b140 u) else (if (gI u 2) = (1 : Int32) then (f_X12_mayControl_b136 u) else (if ((j_lshr (gL u 18) (x1 - (3072 : Int32))) &&& (1 : Int64)) = (1 : Int64) then (f_X12_mayControl_b136 u) else (f_X12_mayControl_b140 u)))
set_option maxRecDepth 100000 in
set_option maxHeartbeats 4000000 in
theorem b_X12_mayControl_b106 {p : Program} {l : Launch} {e : Env} {s : State} {m : MethodId} {args : Array Value} {below : List Frame} {meth : Method} {c : Code} {D : va_G} {cy : ClassId × ClassId × ClassId} {ad : Nat → Nat} {A : Nat → Prop} (E : CallFix p m c cX12_mayControl 4 s args gw RX12) (hr : meth.sig.returnType = some .boolean) (hlk : meth.locks = false) {x1 : Int32} {s0 : Int32} {u : St} {r : Int32} (h : f_X12_mayControl_b106 x1 s0 u = some r) {ls : Array Slot} {H : Heap} {locs : List Loc} {rr : Nat → Nat} (hl : lv_has ls 4 [(0, .ref (ad 0)), (1, .int x1)]) (w : WX (wM cy ad) D cy rr u A s H locs) : Wx (wM cy ad) D p l e 2 45 0 s m args below meth c A u (some (.int r)) H locs 0 106 ls [.int s0] := by
  have hx := E.1
  have hb := E.2.1
  have hown := E.2.2.2.1
  have hts := E.2.2.2.2
  refine lv_istore_n (lv' := [(3, .int s0), (0, .ref (ad 0)), (1, .int x1)]) hx hb (dq da_X12_mayControl 59 rfl) rfl hl (by decide) rfl (fun ls hl => ?_)
  refine lv_iload_n hx hb (dq da_X12_mayControl 60 rfl) rfl (lv_at hl 0 rfl) ?_
  refine lv_if_eq (tgt := 140) hx hb (dq da_X12_mayControl 61 rfl) (by decide) (fun c10 => ?_) (fun c10 => ?_)
  · have h := it c10 h
    exact b_X12_mayControl_b140 E hr hlk h (lv_sub hl [] rfl) w
  · have h := ie c10 h
    refine lv_aload_n hx hb (dq da_X12_mayControl 62 rfl) rfl (lv_at hl 1 rfl) ?_
    refine gt_wM_0_privilege E w w_1093 (dq da_X12_mayControl 63 rfl) ?_
    refine lv_iconst (v := 1) hx hb (dq da_X12_mayControl 64 rfl) rfl ?_
    refine lv_icmp_eq (tgt := 136) hx hb (dq da_X12_mayControl 65 rfl) (by decide) (fun c11 => ?_) (fun c11 => ?_)
    · have h := it c11 h
      exact b_X12_mayControl_b136 E hr hlk h (lv_sub hl [] rfl) w
    · have h := ie c11 h
      refine lv_aload_n hx hb (dq da_X12_mayControl 66 rfl) rfl (lv_at hl 1 rfl) ?_
      refine gt_wM_0_counters E w w_1127 (dq da_X12_mayControl 67 rfl) ?_
      refine lv_iload_n hx hb (dq da_X12_mayControl 68 rfl) rfl (lv_at hl 2 rfl) ?_
      refine lv_sipush (v := 3072) hx hb (dq da_X12_mayControl 69 rfl) rfl ?_
      refine lv_isub hx hb (dq da_X12_mayControl 70 rfl) ?_
      refine lv_lshr (v := (j_lshr (gL u 18) (x1 - (3072 : Int32)))) hx hb (dq da_X12_mayControl 71 rfl) rfl ?_
      refine lv_lconst (v := 1) hx hb (dq da_X12_mayControl 72 rfl) rfl ?_
      refine lv_land hx hb (dq da_X12_mayControl 73 rfl) ?_
      refine lv_lconst (v := 1) hx hb (dq da_X12_mayControl 74 rfl) rfl ?_
      refine lc_ne (tgt := 140) hx hb (dq da_X12_mayControl 75 rfl) (dq da_X12_mayControl 76 rfl) (by decide) (fun c12 => ?_) (fun c12 => ?_)
      · have h := ie c12 h
        exact b_X12_mayControl_b140 E hr hlk h (lv_sub hl [] rfl) w
      · have h := it c12 h
        exact b_X12_mayControl_b136 E hr hlk h (lv_sub hl [] rfl) w
def f_X12_mayControl_b60 (x1 : Int32) (u : St) : Option (Int32) := if (f_X12_in x1.toInt64 (3072 : Int64) (3074 : Int64)) = (0 : Int32) then (f_X12_mayControl_b82 u) else (if (gI u 2) = (3 : Int32) then (f_X12_mayControl_b82 u) else (if ((j_lshr (gL u 9) (x1 - (3072 : Int32))) &&& (1 : Int64)) = (1 : Int64) then (f_X12_mayControl_b106 x1 (1 : Int32) u) else (f_X12_mayControl_b106 x1 (0 : Int32) u)))
set_option maxRecDepth 100000 in
set_option maxHeartbeats 4000000 in
theorem b_X12_mayControl_b60 {p : Program} {l : Launch} {e : Env} {s : State} {m : MethodId} {args : Array Value} {below : List Frame} {meth : Method} {c : Code} {D : va_G} {cy : ClassId × ClassId × ClassId} {ad : Nat → Nat} {A : Nat → Prop} (E : CallFix p m c cX12_mayControl 4 s args gw RX12) (hr : meth.sig.returnType = some .boolean) (hlk : meth.locks = false) {x1 : Int32} {u : St} {r : Int32} (h : f_X12_mayControl_b60 x1 u = some r) {ls : Array Slot} {H : Heap} {locs : List Loc} {rr : Nat → Nat} (hl : lv_has ls 4 [(0, .ref (ad 0)), (1, .int x1)]) (w : WX (wM cy ad) D cy rr u A s H locs) : Wx (wM cy ad) D p l e 2 45 0 s m args below meth c A u (some (.int r)) H locs 0 60 ls [] := by
  have hx := E.1
  have hb := E.2.1
  have hown := E.2.2.2.1
  have hts := E.2.2.2.2
  refine lv_iload_n hx hb (dq da_X12_mayControl 33 rfl) rfl (lv_at hl 1 rfl) ?_
  refine lv_i2l (v := x1.toInt64) hx hb (dq da_X12_mayControl 34 rfl) rfl ?_
  refine lv_ldc2 hx hb hown (hts _ w_1346) (dq da_X12_mayControl 35 rfl) ?_
  refine lv_ldc2 hx hb hown (hts _ w_1347) (dq da_X12_mayControl 36 rfl) ?_
  refine callP E (c_X12_in l _ _ _ ) w_1275 w_1276 w_10 w_1277 hd_X12_in rfl hl.1 rfl (Nat.le_of_ble_eq_true rfl) ⟨Nat.le_of_ble_eq_true rfl, Nat.le_of_ble_eq_true rfl⟩ (by decide) (dq da_X12_mayControl 37 rfl) ?_
  refine lv_if_eq (tgt := 82) hx hb (dq da_X12_mayControl 38 rfl) (by decide) (fun c7 => ?_) (fun c7 => ?_)
  · have h := it c7 h
    exact b_X12_mayControl_b82 E hr hlk h (lv_sub hl [] rfl) w
  · have h := ie c7 h
    refine lv_aload_n hx hb (dq da_X12_mayControl 39 rfl) rfl (lv_at hl 0 rfl) ?_
    refine gt_wM_0_privilege E w w_1093 (dq da_X12_mayControl 40 rfl) ?_
    refine lv_iconst (v := 3) hx hb (dq da_X12_mayControl 41 rfl) rfl ?_
    refine lv_icmp_ne (tgt := 84) hx hb (dq da_X12_mayControl 42 rfl) (by decide) (fun c8 => ?_) (fun c8 => ?_)
    · have h := ie c8 h
      refine lv_aload_n hx hb (dq da_X12_mayControl 45 rfl) rfl (lv_at hl 0 rfl) ?_
      refine gt_wM_0_machineCounters E w w_1118 (dq da_X12_mayControl 46 rfl) ?_
      refine lv_iload_n hx hb (dq da_X12_mayControl 47 rfl) rfl (lv_at hl 1 rfl) ?_
      refine lv_sipush (v := 3072) hx hb (dq da_X12_mayControl 48 rfl) rfl ?_
      refine lv_isub hx hb (dq da_X12_mayControl 49 rfl) ?_
      refine lv_lshr (v := (j_lshr (gL u 9) (x1 - (3072 : Int32)))) hx hb (dq da_X12_mayControl 50 rfl) rfl ?_
      refine lv_lconst (v := 1) hx hb (dq da_X12_mayControl 51 rfl) rfl ?_
      refine lv_land hx hb (dq da_X12_mayControl 52 rfl) ?_
      refine lv_lconst (v := 1) hx hb (dq da_X12_mayControl 53 rfl) rfl ?_
      refine lc_ne (tgt := 105) hx hb (dq da_X12_mayControl 54 rfl) (dq da_X12_mayControl 55 rfl) (by decide) (fun c9 => ?_) (fun c9 => ?_)
      · have h := ie c9 h
        refine lv_iconst (v := 0) hx hb (dq da_X12_mayControl 58 rfl) rfl ?_
        exact b_X12_mayControl_b106 E hr hlk h (lv_sub hl [0, 1] rfl) w
      · have h := it c9 h
        refine lv_iconst (v := 1) hx hb (dq da_X12_mayControl 56 rfl) rfl ?_
        refine lv_goto (tgt := 106) hx hb (dq da_X12_mayControl 57 rfl) (by decide) ?_
        exact b_X12_mayControl_b106 E hr hlk h (lv_sub hl [0, 1] rfl) w
    · have h := it c8 h
      exact b_X12_mayControl_b82 E hr hlk h (lv_sub hl [] rfl) w
def f_X12_mayControl_b34 (x1 : Int32) (u : St) : Option (Int32) := if x1 = (384 : Int32) then (if (gI u 2) = (1 : Int32) then (if (f_X12_is (20 : Int32) u) = (0 : Int32) then (f_X12_mayControl_b60 x1 u) else (some (0 : Int32))) else (f_X12_mayControl_b60 x1 u)) else (f_X12_mayControl_b60 x1 u)
set_option maxRecDepth 100000 in
set_option maxHeartbeats 4000000 in
theorem b_X12_mayControl_b34 {p : Program} {l : Launch} {e : Env} {s : State} {m : MethodId} {args : Array Value} {below : List Frame} {meth : Method} {c : Code} {D : va_G} {cy : ClassId × ClassId × ClassId} {ad : Nat → Nat} {A : Nat → Prop} (E : CallFix p m c cX12_mayControl 4 s args gw RX12) (hr : meth.sig.returnType = some .boolean) (hlk : meth.locks = false) {x1 : Int32} {u : St} {r : Int32} (h : f_X12_mayControl_b34 x1 u = some r) {ls : Array Slot} {H : Heap} {locs : List Loc} {rr : Nat → Nat} (hl : lv_has ls 4 [(0, .ref (ad 0)), (1, .int x1)]) (w : WX (wM cy ad) D cy rr u A s H locs) : Wx (wM cy ad) D p l e 2 45 0 s m args below meth c A u (some (.int r)) H locs 0 34 ls [] := by
  have hx := E.1
  have hb := E.2.1
  have hown := E.2.2.2.1
  have hts := E.2.2.2.2
  refine lv_iload_n hx hb (dq da_X12_mayControl 20 rfl) rfl (lv_at hl 1 rfl) ?_
  refine lv_sipush (v := 384) hx hb (dq da_X12_mayControl 21 rfl) rfl ?_
  refine lv_icmp_ne (tgt := 60) hx hb (dq da_X12_mayControl 22 rfl) (by decide) (fun c6 => ?_) (fun c6 => ?_)
  · have h := ie c6 h
    exact b_X12_mayControl_b60 E hr hlk h (lv_sub hl [0, 1] rfl) w
  · have h := it c6 h
    refine lv_aload_n hx hb (dq da_X12_mayControl 23 rfl) rfl (lv_at hl 0 rfl) ?_
    refine gt_wM_0_privilege E w w_1093 (dq da_X12_mayControl 24 rfl) ?_
    refine lv_iconst (v := 1) hx hb (dq da_X12_mayControl 25 rfl) rfl ?_
    refine lv_icmp_ne (tgt := 60) hx hb (dq da_X12_mayControl 26 rfl) (by decide) (fun c13 => ?_) (fun c13 => ?_)
    · have h := ie c13 h
      exact b_X12_mayControl_b60 E hr hlk h (lv_sub hl [0, 1] rfl) w
    · have h := it c13 h
      refine lv_aload_n hx hb (dq da_X12_mayControl 27 rfl) rfl (lv_at hl 0 rfl) ?_
      refine lv_bipush (v := 20) hx hb (dq da_X12_mayControl 28 rfl) rfl ?_
      refine cV1 E (c_X12_is l D cy ad _ _ ) w_1414 w_1416 w_p56 w_10 w_1417 rfl hd_X12_is rfl hl.1 rfl (Nat.le_of_ble_eq_true rfl) ⟨Nat.le_of_ble_eq_true rfl, Nat.le_of_ble_eq_true rfl⟩ (by decide) w (rc_wM_0 w) (dq da_X12_mayControl 29 rfl) (fun H locs rr w => ?_)
      refine lv_if_eq (tgt := 60) hx hb (dq da_X12_mayControl 30 rfl) (by decide) (fun c14 => ?_) (fun c14 => ?_)
      · have h := it c14 h
        exact b_X12_mayControl_b60 E hr hlk h (lv_sub hl [0, 1] rfl) w
      · have h := ie c14 h
        refine lv_iconst (v := 0) hx hb (dq da_X12_mayControl 31 rfl) rfl ?_
        exact xret_z E hr hlk rfl w (by decide) (os h) rfl (dq da_X12_mayControl 32 rfl)
def f_X12_mayControl (x1 : Int32) (x2 : Int32) (u : St) : Option (Int32) := (f_X12_isControl x1).bind (fun y1 => if y1 = (0 : Int32) then (f_X12_mayControl_b32 u) else (if (gI u 2) < ((x1 >>> ((8 : Int32) &&& 31)) &&& (3 : Int32)) then (f_X12_mayControl_b32 u) else (if x2 = (0 : Int32) then (f_X12_mayControl_b34 x1 u) else (if (x1 >>> ((10 : Int32) &&& 31)) = (3 : Int32) then (f_X12_mayControl_b32 u) else (f_X12_mayControl_b34 x1 u)))))
set_option maxRecDepth 100000 in
set_option maxHeartbeats 4000000 in
theorem c_X12_mayControl (l : Launch) (D : va_G) (cy : ClassId × ClassId × ClassId) (ad : Nat → Nat) (x1 : Int32) (x2 : Int32) (u : St) {r : Int32} (h : f_X12_mayControl x1 x2 u = some r) : MX (wM cy ad) D cy l yX12_mayControl cX12_mayControl 4 (some .boolean) 2 45 0 [.ref (ad 0), .int x1, .int x2] u u (some (.int (r))) := by
  refine entX (by decide +kernel) (Nat.le_of_ble_eq_true rfl) ?_
  intro p e s m args below meth c ls rr A E hr hlk hl w
  have hl : lv_has ls 4 [(0, .ref (ad 0)), (1, .int x1), (2, .int x2)] := hl
  have hx := E.1
  have hb := E.2.1
  have hown := E.2.2.2.1
  have hts := E.2.2.2.2
  refine lv_iload_n hx hb (dq da_X12_mayControl 0 rfl) rfl (lv_at hl 1 rfl) ?_
  obtain ⟨y1, hy2, h⟩ := ob h
  refine callP E (c_X12_isControl l _ hy2) w_1343 w_1344 w_10 w_1345 hd_X12_isControl rfl hl.1 rfl (Nat.le_of_ble_eq_true rfl) ⟨Nat.le_of_ble_eq_true rfl, Nat.le_of_ble_eq_true rfl⟩ (by decide) (dq da_X12_mayControl 1 rfl) ?_
  refine lv_if_eq (tgt := 32) hx hb (dq da_X12_mayControl 2 rfl) (by decide) (fun c3 => ?_) (fun c3 => ?_)
  · have h := it c3 h
    exact b_X12_mayControl_b32 E hr hlk h (lv_sub hl [] rfl) w
  · have h := ie c3 h
    refine lv_iload_n hx hb (dq da_X12_mayControl 3 rfl) rfl (lv_at hl 1 rfl) ?_
    refine lv_bipush (v := 8) hx hb (dq da_X12_mayControl 4 rfl) rfl ?_
    refine lv_ishr hx hb (dq da_X12_mayControl 5 rfl) ?_
    refine lv_iconst (v := 3) hx hb (dq da_X12_mayControl 6 rfl) rfl ?_
    refine lv_iand hx hb (dq da_X12_mayControl 7 rfl) ?_
    refine lv_aload_n hx hb (dq da_X12_mayControl 8 rfl) rfl (lv_at hl 0 rfl) ?_
    refine gt_wM_0_privilege E w w_1093 (dq da_X12_mayControl 9 rfl) ?_
    refine lv_icmp_gt (tgt := 32) hx hb (dq da_X12_mayControl 10 rfl) (by decide) (fun c4 => ?_) (fun c4 => ?_)
    · have h := it c4 h
      exact b_X12_mayControl_b32 E hr hlk h (lv_sub hl [] rfl) w
    · have h := ie c4 h
      refine lv_iload_n hx hb (dq da_X12_mayControl 11 rfl) rfl (lv_at hl 2 rfl) ?_
      refine lv_if_eq (tgt := 34) hx hb (dq da_X12_mayControl 12 rfl) (by decide) (fun c5 => ?_) (fun c5 => ?_)
      · have h := it c5 h
        exact b_X12_mayControl_b34 E hr hlk h (lv_sub hl [0, 1] rfl) w
      · have h := ie c5 h
        refine lv_iload_n hx hb (dq da_X12_mayControl 13 rfl) rfl (lv_at hl 1 rfl) ?_
        refine lv_bipush (v := 10) hx hb (dq da_X12_mayControl 14 rfl) rfl ?_
        refine lv_ishr hx hb (dq da_X12_mayControl 15 rfl) ?_
        refine lv_iconst (v := 3) hx hb (dq da_X12_mayControl 16 rfl) rfl ?_
        refine lv_icmp_ne (tgt := 34) hx hb (dq da_X12_mayControl 17 rfl) (by decide) (fun c15 => ?_) (fun c15 => ?_)
        · have h := ie c15 h
          exact b_X12_mayControl_b34 E hr hlk h (lv_sub hl [0, 1] rfl) w
        · have h := it c15 h
          exact b_X12_mayControl_b32 E hr hlk h (lv_sub hl [] rfl) w
def dl_X12_trap : List (Nat × Instr × Nat) := [(0, .aload_n 0, 1), (1, .iconst 0, 1), (2, .putfield 170, 3), (5, .aload_n 0, 1), (6, .iload_n 1, 1), (7, .ifCond .eq 10, 3), (10, .bipush 64, 2), (12, .iload_n 2, 1), (13, .iadd, 1), (14, .goto 4, 3), (17, .iload_n 2, 1), (18, .putfield 53, 3), (21, .iload_n 1, 1), (22, .ifCond .eq 16, 3), (25, .aload_n 0, 1), (26, .dup, 1), (27, .getfield 338, 3), (30, .iconst 1, 1), (31, .iadd, 1), (32, .putfield 338, 3), (35, .goto 13, 3), (38, .aload_n 0, 1), (39, .dup, 1), (40, .getfield 341, 3), (43, .iconst 1, 1), (44, .iadd, 1), (45, .putfield 341, 3), (48, .iload_n 1, 1), (49, .ifCond .eq 10, 3), (52, .aload_n 0, 1), (53, .getfield 255, 3), (56, .goto 7, 3), (59, .aload_n 0, 1), (60, .getfield 252, 3), (63, .lstore 5, 2), (65, .iload_n 1, 1), (66, .ifCond .eq 12, 3), (69, .ldc2_w 65, 3), (72, .iload_n 2, 1), (73, .i2l, 1), (74, .ladd, 1), (75, .goto 5, 3), (78, .iload_n 2, 1), (79, .i2l, 1), (80, .lstore 7, 2), (82, .aload_n 0, 1), (83, .getfield 24, 3), (86, .iconst 3, 1), (87, .if_icmp .ge 116, 3), (90, .lload 5, 2), (92, .iload_n 2, 1), (93, .lshr, 1), (94, .lconst 1, 1), (95, .land, 1), (96, .lconst 1, 1), (97, .lcmp, 1), (98, .ifCond .ne 105, 3), (101, .aload_n 0, 1), (102, .aload_n 0, 1), (103, .getfield 20, 3), (106, .putfield 302, 3), (109, .aload_n 0, 1), (110, .lload 7, 2), (112, .putfield 305, 3), (115, .aload_n 0, 1), (116, .lload_n 3, 1), (117, .putfield 308, 3), (120, .aload_n 0, 1), (121, .iconst 5, 1), (122, .aload_n 0, 1), (123, .iconst 1, 1), (124, .invokevirtual 192, 3), (127, .invokevirtual 344, 3), (130, .aload_n 0, 1), (131, .iconst 1, 1), (132, .iconst 0, 1), (133, .invokevirtual 344, 3), (136, .aload_n 0, 1), (137, .bipush 8, 2), (139, .aload_n 0, 1), (140, .getfield 24, 3), (143, .iconst 1, 1), (144, .if_icmp .ne 7, 3), (147, .iconst 1, 1), (148, .goto 4, 3), (151, .iconst 0, 1), (152, .invokevirtual 344, 3), (155, .aload_n 0, 1), (156, .aload_n 0, 1), (157, .getfield 293, 3), (160, .ldc2_w 348, 3), (163, .land, 1), (164, .putfield 20, 3), (167, .iload_n 1, 1), (168, .ifCond .eq 29, 3), (171, .aload_n 0, 1), (172, .getfield 293, 3), (175, .lconst 1, 1), (176, .land, 1), (177, .lconst 1, 1), (178, .lcmp, 1), (179, .ifCond .ne 18, 3), (182, .aload_n 0, 1), (183, .dup, 1), (184, .getfield 20, 3), (187, .ldc2_w 83, 3), (190, .iload_n 2, 1), (191, .i2l, 1), (192, .lmul, 1), (193, .ladd, 1), (194, .putfield 20, 3), (197, .aload_n 0, 1), (198, .iconst 1, 1), (199, .putfield 24, 3), (202, .return_, 1), (203, .aload_n 0, 1), (204, .aload_n 0, 1), (205, .getfield 20, 3), (208, .putfield 270, 3), (211, .aload_n 0, 1), (212, .lload 7, 2), (214, .putfield 273, 3), (217, .aload_n 0, 1), (218, .lload_n 3, 1), (219, .putfield 276, 3), (222, .aload_n 0, 1), (223, .bipush 7, 2), (225, .aload_n 0, 1), (226, .iconst 3, 1), (227, .invokevirtual 192, 3), (230, .invokevirtual 344, 3), (233, .aload_n 0, 1), (234, .iconst 3, 1), (235, .iconst 0, 1), (236, .invokevirtual 344, 3), (239, .aload_n 0, 1), (240, .aload_n 0, 1), (241, .getfield 67, 3), (244, .ldc2_w 315, 3), (247, .land, 1), (248, .aload_n 0, 1), (249, .getfield 24, 3), (252, .i2l, 1), (253, .bipush 11, 2), (255, .lshl, 1), (256, .lor, 1), (257, .putfield 67, 3), (260, .aload_n 0, 1), (261, .aload_n 0, 1), (262, .getfield 261, 3), (265, .ldc2_w 348, 3), (268, .land, 1), (269, .putfield 20, 3), (272, .iload_n 1, 1), (273, .ifCond .eq 29, 3), (276, .aload_n 0, 1), (277, .getfield 261, 3), (280, .lconst 1, 1), (281, .land, 1), (282, .lconst 1, 1), (283, .lcmp, 1), (284, .ifCond .ne 18, 3), (287, .aload_n 0, 1), (288, .dup, 1), (289, .getfield 20, 3), (292, .ldc2_w 83, 3), (295, .iload_n 2, 1), (296, .i2l, 1), (297, .lmul, 1), (298, .ladd, 1), (299, .putfield 20, 3), (302, .aload_n 0, 1), (303, .iconst 3, 1), (304, .putfield 24, 3), (307, .return_, 1)]
theorem da_X12_trap : dkL cX12_trap dl_X12_trap = true := by decide +kernel
def f_X12_trap_b302 (u : St) : St := (sI u 2 (3 : Int32))
set_option maxRecDepth 100000 in
set_option maxHeartbeats 4000000 in
theorem b_X12_trap_b302 {p : Program} {l : Launch} {e : Env} {s : State} {m : MethodId} {args : Array Value} {below : List Frame} {meth : Method} {c : Code} {D : va_G} {cy : ClassId × ClassId × ClassId} {ad : Nat → Nat} {A : Nat → Prop} (E : CallFix p m c cX12_trap 9 s args gw RX12) (hr : meth.sig.returnType = none) (hlk : meth.locks = false) {u : St} {u' : St} (h : f_X12_trap_b302 u = u') {ls : Array Slot} {H : Heap} {locs : List Loc} {rr : Nat → Nat} (hl : lv_has ls 9 [(0, .ref (ad 0))]) (w : WX (wM cy ad) D cy rr u A s H locs) : Wx (wM cy ad) D p l e 1 22 0 s m args below meth c A u' none H locs 0 302 ls [] := by
  have hx := E.1
  have hb := E.2.1
  have hown := E.2.2.2.1
  have hts := E.2.2.2.2
  refine lv_aload_n hx hb (dq da_X12_trap 171 rfl) rfl (lv_at hl 0 rfl) ?_
  refine lv_iconst (v := 3) hx hb (dq da_X12_trap 172 rfl) rfl ?_
  refine pt_wM_0_privilege E w w_1093 (dq da_X12_trap 173 rfl) (fun H locs w => ?_)
  exact xret_v E hr hlk w (by decide) h (dq da_X12_trap 174 rfl)
def f_X12_trap_b203 (x1 : Int32) (x2 : Int32) (x3 : Int64) (x7 : Int64) (u : St) : St := if x1 = (0 : Int32) then (f_X12_trap_b302 (sL (sL (f_X12_turn (3 : Int32) (0 : Int32) (f_X12_turn (7 : Int32) (f_X12_is (3 : Int32) (sL (sL (sL u 11 (gL u 0)) 12 x7) 13 x3)) (sL (sL (sL u 11 (gL u 0)) 12 x7) 13 x3))) 4 (((gL (f_X12_turn (3 : Int32) (0 : Int32) (f_X12_turn (7 : Int32) (f_X12_is (3 : Int32) (sL (sL (sL u 11 (gL u 0)) 12 x7) 13 x3)) (sL (sL (sL u 11 (gL u 0)) 12 x7) 13 x3))) 4) &&& (-6145 : Int64)) ||| (j_lshl ((gI (f_X12_turn (3 : Int32) (0 : Int32) (f_X12_turn (7 : Int32) (f_X12_is (3 : Int32) (sL (sL (sL u 11 (gL u 0)) 12 x7) 13 x3)) (sL (sL (sL u 11 (gL u 0)) 12 x7) 13 x3))) 2).toInt64) (11 : Int32)))) 0 ((gL (sL (f_X12_turn (3 : Int32) (0 : Int32) (f_X12_turn (7 : Int32) (f_X12_is (3 : Int32) (sL (sL (sL u 11 (gL u 0)) 12 x7) 13 x3)) (sL (sL (sL u 11 (gL u 0)) 12 x7) 13 x3))) 4 (((gL (f_X12_turn (3 : Int32) (0 : Int32) (f_X12_turn (7 : Int32) (f_X12_is (3 : Int32) (sL (sL (sL u 11 (gL u 0)) 12 x7) 13 x3)) (sL (sL (sL u 11 (gL u 0)) 12 x7) 13 x3))) 4) &&& (-6145 : Int64)) ||| (j_lshl ((gI (f_X12_turn (3 : Int32) (0 : Int32) (f_X12_turn (7 : Int32) (f_X12_is (3 : Int32) (sL (sL (sL u 11 (gL u 0)) 12 x7) 13 x3)) (sL (sL (sL u 11 (gL u 0)) 12 x7) 13 x3))) 2).toInt64) (11 : Int32)))) 8) &&& (-4 : Int64)))) else (if ((gL (sL (sL (f_X12_turn (3 : Int32) (0 : Int32) (f_X12_turn (7 : Int32) (f_X12_is (3 : Int32) (sL (sL (sL u 11 (gL u 0)) 12 x7) 13 x3)) (sL (sL (sL u 11 (gL u 0)) 12 x7) 13 x3))) 4 (((gL (f_X12_turn (3 : Int32) (0 : Int32) (f_X12_turn (7 : Int32) (f_X12_is (3 : Int32) (sL (sL (sL u 11 (gL u 0)) 12 x7) 13 x3)) (sL (sL (sL u 11 (gL u 0)) 12 x7) 13 x3))) 4) &&& (-6145 : Int64)) ||| (j_lshl ((gI (f_X12_turn (3 : Int32) (0 : Int32) (f_X12_turn (7 : Int32) (f_X12_is (3 : Int32) (sL (sL (sL u 11 (gL u 0)) 12 x7) 13 x3)) (sL (sL (sL u 11 (gL u 0)) 12 x7) 13 x3))) 2).toInt64) (11 : Int32)))) 0 ((gL (sL (f_X12_turn (3 : Int32) (0 : Int32) (f_X12_turn (7 : Int32) (f_X12_is (3 : Int32) (sL (sL (sL u 11 (gL u 0)) 12 x7) 13 x3)) (sL (sL (sL u 11 (gL u 0)) 12 x7) 13 x3))) 4 (((gL (f_X12_turn (3 : Int32) (0 : Int32) (f_X12_turn (7 : Int32) (f_X12_is (3 : Int32) (sL (sL (sL u 11 (gL u 0)) 12 x7) 13 x3)) (sL (sL (sL u 11 (gL u 0)) 12 x7) 13 x3))) 4) &&& (-6145 : Int64)) ||| (j_lshl ((gI (f_X12_turn (3 : Int32) (0 : Int32) (f_X12_turn (7 : Int32) (f_X12_is (3 : Int32) (sL (sL (sL u 11 (gL u 0)) 12 x7) 13 x3)) (sL (sL (sL u 11 (gL u 0)) 12 x7) 13 x3))) 2).toInt64) (11 : Int32)))) 8) &&& (-4 : Int64))) 8) &&& (1 : Int64)) = (1 : Int64) then (f_X12_trap_b302 (sL (sL (sL (f_X12_turn (3 : Int32) (0 : Int32) (f_X12_turn (7 : Int32) (f_X12_is (3 : Int32) (sL (sL (sL u 11 (gL u 0)) 12 x7) 13 x3)) (sL (sL (sL u 11 (gL u 0)) 12 x7) 13 x3))) 4 (((gL (f_X12_turn (3 : Int32) (0 : Int32) (f_X12_turn (7 : Int32) (f_X12_is (3 : Int32) (sL (sL (sL u 11 (gL u 0)) 12 x7) 13 x3)) (sL (sL (sL u 11 (gL u 0)) 12 x7) 13 x3))) 4) &&& (-6145 : Int64)) ||| (j_lshl ((gI (f_X12_turn (3 : Int32) (0 : Int32) (f_X12_turn (7 : Int32) (f_X12_is (3 : Int32) (sL (sL (sL u 11 (gL u 0)) 12 x7) 13 x3)) (sL (sL (sL u 11 (gL u 0)) 12 x7) 13 x3))) 2).toInt64) (11 : Int32)))) 0 ((gL (sL (f_X12_turn (3 : Int32) (0 : Int32) (f_X12_turn (7 : Int32) (f_X12_is (3 : Int32) (sL (sL (sL u 11 (gL u 0)) 12 x7) 13 x3)) (sL (sL (sL u 11 (gL u 0)) 12 x7) 13 x3))) 4 (((gL (f_X12_turn (3 : Int32) (0 : Int32) (f_X12_turn (7 : Int32) (f_X12_is (3 : Int32) (sL (sL (sL u 11 (gL u 0)) 12 x7) 13 x3)) (sL (sL (sL u 11 (gL u 0)) 12 x7) 13 x3))) 4) &&& (-6145 : Int64)) ||| (j_lshl ((gI (f_X12_turn (3 : Int32) (0 : Int32) (f_X12_turn (7 : Int32) (f_X12_is (3 : Int32) (sL (sL (sL u 11 (gL u 0)) 12 x7) 13 x3)) (sL (sL (sL u 11 (gL u 0)) 12 x7) 13 x3))) 2).toInt64) (11 : Int32)))) 8) &&& (-4 : Int64))) 0 ((gL (sL (sL (f_X12_turn (3 : Int32) (0 : Int32) (f_X12_turn (7 : Int32) (f_X12_is (3 : Int32) (sL (sL (sL u 11 (gL u 0)) 12 x7) 13 x3)) (sL (sL (sL u 11 (gL u 0)) 12 x7) 13 x3))) 4 (((gL (f_X12_turn (3 : Int32) (0 : Int32) (f_X12_turn (7 : Int32) (f_X12_is (3 : Int32) (sL (sL (sL u 11 (gL u 0)) 12 x7) 13 x3)) (sL (sL (sL u 11 (gL u 0)) 12 x7) 13 x3))) 4) &&& (-6145 : Int64)) ||| (j_lshl ((gI (f_X12_turn (3 : Int32) (0 : Int32) (f_X12_turn (7 : Int32) (f_X12_is (3 : Int32) (sL (sL (sL u 11 (gL u 0)) 12 x7) 13 x3)) (sL (sL (sL u 11 (gL u 0)) 12 x7) 13 x3))) 2).toInt64) (11 : Int32)))) 0 ((gL (sL (f_X12_turn (3 : Int32) (0 : Int32) (f_X12_turn (7 : Int32) (f_X12_is (3 : Int32) (sL (sL (sL u 11 (gL u 0)) 12 x7) 13 x3)) (sL (sL (sL u 11 (gL u 0)) 12 x7) 13 x3))) 4 (((gL (f_X12_turn (3 : Int32) (0 : Int32) (f_X12_turn (7 : Int32) (f_X12_is (3 : Int32) (sL (sL (sL u 11 (gL u 0)) 12 x7) 13 x3)) (sL (sL (sL u 11 (gL u 0)) 12 x7) 13 x3))) 4) &&& (-6145 : Int64)) ||| (j_lshl ((gI (f_X12_turn (3 : Int32) (0 : Int32) (f_X12_turn (7 : Int32) (f_X12_is (3 : Int32) (sL (sL (sL u 11 (gL u 0)) 12 x7) 13 x3)) (sL (sL (sL u 11 (gL u 0)) 12 x7) 13 x3))) 2).toInt64) (11 : Int32)))) 8) &&& (-4 : Int64))) 0) + ((4 : Int64) * x2.toInt64)))) else (f_X12_trap_b302 (sL (sL (f_X12_turn (3 : Int32) (0 : Int32) (f_X12_turn (7 : Int32) (f_X12_is (3 : Int32) (sL (sL (sL u 11 (gL u 0)) 12 x7) 13 x3)) (sL (sL (sL u 11 (gL u 0)) 12 x7) 13 x3))) 4 (((gL (f_X12_turn (3 : Int32) (0 : Int32) (f_X12_turn (7 : Int32) (f_X12_is (3 : Int32) (sL (sL (sL u 11 (gL u 0)) 12 x7) 13 x3)) (sL (sL (sL u 11 (gL u 0)) 12 x7) 13 x3))) 4) &&& (-6145 : Int64)) ||| (j_lshl ((gI (f_X12_turn (3 : Int32) (0 : Int32) (f_X12_turn (7 : Int32) (f_X12_is (3 : Int32) (sL (sL (sL u 11 (gL u 0)) 12 x7) 13 x3)) (sL (sL (sL u 11 (gL u 0)) 12 x7) 13 x3))) 2).toInt64) (11 : Int32)))) 0 ((gL (sL (f_X12_turn (3 : Int32) (0 : Int32) (f_X12_turn (7 : Int32) (f_X12_is (3 : Int32) (sL (sL (sL u 11 (gL u 0)) 12 x7) 13 x3)) (sL (sL (sL u 11 (gL u 0)) 12 x7) 13 x3))) 4 (((gL (f_X12_turn (3 : Int32) (0 : Int32) (f_X12_turn (7 : Int32) (f_X12_is (3 : Int32) (sL (sL (sL u 11 (gL u 0)) 12 x7) 13 x3)) (sL (sL (sL u 11 (gL u 0)) 12 x7) 13 x3))) 4) &&& (-6145 : Int64)) ||| (j_lshl ((gI (f_X12_turn (3 : Int32) (0 : Int32) (f_X12_turn (7 : Int32) (f_X12_is (3 : Int32) (sL (sL (sL u 11 (gL u 0)) 12 x7) 13 x3)) (sL (sL (sL u 11 (gL u 0)) 12 x7) 13 x3))) 2).toInt64) (11 : Int32)))) 8) &&& (-4 : Int64)))))
set_option maxRecDepth 100000 in
set_option maxHeartbeats 4000000 in
theorem b_X12_trap_b203 {p : Program} {l : Launch} {e : Env} {s : State} {m : MethodId} {args : Array Value} {below : List Frame} {meth : Method} {c : Code} {D : va_G} {cy : ClassId × ClassId × ClassId} {ad : Nat → Nat} {A : Nat → Prop} (E : CallFix p m c cX12_trap 9 s args gw RX12) (hr : meth.sig.returnType = none) (hlk : meth.locks = false) {x1 : Int32} {x2 : Int32} {x3 : Int64} {x7 : Int64} {u : St} {u' : St} (h : f_X12_trap_b203 x1 x2 x3 x7 u = u') {ls : Array Slot} {H : Heap} {locs : List Loc} {rr : Nat → Nat} (hl : lv_has ls 9 [(0, .ref (ad 0)), (1, .int x1), (2, .int x2), (3, .long x3), (7, .long x7)]) (w : WX (wM cy ad) D cy rr u A s H locs) : Wx (wM cy ad) D p l e 1 22 0 s m args below meth c A u' none H locs 0 203 ls [] := by
  have hx := E.1
  have hb := E.2.1
  have hown := E.2.2.2.1
  have hts := E.2.2.2.2
  refine lv_aload_n hx hb (dq da_X12_trap 115 rfl) rfl (lv_at hl 0 rfl) ?_
  refine lv_aload_n hx hb (dq da_X12_trap 116 rfl) rfl (lv_at hl 0 rfl) ?_
  refine gt_wM_0_pc E w w_1092 (dq da_X12_trap 117 rfl) ?_
  refine pt_wM_0_machineEpc E w w_1120 (dq da_X12_trap 118 rfl) (fun H locs w => ?_)
  refine lv_aload_n hx hb (dq da_X12_trap 119 rfl) rfl (lv_at hl 0 rfl) ?_
  refine lv_lload hx hb (dq da_X12_trap 120 rfl) (lv_at hl 4 rfl) ?_
  refine pt_wM_0_machineCause E w w_1121 (dq da_X12_trap 121 rfl) (fun H locs w => ?_)
  refine lv_aload_n hx hb (dq da_X12_trap 122 rfl) rfl (lv_at hl 0 rfl) ?_
  refine lv_lload_n hx hb (dq da_X12_trap 123 rfl) rfl (lv_at hl 3 rfl) ?_
  refine pt_wM_0_machineValue E w w_1122 (dq da_X12_trap 124 rfl) (fun H locs w => ?_)
  refine lv_aload_n hx hb (dq da_X12_trap 125 rfl) rfl (lv_at hl 0 rfl) ?_
  refine lv_bipush (v := 7) hx hb (dq da_X12_trap 126 rfl) rfl ?_
  refine lv_aload_n hx hb (dq da_X12_trap 127 rfl) rfl (lv_at hl 0 rfl) ?_
  refine lv_iconst (v := 3) hx hb (dq da_X12_trap 128 rfl) rfl ?_
  refine cV1 E (c_X12_is l D cy ad _ _ ) w_1414 w_1416 w_p56 w_10 w_1417 rfl hd_X12_is rfl hl.1 rfl (Nat.le_of_ble_eq_true rfl) ⟨Nat.le_of_ble_eq_true rfl, Nat.le_of_ble_eq_true rfl⟩ (by decide) w (rc_wM_0 w) (dq da_X12_trap 129 rfl) (fun H locs rr w => ?_)
  refine cV0 E (c_X12_turn l D cy ad _ _ _ ) w_1422 w_1424 w_p58 w_10 w_1425 rfl hd_X12_turn rfl hl.1 rfl (Nat.le_of_ble_eq_true rfl) ⟨Nat.le_of_ble_eq_true rfl, Nat.le_of_ble_eq_true rfl⟩ (by decide) w (rc_wM_0 w) (dq da_X12_trap 130 rfl) (fun H locs rr w => ?_)
  refine lv_aload_n hx hb (dq da_X12_trap 131 rfl) rfl (lv_at hl 0 rfl) ?_
  refine lv_iconst (v := 3) hx hb (dq da_X12_trap 132 rfl) rfl ?_
  refine lv_iconst (v := 0) hx hb (dq da_X12_trap 133 rfl) rfl ?_
  refine cV0 E (c_X12_turn l D cy ad _ _ _ ) w_1422 w_1424 w_p58 w_10 w_1425 rfl hd_X12_turn rfl hl.1 rfl (Nat.le_of_ble_eq_true rfl) ⟨Nat.le_of_ble_eq_true rfl, Nat.le_of_ble_eq_true rfl⟩ (by decide) w (rc_wM_0 w) (dq da_X12_trap 134 rfl) (fun H locs rr w => ?_)
  refine lv_aload_n hx hb (dq da_X12_trap 135 rfl) rfl (lv_at hl 0 rfl) ?_
  refine lv_aload_n hx hb (dq da_X12_trap 136 rfl) rfl (lv_at hl 0 rfl) ?_
  refine gt_wM_0_status E w w_1113 (dq da_X12_trap 137 rfl) ?_
  refine lv_ldc2 hx hb hown (hts _ w_1387) (dq da_X12_trap 138 rfl) ?_
  refine lv_land hx hb (dq da_X12_trap 139 rfl) ?_
  refine lv_aload_n hx hb (dq da_X12_trap 140 rfl) rfl (lv_at hl 0 rfl) ?_
  refine gt_wM_0_privilege E w w_1093 (dq da_X12_trap 141 rfl) ?_
  refine lv_i2l (v := (gI (f_X12_turn (3 : Int32) (0 : Int32) (f_X12_turn (7 : Int32) (f_X12_is (3 : Int32) (sL (sL (sL u 11 (gL u 0)) 12 x7) 13 x3)) (sL (sL (sL u 11 (gL u 0)) 12 x7) 13 x3))) 2).toInt64) hx hb (dq da_X12_trap 142 rfl) rfl ?_
  refine lv_bipush (v := 11) hx hb (dq da_X12_trap 143 rfl) rfl ?_
  refine lv_lshl (v := (j_lshl ((gI (f_X12_turn (3 : Int32) (0 : Int32) (f_X12_turn (7 : Int32) (f_X12_is (3 : Int32) (sL (sL (sL u 11 (gL u 0)) 12 x7) 13 x3)) (sL (sL (sL u 11 (gL u 0)) 12 x7) 13 x3))) 2).toInt64) (11 : Int32))) hx hb (dq da_X12_trap 144 rfl) rfl ?_
  refine lv_lor hx hb (dq da_X12_trap 145 rfl) ?_
  refine pt_wM_0_status E w w_1113 (dq da_X12_trap 146 rfl) (fun H locs w => ?_)
  refine lv_aload_n hx hb (dq da_X12_trap 147 rfl) rfl (lv_at hl 0 rfl) ?_
  refine lv_aload_n hx hb (dq da_X12_trap 148 rfl) rfl (lv_at hl 0 rfl) ?_
  refine gt_wM_0_machineVector E w w_1117 (dq da_X12_trap 149 rfl) ?_
  refine lv_ldc2 hx hb hown (hts _ w_1426) (dq da_X12_trap 150 rfl) ?_
  refine lv_land hx hb (dq da_X12_trap 151 rfl) ?_
  refine pt_wM_0_pc E w w_1092 (dq da_X12_trap 152 rfl) (fun H locs w => ?_)
  refine lv_iload_n hx hb (dq da_X12_trap 153 rfl) rfl (lv_at hl 1 rfl) ?_
  refine lv_if_eq (tgt := 302) hx hb (dq da_X12_trap 154 rfl) (by decide) (fun c6 => ?_) (fun c6 => ?_)
  · have h := it c6 h
    exact b_X12_trap_b302 E hr hlk h (lv_sub hl [0] rfl) w
  · have h := ie c6 h
    refine lv_aload_n hx hb (dq da_X12_trap 155 rfl) rfl (lv_at hl 0 rfl) ?_
    refine gt_wM_0_machineVector E w w_1117 (dq da_X12_trap 156 rfl) ?_
    refine lv_lconst (v := 1) hx hb (dq da_X12_trap 157 rfl) rfl ?_
    refine lv_land hx hb (dq da_X12_trap 158 rfl) ?_
    refine lv_lconst (v := 1) hx hb (dq da_X12_trap 159 rfl) rfl ?_
    refine lc_ne (tgt := 302) hx hb (dq da_X12_trap 160 rfl) (dq da_X12_trap 161 rfl) (by decide) (fun c7 => ?_) (fun c7 => ?_)
    · have h := ie c7 h
      exact b_X12_trap_b302 E hr hlk h (lv_sub hl [0] rfl) w
    · have h := it c7 h
      refine lv_aload_n hx hb (dq da_X12_trap 162 rfl) rfl (lv_at hl 0 rfl) ?_
      refine lv_dup hx hb (dq da_X12_trap 163 rfl) rfl ?_
      refine gt_wM_0_pc E w w_1092 (dq da_X12_trap 164 rfl) ?_
      refine lv_ldc2 hx hb hown (hts _ w_1427) (dq da_X12_trap 165 rfl) ?_
      refine lv_iload_n hx hb (dq da_X12_trap 166 rfl) rfl (lv_at hl 2 rfl) ?_
      refine lv_i2l (v := x2.toInt64) hx hb (dq da_X12_trap 167 rfl) rfl ?_
      refine lv_lmul hx hb (dq da_X12_trap 168 rfl) ?_
      refine lv_ladd hx hb (dq da_X12_trap 169 rfl) ?_
      refine pt_wM_0_pc E w w_1092 (dq da_X12_trap 170 rfl) (fun H locs w => ?_)
      exact b_X12_trap_b302 E hr hlk h (lv_sub hl [0] rfl) w
def f_X12_trap_b197 (u : St) : St := (sI u 2 (1 : Int32))
set_option maxRecDepth 100000 in
set_option maxHeartbeats 4000000 in
theorem b_X12_trap_b197 {p : Program} {l : Launch} {e : Env} {s : State} {m : MethodId} {args : Array Value} {below : List Frame} {meth : Method} {c : Code} {D : va_G} {cy : ClassId × ClassId × ClassId} {ad : Nat → Nat} {A : Nat → Prop} (E : CallFix p m c cX12_trap 9 s args gw RX12) (hr : meth.sig.returnType = none) (hlk : meth.locks = false) {u : St} {u' : St} (h : f_X12_trap_b197 u = u') {ls : Array Slot} {H : Heap} {locs : List Loc} {rr : Nat → Nat} (hl : lv_has ls 9 [(0, .ref (ad 0))]) (w : WX (wM cy ad) D cy rr u A s H locs) : Wx (wM cy ad) D p l e 1 22 0 s m args below meth c A u' none H locs 0 197 ls [] := by
  have hx := E.1
  have hb := E.2.1
  have hown := E.2.2.2.1
  have hts := E.2.2.2.2
  refine lv_aload_n hx hb (dq da_X12_trap 111 rfl) rfl (lv_at hl 0 rfl) ?_
  refine lv_iconst (v := 1) hx hb (dq da_X12_trap 112 rfl) rfl ?_
  refine pt_wM_0_privilege E w w_1093 (dq da_X12_trap 113 rfl) (fun H locs w => ?_)
  exact xret_v E hr hlk w (by decide) h (dq da_X12_trap 114 rfl)
def f_X12_trap_b152 (x1 : Int32) (x2 : Int32) (s0 : Int32) (s1 : Int32) (u : St) : St := if x1 = (0 : Int32) then (f_X12_trap_b197 (sL (f_X12_turn s1 s0 u) 0 ((gL (f_X12_turn s1 s0 u) 17) &&& (-4 : Int64)))) else (if ((gL (sL (f_X12_turn s1 s0 u) 0 ((gL (f_X12_turn s1 s0 u) 17) &&& (-4 : Int64))) 17) &&& (1 : Int64)) = (1 : Int64) then (f_X12_trap_b197 (sL (sL (f_X12_turn s1 s0 u) 0 ((gL (f_X12_turn s1 s0 u) 17) &&& (-4 : Int64))) 0 ((gL (sL (f_X12_turn s1 s0 u) 0 ((gL (f_X12_turn s1 s0 u) 17) &&& (-4 : Int64))) 0) + ((4 : Int64) * x2.toInt64)))) else (f_X12_trap_b197 (sL (f_X12_turn s1 s0 u) 0 ((gL (f_X12_turn s1 s0 u) 17) &&& (-4 : Int64)))))
set_option maxRecDepth 100000 in
set_option maxHeartbeats 4000000 in
theorem b_X12_trap_b152 {p : Program} {l : Launch} {e : Env} {s : State} {m : MethodId} {args : Array Value} {below : List Frame} {meth : Method} {c : Code} {D : va_G} {cy : ClassId × ClassId × ClassId} {ad : Nat → Nat} {A : Nat → Prop} (E : CallFix p m c cX12_trap 9 s args gw RX12) (hr : meth.sig.returnType = none) (hlk : meth.locks = false) {x1 : Int32} {x2 : Int32} {s0 : Int32} {s1 : Int32} {u : St} {u' : St} (h : f_X12_trap_b152 x1 x2 s0 s1 u = u') {ls : Array Slot} {H : Heap} {locs : List Loc} {rr : Nat → Nat} (hl : lv_has ls 9 [(0, .ref (ad 0)), (1, .int x1), (2, .int x2)]) (w : WX (wM cy ad) D cy rr u A s H locs) : Wx (wM cy ad) D p l e 1 22 0 s m args below meth c A u' none H locs 0 152 ls [.int s0, .int s1, .ref (ad 0)] := by
  have hx := E.1
  have hb := E.2.1
  have hown := E.2.2.2.1
  have hts := E.2.2.2.2
  refine cV0 E (c_X12_turn l D cy ad _ _ _ ) w_1422 w_1424 w_p58 w_10 w_1425 rfl hd_X12_turn rfl hl.1 rfl (Nat.le_of_ble_eq_true rfl) ⟨Nat.le_of_ble_eq_true rfl, Nat.le_of_ble_eq_true rfl⟩ (by decide) w (rc_wM_0 w) (dq da_X12_trap 86 rfl) (fun H locs rr w => ?_)
  refine lv_aload_n hx hb (dq da_X12_trap 87 rfl) rfl (lv_at hl 0 rfl) ?_
  refine lv_aload_n hx hb (dq da_X12_trap 88 rfl) rfl (lv_at hl 0 rfl) ?_
  refine gt_wM_0_vector E w w_1126 (dq da_X12_trap 89 rfl) ?_
  refine lv_ldc2 hx hb hown (hts _ w_1426) (dq da_X12_trap 90 rfl) ?_
  refine lv_land hx hb (dq da_X12_trap 91 rfl) ?_
  refine pt_wM_0_pc E w w_1092 (dq da_X12_trap 92 rfl) (fun H locs w => ?_)
  refine lv_iload_n hx hb (dq da_X12_trap 93 rfl) rfl (lv_at hl 1 rfl) ?_
  refine lv_if_eq (tgt := 197) hx hb (dq da_X12_trap 94 rfl) (by decide) (fun c10 => ?_) (fun c10 => ?_)
  · have h := it c10 h
    exact b_X12_trap_b197 E hr hlk h (lv_sub hl [0] rfl) w
  · have h := ie c10 h
    refine lv_aload_n hx hb (dq da_X12_trap 95 rfl) rfl (lv_at hl 0 rfl) ?_
    refine gt_wM_0_vector E w w_1126 (dq da_X12_trap 96 rfl) ?_
    refine lv_lconst (v := 1) hx hb (dq da_X12_trap 97 rfl) rfl ?_
    refine lv_land hx hb (dq da_X12_trap 98 rfl) ?_
    refine lv_lconst (v := 1) hx hb (dq da_X12_trap 99 rfl) rfl ?_
    refine lc_ne (tgt := 197) hx hb (dq da_X12_trap 100 rfl) (dq da_X12_trap 101 rfl) (by decide) (fun c11 => ?_) (fun c11 => ?_)
    · have h := ie c11 h
      exact b_X12_trap_b197 E hr hlk h (lv_sub hl [0] rfl) w
    · have h := it c11 h
      refine lv_aload_n hx hb (dq da_X12_trap 102 rfl) rfl (lv_at hl 0 rfl) ?_
      refine lv_dup hx hb (dq da_X12_trap 103 rfl) rfl ?_
      refine gt_wM_0_pc E w w_1092 (dq da_X12_trap 104 rfl) ?_
      refine lv_ldc2 hx hb hown (hts _ w_1427) (dq da_X12_trap 105 rfl) ?_
      refine lv_iload_n hx hb (dq da_X12_trap 106 rfl) rfl (lv_at hl 2 rfl) ?_
      refine lv_i2l (v := x2.toInt64) hx hb (dq da_X12_trap 107 rfl) rfl ?_
      refine lv_lmul hx hb (dq da_X12_trap 108 rfl) ?_
      refine lv_ladd hx hb (dq da_X12_trap 109 rfl) ?_
      refine pt_wM_0_pc E w w_1092 (dq da_X12_trap 110 rfl) (fun H locs w => ?_)
      exact b_X12_trap_b197 E hr hlk h (lv_sub hl [0] rfl) w
def f_X12_trap_b80 (x1 : Int32) (x2 : Int32) (x3 : Int64) (x5 : Int64) (s0 : Int64) (u : St) : St := if (3 : Int32) ≤ (gI u 2) then (f_X12_trap_b203 x1 x2 x3 s0 u) else (if ((j_lshr x5 x2) &&& (1 : Int64)) = (1 : Int64) then (if (gI (f_X12_turn (1 : Int32) (0 : Int32) (f_X12_turn (5 : Int32) (f_X12_is (1 : Int32) (sL (sL (sL u 20 (gL u 0)) 21 s0) 22 x3)) (sL (sL (sL u 20 (gL u 0)) 21 s0) 22 x3))) 2) = (1 : Int32) then (f_X12_trap_b152 x1 x2 (1 : Int32) (8 : Int32) (f_X12_turn (1 : Int32) (0 : Int32) (f_X12_turn (5 : Int32) (f_X12_is (1 : Int32) (sL (sL (sL u 20 (gL u 0)) 21 s0) 22 x3)) (sL (sL (sL u 20 (gL u 0)) 21 s0) 22 x3)))) else (f_X12_trap_b152 x1 x2 (0 : Int32) (8 : Int32) (f_X12_turn (1 : Int32) (0 : Int32) (f_X12_turn (5 : Int32) (f_X12_is (1 : Int32) (sL (sL (sL u 20 (gL u 0)) 21 s0) 22 x3)) (sL (sL (sL u 20 (gL u 0)) 21 s0) 22 x3))))) else (f_X12_trap_b203 x1 x2 x3 s0 u))
set_option maxRecDepth 100000 in
set_option maxHeartbeats 4000000 in
theorem b_X12_trap_b80 {p : Program} {l : Launch} {e : Env} {s : State} {m : MethodId} {args : Array Value} {below : List Frame} {meth : Method} {c : Code} {D : va_G} {cy : ClassId × ClassId × ClassId} {ad : Nat → Nat} {A : Nat → Prop} (E : CallFix p m c cX12_trap 9 s args gw RX12) (hr : meth.sig.returnType = none) (hlk : meth.locks = false) {x1 : Int32} {x2 : Int32} {x3 : Int64} {x5 : Int64} {s0 : Int64} {u : St} {u' : St} (h : f_X12_trap_b80 x1 x2 x3 x5 s0 u = u') {ls : Array Slot} {H : Heap} {locs : List Loc} {rr : Nat → Nat} (hl : lv_has ls 9 [(0, .ref (ad 0)), (1, .int x1), (2, .int x2), (3, .long x3), (5, .long x5)]) (w : WX (wM cy ad) D cy rr u A s H locs) : Wx (wM cy ad) D p l e 1 22 0 s m args below meth c A u' none H locs 0 80 ls [.long s0] := by
  have hx := E.1
  have hb := E.2.1
  have hown := E.2.2.2.1
  have hts := E.2.2.2.2
  refine lv_lstore (lv' := [(7, .long s0), (0, .ref (ad 0)), (1, .int x1), (2, .int x2), (3, .long x3), (5, .long x5)]) hx hb (dq da_X12_trap 44 rfl) hl (by decide) rfl (fun ls hl => ?_)
  refine lv_aload_n hx hb (dq da_X12_trap 45 rfl) rfl (lv_at hl 1 rfl) ?_
  refine gt_wM_0_privilege E w w_1093 (dq da_X12_trap 46 rfl) ?_
  refine lv_iconst (v := 3) hx hb (dq da_X12_trap 47 rfl) rfl ?_
  refine lv_icmp_ge (tgt := 203) hx hb (dq da_X12_trap 48 rfl) (by decide) (fun c5 => ?_) (fun c5 => ?_)
  · have h := it c5 h
    exact b_X12_trap_b203 E hr hlk h (lv_sub hl [1, 2, 3, 4, 0] rfl) w
  · have h := ie c5 h
    refine lv_lload hx hb (dq da_X12_trap 49 rfl) (lv_at hl 5 rfl) ?_
    refine lv_iload_n hx hb (dq da_X12_trap 50 rfl) rfl (lv_at hl 3 rfl) ?_
    refine lv_lshr (v := (j_lshr x5 x2)) hx hb (dq da_X12_trap 51 rfl) rfl ?_
    refine lv_lconst (v := 1) hx hb (dq da_X12_trap 52 rfl) rfl ?_
    refine lv_land hx hb (dq da_X12_trap 53 rfl) ?_
    refine lv_lconst (v := 1) hx hb (dq da_X12_trap 54 rfl) rfl ?_
    refine lc_ne (tgt := 203) hx hb (dq da_X12_trap 55 rfl) (dq da_X12_trap 56 rfl) (by decide) (fun c8 => ?_) (fun c8 => ?_)
    · have h := ie c8 h
      exact b_X12_trap_b203 E hr hlk h (lv_sub hl [1, 2, 3, 4, 0] rfl) w
    · have h := it c8 h
      refine lv_aload_n hx hb (dq da_X12_trap 57 rfl) rfl (lv_at hl 1 rfl) ?_
      refine lv_aload_n hx hb (dq da_X12_trap 58 rfl) rfl (lv_at hl 1 rfl) ?_
      refine gt_wM_0_pc E w w_1092 (dq da_X12_trap 59 rfl) ?_
      refine pt_wM_0_epc E w w_1129 (dq da_X12_trap 60 rfl) (fun H locs w => ?_)
      refine lv_aload_n hx hb (dq da_X12_trap 61 rfl) rfl (lv_at hl 1 rfl) ?_
      refine lv_lload hx hb (dq da_X12_trap 62 rfl) (lv_at hl 0 rfl) ?_
      refine pt_wM_0_cause E w w_1130 (dq da_X12_trap 63 rfl) (fun H locs w => ?_)
      refine lv_aload_n hx hb (dq da_X12_trap 64 rfl) rfl (lv_at hl 1 rfl) ?_
      refine lv_lload_n hx hb (dq da_X12_trap 65 rfl) rfl (lv_at hl 4 rfl) ?_
      refine pt_wM_0_trapValue E w w_1131 (dq da_X12_trap 66 rfl) (fun H locs w => ?_)
      refine lv_aload_n hx hb (dq da_X12_trap 67 rfl) rfl (lv_at hl 1 rfl) ?_
      refine lv_iconst (v := 5) hx hb (dq da_X12_trap 68 rfl) rfl ?_
      refine lv_aload_n hx hb (dq da_X12_trap 69 rfl) rfl (lv_at hl 1 rfl) ?_
      refine lv_iconst (v := 1) hx hb (dq da_X12_trap 70 rfl) rfl ?_
      refine cV1 E (c_X12_is l D cy ad _ _ ) w_1414 w_1416 w_p56 w_10 w_1417 rfl hd_X12_is rfl hl.1 rfl (Nat.le_of_ble_eq_true rfl) ⟨Nat.le_of_ble_eq_true rfl, Nat.le_of_ble_eq_true rfl⟩ (by decide) w (rc_wM_0 w) (dq da_X12_trap 71 rfl) (fun H locs rr w => ?_)
      refine cV0 E (c_X12_turn l D cy ad _ _ _ ) w_1422 w_1424 w_p58 w_10 w_1425 rfl hd_X12_turn rfl hl.1 rfl (Nat.le_of_ble_eq_true rfl) ⟨Nat.le_of_ble_eq_true rfl, Nat.le_of_ble_eq_true rfl⟩ (by decide) w (rc_wM_0 w) (dq da_X12_trap 72 rfl) (fun H locs rr w => ?_)
      refine lv_aload_n hx hb (dq da_X12_trap 73 rfl) rfl (lv_at hl 1 rfl) ?_
      refine lv_iconst (v := 1) hx hb (dq da_X12_trap 74 rfl) rfl ?_
      refine lv_iconst (v := 0) hx hb (dq da_X12_trap 75 rfl) rfl ?_
      refine cV0 E (c_X12_turn l D cy ad _ _ _ ) w_1422 w_1424 w_p58 w_10 w_1425 rfl hd_X12_turn rfl hl.1 rfl (Nat.le_of_ble_eq_true rfl) ⟨Nat.le_of_ble_eq_true rfl, Nat.le_of_ble_eq_true rfl⟩ (by decide) w (rc_wM_0 w) (dq da_X12_trap 76 rfl) (fun H locs rr w => ?_)
      refine lv_aload_n hx hb (dq da_X12_trap 77 rfl) rfl (lv_at hl 1 rfl) ?_
      refine lv_bipush (v := 8) hx hb (dq da_X12_trap 78 rfl) rfl ?_
      refine lv_aload_n hx hb (dq da_X12_trap 79 rfl) rfl (lv_at hl 1 rfl) ?_
      refine gt_wM_0_privilege E w w_1093 (dq da_X12_trap 80 rfl) ?_
      refine lv_iconst (v := 1) hx hb (dq da_X12_trap 81 rfl) rfl ?_
      refine lv_icmp_ne (tgt := 151) hx hb (dq da_X12_trap 82 rfl) (by decide) (fun c9 => ?_) (fun c9 => ?_)
      · have h := ie c9 h
        refine lv_iconst (v := 0) hx hb (dq da_X12_trap 85 rfl) rfl ?_
        exact b_X12_trap_b152 E hr hlk h (lv_sub hl [1, 2, 3] rfl) w
      · have h := it c9 h
        refine lv_iconst (v := 1) hx hb (dq da_X12_trap 83 rfl) rfl ?_
        refine lv_goto (tgt := 152) hx hb (dq da_X12_trap 84 rfl) (by decide) ?_
        exact b_X12_trap_b152 E hr hlk h (lv_sub hl [1, 2, 3] rfl) w
def f_X12_trap_b63 (x1 : Int32) (x2 : Int32) (x3 : Int64) (s0 : Int64) (u : St) : St := if x1 = (0 : Int32) then (f_X12_trap_b80 x1 x2 x3 s0 x2.toInt64 u) else (f_X12_trap_b80 x1 x2 x3 s0 ((-9223372036854775808 : Int64) + x2.toInt64) u)
set_option maxRecDepth 100000 in
set_option maxHeartbeats 4000000 in
theorem b_X12_trap_b63 {p : Program} {l : Launch} {e : Env} {s : State} {m : MethodId} {args : Array Value} {below : List Frame} {meth : Method} {c : Code} {D : va_G} {cy : ClassId × ClassId × ClassId} {ad : Nat → Nat} {A : Nat → Prop} (E : CallFix p m c cX12_trap 9 s args gw RX12) (hr : meth.sig.returnType = none) (hlk : meth.locks = false) {x1 : Int32} {x2 : Int32} {x3 : Int64} {s0 : Int64} {u : St} {u' : St} (h : f_X12_trap_b63 x1 x2 x3 s0 u = u') {ls : Array Slot} {H : Heap} {locs : List Loc} {rr : Nat → Nat} (hl : lv_has ls 9 [(0, .ref (ad 0)), (1, .int x1), (2, .int x2), (3, .long x3)]) (w : WX (wM cy ad) D cy rr u A s H locs) : Wx (wM cy ad) D p l e 1 22 0 s m args below meth c A u' none H locs 0 63 ls [.long s0] := by
  have hx := E.1
  have hb := E.2.1
  have hown := E.2.2.2.1
  have hts := E.2.2.2.2
  refine lv_lstore (lv' := [(5, .long s0), (0, .ref (ad 0)), (1, .int x1), (2, .int x2), (3, .long x3)]) hx hb (dq da_X12_trap 34 rfl) hl (by decide) rfl (fun ls hl => ?_)
  refine lv_iload_n hx hb (dq da_X12_trap 35 rfl) rfl (lv_at hl 2 rfl) ?_
  refine lv_if_eq (tgt := 78) hx hb (dq da_X12_trap 36 rfl) (by decide) (fun c4 => ?_) (fun c4 => ?_)
  · have h := it c4 h
    refine lv_iload_n hx hb (dq da_X12_trap 42 rfl) rfl (lv_at hl 3 rfl) ?_
    refine lv_i2l (v := x2.toInt64) hx hb (dq da_X12_trap 43 rfl) rfl ?_
    exact b_X12_trap_b80 E hr hlk h (lv_sub hl [1, 2, 3, 4, 0] rfl) w
  · have h := ie c4 h
    refine lv_ldc2 hx hb hown (hts _ w_1361) (dq da_X12_trap 37 rfl) ?_
    refine lv_iload_n hx hb (dq da_X12_trap 38 rfl) rfl (lv_at hl 3 rfl) ?_
    refine lv_i2l (v := x2.toInt64) hx hb (dq da_X12_trap 39 rfl) rfl ?_
    refine lv_ladd hx hb (dq da_X12_trap 40 rfl) ?_
    refine lv_goto (tgt := 80) hx hb (dq da_X12_trap 41 rfl) (by decide) ?_
    exact b_X12_trap_b80 E hr hlk h (lv_sub hl [1, 2, 3, 4, 0] rfl) w
def f_X12_trap_b48 (x1 : Int32) (x2 : Int32) (x3 : Int64) (u : St) : St := if x1 = (0 : Int32) then (f_X12_trap_b63 x1 x2 x3 (gL u 5) u) else (f_X12_trap_b63 x1 x2 x3 (gL u 6) u)
set_option maxRecDepth 100000 in
set_option maxHeartbeats 4000000 in
theorem b_X12_trap_b48 {p : Program} {l : Launch} {e : Env} {s : State} {m : MethodId} {args : Array Value} {below : List Frame} {meth : Method} {c : Code} {D : va_G} {cy : ClassId × ClassId × ClassId} {ad : Nat → Nat} {A : Nat → Prop} (E : CallFix p m c cX12_trap 9 s args gw RX12) (hr : meth.sig.returnType = none) (hlk : meth.locks = false) {x1 : Int32} {x2 : Int32} {x3 : Int64} {u : St} {u' : St} (h : f_X12_trap_b48 x1 x2 x3 u = u') {ls : Array Slot} {H : Heap} {locs : List Loc} {rr : Nat → Nat} (hl : lv_has ls 9 [(0, .ref (ad 0)), (1, .int x1), (2, .int x2), (3, .long x3)]) (w : WX (wM cy ad) D cy rr u A s H locs) : Wx (wM cy ad) D p l e 1 22 0 s m args below meth c A u' none H locs 0 48 ls [] := by
  have hx := E.1
  have hb := E.2.1
  have hown := E.2.2.2.1
  have hts := E.2.2.2.2
  refine lv_iload_n hx hb (dq da_X12_trap 27 rfl) rfl (lv_at hl 1 rfl) ?_
  refine lv_if_eq (tgt := 59) hx hb (dq da_X12_trap 28 rfl) (by decide) (fun c3 => ?_) (fun c3 => ?_)
  · have h := it c3 h
    refine lv_aload_n hx hb (dq da_X12_trap 32 rfl) rfl (lv_at hl 0 rfl) ?_
    refine gt_wM_0_exceptions E w w_1114 (dq da_X12_trap 33 rfl) ?_
    exact b_X12_trap_b63 E hr hlk h (lv_sub hl [0, 1, 2, 3] rfl) w
  · have h := ie c3 h
    refine lv_aload_n hx hb (dq da_X12_trap 29 rfl) rfl (lv_at hl 0 rfl) ?_
    refine gt_wM_0_interruptsDown E w w_1115 (dq da_X12_trap 30 rfl) ?_
    refine lv_goto (tgt := 63) hx hb (dq da_X12_trap 31 rfl) (by decide) ?_
    exact b_X12_trap_b63 E hr hlk h (lv_sub hl [0, 1, 2, 3] rfl) w
def f_X12_trap_b18 (x1 : Int32) (x2 : Int32) (x3 : Int64) (s0 : Int32) (u : St) : St := if x1 = (0 : Int32) then (f_X12_trap_b48 x1 x2 x3 (sI (sI u 15 s0) 13 ((gI (sI u 15 s0) 13) + (1 : Int32)))) else (f_X12_trap_b48 x1 x2 x3 (sI (sI u 15 s0) 14 ((gI (sI u 15 s0) 14) + (1 : Int32))))
set_option maxRecDepth 100000 in
set_option maxHeartbeats 4000000 in
theorem b_X12_trap_b18 {p : Program} {l : Launch} {e : Env} {s : State} {m : MethodId} {args : Array Value} {below : List Frame} {meth : Method} {c : Code} {D : va_G} {cy : ClassId × ClassId × ClassId} {ad : Nat → Nat} {A : Nat → Prop} (E : CallFix p m c cX12_trap 9 s args gw RX12) (hr : meth.sig.returnType = none) (hlk : meth.locks = false) {x1 : Int32} {x2 : Int32} {x3 : Int64} {s0 : Int32} {u : St} {u' : St} (h : f_X12_trap_b18 x1 x2 x3 s0 u = u') {ls : Array Slot} {H : Heap} {locs : List Loc} {rr : Nat → Nat} (hl : lv_has ls 9 [(0, .ref (ad 0)), (1, .int x1), (2, .int x2), (3, .long x3)]) (w : WX (wM cy ad) D cy rr u A s H locs) : Wx (wM cy ad) D p l e 1 22 0 s m args below meth c A u' none H locs 0 18 ls [.int s0, .ref (ad 0)] := by
  have hx := E.1
  have hb := E.2.1
  have hown := E.2.2.2.1
  have hts := E.2.2.2.2
  refine pt_wM_0_latest E w w_1135 (dq da_X12_trap 11 rfl) (fun H locs w => ?_)
  refine lv_iload_n hx hb (dq da_X12_trap 12 rfl) rfl (lv_at hl 1 rfl) ?_
  refine lv_if_eq (tgt := 38) hx hb (dq da_X12_trap 13 rfl) (by decide) (fun c2 => ?_) (fun c2 => ?_)
  · have h := it c2 h
    refine lv_aload_n hx hb (dq da_X12_trap 21 rfl) rfl (lv_at hl 0 rfl) ?_
    refine lv_dup hx hb (dq da_X12_trap 22 rfl) rfl ?_
    refine gt_wM_0_traps E w w_1133 (dq da_X12_trap 23 rfl) ?_
    refine lv_iconst (v := 1) hx hb (dq da_X12_trap 24 rfl) rfl ?_
    refine lv_iadd hx hb (dq da_X12_trap 25 rfl) ?_
    refine pt_wM_0_traps E w w_1133 (dq da_X12_trap 26 rfl) (fun H locs w => ?_)
    exact b_X12_trap_b48 E hr hlk h (lv_sub hl [0, 1, 2, 3] rfl) w
  · have h := ie c2 h
    refine lv_aload_n hx hb (dq da_X12_trap 14 rfl) rfl (lv_at hl 0 rfl) ?_
    refine lv_dup hx hb (dq da_X12_trap 15 rfl) rfl ?_
    refine gt_wM_0_interrupts E w w_1134 (dq da_X12_trap 16 rfl) ?_
    refine lv_iconst (v := 1) hx hb (dq da_X12_trap 17 rfl) rfl ?_
    refine lv_iadd hx hb (dq da_X12_trap 18 rfl) ?_
    refine pt_wM_0_interrupts E w w_1134 (dq da_X12_trap 19 rfl) (fun H locs w => ?_)
    refine lv_goto (tgt := 48) hx hb (dq da_X12_trap 20 rfl) (by decide) ?_
    exact b_X12_trap_b48 E hr hlk h (lv_sub hl [0, 1, 2, 3] rfl) w
def f_X12_trap (x1 : Int32) (x2 : Int32) (x3 : Int64) (u : St) : St := if x1 = (0 : Int32) then (f_X12_trap_b18 x1 x2 x3 x2 (sI u 3 (0 : Int32))) else (f_X12_trap_b18 x1 x2 x3 ((64 : Int32) + x2) (sI u 3 (0 : Int32)))
set_option maxRecDepth 100000 in
set_option maxHeartbeats 4000000 in
theorem c_X12_trap (l : Launch) (D : va_G) (cy : ClassId × ClassId × ClassId) (ad : Nat → Nat) (x1 : Int32) (x2 : Int32) (x3 : Int64) (u : St) : MX (wM cy ad) D cy l yX12_trap cX12_trap 9 (none) 1 22 0 [.ref (ad 0), .int x1, .int x2, .long x3] u (f_X12_trap x1 x2 x3 u) none := by
  refine entX (by decide +kernel) (Nat.le_of_ble_eq_true rfl) ?_
  intro p e s m args below meth c ls rr A E hr hlk hl w
  have hl : lv_has ls 9 [(0, .ref (ad 0)), (1, .int x1), (2, .int x2), (3, .long x3)] := hl
  generalize h : f_X12_trap x1 x2 x3 u = u'
  have hx := E.1
  have hb := E.2.1
  have hown := E.2.2.2.1
  have hts := E.2.2.2.2
  refine lv_aload_n hx hb (dq da_X12_trap 0 rfl) rfl (lv_at hl 0 rfl) ?_
  refine lv_iconst (v := 0) hx hb (dq da_X12_trap 1 rfl) rfl ?_
  refine pt_wM_0_heldSize E w w_1095 (dq da_X12_trap 2 rfl) (fun H locs w => ?_)
  refine lv_aload_n hx hb (dq da_X12_trap 3 rfl) rfl (lv_at hl 0 rfl) ?_
  refine lv_iload_n hx hb (dq da_X12_trap 4 rfl) rfl (lv_at hl 1 rfl) ?_
  refine lv_if_eq (tgt := 17) hx hb (dq da_X12_trap 5 rfl) (by decide) (fun c1 => ?_) (fun c1 => ?_)
  · have h := it c1 h
    refine lv_iload_n hx hb (dq da_X12_trap 10 rfl) rfl (lv_at hl 2 rfl) ?_
    exact b_X12_trap_b18 E hr hlk h (lv_sub hl [0, 1, 2, 3] rfl) w
  · have h := ie c1 h
    refine lv_bipush (v := 64) hx hb (dq da_X12_trap 6 rfl) rfl ?_
    refine lv_iload_n hx hb (dq da_X12_trap 7 rfl) rfl (lv_at hl 2 rfl) ?_
    refine lv_iadd hx hb (dq da_X12_trap 8 rfl) ?_
    refine lv_goto (tgt := 18) hx hb (dq da_X12_trap 9 rfl) (by decide) ?_
    exact b_X12_trap_b18 E hr hlk h (lv_sub hl [0, 1, 2, 3] rfl) w
def dl_X12_taken : List (Nat × Instr × Nat) := [(0, .aload_n 0, 1), (1, .invokevirtual 279, 3), (4, .aload_n 0, 1), (5, .getfield 258, 3), (8, .land, 1), (9, .lstore_n 1, 1), (10, .iconst 0, 1), (11, .istore_n 3, 1), (12, .iload_n 3, 1), (13, .bipush 6, 2), (15, .if_icmp .ge 59, 3), (18, .lconst 1, 1), (19, .iload_n 3, 1), (20, .invokestatic 350, 3), (23, .lshl, 1), (24, .lstore 4, 2), (26, .lload_n 1, 1), (27, .lload 4, 2), (29, .land, 1), (30, .lconst 0, 1), (31, .lcmp, 1), (32, .ifCond .eq 36, 3), (35, .aload_n 0, 1), (36, .getfield 255, 3), (39, .lload 4, 2), (41, .land, 1), (42, .lconst 0, 1), (43, .lcmp, 1), (44, .ifCond .ne 24, 3), (47, .aload_n 0, 1), (48, .getfield 24, 3), (51, .iconst 3, 1), (52, .if_icmp .lt 11, 3), (55, .aload_n 0, 1), (56, .iconst 3, 1), (57, .invokevirtual 192, 3), (60, .ifCond .eq 8, 3), (63, .iload_n 3, 1), (64, .invokestatic 350, 3), (67, .ireturn, 1), (68, .iinc 3 1, 3), (71, .goto (-59), 3), (74, .iconst 0, 1), (75, .istore_n 3, 1), (76, .iload_n 3, 1), (77, .bipush 6, 2), (79, .if_icmp .ge 66, 3), (82, .lconst 1, 1), (83, .iload_n 3, 1), (84, .invokestatic 350, 3), (87, .lshl, 1), (88, .lstore 4, 2), (90, .lload_n 1, 1), (91, .lload 4, 2), (93, .land, 1), (94, .lconst 0, 1), (95, .lcmp, 1), (96, .ifCond .eq 43, 3), (99, .aload_n 0, 1), (100, .getfield 255, 3), (103, .lload 4, 2), (105, .land, 1), (106, .lconst 0, 1), (107, .lcmp, 1), (108, .ifCond .eq 31, 3), (111, .aload_n 0, 1), (112, .getfield 24, 3), (115, .ifCond .eq 19, 3), (118, .aload_n 0, 1), (119, .getfield 24, 3), (122, .iconst 1, 1), (123, .if_icmp .ne 16, 3), (126, .aload_n 0, 1), (127, .iconst 1, 1), (128, .invokevirtual 192, 3), (131, .ifCond .eq 8, 3), (134, .iload_n 3, 1), (135, .invokestatic 350, 3), (138, .ireturn, 1), (139, .iinc 3 1, 3), (142, .goto (-66), 3), (145, .iconst (-1), 1), (146, .ireturn, 1)]
theorem da_X12_taken : dkL cX12_taken dl_X12_taken = true := by decide +kernel
def f_X12_taken_b139 (k76 : Int64 → Int32 → St → Option (Int32)) (x1 : Int64) (x3 : Int32) (u : St) : Option (Int32) := k76 x1 (x3 + (1 : Int32)) u
set_option maxRecDepth 100000 in
set_option maxHeartbeats 4000000 in
theorem b_X12_taken_b139 {p : Program} {l : Launch} {e : Env} {s : State} {m : MethodId} {args : Array Value} {below : List Frame} {meth : Method} {c : Code} {D : va_G} {cy : ClassId × ClassId × ClassId} {ad : Nat → Nat} {A : Nat → Prop} (E : CallFix p m c cX12_taken 6 s args gw RX12) (hr : meth.sig.returnType = some .int) (hlk : meth.locks = false) {k76 : Int64 → Int32 → St → Option (Int32)} (hk76 : ∀ (x1 : Int64) (x3 : Int32) (u : St) (r : Int32), k76 x1 x3 u = some r → ∀ (ls : Array Slot) (H : Heap) (locs : List Loc) (rr : Nat → Nat), lv_has ls 6 [(0, .ref (ad 0)), (1, .long x1), (3, .int x3)] → WX (wM cy ad) D cy rr u A s H locs → Wx (wM cy ad) D p l e 2 43 0 s m args below meth c A u (some (.int r)) H locs 0 76 ls []) {x1 : Int64} {x3 : Int32} {u : St} {r : Int32} (h : f_X12_taken_b139 k76 x1 x3 u = some r) {ls : Array Slot} {H : Heap} {locs : List Loc} {rr : Nat → Nat} (hl : lv_has ls 6 [(0, .ref (ad 0)), (1, .long x1), (3, .int x3)]) (w : WX (wM cy ad) D cy rr u A s H locs) : Wx (wM cy ad) D p l e 2 43 0 s m args below meth c A u (some (.int r)) H locs 0 139 ls [] := by
  have hx := E.1
  have hb := E.2.1
  have hown := E.2.2.2.1
  have hts := E.2.2.2.2
  refine lv_iinc (v := (x3 + (1 : Int32))) (lv' := [(3, .int (x3 + (1 : Int32))), (0, .ref (ad 0)), (1, .long x1)]) hx hb (dq da_X12_taken 79 rfl) hl (k := 2) rfl rfl (by decide) rfl (fun ls hl => ?_)
  refine lv_goto (tgt := 76) hx hb (dq da_X12_taken 80 rfl) (by decide) ?_
  exact hk76 _ _ _ _ h ls _ _ _ (lv_sub hl [1, 2, 0] rfl) w
def f_X12_taken_b134 (x3 : Int32) (u : St) : Option (Int32) := some (f_X12_ranked x3)
set_option maxRecDepth 100000 in
set_option maxHeartbeats 4000000 in
theorem b_X12_taken_b134 {p : Program} {l : Launch} {e : Env} {s : State} {m : MethodId} {args : Array Value} {below : List Frame} {meth : Method} {c : Code} {D : va_G} {cy : ClassId × ClassId × ClassId} {ad : Nat → Nat} {A : Nat → Prop} (E : CallFix p m c cX12_taken 6 s args gw RX12) (hr : meth.sig.returnType = some .int) (hlk : meth.locks = false) {x3 : Int32} {u : St} {r : Int32} (h : f_X12_taken_b134 x3 u = some r) {ls : Array Slot} {H : Heap} {locs : List Loc} {rr : Nat → Nat} (hl : lv_has ls 6 [(3, .int x3)]) (w : WX (wM cy ad) D cy rr u A s H locs) : Wx (wM cy ad) D p l e 2 43 0 s m args below meth c A u (some (.int r)) H locs 0 134 ls [] := by
  have hx := E.1
  have hb := E.2.1
  have hown := E.2.2.2.1
  have hts := E.2.2.2.2
  refine lv_iload_n hx hb (dq da_X12_taken 76 rfl) rfl (lv_at hl 0 rfl) ?_
  refine callP E (c_X12_ranked l _ ) w_1411 w_1412 w_10 w_1413 hd_X12_ranked rfl hl.1 rfl (Nat.le_of_ble_eq_true rfl) ⟨Nat.le_of_ble_eq_true rfl, Nat.le_of_ble_eq_true rfl⟩ (by decide) (dq da_X12_taken 77 rfl) ?_
  exact xret_i E hr hlk w (by decide) (os h) rfl (dq da_X12_taken 78 rfl)
def f_X12_taken_b76_s (k76 : Int64 → Int32 → St → Option (Int32)) (x1 : Int64) (x3 : Int32) (u : St) : Option (Int32) := if (6 : Int32) ≤ x3 then (some (-1 : Int32)) else (if (x1 &&& (j_lshl (1 : Int64) (f_X12_ranked x3))) = (0 : Int64) then (f_X12_taken_b139 k76 x1 x3 u) else (if ((gL u 6) &&& (j_lshl (1 : Int64) (f_X12_ranked x3))) = (0 : Int64) then (f_X12_taken_b139 k76 x1 x3 u) else (if (gI u 2) = (0 : Int32) then (f_X12_taken_b134 x3 u) else (if (gI u 2) = (1 : Int32) then (if (f_X12_is (1 : Int32) u) = (0 : Int32) then (f_X12_taken_b139 k76 x1 x3 u) else (f_X12_taken_b134 x3 u)) else (f_X12_taken_b139 k76 x1 x3 u)))))
set_option maxRecDepth 100000 in
set_option maxHeartbeats 4000000 in
theorem b_X12_taken_b76_s {p : Program} {l : Launch} {e : Env} {s : State} {m : MethodId} {args : Array Value} {below : List Frame} {meth : Method} {c : Code} {D : va_G} {cy : ClassId × ClassId × ClassId} {ad : Nat → Nat} {A : Nat → Prop} (E : CallFix p m c cX12_taken 6 s args gw RX12) (hr : meth.sig.returnType = some .int) (hlk : meth.locks = false) {k76 : Int64 → Int32 → St → Option (Int32)} (hk76 : ∀ (x1 : Int64) (x3 : Int32) (u : St) (r : Int32), k76 x1 x3 u = some r → ∀ (ls : Array Slot) (H : Heap) (locs : List Loc) (rr : Nat → Nat), lv_has ls 6 [(0, .ref (ad 0)), (1, .long x1), (3, .int x3)] → WX (wM cy ad) D cy rr u A s H locs → Wx (wM cy ad) D p l e 2 43 0 s m args below meth c A u (some (.int r)) H locs 0 76 ls []) {x1 : Int64} {x3 : Int32} {u : St} {r : Int32} (h : f_X12_taken_b76_s k76 x1 x3 u = some r) {ls : Array Slot} {H : Heap} {locs : List Loc} {rr : Nat → Nat} (hl : lv_has ls 6 [(0, .ref (ad 0)), (1, .long x1), (3, .int x3)]) (w : WX (wM cy ad) D cy rr u A s H locs) : Wx (wM cy ad) D p l e 2 43 0 s m args below meth c A u (some (.int r)) H locs 0 76 ls [] := by
  have hx := E.1
  have hb := E.2.1
  have hown := E.2.2.2.1
  have hts := E.2.2.2.2
  refine lv_iload_n hx hb (dq da_X12_taken 44 rfl) rfl (lv_at hl 2 rfl) ?_
  refine lv_bipush (v := 6) hx hb (dq da_X12_taken 45 rfl) rfl ?_
  refine lv_icmp_ge (tgt := 145) hx hb (dq da_X12_taken 46 rfl) (by decide) (fun c4 => ?_) (fun c4 => ?_)
  · have h := it c4 h
    refine lv_iconst (v := (-1)) hx hb (dq da_X12_taken 81 rfl) rfl ?_
    exact xret_i E hr hlk w (by decide) (os h) rfl (dq da_X12_taken 82 rfl)
  · have h := ie c4 h
    refine lv_lconst (v := 1) hx hb (dq da_X12_taken 47 rfl) rfl ?_
    refine lv_iload_n hx hb (dq da_X12_taken 48 rfl) rfl (lv_at hl 2 rfl) ?_
    refine callP E (c_X12_ranked l _ ) w_1411 w_1412 w_10 w_1413 hd_X12_ranked rfl hl.1 rfl (Nat.le_of_ble_eq_true rfl) ⟨Nat.le_of_ble_eq_true rfl, Nat.le_of_ble_eq_true rfl⟩ (by decide) (dq da_X12_taken 49 rfl) ?_
    refine lv_lshl (v := (j_lshl (1 : Int64) (f_X12_ranked x3))) hx hb (dq da_X12_taken 50 rfl) rfl ?_
    refine lv_lstore (lv' := [(4, .long (j_lshl (1 : Int64) (f_X12_ranked x3))), (0, .ref (ad 0)), (1, .long x1), (3, .int x3)]) hx hb (dq da_X12_taken 51 rfl) hl (by decide) rfl (fun ls hl => ?_)
    refine lv_lload_n hx hb (dq da_X12_taken 52 rfl) rfl (lv_at hl 2 rfl) ?_
    refine lv_lload hx hb (dq da_X12_taken 53 rfl) (lv_at hl 0 rfl) ?_
    refine lv_land hx hb (dq da_X12_taken 54 rfl) ?_
    refine lv_lconst (v := 0) hx hb (dq da_X12_taken 55 rfl) rfl ?_
    refine lc_eq (tgt := 139) hx hb (dq da_X12_taken 56 rfl) (dq da_X12_taken 57 rfl) (by decide) (fun c5 => ?_) (fun c5 => ?_)
    · have h := it c5 h
      exact b_X12_taken_b139 E hr hlk hk76 h (lv_sub hl [1, 2, 3] rfl) w
    · have h := ie c5 h
      refine lv_aload_n hx hb (dq da_X12_taken 58 rfl) rfl (lv_at hl 1 rfl) ?_
      refine gt_wM_0_interruptsDown E w w_1115 (dq da_X12_taken 59 rfl) ?_
      refine lv_lload hx hb (dq da_X12_taken 60 rfl) (lv_at hl 0 rfl) ?_
      refine lv_land hx hb (dq da_X12_taken 61 rfl) ?_
      refine lv_lconst (v := 0) hx hb (dq da_X12_taken 62 rfl) rfl ?_
      refine lc_eq (tgt := 139) hx hb (dq da_X12_taken 63 rfl) (dq da_X12_taken 64 rfl) (by decide) (fun c6 => ?_) (fun c6 => ?_)
      · have h := it c6 h
        exact b_X12_taken_b139 E hr hlk hk76 h (lv_sub hl [1, 2, 3] rfl) w
      · have h := ie c6 h
        refine lv_aload_n hx hb (dq da_X12_taken 65 rfl) rfl (lv_at hl 1 rfl) ?_
        refine gt_wM_0_privilege E w w_1093 (dq da_X12_taken 66 rfl) ?_
        refine lv_if_eq (tgt := 134) hx hb (dq da_X12_taken 67 rfl) (by decide) (fun c7 => ?_) (fun c7 => ?_)
        · have h := it c7 h
          exact b_X12_taken_b134 E hr hlk h (lv_sub hl [3] rfl) w
        · have h := ie c7 h
          refine lv_aload_n hx hb (dq da_X12_taken 68 rfl) rfl (lv_at hl 1 rfl) ?_
          refine gt_wM_0_privilege E w w_1093 (dq da_X12_taken 69 rfl) ?_
          refine lv_iconst (v := 1) hx hb (dq da_X12_taken 70 rfl) rfl ?_
          refine lv_icmp_ne (tgt := 139) hx hb (dq da_X12_taken 71 rfl) (by decide) (fun c8 => ?_) (fun c8 => ?_)
          · have h := ie c8 h
            exact b_X12_taken_b139 E hr hlk hk76 h (lv_sub hl [1, 2, 3] rfl) w
          · have h := it c8 h
            refine lv_aload_n hx hb (dq da_X12_taken 72 rfl) rfl (lv_at hl 1 rfl) ?_
            refine lv_iconst (v := 1) hx hb (dq da_X12_taken 73 rfl) rfl ?_
            refine cV1 E (c_X12_is l D cy ad _ _ ) w_1414 w_1416 w_p56 w_10 w_1417 rfl hd_X12_is rfl hl.1 rfl (Nat.le_of_ble_eq_true rfl) ⟨Nat.le_of_ble_eq_true rfl, Nat.le_of_ble_eq_true rfl⟩ (by decide) w (rc_wM_0 w) (dq da_X12_taken 74 rfl) (fun H locs rr w => ?_)
            refine lv_if_eq (tgt := 139) hx hb (dq da_X12_taken 75 rfl) (by decide) (fun c9 => ?_) (fun c9 => ?_)
            · have h := it c9 h
              exact b_X12_taken_b139 E hr hlk hk76 h (lv_sub hl [1, 2, 3] rfl) w
            · have h := ie c9 h
              exact b_X12_taken_b134 E hr hlk h (lv_sub hl [3] rfl) w
def f_X12_taken_b76 : Nat → Int64 → Int32 → St → Option (Int32)
  | 0 => fun _ _ _ => none
  | n + 1 => f_X12_taken_b76_s (f_X12_taken_b76 n)
theorem b_X12_taken_b76 {p : Program} {l : Launch} {e : Env} {s : State} {m : MethodId} {args : Array Value} {below : List Frame} {meth : Method} {c : Code} {D : va_G} {cy : ClassId × ClassId × ClassId} {ad : Nat → Nat} {A : Nat → Prop} (E : CallFix p m c cX12_taken 6 s args gw RX12) (hr : meth.sig.returnType = some .int) (hlk : meth.locks = false) : ∀ n : Nat, ∀ (x1 : Int64) (x3 : Int32) (u : St) (r : Int32), f_X12_taken_b76 n x1 x3 u = some r → ∀ (ls : Array Slot) (H : Heap) (locs : List Loc) (rr : Nat → Nat), lv_has ls 6 [(0, .ref (ad 0)), (1, .long x1), (3, .int x3)] → WX (wM cy ad) D cy rr u A s H locs → Wx (wM cy ad) D p l e 2 43 0 s m args below meth c A u (some (.int r)) H locs 0 76 ls [] := by
  intro n
  induction n with
  | zero => intro x1 x3 u r h; cases h
  | succ n ih => intro x1 x3 u r h ls H locs rr hl w; exact b_X12_taken_b76_s E hr hlk ih h hl w
def f_X12_taken_b68 (k12 : Int64 → Int32 → St → Option (Int32)) (x1 : Int64) (x3 : Int32) (u : St) : Option (Int32) := k12 x1 (x3 + (1 : Int32)) u
set_option maxRecDepth 100000 in
set_option maxHeartbeats 4000000 in
theorem b_X12_taken_b68 {p : Program} {l : Launch} {e : Env} {s : State} {m : MethodId} {args : Array Value} {below : List Frame} {meth : Method} {c : Code} {D : va_G} {cy : ClassId × ClassId × ClassId} {ad : Nat → Nat} {A : Nat → Prop} (E : CallFix p m c cX12_taken 6 s args gw RX12) (hr : meth.sig.returnType = some .int) (hlk : meth.locks = false) {k12 : Int64 → Int32 → St → Option (Int32)} (hk12 : ∀ (x1 : Int64) (x3 : Int32) (u : St) (r : Int32), k12 x1 x3 u = some r → ∀ (ls : Array Slot) (H : Heap) (locs : List Loc) (rr : Nat → Nat), lv_has ls 6 [(0, .ref (ad 0)), (1, .long x1), (3, .int x3)] → WX (wM cy ad) D cy rr u A s H locs → Wx (wM cy ad) D p l e 2 43 0 s m args below meth c A u (some (.int r)) H locs 0 12 ls []) {x1 : Int64} {x3 : Int32} {u : St} {r : Int32} (h : f_X12_taken_b68 k12 x1 x3 u = some r) {ls : Array Slot} {H : Heap} {locs : List Loc} {rr : Nat → Nat} (hl : lv_has ls 6 [(0, .ref (ad 0)), (1, .long x1), (3, .int x3)]) (w : WX (wM cy ad) D cy rr u A s H locs) : Wx (wM cy ad) D p l e 2 43 0 s m args below meth c A u (some (.int r)) H locs 0 68 ls [] := by
  have hx := E.1
  have hb := E.2.1
  have hown := E.2.2.2.1
  have hts := E.2.2.2.2
  refine lv_iinc (v := (x3 + (1 : Int32))) (lv' := [(3, .int (x3 + (1 : Int32))), (0, .ref (ad 0)), (1, .long x1)]) hx hb (dq da_X12_taken 40 rfl) hl (k := 2) rfl rfl (by decide) rfl (fun ls hl => ?_)
  refine lv_goto (tgt := 12) hx hb (dq da_X12_taken 41 rfl) (by decide) ?_
  exact hk12 _ _ _ _ h ls _ _ _ (lv_sub hl [1, 2, 0] rfl) w
def f_X12_taken_b63 (x3 : Int32) (u : St) : Option (Int32) := some (f_X12_ranked x3)
set_option maxRecDepth 100000 in
set_option maxHeartbeats 4000000 in
theorem b_X12_taken_b63 {p : Program} {l : Launch} {e : Env} {s : State} {m : MethodId} {args : Array Value} {below : List Frame} {meth : Method} {c : Code} {D : va_G} {cy : ClassId × ClassId × ClassId} {ad : Nat → Nat} {A : Nat → Prop} (E : CallFix p m c cX12_taken 6 s args gw RX12) (hr : meth.sig.returnType = some .int) (hlk : meth.locks = false) {x3 : Int32} {u : St} {r : Int32} (h : f_X12_taken_b63 x3 u = some r) {ls : Array Slot} {H : Heap} {locs : List Loc} {rr : Nat → Nat} (hl : lv_has ls 6 [(3, .int x3)]) (w : WX (wM cy ad) D cy rr u A s H locs) : Wx (wM cy ad) D p l e 2 43 0 s m args below meth c A u (some (.int r)) H locs 0 63 ls [] := by
  have hx := E.1
  have hb := E.2.1
  have hown := E.2.2.2.1
  have hts := E.2.2.2.2
  refine lv_iload_n hx hb (dq da_X12_taken 37 rfl) rfl (lv_at hl 0 rfl) ?_
  refine callP E (c_X12_ranked l _ ) w_1411 w_1412 w_10 w_1413 hd_X12_ranked rfl hl.1 rfl (Nat.le_of_ble_eq_true rfl) ⟨Nat.le_of_ble_eq_true rfl, Nat.le_of_ble_eq_true rfl⟩ (by decide) (dq da_X12_taken 38 rfl) ?_
  exact xret_i E hr hlk w (by decide) (os h) rfl (dq da_X12_taken 39 rfl)
def f_X12_taken_b12_s (k12 : Int64 → Int32 → St → Option (Int32)) (x1 : Int64) (x3 : Int32) (u : St) : Option (Int32) := if (6 : Int32) ≤ x3 then (f_X12_taken_b76 FU x1 (0 : Int32) u) else (if (x1 &&& (j_lshl (1 : Int64) (f_X12_ranked x3))) = (0 : Int64) then (f_X12_taken_b68 k12 x1 x3 u) else (if ((gL u 6) &&& (j_lshl (1 : Int64) (f_X12_ranked x3))) = (0 : Int64) then (if (gI u 2) < (3 : Int32) then (f_X12_taken_b63 x3 u) else (if (f_X12_is (3 : Int32) u) = (0 : Int32) then (f_X12_taken_b68 k12 x1 x3 u) else (f_X12_taken_b63 x3 u))) else (f_X12_taken_b68 k12 x1 x3 u)))
set_option maxRecDepth 100000 in
set_option maxHeartbeats 4000000 in
theorem b_X12_taken_b12_s {p : Program} {l : Launch} {e : Env} {s : State} {m : MethodId} {args : Array Value} {below : List Frame} {meth : Method} {c : Code} {D : va_G} {cy : ClassId × ClassId × ClassId} {ad : Nat → Nat} {A : Nat → Prop} (E : CallFix p m c cX12_taken 6 s args gw RX12) (hr : meth.sig.returnType = some .int) (hlk : meth.locks = false) {k12 : Int64 → Int32 → St → Option (Int32)} (hk12 : ∀ (x1 : Int64) (x3 : Int32) (u : St) (r : Int32), k12 x1 x3 u = some r → ∀ (ls : Array Slot) (H : Heap) (locs : List Loc) (rr : Nat → Nat), lv_has ls 6 [(0, .ref (ad 0)), (1, .long x1), (3, .int x3)] → WX (wM cy ad) D cy rr u A s H locs → Wx (wM cy ad) D p l e 2 43 0 s m args below meth c A u (some (.int r)) H locs 0 12 ls []) {x1 : Int64} {x3 : Int32} {u : St} {r : Int32} (h : f_X12_taken_b12_s k12 x1 x3 u = some r) {ls : Array Slot} {H : Heap} {locs : List Loc} {rr : Nat → Nat} (hl : lv_has ls 6 [(0, .ref (ad 0)), (1, .long x1), (3, .int x3)]) (w : WX (wM cy ad) D cy rr u A s H locs) : Wx (wM cy ad) D p l e 2 43 0 s m args below meth c A u (some (.int r)) H locs 0 12 ls [] := by
  have hx := E.1
  have hb := E.2.1
  have hown := E.2.2.2.1
  have hts := E.2.2.2.2
  refine lv_iload_n hx hb (dq da_X12_taken 8 rfl) rfl (lv_at hl 2 rfl) ?_
  refine lv_bipush (v := 6) hx hb (dq da_X12_taken 9 rfl) rfl ?_
  refine lv_icmp_ge (tgt := 74) hx hb (dq da_X12_taken 10 rfl) (by decide) (fun c3 => ?_) (fun c3 => ?_)
  · have h := it c3 h
    refine lv_iconst (v := 0) hx hb (dq da_X12_taken 42 rfl) rfl ?_
    refine lv_istore_n (lv' := [(3, .int (0 : Int32)), (0, .ref (ad 0)), (1, .long x1)]) hx hb (dq da_X12_taken 43 rfl) rfl hl (by decide) rfl (fun ls hl => ?_)
    exact b_X12_taken_b76 E hr hlk FU _ _ _ _ h ls _ _ _ (lv_sub hl [1, 2, 0] rfl) w
  · have h := ie c3 h
    refine lv_lconst (v := 1) hx hb (dq da_X12_taken 11 rfl) rfl ?_
    refine lv_iload_n hx hb (dq da_X12_taken 12 rfl) rfl (lv_at hl 2 rfl) ?_
    refine callP E (c_X12_ranked l _ ) w_1411 w_1412 w_10 w_1413 hd_X12_ranked rfl hl.1 rfl (Nat.le_of_ble_eq_true rfl) ⟨Nat.le_of_ble_eq_true rfl, Nat.le_of_ble_eq_true rfl⟩ (by decide) (dq da_X12_taken 13 rfl) ?_
    refine lv_lshl (v := (j_lshl (1 : Int64) (f_X12_ranked x3))) hx hb (dq da_X12_taken 14 rfl) rfl ?_
    refine lv_lstore (lv' := [(4, .long (j_lshl (1 : Int64) (f_X12_ranked x3))), (0, .ref (ad 0)), (1, .long x1), (3, .int x3)]) hx hb (dq da_X12_taken 15 rfl) hl (by decide) rfl (fun ls hl => ?_)
    refine lv_lload_n hx hb (dq da_X12_taken 16 rfl) rfl (lv_at hl 2 rfl) ?_
    refine lv_lload hx hb (dq da_X12_taken 17 rfl) (lv_at hl 0 rfl) ?_
    refine lv_land hx hb (dq da_X12_taken 18 rfl) ?_
    refine lv_lconst (v := 0) hx hb (dq da_X12_taken 19 rfl) rfl ?_
    refine lc_eq (tgt := 68) hx hb (dq da_X12_taken 20 rfl) (dq da_X12_taken 21 rfl) (by decide) (fun c10 => ?_) (fun c10 => ?_)
    · have h := it c10 h
      exact b_X12_taken_b68 E hr hlk hk12 h (lv_sub hl [1, 2, 3] rfl) w
    · have h := ie c10 h
      refine lv_aload_n hx hb (dq da_X12_taken 22 rfl) rfl (lv_at hl 1 rfl) ?_
      refine gt_wM_0_interruptsDown E w w_1115 (dq da_X12_taken 23 rfl) ?_
      refine lv_lload hx hb (dq da_X12_taken 24 rfl) (lv_at hl 0 rfl) ?_
      refine lv_land hx hb (dq da_X12_taken 25 rfl) ?_
      refine lv_lconst (v := 0) hx hb (dq da_X12_taken 26 rfl) rfl ?_
      refine lc_ne (tgt := 68) hx hb (dq da_X12_taken 27 rfl) (dq da_X12_taken 28 rfl) (by decide) (fun c11 => ?_) (fun c11 => ?_)
      · have h := ie c11 h
        exact b_X12_taken_b68 E hr hlk hk12 h (lv_sub hl [1, 2, 3] rfl) w
      · have h := it c11 h
        refine lv_aload_n hx hb (dq da_X12_taken 29 rfl) rfl (lv_at hl 1 rfl) ?_
        refine gt_wM_0_privilege E w w_1093 (dq da_X12_taken 30 rfl) ?_
        refine lv_iconst (v := 3) hx hb (dq da_X12_taken 31 rfl) rfl ?_
        refine lv_icmp_lt (tgt := 63) hx hb (dq da_X12_taken 32 rfl) (by decide) (fun c12 => ?_) (fun c12 => ?_)
        · have h := it c12 h
          exact b_X12_taken_b63 E hr hlk h (lv_sub hl [3] rfl) w
        · have h := ie c12 h
          refine lv_aload_n hx hb (dq da_X12_taken 33 rfl) rfl (lv_at hl 1 rfl) ?_
          refine lv_iconst (v := 3) hx hb (dq da_X12_taken 34 rfl) rfl ?_
          refine cV1 E (c_X12_is l D cy ad _ _ ) w_1414 w_1416 w_p56 w_10 w_1417 rfl hd_X12_is rfl hl.1 rfl (Nat.le_of_ble_eq_true rfl) ⟨Nat.le_of_ble_eq_true rfl, Nat.le_of_ble_eq_true rfl⟩ (by decide) w (rc_wM_0 w) (dq da_X12_taken 35 rfl) (fun H locs rr w => ?_)
          refine lv_if_eq (tgt := 68) hx hb (dq da_X12_taken 36 rfl) (by decide) (fun c13 => ?_) (fun c13 => ?_)
          · have h := it c13 h
            exact b_X12_taken_b68 E hr hlk hk12 h (lv_sub hl [1, 2, 3] rfl) w
          · have h := ie c13 h
            exact b_X12_taken_b63 E hr hlk h (lv_sub hl [3] rfl) w
def f_X12_taken_b12 : Nat → Int64 → Int32 → St → Option (Int32)
  | 0 => fun _ _ _ => none
  | n + 1 => f_X12_taken_b12_s (f_X12_taken_b12 n)
theorem b_X12_taken_b12 {p : Program} {l : Launch} {e : Env} {s : State} {m : MethodId} {args : Array Value} {below : List Frame} {meth : Method} {c : Code} {D : va_G} {cy : ClassId × ClassId × ClassId} {ad : Nat → Nat} {A : Nat → Prop} (E : CallFix p m c cX12_taken 6 s args gw RX12) (hr : meth.sig.returnType = some .int) (hlk : meth.locks = false) : ∀ n : Nat, ∀ (x1 : Int64) (x3 : Int32) (u : St) (r : Int32), f_X12_taken_b12 n x1 x3 u = some r → ∀ (ls : Array Slot) (H : Heap) (locs : List Loc) (rr : Nat → Nat), lv_has ls 6 [(0, .ref (ad 0)), (1, .long x1), (3, .int x3)] → WX (wM cy ad) D cy rr u A s H locs → Wx (wM cy ad) D p l e 2 43 0 s m args below meth c A u (some (.int r)) H locs 0 12 ls [] := by
  intro n
  induction n with
  | zero => intro x1 x3 u r h; cases h
  | succ n ih => intro x1 x3 u r h ls H locs rr hl w; exact b_X12_taken_b12_s E hr hlk ih h hl w
def f_X12_taken (u : St) : Option (Int32) := (f_X12_pendings u).bind (fun y1 => f_X12_taken_b12 FU (y1 &&& (gL u 7)) (0 : Int32) u)
set_option maxRecDepth 100000 in
set_option maxHeartbeats 4000000 in
theorem c_X12_taken (l : Launch) (D : va_G) (cy : ClassId × ClassId × ClassId) (ad : Nat → Nat) (u : St) {r : Int32} (h : f_X12_taken u = some r) : MX (wM cy ad) D cy l yX12_taken cX12_taken 6 (some .int) 2 43 0 [.ref (ad 0)] u u (some (.int (r))) := by
  refine entX (by decide +kernel) (Nat.le_of_ble_eq_true rfl) ?_
  intro p e s m args below meth c ls rr A E hr hlk hl w
  have hl : lv_has ls 6 [(0, .ref (ad 0))] := hl
  have hx := E.1
  have hb := E.2.1
  have hown := E.2.2.2.1
  have hts := E.2.2.2.2
  refine lv_aload_n hx hb (dq da_X12_taken 0 rfl) rfl (lv_at hl 0 rfl) ?_
  obtain ⟨y1, hy2, h⟩ := ob h
  refine cV1 E (c_X12_pendings l D cy ad _ hy2) w_1354 w_1356 w_p50 w_10 w_1357 rfl hd_X12_pendings rfl hl.1 rfl (Nat.le_of_ble_eq_true rfl) ⟨Nat.le_of_ble_eq_true rfl, Nat.le_of_ble_eq_true rfl⟩ (by decide) w (rc_wM_0 w) (dq da_X12_taken 1 rfl) (fun H locs rr w => ?_)
  refine lv_aload_n hx hb (dq da_X12_taken 2 rfl) rfl (lv_at hl 0 rfl) ?_
  refine gt_wM_0_interruptsOn E w w_1116 (dq da_X12_taken 3 rfl) ?_
  refine lv_land hx hb (dq da_X12_taken 4 rfl) ?_
  refine lv_lstore_n (lv' := [(1, .long (y1 &&& (gL u 7))), (0, .ref (ad 0))]) hx hb (dq da_X12_taken 5 rfl) rfl hl (by decide) rfl (fun ls hl => ?_)
  refine lv_iconst (v := 0) hx hb (dq da_X12_taken 6 rfl) rfl ?_
  refine lv_istore_n (lv' := [(3, .int (0 : Int32)), (1, .long (y1 &&& (gL u 7))), (0, .ref (ad 0))]) hx hb (dq da_X12_taken 7 rfl) rfl hl (by decide) rfl (fun ls hl => ?_)
  exact b_X12_taken_b12 E hr hlk FU _ _ _ _ h ls _ _ _ (lv_sub hl [2, 1, 0] rfl) w
def dl_X12_gives : List (Nat × Instr × Nat) := [(0, .lload_n 1, 1), (1, .bipush 11, 2), (3, .bipush 7, 2), (5, .invokestatic 196, 3), (8, .l2i, 1), (9, .istore 5, 2), (11, .iload 5, 2), (13, .ifCond .le 11, 3), (16, .aload_n 0, 1), (17, .getfield 14, 3), (20, .iload 5, 2), (22, .lload_n 3, 1), (23, .lastore, 1), (24, .return_, 1)]
theorem da_X12_gives : dkL cX12_gives dl_X12_gives = true := by decide +kernel
def f_X12_gives (x1 : Int64) (x3 : Int64) (u : St) : Option (St) := if (f_X12_cut x1 (11 : Int32) (7 : Int32)).toInt32 ≤ (0 : Int32) then (some u) else (if inB ((f_X12_cut x1 (11 : Int32) (7 : Int32)).toInt32) (gN u 1) then (some (sB u 0 ((f_X12_cut x1 (11 : Int32) (7 : Int32)).toInt32).toNatClampNeg x3)) else none)
set_option maxRecDepth 100000 in
set_option maxHeartbeats 4000000 in
theorem c_X12_gives (l : Launch) (D : va_G) (cy : ClassId × ClassId × ClassId) (ad : Nat → Nat) (x1 : Int64) (x3 : Int64) (u : St) {u' : St} (h : f_X12_gives x1 x3 u = some u') : MX (wM cy ad) D cy l yX12_gives cX12_gives 6 (none) 1 23 0 [.ref (ad 0), .long x1, .long x3] u u' none := by
  refine entX (by decide +kernel) (Nat.le_of_ble_eq_true rfl) ?_
  intro p e s m args below meth c ls rr A E hr hlk hl w
  have hl : lv_has ls 6 [(0, .ref (ad 0)), (1, .long x1), (3, .long x3)] := hl
  have hx := E.1
  have hb := E.2.1
  have hown := E.2.2.2.1
  have hts := E.2.2.2.2
  refine lv_lload_n hx hb (dq da_X12_gives 0 rfl) rfl (lv_at hl 1 rfl) ?_
  refine lv_bipush (v := 11) hx hb (dq da_X12_gives 1 rfl) rfl ?_
  refine lv_bipush (v := 7) hx hb (dq da_X12_gives 2 rfl) rfl ?_
  refine callP E (c_X12_cut l _ _ _ ) w_1384 w_1385 w_10 w_1386 hd_X12_cut rfl hl.1 rfl (Nat.le_of_ble_eq_true rfl) ⟨Nat.le_of_ble_eq_true rfl, Nat.le_of_ble_eq_true rfl⟩ (by decide) (dq da_X12_gives 3 rfl) ?_
  refine lv_l2i (v := (f_X12_cut x1 (11 : Int32) (7 : Int32)).toInt32) hx hb (dq da_X12_gives 4 rfl) rfl ?_
  refine lv_istore (lv' := [(5, .int ((f_X12_cut x1 (11 : Int32) (7 : Int32)).toInt32)), (0, .ref (ad 0)), (1, .long x1), (3, .long x3)]) hx hb (dq da_X12_gives 5 rfl) hl (by decide) rfl (fun ls hl => ?_)
  refine lv_iload hx hb (dq da_X12_gives 6 rfl) (lv_at hl 0 rfl) ?_
  refine lv_if_le (tgt := 24) hx hb (dq da_X12_gives 7 rfl) (by decide) (fun c1 => ?_) (fun c1 => ?_)
  · have h := it c1 h
    exact xret_v E hr hlk w (by decide) (os h) (dq da_X12_gives 13 rfl)
  · have h := ie c1 h
    refine lv_aload_n hx hb (dq da_X12_gives 8 rfl) rfl (lv_at hl 1 rfl) ?_
    refine gt_wM_0_x E w w_1091 (dq da_X12_gives 9 rfl) ?_
    refine lv_iload hx hb (dq da_X12_gives 10 rfl) (lv_at hl 0 rfl) ?_
    refine lv_lload_n hx hb (dq da_X12_gives 11 rfl) rfl (lv_at hl 3 rfl) ?_
    obtain ⟨hi2, h⟩ := oi h
    refine ast_wM_2 E w hi2 (dq da_X12_gives 12 rfl) (fun H locs w => ?_)
    exact xret_v E hr hlk w (by decide) (os h) (dq da_X12_gives 13 rfl)
def dl_X12_branches : List (Nat × Instr × Nat) := [(0, .iconst 0, 1), (1, .istore 8, 2), (3, .iload_n 3, 1), (4, .tableswitch 152 0 7 #[48, 66, 152, 152, 84, 102, 120, 132], 48), (52, .lload 4, 2), (54, .lload 6, 2), (56, .lcmp, 1), (57, .ifCond .ne 7, 3), (60, .iconst 1, 1), (61, .goto 4, 3), (64, .iconst 0, 1), (65, .istore 8, 2), (67, .goto 93, 3), (70, .lload 4, 2), (72, .lload 6, 2), (74, .lcmp, 1), (75, .ifCond .eq 7, 3), (78, .iconst 1, 1), (79, .goto 4, 3), (82, .iconst 0, 1), (83, .istore 8, 2), (85, .goto 75, 3), (88, .lload 4, 2), (90, .lload 6, 2), (92, .lcmp, 1), (93, .ifCond .ge 7, 3), (96, .iconst 1, 1), (97, .goto 4, 3), (100, .iconst 0, 1), (101, .istore 8, 2), (103, .goto 57, 3), (106, .lload 4, 2), (108, .lload 6, 2), (110, .lcmp, 1), (111, .ifCond .lt 7, 3), (114, .iconst 1, 1), (115, .goto 4, 3), (118, .iconst 0, 1), (119, .istore 8, 2), (121, .goto 39, 3), (124, .lload 4, 2), (126, .lload 6, 2), (128, .invokestatic 231, 3), (131, .istore 8, 2), (133, .goto 27, 3), (136, .lload 4, 2), (138, .lload 6, 2), (140, .invokestatic 231, 3), (143, .ifCond .ne 7, 3), (146, .iconst 1, 1), (147, .goto 4, 3), (150, .iconst 0, 1), (151, .istore 8, 2), (153, .goto 7, 3), (156, .aload_n 0, 1), (157, .invokevirtual 396, 3), (160, .iload 8, 2), (162, .ifCond .eq 62, 3), (165, .aload_n 0, 1), (166, .aload_n 0, 1), (167, .getfield 20, 3), (170, .lload_n 1, 1), (171, .bipush 31, 2), (173, .bipush 31, 2), (175, .invokestatic 196, 3), (178, .bipush 12, 2), (180, .lshl, 1), (181, .lload_n 1, 1), (182, .bipush 7, 2), (184, .bipush 7, 2), (186, .invokestatic 196, 3), (189, .bipush 11, 2), (191, .lshl, 1), (192, .lor, 1), (193, .lload_n 1, 1), (194, .bipush 30, 2), (196, .bipush 25, 2), (198, .invokestatic 196, 3), (201, .iconst 5, 1), (202, .lshl, 1), (203, .lor, 1), (204, .lload_n 1, 1), (205, .bipush 11, 2), (207, .bipush 8, 2), (209, .invokestatic 196, 3), (212, .iconst 1, 1), (213, .lshl, 1), (214, .lor, 1), (215, .bipush 13, 2), (217, .invokestatic 205, 3), (220, .ladd, 1), (221, .putfield 382, 3), (224, .return_, 1)]
theorem da_X12_branches : dkL cX12_branches dl_X12_branches = true := by decide +kernel
def f_X12_branches_b160 (x1 : Int64) (x8 : Int32) (u : St) : St := if x8 = (0 : Int32) then u else (sL u 25 ((gL u 0) + (f_X12_signed ((((j_lshl (f_X12_cut x1 (31 : Int32) (31 : Int32)) (12 : Int32)) ||| (j_lshl (f_X12_cut x1 (7 : Int32) (7 : Int32)) (11 : Int32))) ||| (j_lshl (f_X12_cut x1 (30 : Int32) (25 : Int32)) (5 : Int32))) ||| (j_lshl (f_X12_cut x1 (11 : Int32) (8 : Int32)) (1 : Int32))) (13 : Int32))))
set_option maxRecDepth 100000 in
set_option maxHeartbeats 4000000 in
theorem b_X12_branches_b160 {p : Program} {l : Launch} {e : Env} {s : State} {m : MethodId} {args : Array Value} {below : List Frame} {meth : Method} {c : Code} {D : va_G} {cy : ClassId × ClassId × ClassId} {ad : Nat → Nat} {A : Nat → Prop} (E : CallFix p m c cX12_branches 9 s args gw RX12) (hr : meth.sig.returnType = none) (hlk : meth.locks = false) {x1 : Int64} {x8 : Int32} {u : St} {u' : St} (h : f_X12_branches_b160 x1 x8 u = u') {ls : Array Slot} {H : Heap} {locs : List Loc} {rr : Nat → Nat} (hl : lv_has ls 9 [(0, .ref (ad 0)), (1, .long x1), (8, .int x8)]) (w : WX (wM cy ad) D cy rr u A s H locs) : Wx (wM cy ad) D p l e 2 43 0 s m args below meth c A u' none H locs 0 160 ls [] := by
  have hx := E.1
  have hb := E.2.1
  have hown := E.2.2.2.1
  have hts := E.2.2.2.2
  refine lv_iload hx hb (dq da_X12_branches 56 rfl) (lv_at hl 2 rfl) ?_
  refine lv_if_eq (tgt := 224) hx hb (dq da_X12_branches 57 rfl) (by decide) (fun c3 => ?_) (fun c3 => ?_)
  · have h := it c3 h
    exact xret_v E hr hlk w (by decide) h (dq da_X12_branches 92 rfl)
  · have h := ie c3 h
    refine lv_aload_n hx hb (dq da_X12_branches 58 rfl) rfl (lv_at hl 0 rfl) ?_
    refine lv_aload_n hx hb (dq da_X12_branches 59 rfl) rfl (lv_at hl 0 rfl) ?_
    refine gt_wM_0_pc E w w_1092 (dq da_X12_branches 60 rfl) ?_
    refine lv_lload_n hx hb (dq da_X12_branches 61 rfl) rfl (lv_at hl 1 rfl) ?_
    refine lv_bipush (v := 31) hx hb (dq da_X12_branches 62 rfl) rfl ?_
    refine lv_bipush (v := 31) hx hb (dq da_X12_branches 63 rfl) rfl ?_
    refine callP E (c_X12_cut l _ _ _ ) w_1384 w_1385 w_10 w_1386 hd_X12_cut rfl hl.1 rfl (Nat.le_of_ble_eq_true rfl) ⟨Nat.le_of_ble_eq_true rfl, Nat.le_of_ble_eq_true rfl⟩ (by decide) (dq da_X12_branches 64 rfl) ?_
    refine lv_bipush (v := 12) hx hb (dq da_X12_branches 65 rfl) rfl ?_
    refine lv_lshl (v := (j_lshl (f_X12_cut x1 (31 : Int32) (31 : Int32)) (12 : Int32))) hx hb (dq da_X12_branches 66 rfl) rfl ?_
    refine lv_lload_n hx hb (dq da_X12_branches 67 rfl) rfl (lv_at hl 1 rfl) ?_
    refine lv_bipush (v := 7) hx hb (dq da_X12_branches 68 rfl) rfl ?_
    refine lv_bipush (v := 7) hx hb (dq da_X12_branches 69 rfl) rfl ?_
    refine callP E (c_X12_cut l _ _ _ ) w_1384 w_1385 w_10 w_1386 hd_X12_cut rfl hl.1 rfl (Nat.le_of_ble_eq_true rfl) ⟨Nat.le_of_ble_eq_true rfl, Nat.le_of_ble_eq_true rfl⟩ (by decide) (dq da_X12_branches 70 rfl) ?_
    refine lv_bipush (v := 11) hx hb (dq da_X12_branches 71 rfl) rfl ?_
    refine lv_lshl (v := (j_lshl (f_X12_cut x1 (7 : Int32) (7 : Int32)) (11 : Int32))) hx hb (dq da_X12_branches 72 rfl) rfl ?_
    refine lv_lor hx hb (dq da_X12_branches 73 rfl) ?_
    refine lv_lload_n hx hb (dq da_X12_branches 74 rfl) rfl (lv_at hl 1 rfl) ?_
    refine lv_bipush (v := 30) hx hb (dq da_X12_branches 75 rfl) rfl ?_
    refine lv_bipush (v := 25) hx hb (dq da_X12_branches 76 rfl) rfl ?_
    refine callP E (c_X12_cut l _ _ _ ) w_1384 w_1385 w_10 w_1386 hd_X12_cut rfl hl.1 rfl (Nat.le_of_ble_eq_true rfl) ⟨Nat.le_of_ble_eq_true rfl, Nat.le_of_ble_eq_true rfl⟩ (by decide) (dq da_X12_branches 77 rfl) ?_
    refine lv_iconst (v := 5) hx hb (dq da_X12_branches 78 rfl) rfl ?_
    refine lv_lshl (v := (j_lshl (f_X12_cut x1 (30 : Int32) (25 : Int32)) (5 : Int32))) hx hb (dq da_X12_branches 79 rfl) rfl ?_
    refine lv_lor hx hb (dq da_X12_branches 80 rfl) ?_
    refine lv_lload_n hx hb (dq da_X12_branches 81 rfl) rfl (lv_at hl 1 rfl) ?_
    refine lv_bipush (v := 11) hx hb (dq da_X12_branches 82 rfl) rfl ?_
    refine lv_bipush (v := 8) hx hb (dq da_X12_branches 83 rfl) rfl ?_
    refine callP E (c_X12_cut l _ _ _ ) w_1384 w_1385 w_10 w_1386 hd_X12_cut rfl hl.1 rfl (Nat.le_of_ble_eq_true rfl) ⟨Nat.le_of_ble_eq_true rfl, Nat.le_of_ble_eq_true rfl⟩ (by decide) (dq da_X12_branches 84 rfl) ?_
    refine lv_iconst (v := 1) hx hb (dq da_X12_branches 85 rfl) rfl ?_
    refine lv_lshl (v := (j_lshl (f_X12_cut x1 (11 : Int32) (8 : Int32)) (1 : Int32))) hx hb (dq da_X12_branches 86 rfl) rfl ?_
    refine lv_lor hx hb (dq da_X12_branches 87 rfl) ?_
    refine lv_bipush (v := 13) hx hb (dq da_X12_branches 88 rfl) rfl ?_
    refine callP E (c_X12_signed l _ _ ) w_1440 w_1441 w_10 w_1442 hd_X12_signed rfl hl.1 rfl (Nat.le_of_ble_eq_true rfl) ⟨Nat.le_of_ble_eq_true rfl, Nat.le_of_ble_eq_true rfl⟩ (by decide) (dq da_X12_branches 89 rfl) ?_
    refine lv_ladd hx hb (dq da_X12_branches 90 rfl) ?_
    refine pt_wM_0_following E w w_1138 (dq da_X12_branches 91 rfl) (fun H locs w => ?_)
    exact xret_v E hr hlk w (by decide) h (dq da_X12_branches 92 rfl)
def f_X12_branches_b65 (x1 : Int64) (s0 : Int32) (u : St) : St := f_X12_branches_b160 x1 s0 u
set_option maxRecDepth 100000 in
set_option maxHeartbeats 4000000 in
theorem b_X12_branches_b65 {p : Program} {l : Launch} {e : Env} {s : State} {m : MethodId} {args : Array Value} {below : List Frame} {meth : Method} {c : Code} {D : va_G} {cy : ClassId × ClassId × ClassId} {ad : Nat → Nat} {A : Nat → Prop} (E : CallFix p m c cX12_branches 9 s args gw RX12) (hr : meth.sig.returnType = none) (hlk : meth.locks = false) {x1 : Int64} {s0 : Int32} {u : St} {u' : St} (h : f_X12_branches_b65 x1 s0 u = u') {ls : Array Slot} {H : Heap} {locs : List Loc} {rr : Nat → Nat} (hl : lv_has ls 9 [(0, .ref (ad 0)), (1, .long x1)]) (w : WX (wM cy ad) D cy rr u A s H locs) : Wx (wM cy ad) D p l e 2 43 0 s m args below meth c A u' none H locs 0 65 ls [.int s0] := by
  have hx := E.1
  have hb := E.2.1
  have hown := E.2.2.2.1
  have hts := E.2.2.2.2
  refine lv_istore (lv' := [(8, .int s0), (0, .ref (ad 0)), (1, .long x1)]) hx hb (dq da_X12_branches 11 rfl) hl (by decide) rfl (fun ls hl => ?_)
  refine lv_goto (tgt := 160) hx hb (dq da_X12_branches 12 rfl) (by decide) ?_
  exact b_X12_branches_b160 E hr hlk h (lv_sub hl [1, 2, 0] rfl) w
def f_X12_branches_b83 (x1 : Int64) (s0 : Int32) (u : St) : St := f_X12_branches_b160 x1 s0 u
set_option maxRecDepth 100000 in
set_option maxHeartbeats 4000000 in
theorem b_X12_branches_b83 {p : Program} {l : Launch} {e : Env} {s : State} {m : MethodId} {args : Array Value} {below : List Frame} {meth : Method} {c : Code} {D : va_G} {cy : ClassId × ClassId × ClassId} {ad : Nat → Nat} {A : Nat → Prop} (E : CallFix p m c cX12_branches 9 s args gw RX12) (hr : meth.sig.returnType = none) (hlk : meth.locks = false) {x1 : Int64} {s0 : Int32} {u : St} {u' : St} (h : f_X12_branches_b83 x1 s0 u = u') {ls : Array Slot} {H : Heap} {locs : List Loc} {rr : Nat → Nat} (hl : lv_has ls 9 [(0, .ref (ad 0)), (1, .long x1)]) (w : WX (wM cy ad) D cy rr u A s H locs) : Wx (wM cy ad) D p l e 2 43 0 s m args below meth c A u' none H locs 0 83 ls [.int s0] := by
  have hx := E.1
  have hb := E.2.1
  have hown := E.2.2.2.1
  have hts := E.2.2.2.2
  refine lv_istore (lv' := [(8, .int s0), (0, .ref (ad 0)), (1, .long x1)]) hx hb (dq da_X12_branches 20 rfl) hl (by decide) rfl (fun ls hl => ?_)
  refine lv_goto (tgt := 160) hx hb (dq da_X12_branches 21 rfl) (by decide) ?_
  exact b_X12_branches_b160 E hr hlk h (lv_sub hl [1, 2, 0] rfl) w
def f_X12_branches_b156 (x1 : Int64) (x8 : Int32) (u : St) : St := f_X12_branches_b160 x1 x8 (f_X12_illegal u)
set_option maxRecDepth 100000 in
set_option maxHeartbeats 4000000 in
theorem b_X12_branches_b156 {p : Program} {l : Launch} {e : Env} {s : State} {m : MethodId} {args : Array Value} {below : List Frame} {meth : Method} {c : Code} {D : va_G} {cy : ClassId × ClassId × ClassId} {ad : Nat → Nat} {A : Nat → Prop} (E : CallFix p m c cX12_branches 9 s args gw RX12) (hr : meth.sig.returnType = none) (hlk : meth.locks = false) {x1 : Int64} {x8 : Int32} {u : St} {u' : St} (h : f_X12_branches_b156 x1 x8 u = u') {ls : Array Slot} {H : Heap} {locs : List Loc} {rr : Nat → Nat} (hl : lv_has ls 9 [(0, .ref (ad 0)), (1, .long x1), (8, .int x8)]) (w : WX (wM cy ad) D cy rr u A s H locs) : Wx (wM cy ad) D p l e 2 43 0 s m args below meth c A u' none H locs 0 156 ls [] := by
  have hx := E.1
  have hb := E.2.1
  have hown := E.2.2.2.1
  have hts := E.2.2.2.2
  refine lv_aload_n hx hb (dq da_X12_branches 54 rfl) rfl (lv_at hl 0 rfl) ?_
  refine cV0 E (c_X12_illegal l D cy ad _ ) w_1523 w_1525 w_p66 w_10 w_1526 rfl hd_X12_illegal rfl hl.1 rfl (Nat.le_of_ble_eq_true rfl) ⟨Nat.le_of_ble_eq_true rfl, Nat.le_of_ble_eq_true rfl⟩ (by decide) w (rc_wM_0 w) (dq da_X12_branches 55 rfl) (fun H locs rr w => ?_)
  exact b_X12_branches_b160 E hr hlk h (lv_sub hl [0, 1, 2] rfl) w
def f_X12_branches_b101 (x1 : Int64) (s0 : Int32) (u : St) : St := f_X12_branches_b160 x1 s0 u
set_option maxRecDepth 100000 in
set_option maxHeartbeats 4000000 in
theorem b_X12_branches_b101 {p : Program} {l : Launch} {e : Env} {s : State} {m : MethodId} {args : Array Value} {below : List Frame} {meth : Method} {c : Code} {D : va_G} {cy : ClassId × ClassId × ClassId} {ad : Nat → Nat} {A : Nat → Prop} (E : CallFix p m c cX12_branches 9 s args gw RX12) (hr : meth.sig.returnType = none) (hlk : meth.locks = false) {x1 : Int64} {s0 : Int32} {u : St} {u' : St} (h : f_X12_branches_b101 x1 s0 u = u') {ls : Array Slot} {H : Heap} {locs : List Loc} {rr : Nat → Nat} (hl : lv_has ls 9 [(0, .ref (ad 0)), (1, .long x1)]) (w : WX (wM cy ad) D cy rr u A s H locs) : Wx (wM cy ad) D p l e 2 43 0 s m args below meth c A u' none H locs 0 101 ls [.int s0] := by
  have hx := E.1
  have hb := E.2.1
  have hown := E.2.2.2.1
  have hts := E.2.2.2.2
  refine lv_istore (lv' := [(8, .int s0), (0, .ref (ad 0)), (1, .long x1)]) hx hb (dq da_X12_branches 29 rfl) hl (by decide) rfl (fun ls hl => ?_)
  refine lv_goto (tgt := 160) hx hb (dq da_X12_branches 30 rfl) (by decide) ?_
  exact b_X12_branches_b160 E hr hlk h (lv_sub hl [1, 2, 0] rfl) w
def f_X12_branches_b119 (x1 : Int64) (s0 : Int32) (u : St) : St := f_X12_branches_b160 x1 s0 u
set_option maxRecDepth 100000 in
set_option maxHeartbeats 4000000 in
theorem b_X12_branches_b119 {p : Program} {l : Launch} {e : Env} {s : State} {m : MethodId} {args : Array Value} {below : List Frame} {meth : Method} {c : Code} {D : va_G} {cy : ClassId × ClassId × ClassId} {ad : Nat → Nat} {A : Nat → Prop} (E : CallFix p m c cX12_branches 9 s args gw RX12) (hr : meth.sig.returnType = none) (hlk : meth.locks = false) {x1 : Int64} {s0 : Int32} {u : St} {u' : St} (h : f_X12_branches_b119 x1 s0 u = u') {ls : Array Slot} {H : Heap} {locs : List Loc} {rr : Nat → Nat} (hl : lv_has ls 9 [(0, .ref (ad 0)), (1, .long x1)]) (w : WX (wM cy ad) D cy rr u A s H locs) : Wx (wM cy ad) D p l e 2 43 0 s m args below meth c A u' none H locs 0 119 ls [.int s0] := by
  have hx := E.1
  have hb := E.2.1
  have hown := E.2.2.2.1
  have hts := E.2.2.2.2
  refine lv_istore (lv' := [(8, .int s0), (0, .ref (ad 0)), (1, .long x1)]) hx hb (dq da_X12_branches 38 rfl) hl (by decide) rfl (fun ls hl => ?_)
  refine lv_goto (tgt := 160) hx hb (dq da_X12_branches 39 rfl) (by decide) ?_
  exact b_X12_branches_b160 E hr hlk h (lv_sub hl [1, 2, 0] rfl) w
def f_X12_branches_b151 (x1 : Int64) (s0 : Int32) (u : St) : St := f_X12_branches_b160 x1 s0 u
set_option maxRecDepth 100000 in
set_option maxHeartbeats 4000000 in
theorem b_X12_branches_b151 {p : Program} {l : Launch} {e : Env} {s : State} {m : MethodId} {args : Array Value} {below : List Frame} {meth : Method} {c : Code} {D : va_G} {cy : ClassId × ClassId × ClassId} {ad : Nat → Nat} {A : Nat → Prop} (E : CallFix p m c cX12_branches 9 s args gw RX12) (hr : meth.sig.returnType = none) (hlk : meth.locks = false) {x1 : Int64} {s0 : Int32} {u : St} {u' : St} (h : f_X12_branches_b151 x1 s0 u = u') {ls : Array Slot} {H : Heap} {locs : List Loc} {rr : Nat → Nat} (hl : lv_has ls 9 [(0, .ref (ad 0)), (1, .long x1)]) (w : WX (wM cy ad) D cy rr u A s H locs) : Wx (wM cy ad) D p l e 2 43 0 s m args below meth c A u' none H locs 0 151 ls [.int s0] := by
  have hx := E.1
  have hb := E.2.1
  have hown := E.2.2.2.1
  have hts := E.2.2.2.2
  refine lv_istore (lv' := [(8, .int s0), (0, .ref (ad 0)), (1, .long x1)]) hx hb (dq da_X12_branches 52 rfl) hl (by decide) rfl (fun ls hl => ?_)
  refine lv_goto (tgt := 160) hx hb (dq da_X12_branches 53 rfl) (by decide) ?_
  exact b_X12_branches_b160 E hr hlk h (lv_sub hl [1, 2, 0] rfl) w
def f_X12_branches (x1 : Int64) (x3 : Int32) (x4 : Int64) (x6 : Int64) (u : St) : St := if x3 = (0 : Int32) then (if x4 = x6 then (f_X12_branches_b65 x1 (1 : Int32) u) else (f_X12_branches_b65 x1 (0 : Int32) u)) else if x3 = (1 : Int32) then (if x4 = x6 then (f_X12_branches_b83 x1 (0 : Int32) u) else (f_X12_branches_b83 x1 (1 : Int32) u)) else if x3 = (2 : Int32) then (f_X12_branches_b156 x1 (0 : Int32) u) else if x3 = (3 : Int32) then (f_X12_branches_b156 x1 (0 : Int32) u) else if x3 = (4 : Int32) then (if x6 ≤ x4 then (f_X12_branches_b101 x1 (0 : Int32) u) else (f_X12_branches_b101 x1 (1 : Int32) u)) else if x3 = (5 : Int32) then (if x4 < x6 then (f_X12_branches_b119 x1 (0 : Int32) u) else (f_X12_branches_b119 x1 (1 : Int32) u)) else if x3 = (6 : Int32) then (f_X12_branches_b160 x1 (f_X12_isLess x4 x6) u) else if x3 = (7 : Int32) then (if (f_X12_isLess x4 x6) = (0 : Int32) then (f_X12_branches_b151 x1 (1 : Int32) u) else (f_X12_branches_b151 x1 (0 : Int32) u)) else (f_X12_branches_b156 x1 (0 : Int32) u)
set_option maxRecDepth 100000 in
set_option maxHeartbeats 4000000 in
theorem c_X12_branches (l : Launch) (D : va_G) (cy : ClassId × ClassId × ClassId) (ad : Nat → Nat) (x1 : Int64) (x3 : Int32) (x4 : Int64) (x6 : Int64) (u : St) : MX (wM cy ad) D cy l yX12_branches cX12_branches 9 (none) 2 43 0 [.ref (ad 0), .long x1, .int x3, .long x4, .long x6] u (f_X12_branches x1 x3 x4 x6 u) none := by
  refine entX (by decide +kernel) (Nat.le_of_ble_eq_true rfl) ?_
  intro p e s m args below meth c ls rr A E hr hlk hl w
  have hl : lv_has ls 9 [(0, .ref (ad 0)), (1, .long x1), (3, .int x3), (4, .long x4), (6, .long x6)] := hl
  generalize h : f_X12_branches x1 x3 x4 x6 u = u'
  have hx := E.1
  have hb := E.2.1
  have hown := E.2.2.2.1
  have hts := E.2.2.2.2
  refine lv_iconst (v := 0) hx hb (dq da_X12_branches 0 rfl) rfl ?_
  refine lv_istore (lv' := [(8, .int (0 : Int32)), (0, .ref (ad 0)), (1, .long x1), (3, .int x3), (4, .long x4), (6, .long x6)]) hx hb (dq da_X12_branches 1 rfl) hl (by decide) rfl (fun ls hl => ?_)
  refine lv_iload_n hx hb (dq da_X12_branches 2 rfl) rfl (lv_at hl 3 rfl) ?_
  by_cases c1 : x3 = (0 : Int32)
  · have h := it c1 h
    refine lv_tableIn (off := 48) (tgt := 52) hx hb (dq da_X12_branches 3 rfl) (by rw [c1]; decide +kernel) (by rw [c1]; decide +kernel) (by rw [c1]; decide +kernel) (by decide) ?_
    refine lv_lload hx hb (dq da_X12_branches 4 rfl) (lv_at hl 4 rfl) ?_
    refine lv_lload hx hb (dq da_X12_branches 5 rfl) (lv_at hl 5 rfl) ?_
    refine lc_ne (tgt := 64) hx hb (dq da_X12_branches 6 rfl) (dq da_X12_branches 7 rfl) (by decide) (fun c2 => ?_) (fun c2 => ?_)
    · have h := ie c2 h
      refine lv_iconst (v := 0) hx hb (dq da_X12_branches 10 rfl) rfl ?_
      exact b_X12_branches_b65 E hr hlk h (lv_sub hl [1, 2] rfl) w
    · have h := it c2 h
      refine lv_iconst (v := 1) hx hb (dq da_X12_branches 8 rfl) rfl ?_
      refine lv_goto (tgt := 65) hx hb (dq da_X12_branches 9 rfl) (by decide) ?_
      exact b_X12_branches_b65 E hr hlk h (lv_sub hl [1, 2] rfl) w
  · have h := ie c1 h
    by_cases c4 : x3 = (1 : Int32)
    · have h := it c4 h
      refine lv_tableIn (off := 66) (tgt := 70) hx hb (dq da_X12_branches 3 rfl) (by rw [c4]; decide +kernel) (by rw [c4]; decide +kernel) (by rw [c4]; decide +kernel) (by decide) ?_
      refine lv_lload hx hb (dq da_X12_branches 13 rfl) (lv_at hl 4 rfl) ?_
      refine lv_lload hx hb (dq da_X12_branches 14 rfl) (lv_at hl 5 rfl) ?_
      refine lc_eq (tgt := 82) hx hb (dq da_X12_branches 15 rfl) (dq da_X12_branches 16 rfl) (by decide) (fun c5 => ?_) (fun c5 => ?_)
      · have h := it c5 h
        refine lv_iconst (v := 0) hx hb (dq da_X12_branches 19 rfl) rfl ?_
        exact b_X12_branches_b83 E hr hlk h (lv_sub hl [1, 2] rfl) w
      · have h := ie c5 h
        refine lv_iconst (v := 1) hx hb (dq da_X12_branches 17 rfl) rfl ?_
        refine lv_goto (tgt := 83) hx hb (dq da_X12_branches 18 rfl) (by decide) ?_
        exact b_X12_branches_b83 E hr hlk h (lv_sub hl [1, 2] rfl) w
    · have h := ie c4 h
      by_cases c6 : x3 = (2 : Int32)
      · have h := it c6 h
        refine lv_tableIn (off := 152) (tgt := 156) hx hb (dq da_X12_branches 3 rfl) (by rw [c6]; decide +kernel) (by rw [c6]; decide +kernel) (by rw [c6]; decide +kernel) (by decide) ?_
        exact b_X12_branches_b156 E hr hlk h (lv_sub hl [1, 2, 0] rfl) w
      · have h := ie c6 h
        by_cases c7 : x3 = (3 : Int32)
        · have h := it c7 h
          refine lv_tableIn (off := 152) (tgt := 156) hx hb (dq da_X12_branches 3 rfl) (by rw [c7]; decide +kernel) (by rw [c7]; decide +kernel) (by rw [c7]; decide +kernel) (by decide) ?_
          exact b_X12_branches_b156 E hr hlk h (lv_sub hl [1, 2, 0] rfl) w
        · have h := ie c7 h
          by_cases c8 : x3 = (4 : Int32)
          · have h := it c8 h
            refine lv_tableIn (off := 84) (tgt := 88) hx hb (dq da_X12_branches 3 rfl) (by rw [c8]; decide +kernel) (by rw [c8]; decide +kernel) (by rw [c8]; decide +kernel) (by decide) ?_
            refine lv_lload hx hb (dq da_X12_branches 22 rfl) (lv_at hl 4 rfl) ?_
            refine lv_lload hx hb (dq da_X12_branches 23 rfl) (lv_at hl 5 rfl) ?_
            refine lc_ge (tgt := 100) hx hb (dq da_X12_branches 24 rfl) (dq da_X12_branches 25 rfl) (by decide) (fun c9 => ?_) (fun c9 => ?_)
            · have h := it c9 h
              refine lv_iconst (v := 0) hx hb (dq da_X12_branches 28 rfl) rfl ?_
              exact b_X12_branches_b101 E hr hlk h (lv_sub hl [1, 2] rfl) w
            · have h := ie c9 h
              refine lv_iconst (v := 1) hx hb (dq da_X12_branches 26 rfl) rfl ?_
              refine lv_goto (tgt := 101) hx hb (dq da_X12_branches 27 rfl) (by decide) ?_
              exact b_X12_branches_b101 E hr hlk h (lv_sub hl [1, 2] rfl) w
          · have h := ie c8 h
            by_cases c10 : x3 = (5 : Int32)
            · have h := it c10 h
              refine lv_tableIn (off := 102) (tgt := 106) hx hb (dq da_X12_branches 3 rfl) (by rw [c10]; decide +kernel) (by rw [c10]; decide +kernel) (by rw [c10]; decide +kernel) (by decide) ?_
              refine lv_lload hx hb (dq da_X12_branches 31 rfl) (lv_at hl 4 rfl) ?_
              refine lv_lload hx hb (dq da_X12_branches 32 rfl) (lv_at hl 5 rfl) ?_
              refine lc_lt (tgt := 118) hx hb (dq da_X12_branches 33 rfl) (dq da_X12_branches 34 rfl) (by decide) (fun c11 => ?_) (fun c11 => ?_)
              · have h := it c11 h
                refine lv_iconst (v := 0) hx hb (dq da_X12_branches 37 rfl) rfl ?_
                exact b_X12_branches_b119 E hr hlk h (lv_sub hl [1, 2] rfl) w
              · have h := ie c11 h
                refine lv_iconst (v := 1) hx hb (dq da_X12_branches 35 rfl) rfl ?_
                refine lv_goto (tgt := 119) hx hb (dq da_X12_branches 36 rfl) (by decide) ?_
                exact b_X12_branches_b119 E hr hlk h (lv_sub hl [1, 2] rfl) w
            · have h := ie c10 h
              by_cases c12 : x3 = (6 : Int32)
              · have h := it c12 h
                refine lv_tableIn (off := 120) (tgt := 124) hx hb (dq da_X12_branches 3 rfl) (by rw [c12]; decide +kernel) (by rw [c12]; decide +kernel) (by rw [c12]; decide +kernel) (by decide) ?_
                refine lv_lload hx hb (dq da_X12_branches 40 rfl) (lv_at hl 4 rfl) ?_
                refine lv_lload hx hb (dq da_X12_branches 41 rfl) (lv_at hl 5 rfl) ?_
                refine callP E (c_X12_isLess l _ _ ) w_1358 w_1359 w_10 w_1360 hd_X12_isLess rfl hl.1 rfl (Nat.le_of_ble_eq_true rfl) ⟨Nat.le_of_ble_eq_true rfl, Nat.le_of_ble_eq_true rfl⟩ (by decide) (dq da_X12_branches 42 rfl) ?_
                refine lv_istore (lv' := [(8, .int (f_X12_isLess x4 x6)), (0, .ref (ad 0)), (1, .long x1), (3, .int x3), (4, .long x4), (6, .long x6)]) hx hb (dq da_X12_branches 43 rfl) hl (by decide) rfl (fun ls hl => ?_)
                refine lv_goto (tgt := 160) hx hb (dq da_X12_branches 44 rfl) (by decide) ?_
                exact b_X12_branches_b160 E hr hlk h (lv_sub hl [1, 2, 0] rfl) w
              · have h := ie c12 h
                by_cases c13 : x3 = (7 : Int32)
                · have h := it c13 h
                  refine lv_tableIn (off := 132) (tgt := 136) hx hb (dq da_X12_branches 3 rfl) (by rw [c13]; decide +kernel) (by rw [c13]; decide +kernel) (by rw [c13]; decide +kernel) (by decide) ?_
                  refine lv_lload hx hb (dq da_X12_branches 45 rfl) (lv_at hl 4 rfl) ?_
                  refine lv_lload hx hb (dq da_X12_branches 46 rfl) (lv_at hl 5 rfl) ?_
                  refine callP E (c_X12_isLess l _ _ ) w_1358 w_1359 w_10 w_1360 hd_X12_isLess rfl hl.1 rfl (Nat.le_of_ble_eq_true rfl) ⟨Nat.le_of_ble_eq_true rfl, Nat.le_of_ble_eq_true rfl⟩ (by decide) (dq da_X12_branches 47 rfl) ?_
                  refine lv_if_ne (tgt := 150) hx hb (dq da_X12_branches 48 rfl) (by decide) (fun c14 => ?_) (fun c14 => ?_)
                  · have h := ie c14 h
                    refine lv_iconst (v := 0) hx hb (dq da_X12_branches 51 rfl) rfl ?_
                    exact b_X12_branches_b151 E hr hlk h (lv_sub hl [1, 2] rfl) w
                  · have h := it c14 h
                    refine lv_iconst (v := 1) hx hb (dq da_X12_branches 49 rfl) rfl ?_
                    refine lv_goto (tgt := 151) hx hb (dq da_X12_branches 50 rfl) (by decide) ?_
                    exact b_X12_branches_b151 E hr hlk h (lv_sub hl [1, 2] rfl) w
                · have h := ie c13 h
                  refine lv_tableOut (tgt := 156) hx hb (dq da_X12_branches 3 rfl) (by have := lv_neT (k := (0 : Int32)) (a := 0) c1 rfl; have := lv_neT (k := (1 : Int32)) (a := 1) c4 rfl; have := lv_neT (k := (2 : Int32)) (a := 2) c6 rfl; have := lv_neT (k := (3 : Int32)) (a := 3) c7 rfl; have := lv_neT (k := (4 : Int32)) (a := 4) c8 rfl; have := lv_neT (k := (5 : Int32)) (a := 5) c10 rfl; have := lv_neT (k := (6 : Int32)) (a := 6) c12 rfl; have := lv_neT (k := (7 : Int32)) (a := 7) c13 rfl; omega) (by decide) ?_
                  exact b_X12_branches_b156 E hr hlk h (lv_sub hl [1, 2, 0] rfl) w
def dl_X12_loads : List (Nat × Instr × Nat) := [(0, .iload_n 3, 1), (1, .bipush 7, 2), (3, .if_icmp .ne 8, 3), (6, .aload_n 0, 1), (7, .invokevirtual 396, 3), (10, .return_, 1), (11, .iconst 1, 1), (12, .iload_n 3, 1), (13, .iconst 4, 1), (14, .irem, 1), (15, .ishl, 1), (16, .istore 6, 2), (18, .aload_n 0, 1), (19, .lload 4, 2), (21, .iload 6, 2), (23, .iconst 1, 1), (24, .iconst 0, 1), (25, .invokevirtual 428, 3), (28, .lstore 7, 2), (30, .aload_n 0, 1), (31, .getfield 56, 3), (34, .ifCond .lt 4, 3), (37, .return_, 1), (38, .aload_n 0, 1), (39, .lload 7, 2), (41, .iload 6, 2), (43, .invokevirtual 432, 3), (46, .lstore 9, 2), (48, .aload_n 0, 1), (49, .lload_n 1, 1), (50, .iload 6, 2), (52, .bipush 8, 2), (54, .if_icmp .ne 8, 3), (57, .lload 9, 2), (59, .goto 34, 3), (62, .iload_n 3, 1), (63, .iconst 3, 1), (64, .if_icmp .le 19, 3), (67, .lload 9, 2), (69, .bipush 8, 2), (71, .iload 6, 2), (73, .imul, 1), (74, .iconst 1, 1), (75, .isub, 1), (76, .iconst 0, 1), (77, .invokestatic 196, 3), (80, .goto 13, 3), (83, .lload 9, 2), (85, .bipush 8, 2), (87, .iload 6, 2), (89, .imul, 1), (90, .invokestatic 205, 3), (93, .invokevirtual 392, 3), (96, .return_, 1)]
theorem da_X12_loads : dkL cX12_loads dl_X12_loads = true := by decide +kernel
def f_X12_loads_b93 (s0 : Int64) (s1 : Int64) (u : St) : Option (St) := (f_X12_gives s1 s0 u).bind (fun y9 => some y9)
set_option maxRecDepth 100000 in
set_option maxHeartbeats 4000000 in
theorem b_X12_loads_b93 {p : Program} {l : Launch} {e : Env} {s : State} {m : MethodId} {args : Array Value} {below : List Frame} {meth : Method} {c : Code} {D : va_G} {cy : ClassId × ClassId × ClassId} {ad : Nat → Nat} {A : Nat → Prop} (E : CallFix p m c cX12_loads 11 s args gw RX12) (hr : meth.sig.returnType = none) (hlk : meth.locks = false) {s0 : Int64} {s1 : Int64} {u : St} {u' : St} (h : f_X12_loads_b93 s0 s1 u = some u') {ls : Array Slot} {H : Heap} {locs : List Loc} {rr : Nat → Nat} (hl : lv_has ls 11 []) (w : WX (wM cy ad) D cy rr u A s H locs) : Wx (wM cy ad) D p l e 4 98 0 s m args below meth c A u' none H locs 0 93 ls [.long s0, .long s1, .ref (ad 0)] := by
  have hx := E.1
  have hb := E.2.1
  have hown := E.2.2.2.1
  have hts := E.2.2.2.2
  obtain ⟨y9, hy10, h⟩ := ob h
  refine cV0 E (c_X12_gives l D cy ad _ _ _ hy10) w_1519 w_1521 w_p65 w_10 w_1522 rfl hd_X12_gives rfl hl.1 rfl (Nat.le_of_ble_eq_true rfl) ⟨Nat.le_of_ble_eq_true rfl, Nat.le_of_ble_eq_true rfl⟩ (by decide) w (rc_wM_0 w) (dq da_X12_loads 52 rfl) (fun H locs rr w => ?_)
  exact xret_v E hr hlk w (by decide) (os h) (dq da_X12_loads 53 rfl)
def f_X12_loads (x1 : Int64) (x3 : Int32) (x4 : Int64) (u : St) : Option (St) := if x3 = (7 : Int32) then (some (f_X12_illegal u)) else ((f_X12_reach x4 ((1 : Int32) <<< ((x3 - x3 / (4 : Int32) * (4 : Int32)) &&& 31)) (1 : Int32) (0 : Int32) u).bind (fun y2 => if (gI y2.2 16) < (0 : Int32) then ((f_X12_readAt y2.1 ((1 : Int32) <<< ((x3 - x3 / (4 : Int32) * (4 : Int32)) &&& 31)) y2.2).bind (fun y5 => if ((1 : Int32) <<< ((x3 - x3 / (4 : Int32) * (4 : Int32)) &&& 31)) = (8 : Int32) then (f_X12_loads_b93 y5.1 x1 y5.2) else (if x3 ≤ (3 : Int32) then (f_X12_loads_b93 (f_X12_signed y5.1 ((8 : Int32) * ((1 : Int32) <<< ((x3 - x3 / (4 : Int32) * (4 : Int32)) &&& 31)))) x1 y5.2) else (f_X12_loads_b93 (f_X12_cut y5.1 (((8 : Int32) * ((1 : Int32) <<< ((x3 - x3 / (4 : Int32) * (4 : Int32)) &&& 31))) - (1 : Int32)) (0 : Int32)) x1 y5.2)))) else (some y2.2)))
set_option maxRecDepth 100000 in
set_option maxHeartbeats 4000000 in
theorem c_X12_loads (l : Launch) (D : va_G) (cy : ClassId × ClassId × ClassId) (ad : Nat → Nat) (x1 : Int64) (x3 : Int32) (x4 : Int64) (u : St) {u' : St} (h : f_X12_loads x1 x3 x4 u = some u') : MX (wM cy ad) D cy l yX12_loads cX12_loads 11 (none) 4 98 0 [.ref (ad 0), .long x1, .int x3, .long x4] u u' none := by
  refine entX (by decide +kernel) (Nat.le_of_ble_eq_true rfl) ?_
  intro p e s m args below meth c ls rr A E hr hlk hl w
  have hl : lv_has ls 11 [(0, .ref (ad 0)), (1, .long x1), (3, .int x3), (4, .long x4)] := hl
  have hx := E.1
  have hb := E.2.1
  have hown := E.2.2.2.1
  have hts := E.2.2.2.2
  refine lv_iload_n hx hb (dq da_X12_loads 0 rfl) rfl (lv_at hl 2 rfl) ?_
  refine lv_bipush (v := 7) hx hb (dq da_X12_loads 1 rfl) rfl ?_
  refine lv_icmp_ne (tgt := 11) hx hb (dq da_X12_loads 2 rfl) (by decide) (fun c1 => ?_) (fun c1 => ?_)
  · have h := ie c1 h
    refine lv_iconst (v := 1) hx hb (dq da_X12_loads 6 rfl) rfl ?_
    refine lv_iload_n hx hb (dq da_X12_loads 7 rfl) rfl (lv_at hl 2 rfl) ?_
    refine lv_iconst (v := 4) hx hb (dq da_X12_loads 8 rfl) rfl ?_
    refine lv_irem hx hb (dq da_X12_loads 9 rfl) (by decide) ?_
    refine lv_ishl hx hb (dq da_X12_loads 10 rfl) ?_
    refine lv_istore (lv' := [(6, .int ((1 : Int32) <<< ((x3 - x3 / (4 : Int32) * (4 : Int32)) &&& 31))), (0, .ref (ad 0)), (1, .long x1), (3, .int x3), (4, .long x4)]) hx hb (dq da_X12_loads 11 rfl) hl (by decide) rfl (fun ls hl => ?_)
    refine lv_aload_n hx hb (dq da_X12_loads 12 rfl) rfl (lv_at hl 1 rfl) ?_
    refine lv_lload hx hb (dq da_X12_loads 13 rfl) (lv_at hl 4 rfl) ?_
    refine lv_iload hx hb (dq da_X12_loads 14 rfl) (lv_at hl 0 rfl) ?_
    refine lv_iconst (v := 1) hx hb (dq da_X12_loads 15 rfl) rfl ?_
    refine lv_iconst (v := 0) hx hb (dq da_X12_loads 16 rfl) rfl ?_
    obtain ⟨y2, hy3, h⟩ := ob h
    refine cV1 E (c_X12_reach l D cy ad _ _ _ _ _ hy3) w_1535 w_1537 w_p69 w_10 w_1538 rfl hd_X12_reach rfl hl.1 rfl (Nat.le_of_ble_eq_true rfl) ⟨Nat.le_of_ble_eq_true rfl, Nat.le_of_ble_eq_true rfl⟩ (by decide) w (rc_wM_0 w) (dq da_X12_loads 17 rfl) (fun H locs rr w => ?_)
    refine lv_lstore (lv' := [(7, .long y2.1), (6, .int ((1 : Int32) <<< ((x3 - x3 / (4 : Int32) * (4 : Int32)) &&& 31))), (0, .ref (ad 0)), (1, .long x1), (3, .int x3), (4, .long x4)]) hx hb (dq da_X12_loads 18 rfl) hl (by decide) rfl (fun ls hl => ?_)
    refine lv_aload_n hx hb (dq da_X12_loads 19 rfl) rfl (lv_at hl 2 rfl) ?_
    refine gt_wM_0_fault E w w_1136 (dq da_X12_loads 20 rfl) ?_
    refine lv_if_lt (tgt := 38) hx hb (dq da_X12_loads 21 rfl) (by decide) (fun c4 => ?_) (fun c4 => ?_)
    · have h := it c4 h
      refine lv_aload_n hx hb (dq da_X12_loads 23 rfl) rfl (lv_at hl 2 rfl) ?_
      refine lv_lload hx hb (dq da_X12_loads 24 rfl) (lv_at hl 0 rfl) ?_
      refine lv_iload hx hb (dq da_X12_loads 25 rfl) (lv_at hl 1 rfl) ?_
      obtain ⟨y5, hy6, h⟩ := ob h
      refine cV1 E (c_X12_readAt l D cy ad _ _ _ hy6) w_1561 w_1563 w_p71 w_10 w_1564 rfl hd_X12_readAt rfl hl.1 rfl (Nat.le_of_ble_eq_true rfl) ⟨Nat.le_of_ble_eq_true rfl, Nat.le_of_ble_eq_true rfl⟩ (by decide) w (rc_wM_0 w) (dq da_X12_loads 26 rfl) (fun H locs rr w => ?_)
      refine lv_lstore (lv' := [(9, .long y5.1), (7, .long y2.1), (6, .int ((1 : Int32) <<< ((x3 - x3 / (4 : Int32) * (4 : Int32)) &&& 31))), (0, .ref (ad 0)), (1, .long x1), (3, .int x3), (4, .long x4)]) hx hb (dq da_X12_loads 27 rfl) hl (by decide) rfl (fun ls hl => ?_)
      refine lv_aload_n hx hb (dq da_X12_loads 28 rfl) rfl (lv_at hl 3 rfl) ?_
      refine lv_lload_n hx hb (dq da_X12_loads 29 rfl) rfl (lv_at hl 4 rfl) ?_
      refine lv_iload hx hb (dq da_X12_loads 30 rfl) (lv_at hl 2 rfl) ?_
      refine lv_bipush (v := 8) hx hb (dq da_X12_loads 31 rfl) rfl ?_
      refine lv_icmp_ne (tgt := 62) hx hb (dq da_X12_loads 32 rfl) (by decide) (fun c7 => ?_) (fun c7 => ?_)
      · have h := ie c7 h
        refine lv_iload_n hx hb (dq da_X12_loads 35 rfl) rfl (lv_at hl 5 rfl) ?_
        refine lv_iconst (v := 3) hx hb (dq da_X12_loads 36 rfl) rfl ?_
        refine lv_icmp_le (tgt := 83) hx hb (dq da_X12_loads 37 rfl) (by decide) (fun c8 => ?_) (fun c8 => ?_)
        · have h := it c8 h
          refine lv_lload hx hb (dq da_X12_loads 47 rfl) (lv_at hl 0 rfl) ?_
          refine lv_bipush (v := 8) hx hb (dq da_X12_loads 48 rfl) rfl ?_
          refine lv_iload hx hb (dq da_X12_loads 49 rfl) (lv_at hl 2 rfl) ?_
          refine lv_imul hx hb (dq da_X12_loads 50 rfl) ?_
          refine callP E (c_X12_signed l _ _ ) w_1440 w_1441 w_10 w_1442 hd_X12_signed rfl hl.1 rfl (Nat.le_of_ble_eq_true rfl) ⟨Nat.le_of_ble_eq_true rfl, Nat.le_of_ble_eq_true rfl⟩ (by decide) (dq da_X12_loads 51 rfl) ?_
          exact b_X12_loads_b93 E hr hlk h (lv_sub hl [] rfl) w
        · have h := ie c8 h
          refine lv_lload hx hb (dq da_X12_loads 38 rfl) (lv_at hl 0 rfl) ?_
          refine lv_bipush (v := 8) hx hb (dq da_X12_loads 39 rfl) rfl ?_
          refine lv_iload hx hb (dq da_X12_loads 40 rfl) (lv_at hl 2 rfl) ?_
          refine lv_imul hx hb (dq da_X12_loads 41 rfl) ?_
          refine lv_iconst (v := 1) hx hb (dq da_X12_loads 42 rfl) rfl ?_
          refine lv_isub hx hb (dq da_X12_loads 43 rfl) ?_
          refine lv_iconst (v := 0) hx hb (dq da_X12_loads 44 rfl) rfl ?_
          refine callP E (c_X12_cut l _ _ _ ) w_1384 w_1385 w_10 w_1386 hd_X12_cut rfl hl.1 rfl (Nat.le_of_ble_eq_true rfl) ⟨Nat.le_of_ble_eq_true rfl, Nat.le_of_ble_eq_true rfl⟩ (by decide) (dq da_X12_loads 45 rfl) ?_
          refine lv_goto (tgt := 93) hx hb (dq da_X12_loads 46 rfl) (by decide) ?_
          exact b_X12_loads_b93 E hr hlk h (lv_sub hl [] rfl) w
      · have h := it c7 h
        refine lv_lload hx hb (dq da_X12_loads 33 rfl) (lv_at hl 0 rfl) ?_
        refine lv_goto (tgt := 93) hx hb (dq da_X12_loads 34 rfl) (by decide) ?_
        exact b_X12_loads_b93 E hr hlk h (lv_sub hl [] rfl) w
    · have h := ie c4 h
      exact xret_v E hr hlk w (by decide) (os h) (dq da_X12_loads 22 rfl)
  · have h := it c1 h
    refine lv_aload_n hx hb (dq da_X12_loads 3 rfl) rfl (lv_at hl 0 rfl) ?_
    refine cV0 E (c_X12_illegal l D cy ad _ ) w_1523 w_1525 w_p66 w_10 w_1526 rfl hd_X12_illegal rfl hl.1 rfl (Nat.le_of_ble_eq_true rfl) ⟨Nat.le_of_ble_eq_true rfl, Nat.le_of_ble_eq_true rfl⟩ (by decide) w (rc_wM_0 w) (dq da_X12_loads 4 rfl) (fun H locs rr w => ?_)
    exact xret_v E hr hlk w (by decide) (os h) (dq da_X12_loads 5 rfl)
def dl_X12_stores : List (Nat × Instr × Nat) := [(0, .iload_n 1, 1), (1, .iconst 3, 1), (2, .if_icmp .le 8, 3), (5, .aload_n 0, 1), (6, .invokevirtual 396, 3), (9, .return_, 1), (10, .aload_n 0, 1), (11, .lload_n 2, 1), (12, .iconst 1, 1), (13, .iload_n 1, 1), (14, .ishl, 1), (15, .iconst 2, 1), (16, .iconst 0, 1), (17, .invokevirtual 428, 3), (20, .lstore 6, 2), (22, .aload_n 0, 1), (23, .getfield 56, 3), (26, .ifCond .ge 14, 3), (29, .aload_n 0, 1), (30, .lload 6, 2), (32, .iconst 1, 1), (33, .iload_n 1, 1), (34, .ishl, 1), (35, .lload 4, 2), (37, .invokevirtual 435, 3), (40, .return_, 1)]
theorem da_X12_stores : dkL cX12_stores dl_X12_stores = true := by decide +kernel
def f_X12_stores (x1 : Int32) (x2 : Int64) (x4 : Int64) (u : St) : Option (St) := if x1 ≤ (3 : Int32) then ((f_X12_reach x2 ((1 : Int32) <<< (x1 &&& 31)) (2 : Int32) (0 : Int32) u).bind (fun y2 => if (0 : Int32) ≤ (gI y2.2 16) then (some y2.2) else ((f_X12_writeAt y2.1 ((1 : Int32) <<< (x1 &&& 31)) x4 y2.2).bind (fun y5 => some y5)))) else (some (f_X12_illegal u))
set_option maxRecDepth 100000 in
set_option maxHeartbeats 4000000 in
theorem c_X12_stores (l : Launch) (D : va_G) (cy : ClassId × ClassId × ClassId) (ad : Nat → Nat) (x1 : Int32) (x2 : Int64) (x4 : Int64) (u : St) {u' : St} (h : f_X12_stores x1 x2 x4 u = some u') : MX (wM cy ad) D cy l yX12_stores cX12_stores 8 (none) 4 98 0 [.ref (ad 0), .int x1, .long x2, .long x4] u u' none := by
  refine entX (by decide +kernel) (Nat.le_of_ble_eq_true rfl) ?_
  intro p e s m args below meth c ls rr A E hr hlk hl w
  have hl : lv_has ls 8 [(0, .ref (ad 0)), (1, .int x1), (2, .long x2), (4, .long x4)] := hl
  have hx := E.1
  have hb := E.2.1
  have hown := E.2.2.2.1
  have hts := E.2.2.2.2
  refine lv_iload_n hx hb (dq da_X12_stores 0 rfl) rfl (lv_at hl 1 rfl) ?_
  refine lv_iconst (v := 3) hx hb (dq da_X12_stores 1 rfl) rfl ?_
  refine lv_icmp_le (tgt := 10) hx hb (dq da_X12_stores 2 rfl) (by decide) (fun c1 => ?_) (fun c1 => ?_)
  · have h := it c1 h
    refine lv_aload_n hx hb (dq da_X12_stores 6 rfl) rfl (lv_at hl 0 rfl) ?_
    refine lv_lload_n hx hb (dq da_X12_stores 7 rfl) rfl (lv_at hl 2 rfl) ?_
    refine lv_iconst (v := 1) hx hb (dq da_X12_stores 8 rfl) rfl ?_
    refine lv_iload_n hx hb (dq da_X12_stores 9 rfl) rfl (lv_at hl 1 rfl) ?_
    refine lv_ishl hx hb (dq da_X12_stores 10 rfl) ?_
    refine lv_iconst (v := 2) hx hb (dq da_X12_stores 11 rfl) rfl ?_
    refine lv_iconst (v := 0) hx hb (dq da_X12_stores 12 rfl) rfl ?_
    obtain ⟨y2, hy3, h⟩ := ob h
    refine cV1 E (c_X12_reach l D cy ad _ _ _ _ _ hy3) w_1535 w_1537 w_p69 w_10 w_1538 rfl hd_X12_reach rfl hl.1 rfl (Nat.le_of_ble_eq_true rfl) ⟨Nat.le_of_ble_eq_true rfl, Nat.le_of_ble_eq_true rfl⟩ (by decide) w (rc_wM_0 w) (dq da_X12_stores 13 rfl) (fun H locs rr w => ?_)
    refine lv_lstore (lv' := [(6, .long y2.1), (0, .ref (ad 0)), (1, .int x1), (2, .long x2), (4, .long x4)]) hx hb (dq da_X12_stores 14 rfl) hl (by decide) rfl (fun ls hl => ?_)
    refine lv_aload_n hx hb (dq da_X12_stores 15 rfl) rfl (lv_at hl 1 rfl) ?_
    refine gt_wM_0_fault E w w_1136 (dq da_X12_stores 16 rfl) ?_
    refine lv_if_ge (tgt := 40) hx hb (dq da_X12_stores 17 rfl) (by decide) (fun c4 => ?_) (fun c4 => ?_)
    · have h := it c4 h
      exact xret_v E hr hlk w (by decide) (os h) (dq da_X12_stores 25 rfl)
    · have h := ie c4 h
      refine lv_aload_n hx hb (dq da_X12_stores 18 rfl) rfl (lv_at hl 1 rfl) ?_
      refine lv_lload hx hb (dq da_X12_stores 19 rfl) (lv_at hl 0 rfl) ?_
      refine lv_iconst (v := 1) hx hb (dq da_X12_stores 20 rfl) rfl ?_
      refine lv_iload_n hx hb (dq da_X12_stores 21 rfl) rfl (lv_at hl 2 rfl) ?_
      refine lv_ishl hx hb (dq da_X12_stores 22 rfl) ?_
      refine lv_lload hx hb (dq da_X12_stores 23 rfl) (lv_at hl 4 rfl) ?_
      obtain ⟨y5, hy6, h⟩ := ob h
      refine cV0 E (c_X12_writeAt l D cy ad _ _ _ _ hy6) w_1581 w_1583 w_p75 w_10 w_1584 rfl hd_X12_writeAt rfl hl.1 rfl (Nat.le_of_ble_eq_true rfl) ⟨Nat.le_of_ble_eq_true rfl, Nat.le_of_ble_eq_true rfl⟩ (by decide) w (rc_wM_0 w) (dq da_X12_stores 24 rfl) (fun H locs rr w => ?_)
      exact xret_v E hr hlk w (by decide) (os h) (dq da_X12_stores 25 rfl)
  · have h := ie c1 h
    refine lv_aload_n hx hb (dq da_X12_stores 3 rfl) rfl (lv_at hl 0 rfl) ?_
    refine cV0 E (c_X12_illegal l D cy ad _ ) w_1523 w_1525 w_p66 w_10 w_1526 rfl hd_X12_illegal rfl hl.1 rfl (Nat.le_of_ble_eq_true rfl) ⟨Nat.le_of_ble_eq_true rfl, Nat.le_of_ble_eq_true rfl⟩ (by decide) w (rc_wM_0 w) (dq da_X12_stores 4 rfl) (fun H locs rr w => ?_)
    exact xret_v E hr hlk w (by decide) (os h) (dq da_X12_stores 5 rfl)
def dl_X12_immediates : List (Nat × Instr × Nat) := [(0, .lload_n 1, 1), (1, .bipush 25, 2), (3, .bipush 20, 2), (5, .invokestatic 196, 3), (8, .l2i, 1), (9, .istore 8, 2), (11, .lload_n 1, 1), (12, .bipush 31, 2), (14, .bipush 26, 2), (16, .invokestatic 196, 3), (19, .lstore 9, 2), (21, .iload_n 3, 1), (22, .tableswitch 169 0 7 #[46, 142, 59, 80, 103, 169, 116, 129], 46), (68, .aload_n 0, 1), (69, .lload_n 1, 1), (70, .lload 4, 2), (72, .lload 6, 2), (74, .ladd, 1), (75, .invokevirtual 392, 3), (78, .goto 161, 3), (81, .aload_n 0, 1), (82, .lload_n 1, 1), (83, .lload 4, 2), (85, .lload 6, 2), (87, .lcmp, 1), (88, .ifCond .ge 7, 3), (91, .lconst 1, 1), (92, .goto 4, 3), (95, .lconst 0, 1), (96, .invokevirtual 392, 3), (99, .goto 140, 3), (102, .aload_n 0, 1), (103, .lload_n 1, 1), (104, .lload 4, 2), (106, .lload 6, 2), (108, .invokestatic 231, 3), (111, .ifCond .eq 7, 3), (114, .lconst 1, 1), (115, .goto 4, 3), (118, .lconst 0, 1), (119, .invokevirtual 392, 3), (122, .goto 117, 3), (125, .aload_n 0, 1), (126, .lload_n 1, 1), (127, .lload 4, 2), (129, .lload 6, 2), (131, .lxor, 1), (132, .invokevirtual 392, 3), (135, .goto 104, 3), (138, .aload_n 0, 1), (139, .lload_n 1, 1), (140, .lload 4, 2), (142, .lload 6, 2), (144, .lor, 1), (145, .invokevirtual 392, 3), (148, .goto 91, 3), (151, .aload_n 0, 1), (152, .lload_n 1, 1), (153, .lload 4, 2), (155, .lload 6, 2), (157, .land, 1), (158, .invokevirtual 392, 3), (161, .goto 78, 3), (164, .lload 9, 2), (166, .lconst 0, 1), (167, .lcmp, 1), (168, .ifCond .eq 10, 3), (171, .aload_n 0, 1), (172, .invokevirtual 396, 3), (175, .goto 64, 3), (178, .aload_n 0, 1), (179, .lload_n 1, 1), (180, .lload 4, 2), (182, .iload 8, 2), (184, .lshl, 1), (185, .invokevirtual 392, 3), (188, .goto 51, 3), (191, .lload 9, 2), (193, .lconst 0, 1), (194, .lcmp, 1), (195, .ifCond .eq 19, 3), (198, .lload 9, 2), (200, .ldc2_w 438, 3), (203, .lcmp, 1), (204, .ifCond .eq 10, 3), (207, .aload_n 0, 1), (208, .invokevirtual 396, 3), (211, .goto 28, 3), (214, .aload_n 0, 1), (215, .lload_n 1, 1), (216, .lload 9, 2), (218, .lconst 0, 1), (219, .lcmp, 1), (220, .ifCond .ne 11, 3), (223, .lload 4, 2), (225, .iload 8, 2), (227, .lushr, 1), (228, .goto 8, 3), (231, .lload 4, 2), (233, .iload 8, 2), (235, .lshr, 1), (236, .invokevirtual 392, 3), (239, .return_, 1)]
theorem da_X12_immediates : dkL cX12_immediates dl_X12_immediates = true := by decide +kernel
def f_X12_immediates_b96 (s0 : Int64) (s1 : Int64) (u : St) : Option (St) := (f_X12_gives s1 s0 u).bind (fun y10 => some y10)
set_option maxRecDepth 100000 in
set_option maxHeartbeats 4000000 in
theorem b_X12_immediates_b96 {p : Program} {l : Launch} {e : Env} {s : State} {m : MethodId} {args : Array Value} {below : List Frame} {meth : Method} {c : Code} {D : va_G} {cy : ClassId × ClassId × ClassId} {ad : Nat → Nat} {A : Nat → Prop} (E : CallFix p m c cX12_immediates 11 s args gw RX12) (hr : meth.sig.returnType = none) (hlk : meth.locks = false) {s0 : Int64} {s1 : Int64} {u : St} {u' : St} (h : f_X12_immediates_b96 s0 s1 u = some u') {ls : Array Slot} {H : Heap} {locs : List Loc} {rr : Nat → Nat} (hl : lv_has ls 11 []) (w : WX (wM cy ad) D cy rr u A s H locs) : Wx (wM cy ad) D p l e 2 48 0 s m args below meth c A u' none H locs 0 96 ls [.long s0, .long s1, .ref (ad 0)] := by
  have hx := E.1
  have hb := E.2.1
  have hown := E.2.2.2.1
  have hts := E.2.2.2.2
  obtain ⟨y10, hy11, h⟩ := ob h
  refine cV0 E (c_X12_gives l D cy ad _ _ _ hy11) w_1519 w_1521 w_p65 w_10 w_1522 rfl hd_X12_gives rfl hl.1 rfl (Nat.le_of_ble_eq_true rfl) ⟨Nat.le_of_ble_eq_true rfl, Nat.le_of_ble_eq_true rfl⟩ (by decide) w (rc_wM_0 w) (dq da_X12_immediates 29 rfl) (fun H locs rr w => ?_)
  refine lv_goto (tgt := 239) hx hb (dq da_X12_immediates 30 rfl) (by decide) ?_
  exact xret_v E hr hlk w (by decide) (os h) (dq da_X12_immediates 102 rfl)
def f_X12_immediates_b119 (s0 : Int64) (s1 : Int64) (u : St) : Option (St) := (f_X12_gives s1 s0 u).bind (fun y14 => some y14)
set_option maxRecDepth 100000 in
set_option maxHeartbeats 4000000 in
theorem b_X12_immediates_b119 {p : Program} {l : Launch} {e : Env} {s : State} {m : MethodId} {args : Array Value} {below : List Frame} {meth : Method} {c : Code} {D : va_G} {cy : ClassId × ClassId × ClassId} {ad : Nat → Nat} {A : Nat → Prop} (E : CallFix p m c cX12_immediates 11 s args gw RX12) (hr : meth.sig.returnType = none) (hlk : meth.locks = false) {s0 : Int64} {s1 : Int64} {u : St} {u' : St} (h : f_X12_immediates_b119 s0 s1 u = some u') {ls : Array Slot} {H : Heap} {locs : List Loc} {rr : Nat → Nat} (hl : lv_has ls 11 []) (w : WX (wM cy ad) D cy rr u A s H locs) : Wx (wM cy ad) D p l e 2 48 0 s m args below meth c A u' none H locs 0 119 ls [.long s0, .long s1, .ref (ad 0)] := by
  have hx := E.1
  have hb := E.2.1
  have hown := E.2.2.2.1
  have hts := E.2.2.2.2
  obtain ⟨y14, hy15, h⟩ := ob h
  refine cV0 E (c_X12_gives l D cy ad _ _ _ hy15) w_1519 w_1521 w_p65 w_10 w_1522 rfl hd_X12_gives rfl hl.1 rfl (Nat.le_of_ble_eq_true rfl) ⟨Nat.le_of_ble_eq_true rfl, Nat.le_of_ble_eq_true rfl⟩ (by decide) w (rc_wM_0 w) (dq da_X12_immediates 40 rfl) (fun H locs rr w => ?_)
  refine lv_goto (tgt := 239) hx hb (dq da_X12_immediates 41 rfl) (by decide) ?_
  exact xret_v E hr hlk w (by decide) (os h) (dq da_X12_immediates 102 rfl)
def f_X12_immediates_b236 (s0 : Int64) (s1 : Int64) (u : St) : Option (St) := (f_X12_gives s1 s0 u).bind (fun y22 => some y22)
set_option maxRecDepth 100000 in
set_option maxHeartbeats 4000000 in
theorem b_X12_immediates_b236 {p : Program} {l : Launch} {e : Env} {s : State} {m : MethodId} {args : Array Value} {below : List Frame} {meth : Method} {c : Code} {D : va_G} {cy : ClassId × ClassId × ClassId} {ad : Nat → Nat} {A : Nat → Prop} (E : CallFix p m c cX12_immediates 11 s args gw RX12) (hr : meth.sig.returnType = none) (hlk : meth.locks = false) {s0 : Int64} {s1 : Int64} {u : St} {u' : St} (h : f_X12_immediates_b236 s0 s1 u = some u') {ls : Array Slot} {H : Heap} {locs : List Loc} {rr : Nat → Nat} (hl : lv_has ls 11 []) (w : WX (wM cy ad) D cy rr u A s H locs) : Wx (wM cy ad) D p l e 2 48 0 s m args below meth c A u' none H locs 0 236 ls [.long s0, .long s1, .ref (ad 0)] := by
  have hx := E.1
  have hb := E.2.1
  have hown := E.2.2.2.1
  have hts := E.2.2.2.2
  obtain ⟨y22, hy23, h⟩ := ob h
  refine cV0 E (c_X12_gives l D cy ad _ _ _ hy23) w_1519 w_1521 w_p65 w_10 w_1522 rfl hd_X12_gives rfl hl.1 rfl (Nat.le_of_ble_eq_true rfl) ⟨Nat.le_of_ble_eq_true rfl, Nat.le_of_ble_eq_true rfl⟩ (by decide) w (rc_wM_0 w) (dq da_X12_immediates 101 rfl) (fun H locs rr w => ?_)
  exact xret_v E hr hlk w (by decide) (os h) (dq da_X12_immediates 102 rfl)
def f_X12_immediates_b214 (x1 : Int64) (x4 : Int64) (x8 : Int32) (x9 : Int64) (u : St) : Option (St) := if x9 = (0 : Int64) then (f_X12_immediates_b236 (j_lushr x4 x8) x1 u) else (f_X12_immediates_b236 (j_lshr x4 x8) x1 u)
set_option maxRecDepth 100000 in
set_option maxHeartbeats 4000000 in
theorem b_X12_immediates_b214 {p : Program} {l : Launch} {e : Env} {s : State} {m : MethodId} {args : Array Value} {below : List Frame} {meth : Method} {c : Code} {D : va_G} {cy : ClassId × ClassId × ClassId} {ad : Nat → Nat} {A : Nat → Prop} (E : CallFix p m c cX12_immediates 11 s args gw RX12) (hr : meth.sig.returnType = none) (hlk : meth.locks = false) {x1 : Int64} {x4 : Int64} {x8 : Int32} {x9 : Int64} {u : St} {u' : St} (h : f_X12_immediates_b214 x1 x4 x8 x9 u = some u') {ls : Array Slot} {H : Heap} {locs : List Loc} {rr : Nat → Nat} (hl : lv_has ls 11 [(0, .ref (ad 0)), (1, .long x1), (4, .long x4), (8, .int x8), (9, .long x9)]) (w : WX (wM cy ad) D cy rr u A s H locs) : Wx (wM cy ad) D p l e 2 48 0 s m args below meth c A u' none H locs 0 214 ls [] := by
  have hx := E.1
  have hb := E.2.1
  have hown := E.2.2.2.1
  have hts := E.2.2.2.2
  refine lv_aload_n hx hb (dq da_X12_immediates 88 rfl) rfl (lv_at hl 0 rfl) ?_
  refine lv_lload_n hx hb (dq da_X12_immediates 89 rfl) rfl (lv_at hl 1 rfl) ?_
  refine lv_lload hx hb (dq da_X12_immediates 90 rfl) (lv_at hl 4 rfl) ?_
  refine lv_lconst (v := 0) hx hb (dq da_X12_immediates 91 rfl) rfl ?_
  refine lc_ne (tgt := 231) hx hb (dq da_X12_immediates 92 rfl) (dq da_X12_immediates 93 rfl) (by decide) (fun c21 => ?_) (fun c21 => ?_)
  · have h := ie c21 h
    refine lv_lload hx hb (dq da_X12_immediates 98 rfl) (lv_at hl 2 rfl) ?_
    refine lv_iload hx hb (dq da_X12_immediates 99 rfl) (lv_at hl 3 rfl) ?_
    refine lv_lshr (v := (j_lshr x4 x8)) hx hb (dq da_X12_immediates 100 rfl) rfl ?_
    exact b_X12_immediates_b236 E hr hlk h (lv_sub hl [] rfl) w
  · have h := it c21 h
    refine lv_lload hx hb (dq da_X12_immediates 94 rfl) (lv_at hl 2 rfl) ?_
    refine lv_iload hx hb (dq da_X12_immediates 95 rfl) (lv_at hl 3 rfl) ?_
    refine lv_lushr (v := (j_lushr x4 x8)) hx hb (dq da_X12_immediates 96 rfl) rfl ?_
    refine lv_goto (tgt := 236) hx hb (dq da_X12_immediates 97 rfl) (by decide) ?_
    exact b_X12_immediates_b236 E hr hlk h (lv_sub hl [] rfl) w
def f_X12_immediates_b191 (x1 : Int64) (x4 : Int64) (x8 : Int32) (x9 : Int64) (u : St) : Option (St) := if x9 = (0 : Int64) then (f_X12_immediates_b214 x1 x4 x8 x9 u) else (if x9 = (16 : Int64) then (f_X12_immediates_b214 x1 x4 x8 x9 u) else (some (f_X12_illegal u)))
set_option maxRecDepth 100000 in
set_option maxHeartbeats 4000000 in
theorem b_X12_immediates_b191 {p : Program} {l : Launch} {e : Env} {s : State} {m : MethodId} {args : Array Value} {below : List Frame} {meth : Method} {c : Code} {D : va_G} {cy : ClassId × ClassId × ClassId} {ad : Nat → Nat} {A : Nat → Prop} (E : CallFix p m c cX12_immediates 11 s args gw RX12) (hr : meth.sig.returnType = none) (hlk : meth.locks = false) {x1 : Int64} {x4 : Int64} {x8 : Int32} {x9 : Int64} {u : St} {u' : St} (h : f_X12_immediates_b191 x1 x4 x8 x9 u = some u') {ls : Array Slot} {H : Heap} {locs : List Loc} {rr : Nat → Nat} (hl : lv_has ls 11 [(0, .ref (ad 0)), (1, .long x1), (4, .long x4), (8, .int x8), (9, .long x9)]) (w : WX (wM cy ad) D cy rr u A s H locs) : Wx (wM cy ad) D p l e 2 48 0 s m args below meth c A u' none H locs 0 191 ls [] := by
  have hx := E.1
  have hb := E.2.1
  have hown := E.2.2.2.1
  have hts := E.2.2.2.2
  refine lv_lload hx hb (dq da_X12_immediates 77 rfl) (lv_at hl 4 rfl) ?_
  refine lv_lconst (v := 0) hx hb (dq da_X12_immediates 78 rfl) rfl ?_
  refine lc_eq (tgt := 214) hx hb (dq da_X12_immediates 79 rfl) (dq da_X12_immediates 80 rfl) (by decide) (fun c20 => ?_) (fun c20 => ?_)
  · have h := it c20 h
    exact b_X12_immediates_b214 E hr hlk h (lv_sub hl [0, 1, 2, 3, 4] rfl) w
  · have h := ie c20 h
    refine lv_lload hx hb (dq da_X12_immediates 81 rfl) (lv_at hl 4 rfl) ?_
    refine lv_ldc2 hx hb hown (hts _ w_1268) (dq da_X12_immediates 82 rfl) ?_
    refine lc_eq (tgt := 214) hx hb (dq da_X12_immediates 83 rfl) (dq da_X12_immediates 84 rfl) (by decide) (fun c24 => ?_) (fun c24 => ?_)
    · have h := it c24 h
      exact b_X12_immediates_b214 E hr hlk h (lv_sub hl [0, 1, 2, 3, 4] rfl) w
    · have h := ie c24 h
      refine lv_aload_n hx hb (dq da_X12_immediates 85 rfl) rfl (lv_at hl 0 rfl) ?_
      refine cV0 E (c_X12_illegal l D cy ad _ ) w_1523 w_1525 w_p66 w_10 w_1526 rfl hd_X12_illegal rfl hl.1 rfl (Nat.le_of_ble_eq_true rfl) ⟨Nat.le_of_ble_eq_true rfl, Nat.le_of_ble_eq_true rfl⟩ (by decide) w (rc_wM_0 w) (dq da_X12_immediates 86 rfl) (fun H locs rr w => ?_)
      refine lv_goto (tgt := 239) hx hb (dq da_X12_immediates 87 rfl) (by decide) ?_
      exact xret_v E hr hlk w (by decide) (os h) (dq da_X12_immediates 102 rfl)
def f_X12_immediates (x1 : Int64) (x3 : Int32) (x4 : Int64) (x6 : Int64) (u : St) : Option (St) := if x3 = (0 : Int32) then ((f_X12_gives x1 (x4 + x6) u).bind (fun y2 => some y2)) else if x3 = (1 : Int32) then (if (f_X12_cut x1 (31 : Int32) (26 : Int32)) = (0 : Int64) then ((f_X12_gives x1 (j_lshl x4 ((f_X12_cut x1 (25 : Int32) (20 : Int32)).toInt32)) u).bind (fun y6 => some y6)) else (some (f_X12_illegal u))) else if x3 = (2 : Int32) then (if x6 ≤ x4 then (f_X12_immediates_b96 (0 : Int64) x1 u) else (f_X12_immediates_b96 (1 : Int64) x1 u)) else if x3 = (3 : Int32) then (if (f_X12_isLess x4 x6) = (0 : Int32) then (f_X12_immediates_b119 (0 : Int64) x1 u) else (f_X12_immediates_b119 (1 : Int64) x1 u)) else if x3 = (4 : Int32) then ((f_X12_gives x1 (x4 ^^^ x6) u).bind (fun y17 => some y17)) else if x3 = (5 : Int32) then (f_X12_immediates_b191 x1 x4 ((f_X12_cut x1 (25 : Int32) (20 : Int32)).toInt32) (f_X12_cut x1 (31 : Int32) (26 : Int32)) u) else if x3 = (6 : Int32) then ((f_X12_gives x1 (x4 ||| x6) u).bind (fun y26 => some y26)) else if x3 = (7 : Int32) then ((f_X12_gives x1 (x4 &&& x6) u).bind (fun y29 => some y29)) else (f_X12_immediates_b191 x1 x4 ((f_X12_cut x1 (25 : Int32) (20 : Int32)).toInt32) (f_X12_cut x1 (31 : Int32) (26 : Int32)) u)
set_option maxRecDepth 100000 in
set_option maxHeartbeats 4000000 in
theorem c_X12_immediates (l : Launch) (D : va_G) (cy : ClassId × ClassId × ClassId) (ad : Nat → Nat) (x1 : Int64) (x3 : Int32) (x4 : Int64) (x6 : Int64) (u : St) {u' : St} (h : f_X12_immediates x1 x3 x4 x6 u = some u') : MX (wM cy ad) D cy l yX12_immediates cX12_immediates 11 (none) 2 48 0 [.ref (ad 0), .long x1, .int x3, .long x4, .long x6] u u' none := by
  refine entX (by decide +kernel) (Nat.le_of_ble_eq_true rfl) ?_
  intro p e s m args below meth c ls rr A E hr hlk hl w
  have hl : lv_has ls 11 [(0, .ref (ad 0)), (1, .long x1), (3, .int x3), (4, .long x4), (6, .long x6)] := hl
  have hx := E.1
  have hb := E.2.1
  have hown := E.2.2.2.1
  have hts := E.2.2.2.2
  refine lv_lload_n hx hb (dq da_X12_immediates 0 rfl) rfl (lv_at hl 1 rfl) ?_
  refine lv_bipush (v := 25) hx hb (dq da_X12_immediates 1 rfl) rfl ?_
  refine lv_bipush (v := 20) hx hb (dq da_X12_immediates 2 rfl) rfl ?_
  refine callP E (c_X12_cut l _ _ _ ) w_1384 w_1385 w_10 w_1386 hd_X12_cut rfl hl.1 rfl (Nat.le_of_ble_eq_true rfl) ⟨Nat.le_of_ble_eq_true rfl, Nat.le_of_ble_eq_true rfl⟩ (by decide) (dq da_X12_immediates 3 rfl) ?_
  refine lv_l2i (v := (f_X12_cut x1 (25 : Int32) (20 : Int32)).toInt32) hx hb (dq da_X12_immediates 4 rfl) rfl ?_
  refine lv_istore (lv' := [(8, .int ((f_X12_cut x1 (25 : Int32) (20 : Int32)).toInt32)), (0, .ref (ad 0)), (1, .long x1), (3, .int x3), (4, .long x4), (6, .long x6)]) hx hb (dq da_X12_immediates 5 rfl) hl (by decide) rfl (fun ls hl => ?_)
  refine lv_lload_n hx hb (dq da_X12_immediates 6 rfl) rfl (lv_at hl 2 rfl) ?_
  refine lv_bipush (v := 31) hx hb (dq da_X12_immediates 7 rfl) rfl ?_
  refine lv_bipush (v := 26) hx hb (dq da_X12_immediates 8 rfl) rfl ?_
  refine callP E (c_X12_cut l _ _ _ ) w_1384 w_1385 w_10 w_1386 hd_X12_cut rfl hl.1 rfl (Nat.le_of_ble_eq_true rfl) ⟨Nat.le_of_ble_eq_true rfl, Nat.le_of_ble_eq_true rfl⟩ (by decide) (dq da_X12_immediates 9 rfl) ?_
  refine lv_lstore (lv' := [(9, .long (f_X12_cut x1 (31 : Int32) (26 : Int32))), (8, .int ((f_X12_cut x1 (25 : Int32) (20 : Int32)).toInt32)), (0, .ref (ad 0)), (1, .long x1), (3, .int x3), (4, .long x4), (6, .long x6)]) hx hb (dq da_X12_immediates 10 rfl) hl (by decide) rfl (fun ls hl => ?_)
  refine lv_iload_n hx hb (dq da_X12_immediates 11 rfl) rfl (lv_at hl 4 rfl) ?_
  by_cases c1 : x3 = (0 : Int32)
  · have h := it c1 h
    refine lv_tableIn (off := 46) (tgt := 68) hx hb (dq da_X12_immediates 12 rfl) (by rw [c1]; decide +kernel) (by rw [c1]; decide +kernel) (by rw [c1]; decide +kernel) (by decide) ?_
    refine lv_aload_n hx hb (dq da_X12_immediates 13 rfl) rfl (lv_at hl 2 rfl) ?_
    refine lv_lload_n hx hb (dq da_X12_immediates 14 rfl) rfl (lv_at hl 3 rfl) ?_
    refine lv_lload hx hb (dq da_X12_immediates 15 rfl) (lv_at hl 5 rfl) ?_
    refine lv_lload hx hb (dq da_X12_immediates 16 rfl) (lv_at hl 6 rfl) ?_
    refine lv_ladd hx hb (dq da_X12_immediates 17 rfl) ?_
    obtain ⟨y2, hy3, h⟩ := ob h
    refine cV0 E (c_X12_gives l D cy ad _ _ _ hy3) w_1519 w_1521 w_p65 w_10 w_1522 rfl hd_X12_gives rfl hl.1 rfl (Nat.le_of_ble_eq_true rfl) ⟨Nat.le_of_ble_eq_true rfl, Nat.le_of_ble_eq_true rfl⟩ (by decide) w (rc_wM_0 w) (dq da_X12_immediates 18 rfl) (fun H locs rr w => ?_)
    refine lv_goto (tgt := 239) hx hb (dq da_X12_immediates 19 rfl) (by decide) ?_
    exact xret_v E hr hlk w (by decide) (os h) (dq da_X12_immediates 102 rfl)
  · have h := ie c1 h
    by_cases c4 : x3 = (1 : Int32)
    · have h := it c4 h
      refine lv_tableIn (off := 142) (tgt := 164) hx hb (dq da_X12_immediates 12 rfl) (by rw [c4]; decide +kernel) (by rw [c4]; decide +kernel) (by rw [c4]; decide +kernel) (by decide) ?_
      refine lv_lload hx hb (dq da_X12_immediates 63 rfl) (lv_at hl 0 rfl) ?_
      refine lv_lconst (v := 0) hx hb (dq da_X12_immediates 64 rfl) rfl ?_
      refine lc_eq (tgt := 178) hx hb (dq da_X12_immediates 65 rfl) (dq da_X12_immediates 66 rfl) (by decide) (fun c5 => ?_) (fun c5 => ?_)
      · have h := it c5 h
        refine lv_aload_n hx hb (dq da_X12_immediates 70 rfl) rfl (lv_at hl 2 rfl) ?_
        refine lv_lload_n hx hb (dq da_X12_immediates 71 rfl) rfl (lv_at hl 3 rfl) ?_
        refine lv_lload hx hb (dq da_X12_immediates 72 rfl) (lv_at hl 5 rfl) ?_
        refine lv_iload hx hb (dq da_X12_immediates 73 rfl) (lv_at hl 1 rfl) ?_
        refine lv_lshl (v := (j_lshl x4 ((f_X12_cut x1 (25 : Int32) (20 : Int32)).toInt32))) hx hb (dq da_X12_immediates 74 rfl) rfl ?_
        obtain ⟨y6, hy7, h⟩ := ob h
        refine cV0 E (c_X12_gives l D cy ad _ _ _ hy7) w_1519 w_1521 w_p65 w_10 w_1522 rfl hd_X12_gives rfl hl.1 rfl (Nat.le_of_ble_eq_true rfl) ⟨Nat.le_of_ble_eq_true rfl, Nat.le_of_ble_eq_true rfl⟩ (by decide) w (rc_wM_0 w) (dq da_X12_immediates 75 rfl) (fun H locs rr w => ?_)
        refine lv_goto (tgt := 239) hx hb (dq da_X12_immediates 76 rfl) (by decide) ?_
        exact xret_v E hr hlk w (by decide) (os h) (dq da_X12_immediates 102 rfl)
      · have h := ie c5 h
        refine lv_aload_n hx hb (dq da_X12_immediates 67 rfl) rfl (lv_at hl 2 rfl) ?_
        refine cV0 E (c_X12_illegal l D cy ad _ ) w_1523 w_1525 w_p66 w_10 w_1526 rfl hd_X12_illegal rfl hl.1 rfl (Nat.le_of_ble_eq_true rfl) ⟨Nat.le_of_ble_eq_true rfl, Nat.le_of_ble_eq_true rfl⟩ (by decide) w (rc_wM_0 w) (dq da_X12_immediates 68 rfl) (fun H locs rr w => ?_)
        refine lv_goto (tgt := 239) hx hb (dq da_X12_immediates 69 rfl) (by decide) ?_
        exact xret_v E hr hlk w (by decide) (os h) (dq da_X12_immediates 102 rfl)
    · have h := ie c4 h
      by_cases c8 : x3 = (2 : Int32)
      · have h := it c8 h
        refine lv_tableIn (off := 59) (tgt := 81) hx hb (dq da_X12_immediates 12 rfl) (by rw [c8]; decide +kernel) (by rw [c8]; decide +kernel) (by rw [c8]; decide +kernel) (by decide) ?_
        refine lv_aload_n hx hb (dq da_X12_immediates 20 rfl) rfl (lv_at hl 2 rfl) ?_
        refine lv_lload_n hx hb (dq da_X12_immediates 21 rfl) rfl (lv_at hl 3 rfl) ?_
        refine lv_lload hx hb (dq da_X12_immediates 22 rfl) (lv_at hl 5 rfl) ?_
        refine lv_lload hx hb (dq da_X12_immediates 23 rfl) (lv_at hl 6 rfl) ?_
        refine lc_ge (tgt := 95) hx hb (dq da_X12_immediates 24 rfl) (dq da_X12_immediates 25 rfl) (by decide) (fun c9 => ?_) (fun c9 => ?_)
        · have h := it c9 h
          refine lv_lconst (v := 0) hx hb (dq da_X12_immediates 28 rfl) rfl ?_
          exact b_X12_immediates_b96 E hr hlk h (lv_sub hl [] rfl) w
        · have h := ie c9 h
          refine lv_lconst (v := 1) hx hb (dq da_X12_immediates 26 rfl) rfl ?_
          refine lv_goto (tgt := 96) hx hb (dq da_X12_immediates 27 rfl) (by decide) ?_
          exact b_X12_immediates_b96 E hr hlk h (lv_sub hl [] rfl) w
      · have h := ie c8 h
        by_cases c12 : x3 = (3 : Int32)
        · have h := it c12 h
          refine lv_tableIn (off := 80) (tgt := 102) hx hb (dq da_X12_immediates 12 rfl) (by rw [c12]; decide +kernel) (by rw [c12]; decide +kernel) (by rw [c12]; decide +kernel) (by decide) ?_
          refine lv_aload_n hx hb (dq da_X12_immediates 31 rfl) rfl (lv_at hl 2 rfl) ?_
          refine lv_lload_n hx hb (dq da_X12_immediates 32 rfl) rfl (lv_at hl 3 rfl) ?_
          refine lv_lload hx hb (dq da_X12_immediates 33 rfl) (lv_at hl 5 rfl) ?_
          refine lv_lload hx hb (dq da_X12_immediates 34 rfl) (lv_at hl 6 rfl) ?_
          refine callP E (c_X12_isLess l _ _ ) w_1358 w_1359 w_10 w_1360 hd_X12_isLess rfl hl.1 rfl (Nat.le_of_ble_eq_true rfl) ⟨Nat.le_of_ble_eq_true rfl, Nat.le_of_ble_eq_true rfl⟩ (by decide) (dq da_X12_immediates 35 rfl) ?_
          refine lv_if_eq (tgt := 118) hx hb (dq da_X12_immediates 36 rfl) (by decide) (fun c13 => ?_) (fun c13 => ?_)
          · have h := it c13 h
            refine lv_lconst (v := 0) hx hb (dq da_X12_immediates 39 rfl) rfl ?_
            exact b_X12_immediates_b119 E hr hlk h (lv_sub hl [] rfl) w
          · have h := ie c13 h
            refine lv_lconst (v := 1) hx hb (dq da_X12_immediates 37 rfl) rfl ?_
            refine lv_goto (tgt := 119) hx hb (dq da_X12_immediates 38 rfl) (by decide) ?_
            exact b_X12_immediates_b119 E hr hlk h (lv_sub hl [] rfl) w
        · have h := ie c12 h
          by_cases c16 : x3 = (4 : Int32)
          · have h := it c16 h
            refine lv_tableIn (off := 103) (tgt := 125) hx hb (dq da_X12_immediates 12 rfl) (by rw [c16]; decide +kernel) (by rw [c16]; decide +kernel) (by rw [c16]; decide +kernel) (by decide) ?_
            refine lv_aload_n hx hb (dq da_X12_immediates 42 rfl) rfl (lv_at hl 2 rfl) ?_
            refine lv_lload_n hx hb (dq da_X12_immediates 43 rfl) rfl (lv_at hl 3 rfl) ?_
            refine lv_lload hx hb (dq da_X12_immediates 44 rfl) (lv_at hl 5 rfl) ?_
            refine lv_lload hx hb (dq da_X12_immediates 45 rfl) (lv_at hl 6 rfl) ?_
            refine lv_lxor hx hb (dq da_X12_immediates 46 rfl) ?_
            obtain ⟨y17, hy18, h⟩ := ob h
            refine cV0 E (c_X12_gives l D cy ad _ _ _ hy18) w_1519 w_1521 w_p65 w_10 w_1522 rfl hd_X12_gives rfl hl.1 rfl (Nat.le_of_ble_eq_true rfl) ⟨Nat.le_of_ble_eq_true rfl, Nat.le_of_ble_eq_true rfl⟩ (by decide) w (rc_wM_0 w) (dq da_X12_immediates 47 rfl) (fun H locs rr w => ?_)
            refine lv_goto (tgt := 239) hx hb (dq da_X12_immediates 48 rfl) (by decide) ?_
            exact xret_v E hr hlk w (by decide) (os h) (dq da_X12_immediates 102 rfl)
          · have h := ie c16 h
            by_cases c19 : x3 = (5 : Int32)
            · have h := it c19 h
              refine lv_tableIn (off := 169) (tgt := 191) hx hb (dq da_X12_immediates 12 rfl) (by rw [c19]; decide +kernel) (by rw [c19]; decide +kernel) (by rw [c19]; decide +kernel) (by decide) ?_
              exact b_X12_immediates_b191 E hr hlk h (lv_sub hl [2, 3, 5, 1, 0] rfl) w
            · have h := ie c19 h
              by_cases c25 : x3 = (6 : Int32)
              · have h := it c25 h
                refine lv_tableIn (off := 116) (tgt := 138) hx hb (dq da_X12_immediates 12 rfl) (by rw [c25]; decide +kernel) (by rw [c25]; decide +kernel) (by rw [c25]; decide +kernel) (by decide) ?_
                refine lv_aload_n hx hb (dq da_X12_immediates 49 rfl) rfl (lv_at hl 2 rfl) ?_
                refine lv_lload_n hx hb (dq da_X12_immediates 50 rfl) rfl (lv_at hl 3 rfl) ?_
                refine lv_lload hx hb (dq da_X12_immediates 51 rfl) (lv_at hl 5 rfl) ?_
                refine lv_lload hx hb (dq da_X12_immediates 52 rfl) (lv_at hl 6 rfl) ?_
                refine lv_lor hx hb (dq da_X12_immediates 53 rfl) ?_
                obtain ⟨y26, hy27, h⟩ := ob h
                refine cV0 E (c_X12_gives l D cy ad _ _ _ hy27) w_1519 w_1521 w_p65 w_10 w_1522 rfl hd_X12_gives rfl hl.1 rfl (Nat.le_of_ble_eq_true rfl) ⟨Nat.le_of_ble_eq_true rfl, Nat.le_of_ble_eq_true rfl⟩ (by decide) w (rc_wM_0 w) (dq da_X12_immediates 54 rfl) (fun H locs rr w => ?_)
                refine lv_goto (tgt := 239) hx hb (dq da_X12_immediates 55 rfl) (by decide) ?_
                exact xret_v E hr hlk w (by decide) (os h) (dq da_X12_immediates 102 rfl)
              · have h := ie c25 h
                by_cases c28 : x3 = (7 : Int32)
                · have h := it c28 h
                  refine lv_tableIn (off := 129) (tgt := 151) hx hb (dq da_X12_immediates 12 rfl) (by rw [c28]; decide +kernel) (by rw [c28]; decide +kernel) (by rw [c28]; decide +kernel) (by decide) ?_
                  refine lv_aload_n hx hb (dq da_X12_immediates 56 rfl) rfl (lv_at hl 2 rfl) ?_
                  refine lv_lload_n hx hb (dq da_X12_immediates 57 rfl) rfl (lv_at hl 3 rfl) ?_
                  refine lv_lload hx hb (dq da_X12_immediates 58 rfl) (lv_at hl 5 rfl) ?_
                  refine lv_lload hx hb (dq da_X12_immediates 59 rfl) (lv_at hl 6 rfl) ?_
                  refine lv_land hx hb (dq da_X12_immediates 60 rfl) ?_
                  obtain ⟨y29, hy30, h⟩ := ob h
                  refine cV0 E (c_X12_gives l D cy ad _ _ _ hy30) w_1519 w_1521 w_p65 w_10 w_1522 rfl hd_X12_gives rfl hl.1 rfl (Nat.le_of_ble_eq_true rfl) ⟨Nat.le_of_ble_eq_true rfl, Nat.le_of_ble_eq_true rfl⟩ (by decide) w (rc_wM_0 w) (dq da_X12_immediates 61 rfl) (fun H locs rr w => ?_)
                  refine lv_goto (tgt := 239) hx hb (dq da_X12_immediates 62 rfl) (by decide) ?_
                  exact xret_v E hr hlk w (by decide) (os h) (dq da_X12_immediates 102 rfl)
                · have h := ie c28 h
                  refine lv_tableOut (tgt := 191) hx hb (dq da_X12_immediates 12 rfl) (by have := lv_neT (k := (0 : Int32)) (a := 0) c1 rfl; have := lv_neT (k := (1 : Int32)) (a := 1) c4 rfl; have := lv_neT (k := (2 : Int32)) (a := 2) c8 rfl; have := lv_neT (k := (3 : Int32)) (a := 3) c12 rfl; have := lv_neT (k := (4 : Int32)) (a := 4) c16 rfl; have := lv_neT (k := (5 : Int32)) (a := 5) c19 rfl; have := lv_neT (k := (6 : Int32)) (a := 6) c25 rfl; have := lv_neT (k := (7 : Int32)) (a := 7) c28 rfl; omega) (by decide) ?_
                  exact b_X12_immediates_b191 E hr hlk h (lv_sub hl [2, 3, 5, 1, 0] rfl) w
def dl_X12_shortImmediates : List (Nat × Instr × Nat) := [(0, .lload_n 1, 1), (1, .bipush 24, 2), (3, .bipush 20, 2), (5, .invokestatic 196, 3), (8, .l2i, 1), (9, .istore 8, 2), (11, .lload_n 1, 1), (12, .bipush 31, 2), (14, .bipush 25, 2), (16, .invokestatic 196, 3), (19, .lstore 9, 2), (21, .iload_n 3, 1), (22, .ifCond .ne 21, 3), (25, .aload_n 0, 1), (26, .lload_n 1, 1), (27, .lload 4, 2), (29, .lload 6, 2), (31, .ladd, 1), (32, .bipush 32, 2), (34, .invokestatic 205, 3), (37, .invokevirtual 392, 3), (40, .goto 105, 3), (43, .iload_n 3, 1), (44, .iconst 1, 1), (45, .if_icmp .ne 28, 3), (48, .lload 9, 2), (50, .lconst 0, 1), (51, .lcmp, 1), (52, .ifCond .ne 21, 3), (55, .aload_n 0, 1), (56, .lload_n 1, 1), (57, .lload 4, 2), (59, .iload 8, 2), (61, .lshl, 1), (62, .bipush 32, 2), (64, .invokestatic 205, 3), (67, .invokevirtual 392, 3), (70, .goto 75, 3), (73, .iload_n 3, 1), (74, .iconst 5, 1), (75, .if_icmp .ne 34, 3), (78, .lload 9, 2), (80, .lconst 0, 1), (81, .lcmp, 1), (82, .ifCond .ne 27, 3), (85, .aload_n 0, 1), (86, .lload_n 1, 1), (87, .lload 4, 2), (89, .bipush 31, 2), (91, .iconst 0, 1), (92, .invokestatic 196, 3), (95, .iload 8, 2), (97, .lushr, 1), (98, .bipush 32, 2), (100, .invokestatic 205, 3), (103, .invokevirtual 392, 3), (106, .goto 39, 3), (109, .iload_n 3, 1), (110, .iconst 5, 1), (111, .if_icmp .ne 30, 3), (114, .lload 9, 2), (116, .ldc2_w 440, 3), (119, .lcmp, 1), (120, .ifCond .ne 21, 3), (123, .aload_n 0, 1), (124, .lload_n 1, 1), (125, .lload 4, 2), (127, .bipush 32, 2), (129, .invokestatic 205, 3), (132, .iload 8, 2), (134, .lshr, 1), (135, .invokevirtual 392, 3), (138, .goto 7, 3), (141, .aload_n 0, 1), (142, .invokevirtual 396, 3), (145, .return_, 1)]
theorem da_X12_shortImmediates : dkL cX12_shortImmediates dl_X12_shortImmediates = true := by decide +kernel
def f_X12_shortImmediates_b141 (u : St) : Option (St) := some (f_X12_illegal u)
set_option maxRecDepth 100000 in
set_option maxHeartbeats 4000000 in
theorem b_X12_shortImmediates_b141 {p : Program} {l : Launch} {e : Env} {s : State} {m : MethodId} {args : Array Value} {below : List Frame} {meth : Method} {c : Code} {D : va_G} {cy : ClassId × ClassId × ClassId} {ad : Nat → Nat} {A : Nat → Prop} (E : CallFix p m c cX12_shortImmediates 11 s args gw RX12) (hr : meth.sig.returnType = none) (hlk : meth.locks = false) {u : St} {u' : St} (h : f_X12_shortImmediates_b141 u = some u') {ls : Array Slot} {H : Heap} {locs : List Loc} {rr : Nat → Nat} (hl : lv_has ls 11 [(0, .ref (ad 0))]) (w : WX (wM cy ad) D cy rr u A s H locs) : Wx (wM cy ad) D p l e 2 48 0 s m args below meth c A u' none H locs 0 141 ls [] := by
  have hx := E.1
  have hb := E.2.1
  have hown := E.2.2.2.1
  have hts := E.2.2.2.2
  refine lv_aload_n hx hb (dq da_X12_shortImmediates 73 rfl) rfl (lv_at hl 0 rfl) ?_
  refine cV0 E (c_X12_illegal l D cy ad _ ) w_1523 w_1525 w_p66 w_10 w_1526 rfl hd_X12_illegal rfl hl.1 rfl (Nat.le_of_ble_eq_true rfl) ⟨Nat.le_of_ble_eq_true rfl, Nat.le_of_ble_eq_true rfl⟩ (by decide) w (rc_wM_0 w) (dq da_X12_shortImmediates 74 rfl) (fun H locs rr w => ?_)
  exact xret_v E hr hlk w (by decide) (os h) (dq da_X12_shortImmediates 75 rfl)
def f_X12_shortImmediates_b109 (x1 : Int64) (x3 : Int32) (x4 : Int64) (x8 : Int32) (x9 : Int64) (u : St) : Option (St) := if x3 = (5 : Int32) then (if x9 = (32 : Int64) then ((f_X12_gives x1 (j_lshr (f_X12_signed x4 (32 : Int32)) x8) u).bind (fun y6 => some y6)) else (f_X12_shortImmediates_b141 u)) else (f_X12_shortImmediates_b141 u)
set_option maxRecDepth 100000 in
set_option maxHeartbeats 4000000 in
theorem b_X12_shortImmediates_b109 {p : Program} {l : Launch} {e : Env} {s : State} {m : MethodId} {args : Array Value} {below : List Frame} {meth : Method} {c : Code} {D : va_G} {cy : ClassId × ClassId × ClassId} {ad : Nat → Nat} {A : Nat → Prop} (E : CallFix p m c cX12_shortImmediates 11 s args gw RX12) (hr : meth.sig.returnType = none) (hlk : meth.locks = false) {x1 : Int64} {x3 : Int32} {x4 : Int64} {x8 : Int32} {x9 : Int64} {u : St} {u' : St} (h : f_X12_shortImmediates_b109 x1 x3 x4 x8 x9 u = some u') {ls : Array Slot} {H : Heap} {locs : List Loc} {rr : Nat → Nat} (hl : lv_has ls 11 [(0, .ref (ad 0)), (1, .long x1), (3, .int x3), (4, .long x4), (8, .int x8), (9, .long x9)]) (w : WX (wM cy ad) D cy rr u A s H locs) : Wx (wM cy ad) D p l e 2 48 0 s m args below meth c A u' none H locs 0 109 ls [] := by
  have hx := E.1
  have hb := E.2.1
  have hown := E.2.2.2.1
  have hts := E.2.2.2.2
  refine lv_iload_n hx hb (dq da_X12_shortImmediates 57 rfl) rfl (lv_at hl 2 rfl) ?_
  refine lv_iconst (v := 5) hx hb (dq da_X12_shortImmediates 58 rfl) rfl ?_
  refine lv_icmp_ne (tgt := 141) hx hb (dq da_X12_shortImmediates 59 rfl) (by decide) (fun c4 => ?_) (fun c4 => ?_)
  · have h := ie c4 h
    exact b_X12_shortImmediates_b141 E hr hlk h (lv_sub hl [0] rfl) w
  · have h := it c4 h
    refine lv_lload hx hb (dq da_X12_shortImmediates 60 rfl) (lv_at hl 5 rfl) ?_
    refine lv_ldc2 hx hb hown (hts _ w_1278) (dq da_X12_shortImmediates 61 rfl) ?_
    refine lc_ne (tgt := 141) hx hb (dq da_X12_shortImmediates 62 rfl) (dq da_X12_shortImmediates 63 rfl) (by decide) (fun c5 => ?_) (fun c5 => ?_)
    · have h := ie c5 h
      exact b_X12_shortImmediates_b141 E hr hlk h (lv_sub hl [0] rfl) w
    · have h := it c5 h
      refine lv_aload_n hx hb (dq da_X12_shortImmediates 64 rfl) rfl (lv_at hl 0 rfl) ?_
      refine lv_lload_n hx hb (dq da_X12_shortImmediates 65 rfl) rfl (lv_at hl 1 rfl) ?_
      refine lv_lload hx hb (dq da_X12_shortImmediates 66 rfl) (lv_at hl 3 rfl) ?_
      refine lv_bipush (v := 32) hx hb (dq da_X12_shortImmediates 67 rfl) rfl ?_
      refine callP E (c_X12_signed l _ _ ) w_1440 w_1441 w_10 w_1442 hd_X12_signed rfl hl.1 rfl (Nat.le_of_ble_eq_true rfl) ⟨Nat.le_of_ble_eq_true rfl, Nat.le_of_ble_eq_true rfl⟩ (by decide) (dq da_X12_shortImmediates 68 rfl) ?_
      refine lv_iload hx hb (dq da_X12_shortImmediates 69 rfl) (lv_at hl 4 rfl) ?_
      refine lv_lshr (v := (j_lshr (f_X12_signed x4 (32 : Int32)) x8)) hx hb (dq da_X12_shortImmediates 70 rfl) rfl ?_
      obtain ⟨y6, hy7, h⟩ := ob h
      refine cV0 E (c_X12_gives l D cy ad _ _ _ hy7) w_1519 w_1521 w_p65 w_10 w_1522 rfl hd_X12_gives rfl hl.1 rfl (Nat.le_of_ble_eq_true rfl) ⟨Nat.le_of_ble_eq_true rfl, Nat.le_of_ble_eq_true rfl⟩ (by decide) w (rc_wM_0 w) (dq da_X12_shortImmediates 71 rfl) (fun H locs rr w => ?_)
      refine lv_goto (tgt := 145) hx hb (dq da_X12_shortImmediates 72 rfl) (by decide) ?_
      exact xret_v E hr hlk w (by decide) (os h) (dq da_X12_shortImmediates 75 rfl)
def f_X12_shortImmediates_b73 (x1 : Int64) (x3 : Int32) (x4 : Int64) (x8 : Int32) (x9 : Int64) (u : St) : Option (St) := if x3 = (5 : Int32) then (if x9 = (0 : Int64) then ((f_X12_gives x1 (f_X12_signed (j_lushr (f_X12_cut x4 (31 : Int32) (0 : Int32)) x8) (32 : Int32)) u).bind (fun y9 => some y9)) else (f_X12_shortImmediates_b109 x1 x3 x4 x8 x9 u)) else (f_X12_shortImmediates_b109 x1 x3 x4 x8 x9 u)
set_option maxRecDepth 100000 in
set_option maxHeartbeats 4000000 in
theorem b_X12_shortImmediates_b73 {p : Program} {l : Launch} {e : Env} {s : State} {m : MethodId} {args : Array Value} {below : List Frame} {meth : Method} {c : Code} {D : va_G} {cy : ClassId × ClassId × ClassId} {ad : Nat → Nat} {A : Nat → Prop} (E : CallFix p m c cX12_shortImmediates 11 s args gw RX12) (hr : meth.sig.returnType = none) (hlk : meth.locks = false) {x1 : Int64} {x3 : Int32} {x4 : Int64} {x8 : Int32} {x9 : Int64} {u : St} {u' : St} (h : f_X12_shortImmediates_b73 x1 x3 x4 x8 x9 u = some u') {ls : Array Slot} {H : Heap} {locs : List Loc} {rr : Nat → Nat} (hl : lv_has ls 11 [(0, .ref (ad 0)), (1, .long x1), (3, .int x3), (4, .long x4), (8, .int x8), (9, .long x9)]) (w : WX (wM cy ad) D cy rr u A s H locs) : Wx (wM cy ad) D p l e 2 48 0 s m args below meth c A u' none H locs 0 73 ls [] := by
  have hx := E.1
  have hb := E.2.1
  have hown := E.2.2.2.1
  have hts := E.2.2.2.2
  refine lv_iload_n hx hb (dq da_X12_shortImmediates 38 rfl) rfl (lv_at hl 2 rfl) ?_
  refine lv_iconst (v := 5) hx hb (dq da_X12_shortImmediates 39 rfl) rfl ?_
  refine lv_icmp_ne (tgt := 109) hx hb (dq da_X12_shortImmediates 40 rfl) (by decide) (fun c3 => ?_) (fun c3 => ?_)
  · have h := ie c3 h
    exact b_X12_shortImmediates_b109 E hr hlk h (lv_sub hl [0, 1, 2, 3, 4, 5] rfl) w
  · have h := it c3 h
    refine lv_lload hx hb (dq da_X12_shortImmediates 41 rfl) (lv_at hl 5 rfl) ?_
    refine lv_lconst (v := 0) hx hb (dq da_X12_shortImmediates 42 rfl) rfl ?_
    refine lc_ne (tgt := 109) hx hb (dq da_X12_shortImmediates 43 rfl) (dq da_X12_shortImmediates 44 rfl) (by decide) (fun c8 => ?_) (fun c8 => ?_)
    · have h := ie c8 h
      exact b_X12_shortImmediates_b109 E hr hlk h (lv_sub hl [0, 1, 2, 3, 4, 5] rfl) w
    · have h := it c8 h
      refine lv_aload_n hx hb (dq da_X12_shortImmediates 45 rfl) rfl (lv_at hl 0 rfl) ?_
      refine lv_lload_n hx hb (dq da_X12_shortImmediates 46 rfl) rfl (lv_at hl 1 rfl) ?_
      refine lv_lload hx hb (dq da_X12_shortImmediates 47 rfl) (lv_at hl 3 rfl) ?_
      refine lv_bipush (v := 31) hx hb (dq da_X12_shortImmediates 48 rfl) rfl ?_
      refine lv_iconst (v := 0) hx hb (dq da_X12_shortImmediates 49 rfl) rfl ?_
      refine callP E (c_X12_cut l _ _ _ ) w_1384 w_1385 w_10 w_1386 hd_X12_cut rfl hl.1 rfl (Nat.le_of_ble_eq_true rfl) ⟨Nat.le_of_ble_eq_true rfl, Nat.le_of_ble_eq_true rfl⟩ (by decide) (dq da_X12_shortImmediates 50 rfl) ?_
      refine lv_iload hx hb (dq da_X12_shortImmediates 51 rfl) (lv_at hl 4 rfl) ?_
      refine lv_lushr (v := (j_lushr (f_X12_cut x4 (31 : Int32) (0 : Int32)) x8)) hx hb (dq da_X12_shortImmediates 52 rfl) rfl ?_
      refine lv_bipush (v := 32) hx hb (dq da_X12_shortImmediates 53 rfl) rfl ?_
      refine callP E (c_X12_signed l _ _ ) w_1440 w_1441 w_10 w_1442 hd_X12_signed rfl hl.1 rfl (Nat.le_of_ble_eq_true rfl) ⟨Nat.le_of_ble_eq_true rfl, Nat.le_of_ble_eq_true rfl⟩ (by decide) (dq da_X12_shortImmediates 54 rfl) ?_
      obtain ⟨y9, hy10, h⟩ := ob h
      refine cV0 E (c_X12_gives l D cy ad _ _ _ hy10) w_1519 w_1521 w_p65 w_10 w_1522 rfl hd_X12_gives rfl hl.1 rfl (Nat.le_of_ble_eq_true rfl) ⟨Nat.le_of_ble_eq_true rfl, Nat.le_of_ble_eq_true rfl⟩ (by decide) w (rc_wM_0 w) (dq da_X12_shortImmediates 55 rfl) (fun H locs rr w => ?_)
      refine lv_goto (tgt := 145) hx hb (dq da_X12_shortImmediates 56 rfl) (by decide) ?_
      exact xret_v E hr hlk w (by decide) (os h) (dq da_X12_shortImmediates 75 rfl)
def f_X12_shortImmediates (x1 : Int64) (x3 : Int32) (x4 : Int64) (x6 : Int64) (u : St) : Option (St) := if x3 = (0 : Int32) then ((f_X12_gives x1 (f_X12_signed (x4 + x6) (32 : Int32)) u).bind (fun y14 => some y14)) else (if x3 = (1 : Int32) then (if (f_X12_cut x1 (31 : Int32) (25 : Int32)) = (0 : Int64) then ((f_X12_gives x1 (f_X12_signed (j_lshl x4 ((f_X12_cut x1 (24 : Int32) (20 : Int32)).toInt32)) (32 : Int32)) u).bind (fun y12 => some y12)) else (f_X12_shortImmediates_b73 x1 x3 x4 ((f_X12_cut x1 (24 : Int32) (20 : Int32)).toInt32) (f_X12_cut x1 (31 : Int32) (25 : Int32)) u)) else (f_X12_shortImmediates_b73 x1 x3 x4 ((f_X12_cut x1 (24 : Int32) (20 : Int32)).toInt32) (f_X12_cut x1 (31 : Int32) (25 : Int32)) u))
set_option maxRecDepth 100000 in
set_option maxHeartbeats 4000000 in
theorem c_X12_shortImmediates (l : Launch) (D : va_G) (cy : ClassId × ClassId × ClassId) (ad : Nat → Nat) (x1 : Int64) (x3 : Int32) (x4 : Int64) (x6 : Int64) (u : St) {u' : St} (h : f_X12_shortImmediates x1 x3 x4 x6 u = some u') : MX (wM cy ad) D cy l yX12_shortImmediates cX12_shortImmediates 11 (none) 2 48 0 [.ref (ad 0), .long x1, .int x3, .long x4, .long x6] u u' none := by
  refine entX (by decide +kernel) (Nat.le_of_ble_eq_true rfl) ?_
  intro p e s m args below meth c ls rr A E hr hlk hl w
  have hl : lv_has ls 11 [(0, .ref (ad 0)), (1, .long x1), (3, .int x3), (4, .long x4), (6, .long x6)] := hl
  have hx := E.1
  have hb := E.2.1
  have hown := E.2.2.2.1
  have hts := E.2.2.2.2
  refine lv_lload_n hx hb (dq da_X12_shortImmediates 0 rfl) rfl (lv_at hl 1 rfl) ?_
  refine lv_bipush (v := 24) hx hb (dq da_X12_shortImmediates 1 rfl) rfl ?_
  refine lv_bipush (v := 20) hx hb (dq da_X12_shortImmediates 2 rfl) rfl ?_
  refine callP E (c_X12_cut l _ _ _ ) w_1384 w_1385 w_10 w_1386 hd_X12_cut rfl hl.1 rfl (Nat.le_of_ble_eq_true rfl) ⟨Nat.le_of_ble_eq_true rfl, Nat.le_of_ble_eq_true rfl⟩ (by decide) (dq da_X12_shortImmediates 3 rfl) ?_
  refine lv_l2i (v := (f_X12_cut x1 (24 : Int32) (20 : Int32)).toInt32) hx hb (dq da_X12_shortImmediates 4 rfl) rfl ?_
  refine lv_istore (lv' := [(8, .int ((f_X12_cut x1 (24 : Int32) (20 : Int32)).toInt32)), (0, .ref (ad 0)), (1, .long x1), (3, .int x3), (4, .long x4), (6, .long x6)]) hx hb (dq da_X12_shortImmediates 5 rfl) hl (by decide) rfl (fun ls hl => ?_)
  refine lv_lload_n hx hb (dq da_X12_shortImmediates 6 rfl) rfl (lv_at hl 2 rfl) ?_
  refine lv_bipush (v := 31) hx hb (dq da_X12_shortImmediates 7 rfl) rfl ?_
  refine lv_bipush (v := 25) hx hb (dq da_X12_shortImmediates 8 rfl) rfl ?_
  refine callP E (c_X12_cut l _ _ _ ) w_1384 w_1385 w_10 w_1386 hd_X12_cut rfl hl.1 rfl (Nat.le_of_ble_eq_true rfl) ⟨Nat.le_of_ble_eq_true rfl, Nat.le_of_ble_eq_true rfl⟩ (by decide) (dq da_X12_shortImmediates 9 rfl) ?_
  refine lv_lstore (lv' := [(9, .long (f_X12_cut x1 (31 : Int32) (25 : Int32))), (8, .int ((f_X12_cut x1 (24 : Int32) (20 : Int32)).toInt32)), (0, .ref (ad 0)), (1, .long x1), (3, .int x3), (4, .long x4), (6, .long x6)]) hx hb (dq da_X12_shortImmediates 10 rfl) hl (by decide) rfl (fun ls hl => ?_)
  refine lv_iload_n hx hb (dq da_X12_shortImmediates 11 rfl) rfl (lv_at hl 4 rfl) ?_
  refine lv_if_ne (tgt := 43) hx hb (dq da_X12_shortImmediates 12 rfl) (by decide) (fun c1 => ?_) (fun c1 => ?_)
  · have h := ie c1 h
    refine lv_iload_n hx hb (dq da_X12_shortImmediates 22 rfl) rfl (lv_at hl 4 rfl) ?_
    refine lv_iconst (v := 1) hx hb (dq da_X12_shortImmediates 23 rfl) rfl ?_
    refine lv_icmp_ne (tgt := 73) hx hb (dq da_X12_shortImmediates 24 rfl) (by decide) (fun c2 => ?_) (fun c2 => ?_)
    · have h := ie c2 h
      exact b_X12_shortImmediates_b73 E hr hlk h (lv_sub hl [2, 3, 4, 5, 1, 0] rfl) w
    · have h := it c2 h
      refine lv_lload hx hb (dq da_X12_shortImmediates 25 rfl) (lv_at hl 0 rfl) ?_
      refine lv_lconst (v := 0) hx hb (dq da_X12_shortImmediates 26 rfl) rfl ?_
      refine lc_ne (tgt := 73) hx hb (dq da_X12_shortImmediates 27 rfl) (dq da_X12_shortImmediates 28 rfl) (by decide) (fun c11 => ?_) (fun c11 => ?_)
      · have h := ie c11 h
        exact b_X12_shortImmediates_b73 E hr hlk h (lv_sub hl [2, 3, 4, 5, 1, 0] rfl) w
      · have h := it c11 h
        refine lv_aload_n hx hb (dq da_X12_shortImmediates 29 rfl) rfl (lv_at hl 2 rfl) ?_
        refine lv_lload_n hx hb (dq da_X12_shortImmediates 30 rfl) rfl (lv_at hl 3 rfl) ?_
        refine lv_lload hx hb (dq da_X12_shortImmediates 31 rfl) (lv_at hl 5 rfl) ?_
        refine lv_iload hx hb (dq da_X12_shortImmediates 32 rfl) (lv_at hl 1 rfl) ?_
        refine lv_lshl (v := (j_lshl x4 ((f_X12_cut x1 (24 : Int32) (20 : Int32)).toInt32))) hx hb (dq da_X12_shortImmediates 33 rfl) rfl ?_
        refine lv_bipush (v := 32) hx hb (dq da_X12_shortImmediates 34 rfl) rfl ?_
        refine callP E (c_X12_signed l _ _ ) w_1440 w_1441 w_10 w_1442 hd_X12_signed rfl hl.1 rfl (Nat.le_of_ble_eq_true rfl) ⟨Nat.le_of_ble_eq_true rfl, Nat.le_of_ble_eq_true rfl⟩ (by decide) (dq da_X12_shortImmediates 35 rfl) ?_
        obtain ⟨y12, hy13, h⟩ := ob h
        refine cV0 E (c_X12_gives l D cy ad _ _ _ hy13) w_1519 w_1521 w_p65 w_10 w_1522 rfl hd_X12_gives rfl hl.1 rfl (Nat.le_of_ble_eq_true rfl) ⟨Nat.le_of_ble_eq_true rfl, Nat.le_of_ble_eq_true rfl⟩ (by decide) w (rc_wM_0 w) (dq da_X12_shortImmediates 36 rfl) (fun H locs rr w => ?_)
        refine lv_goto (tgt := 145) hx hb (dq da_X12_shortImmediates 37 rfl) (by decide) ?_
        exact xret_v E hr hlk w (by decide) (os h) (dq da_X12_shortImmediates 75 rfl)
  · have h := it c1 h
    refine lv_aload_n hx hb (dq da_X12_shortImmediates 13 rfl) rfl (lv_at hl 2 rfl) ?_
    refine lv_lload_n hx hb (dq da_X12_shortImmediates 14 rfl) rfl (lv_at hl 3 rfl) ?_
    refine lv_lload hx hb (dq da_X12_shortImmediates 15 rfl) (lv_at hl 5 rfl) ?_
    refine lv_lload hx hb (dq da_X12_shortImmediates 16 rfl) (lv_at hl 6 rfl) ?_
    refine lv_ladd hx hb (dq da_X12_shortImmediates 17 rfl) ?_
    refine lv_bipush (v := 32) hx hb (dq da_X12_shortImmediates 18 rfl) rfl ?_
    refine callP E (c_X12_signed l _ _ ) w_1440 w_1441 w_10 w_1442 hd_X12_signed rfl hl.1 rfl (Nat.le_of_ble_eq_true rfl) ⟨Nat.le_of_ble_eq_true rfl, Nat.le_of_ble_eq_true rfl⟩ (by decide) (dq da_X12_shortImmediates 19 rfl) ?_
    obtain ⟨y14, hy15, h⟩ := ob h
    refine cV0 E (c_X12_gives l D cy ad _ _ _ hy15) w_1519 w_1521 w_p65 w_10 w_1522 rfl hd_X12_gives rfl hl.1 rfl (Nat.le_of_ble_eq_true rfl) ⟨Nat.le_of_ble_eq_true rfl, Nat.le_of_ble_eq_true rfl⟩ (by decide) w (rc_wM_0 w) (dq da_X12_shortImmediates 20 rfl) (fun H locs rr w => ?_)
    refine lv_goto (tgt := 145) hx hb (dq da_X12_shortImmediates 21 rfl) (by decide) ?_
    exact xret_v E hr hlk w (by decide) (os h) (dq da_X12_shortImmediates 75 rfl)
def dl_X12_registers : List (Nat × Instr × Nat) := [(0, .lload_n 1, 1), (1, .bipush 31, 2), (3, .bipush 25, 2), (5, .invokestatic 196, 3), (8, .lstore 8, 2), (10, .lload 6, 2), (12, .ldc2_w 446, 3), (15, .land, 1), (16, .l2i, 1), (17, .istore 10, 2), (19, .lload 8, 2), (21, .lconst 1, 1), (22, .lcmp, 1), (23, .ifCond .ne 92, 3), (26, .iload_n 3, 1), (27, .ifCond .ne 16, 3), (30, .aload_n 0, 1), (31, .lload_n 1, 1), (32, .lload 4, 2), (34, .lload 6, 2), (36, .lmul, 1), (37, .invokevirtual 392, 3), (40, .goto 74, 3), (43, .iload_n 3, 1), (44, .iconst 3, 1), (45, .if_icmp .le 19, 3), (48, .aload_n 0, 1), (49, .lload_n 1, 1), (50, .iload_n 3, 1), (51, .lload 4, 2), (53, .lload 6, 2), (55, .invokestatic 448, 3), (58, .invokevirtual 392, 3), (61, .goto 53, 3), (64, .aload_n 0, 1), (65, .lload_n 1, 1), (66, .lload 4, 2), (68, .lload 6, 2), (70, .invokestatic 452, 3), (73, .iload_n 3, 1), (74, .iconst 3, 1), (75, .if_icmp .ge 15, 3), (78, .lload 4, 2), (80, .lconst 0, 1), (81, .lcmp, 1), (82, .ifCond .ge 8, 3), (85, .lload 6, 2), (87, .goto 4, 3), (90, .lconst 0, 1), (91, .lsub, 1), (92, .iload_n 3, 1), (93, .iconst 1, 1), (94, .if_icmp .ne 15, 3), (97, .lload 6, 2), (99, .lconst 0, 1), (100, .lcmp, 1), (101, .ifCond .ge 8, 3), (104, .lload 4, 2), (106, .goto 4, 3), (109, .lconst 0, 1), (110, .lsub, 1), (111, .invokevirtual 392, 3), (114, .return_, 1), (115, .lload 8, 2), (117, .ldc2_w 440, 3), (120, .lcmp, 1), (121, .ifCond .ne 20, 3), (124, .iload_n 3, 1), (125, .ifCond .ne 16, 3), (128, .aload_n 0, 1), (129, .lload_n 1, 1), (130, .lload 4, 2), (132, .lload 6, 2), (134, .lsub, 1), (135, .invokevirtual 392, 3), (138, .goto 205, 3), (141, .lload 8, 2), (143, .ldc2_w 440, 3), (146, .lcmp, 1), (147, .ifCond .ne 21, 3), (150, .iload_n 3, 1), (151, .iconst 5, 1), (152, .if_icmp .ne 16, 3), (155, .aload_n 0, 1), (156, .lload_n 1, 1), (157, .lload 4, 2), (159, .iload 10, 2), (161, .lshr, 1), (162, .invokevirtual 392, 3), (165, .goto 178, 3), (168, .lload 8, 2), (170, .lconst 0, 1), (171, .lcmp, 1), (172, .ifCond .eq 10, 3), (175, .aload_n 0, 1), (176, .invokevirtual 396, 3), (179, .goto 164, 3), (182, .iload_n 3, 1), (183, .tableswitch 150 0 6 #[41, 54, 67, 88, 111, 124, 137], 41), (224, .aload_n 0, 1), (225, .lload_n 1, 1), (226, .lload 4, 2), (228, .lload 6, 2), (230, .ladd, 1), (231, .invokevirtual 392, 3), (234, .goto 109, 3), (237, .aload_n 0, 1), (238, .lload_n 1, 1), (239, .lload 4, 2), (241, .iload 10, 2), (243, .lshl, 1), (244, .invokevirtual 392, 3), (247, .goto 96, 3), (250, .aload_n 0, 1), (251, .lload_n 1, 1), (252, .lload 4, 2), (254, .lload 6, 2), (256, .lcmp, 1), (257, .ifCond .ge 7, 3), (260, .lconst 1, 1), (261, .goto 4, 3), (264, .lconst 0, 1), (265, .invokevirtual 392, 3), (268, .goto 75, 3), (271, .aload_n 0, 1), (272, .lload_n 1, 1), (273, .lload 4, 2), (275, .lload 6, 2), (277, .invokestatic 231, 3), (280, .ifCond .eq 7, 3), (283, .lconst 1, 1), (284, .goto 4, 3), (287, .lconst 0, 1), (288, .invokevirtual 392, 3), (291, .goto 52, 3), (294, .aload_n 0, 1), (295, .lload_n 1, 1), (296, .lload 4, 2), (298, .lload 6, 2), (300, .lxor, 1), (301, .invokevirtual 392, 3), (304, .goto 39, 3), (307, .aload_n 0, 1), (308, .lload_n 1, 1), (309, .lload 4, 2), (311, .iload 10, 2), (313, .lushr, 1), (314, .invokevirtual 392, 3), (317, .goto 26, 3), (320, .aload_n 0, 1), (321, .lload_n 1, 1), (322, .lload 4, 2), (324, .lload 6, 2), (326, .lor, 1), (327, .invokevirtual 392, 3), (330, .goto 13, 3), (333, .aload_n 0, 1), (334, .lload_n 1, 1), (335, .lload 4, 2), (337, .lload 6, 2), (339, .land, 1), (340, .invokevirtual 392, 3), (343, .return_, 1)]
theorem da_X12_registers : dkL cX12_registers dl_X12_registers = true := by decide +kernel
def f_X12_registers_b265 (s0 : Int64) (s1 : Int64) (u : St) : Option (St) := (f_X12_gives s1 s0 u).bind (fun y13 => some y13)
set_option maxRecDepth 100000 in
set_option maxHeartbeats 4000000 in
theorem b_X12_registers_b265 {p : Program} {l : Launch} {e : Env} {s : State} {m : MethodId} {args : Array Value} {below : List Frame} {meth : Method} {c : Code} {D : va_G} {cy : ClassId × ClassId × ClassId} {ad : Nat → Nat} {A : Nat → Prop} (E : CallFix p m c cX12_registers 11 s args gw RX12) (hr : meth.sig.returnType = none) (hlk : meth.locks = false) {s0 : Int64} {s1 : Int64} {u : St} {u' : St} (h : f_X12_registers_b265 s0 s1 u = some u') {ls : Array Slot} {H : Heap} {locs : List Loc} {rr : Nat → Nat} (hl : lv_has ls 11 []) (w : WX (wM cy ad) D cy rr u A s H locs) : Wx (wM cy ad) D p l e 3 77 0 s m args below meth c A u' none H locs 0 265 ls [.long s0, .long s1, .ref (ad 0)] := by
  have hx := E.1
  have hb := E.2.1
  have hown := E.2.2.2.1
  have hts := E.2.2.2.2
  obtain ⟨y13, hy14, h⟩ := ob h
  refine cV0 E (c_X12_gives l D cy ad _ _ _ hy14) w_1519 w_1521 w_p65 w_10 w_1522 rfl hd_X12_gives rfl hl.1 rfl (Nat.le_of_ble_eq_true rfl) ⟨Nat.le_of_ble_eq_true rfl, Nat.le_of_ble_eq_true rfl⟩ (by decide) w (rc_wM_0 w) (dq da_X12_registers 122 rfl) (fun H locs rr w => ?_)
  refine lv_goto (tgt := 343) hx hb (dq da_X12_registers 123 rfl) (by decide) ?_
  exact xret_v E hr hlk w (by decide) (os h) (dq da_X12_registers 162 rfl)
def f_X12_registers_b288 (s0 : Int64) (s1 : Int64) (u : St) : Option (St) := (f_X12_gives s1 s0 u).bind (fun y17 => some y17)
set_option maxRecDepth 100000 in
set_option maxHeartbeats 4000000 in
theorem b_X12_registers_b288 {p : Program} {l : Launch} {e : Env} {s : State} {m : MethodId} {args : Array Value} {below : List Frame} {meth : Method} {c : Code} {D : va_G} {cy : ClassId × ClassId × ClassId} {ad : Nat → Nat} {A : Nat → Prop} (E : CallFix p m c cX12_registers 11 s args gw RX12) (hr : meth.sig.returnType = none) (hlk : meth.locks = false) {s0 : Int64} {s1 : Int64} {u : St} {u' : St} (h : f_X12_registers_b288 s0 s1 u = some u') {ls : Array Slot} {H : Heap} {locs : List Loc} {rr : Nat → Nat} (hl : lv_has ls 11 []) (w : WX (wM cy ad) D cy rr u A s H locs) : Wx (wM cy ad) D p l e 3 77 0 s m args below meth c A u' none H locs 0 288 ls [.long s0, .long s1, .ref (ad 0)] := by
  have hx := E.1
  have hb := E.2.1
  have hown := E.2.2.2.1
  have hts := E.2.2.2.2
  obtain ⟨y17, hy18, h⟩ := ob h
  refine cV0 E (c_X12_gives l D cy ad _ _ _ hy18) w_1519 w_1521 w_p65 w_10 w_1522 rfl hd_X12_gives rfl hl.1 rfl (Nat.le_of_ble_eq_true rfl) ⟨Nat.le_of_ble_eq_true rfl, Nat.le_of_ble_eq_true rfl⟩ (by decide) w (rc_wM_0 w) (dq da_X12_registers 133 rfl) (fun H locs rr w => ?_)
  refine lv_goto (tgt := 343) hx hb (dq da_X12_registers 134 rfl) (by decide) ?_
  exact xret_v E hr hlk w (by decide) (os h) (dq da_X12_registers 162 rfl)
def f_X12_registers_b168 (x1 : Int64) (x3 : Int32) (x4 : Int64) (x6 : Int64) (x8 : Int64) (x10 : Int32) (u : St) : Option (St) := if x8 = (0 : Int64) then (if x3 = (0 : Int32) then ((f_X12_gives x1 (x4 + x6) u).bind (fun y6 => some y6)) else if x3 = (1 : Int32) then ((f_X12_gives x1 (j_lshl x4 x10) u).bind (fun y9 => some y9)) else if x3 = (2 : Int32) then (if x6 ≤ x4 then (f_X12_registers_b265 (0 : Int64) x1 u) else (f_X12_registers_b265 (1 : Int64) x1 u)) else if x3 = (3 : Int32) then (if (f_X12_isLess x4 x6) = (0 : Int32) then (f_X12_registers_b288 (0 : Int64) x1 u) else (f_X12_registers_b288 (1 : Int64) x1 u)) else if x3 = (4 : Int32) then ((f_X12_gives x1 (x4 ^^^ x6) u).bind (fun y20 => some y20)) else if x3 = (5 : Int32) then ((f_X12_gives x1 (j_lushr x4 x10) u).bind (fun y23 => some y23)) else if x3 = (6 : Int32) then ((f_X12_gives x1 (x4 ||| x6) u).bind (fun y26 => some y26)) else ((f_X12_gives x1 (x4 &&& x6) u).bind (fun y28 => some y28))) else (some (f_X12_illegal u))
set_option maxRecDepth 100000 in
set_option maxHeartbeats 4000000 in
theorem b_X12_registers_b168 {p : Program} {l : Launch} {e : Env} {s : State} {m : MethodId} {args : Array Value} {below : List Frame} {meth : Method} {c : Code} {D : va_G} {cy : ClassId × ClassId × ClassId} {ad : Nat → Nat} {A : Nat → Prop} (E : CallFix p m c cX12_registers 11 s args gw RX12) (hr : meth.sig.returnType = none) (hlk : meth.locks = false) {x1 : Int64} {x3 : Int32} {x4 : Int64} {x6 : Int64} {x8 : Int64} {x10 : Int32} {u : St} {u' : St} (h : f_X12_registers_b168 x1 x3 x4 x6 x8 x10 u = some u') {ls : Array Slot} {H : Heap} {locs : List Loc} {rr : Nat → Nat} (hl : lv_has ls 11 [(0, .ref (ad 0)), (1, .long x1), (3, .int x3), (4, .long x4), (6, .long x6), (8, .long x8), (10, .int x10)]) (w : WX (wM cy ad) D cy rr u A s H locs) : Wx (wM cy ad) D p l e 3 77 0 s m args below meth c A u' none H locs 0 168 ls [] := by
  have hx := E.1
  have hb := E.2.1
  have hown := E.2.2.2.1
  have hts := E.2.2.2.2
  refine lv_lload hx hb (dq da_X12_registers 90 rfl) (lv_at hl 5 rfl) ?_
  refine lv_lconst (v := 0) hx hb (dq da_X12_registers 91 rfl) rfl ?_
  refine lc_eq (tgt := 182) hx hb (dq da_X12_registers 92 rfl) (dq da_X12_registers 93 rfl) (by decide) (fun c4 => ?_) (fun c4 => ?_)
  · have h := it c4 h
    refine lv_iload_n hx hb (dq da_X12_registers 97 rfl) rfl (lv_at hl 2 rfl) ?_
    by_cases c5 : x3 = (0 : Int32)
    · have h := it c5 h
      refine lv_tableIn (off := 41) (tgt := 224) hx hb (dq da_X12_registers 98 rfl) (by rw [c5]; decide +kernel) (by rw [c5]; decide +kernel) (by rw [c5]; decide +kernel) (by decide) ?_
      refine lv_aload_n hx hb (dq da_X12_registers 99 rfl) rfl (lv_at hl 0 rfl) ?_
      refine lv_lload_n hx hb (dq da_X12_registers 100 rfl) rfl (lv_at hl 1 rfl) ?_
      refine lv_lload hx hb (dq da_X12_registers 101 rfl) (lv_at hl 3 rfl) ?_
      refine lv_lload hx hb (dq da_X12_registers 102 rfl) (lv_at hl 4 rfl) ?_
      refine lv_ladd hx hb (dq da_X12_registers 103 rfl) ?_
      obtain ⟨y6, hy7, h⟩ := ob h
      refine cV0 E (c_X12_gives l D cy ad _ _ _ hy7) w_1519 w_1521 w_p65 w_10 w_1522 rfl hd_X12_gives rfl hl.1 rfl (Nat.le_of_ble_eq_true rfl) ⟨Nat.le_of_ble_eq_true rfl, Nat.le_of_ble_eq_true rfl⟩ (by decide) w (rc_wM_0 w) (dq da_X12_registers 104 rfl) (fun H locs rr w => ?_)
      refine lv_goto (tgt := 343) hx hb (dq da_X12_registers 105 rfl) (by decide) ?_
      exact xret_v E hr hlk w (by decide) (os h) (dq da_X12_registers 162 rfl)
    · have h := ie c5 h
      by_cases c8 : x3 = (1 : Int32)
      · have h := it c8 h
        refine lv_tableIn (off := 54) (tgt := 237) hx hb (dq da_X12_registers 98 rfl) (by rw [c8]; decide +kernel) (by rw [c8]; decide +kernel) (by rw [c8]; decide +kernel) (by decide) ?_
        refine lv_aload_n hx hb (dq da_X12_registers 106 rfl) rfl (lv_at hl 0 rfl) ?_
        refine lv_lload_n hx hb (dq da_X12_registers 107 rfl) rfl (lv_at hl 1 rfl) ?_
        refine lv_lload hx hb (dq da_X12_registers 108 rfl) (lv_at hl 3 rfl) ?_
        refine lv_iload hx hb (dq da_X12_registers 109 rfl) (lv_at hl 6 rfl) ?_
        refine lv_lshl (v := (j_lshl x4 x10)) hx hb (dq da_X12_registers 110 rfl) rfl ?_
        obtain ⟨y9, hy10, h⟩ := ob h
        refine cV0 E (c_X12_gives l D cy ad _ _ _ hy10) w_1519 w_1521 w_p65 w_10 w_1522 rfl hd_X12_gives rfl hl.1 rfl (Nat.le_of_ble_eq_true rfl) ⟨Nat.le_of_ble_eq_true rfl, Nat.le_of_ble_eq_true rfl⟩ (by decide) w (rc_wM_0 w) (dq da_X12_registers 111 rfl) (fun H locs rr w => ?_)
        refine lv_goto (tgt := 343) hx hb (dq da_X12_registers 112 rfl) (by decide) ?_
        exact xret_v E hr hlk w (by decide) (os h) (dq da_X12_registers 162 rfl)
      · have h := ie c8 h
        by_cases c11 : x3 = (2 : Int32)
        · have h := it c11 h
          refine lv_tableIn (off := 67) (tgt := 250) hx hb (dq da_X12_registers 98 rfl) (by rw [c11]; decide +kernel) (by rw [c11]; decide +kernel) (by rw [c11]; decide +kernel) (by decide) ?_
          refine lv_aload_n hx hb (dq da_X12_registers 113 rfl) rfl (lv_at hl 0 rfl) ?_
          refine lv_lload_n hx hb (dq da_X12_registers 114 rfl) rfl (lv_at hl 1 rfl) ?_
          refine lv_lload hx hb (dq da_X12_registers 115 rfl) (lv_at hl 3 rfl) ?_
          refine lv_lload hx hb (dq da_X12_registers 116 rfl) (lv_at hl 4 rfl) ?_
          refine lc_ge (tgt := 264) hx hb (dq da_X12_registers 117 rfl) (dq da_X12_registers 118 rfl) (by decide) (fun c12 => ?_) (fun c12 => ?_)
          · have h := it c12 h
            refine lv_lconst (v := 0) hx hb (dq da_X12_registers 121 rfl) rfl ?_
            exact b_X12_registers_b265 E hr hlk h (lv_sub hl [] rfl) w
          · have h := ie c12 h
            refine lv_lconst (v := 1) hx hb (dq da_X12_registers 119 rfl) rfl ?_
            refine lv_goto (tgt := 265) hx hb (dq da_X12_registers 120 rfl) (by decide) ?_
            exact b_X12_registers_b265 E hr hlk h (lv_sub hl [] rfl) w
        · have h := ie c11 h
          by_cases c15 : x3 = (3 : Int32)
          · have h := it c15 h
            refine lv_tableIn (off := 88) (tgt := 271) hx hb (dq da_X12_registers 98 rfl) (by rw [c15]; decide +kernel) (by rw [c15]; decide +kernel) (by rw [c15]; decide +kernel) (by decide) ?_
            refine lv_aload_n hx hb (dq da_X12_registers 124 rfl) rfl (lv_at hl 0 rfl) ?_
            refine lv_lload_n hx hb (dq da_X12_registers 125 rfl) rfl (lv_at hl 1 rfl) ?_
            refine lv_lload hx hb (dq da_X12_registers 126 rfl) (lv_at hl 3 rfl) ?_
            refine lv_lload hx hb (dq da_X12_registers 127 rfl) (lv_at hl 4 rfl) ?_
            refine callP E (c_X12_isLess l _ _ ) w_1358 w_1359 w_10 w_1360 hd_X12_isLess rfl hl.1 rfl (Nat.le_of_ble_eq_true rfl) ⟨Nat.le_of_ble_eq_true rfl, Nat.le_of_ble_eq_true rfl⟩ (by decide) (dq da_X12_registers 128 rfl) ?_
            refine lv_if_eq (tgt := 287) hx hb (dq da_X12_registers 129 rfl) (by decide) (fun c16 => ?_) (fun c16 => ?_)
            · have h := it c16 h
              refine lv_lconst (v := 0) hx hb (dq da_X12_registers 132 rfl) rfl ?_
              exact b_X12_registers_b288 E hr hlk h (lv_sub hl [] rfl) w
            · have h := ie c16 h
              refine lv_lconst (v := 1) hx hb (dq da_X12_registers 130 rfl) rfl ?_
              refine lv_goto (tgt := 288) hx hb (dq da_X12_registers 131 rfl) (by decide) ?_
              exact b_X12_registers_b288 E hr hlk h (lv_sub hl [] rfl) w
          · have h := ie c15 h
            by_cases c19 : x3 = (4 : Int32)
            · have h := it c19 h
              refine lv_tableIn (off := 111) (tgt := 294) hx hb (dq da_X12_registers 98 rfl) (by rw [c19]; decide +kernel) (by rw [c19]; decide +kernel) (by rw [c19]; decide +kernel) (by decide) ?_
              refine lv_aload_n hx hb (dq da_X12_registers 135 rfl) rfl (lv_at hl 0 rfl) ?_
              refine lv_lload_n hx hb (dq da_X12_registers 136 rfl) rfl (lv_at hl 1 rfl) ?_
              refine lv_lload hx hb (dq da_X12_registers 137 rfl) (lv_at hl 3 rfl) ?_
              refine lv_lload hx hb (dq da_X12_registers 138 rfl) (lv_at hl 4 rfl) ?_
              refine lv_lxor hx hb (dq da_X12_registers 139 rfl) ?_
              obtain ⟨y20, hy21, h⟩ := ob h
              refine cV0 E (c_X12_gives l D cy ad _ _ _ hy21) w_1519 w_1521 w_p65 w_10 w_1522 rfl hd_X12_gives rfl hl.1 rfl (Nat.le_of_ble_eq_true rfl) ⟨Nat.le_of_ble_eq_true rfl, Nat.le_of_ble_eq_true rfl⟩ (by decide) w (rc_wM_0 w) (dq da_X12_registers 140 rfl) (fun H locs rr w => ?_)
              refine lv_goto (tgt := 343) hx hb (dq da_X12_registers 141 rfl) (by decide) ?_
              exact xret_v E hr hlk w (by decide) (os h) (dq da_X12_registers 162 rfl)
            · have h := ie c19 h
              by_cases c22 : x3 = (5 : Int32)
              · have h := it c22 h
                refine lv_tableIn (off := 124) (tgt := 307) hx hb (dq da_X12_registers 98 rfl) (by rw [c22]; decide +kernel) (by rw [c22]; decide +kernel) (by rw [c22]; decide +kernel) (by decide) ?_
                refine lv_aload_n hx hb (dq da_X12_registers 142 rfl) rfl (lv_at hl 0 rfl) ?_
                refine lv_lload_n hx hb (dq da_X12_registers 143 rfl) rfl (lv_at hl 1 rfl) ?_
                refine lv_lload hx hb (dq da_X12_registers 144 rfl) (lv_at hl 3 rfl) ?_
                refine lv_iload hx hb (dq da_X12_registers 145 rfl) (lv_at hl 6 rfl) ?_
                refine lv_lushr (v := (j_lushr x4 x10)) hx hb (dq da_X12_registers 146 rfl) rfl ?_
                obtain ⟨y23, hy24, h⟩ := ob h
                refine cV0 E (c_X12_gives l D cy ad _ _ _ hy24) w_1519 w_1521 w_p65 w_10 w_1522 rfl hd_X12_gives rfl hl.1 rfl (Nat.le_of_ble_eq_true rfl) ⟨Nat.le_of_ble_eq_true rfl, Nat.le_of_ble_eq_true rfl⟩ (by decide) w (rc_wM_0 w) (dq da_X12_registers 147 rfl) (fun H locs rr w => ?_)
                refine lv_goto (tgt := 343) hx hb (dq da_X12_registers 148 rfl) (by decide) ?_
                exact xret_v E hr hlk w (by decide) (os h) (dq da_X12_registers 162 rfl)
              · have h := ie c22 h
                by_cases c25 : x3 = (6 : Int32)
                · have h := it c25 h
                  refine lv_tableIn (off := 137) (tgt := 320) hx hb (dq da_X12_registers 98 rfl) (by rw [c25]; decide +kernel) (by rw [c25]; decide +kernel) (by rw [c25]; decide +kernel) (by decide) ?_
                  refine lv_aload_n hx hb (dq da_X12_registers 149 rfl) rfl (lv_at hl 0 rfl) ?_
                  refine lv_lload_n hx hb (dq da_X12_registers 150 rfl) rfl (lv_at hl 1 rfl) ?_
                  refine lv_lload hx hb (dq da_X12_registers 151 rfl) (lv_at hl 3 rfl) ?_
                  refine lv_lload hx hb (dq da_X12_registers 152 rfl) (lv_at hl 4 rfl) ?_
                  refine lv_lor hx hb (dq da_X12_registers 153 rfl) ?_
                  obtain ⟨y26, hy27, h⟩ := ob h
                  refine cV0 E (c_X12_gives l D cy ad _ _ _ hy27) w_1519 w_1521 w_p65 w_10 w_1522 rfl hd_X12_gives rfl hl.1 rfl (Nat.le_of_ble_eq_true rfl) ⟨Nat.le_of_ble_eq_true rfl, Nat.le_of_ble_eq_true rfl⟩ (by decide) w (rc_wM_0 w) (dq da_X12_registers 154 rfl) (fun H locs rr w => ?_)
                  refine lv_goto (tgt := 343) hx hb (dq da_X12_registers 155 rfl) (by decide) ?_
                  exact xret_v E hr hlk w (by decide) (os h) (dq da_X12_registers 162 rfl)
                · have h := ie c25 h
                  refine lv_tableOut (tgt := 333) hx hb (dq da_X12_registers 98 rfl) (by have := lv_neT (k := (0 : Int32)) (a := 0) c5 rfl; have := lv_neT (k := (1 : Int32)) (a := 1) c8 rfl; have := lv_neT (k := (2 : Int32)) (a := 2) c11 rfl; have := lv_neT (k := (3 : Int32)) (a := 3) c15 rfl; have := lv_neT (k := (4 : Int32)) (a := 4) c19 rfl; have := lv_neT (k := (5 : Int32)) (a := 5) c22 rfl; have := lv_neT (k := (6 : Int32)) (a := 6) c25 rfl; omega) (by decide) ?_
                  refine lv_aload_n hx hb (dq da_X12_registers 156 rfl) rfl (lv_at hl 0 rfl) ?_
                  refine lv_lload_n hx hb (dq da_X12_registers 157 rfl) rfl (lv_at hl 1 rfl) ?_
                  refine lv_lload hx hb (dq da_X12_registers 158 rfl) (lv_at hl 3 rfl) ?_
                  refine lv_lload hx hb (dq da_X12_registers 159 rfl) (lv_at hl 4 rfl) ?_
                  refine lv_land hx hb (dq da_X12_registers 160 rfl) ?_
                  obtain ⟨y28, hy29, h⟩ := ob h
                  refine cV0 E (c_X12_gives l D cy ad _ _ _ hy29) w_1519 w_1521 w_p65 w_10 w_1522 rfl hd_X12_gives rfl hl.1 rfl (Nat.le_of_ble_eq_true rfl) ⟨Nat.le_of_ble_eq_true rfl, Nat.le_of_ble_eq_true rfl⟩ (by decide) w (rc_wM_0 w) (dq da_X12_registers 161 rfl) (fun H locs rr w => ?_)
                  exact xret_v E hr hlk w (by decide) (os h) (dq da_X12_registers 162 rfl)
  · have h := ie c4 h
    refine lv_aload_n hx hb (dq da_X12_registers 94 rfl) rfl (lv_at hl 0 rfl) ?_
    refine cV0 E (c_X12_illegal l D cy ad _ ) w_1523 w_1525 w_p66 w_10 w_1526 rfl hd_X12_illegal rfl hl.1 rfl (Nat.le_of_ble_eq_true rfl) ⟨Nat.le_of_ble_eq_true rfl, Nat.le_of_ble_eq_true rfl⟩ (by decide) w (rc_wM_0 w) (dq da_X12_registers 95 rfl) (fun H locs rr w => ?_)
    refine lv_goto (tgt := 343) hx hb (dq da_X12_registers 96 rfl) (by decide) ?_
    exact xret_v E hr hlk w (by decide) (os h) (dq da_X12_registers 162 rfl)
def f_X12_registers_b141 (x1 : Int64) (x3 : Int32) (x4 : Int64) (x6 : Int64) (x8 : Int64) (x10 : Int32) (u : St) : Option (St) := if x8 = (32 : Int64) then (if x3 = (5 : Int32) then ((f_X12_gives x1 (j_lshr x4 x10) u).bind (fun y31 => some y31)) else (f_X12_registers_b168 x1 x3 x4 x6 x8 x10 u)) else (f_X12_registers_b168 x1 x3 x4 x6 x8 x10 u)
set_option maxRecDepth 100000 in
set_option maxHeartbeats 4000000 in
theorem b_X12_registers_b141 {p : Program} {l : Launch} {e : Env} {s : State} {m : MethodId} {args : Array Value} {below : List Frame} {meth : Method} {c : Code} {D : va_G} {cy : ClassId × ClassId × ClassId} {ad : Nat → Nat} {A : Nat → Prop} (E : CallFix p m c cX12_registers 11 s args gw RX12) (hr : meth.sig.returnType = none) (hlk : meth.locks = false) {x1 : Int64} {x3 : Int32} {x4 : Int64} {x6 : Int64} {x8 : Int64} {x10 : Int32} {u : St} {u' : St} (h : f_X12_registers_b141 x1 x3 x4 x6 x8 x10 u = some u') {ls : Array Slot} {H : Heap} {locs : List Loc} {rr : Nat → Nat} (hl : lv_has ls 11 [(0, .ref (ad 0)), (1, .long x1), (3, .int x3), (4, .long x4), (6, .long x6), (8, .long x8), (10, .int x10)]) (w : WX (wM cy ad) D cy rr u A s H locs) : Wx (wM cy ad) D p l e 3 77 0 s m args below meth c A u' none H locs 0 141 ls [] := by
  have hx := E.1
  have hb := E.2.1
  have hown := E.2.2.2.1
  have hts := E.2.2.2.2
  refine lv_lload hx hb (dq da_X12_registers 76 rfl) (lv_at hl 5 rfl) ?_
  refine lv_ldc2 hx hb hown (hts _ w_1278) (dq da_X12_registers 77 rfl) ?_
  refine lc_ne (tgt := 168) hx hb (dq da_X12_registers 78 rfl) (dq da_X12_registers 79 rfl) (by decide) (fun c3 => ?_) (fun c3 => ?_)
  · have h := ie c3 h
    exact b_X12_registers_b168 E hr hlk h (lv_sub hl [0, 1, 2, 3, 4, 5, 6] rfl) w
  · have h := it c3 h
    refine lv_iload_n hx hb (dq da_X12_registers 80 rfl) rfl (lv_at hl 2 rfl) ?_
    refine lv_iconst (v := 5) hx hb (dq da_X12_registers 81 rfl) rfl ?_
    refine lv_icmp_ne (tgt := 168) hx hb (dq da_X12_registers 82 rfl) (by decide) (fun c30 => ?_) (fun c30 => ?_)
    · have h := ie c30 h
      exact b_X12_registers_b168 E hr hlk h (lv_sub hl [0, 1, 2, 3, 4, 5, 6] rfl) w
    · have h := it c30 h
      refine lv_aload_n hx hb (dq da_X12_registers 83 rfl) rfl (lv_at hl 0 rfl) ?_
      refine lv_lload_n hx hb (dq da_X12_registers 84 rfl) rfl (lv_at hl 1 rfl) ?_
      refine lv_lload hx hb (dq da_X12_registers 85 rfl) (lv_at hl 3 rfl) ?_
      refine lv_iload hx hb (dq da_X12_registers 86 rfl) (lv_at hl 6 rfl) ?_
      refine lv_lshr (v := (j_lshr x4 x10)) hx hb (dq da_X12_registers 87 rfl) rfl ?_
      obtain ⟨y31, hy32, h⟩ := ob h
      refine cV0 E (c_X12_gives l D cy ad _ _ _ hy32) w_1519 w_1521 w_p65 w_10 w_1522 rfl hd_X12_gives rfl hl.1 rfl (Nat.le_of_ble_eq_true rfl) ⟨Nat.le_of_ble_eq_true rfl, Nat.le_of_ble_eq_true rfl⟩ (by decide) w (rc_wM_0 w) (dq da_X12_registers 88 rfl) (fun H locs rr w => ?_)
      refine lv_goto (tgt := 343) hx hb (dq da_X12_registers 89 rfl) (by decide) ?_
      exact xret_v E hr hlk w (by decide) (os h) (dq da_X12_registers 162 rfl)
def f_X12_registers_b110 (s0 : Int64) (s1 : Int64) (s2 : Int64) (u : St) : Option (St) := (f_X12_gives s2 (s1 - s0) u).bind (fun y40 => some y40)
set_option maxRecDepth 100000 in
set_option maxHeartbeats 4000000 in
theorem b_X12_registers_b110 {p : Program} {l : Launch} {e : Env} {s : State} {m : MethodId} {args : Array Value} {below : List Frame} {meth : Method} {c : Code} {D : va_G} {cy : ClassId × ClassId × ClassId} {ad : Nat → Nat} {A : Nat → Prop} (E : CallFix p m c cX12_registers 11 s args gw RX12) (hr : meth.sig.returnType = none) (hlk : meth.locks = false) {s0 : Int64} {s1 : Int64} {s2 : Int64} {u : St} {u' : St} (h : f_X12_registers_b110 s0 s1 s2 u = some u') {ls : Array Slot} {H : Heap} {locs : List Loc} {rr : Nat → Nat} (hl : lv_has ls 11 []) (w : WX (wM cy ad) D cy rr u A s H locs) : Wx (wM cy ad) D p l e 3 77 0 s m args below meth c A u' none H locs 0 110 ls [.long s0, .long s1, .long s2, .ref (ad 0)] := by
  have hx := E.1
  have hb := E.2.1
  have hown := E.2.2.2.1
  have hts := E.2.2.2.2
  refine lv_lsub hx hb (dq da_X12_registers 60 rfl) ?_
  obtain ⟨y40, hy41, h⟩ := ob h
  refine cV0 E (c_X12_gives l D cy ad _ _ _ hy41) w_1519 w_1521 w_p65 w_10 w_1522 rfl hd_X12_gives rfl hl.1 rfl (Nat.le_of_ble_eq_true rfl) ⟨Nat.le_of_ble_eq_true rfl, Nat.le_of_ble_eq_true rfl⟩ (by decide) w (rc_wM_0 w) (dq da_X12_registers 61 rfl) (fun H locs rr w => ?_)
  exact xret_v E hr hlk w (by decide) (os h) (dq da_X12_registers 62 rfl)
def f_X12_registers_b109 (s0 : Int64) (s1 : Int64) (u : St) : Option (St) := f_X12_registers_b110 (0 : Int64) s0 s1 u
set_option maxRecDepth 100000 in
set_option maxHeartbeats 4000000 in
theorem b_X12_registers_b109 {p : Program} {l : Launch} {e : Env} {s : State} {m : MethodId} {args : Array Value} {below : List Frame} {meth : Method} {c : Code} {D : va_G} {cy : ClassId × ClassId × ClassId} {ad : Nat → Nat} {A : Nat → Prop} (E : CallFix p m c cX12_registers 11 s args gw RX12) (hr : meth.sig.returnType = none) (hlk : meth.locks = false) {s0 : Int64} {s1 : Int64} {u : St} {u' : St} (h : f_X12_registers_b109 s0 s1 u = some u') {ls : Array Slot} {H : Heap} {locs : List Loc} {rr : Nat → Nat} (hl : lv_has ls 11 []) (w : WX (wM cy ad) D cy rr u A s H locs) : Wx (wM cy ad) D p l e 3 77 0 s m args below meth c A u' none H locs 0 109 ls [.long s0, .long s1, .ref (ad 0)] := by
  have hx := E.1
  have hb := E.2.1
  have hown := E.2.2.2.1
  have hts := E.2.2.2.2
  refine lv_lconst (v := 0) hx hb (dq da_X12_registers 59 rfl) rfl ?_
  exact b_X12_registers_b110 E hr hlk h (lv_sub hl [] rfl) w
def f_X12_registers_b91 (x3 : Int32) (x4 : Int64) (x6 : Int64) (s0 : Int64) (s1 : Int64) (s2 : Int64) (u : St) : Option (St) := if x3 = (1 : Int32) then (if (0 : Int64) ≤ x6 then (f_X12_registers_b109 (s1 - s0) s2 u) else (f_X12_registers_b110 x4 (s1 - s0) s2 u)) else (f_X12_registers_b109 (s1 - s0) s2 u)
set_option maxRecDepth 100000 in
set_option maxHeartbeats 4000000 in
theorem b_X12_registers_b91 {p : Program} {l : Launch} {e : Env} {s : State} {m : MethodId} {args : Array Value} {below : List Frame} {meth : Method} {c : Code} {D : va_G} {cy : ClassId × ClassId × ClassId} {ad : Nat → Nat} {A : Nat → Prop} (E : CallFix p m c cX12_registers 11 s args gw RX12) (hr : meth.sig.returnType = none) (hlk : meth.locks = false) {x3 : Int32} {x4 : Int64} {x6 : Int64} {s0 : Int64} {s1 : Int64} {s2 : Int64} {u : St} {u' : St} (h : f_X12_registers_b91 x3 x4 x6 s0 s1 s2 u = some u') {ls : Array Slot} {H : Heap} {locs : List Loc} {rr : Nat → Nat} (hl : lv_has ls 11 [(3, .int x3), (4, .long x4), (6, .long x6)]) (w : WX (wM cy ad) D cy rr u A s H locs) : Wx (wM cy ad) D p l e 3 77 0 s m args below meth c A u' none H locs 0 91 ls [.long s0, .long s1, .long s2, .ref (ad 0)] := by
  have hx := E.1
  have hb := E.2.1
  have hown := E.2.2.2.1
  have hts := E.2.2.2.2
  refine lv_lsub hx hb (dq da_X12_registers 49 rfl) ?_
  refine lv_iload_n hx hb (dq da_X12_registers 50 rfl) rfl (lv_at hl 0 rfl) ?_
  refine lv_iconst (v := 1) hx hb (dq da_X12_registers 51 rfl) rfl ?_
  refine lv_icmp_ne (tgt := 109) hx hb (dq da_X12_registers 52 rfl) (by decide) (fun c39 => ?_) (fun c39 => ?_)
  · have h := ie c39 h
    exact b_X12_registers_b109 E hr hlk h (lv_sub hl [] rfl) w
  · have h := it c39 h
    refine lv_lload hx hb (dq da_X12_registers 53 rfl) (lv_at hl 2 rfl) ?_
    refine lv_lconst (v := 0) hx hb (dq da_X12_registers 54 rfl) rfl ?_
    refine lc_ge (tgt := 109) hx hb (dq da_X12_registers 55 rfl) (dq da_X12_registers 56 rfl) (by decide) (fun c42 => ?_) (fun c42 => ?_)
    · have h := it c42 h
      exact b_X12_registers_b109 E hr hlk h (lv_sub hl [] rfl) w
    · have h := ie c42 h
      refine lv_lload hx hb (dq da_X12_registers 57 rfl) (lv_at hl 1 rfl) ?_
      refine lv_goto (tgt := 110) hx hb (dq da_X12_registers 58 rfl) (by decide) ?_
      exact b_X12_registers_b110 E hr hlk h (lv_sub hl [] rfl) w
def f_X12_registers_b90 (x3 : Int32) (x4 : Int64) (x6 : Int64) (s0 : Int64) (s1 : Int64) (u : St) : Option (St) := f_X12_registers_b91 x3 x4 x6 (0 : Int64) s0 s1 u
set_option maxRecDepth 100000 in
set_option maxHeartbeats 4000000 in
theorem b_X12_registers_b90 {p : Program} {l : Launch} {e : Env} {s : State} {m : MethodId} {args : Array Value} {below : List Frame} {meth : Method} {c : Code} {D : va_G} {cy : ClassId × ClassId × ClassId} {ad : Nat → Nat} {A : Nat → Prop} (E : CallFix p m c cX12_registers 11 s args gw RX12) (hr : meth.sig.returnType = none) (hlk : meth.locks = false) {x3 : Int32} {x4 : Int64} {x6 : Int64} {s0 : Int64} {s1 : Int64} {u : St} {u' : St} (h : f_X12_registers_b90 x3 x4 x6 s0 s1 u = some u') {ls : Array Slot} {H : Heap} {locs : List Loc} {rr : Nat → Nat} (hl : lv_has ls 11 [(3, .int x3), (4, .long x4), (6, .long x6)]) (w : WX (wM cy ad) D cy rr u A s H locs) : Wx (wM cy ad) D p l e 3 77 0 s m args below meth c A u' none H locs 0 90 ls [.long s0, .long s1, .ref (ad 0)] := by
  have hx := E.1
  have hb := E.2.1
  have hown := E.2.2.2.1
  have hts := E.2.2.2.2
  refine lv_lconst (v := 0) hx hb (dq da_X12_registers 48 rfl) rfl ?_
  exact b_X12_registers_b91 E hr hlk h (lv_sub hl [0, 1, 2] rfl) w
def f_X12_registers (x1 : Int64) (x3 : Int32) (x4 : Int64) (x6 : Int64) (u : St) : Option (St) := if (f_X12_cut x1 (31 : Int32) (25 : Int32)) = (1 : Int64) then (if x3 = (0 : Int32) then ((f_X12_gives x1 (x4 * x6) u).bind (fun y48 => some y48)) else (if x3 ≤ (3 : Int32) then (if (3 : Int32) ≤ x3 then (f_X12_registers_b90 x3 x4 x6 (f_X12_upper x4 x6) x1 u) else (if (0 : Int64) ≤ x4 then (f_X12_registers_b90 x3 x4 x6 (f_X12_upper x4 x6) x1 u) else (f_X12_registers_b91 x3 x4 x6 x6 (f_X12_upper x4 x6) x1 u))) else ((f_X12_divided x3 x4 x6).bind (fun y44 => (f_X12_gives x1 y44 u).bind (fun y46 => some y46))))) else (if (f_X12_cut x1 (31 : Int32) (25 : Int32)) = (32 : Int64) then (if x3 = (0 : Int32) then ((f_X12_gives x1 (x4 - x6) u).bind (fun y34 => some y34)) else (f_X12_registers_b141 x1 x3 x4 x6 (f_X12_cut x1 (31 : Int32) (25 : Int32)) ((x6 &&& (63 : Int64)).toInt32) u)) else (f_X12_registers_b141 x1 x3 x4 x6 (f_X12_cut x1 (31 : Int32) (25 : Int32)) ((x6 &&& (63 : Int64)).toInt32) u))
set_option maxRecDepth 100000 in
set_option maxHeartbeats 4000000 in
theorem c_X12_registers (l : Launch) (D : va_G) (cy : ClassId × ClassId × ClassId) (ad : Nat → Nat) (x1 : Int64) (x3 : Int32) (x4 : Int64) (x6 : Int64) (u : St) {u' : St} (h : f_X12_registers x1 x3 x4 x6 u = some u') : MX (wM cy ad) D cy l yX12_registers cX12_registers 11 (none) 3 77 0 [.ref (ad 0), .long x1, .int x3, .long x4, .long x6] u u' none := by
  refine entX (by decide +kernel) (Nat.le_of_ble_eq_true rfl) ?_
  intro p e s m args below meth c ls rr A E hr hlk hl w
  have hl : lv_has ls 11 [(0, .ref (ad 0)), (1, .long x1), (3, .int x3), (4, .long x4), (6, .long x6)] := hl
  have hx := E.1
  have hb := E.2.1
  have hown := E.2.2.2.1
  have hts := E.2.2.2.2
  refine lv_lload_n hx hb (dq da_X12_registers 0 rfl) rfl (lv_at hl 1 rfl) ?_
  refine lv_bipush (v := 31) hx hb (dq da_X12_registers 1 rfl) rfl ?_
  refine lv_bipush (v := 25) hx hb (dq da_X12_registers 2 rfl) rfl ?_
  refine callP E (c_X12_cut l _ _ _ ) w_1384 w_1385 w_10 w_1386 hd_X12_cut rfl hl.1 rfl (Nat.le_of_ble_eq_true rfl) ⟨Nat.le_of_ble_eq_true rfl, Nat.le_of_ble_eq_true rfl⟩ (by decide) (dq da_X12_registers 3 rfl) ?_
  refine lv_lstore (lv' := [(8, .long (f_X12_cut x1 (31 : Int32) (25 : Int32))), (0, .ref (ad 0)), (1, .long x1), (3, .int x3), (4, .long x4), (6, .long x6)]) hx hb (dq da_X12_registers 4 rfl) hl (by decide) rfl (fun ls hl => ?_)
  refine lv_lload hx hb (dq da_X12_registers 5 rfl) (lv_at hl 5 rfl) ?_
  refine lv_ldc2 hx hb hown (hts _ w_1490) (dq da_X12_registers 6 rfl) ?_
  refine lv_land hx hb (dq da_X12_registers 7 rfl) ?_
  refine lv_l2i (v := (x6 &&& (63 : Int64)).toInt32) hx hb (dq da_X12_registers 8 rfl) rfl ?_
  refine lv_istore (lv' := [(10, .int ((x6 &&& (63 : Int64)).toInt32)), (8, .long (f_X12_cut x1 (31 : Int32) (25 : Int32))), (0, .ref (ad 0)), (1, .long x1), (3, .int x3), (4, .long x4), (6, .long x6)]) hx hb (dq da_X12_registers 9 rfl) hl (by decide) rfl (fun ls hl => ?_)
  refine lv_lload hx hb (dq da_X12_registers 10 rfl) (lv_at hl 1 rfl) ?_
  refine lv_lconst (v := 1) hx hb (dq da_X12_registers 11 rfl) rfl ?_
  refine lc_ne (tgt := 115) hx hb (dq da_X12_registers 12 rfl) (dq da_X12_registers 13 rfl) (by decide) (fun c1 => ?_) (fun c1 => ?_)
  · have h := ie c1 h
    refine lv_lload hx hb (dq da_X12_registers 63 rfl) (lv_at hl 1 rfl) ?_
    refine lv_ldc2 hx hb hown (hts _ w_1278) (dq da_X12_registers 64 rfl) ?_
    refine lc_ne (tgt := 141) hx hb (dq da_X12_registers 65 rfl) (dq da_X12_registers 66 rfl) (by decide) (fun c2 => ?_) (fun c2 => ?_)
    · have h := ie c2 h
      exact b_X12_registers_b141 E hr hlk h (lv_sub hl [2, 3, 4, 5, 6, 1, 0] rfl) w
    · have h := it c2 h
      refine lv_iload_n hx hb (dq da_X12_registers 67 rfl) rfl (lv_at hl 4 rfl) ?_
      refine lv_if_ne (tgt := 141) hx hb (dq da_X12_registers 68 rfl) (by decide) (fun c33 => ?_) (fun c33 => ?_)
      · have h := ie c33 h
        exact b_X12_registers_b141 E hr hlk h (lv_sub hl [2, 3, 4, 5, 6, 1, 0] rfl) w
      · have h := it c33 h
        refine lv_aload_n hx hb (dq da_X12_registers 69 rfl) rfl (lv_at hl 2 rfl) ?_
        refine lv_lload_n hx hb (dq da_X12_registers 70 rfl) rfl (lv_at hl 3 rfl) ?_
        refine lv_lload hx hb (dq da_X12_registers 71 rfl) (lv_at hl 5 rfl) ?_
        refine lv_lload hx hb (dq da_X12_registers 72 rfl) (lv_at hl 6 rfl) ?_
        refine lv_lsub hx hb (dq da_X12_registers 73 rfl) ?_
        obtain ⟨y34, hy35, h⟩ := ob h
        refine cV0 E (c_X12_gives l D cy ad _ _ _ hy35) w_1519 w_1521 w_p65 w_10 w_1522 rfl hd_X12_gives rfl hl.1 rfl (Nat.le_of_ble_eq_true rfl) ⟨Nat.le_of_ble_eq_true rfl, Nat.le_of_ble_eq_true rfl⟩ (by decide) w (rc_wM_0 w) (dq da_X12_registers 74 rfl) (fun H locs rr w => ?_)
        refine lv_goto (tgt := 343) hx hb (dq da_X12_registers 75 rfl) (by decide) ?_
        exact xret_v E hr hlk w (by decide) (os h) (dq da_X12_registers 162 rfl)
  · have h := it c1 h
    refine lv_iload_n hx hb (dq da_X12_registers 14 rfl) rfl (lv_at hl 4 rfl) ?_
    refine lv_if_ne (tgt := 43) hx hb (dq da_X12_registers 15 rfl) (by decide) (fun c36 => ?_) (fun c36 => ?_)
    · have h := ie c36 h
      refine lv_iload_n hx hb (dq da_X12_registers 23 rfl) rfl (lv_at hl 4 rfl) ?_
      refine lv_iconst (v := 3) hx hb (dq da_X12_registers 24 rfl) rfl ?_
      refine lv_icmp_le (tgt := 64) hx hb (dq da_X12_registers 25 rfl) (by decide) (fun c37 => ?_) (fun c37 => ?_)
      · have h := it c37 h
        refine lv_aload_n hx hb (dq da_X12_registers 34 rfl) rfl (lv_at hl 2 rfl) ?_
        refine lv_lload_n hx hb (dq da_X12_registers 35 rfl) rfl (lv_at hl 3 rfl) ?_
        refine lv_lload hx hb (dq da_X12_registers 36 rfl) (lv_at hl 5 rfl) ?_
        refine lv_lload hx hb (dq da_X12_registers 37 rfl) (lv_at hl 6 rfl) ?_
        refine callP E (c_X12_upper l _ _ ) w_1612 w_1613 w_10 w_1614 hd_X12_upper rfl hl.1 rfl (Nat.le_of_ble_eq_true rfl) ⟨Nat.le_of_ble_eq_true rfl, Nat.le_of_ble_eq_true rfl⟩ (by decide) (dq da_X12_registers 38 rfl) ?_
        refine lv_iload_n hx hb (dq da_X12_registers 39 rfl) rfl (lv_at hl 4 rfl) ?_
        refine lv_iconst (v := 3) hx hb (dq da_X12_registers 40 rfl) rfl ?_
        refine lv_icmp_ge (tgt := 90) hx hb (dq da_X12_registers 41 rfl) (by decide) (fun c38 => ?_) (fun c38 => ?_)
        · have h := it c38 h
          exact b_X12_registers_b90 E hr hlk h (lv_sub hl [4, 5, 6] rfl) w
        · have h := ie c38 h
          refine lv_lload hx hb (dq da_X12_registers 42 rfl) (lv_at hl 5 rfl) ?_
          refine lv_lconst (v := 0) hx hb (dq da_X12_registers 43 rfl) rfl ?_
          refine lc_ge (tgt := 90) hx hb (dq da_X12_registers 44 rfl) (dq da_X12_registers 45 rfl) (by decide) (fun c43 => ?_) (fun c43 => ?_)
          · have h := it c43 h
            exact b_X12_registers_b90 E hr hlk h (lv_sub hl [4, 5, 6] rfl) w
          · have h := ie c43 h
            refine lv_lload hx hb (dq da_X12_registers 46 rfl) (lv_at hl 6 rfl) ?_
            refine lv_goto (tgt := 91) hx hb (dq da_X12_registers 47 rfl) (by decide) ?_
            exact b_X12_registers_b91 E hr hlk h (lv_sub hl [4, 5, 6] rfl) w
      · have h := ie c37 h
        refine lv_aload_n hx hb (dq da_X12_registers 26 rfl) rfl (lv_at hl 2 rfl) ?_
        refine lv_lload_n hx hb (dq da_X12_registers 27 rfl) rfl (lv_at hl 3 rfl) ?_
        refine lv_iload_n hx hb (dq da_X12_registers 28 rfl) rfl (lv_at hl 4 rfl) ?_
        refine lv_lload hx hb (dq da_X12_registers 29 rfl) (lv_at hl 5 rfl) ?_
        refine lv_lload hx hb (dq da_X12_registers 30 rfl) (lv_at hl 6 rfl) ?_
        obtain ⟨y44, hy45, h⟩ := ob h
        refine callP E (c_X12_divided l _ _ _ hy45) w_1606 w_1607 w_10 w_1608 hd_X12_divided rfl hl.1 rfl (Nat.le_of_ble_eq_true rfl) ⟨Nat.le_of_ble_eq_true rfl, Nat.le_of_ble_eq_true rfl⟩ (by decide) (dq da_X12_registers 31 rfl) ?_
        obtain ⟨y46, hy47, h⟩ := ob h
        refine cV0 E (c_X12_gives l D cy ad _ _ _ hy47) w_1519 w_1521 w_p65 w_10 w_1522 rfl hd_X12_gives rfl hl.1 rfl (Nat.le_of_ble_eq_true rfl) ⟨Nat.le_of_ble_eq_true rfl, Nat.le_of_ble_eq_true rfl⟩ (by decide) w (rc_wM_0 w) (dq da_X12_registers 32 rfl) (fun H locs rr w => ?_)
        refine lv_goto (tgt := 114) hx hb (dq da_X12_registers 33 rfl) (by decide) ?_
        exact xret_v E hr hlk w (by decide) (os h) (dq da_X12_registers 62 rfl)
    · have h := it c36 h
      refine lv_aload_n hx hb (dq da_X12_registers 16 rfl) rfl (lv_at hl 2 rfl) ?_
      refine lv_lload_n hx hb (dq da_X12_registers 17 rfl) rfl (lv_at hl 3 rfl) ?_
      refine lv_lload hx hb (dq da_X12_registers 18 rfl) (lv_at hl 5 rfl) ?_
      refine lv_lload hx hb (dq da_X12_registers 19 rfl) (lv_at hl 6 rfl) ?_
      refine lv_lmul hx hb (dq da_X12_registers 20 rfl) ?_
      obtain ⟨y48, hy49, h⟩ := ob h
      refine cV0 E (c_X12_gives l D cy ad _ _ _ hy49) w_1519 w_1521 w_p65 w_10 w_1522 rfl hd_X12_gives rfl hl.1 rfl (Nat.le_of_ble_eq_true rfl) ⟨Nat.le_of_ble_eq_true rfl, Nat.le_of_ble_eq_true rfl⟩ (by decide) w (rc_wM_0 w) (dq da_X12_registers 21 rfl) (fun H locs rr w => ?_)
      refine lv_goto (tgt := 114) hx hb (dq da_X12_registers 22 rfl) (by decide) ?_
      exact xret_v E hr hlk w (by decide) (os h) (dq da_X12_registers 62 rfl)
def dl_X12_shortRegisters : List (Nat × Instr × Nat) := [(0, .lload_n 1, 1), (1, .bipush 31, 2), (3, .bipush 25, 2), (5, .invokestatic 196, 3), (8, .lstore 8, 2), (10, .lload 6, 2), (12, .ldc2_w 455, 3), (15, .land, 1), (16, .l2i, 1), (17, .istore 10, 2), (19, .lload 8, 2), (21, .lconst 1, 1), (22, .lcmp, 1), (23, .ifCond .ne 113, 3), (26, .iload_n 3, 1), (27, .ifCond .eq 8, 3), (30, .iload_n 3, 1), (31, .iconst 3, 1), (32, .if_icmp .le 104, 3), (35, .iload_n 3, 1), (36, .iconst 5, 1), (37, .if_icmp .eq 9, 3), (40, .iload_n 3, 1), (41, .bipush 7, 2), (43, .if_icmp .ne 7, 3), (46, .iconst 1, 1), (47, .goto 4, 3), (50, .iconst 0, 1), (51, .istore 11, 2), (53, .iload 11, 2), (55, .ifCond .eq 14, 3), (58, .lload 4, 2), (60, .bipush 31, 2), (62, .iconst 0, 1), (63, .invokestatic 196, 3), (66, .goto 10, 3), (69, .lload 4, 2), (71, .bipush 32, 2), (73, .invokestatic 205, 3), (76, .lstore 12, 2), (78, .iload 11, 2), (80, .ifCond .eq 14, 3), (83, .lload 6, 2), (85, .bipush 31, 2), (87, .iconst 0, 1), (88, .invokestatic 196, 3), (91, .goto 10, 3), (94, .lload 6, 2), (96, .bipush 32, 2), (98, .invokestatic 205, 3), (101, .lstore 14, 2), (103, .aload_n 0, 1), (104, .lload_n 1, 1), (105, .iload_n 3, 1), (106, .ifCond .ne 11, 3), (109, .lload 4, 2), (111, .lload 6, 2), (113, .lmul, 1), (114, .goto 11, 3), (117, .iload_n 3, 1), (118, .lload 12, 2), (120, .lload 14, 2), (122, .invokestatic 448, 3), (125, .bipush 32, 2), (127, .invokestatic 205, 3), (130, .invokevirtual 392, 3), (133, .goto 165, 3), (136, .lload 8, 2), (138, .lconst 0, 1), (139, .lcmp, 1), (140, .ifCond .ne 25, 3), (143, .iload_n 3, 1), (144, .ifCond .ne 21, 3), (147, .aload_n 0, 1), (148, .lload_n 1, 1), (149, .lload 4, 2), (151, .lload 6, 2), (153, .ladd, 1), (154, .bipush 32, 2), (156, .invokestatic 205, 3), (159, .invokevirtual 392, 3), (162, .goto 136, 3), (165, .lload 8, 2), (167, .lconst 0, 1), (168, .lcmp, 1), (169, .ifCond .ne 26, 3), (172, .iload_n 3, 1), (173, .iconst 1, 1), (174, .if_icmp .ne 21, 3), (177, .aload_n 0, 1), (178, .lload_n 1, 1), (179, .lload 4, 2), (181, .iload 10, 2), (183, .lshl, 1), (184, .bipush 32, 2), (186, .invokestatic 205, 3), (189, .invokevirtual 392, 3), (192, .goto 106, 3), (195, .lload 8, 2), (197, .lconst 0, 1), (198, .lcmp, 1), (199, .ifCond .ne 32, 3), (202, .iload_n 3, 1), (203, .iconst 5, 1), (204, .if_icmp .ne 27, 3), (207, .aload_n 0, 1), (208, .lload_n 1, 1), (209, .lload 4, 2), (211, .bipush 31, 2), (213, .iconst 0, 1), (214, .invokestatic 196, 3), (217, .iload 10, 2), (219, .lushr, 1), (220, .bipush 32, 2), (222, .invokestatic 205, 3), (225, .invokevirtual 392, 3), (228, .goto 70, 3), (231, .lload 8, 2), (233, .ldc2_w 440, 3), (236, .lcmp, 1), (237, .ifCond .ne 25, 3), (240, .iload_n 3, 1), (241, .ifCond .ne 21, 3), (244, .aload_n 0, 1), (245, .lload_n 1, 1), (246, .lload 4, 2), (248, .lload 6, 2), (250, .lsub, 1), (251, .bipush 32, 2), (253, .invokestatic 205, 3), (256, .invokevirtual 392, 3), (259, .goto 39, 3), (262, .lload 8, 2), (264, .ldc2_w 440, 3), (267, .lcmp, 1), (268, .ifCond .ne 26, 3), (271, .iload_n 3, 1), (272, .iconst 5, 1), (273, .if_icmp .ne 21, 3), (276, .aload_n 0, 1), (277, .lload_n 1, 1), (278, .lload 4, 2), (280, .bipush 32, 2), (282, .invokestatic 205, 3), (285, .iload 10, 2), (287, .lshr, 1), (288, .invokevirtual 392, 3), (291, .goto 7, 3), (294, .aload_n 0, 1), (295, .invokevirtual 396, 3), (298, .return_, 1)]
theorem da_X12_shortRegisters : dkL cX12_shortRegisters dl_X12_shortRegisters = true := by decide +kernel
def f_X12_shortRegisters_b294 (u : St) : Option (St) := some (f_X12_illegal u)
set_option maxRecDepth 100000 in
set_option maxHeartbeats 4000000 in
theorem b_X12_shortRegisters_b294 {p : Program} {l : Launch} {e : Env} {s : State} {m : MethodId} {args : Array Value} {below : List Frame} {meth : Method} {c : Code} {D : va_G} {cy : ClassId × ClassId × ClassId} {ad : Nat → Nat} {A : Nat → Prop} (E : CallFix p m c cX12_shortRegisters 16 s args gw RX12) (hr : meth.sig.returnType = none) (hlk : meth.locks = false) {u : St} {u' : St} (h : f_X12_shortRegisters_b294 u = some u') {ls : Array Slot} {H : Heap} {locs : List Loc} {rr : Nat → Nat} (hl : lv_has ls 16 [(0, .ref (ad 0))]) (w : WX (wM cy ad) D cy rr u A s H locs) : Wx (wM cy ad) D p l e 3 77 0 s m args below meth c A u' none H locs 0 294 ls [] := by
  have hx := E.1
  have hb := E.2.1
  have hown := E.2.2.2.1
  have hts := E.2.2.2.2
  refine lv_aload_n hx hb (dq da_X12_shortRegisters 148 rfl) rfl (lv_at hl 0 rfl) ?_
  refine cV0 E (c_X12_illegal l D cy ad _ ) w_1523 w_1525 w_p66 w_10 w_1526 rfl hd_X12_illegal rfl hl.1 rfl (Nat.le_of_ble_eq_true rfl) ⟨Nat.le_of_ble_eq_true rfl, Nat.le_of_ble_eq_true rfl⟩ (by decide) w (rc_wM_0 w) (dq da_X12_shortRegisters 149 rfl) (fun H locs rr w => ?_)
  exact xret_v E hr hlk w (by decide) (os h) (dq da_X12_shortRegisters 150 rfl)
def f_X12_shortRegisters_b262 (x1 : Int64) (x3 : Int32) (x4 : Int64) (x8 : Int64) (x10 : Int32) (u : St) : Option (St) := if x8 = (32 : Int64) then (if x3 = (5 : Int32) then ((f_X12_gives x1 (j_lshr (f_X12_signed x4 (32 : Int32)) x10) u).bind (fun y8 => some y8)) else (f_X12_shortRegisters_b294 u)) else (f_X12_shortRegisters_b294 u)
set_option maxRecDepth 100000 in
set_option maxHeartbeats 4000000 in
theorem b_X12_shortRegisters_b262 {p : Program} {l : Launch} {e : Env} {s : State} {m : MethodId} {args : Array Value} {below : List Frame} {meth : Method} {c : Code} {D : va_G} {cy : ClassId × ClassId × ClassId} {ad : Nat → Nat} {A : Nat → Prop} (E : CallFix p m c cX12_shortRegisters 16 s args gw RX12) (hr : meth.sig.returnType = none) (hlk : meth.locks = false) {x1 : Int64} {x3 : Int32} {x4 : Int64} {x8 : Int64} {x10 : Int32} {u : St} {u' : St} (h : f_X12_shortRegisters_b262 x1 x3 x4 x8 x10 u = some u') {ls : Array Slot} {H : Heap} {locs : List Loc} {rr : Nat → Nat} (hl : lv_has ls 16 [(0, .ref (ad 0)), (1, .long x1), (3, .int x3), (4, .long x4), (8, .long x8), (10, .int x10)]) (w : WX (wM cy ad) D cy rr u A s H locs) : Wx (wM cy ad) D p l e 3 77 0 s m args below meth c A u' none H locs 0 262 ls [] := by
  have hx := E.1
  have hb := E.2.1
  have hown := E.2.2.2.1
  have hts := E.2.2.2.2
  refine lv_lload hx hb (dq da_X12_shortRegisters 132 rfl) (lv_at hl 4 rfl) ?_
  refine lv_ldc2 hx hb hown (hts _ w_1278) (dq da_X12_shortRegisters 133 rfl) ?_
  refine lc_ne (tgt := 294) hx hb (dq da_X12_shortRegisters 134 rfl) (dq da_X12_shortRegisters 135 rfl) (by decide) (fun c6 => ?_) (fun c6 => ?_)
  · have h := ie c6 h
    exact b_X12_shortRegisters_b294 E hr hlk h (lv_sub hl [0] rfl) w
  · have h := it c6 h
    refine lv_iload_n hx hb (dq da_X12_shortRegisters 136 rfl) rfl (lv_at hl 2 rfl) ?_
    refine lv_iconst (v := 5) hx hb (dq da_X12_shortRegisters 137 rfl) rfl ?_
    refine lv_icmp_ne (tgt := 294) hx hb (dq da_X12_shortRegisters 138 rfl) (by decide) (fun c7 => ?_) (fun c7 => ?_)
    · have h := ie c7 h
      exact b_X12_shortRegisters_b294 E hr hlk h (lv_sub hl [0] rfl) w
    · have h := it c7 h
      refine lv_aload_n hx hb (dq da_X12_shortRegisters 139 rfl) rfl (lv_at hl 0 rfl) ?_
      refine lv_lload_n hx hb (dq da_X12_shortRegisters 140 rfl) rfl (lv_at hl 1 rfl) ?_
      refine lv_lload hx hb (dq da_X12_shortRegisters 141 rfl) (lv_at hl 3 rfl) ?_
      refine lv_bipush (v := 32) hx hb (dq da_X12_shortRegisters 142 rfl) rfl ?_
      refine callP E (c_X12_signed l _ _ ) w_1440 w_1441 w_10 w_1442 hd_X12_signed rfl hl.1 rfl (Nat.le_of_ble_eq_true rfl) ⟨Nat.le_of_ble_eq_true rfl, Nat.le_of_ble_eq_true rfl⟩ (by decide) (dq da_X12_shortRegisters 143 rfl) ?_
      refine lv_iload hx hb (dq da_X12_shortRegisters 144 rfl) (lv_at hl 5 rfl) ?_
      refine lv_lshr (v := (j_lshr (f_X12_signed x4 (32 : Int32)) x10)) hx hb (dq da_X12_shortRegisters 145 rfl) rfl ?_
      obtain ⟨y8, hy9, h⟩ := ob h
      refine cV0 E (c_X12_gives l D cy ad _ _ _ hy9) w_1519 w_1521 w_p65 w_10 w_1522 rfl hd_X12_gives rfl hl.1 rfl (Nat.le_of_ble_eq_true rfl) ⟨Nat.le_of_ble_eq_true rfl, Nat.le_of_ble_eq_true rfl⟩ (by decide) w (rc_wM_0 w) (dq da_X12_shortRegisters 146 rfl) (fun H locs rr w => ?_)
      refine lv_goto (tgt := 298) hx hb (dq da_X12_shortRegisters 147 rfl) (by decide) ?_
      exact xret_v E hr hlk w (by decide) (os h) (dq da_X12_shortRegisters 150 rfl)
def f_X12_shortRegisters_b231 (x1 : Int64) (x3 : Int32) (x4 : Int64) (x6 : Int64) (x8 : Int64) (x10 : Int32) (u : St) : Option (St) := if x8 = (32 : Int64) then (if x3 = (0 : Int32) then ((f_X12_gives x1 (f_X12_signed (x4 - x6) (32 : Int32)) u).bind (fun y11 => some y11)) else (f_X12_shortRegisters_b262 x1 x3 x4 x8 x10 u)) else (f_X12_shortRegisters_b262 x1 x3 x4 x8 x10 u)
set_option maxRecDepth 100000 in
set_option maxHeartbeats 4000000 in
theorem b_X12_shortRegisters_b231 {p : Program} {l : Launch} {e : Env} {s : State} {m : MethodId} {args : Array Value} {below : List Frame} {meth : Method} {c : Code} {D : va_G} {cy : ClassId × ClassId × ClassId} {ad : Nat → Nat} {A : Nat → Prop} (E : CallFix p m c cX12_shortRegisters 16 s args gw RX12) (hr : meth.sig.returnType = none) (hlk : meth.locks = false) {x1 : Int64} {x3 : Int32} {x4 : Int64} {x6 : Int64} {x8 : Int64} {x10 : Int32} {u : St} {u' : St} (h : f_X12_shortRegisters_b231 x1 x3 x4 x6 x8 x10 u = some u') {ls : Array Slot} {H : Heap} {locs : List Loc} {rr : Nat → Nat} (hl : lv_has ls 16 [(0, .ref (ad 0)), (1, .long x1), (3, .int x3), (4, .long x4), (6, .long x6), (8, .long x8), (10, .int x10)]) (w : WX (wM cy ad) D cy rr u A s H locs) : Wx (wM cy ad) D p l e 3 77 0 s m args below meth c A u' none H locs 0 231 ls [] := by
  have hx := E.1
  have hb := E.2.1
  have hown := E.2.2.2.1
  have hts := E.2.2.2.2
  refine lv_lload hx hb (dq da_X12_shortRegisters 117 rfl) (lv_at hl 5 rfl) ?_
  refine lv_ldc2 hx hb hown (hts _ w_1278) (dq da_X12_shortRegisters 118 rfl) ?_
  refine lc_ne (tgt := 262) hx hb (dq da_X12_shortRegisters 119 rfl) (dq da_X12_shortRegisters 120 rfl) (by decide) (fun c5 => ?_) (fun c5 => ?_)
  · have h := ie c5 h
    exact b_X12_shortRegisters_b262 E hr hlk h (lv_sub hl [0, 1, 2, 3, 5, 6] rfl) w
  · have h := it c5 h
    refine lv_iload_n hx hb (dq da_X12_shortRegisters 121 rfl) rfl (lv_at hl 2 rfl) ?_
    refine lv_if_ne (tgt := 262) hx hb (dq da_X12_shortRegisters 122 rfl) (by decide) (fun c10 => ?_) (fun c10 => ?_)
    · have h := ie c10 h
      exact b_X12_shortRegisters_b262 E hr hlk h (lv_sub hl [0, 1, 2, 3, 5, 6] rfl) w
    · have h := it c10 h
      refine lv_aload_n hx hb (dq da_X12_shortRegisters 123 rfl) rfl (lv_at hl 0 rfl) ?_
      refine lv_lload_n hx hb (dq da_X12_shortRegisters 124 rfl) rfl (lv_at hl 1 rfl) ?_
      refine lv_lload hx hb (dq da_X12_shortRegisters 125 rfl) (lv_at hl 3 rfl) ?_
      refine lv_lload hx hb (dq da_X12_shortRegisters 126 rfl) (lv_at hl 4 rfl) ?_
      refine lv_lsub hx hb (dq da_X12_shortRegisters 127 rfl) ?_
      refine lv_bipush (v := 32) hx hb (dq da_X12_shortRegisters 128 rfl) rfl ?_
      refine callP E (c_X12_signed l _ _ ) w_1440 w_1441 w_10 w_1442 hd_X12_signed rfl hl.1 rfl (Nat.le_of_ble_eq_true rfl) ⟨Nat.le_of_ble_eq_true rfl, Nat.le_of_ble_eq_true rfl⟩ (by decide) (dq da_X12_shortRegisters 129 rfl) ?_
      obtain ⟨y11, hy12, h⟩ := ob h
      refine cV0 E (c_X12_gives l D cy ad _ _ _ hy12) w_1519 w_1521 w_p65 w_10 w_1522 rfl hd_X12_gives rfl hl.1 rfl (Nat.le_of_ble_eq_true rfl) ⟨Nat.le_of_ble_eq_true rfl, Nat.le_of_ble_eq_true rfl⟩ (by decide) w (rc_wM_0 w) (dq da_X12_shortRegisters 130 rfl) (fun H locs rr w => ?_)
      refine lv_goto (tgt := 298) hx hb (dq da_X12_shortRegisters 131 rfl) (by decide) ?_
      exact xret_v E hr hlk w (by decide) (os h) (dq da_X12_shortRegisters 150 rfl)
def f_X12_shortRegisters_b195 (x1 : Int64) (x3 : Int32) (x4 : Int64) (x6 : Int64) (x8 : Int64) (x10 : Int32) (u : St) : Option (St) := if x8 = (0 : Int64) then (if x3 = (5 : Int32) then ((f_X12_gives x1 (f_X12_signed (j_lushr (f_X12_cut x4 (31 : Int32) (0 : Int32)) x10) (32 : Int32)) u).bind (fun y14 => some y14)) else (f_X12_shortRegisters_b231 x1 x3 x4 x6 x8 x10 u)) else (f_X12_shortRegisters_b231 x1 x3 x4 x6 x8 x10 u)
set_option maxRecDepth 100000 in
set_option maxHeartbeats 4000000 in
theorem b_X12_shortRegisters_b195 {p : Program} {l : Launch} {e : Env} {s : State} {m : MethodId} {args : Array Value} {below : List Frame} {meth : Method} {c : Code} {D : va_G} {cy : ClassId × ClassId × ClassId} {ad : Nat → Nat} {A : Nat → Prop} (E : CallFix p m c cX12_shortRegisters 16 s args gw RX12) (hr : meth.sig.returnType = none) (hlk : meth.locks = false) {x1 : Int64} {x3 : Int32} {x4 : Int64} {x6 : Int64} {x8 : Int64} {x10 : Int32} {u : St} {u' : St} (h : f_X12_shortRegisters_b195 x1 x3 x4 x6 x8 x10 u = some u') {ls : Array Slot} {H : Heap} {locs : List Loc} {rr : Nat → Nat} (hl : lv_has ls 16 [(0, .ref (ad 0)), (1, .long x1), (3, .int x3), (4, .long x4), (6, .long x6), (8, .long x8), (10, .int x10)]) (w : WX (wM cy ad) D cy rr u A s H locs) : Wx (wM cy ad) D p l e 3 77 0 s m args below meth c A u' none H locs 0 195 ls [] := by
  have hx := E.1
  have hb := E.2.1
  have hown := E.2.2.2.1
  have hts := E.2.2.2.2
  refine lv_lload hx hb (dq da_X12_shortRegisters 98 rfl) (lv_at hl 5 rfl) ?_
  refine lv_lconst (v := 0) hx hb (dq da_X12_shortRegisters 99 rfl) rfl ?_
  refine lc_ne (tgt := 231) hx hb (dq da_X12_shortRegisters 100 rfl) (dq da_X12_shortRegisters 101 rfl) (by decide) (fun c4 => ?_) (fun c4 => ?_)
  · have h := ie c4 h
    exact b_X12_shortRegisters_b231 E hr hlk h (lv_sub hl [0, 1, 2, 3, 4, 5, 6] rfl) w
  · have h := it c4 h
    refine lv_iload_n hx hb (dq da_X12_shortRegisters 102 rfl) rfl (lv_at hl 2 rfl) ?_
    refine lv_iconst (v := 5) hx hb (dq da_X12_shortRegisters 103 rfl) rfl ?_
    refine lv_icmp_ne (tgt := 231) hx hb (dq da_X12_shortRegisters 104 rfl) (by decide) (fun c13 => ?_) (fun c13 => ?_)
    · have h := ie c13 h
      exact b_X12_shortRegisters_b231 E hr hlk h (lv_sub hl [0, 1, 2, 3, 4, 5, 6] rfl) w
    · have h := it c13 h
      refine lv_aload_n hx hb (dq da_X12_shortRegisters 105 rfl) rfl (lv_at hl 0 rfl) ?_
      refine lv_lload_n hx hb (dq da_X12_shortRegisters 106 rfl) rfl (lv_at hl 1 rfl) ?_
      refine lv_lload hx hb (dq da_X12_shortRegisters 107 rfl) (lv_at hl 3 rfl) ?_
      refine lv_bipush (v := 31) hx hb (dq da_X12_shortRegisters 108 rfl) rfl ?_
      refine lv_iconst (v := 0) hx hb (dq da_X12_shortRegisters 109 rfl) rfl ?_
      refine callP E (c_X12_cut l _ _ _ ) w_1384 w_1385 w_10 w_1386 hd_X12_cut rfl hl.1 rfl (Nat.le_of_ble_eq_true rfl) ⟨Nat.le_of_ble_eq_true rfl, Nat.le_of_ble_eq_true rfl⟩ (by decide) (dq da_X12_shortRegisters 110 rfl) ?_
      refine lv_iload hx hb (dq da_X12_shortRegisters 111 rfl) (lv_at hl 6 rfl) ?_
      refine lv_lushr (v := (j_lushr (f_X12_cut x4 (31 : Int32) (0 : Int32)) x10)) hx hb (dq da_X12_shortRegisters 112 rfl) rfl ?_
      refine lv_bipush (v := 32) hx hb (dq da_X12_shortRegisters 113 rfl) rfl ?_
      refine callP E (c_X12_signed l _ _ ) w_1440 w_1441 w_10 w_1442 hd_X12_signed rfl hl.1 rfl (Nat.le_of_ble_eq_true rfl) ⟨Nat.le_of_ble_eq_true rfl, Nat.le_of_ble_eq_true rfl⟩ (by decide) (dq da_X12_shortRegisters 114 rfl) ?_
      obtain ⟨y14, hy15, h⟩ := ob h
      refine cV0 E (c_X12_gives l D cy ad _ _ _ hy15) w_1519 w_1521 w_p65 w_10 w_1522 rfl hd_X12_gives rfl hl.1 rfl (Nat.le_of_ble_eq_true rfl) ⟨Nat.le_of_ble_eq_true rfl, Nat.le_of_ble_eq_true rfl⟩ (by decide) w (rc_wM_0 w) (dq da_X12_shortRegisters 115 rfl) (fun H locs rr w => ?_)
      refine lv_goto (tgt := 298) hx hb (dq da_X12_shortRegisters 116 rfl) (by decide) ?_
      exact xret_v E hr hlk w (by decide) (os h) (dq da_X12_shortRegisters 150 rfl)
def f_X12_shortRegisters_b165 (x1 : Int64) (x3 : Int32) (x4 : Int64) (x6 : Int64) (x8 : Int64) (x10 : Int32) (u : St) : Option (St) := if x8 = (0 : Int64) then (if x3 = (1 : Int32) then ((f_X12_gives x1 (f_X12_signed (j_lshl x4 x10) (32 : Int32)) u).bind (fun y17 => some y17)) else (f_X12_shortRegisters_b195 x1 x3 x4 x6 x8 x10 u)) else (f_X12_shortRegisters_b195 x1 x3 x4 x6 x8 x10 u)
set_option maxRecDepth 100000 in
set_option maxHeartbeats 4000000 in
theorem b_X12_shortRegisters_b165 {p : Program} {l : Launch} {e : Env} {s : State} {m : MethodId} {args : Array Value} {below : List Frame} {meth : Method} {c : Code} {D : va_G} {cy : ClassId × ClassId × ClassId} {ad : Nat → Nat} {A : Nat → Prop} (E : CallFix p m c cX12_shortRegisters 16 s args gw RX12) (hr : meth.sig.returnType = none) (hlk : meth.locks = false) {x1 : Int64} {x3 : Int32} {x4 : Int64} {x6 : Int64} {x8 : Int64} {x10 : Int32} {u : St} {u' : St} (h : f_X12_shortRegisters_b165 x1 x3 x4 x6 x8 x10 u = some u') {ls : Array Slot} {H : Heap} {locs : List Loc} {rr : Nat → Nat} (hl : lv_has ls 16 [(0, .ref (ad 0)), (1, .long x1), (3, .int x3), (4, .long x4), (6, .long x6), (8, .long x8), (10, .int x10)]) (w : WX (wM cy ad) D cy rr u A s H locs) : Wx (wM cy ad) D p l e 3 77 0 s m args below meth c A u' none H locs 0 165 ls [] := by
  have hx := E.1
  have hb := E.2.1
  have hown := E.2.2.2.1
  have hts := E.2.2.2.2
  refine lv_lload hx hb (dq da_X12_shortRegisters 82 rfl) (lv_at hl 5 rfl) ?_
  refine lv_lconst (v := 0) hx hb (dq da_X12_shortRegisters 83 rfl) rfl ?_
  refine lc_ne (tgt := 195) hx hb (dq da_X12_shortRegisters 84 rfl) (dq da_X12_shortRegisters 85 rfl) (by decide) (fun c3 => ?_) (fun c3 => ?_)
  · have h := ie c3 h
    exact b_X12_shortRegisters_b195 E hr hlk h (lv_sub hl [0, 1, 2, 3, 4, 5, 6] rfl) w
  · have h := it c3 h
    refine lv_iload_n hx hb (dq da_X12_shortRegisters 86 rfl) rfl (lv_at hl 2 rfl) ?_
    refine lv_iconst (v := 1) hx hb (dq da_X12_shortRegisters 87 rfl) rfl ?_
    refine lv_icmp_ne (tgt := 195) hx hb (dq da_X12_shortRegisters 88 rfl) (by decide) (fun c16 => ?_) (fun c16 => ?_)
    · have h := ie c16 h
      exact b_X12_shortRegisters_b195 E hr hlk h (lv_sub hl [0, 1, 2, 3, 4, 5, 6] rfl) w
    · have h := it c16 h
      refine lv_aload_n hx hb (dq da_X12_shortRegisters 89 rfl) rfl (lv_at hl 0 rfl) ?_
      refine lv_lload_n hx hb (dq da_X12_shortRegisters 90 rfl) rfl (lv_at hl 1 rfl) ?_
      refine lv_lload hx hb (dq da_X12_shortRegisters 91 rfl) (lv_at hl 3 rfl) ?_
      refine lv_iload hx hb (dq da_X12_shortRegisters 92 rfl) (lv_at hl 6 rfl) ?_
      refine lv_lshl (v := (j_lshl x4 x10)) hx hb (dq da_X12_shortRegisters 93 rfl) rfl ?_
      refine lv_bipush (v := 32) hx hb (dq da_X12_shortRegisters 94 rfl) rfl ?_
      refine callP E (c_X12_signed l _ _ ) w_1440 w_1441 w_10 w_1442 hd_X12_signed rfl hl.1 rfl (Nat.le_of_ble_eq_true rfl) ⟨Nat.le_of_ble_eq_true rfl, Nat.le_of_ble_eq_true rfl⟩ (by decide) (dq da_X12_shortRegisters 95 rfl) ?_
      obtain ⟨y17, hy18, h⟩ := ob h
      refine cV0 E (c_X12_gives l D cy ad _ _ _ hy18) w_1519 w_1521 w_p65 w_10 w_1522 rfl hd_X12_gives rfl hl.1 rfl (Nat.le_of_ble_eq_true rfl) ⟨Nat.le_of_ble_eq_true rfl, Nat.le_of_ble_eq_true rfl⟩ (by decide) w (rc_wM_0 w) (dq da_X12_shortRegisters 96 rfl) (fun H locs rr w => ?_)
      refine lv_goto (tgt := 298) hx hb (dq da_X12_shortRegisters 97 rfl) (by decide) ?_
      exact xret_v E hr hlk w (by decide) (os h) (dq da_X12_shortRegisters 150 rfl)
def f_X12_shortRegisters_b136 (x1 : Int64) (x3 : Int32) (x4 : Int64) (x6 : Int64) (x8 : Int64) (x10 : Int32) (u : St) : Option (St) := if x8 = (0 : Int64) then (if x3 = (0 : Int32) then ((f_X12_gives x1 (f_X12_signed (x4 + x6) (32 : Int32)) u).bind (fun y20 => some y20)) else (f_X12_shortRegisters_b165 x1 x3 x4 x6 x8 x10 u)) else (f_X12_shortRegisters_b165 x1 x3 x4 x6 x8 x10 u)
set_option maxRecDepth 100000 in
set_option maxHeartbeats 4000000 in
theorem b_X12_shortRegisters_b136 {p : Program} {l : Launch} {e : Env} {s : State} {m : MethodId} {args : Array Value} {below : List Frame} {meth : Method} {c : Code} {D : va_G} {cy : ClassId × ClassId × ClassId} {ad : Nat → Nat} {A : Nat → Prop} (E : CallFix p m c cX12_shortRegisters 16 s args gw RX12) (hr : meth.sig.returnType = none) (hlk : meth.locks = false) {x1 : Int64} {x3 : Int32} {x4 : Int64} {x6 : Int64} {x8 : Int64} {x10 : Int32} {u : St} {u' : St} (h : f_X12_shortRegisters_b136 x1 x3 x4 x6 x8 x10 u = some u') {ls : Array Slot} {H : Heap} {locs : List Loc} {rr : Nat → Nat} (hl : lv_has ls 16 [(0, .ref (ad 0)), (1, .long x1), (3, .int x3), (4, .long x4), (6, .long x6), (8, .long x8), (10, .int x10)]) (w : WX (wM cy ad) D cy rr u A s H locs) : Wx (wM cy ad) D p l e 3 77 0 s m args below meth c A u' none H locs 0 136 ls [] := by
  have hx := E.1
  have hb := E.2.1
  have hown := E.2.2.2.1
  have hts := E.2.2.2.2
  refine lv_lload hx hb (dq da_X12_shortRegisters 67 rfl) (lv_at hl 5 rfl) ?_
  refine lv_lconst (v := 0) hx hb (dq da_X12_shortRegisters 68 rfl) rfl ?_
  refine lc_ne (tgt := 165) hx hb (dq da_X12_shortRegisters 69 rfl) (dq da_X12_shortRegisters 70 rfl) (by decide) (fun c2 => ?_) (fun c2 => ?_)
  · have h := ie c2 h
    exact b_X12_shortRegisters_b165 E hr hlk h (lv_sub hl [0, 1, 2, 3, 4, 5, 6] rfl) w
  · have h := it c2 h
    refine lv_iload_n hx hb (dq da_X12_shortRegisters 71 rfl) rfl (lv_at hl 2 rfl) ?_
    refine lv_if_ne (tgt := 165) hx hb (dq da_X12_shortRegisters 72 rfl) (by decide) (fun c19 => ?_) (fun c19 => ?_)
    · have h := ie c19 h
      exact b_X12_shortRegisters_b165 E hr hlk h (lv_sub hl [0, 1, 2, 3, 4, 5, 6] rfl) w
    · have h := it c19 h
      refine lv_aload_n hx hb (dq da_X12_shortRegisters 73 rfl) rfl (lv_at hl 0 rfl) ?_
      refine lv_lload_n hx hb (dq da_X12_shortRegisters 74 rfl) rfl (lv_at hl 1 rfl) ?_
      refine lv_lload hx hb (dq da_X12_shortRegisters 75 rfl) (lv_at hl 3 rfl) ?_
      refine lv_lload hx hb (dq da_X12_shortRegisters 76 rfl) (lv_at hl 4 rfl) ?_
      refine lv_ladd hx hb (dq da_X12_shortRegisters 77 rfl) ?_
      refine lv_bipush (v := 32) hx hb (dq da_X12_shortRegisters 78 rfl) rfl ?_
      refine callP E (c_X12_signed l _ _ ) w_1440 w_1441 w_10 w_1442 hd_X12_signed rfl hl.1 rfl (Nat.le_of_ble_eq_true rfl) ⟨Nat.le_of_ble_eq_true rfl, Nat.le_of_ble_eq_true rfl⟩ (by decide) (dq da_X12_shortRegisters 79 rfl) ?_
      obtain ⟨y20, hy21, h⟩ := ob h
      refine cV0 E (c_X12_gives l D cy ad _ _ _ hy21) w_1519 w_1521 w_p65 w_10 w_1522 rfl hd_X12_gives rfl hl.1 rfl (Nat.le_of_ble_eq_true rfl) ⟨Nat.le_of_ble_eq_true rfl, Nat.le_of_ble_eq_true rfl⟩ (by decide) w (rc_wM_0 w) (dq da_X12_shortRegisters 80 rfl) (fun H locs rr w => ?_)
      refine lv_goto (tgt := 298) hx hb (dq da_X12_shortRegisters 81 rfl) (by decide) ?_
      exact xret_v E hr hlk w (by decide) (os h) (dq da_X12_shortRegisters 150 rfl)
def f_X12_shortRegisters_b125 (s0 : Int64) (s1 : Int64) (u : St) : Option (St) := (f_X12_gives s1 (f_X12_signed s0 (32 : Int32)) u).bind (fun y29 => some y29)
set_option maxRecDepth 100000 in
set_option maxHeartbeats 4000000 in
theorem b_X12_shortRegisters_b125 {p : Program} {l : Launch} {e : Env} {s : State} {m : MethodId} {args : Array Value} {below : List Frame} {meth : Method} {c : Code} {D : va_G} {cy : ClassId × ClassId × ClassId} {ad : Nat → Nat} {A : Nat → Prop} (E : CallFix p m c cX12_shortRegisters 16 s args gw RX12) (hr : meth.sig.returnType = none) (hlk : meth.locks = false) {s0 : Int64} {s1 : Int64} {u : St} {u' : St} (h : f_X12_shortRegisters_b125 s0 s1 u = some u') {ls : Array Slot} {H : Heap} {locs : List Loc} {rr : Nat → Nat} (hl : lv_has ls 16 []) (w : WX (wM cy ad) D cy rr u A s H locs) : Wx (wM cy ad) D p l e 3 77 0 s m args below meth c A u' none H locs 0 125 ls [.long s0, .long s1, .ref (ad 0)] := by
  have hx := E.1
  have hb := E.2.1
  have hown := E.2.2.2.1
  have hts := E.2.2.2.2
  refine lv_bipush (v := 32) hx hb (dq da_X12_shortRegisters 63 rfl) rfl ?_
  refine callP E (c_X12_signed l _ _ ) w_1440 w_1441 w_10 w_1442 hd_X12_signed rfl hl.1 rfl (Nat.le_of_ble_eq_true rfl) ⟨Nat.le_of_ble_eq_true rfl, Nat.le_of_ble_eq_true rfl⟩ (by decide) (dq da_X12_shortRegisters 64 rfl) ?_
  obtain ⟨y29, hy30, h⟩ := ob h
  refine cV0 E (c_X12_gives l D cy ad _ _ _ hy30) w_1519 w_1521 w_p65 w_10 w_1522 rfl hd_X12_gives rfl hl.1 rfl (Nat.le_of_ble_eq_true rfl) ⟨Nat.le_of_ble_eq_true rfl, Nat.le_of_ble_eq_true rfl⟩ (by decide) w (rc_wM_0 w) (dq da_X12_shortRegisters 65 rfl) (fun H locs rr w => ?_)
  refine lv_goto (tgt := 298) hx hb (dq da_X12_shortRegisters 66 rfl) (by decide) ?_
  exact xret_v E hr hlk w (by decide) (os h) (dq da_X12_shortRegisters 150 rfl)
def f_X12_shortRegisters_b101 (x1 : Int64) (x3 : Int32) (x4 : Int64) (x6 : Int64) (x12 : Int64) (s0 : Int64) (u : St) : Option (St) := if x3 = (0 : Int32) then (f_X12_shortRegisters_b125 (x4 * x6) x1 u) else ((f_X12_divided x3 x12 s0).bind (fun y27 => f_X12_shortRegisters_b125 y27 x1 u))
set_option maxRecDepth 100000 in
set_option maxHeartbeats 4000000 in
theorem b_X12_shortRegisters_b101 {p : Program} {l : Launch} {e : Env} {s : State} {m : MethodId} {args : Array Value} {below : List Frame} {meth : Method} {c : Code} {D : va_G} {cy : ClassId × ClassId × ClassId} {ad : Nat → Nat} {A : Nat → Prop} (E : CallFix p m c cX12_shortRegisters 16 s args gw RX12) (hr : meth.sig.returnType = none) (hlk : meth.locks = false) {x1 : Int64} {x3 : Int32} {x4 : Int64} {x6 : Int64} {x12 : Int64} {s0 : Int64} {u : St} {u' : St} (h : f_X12_shortRegisters_b101 x1 x3 x4 x6 x12 s0 u = some u') {ls : Array Slot} {H : Heap} {locs : List Loc} {rr : Nat → Nat} (hl : lv_has ls 16 [(0, .ref (ad 0)), (1, .long x1), (3, .int x3), (4, .long x4), (6, .long x6), (12, .long x12)]) (w : WX (wM cy ad) D cy rr u A s H locs) : Wx (wM cy ad) D p l e 3 77 0 s m args below meth c A u' none H locs 0 101 ls [.long s0] := by
  have hx := E.1
  have hb := E.2.1
  have hown := E.2.2.2.1
  have hts := E.2.2.2.2
  refine lv_lstore (lv' := [(14, .long s0), (0, .ref (ad 0)), (1, .long x1), (3, .int x3), (4, .long x4), (6, .long x6), (12, .long x12)]) hx hb (dq da_X12_shortRegisters 50 rfl) hl (by decide) rfl (fun ls hl => ?_)
  refine lv_aload_n hx hb (dq da_X12_shortRegisters 51 rfl) rfl (lv_at hl 1 rfl) ?_
  refine lv_lload_n hx hb (dq da_X12_shortRegisters 52 rfl) rfl (lv_at hl 2 rfl) ?_
  refine lv_iload_n hx hb (dq da_X12_shortRegisters 53 rfl) rfl (lv_at hl 3 rfl) ?_
  refine lv_if_ne (tgt := 117) hx hb (dq da_X12_shortRegisters 54 rfl) (by decide) (fun c26 => ?_) (fun c26 => ?_)
  · have h := ie c26 h
    refine lv_iload_n hx hb (dq da_X12_shortRegisters 59 rfl) rfl (lv_at hl 3 rfl) ?_
    refine lv_lload hx hb (dq da_X12_shortRegisters 60 rfl) (lv_at hl 6 rfl) ?_
    refine lv_lload hx hb (dq da_X12_shortRegisters 61 rfl) (lv_at hl 0 rfl) ?_
    obtain ⟨y27, hy28, h⟩ := ob h
    refine callP E (c_X12_divided l _ _ _ hy28) w_1606 w_1607 w_10 w_1608 hd_X12_divided rfl hl.1 rfl (Nat.le_of_ble_eq_true rfl) ⟨Nat.le_of_ble_eq_true rfl, Nat.le_of_ble_eq_true rfl⟩ (by decide) (dq da_X12_shortRegisters 62 rfl) ?_
    exact b_X12_shortRegisters_b125 E hr hlk h (lv_sub hl [] rfl) w
  · have h := it c26 h
    refine lv_lload hx hb (dq da_X12_shortRegisters 55 rfl) (lv_at hl 4 rfl) ?_
    refine lv_lload hx hb (dq da_X12_shortRegisters 56 rfl) (lv_at hl 5 rfl) ?_
    refine lv_lmul hx hb (dq da_X12_shortRegisters 57 rfl) ?_
    refine lv_goto (tgt := 125) hx hb (dq da_X12_shortRegisters 58 rfl) (by decide) ?_
    exact b_X12_shortRegisters_b125 E hr hlk h (lv_sub hl [] rfl) w
def f_X12_shortRegisters_b76 (x1 : Int64) (x3 : Int32) (x4 : Int64) (x6 : Int64) (x11 : Int32) (s0 : Int64) (u : St) : Option (St) := if x11 = (0 : Int32) then (f_X12_shortRegisters_b101 x1 x3 x4 x6 s0 (f_X12_signed x6 (32 : Int32)) u) else (f_X12_shortRegisters_b101 x1 x3 x4 x6 s0 (f_X12_cut x6 (31 : Int32) (0 : Int32)) u)
set_option maxRecDepth 100000 in
set_option maxHeartbeats 4000000 in
theorem b_X12_shortRegisters_b76 {p : Program} {l : Launch} {e : Env} {s : State} {m : MethodId} {args : Array Value} {below : List Frame} {meth : Method} {c : Code} {D : va_G} {cy : ClassId × ClassId × ClassId} {ad : Nat → Nat} {A : Nat → Prop} (E : CallFix p m c cX12_shortRegisters 16 s args gw RX12) (hr : meth.sig.returnType = none) (hlk : meth.locks = false) {x1 : Int64} {x3 : Int32} {x4 : Int64} {x6 : Int64} {x11 : Int32} {s0 : Int64} {u : St} {u' : St} (h : f_X12_shortRegisters_b76 x1 x3 x4 x6 x11 s0 u = some u') {ls : Array Slot} {H : Heap} {locs : List Loc} {rr : Nat → Nat} (hl : lv_has ls 16 [(0, .ref (ad 0)), (1, .long x1), (3, .int x3), (4, .long x4), (6, .long x6), (11, .int x11)]) (w : WX (wM cy ad) D cy rr u A s H locs) : Wx (wM cy ad) D p l e 3 77 0 s m args below meth c A u' none H locs 0 76 ls [.long s0] := by
  have hx := E.1
  have hb := E.2.1
  have hown := E.2.2.2.1
  have hts := E.2.2.2.2
  refine lv_lstore (lv' := [(12, .long s0), (0, .ref (ad 0)), (1, .long x1), (3, .int x3), (4, .long x4), (6, .long x6), (11, .int x11)]) hx hb (dq da_X12_shortRegisters 39 rfl) hl (by decide) rfl (fun ls hl => ?_)
  refine lv_iload hx hb (dq da_X12_shortRegisters 40 rfl) (lv_at hl 6 rfl) ?_
  refine lv_if_eq (tgt := 94) hx hb (dq da_X12_shortRegisters 41 rfl) (by decide) (fun c25 => ?_) (fun c25 => ?_)
  · have h := it c25 h
    refine lv_lload hx hb (dq da_X12_shortRegisters 47 rfl) (lv_at hl 5 rfl) ?_
    refine lv_bipush (v := 32) hx hb (dq da_X12_shortRegisters 48 rfl) rfl ?_
    refine callP E (c_X12_signed l _ _ ) w_1440 w_1441 w_10 w_1442 hd_X12_signed rfl hl.1 rfl (Nat.le_of_ble_eq_true rfl) ⟨Nat.le_of_ble_eq_true rfl, Nat.le_of_ble_eq_true rfl⟩ (by decide) (dq da_X12_shortRegisters 49 rfl) ?_
    exact b_X12_shortRegisters_b101 E hr hlk h (lv_sub hl [1, 2, 3, 4, 5, 0] rfl) w
  · have h := ie c25 h
    refine lv_lload hx hb (dq da_X12_shortRegisters 42 rfl) (lv_at hl 5 rfl) ?_
    refine lv_bipush (v := 31) hx hb (dq da_X12_shortRegisters 43 rfl) rfl ?_
    refine lv_iconst (v := 0) hx hb (dq da_X12_shortRegisters 44 rfl) rfl ?_
    refine callP E (c_X12_cut l _ _ _ ) w_1384 w_1385 w_10 w_1386 hd_X12_cut rfl hl.1 rfl (Nat.le_of_ble_eq_true rfl) ⟨Nat.le_of_ble_eq_true rfl, Nat.le_of_ble_eq_true rfl⟩ (by decide) (dq da_X12_shortRegisters 45 rfl) ?_
    refine lv_goto (tgt := 101) hx hb (dq da_X12_shortRegisters 46 rfl) (by decide) ?_
    exact b_X12_shortRegisters_b101 E hr hlk h (lv_sub hl [1, 2, 3, 4, 5, 0] rfl) w
def f_X12_shortRegisters_b51 (x1 : Int64) (x3 : Int32) (x4 : Int64) (x6 : Int64) (s0 : Int32) (u : St) : Option (St) := if s0 = (0 : Int32) then (f_X12_shortRegisters_b76 x1 x3 x4 x6 s0 (f_X12_signed x4 (32 : Int32)) u) else (f_X12_shortRegisters_b76 x1 x3 x4 x6 s0 (f_X12_cut x4 (31 : Int32) (0 : Int32)) u)
set_option maxRecDepth 100000 in
set_option maxHeartbeats 4000000 in
theorem b_X12_shortRegisters_b51 {p : Program} {l : Launch} {e : Env} {s : State} {m : MethodId} {args : Array Value} {below : List Frame} {meth : Method} {c : Code} {D : va_G} {cy : ClassId × ClassId × ClassId} {ad : Nat → Nat} {A : Nat → Prop} (E : CallFix p m c cX12_shortRegisters 16 s args gw RX12) (hr : meth.sig.returnType = none) (hlk : meth.locks = false) {x1 : Int64} {x3 : Int32} {x4 : Int64} {x6 : Int64} {s0 : Int32} {u : St} {u' : St} (h : f_X12_shortRegisters_b51 x1 x3 x4 x6 s0 u = some u') {ls : Array Slot} {H : Heap} {locs : List Loc} {rr : Nat → Nat} (hl : lv_has ls 16 [(0, .ref (ad 0)), (1, .long x1), (3, .int x3), (4, .long x4), (6, .long x6)]) (w : WX (wM cy ad) D cy rr u A s H locs) : Wx (wM cy ad) D p l e 3 77 0 s m args below meth c A u' none H locs 0 51 ls [.int s0] := by
  have hx := E.1
  have hb := E.2.1
  have hown := E.2.2.2.1
  have hts := E.2.2.2.2
  refine lv_istore (lv' := [(11, .int s0), (0, .ref (ad 0)), (1, .long x1), (3, .int x3), (4, .long x4), (6, .long x6)]) hx hb (dq da_X12_shortRegisters 28 rfl) hl (by decide) rfl (fun ls hl => ?_)
  refine lv_iload hx hb (dq da_X12_shortRegisters 29 rfl) (lv_at hl 0 rfl) ?_
  refine lv_if_eq (tgt := 69) hx hb (dq da_X12_shortRegisters 30 rfl) (by decide) (fun c24 => ?_) (fun c24 => ?_)
  · have h := it c24 h
    refine lv_lload hx hb (dq da_X12_shortRegisters 36 rfl) (lv_at hl 4 rfl) ?_
    refine lv_bipush (v := 32) hx hb (dq da_X12_shortRegisters 37 rfl) rfl ?_
    refine callP E (c_X12_signed l _ _ ) w_1440 w_1441 w_10 w_1442 hd_X12_signed rfl hl.1 rfl (Nat.le_of_ble_eq_true rfl) ⟨Nat.le_of_ble_eq_true rfl, Nat.le_of_ble_eq_true rfl⟩ (by decide) (dq da_X12_shortRegisters 38 rfl) ?_
    exact b_X12_shortRegisters_b76 E hr hlk h (lv_sub hl [1, 2, 3, 4, 5, 0] rfl) w
  · have h := ie c24 h
    refine lv_lload hx hb (dq da_X12_shortRegisters 31 rfl) (lv_at hl 4 rfl) ?_
    refine lv_bipush (v := 31) hx hb (dq da_X12_shortRegisters 32 rfl) rfl ?_
    refine lv_iconst (v := 0) hx hb (dq da_X12_shortRegisters 33 rfl) rfl ?_
    refine callP E (c_X12_cut l _ _ _ ) w_1384 w_1385 w_10 w_1386 hd_X12_cut rfl hl.1 rfl (Nat.le_of_ble_eq_true rfl) ⟨Nat.le_of_ble_eq_true rfl, Nat.le_of_ble_eq_true rfl⟩ (by decide) (dq da_X12_shortRegisters 34 rfl) ?_
    refine lv_goto (tgt := 76) hx hb (dq da_X12_shortRegisters 35 rfl) (by decide) ?_
    exact b_X12_shortRegisters_b76 E hr hlk h (lv_sub hl [1, 2, 3, 4, 5, 0] rfl) w
def f_X12_shortRegisters_b46 (x1 : Int64) (x3 : Int32) (x4 : Int64) (x6 : Int64) (u : St) : Option (St) := f_X12_shortRegisters_b51 x1 x3 x4 x6 (1 : Int32) u
set_option maxRecDepth 100000 in
set_option maxHeartbeats 4000000 in
theorem b_X12_shortRegisters_b46 {p : Program} {l : Launch} {e : Env} {s : State} {m : MethodId} {args : Array Value} {below : List Frame} {meth : Method} {c : Code} {D : va_G} {cy : ClassId × ClassId × ClassId} {ad : Nat → Nat} {A : Nat → Prop} (E : CallFix p m c cX12_shortRegisters 16 s args gw RX12) (hr : meth.sig.returnType = none) (hlk : meth.locks = false) {x1 : Int64} {x3 : Int32} {x4 : Int64} {x6 : Int64} {u : St} {u' : St} (h : f_X12_shortRegisters_b46 x1 x3 x4 x6 u = some u') {ls : Array Slot} {H : Heap} {locs : List Loc} {rr : Nat → Nat} (hl : lv_has ls 16 [(0, .ref (ad 0)), (1, .long x1), (3, .int x3), (4, .long x4), (6, .long x6)]) (w : WX (wM cy ad) D cy rr u A s H locs) : Wx (wM cy ad) D p l e 3 77 0 s m args below meth c A u' none H locs 0 46 ls [] := by
  have hx := E.1
  have hb := E.2.1
  have hown := E.2.2.2.1
  have hts := E.2.2.2.2
  refine lv_iconst (v := 1) hx hb (dq da_X12_shortRegisters 25 rfl) rfl ?_
  refine lv_goto (tgt := 51) hx hb (dq da_X12_shortRegisters 26 rfl) (by decide) ?_
  exact b_X12_shortRegisters_b51 E hr hlk h (lv_sub hl [0, 1, 2, 3, 4] rfl) w
def f_X12_shortRegisters_b35 (x1 : Int64) (x3 : Int32) (x4 : Int64) (x6 : Int64) (u : St) : Option (St) := if x3 = (5 : Int32) then (f_X12_shortRegisters_b46 x1 x3 x4 x6 u) else (if x3 = (7 : Int32) then (f_X12_shortRegisters_b46 x1 x3 x4 x6 u) else (f_X12_shortRegisters_b51 x1 x3 x4 x6 (0 : Int32) u))
set_option maxRecDepth 100000 in
set_option maxHeartbeats 4000000 in
theorem b_X12_shortRegisters_b35 {p : Program} {l : Launch} {e : Env} {s : State} {m : MethodId} {args : Array Value} {below : List Frame} {meth : Method} {c : Code} {D : va_G} {cy : ClassId × ClassId × ClassId} {ad : Nat → Nat} {A : Nat → Prop} (E : CallFix p m c cX12_shortRegisters 16 s args gw RX12) (hr : meth.sig.returnType = none) (hlk : meth.locks = false) {x1 : Int64} {x3 : Int32} {x4 : Int64} {x6 : Int64} {u : St} {u' : St} (h : f_X12_shortRegisters_b35 x1 x3 x4 x6 u = some u') {ls : Array Slot} {H : Heap} {locs : List Loc} {rr : Nat → Nat} (hl : lv_has ls 16 [(0, .ref (ad 0)), (1, .long x1), (3, .int x3), (4, .long x4), (6, .long x6)]) (w : WX (wM cy ad) D cy rr u A s H locs) : Wx (wM cy ad) D p l e 3 77 0 s m args below meth c A u' none H locs 0 35 ls [] := by
  have hx := E.1
  have hb := E.2.1
  have hown := E.2.2.2.1
  have hts := E.2.2.2.2
  refine lv_iload_n hx hb (dq da_X12_shortRegisters 19 rfl) rfl (lv_at hl 2 rfl) ?_
  refine lv_iconst (v := 5) hx hb (dq da_X12_shortRegisters 20 rfl) rfl ?_
  refine lv_icmp_eq (tgt := 46) hx hb (dq da_X12_shortRegisters 21 rfl) (by decide) (fun c23 => ?_) (fun c23 => ?_)
  · have h := it c23 h
    exact b_X12_shortRegisters_b46 E hr hlk h (lv_sub hl [0, 1, 2, 3, 4] rfl) w
  · have h := ie c23 h
    refine lv_iload_n hx hb (dq da_X12_shortRegisters 22 rfl) rfl (lv_at hl 2 rfl) ?_
    refine lv_bipush (v := 7) hx hb (dq da_X12_shortRegisters 23 rfl) rfl ?_
    refine lv_icmp_ne (tgt := 50) hx hb (dq da_X12_shortRegisters 24 rfl) (by decide) (fun c31 => ?_) (fun c31 => ?_)
    · have h := ie c31 h
      refine lv_iconst (v := 0) hx hb (dq da_X12_shortRegisters 27 rfl) rfl ?_
      exact b_X12_shortRegisters_b51 E hr hlk h (lv_sub hl [0, 1, 2, 3, 4] rfl) w
    · have h := it c31 h
      exact b_X12_shortRegisters_b46 E hr hlk h (lv_sub hl [0, 1, 2, 3, 4] rfl) w
def f_X12_shortRegisters (x1 : Int64) (x3 : Int32) (x4 : Int64) (x6 : Int64) (u : St) : Option (St) := if (f_X12_cut x1 (31 : Int32) (25 : Int32)) = (1 : Int64) then (if x3 = (0 : Int32) then (f_X12_shortRegisters_b35 x1 x3 x4 x6 u) else (if x3 ≤ (3 : Int32) then (f_X12_shortRegisters_b136 x1 x3 x4 x6 (f_X12_cut x1 (31 : Int32) (25 : Int32)) ((x6 &&& (31 : Int64)).toInt32) u) else (f_X12_shortRegisters_b35 x1 x3 x4 x6 u))) else (f_X12_shortRegisters_b136 x1 x3 x4 x6 (f_X12_cut x1 (31 : Int32) (25 : Int32)) ((x6 &&& (31 : Int64)).toInt32) u)
set_option maxRecDepth 100000 in
set_option maxHeartbeats 4000000 in
theorem c_X12_shortRegisters (l : Launch) (D : va_G) (cy : ClassId × ClassId × ClassId) (ad : Nat → Nat) (x1 : Int64) (x3 : Int32) (x4 : Int64) (x6 : Int64) (u : St) {u' : St} (h : f_X12_shortRegisters x1 x3 x4 x6 u = some u') : MX (wM cy ad) D cy l yX12_shortRegisters cX12_shortRegisters 16 (none) 3 77 0 [.ref (ad 0), .long x1, .int x3, .long x4, .long x6] u u' none := by
  refine entX (by decide +kernel) (Nat.le_of_ble_eq_true rfl) ?_
  intro p e s m args below meth c ls rr A E hr hlk hl w
  have hl : lv_has ls 16 [(0, .ref (ad 0)), (1, .long x1), (3, .int x3), (4, .long x4), (6, .long x6)] := hl
  have hx := E.1
  have hb := E.2.1
  have hown := E.2.2.2.1
  have hts := E.2.2.2.2
  refine lv_lload_n hx hb (dq da_X12_shortRegisters 0 rfl) rfl (lv_at hl 1 rfl) ?_
  refine lv_bipush (v := 31) hx hb (dq da_X12_shortRegisters 1 rfl) rfl ?_
  refine lv_bipush (v := 25) hx hb (dq da_X12_shortRegisters 2 rfl) rfl ?_
  refine callP E (c_X12_cut l _ _ _ ) w_1384 w_1385 w_10 w_1386 hd_X12_cut rfl hl.1 rfl (Nat.le_of_ble_eq_true rfl) ⟨Nat.le_of_ble_eq_true rfl, Nat.le_of_ble_eq_true rfl⟩ (by decide) (dq da_X12_shortRegisters 3 rfl) ?_
  refine lv_lstore (lv' := [(8, .long (f_X12_cut x1 (31 : Int32) (25 : Int32))), (0, .ref (ad 0)), (1, .long x1), (3, .int x3), (4, .long x4), (6, .long x6)]) hx hb (dq da_X12_shortRegisters 4 rfl) hl (by decide) rfl (fun ls hl => ?_)
  refine lv_lload hx hb (dq da_X12_shortRegisters 5 rfl) (lv_at hl 5 rfl) ?_
  refine lv_ldc2 hx hb hown (hts _ w_1619) (dq da_X12_shortRegisters 6 rfl) ?_
  refine lv_land hx hb (dq da_X12_shortRegisters 7 rfl) ?_
  refine lv_l2i (v := (x6 &&& (31 : Int64)).toInt32) hx hb (dq da_X12_shortRegisters 8 rfl) rfl ?_
  refine lv_istore (lv' := [(10, .int ((x6 &&& (31 : Int64)).toInt32)), (8, .long (f_X12_cut x1 (31 : Int32) (25 : Int32))), (0, .ref (ad 0)), (1, .long x1), (3, .int x3), (4, .long x4), (6, .long x6)]) hx hb (dq da_X12_shortRegisters 9 rfl) hl (by decide) rfl (fun ls hl => ?_)
  refine lv_lload hx hb (dq da_X12_shortRegisters 10 rfl) (lv_at hl 1 rfl) ?_
  refine lv_lconst (v := 1) hx hb (dq da_X12_shortRegisters 11 rfl) rfl ?_
  refine lc_ne (tgt := 136) hx hb (dq da_X12_shortRegisters 12 rfl) (dq da_X12_shortRegisters 13 rfl) (by decide) (fun c1 => ?_) (fun c1 => ?_)
  · have h := ie c1 h
    exact b_X12_shortRegisters_b136 E hr hlk h (lv_sub hl [2, 3, 4, 5, 6, 1, 0] rfl) w
  · have h := it c1 h
    refine lv_iload_n hx hb (dq da_X12_shortRegisters 14 rfl) rfl (lv_at hl 4 rfl) ?_
    refine lv_if_eq (tgt := 35) hx hb (dq da_X12_shortRegisters 15 rfl) (by decide) (fun c22 => ?_) (fun c22 => ?_)
    · have h := it c22 h
      exact b_X12_shortRegisters_b35 E hr hlk h (lv_sub hl [2, 3, 4, 5, 6] rfl) w
    · have h := ie c22 h
      refine lv_iload_n hx hb (dq da_X12_shortRegisters 16 rfl) rfl (lv_at hl 4 rfl) ?_
      refine lv_iconst (v := 3) hx hb (dq da_X12_shortRegisters 17 rfl) rfl ?_
      refine lv_icmp_le (tgt := 136) hx hb (dq da_X12_shortRegisters 18 rfl) (by decide) (fun c32 => ?_) (fun c32 => ?_)
      · have h := it c32 h
        exact b_X12_shortRegisters_b136 E hr hlk h (lv_sub hl [2, 3, 4, 5, 6, 1, 0] rfl) w
      · have h := ie c32 h
        exact b_X12_shortRegisters_b35 E hr hlk h (lv_sub hl [2, 3, 4, 5, 6] rfl) w
def dl_X12_atomics : List (Nat × Instr × Nat) := [(0, .lload_n 1, 1), (1, .bipush 31, 2), (3, .bipush 27, 2), (5, .invokestatic 196, 3), (8, .l2i, 1), (9, .istore 8, 2), (11, .iload 8, 2), (13, .iconst 4, 1), (14, .if_icmp .lt 10, 3), (17, .iload 8, 2), (19, .iconst 4, 1), (20, .irem, 1), (21, .ifCond .ne 7, 3), (24, .iconst 1, 1), (25, .goto 4, 3), (28, .iconst 0, 1), (29, .istore 9, 2), (31, .iload_n 3, 1), (32, .iconst 2, 1), (33, .if_icmp .eq 8, 3), (36, .iload_n 3, 1), (37, .iconst 3, 1), (38, .if_icmp .ne 27, 3), (41, .iload 9, 2), (43, .ifCond .eq 22, 3), (46, .iload 8, 2), (48, .iconst 2, 1), (49, .if_icmp .ne 21, 3), (52, .lload_n 1, 1), (53, .bipush 24, 2), (55, .bipush 20, 2), (57, .invokestatic 196, 3), (60, .lconst 0, 1), (61, .lcmp, 1), (62, .ifCond .eq 8, 3), (65, .aload_n 0, 1), (66, .invokevirtual 396, 3), (69, .return_, 1), (70, .iload_n 3, 1), (71, .iconst 2, 1), (72, .if_icmp .ne 7, 3), (75, .iconst 4, 1), (76, .goto 5, 3), (79, .bipush 8, 2), (81, .istore 10, 2), (83, .aload_n 0, 1), (84, .lload 4, 2), (86, .iload 10, 2), (88, .iload 8, 2), (90, .iconst 2, 1), (91, .if_icmp .ne 7, 3), (94, .iconst 1, 1), (95, .goto 4, 3), (98, .iconst 2, 1), (99, .iconst 1, 1), (100, .invokevirtual 428, 3), (103, .lstore 11, 2), (105, .aload_n 0, 1), (106, .getfield 56, 3), (109, .ifCond .lt 4, 3), (112, .return_, 1), (113, .iload 8, 2), (115, .iconst 3, 1), (116, .if_icmp .ne 65, 3), (119, .aload_n 0, 1), (120, .getfield 170, 3), (123, .iload 10, 2), (125, .if_icmp .ne 17, 3), (128, .aload_n 0, 1), (129, .getfield 173, 3), (132, .lload 11, 2), (134, .lcmp, 1), (135, .ifCond .ne 7, 3), (138, .iconst 1, 1), (139, .goto 4, 3), (142, .iconst 0, 1), (143, .istore 13, 2), (145, .aload_n 0, 1), (146, .iconst 0, 1), (147, .putfield 170, 3), (150, .iload 13, 2), (152, .ifCond .eq 13, 3), (155, .aload_n 0, 1), (156, .lload 11, 2), (158, .iload 10, 2), (160, .lload 6, 2), (162, .invokevirtual 435, 3), (165, .aload_n 0, 1), (166, .lload_n 1, 1), (167, .iload 13, 2), (169, .ifCond .eq 7, 3), (172, .lconst 0, 1), (173, .goto 4, 3), (176, .lconst 1, 1), (177, .invokevirtual 392, 3), (180, .return_, 1), (181, .aload_n 0, 1), (182, .lload 11, 2), (184, .iload 10, 2), (186, .invokevirtual 129, 3), (189, .bipush 8, 2), (191, .iload 10, 2), (193, .imul, 1), (194, .invokestatic 205, 3), (197, .lstore 13, 2), (199, .iload 8, 2), (201, .iconst 2, 1), (202, .if_icmp .ne 18, 3), (205, .aload_n 0, 1), (206, .lload 11, 2), (208, .putfield 173, 3), (211, .aload_n 0, 1), (212, .iload 10, 2), (214, .putfield 170, 3), (217, .goto 28, 3), (220, .aload_n 0, 1), (221, .lload 11, 2), (223, .iload 10, 2), (225, .iload 8, 2), (227, .lload 13, 2), (229, .lload 6, 2), (231, .bipush 8, 2), (233, .iload 10, 2), (235, .imul, 1), (236, .invokestatic 205, 3), (239, .invokestatic 457, 3), (242, .invokevirtual 435, 3), (245, .aload_n 0, 1), (246, .lload_n 1, 1), (247, .lload 13, 2), (249, .invokevirtual 392, 3), (252, .return_, 1)]
theorem da_X12_atomics : dkL cX12_atomics dl_X12_atomics = true := by decide +kernel
def f_X12_atomics_b65 (u : St) : Option (St) := some (f_X12_illegal u)
set_option maxRecDepth 100000 in
set_option maxHeartbeats 4000000 in
theorem b_X12_atomics_b65 {p : Program} {l : Launch} {e : Env} {s : State} {m : MethodId} {args : Array Value} {below : List Frame} {meth : Method} {c : Code} {D : va_G} {cy : ClassId × ClassId × ClassId} {ad : Nat → Nat} {A : Nat → Prop} (E : CallFix p m c cX12_atomics 15 s args gw RX12) (hr : meth.sig.returnType = none) (hlk : meth.locks = false) {u : St} {u' : St} (h : f_X12_atomics_b65 u = some u') {ls : Array Slot} {H : Heap} {locs : List Loc} {rr : Nat → Nat} (hl : lv_has ls 15 [(0, .ref (ad 0))]) (w : WX (wM cy ad) D cy rr u A s H locs) : Wx (wM cy ad) D p l e 4 98 0 s m args below meth c A u' none H locs 0 65 ls [] := by
  have hx := E.1
  have hb := E.2.1
  have hown := E.2.2.2.1
  have hts := E.2.2.2.2
  refine lv_aload_n hx hb (dq da_X12_atomics 35 rfl) rfl (lv_at hl 0 rfl) ?_
  refine cV0 E (c_X12_illegal l D cy ad _ ) w_1523 w_1525 w_p66 w_10 w_1526 rfl hd_X12_illegal rfl hl.1 rfl (Nat.le_of_ble_eq_true rfl) ⟨Nat.le_of_ble_eq_true rfl, Nat.le_of_ble_eq_true rfl⟩ (by decide) w (rc_wM_0 w) (dq da_X12_atomics 36 rfl) (fun H locs rr w => ?_)
  exact xret_v E hr hlk w (by decide) (os h) (dq da_X12_atomics 37 rfl)
def f_X12_atomics_b245 (x1 : Int64) (x13 : Int64) (u : St) : Option (St) := (f_X12_gives x1 x13 u).bind (fun y16 => some y16)
set_option maxRecDepth 100000 in
set_option maxHeartbeats 4000000 in
theorem b_X12_atomics_b245 {p : Program} {l : Launch} {e : Env} {s : State} {m : MethodId} {args : Array Value} {below : List Frame} {meth : Method} {c : Code} {D : va_G} {cy : ClassId × ClassId × ClassId} {ad : Nat → Nat} {A : Nat → Prop} (E : CallFix p m c cX12_atomics 15 s args gw RX12) (hr : meth.sig.returnType = none) (hlk : meth.locks = false) {x1 : Int64} {x13 : Int64} {u : St} {u' : St} (h : f_X12_atomics_b245 x1 x13 u = some u') {ls : Array Slot} {H : Heap} {locs : List Loc} {rr : Nat → Nat} (hl : lv_has ls 15 [(0, .ref (ad 0)), (1, .long x1), (13, .long x13)]) (w : WX (wM cy ad) D cy rr u A s H locs) : Wx (wM cy ad) D p l e 4 98 0 s m args below meth c A u' none H locs 0 245 ls [] := by
  have hx := E.1
  have hb := E.2.1
  have hown := E.2.2.2.1
  have hts := E.2.2.2.2
  refine lv_aload_n hx hb (dq da_X12_atomics 127 rfl) rfl (lv_at hl 0 rfl) ?_
  refine lv_lload_n hx hb (dq da_X12_atomics 128 rfl) rfl (lv_at hl 1 rfl) ?_
  refine lv_lload hx hb (dq da_X12_atomics 129 rfl) (lv_at hl 2 rfl) ?_
  obtain ⟨y16, hy17, h⟩ := ob h
  refine cV0 E (c_X12_gives l D cy ad _ _ _ hy17) w_1519 w_1521 w_p65 w_10 w_1522 rfl hd_X12_gives rfl hl.1 rfl (Nat.le_of_ble_eq_true rfl) ⟨Nat.le_of_ble_eq_true rfl, Nat.le_of_ble_eq_true rfl⟩ (by decide) w (rc_wM_0 w) (dq da_X12_atomics 130 rfl) (fun H locs rr w => ?_)
  exact xret_v E hr hlk w (by decide) (os h) (dq da_X12_atomics 131 rfl)
def f_X12_atomics_b177 (s0 : Int64) (s1 : Int64) (u : St) : Option (St) := (f_X12_gives s1 s0 u).bind (fun y21 => some y21)
set_option maxRecDepth 100000 in
set_option maxHeartbeats 4000000 in
theorem b_X12_atomics_b177 {p : Program} {l : Launch} {e : Env} {s : State} {m : MethodId} {args : Array Value} {below : List Frame} {meth : Method} {c : Code} {D : va_G} {cy : ClassId × ClassId × ClassId} {ad : Nat → Nat} {A : Nat → Prop} (E : CallFix p m c cX12_atomics 15 s args gw RX12) (hr : meth.sig.returnType = none) (hlk : meth.locks = false) {s0 : Int64} {s1 : Int64} {u : St} {u' : St} (h : f_X12_atomics_b177 s0 s1 u = some u') {ls : Array Slot} {H : Heap} {locs : List Loc} {rr : Nat → Nat} (hl : lv_has ls 15 []) (w : WX (wM cy ad) D cy rr u A s H locs) : Wx (wM cy ad) D p l e 4 98 0 s m args below meth c A u' none H locs 0 177 ls [.long s0, .long s1, .ref (ad 0)] := by
  have hx := E.1
  have hb := E.2.1
  have hown := E.2.2.2.1
  have hts := E.2.2.2.2
  obtain ⟨y21, hy22, h⟩ := ob h
  refine cV0 E (c_X12_gives l D cy ad _ _ _ hy22) w_1519 w_1521 w_p65 w_10 w_1522 rfl hd_X12_gives rfl hl.1 rfl (Nat.le_of_ble_eq_true rfl) ⟨Nat.le_of_ble_eq_true rfl, Nat.le_of_ble_eq_true rfl⟩ (by decide) w (rc_wM_0 w) (dq da_X12_atomics 94 rfl) (fun H locs rr w => ?_)
  exact xret_v E hr hlk w (by decide) (os h) (dq da_X12_atomics 95 rfl)
def f_X12_atomics_b165 (x1 : Int64) (x13 : Int32) (u : St) : Option (St) := if x13 = (0 : Int32) then (f_X12_atomics_b177 (1 : Int64) x1 u) else (f_X12_atomics_b177 (0 : Int64) x1 u)
set_option maxRecDepth 100000 in
set_option maxHeartbeats 4000000 in
theorem b_X12_atomics_b165 {p : Program} {l : Launch} {e : Env} {s : State} {m : MethodId} {args : Array Value} {below : List Frame} {meth : Method} {c : Code} {D : va_G} {cy : ClassId × ClassId × ClassId} {ad : Nat → Nat} {A : Nat → Prop} (E : CallFix p m c cX12_atomics 15 s args gw RX12) (hr : meth.sig.returnType = none) (hlk : meth.locks = false) {x1 : Int64} {x13 : Int32} {u : St} {u' : St} (h : f_X12_atomics_b165 x1 x13 u = some u') {ls : Array Slot} {H : Heap} {locs : List Loc} {rr : Nat → Nat} (hl : lv_has ls 15 [(0, .ref (ad 0)), (1, .long x1), (13, .int x13)]) (w : WX (wM cy ad) D cy rr u A s H locs) : Wx (wM cy ad) D p l e 4 98 0 s m args below meth c A u' none H locs 0 165 ls [] := by
  have hx := E.1
  have hb := E.2.1
  have hown := E.2.2.2.1
  have hts := E.2.2.2.2
  refine lv_aload_n hx hb (dq da_X12_atomics 87 rfl) rfl (lv_at hl 0 rfl) ?_
  refine lv_lload_n hx hb (dq da_X12_atomics 88 rfl) rfl (lv_at hl 1 rfl) ?_
  refine lv_iload hx hb (dq da_X12_atomics 89 rfl) (lv_at hl 2 rfl) ?_
  refine lv_if_eq (tgt := 176) hx hb (dq da_X12_atomics 90 rfl) (by decide) (fun c20 => ?_) (fun c20 => ?_)
  · have h := it c20 h
    refine lv_lconst (v := 1) hx hb (dq da_X12_atomics 93 rfl) rfl ?_
    exact b_X12_atomics_b177 E hr hlk h (lv_sub hl [] rfl) w
  · have h := ie c20 h
    refine lv_lconst (v := 0) hx hb (dq da_X12_atomics 91 rfl) rfl ?_
    refine lv_goto (tgt := 177) hx hb (dq da_X12_atomics 92 rfl) (by decide) ?_
    exact b_X12_atomics_b177 E hr hlk h (lv_sub hl [] rfl) w
def f_X12_atomics_b143 (x1 : Int64) (x6 : Int64) (x10 : Int32) (x11 : Int64) (s0 : Int32) (u : St) : Option (St) := if s0 = (0 : Int32) then (f_X12_atomics_b165 x1 s0 (sI u 3 (0 : Int32))) else ((f_X12_writeAt x11 x10 x6 (sI u 3 (0 : Int32))).bind (fun y23 => f_X12_atomics_b165 x1 s0 y23))
set_option maxRecDepth 100000 in
set_option maxHeartbeats 4000000 in
theorem b_X12_atomics_b143 {p : Program} {l : Launch} {e : Env} {s : State} {m : MethodId} {args : Array Value} {below : List Frame} {meth : Method} {c : Code} {D : va_G} {cy : ClassId × ClassId × ClassId} {ad : Nat → Nat} {A : Nat → Prop} (E : CallFix p m c cX12_atomics 15 s args gw RX12) (hr : meth.sig.returnType = none) (hlk : meth.locks = false) {x1 : Int64} {x6 : Int64} {x10 : Int32} {x11 : Int64} {s0 : Int32} {u : St} {u' : St} (h : f_X12_atomics_b143 x1 x6 x10 x11 s0 u = some u') {ls : Array Slot} {H : Heap} {locs : List Loc} {rr : Nat → Nat} (hl : lv_has ls 15 [(0, .ref (ad 0)), (1, .long x1), (6, .long x6), (10, .int x10), (11, .long x11)]) (w : WX (wM cy ad) D cy rr u A s H locs) : Wx (wM cy ad) D p l e 4 98 0 s m args below meth c A u' none H locs 0 143 ls [.int s0] := by
  have hx := E.1
  have hb := E.2.1
  have hown := E.2.2.2.1
  have hts := E.2.2.2.2
  refine lv_istore (lv' := [(13, .int s0), (0, .ref (ad 0)), (1, .long x1), (6, .long x6), (10, .int x10), (11, .long x11)]) hx hb (dq da_X12_atomics 76 rfl) hl (by decide) rfl (fun ls hl => ?_)
  refine lv_aload_n hx hb (dq da_X12_atomics 77 rfl) rfl (lv_at hl 1 rfl) ?_
  refine lv_iconst (v := 0) hx hb (dq da_X12_atomics 78 rfl) rfl ?_
  refine pt_wM_0_heldSize E w w_1095 (dq da_X12_atomics 79 rfl) (fun H locs w => ?_)
  refine lv_iload hx hb (dq da_X12_atomics 80 rfl) (lv_at hl 0 rfl) ?_
  refine lv_if_eq (tgt := 165) hx hb (dq da_X12_atomics 81 rfl) (by decide) (fun c19 => ?_) (fun c19 => ?_)
  · have h := it c19 h
    exact b_X12_atomics_b165 E hr hlk h (lv_sub hl [1, 2, 0] rfl) w
  · have h := ie c19 h
    refine lv_aload_n hx hb (dq da_X12_atomics 82 rfl) rfl (lv_at hl 1 rfl) ?_
    refine lv_lload hx hb (dq da_X12_atomics 83 rfl) (lv_at hl 5 rfl) ?_
    refine lv_iload hx hb (dq da_X12_atomics 84 rfl) (lv_at hl 4 rfl) ?_
    refine lv_lload hx hb (dq da_X12_atomics 85 rfl) (lv_at hl 3 rfl) ?_
    obtain ⟨y23, hy24, h⟩ := ob h
    refine cV0 E (c_X12_writeAt l D cy ad _ _ _ _ hy24) w_1581 w_1583 w_p75 w_10 w_1584 rfl hd_X12_writeAt rfl hl.1 rfl (Nat.le_of_ble_eq_true rfl) ⟨Nat.le_of_ble_eq_true rfl, Nat.le_of_ble_eq_true rfl⟩ (by decide) w (rc_wM_0 w) (dq da_X12_atomics 86 rfl) (fun H locs rr w => ?_)
    exact b_X12_atomics_b165 E hr hlk h (lv_sub hl [1, 2, 0] rfl) w
def f_X12_atomics_b142 (x1 : Int64) (x6 : Int64) (x10 : Int32) (x11 : Int64) (u : St) : Option (St) := f_X12_atomics_b143 x1 x6 x10 x11 (0 : Int32) u
set_option maxRecDepth 100000 in
set_option maxHeartbeats 4000000 in
theorem b_X12_atomics_b142 {p : Program} {l : Launch} {e : Env} {s : State} {m : MethodId} {args : Array Value} {below : List Frame} {meth : Method} {c : Code} {D : va_G} {cy : ClassId × ClassId × ClassId} {ad : Nat → Nat} {A : Nat → Prop} (E : CallFix p m c cX12_atomics 15 s args gw RX12) (hr : meth.sig.returnType = none) (hlk : meth.locks = false) {x1 : Int64} {x6 : Int64} {x10 : Int32} {x11 : Int64} {u : St} {u' : St} (h : f_X12_atomics_b142 x1 x6 x10 x11 u = some u') {ls : Array Slot} {H : Heap} {locs : List Loc} {rr : Nat → Nat} (hl : lv_has ls 15 [(0, .ref (ad 0)), (1, .long x1), (6, .long x6), (10, .int x10), (11, .long x11)]) (w : WX (wM cy ad) D cy rr u A s H locs) : Wx (wM cy ad) D p l e 4 98 0 s m args below meth c A u' none H locs 0 142 ls [] := by
  have hx := E.1
  have hb := E.2.1
  have hown := E.2.2.2.1
  have hts := E.2.2.2.2
  refine lv_iconst (v := 0) hx hb (dq da_X12_atomics 75 rfl) rfl ?_
  exact b_X12_atomics_b143 E hr hlk h (lv_sub hl [0, 1, 2, 3, 4] rfl) w
def f_X12_atomics_b99 (x1 : Int64) (x6 : Int64) (x8 : Int32) (x10 : Int32) (s0 : Int32) (s1 : Int32) (s2 : Int64) (u : St) : Option (St) := (f_X12_reach s2 s1 s0 (1 : Int32) u).bind (fun y7 => if (gI y7.2 16) < (0 : Int32) then (if x8 = (3 : Int32) then (if (gI y7.2 3) = x10 then (if (gL y7.2 1) = y7.1 then (f_X12_atomics_b143 x1 x6 x10 y7.1 (1 : Int32) y7.2) else (f_X12_atomics_b142 x1 x6 x10 y7.1 y7.2)) else (f_X12_atomics_b142 x1 x6 x10 y7.1 y7.2)) else ((f_X12_ramAt y7.1 x10 y7.2).bind (fun y11 => if x8 = (2 : Int32) then (f_X12_atomics_b245 x1 (f_X12_signed y11 ((8 : Int32) * x10)) (sI (sL y7.2 1 y7.1) 3 x10)) else ((f_X12_writeAt y7.1 x10 (f_X12_joined x8 (f_X12_signed y11 ((8 : Int32) * x10)) (f_X12_signed x6 ((8 : Int32) * x10))) y7.2).bind (fun y14 => f_X12_atomics_b245 x1 (f_X12_signed y11 ((8 : Int32) * x10)) y14))))) else (some y7.2))
set_option maxRecDepth 100000 in
set_option maxHeartbeats 4000000 in
theorem b_X12_atomics_b99 {p : Program} {l : Launch} {e : Env} {s : State} {m : MethodId} {args : Array Value} {below : List Frame} {meth : Method} {c : Code} {D : va_G} {cy : ClassId × ClassId × ClassId} {ad : Nat → Nat} {A : Nat → Prop} (E : CallFix p m c cX12_atomics 15 s args gw RX12) (hr : meth.sig.returnType = none) (hlk : meth.locks = false) {x1 : Int64} {x6 : Int64} {x8 : Int32} {x10 : Int32} {s0 : Int32} {s1 : Int32} {s2 : Int64} {u : St} {u' : St} (h : f_X12_atomics_b99 x1 x6 x8 x10 s0 s1 s2 u = some u') {ls : Array Slot} {H : Heap} {locs : List Loc} {rr : Nat → Nat} (hl : lv_has ls 15 [(0, .ref (ad 0)), (1, .long x1), (6, .long x6), (8, .int x8), (10, .int x10)]) (w : WX (wM cy ad) D cy rr u A s H locs) : Wx (wM cy ad) D p l e 4 98 0 s m args below meth c A u' none H locs 0 99 ls [.int s0, .int s1, .long s2, .ref (ad 0)] := by
  have hx := E.1
  have hb := E.2.1
  have hown := E.2.2.2.1
  have hts := E.2.2.2.2
  refine lv_iconst (v := 1) hx hb (dq da_X12_atomics 54 rfl) rfl ?_
  obtain ⟨y7, hy8, h⟩ := ob h
  refine cV1 E (c_X12_reach l D cy ad _ _ _ _ _ hy8) w_1535 w_1537 w_p69 w_10 w_1538 rfl hd_X12_reach rfl hl.1 rfl (Nat.le_of_ble_eq_true rfl) ⟨Nat.le_of_ble_eq_true rfl, Nat.le_of_ble_eq_true rfl⟩ (by decide) w (rc_wM_0 w) (dq da_X12_atomics 55 rfl) (fun H locs rr w => ?_)
  refine lv_lstore (lv' := [(11, .long y7.1), (0, .ref (ad 0)), (1, .long x1), (6, .long x6), (8, .int x8), (10, .int x10)]) hx hb (dq da_X12_atomics 56 rfl) hl (by decide) rfl (fun ls hl => ?_)
  refine lv_aload_n hx hb (dq da_X12_atomics 57 rfl) rfl (lv_at hl 1 rfl) ?_
  refine gt_wM_0_fault E w w_1136 (dq da_X12_atomics 58 rfl) ?_
  refine lv_if_lt (tgt := 113) hx hb (dq da_X12_atomics 59 rfl) (by decide) (fun c9 => ?_) (fun c9 => ?_)
  · have h := it c9 h
    refine lv_iload hx hb (dq da_X12_atomics 61 rfl) (lv_at hl 4 rfl) ?_
    refine lv_iconst (v := 3) hx hb (dq da_X12_atomics 62 rfl) rfl ?_
    refine lv_icmp_ne (tgt := 181) hx hb (dq da_X12_atomics 63 rfl) (by decide) (fun c10 => ?_) (fun c10 => ?_)
    · have h := ie c10 h
      refine lv_aload_n hx hb (dq da_X12_atomics 96 rfl) rfl (lv_at hl 1 rfl) ?_
      refine lv_lload hx hb (dq da_X12_atomics 97 rfl) (lv_at hl 0 rfl) ?_
      refine lv_iload hx hb (dq da_X12_atomics 98 rfl) (lv_at hl 5 rfl) ?_
      obtain ⟨y11, hy12, h⟩ := ob h
      refine cV1 E (c_X12_ramAt l D cy ad _ _ _ hy12) w_1322 w_1324 w_p48 w_10 w_1325 rfl hd_X12_ramAt rfl hl.1 rfl (Nat.le_of_ble_eq_true rfl) ⟨Nat.le_of_ble_eq_true rfl, Nat.le_of_ble_eq_true rfl⟩ (by decide) w (rc_wM_0 w) (dq da_X12_atomics 99 rfl) (fun H locs rr w => ?_)
      refine lv_bipush (v := 8) hx hb (dq da_X12_atomics 100 rfl) rfl ?_
      refine lv_iload hx hb (dq da_X12_atomics 101 rfl) (lv_at hl 5 rfl) ?_
      refine lv_imul hx hb (dq da_X12_atomics 102 rfl) ?_
      refine callP E (c_X12_signed l _ _ ) w_1440 w_1441 w_10 w_1442 hd_X12_signed rfl hl.1 rfl (Nat.le_of_ble_eq_true rfl) ⟨Nat.le_of_ble_eq_true rfl, Nat.le_of_ble_eq_true rfl⟩ (by decide) (dq da_X12_atomics 103 rfl) ?_
      refine lv_lstore (lv' := [(13, .long (f_X12_signed y11 ((8 : Int32) * x10))), (11, .long y7.1), (0, .ref (ad 0)), (1, .long x1), (6, .long x6), (8, .int x8), (10, .int x10)]) hx hb (dq da_X12_atomics 104 rfl) hl (by decide) rfl (fun ls hl => ?_)
      refine lv_iload hx hb (dq da_X12_atomics 105 rfl) (lv_at hl 5 rfl) ?_
      refine lv_iconst (v := 2) hx hb (dq da_X12_atomics 106 rfl) rfl ?_
      refine lv_icmp_ne (tgt := 220) hx hb (dq da_X12_atomics 107 rfl) (by decide) (fun c13 => ?_) (fun c13 => ?_)
      · have h := ie c13 h
        refine lv_aload_n hx hb (dq da_X12_atomics 115 rfl) rfl (lv_at hl 2 rfl) ?_
        refine lv_lload hx hb (dq da_X12_atomics 116 rfl) (lv_at hl 1 rfl) ?_
        refine lv_iload hx hb (dq da_X12_atomics 117 rfl) (lv_at hl 6 rfl) ?_
        refine lv_iload hx hb (dq da_X12_atomics 118 rfl) (lv_at hl 5 rfl) ?_
        refine lv_lload hx hb (dq da_X12_atomics 119 rfl) (lv_at hl 0 rfl) ?_
        refine lv_lload hx hb (dq da_X12_atomics 120 rfl) (lv_at hl 4 rfl) ?_
        refine lv_bipush (v := 8) hx hb (dq da_X12_atomics 121 rfl) rfl ?_
        refine lv_iload hx hb (dq da_X12_atomics 122 rfl) (lv_at hl 6 rfl) ?_
        refine lv_imul hx hb (dq da_X12_atomics 123 rfl) ?_
        refine callP E (c_X12_signed l _ _ ) w_1440 w_1441 w_10 w_1442 hd_X12_signed rfl hl.1 rfl (Nat.le_of_ble_eq_true rfl) ⟨Nat.le_of_ble_eq_true rfl, Nat.le_of_ble_eq_true rfl⟩ (by decide) (dq da_X12_atomics 124 rfl) ?_
        refine callP E (c_X12_joined l _ _ _ ) w_1624 w_1625 w_10 w_1626 hd_X12_joined rfl hl.1 rfl (Nat.le_of_ble_eq_true rfl) ⟨Nat.le_of_ble_eq_true rfl, Nat.le_of_ble_eq_true rfl⟩ (by decide) (dq da_X12_atomics 125 rfl) ?_
        obtain ⟨y14, hy15, h⟩ := ob h
        refine cV0 E (c_X12_writeAt l D cy ad _ _ _ _ hy15) w_1581 w_1583 w_p75 w_10 w_1584 rfl hd_X12_writeAt rfl hl.1 rfl (Nat.le_of_ble_eq_true rfl) ⟨Nat.le_of_ble_eq_true rfl, Nat.le_of_ble_eq_true rfl⟩ (by decide) w (rc_wM_0 w) (dq da_X12_atomics 126 rfl) (fun H locs rr w => ?_)
        exact b_X12_atomics_b245 E hr hlk h (lv_sub hl [2, 3, 0] rfl) w
      · have h := it c13 h
        refine lv_aload_n hx hb (dq da_X12_atomics 108 rfl) rfl (lv_at hl 2 rfl) ?_
        refine lv_lload hx hb (dq da_X12_atomics 109 rfl) (lv_at hl 1 rfl) ?_
        refine pt_wM_0_held E w w_1094 (dq da_X12_atomics 110 rfl) (fun H locs w => ?_)
        refine lv_aload_n hx hb (dq da_X12_atomics 111 rfl) rfl (lv_at hl 2 rfl) ?_
        refine lv_iload hx hb (dq da_X12_atomics 112 rfl) (lv_at hl 6 rfl) ?_
        refine pt_wM_0_heldSize E w w_1095 (dq da_X12_atomics 113 rfl) (fun H locs w => ?_)
        refine lv_goto (tgt := 245) hx hb (dq da_X12_atomics 114 rfl) (by decide) ?_
        exact b_X12_atomics_b245 E hr hlk h (lv_sub hl [2, 3, 0] rfl) w
    · have h := it c10 h
      refine lv_aload_n hx hb (dq da_X12_atomics 64 rfl) rfl (lv_at hl 1 rfl) ?_
      refine gt_wM_0_heldSize E w w_1095 (dq da_X12_atomics 65 rfl) ?_
      refine lv_iload hx hb (dq da_X12_atomics 66 rfl) (lv_at hl 5 rfl) ?_
      refine lv_icmp_ne (tgt := 142) hx hb (dq da_X12_atomics 67 rfl) (by decide) (fun c18 => ?_) (fun c18 => ?_)
      · have h := ie c18 h
        exact b_X12_atomics_b142 E hr hlk h (lv_sub hl [1, 2, 3, 5, 0] rfl) w
      · have h := it c18 h
        refine lv_aload_n hx hb (dq da_X12_atomics 68 rfl) rfl (lv_at hl 1 rfl) ?_
        refine gt_wM_0_held E w w_1094 (dq da_X12_atomics 69 rfl) ?_
        refine lv_lload hx hb (dq da_X12_atomics 70 rfl) (lv_at hl 0 rfl) ?_
        refine lc_ne (tgt := 142) hx hb (dq da_X12_atomics 71 rfl) (dq da_X12_atomics 72 rfl) (by decide) (fun c25 => ?_) (fun c25 => ?_)
        · have h := ie c25 h
          exact b_X12_atomics_b142 E hr hlk h (lv_sub hl [1, 2, 3, 5, 0] rfl) w
        · have h := it c25 h
          refine lv_iconst (v := 1) hx hb (dq da_X12_atomics 73 rfl) rfl ?_
          refine lv_goto (tgt := 143) hx hb (dq da_X12_atomics 74 rfl) (by decide) ?_
          exact b_X12_atomics_b143 E hr hlk h (lv_sub hl [1, 2, 3, 5, 0] rfl) w
  · have h := ie c9 h
    exact xret_v E hr hlk w (by decide) (os h) (dq da_X12_atomics 60 rfl)
def f_X12_atomics_b81 (x1 : Int64) (x4 : Int64) (x6 : Int64) (x8 : Int32) (s0 : Int32) (u : St) : Option (St) := if x8 = (2 : Int32) then (f_X12_atomics_b99 x1 x6 x8 s0 (1 : Int32) s0 x4 u) else (f_X12_atomics_b99 x1 x6 x8 s0 (2 : Int32) s0 x4 u)
set_option maxRecDepth 100000 in
set_option maxHeartbeats 4000000 in
theorem b_X12_atomics_b81 {p : Program} {l : Launch} {e : Env} {s : State} {m : MethodId} {args : Array Value} {below : List Frame} {meth : Method} {c : Code} {D : va_G} {cy : ClassId × ClassId × ClassId} {ad : Nat → Nat} {A : Nat → Prop} (E : CallFix p m c cX12_atomics 15 s args gw RX12) (hr : meth.sig.returnType = none) (hlk : meth.locks = false) {x1 : Int64} {x4 : Int64} {x6 : Int64} {x8 : Int32} {s0 : Int32} {u : St} {u' : St} (h : f_X12_atomics_b81 x1 x4 x6 x8 s0 u = some u') {ls : Array Slot} {H : Heap} {locs : List Loc} {rr : Nat → Nat} (hl : lv_has ls 15 [(0, .ref (ad 0)), (1, .long x1), (4, .long x4), (6, .long x6), (8, .int x8)]) (w : WX (wM cy ad) D cy rr u A s H locs) : Wx (wM cy ad) D p l e 4 98 0 s m args below meth c A u' none H locs 0 81 ls [.int s0] := by
  have hx := E.1
  have hb := E.2.1
  have hown := E.2.2.2.1
  have hts := E.2.2.2.2
  refine lv_istore (lv' := [(10, .int s0), (0, .ref (ad 0)), (1, .long x1), (4, .long x4), (6, .long x6), (8, .int x8)]) hx hb (dq da_X12_atomics 44 rfl) hl (by decide) rfl (fun ls hl => ?_)
  refine lv_aload_n hx hb (dq da_X12_atomics 45 rfl) rfl (lv_at hl 1 rfl) ?_
  refine lv_lload hx hb (dq da_X12_atomics 46 rfl) (lv_at hl 3 rfl) ?_
  refine lv_iload hx hb (dq da_X12_atomics 47 rfl) (lv_at hl 0 rfl) ?_
  refine lv_iload hx hb (dq da_X12_atomics 48 rfl) (lv_at hl 5 rfl) ?_
  refine lv_iconst (v := 2) hx hb (dq da_X12_atomics 49 rfl) rfl ?_
  refine lv_icmp_ne (tgt := 98) hx hb (dq da_X12_atomics 50 rfl) (by decide) (fun c6 => ?_) (fun c6 => ?_)
  · have h := ie c6 h
    refine lv_iconst (v := 2) hx hb (dq da_X12_atomics 53 rfl) rfl ?_
    exact b_X12_atomics_b99 E hr hlk h (lv_sub hl [1, 2, 4, 5, 0] rfl) w
  · have h := it c6 h
    refine lv_iconst (v := 1) hx hb (dq da_X12_atomics 51 rfl) rfl ?_
    refine lv_goto (tgt := 99) hx hb (dq da_X12_atomics 52 rfl) (by decide) ?_
    exact b_X12_atomics_b99 E hr hlk h (lv_sub hl [1, 2, 4, 5, 0] rfl) w
def f_X12_atomics_b70 (x1 : Int64) (x3 : Int32) (x4 : Int64) (x6 : Int64) (x8 : Int32) (u : St) : Option (St) := if x3 = (2 : Int32) then (f_X12_atomics_b81 x1 x4 x6 x8 (4 : Int32) u) else (f_X12_atomics_b81 x1 x4 x6 x8 (8 : Int32) u)
set_option maxRecDepth 100000 in
set_option maxHeartbeats 4000000 in
theorem b_X12_atomics_b70 {p : Program} {l : Launch} {e : Env} {s : State} {m : MethodId} {args : Array Value} {below : List Frame} {meth : Method} {c : Code} {D : va_G} {cy : ClassId × ClassId × ClassId} {ad : Nat → Nat} {A : Nat → Prop} (E : CallFix p m c cX12_atomics 15 s args gw RX12) (hr : meth.sig.returnType = none) (hlk : meth.locks = false) {x1 : Int64} {x3 : Int32} {x4 : Int64} {x6 : Int64} {x8 : Int32} {u : St} {u' : St} (h : f_X12_atomics_b70 x1 x3 x4 x6 x8 u = some u') {ls : Array Slot} {H : Heap} {locs : List Loc} {rr : Nat → Nat} (hl : lv_has ls 15 [(0, .ref (ad 0)), (1, .long x1), (3, .int x3), (4, .long x4), (6, .long x6), (8, .int x8)]) (w : WX (wM cy ad) D cy rr u A s H locs) : Wx (wM cy ad) D p l e 4 98 0 s m args below meth c A u' none H locs 0 70 ls [] := by
  have hx := E.1
  have hb := E.2.1
  have hown := E.2.2.2.1
  have hts := E.2.2.2.2
  refine lv_iload_n hx hb (dq da_X12_atomics 38 rfl) rfl (lv_at hl 2 rfl) ?_
  refine lv_iconst (v := 2) hx hb (dq da_X12_atomics 39 rfl) rfl ?_
  refine lv_icmp_ne (tgt := 79) hx hb (dq da_X12_atomics 40 rfl) (by decide) (fun c5 => ?_) (fun c5 => ?_)
  · have h := ie c5 h
    refine lv_bipush (v := 8) hx hb (dq da_X12_atomics 43 rfl) rfl ?_
    exact b_X12_atomics_b81 E hr hlk h (lv_sub hl [0, 1, 3, 4, 5] rfl) w
  · have h := it c5 h
    refine lv_iconst (v := 4) hx hb (dq da_X12_atomics 41 rfl) rfl ?_
    refine lv_goto (tgt := 81) hx hb (dq da_X12_atomics 42 rfl) (by decide) ?_
    exact b_X12_atomics_b81 E hr hlk h (lv_sub hl [0, 1, 3, 4, 5] rfl) w
def f_X12_atomics_b41 (x1 : Int64) (x3 : Int32) (x4 : Int64) (x6 : Int64) (x8 : Int32) (x9 : Int32) (u : St) : Option (St) := if x9 = (0 : Int32) then (f_X12_atomics_b65 u) else (if x8 = (2 : Int32) then (if (f_X12_cut x1 (24 : Int32) (20 : Int32)) = (0 : Int64) then (f_X12_atomics_b70 x1 x3 x4 x6 x8 u) else (f_X12_atomics_b65 u)) else (f_X12_atomics_b70 x1 x3 x4 x6 x8 u))
set_option maxRecDepth 100000 in
set_option maxHeartbeats 4000000 in
theorem b_X12_atomics_b41 {p : Program} {l : Launch} {e : Env} {s : State} {m : MethodId} {args : Array Value} {below : List Frame} {meth : Method} {c : Code} {D : va_G} {cy : ClassId × ClassId × ClassId} {ad : Nat → Nat} {A : Nat → Prop} (E : CallFix p m c cX12_atomics 15 s args gw RX12) (hr : meth.sig.returnType = none) (hlk : meth.locks = false) {x1 : Int64} {x3 : Int32} {x4 : Int64} {x6 : Int64} {x8 : Int32} {x9 : Int32} {u : St} {u' : St} (h : f_X12_atomics_b41 x1 x3 x4 x6 x8 x9 u = some u') {ls : Array Slot} {H : Heap} {locs : List Loc} {rr : Nat → Nat} (hl : lv_has ls 15 [(0, .ref (ad 0)), (1, .long x1), (3, .int x3), (4, .long x4), (6, .long x6), (8, .int x8), (9, .int x9)]) (w : WX (wM cy ad) D cy rr u A s H locs) : Wx (wM cy ad) D p l e 4 98 0 s m args below meth c A u' none H locs 0 41 ls [] := by
  have hx := E.1
  have hb := E.2.1
  have hown := E.2.2.2.1
  have hts := E.2.2.2.2
  refine lv_iload hx hb (dq da_X12_atomics 23 rfl) (lv_at hl 6 rfl) ?_
  refine lv_if_eq (tgt := 65) hx hb (dq da_X12_atomics 24 rfl) (by decide) (fun c3 => ?_) (fun c3 => ?_)
  · have h := it c3 h
    exact b_X12_atomics_b65 E hr hlk h (lv_sub hl [0] rfl) w
  · have h := ie c3 h
    refine lv_iload hx hb (dq da_X12_atomics 25 rfl) (lv_at hl 5 rfl) ?_
    refine lv_iconst (v := 2) hx hb (dq da_X12_atomics 26 rfl) rfl ?_
    refine lv_icmp_ne (tgt := 70) hx hb (dq da_X12_atomics 27 rfl) (by decide) (fun c4 => ?_) (fun c4 => ?_)
    · have h := ie c4 h
      exact b_X12_atomics_b70 E hr hlk h (lv_sub hl [0, 1, 2, 3, 4, 5] rfl) w
    · have h := it c4 h
      refine lv_lload_n hx hb (dq da_X12_atomics 28 rfl) rfl (lv_at hl 1 rfl) ?_
      refine lv_bipush (v := 24) hx hb (dq da_X12_atomics 29 rfl) rfl ?_
      refine lv_bipush (v := 20) hx hb (dq da_X12_atomics 30 rfl) rfl ?_
      refine callP E (c_X12_cut l _ _ _ ) w_1384 w_1385 w_10 w_1386 hd_X12_cut rfl hl.1 rfl (Nat.le_of_ble_eq_true rfl) ⟨Nat.le_of_ble_eq_true rfl, Nat.le_of_ble_eq_true rfl⟩ (by decide) (dq da_X12_atomics 31 rfl) ?_
      refine lv_lconst (v := 0) hx hb (dq da_X12_atomics 32 rfl) rfl ?_
      refine lc_eq (tgt := 70) hx hb (dq da_X12_atomics 33 rfl) (dq da_X12_atomics 34 rfl) (by decide) (fun c26 => ?_) (fun c26 => ?_)
      · have h := it c26 h
        exact b_X12_atomics_b70 E hr hlk h (lv_sub hl [0, 1, 2, 3, 4, 5] rfl) w
      · have h := ie c26 h
        exact b_X12_atomics_b65 E hr hlk h (lv_sub hl [0] rfl) w
def f_X12_atomics_b29 (x1 : Int64) (x3 : Int32) (x4 : Int64) (x6 : Int64) (x8 : Int32) (s0 : Int32) (u : St) : Option (St) := if x3 = (2 : Int32) then (f_X12_atomics_b41 x1 x3 x4 x6 x8 s0 u) else (if x3 = (3 : Int32) then (f_X12_atomics_b41 x1 x3 x4 x6 x8 s0 u) else (f_X12_atomics_b65 u))
set_option maxRecDepth 100000 in
set_option maxHeartbeats 4000000 in
theorem b_X12_atomics_b29 {p : Program} {l : Launch} {e : Env} {s : State} {m : MethodId} {args : Array Value} {below : List Frame} {meth : Method} {c : Code} {D : va_G} {cy : ClassId × ClassId × ClassId} {ad : Nat → Nat} {A : Nat → Prop} (E : CallFix p m c cX12_atomics 15 s args gw RX12) (hr : meth.sig.returnType = none) (hlk : meth.locks = false) {x1 : Int64} {x3 : Int32} {x4 : Int64} {x6 : Int64} {x8 : Int32} {s0 : Int32} {u : St} {u' : St} (h : f_X12_atomics_b29 x1 x3 x4 x6 x8 s0 u = some u') {ls : Array Slot} {H : Heap} {locs : List Loc} {rr : Nat → Nat} (hl : lv_has ls 15 [(0, .ref (ad 0)), (1, .long x1), (3, .int x3), (4, .long x4), (6, .long x6), (8, .int x8)]) (w : WX (wM cy ad) D cy rr u A s H locs) : Wx (wM cy ad) D p l e 4 98 0 s m args below meth c A u' none H locs 0 29 ls [.int s0] := by
  have hx := E.1
  have hb := E.2.1
  have hown := E.2.2.2.1
  have hts := E.2.2.2.2
  refine lv_istore (lv' := [(9, .int s0), (0, .ref (ad 0)), (1, .long x1), (3, .int x3), (4, .long x4), (6, .long x6), (8, .int x8)]) hx hb (dq da_X12_atomics 16 rfl) hl (by decide) rfl (fun ls hl => ?_)
  refine lv_iload_n hx hb (dq da_X12_atomics 17 rfl) rfl (lv_at hl 3 rfl) ?_
  refine lv_iconst (v := 2) hx hb (dq da_X12_atomics 18 rfl) rfl ?_
  refine lv_icmp_eq (tgt := 41) hx hb (dq da_X12_atomics 19 rfl) (by decide) (fun c2 => ?_) (fun c2 => ?_)
  · have h := it c2 h
    exact b_X12_atomics_b41 E hr hlk h (lv_sub hl [1, 2, 3, 4, 5, 6, 0] rfl) w
  · have h := ie c2 h
    refine lv_iload_n hx hb (dq da_X12_atomics 20 rfl) rfl (lv_at hl 3 rfl) ?_
    refine lv_iconst (v := 3) hx hb (dq da_X12_atomics 21 rfl) rfl ?_
    refine lv_icmp_ne (tgt := 65) hx hb (dq da_X12_atomics 22 rfl) (by decide) (fun c27 => ?_) (fun c27 => ?_)
    · have h := ie c27 h
      exact b_X12_atomics_b65 E hr hlk h (lv_sub hl [1] rfl) w
    · have h := it c27 h
      exact b_X12_atomics_b41 E hr hlk h (lv_sub hl [1, 2, 3, 4, 5, 6, 0] rfl) w
def f_X12_atomics_b24 (x1 : Int64) (x3 : Int32) (x4 : Int64) (x6 : Int64) (x8 : Int32) (u : St) : Option (St) := f_X12_atomics_b29 x1 x3 x4 x6 x8 (1 : Int32) u
set_option maxRecDepth 100000 in
set_option maxHeartbeats 4000000 in
theorem b_X12_atomics_b24 {p : Program} {l : Launch} {e : Env} {s : State} {m : MethodId} {args : Array Value} {below : List Frame} {meth : Method} {c : Code} {D : va_G} {cy : ClassId × ClassId × ClassId} {ad : Nat → Nat} {A : Nat → Prop} (E : CallFix p m c cX12_atomics 15 s args gw RX12) (hr : meth.sig.returnType = none) (hlk : meth.locks = false) {x1 : Int64} {x3 : Int32} {x4 : Int64} {x6 : Int64} {x8 : Int32} {u : St} {u' : St} (h : f_X12_atomics_b24 x1 x3 x4 x6 x8 u = some u') {ls : Array Slot} {H : Heap} {locs : List Loc} {rr : Nat → Nat} (hl : lv_has ls 15 [(0, .ref (ad 0)), (1, .long x1), (3, .int x3), (4, .long x4), (6, .long x6), (8, .int x8)]) (w : WX (wM cy ad) D cy rr u A s H locs) : Wx (wM cy ad) D p l e 4 98 0 s m args below meth c A u' none H locs 0 24 ls [] := by
  have hx := E.1
  have hb := E.2.1
  have hown := E.2.2.2.1
  have hts := E.2.2.2.2
  refine lv_iconst (v := 1) hx hb (dq da_X12_atomics 13 rfl) rfl ?_
  refine lv_goto (tgt := 29) hx hb (dq da_X12_atomics 14 rfl) (by decide) ?_
  exact b_X12_atomics_b29 E hr hlk h (lv_sub hl [0, 1, 2, 3, 4, 5] rfl) w
def f_X12_atomics (x1 : Int64) (x3 : Int32) (x4 : Int64) (x6 : Int64) (u : St) : Option (St) := if (f_X12_cut x1 (31 : Int32) (27 : Int32)).toInt32 < (4 : Int32) then (f_X12_atomics_b24 x1 x3 x4 x6 ((f_X12_cut x1 (31 : Int32) (27 : Int32)).toInt32) u) else (if ((f_X12_cut x1 (31 : Int32) (27 : Int32)).toInt32 - (f_X12_cut x1 (31 : Int32) (27 : Int32)).toInt32 / (4 : Int32) * (4 : Int32)) = (0 : Int32) then (f_X12_atomics_b24 x1 x3 x4 x6 ((f_X12_cut x1 (31 : Int32) (27 : Int32)).toInt32) u) else (f_X12_atomics_b29 x1 x3 x4 x6 ((f_X12_cut x1 (31 : Int32) (27 : Int32)).toInt32) (0 : Int32) u))
set_option maxRecDepth 100000 in
set_option maxHeartbeats 4000000 in
theorem c_X12_atomics (l : Launch) (D : va_G) (cy : ClassId × ClassId × ClassId) (ad : Nat → Nat) (x1 : Int64) (x3 : Int32) (x4 : Int64) (x6 : Int64) (u : St) {u' : St} (h : f_X12_atomics x1 x3 x4 x6 u = some u') : MX (wM cy ad) D cy l yX12_atomics cX12_atomics 15 (none) 4 98 0 [.ref (ad 0), .long x1, .int x3, .long x4, .long x6] u u' none := by
  refine entX (by decide +kernel) (Nat.le_of_ble_eq_true rfl) ?_
  intro p e s m args below meth c ls rr A E hr hlk hl w
  have hl : lv_has ls 15 [(0, .ref (ad 0)), (1, .long x1), (3, .int x3), (4, .long x4), (6, .long x6)] := hl
  have hx := E.1
  have hb := E.2.1
  have hown := E.2.2.2.1
  have hts := E.2.2.2.2
  refine lv_lload_n hx hb (dq da_X12_atomics 0 rfl) rfl (lv_at hl 1 rfl) ?_
  refine lv_bipush (v := 31) hx hb (dq da_X12_atomics 1 rfl) rfl ?_
  refine lv_bipush (v := 27) hx hb (dq da_X12_atomics 2 rfl) rfl ?_
  refine callP E (c_X12_cut l _ _ _ ) w_1384 w_1385 w_10 w_1386 hd_X12_cut rfl hl.1 rfl (Nat.le_of_ble_eq_true rfl) ⟨Nat.le_of_ble_eq_true rfl, Nat.le_of_ble_eq_true rfl⟩ (by decide) (dq da_X12_atomics 3 rfl) ?_
  refine lv_l2i (v := (f_X12_cut x1 (31 : Int32) (27 : Int32)).toInt32) hx hb (dq da_X12_atomics 4 rfl) rfl ?_
  refine lv_istore (lv' := [(8, .int ((f_X12_cut x1 (31 : Int32) (27 : Int32)).toInt32)), (0, .ref (ad 0)), (1, .long x1), (3, .int x3), (4, .long x4), (6, .long x6)]) hx hb (dq da_X12_atomics 5 rfl) hl (by decide) rfl (fun ls hl => ?_)
  refine lv_iload hx hb (dq da_X12_atomics 6 rfl) (lv_at hl 0 rfl) ?_
  refine lv_iconst (v := 4) hx hb (dq da_X12_atomics 7 rfl) rfl ?_
  refine lv_icmp_lt (tgt := 24) hx hb (dq da_X12_atomics 8 rfl) (by decide) (fun c1 => ?_) (fun c1 => ?_)
  · have h := it c1 h
    exact b_X12_atomics_b24 E hr hlk h (lv_sub hl [1, 2, 3, 4, 5, 0] rfl) w
  · have h := ie c1 h
    refine lv_iload hx hb (dq da_X12_atomics 9 rfl) (lv_at hl 0 rfl) ?_
    refine lv_iconst (v := 4) hx hb (dq da_X12_atomics 10 rfl) rfl ?_
    refine lv_irem hx hb (dq da_X12_atomics 11 rfl) (by decide) ?_
    refine lv_if_ne (tgt := 28) hx hb (dq da_X12_atomics 12 rfl) (by decide) (fun c28 => ?_) (fun c28 => ?_)
    · have h := ie c28 h
      refine lv_iconst (v := 0) hx hb (dq da_X12_atomics 15 rfl) rfl ?_
      exact b_X12_atomics_b29 E hr hlk h (lv_sub hl [1, 2, 3, 4, 5, 0] rfl) w
    · have h := it c28 h
      exact b_X12_atomics_b24 E hr hlk h (lv_sub hl [1, 2, 3, 4, 5, 0] rfl) w
def dl_X12_calls : List (Nat × Instr × Nat) := [(0, .lload_n 1, 1), (1, .bipush 31, 2), (3, .bipush 25, 2), (5, .invokestatic 196, 3), (8, .ldc2_w 473, 3), (11, .lcmp, 1), (12, .ifCond .ne 20, 3), (15, .lload_n 1, 1), (16, .bipush 11, 2), (18, .bipush 7, 2), (20, .invokestatic 196, 3), (23, .lconst 0, 1), (24, .lcmp, 1), (25, .ifCond .ne 7, 3), (28, .iconst 1, 1), (29, .goto 4, 3), (32, .iconst 0, 1), (33, .istore_n 3, 1), (34, .lload_n 1, 1), (35, .ldc2_w 475, 3), (38, .lcmp, 1), (39, .ifCond .ne 38, 3), (42, .aload_n 0, 1), (43, .aload_n 0, 1), (44, .getfield 24, 3), (47, .ifCond .ne 8, 3), (50, .bipush 8, 2), (52, .goto 18, 3), (55, .aload_n 0, 1), (56, .getfield 24, 3), (59, .iconst 1, 1), (60, .if_icmp .ne 8, 3), (63, .bipush 9, 2), (65, .goto 5, 3), (68, .bipush 11, 2), (70, .lconst 0, 1), (71, .invokevirtual 216, 3), (74, .goto 286, 3), (77, .lload_n 1, 1), (78, .ldc2_w 477, 3), (81, .lcmp, 1), (82, .ifCond .ne 15, 3), (85, .aload_n 0, 1), (86, .iconst 3, 1), (87, .aload_n 0, 1), (88, .getfield 20, 3), (91, .invokevirtual 216, 3), (94, .goto 266, 3), (97, .lload_n 1, 1), (98, .ldc2_w 479, 3), (101, .lcmp, 1), (102, .ifCond .ne 90, 3), (105, .aload_n 0, 1), (106, .getfield 24, 3), (109, .iconst 3, 1), (110, .if_icmp .ne 82, 3), (113, .aload_n 0, 1), (114, .getfield 67, 3), (117, .bipush 12, 2), (119, .bipush 11, 2), (121, .invokestatic 196, 3), (124, .l2i, 1), (125, .istore 4, 2), (127, .aload_n 0, 1), (128, .aload_n 0, 1), (129, .getfield 270, 3), (132, .putfield 382, 3), (135, .aload_n 0, 1), (136, .iconst 3, 1), (137, .aload_n 0, 1), (138, .bipush 7, 2), (140, .invokevirtual 192, 3), (143, .invokevirtual 344, 3), (146, .aload_n 0, 1), (147, .bipush 7, 2), (149, .iconst 1, 1), (150, .invokevirtual 344, 3), (153, .aload_n 0, 1), (154, .aload_n 0, 1), (155, .getfield 67, 3), (158, .ldc2_w 315, 3), (161, .land, 1), (162, .putfield 67, 3), (165, .iload 4, 2), (167, .iconst 3, 1), (168, .if_icmp .eq 10, 3), (171, .aload_n 0, 1), (172, .bipush 17, 2), (174, .iconst 0, 1), (175, .invokevirtual 344, 3), (178, .aload_n 0, 1), (179, .iload 4, 2), (181, .putfield 24, 3), (184, .aload_n 0, 1), (185, .iconst 0, 1), (186, .putfield 170, 3), (189, .goto 171, 3), (192, .lload_n 1, 1), (193, .ldc2_w 481, 3), (196, .lcmp, 1), (197, .ifCond .ne 92, 3), (200, .aload_n 0, 1), (201, .getfield 24, 3), (204, .iconst 3, 1), (205, .if_icmp .eq 20, 3), (208, .aload_n 0, 1), (209, .getfield 24, 3), (212, .iconst 1, 1), (213, .if_icmp .ne 76, 3), (216, .aload_n 0, 1), (217, .bipush 22, 2), (219, .invokevirtual 192, 3), (222, .ifCond .ne 67, 3), (225, .aload_n 0, 1), (226, .aload_n 0, 1), (227, .getfield 302, 3), (230, .putfield 382, 3), (233, .aload_n 0, 1), (234, .aload_n 0, 1), (235, .bipush 8, 2), (237, .invokevirtual 192, 3), (240, .ifCond .eq 7, 3), (243, .iconst 1, 1), (244, .goto 4, 3), (247, .iconst 0, 1), (248, .putfield 24, 3), (251, .aload_n 0, 1), (252, .iconst 1, 1), (253, .aload_n 0, 1), (254, .iconst 5, 1), (255, .invokevirtual 192, 3), (258, .invokevirtual 344, 3), (261, .aload_n 0, 1), (262, .iconst 5, 1), (263, .iconst 1, 1), (264, .invokevirtual 344, 3), (267, .aload_n 0, 1), (268, .bipush 8, 2), (270, .iconst 0, 1), (271, .invokevirtual 344, 3), (274, .aload_n 0, 1), (275, .bipush 17, 2), (277, .iconst 0, 1), (278, .invokevirtual 344, 3), (281, .aload_n 0, 1), (282, .iconst 0, 1), (283, .putfield 170, 3), (286, .goto 74, 3), (289, .lload_n 1, 1), (290, .ldc2_w 483, 3), (293, .lcmp, 1), (294, .ifCond .ne 34, 3), (297, .aload_n 0, 1), (298, .getfield 24, 3), (301, .ifCond .eq 20, 3), (304, .aload_n 0, 1), (305, .getfield 24, 3), (308, .iconst 1, 1), (309, .if_icmp .ne 51, 3), (312, .aload_n 0, 1), (313, .bipush 21, 2), (315, .invokevirtual 192, 3), (318, .ifCond .eq 42, 3), (321, .aload_n 0, 1), (322, .invokevirtual 396, 3), (325, .goto 35, 3), (328, .iload_n 3, 1), (329, .ifCond .eq 27, 3), (332, .aload_n 0, 1), (333, .getfield 24, 3), (336, .ifCond .eq 20, 3), (339, .aload_n 0, 1), (340, .getfield 24, 3), (343, .iconst 1, 1), (344, .if_icmp .ne 16, 3), (347, .aload_n 0, 1), (348, .bipush 20, 2), (350, .invokevirtual 192, 3), (353, .ifCond .eq 7, 3), (356, .aload_n 0, 1), (357, .invokevirtual 396, 3), (360, .return_, 1)]
theorem da_X12_calls : dkL cX12_calls dl_X12_calls = true := by decide +kernel
def f_X12_calls_b356 (u : St) : St := (f_X12_illegal u)
set_option maxRecDepth 100000 in
set_option maxHeartbeats 4000000 in
theorem b_X12_calls_b356 {p : Program} {l : Launch} {e : Env} {s : State} {m : MethodId} {args : Array Value} {below : List Frame} {meth : Method} {c : Code} {D : va_G} {cy : ClassId × ClassId × ClassId} {ad : Nat → Nat} {A : Nat → Prop} (E : CallFix p m c cX12_calls 5 s args gw RX12) (hr : meth.sig.returnType = none) (hlk : meth.locks = false) {u : St} {u' : St} (h : f_X12_calls_b356 u = u') {ls : Array Slot} {H : Heap} {locs : List Loc} {rr : Nat → Nat} (hl : lv_has ls 5 [(0, .ref (ad 0))]) (w : WX (wM cy ad) D cy rr u A s H locs) : Wx (wM cy ad) D p l e 2 43 0 s m args below meth c A u' none H locs 0 356 ls [] := by
  have hx := E.1
  have hb := E.2.1
  have hown := E.2.2.2.1
  have hts := E.2.2.2.2
  refine lv_aload_n hx hb (dq da_X12_calls 179 rfl) rfl (lv_at hl 0 rfl) ?_
  refine cV0 E (c_X12_illegal l D cy ad _ ) w_1523 w_1525 w_p66 w_10 w_1526 rfl hd_X12_illegal rfl hl.1 rfl (Nat.le_of_ble_eq_true rfl) ⟨Nat.le_of_ble_eq_true rfl, Nat.le_of_ble_eq_true rfl⟩ (by decide) w (rc_wM_0 w) (dq da_X12_calls 180 rfl) (fun H locs rr w => ?_)
  exact xret_v E hr hlk w (by decide) h (dq da_X12_calls 181 rfl)
def f_X12_calls_b321 (u : St) : St := (f_X12_illegal u)
set_option maxRecDepth 100000 in
set_option maxHeartbeats 4000000 in
theorem b_X12_calls_b321 {p : Program} {l : Launch} {e : Env} {s : State} {m : MethodId} {args : Array Value} {below : List Frame} {meth : Method} {c : Code} {D : va_G} {cy : ClassId × ClassId × ClassId} {ad : Nat → Nat} {A : Nat → Prop} (E : CallFix p m c cX12_calls 5 s args gw RX12) (hr : meth.sig.returnType = none) (hlk : meth.locks = false) {u : St} {u' : St} (h : f_X12_calls_b321 u = u') {ls : Array Slot} {H : Heap} {locs : List Loc} {rr : Nat → Nat} (hl : lv_has ls 5 [(0, .ref (ad 0))]) (w : WX (wM cy ad) D cy rr u A s H locs) : Wx (wM cy ad) D p l e 2 43 0 s m args below meth c A u' none H locs 0 321 ls [] := by
  have hx := E.1
  have hb := E.2.1
  have hown := E.2.2.2.1
  have hts := E.2.2.2.2
  refine lv_aload_n hx hb (dq da_X12_calls 163 rfl) rfl (lv_at hl 0 rfl) ?_
  refine cV0 E (c_X12_illegal l D cy ad _ ) w_1523 w_1525 w_p66 w_10 w_1526 rfl hd_X12_illegal rfl hl.1 rfl (Nat.le_of_ble_eq_true rfl) ⟨Nat.le_of_ble_eq_true rfl, Nat.le_of_ble_eq_true rfl⟩ (by decide) w (rc_wM_0 w) (dq da_X12_calls 164 rfl) (fun H locs rr w => ?_)
  refine lv_goto (tgt := 360) hx hb (dq da_X12_calls 165 rfl) (by decide) ?_
  exact xret_v E hr hlk w (by decide) h (dq da_X12_calls 181 rfl)
def f_X12_calls_b289 (x1 : Int64) (x3 : Int32) (u : St) : St := if x1 = (273678451 : Int64) then (if (gI u 2) = (0 : Int32) then (f_X12_calls_b321 u) else (if (gI u 2) = (1 : Int32) then (if (f_X12_is (21 : Int32) u) = (0 : Int32) then u else (f_X12_calls_b321 u)) else u)) else (if x3 = (0 : Int32) then (f_X12_calls_b356 u) else (if (gI u 2) = (0 : Int32) then (f_X12_calls_b356 u) else (if (gI u 2) = (1 : Int32) then (if (f_X12_is (20 : Int32) u) = (0 : Int32) then u else (f_X12_calls_b356 u)) else u)))
set_option maxRecDepth 100000 in
set_option maxHeartbeats 4000000 in
theorem b_X12_calls_b289 {p : Program} {l : Launch} {e : Env} {s : State} {m : MethodId} {args : Array Value} {below : List Frame} {meth : Method} {c : Code} {D : va_G} {cy : ClassId × ClassId × ClassId} {ad : Nat → Nat} {A : Nat → Prop} (E : CallFix p m c cX12_calls 5 s args gw RX12) (hr : meth.sig.returnType = none) (hlk : meth.locks = false) {x1 : Int64} {x3 : Int32} {u : St} {u' : St} (h : f_X12_calls_b289 x1 x3 u = u') {ls : Array Slot} {H : Heap} {locs : List Loc} {rr : Nat → Nat} (hl : lv_has ls 5 [(0, .ref (ad 0)), (1, .long x1), (3, .int x3)]) (w : WX (wM cy ad) D cy rr u A s H locs) : Wx (wM cy ad) D p l e 2 43 0 s m args below meth c A u' none H locs 0 289 ls [] := by
  have hx := E.1
  have hb := E.2.1
  have hown := E.2.2.2.1
  have hts := E.2.2.2.2
  refine lv_lload_n hx hb (dq da_X12_calls 148 rfl) rfl (lv_at hl 1 rfl) ?_
  refine lv_ldc2 hx hb hown (hts _ w_1639) (dq da_X12_calls 149 rfl) ?_
  refine lc_ne (tgt := 328) hx hb (dq da_X12_calls 150 rfl) (dq da_X12_calls 151 rfl) (by decide) (fun c6 => ?_) (fun c6 => ?_)
  · have h := ie c6 h
    refine lv_iload_n hx hb (dq da_X12_calls 166 rfl) rfl (lv_at hl 2 rfl) ?_
    refine lv_if_eq (tgt := 356) hx hb (dq da_X12_calls 167 rfl) (by decide) (fun c7 => ?_) (fun c7 => ?_)
    · have h := it c7 h
      exact b_X12_calls_b356 E hr hlk h (lv_sub hl [0] rfl) w
    · have h := ie c7 h
      refine lv_aload_n hx hb (dq da_X12_calls 168 rfl) rfl (lv_at hl 0 rfl) ?_
      refine gt_wM_0_privilege E w w_1093 (dq da_X12_calls 169 rfl) ?_
      refine lv_if_eq (tgt := 356) hx hb (dq da_X12_calls 170 rfl) (by decide) (fun c8 => ?_) (fun c8 => ?_)
      · have h := it c8 h
        exact b_X12_calls_b356 E hr hlk h (lv_sub hl [0] rfl) w
      · have h := ie c8 h
        refine lv_aload_n hx hb (dq da_X12_calls 171 rfl) rfl (lv_at hl 0 rfl) ?_
        refine gt_wM_0_privilege E w w_1093 (dq da_X12_calls 172 rfl) ?_
        refine lv_iconst (v := 1) hx hb (dq da_X12_calls 173 rfl) rfl ?_
        refine lv_icmp_ne (tgt := 360) hx hb (dq da_X12_calls 174 rfl) (by decide) (fun c9 => ?_) (fun c9 => ?_)
        · have h := ie c9 h
          exact xret_v E hr hlk w (by decide) h (dq da_X12_calls 181 rfl)
        · have h := it c9 h
          refine lv_aload_n hx hb (dq da_X12_calls 175 rfl) rfl (lv_at hl 0 rfl) ?_
          refine lv_bipush (v := 20) hx hb (dq da_X12_calls 176 rfl) rfl ?_
          refine cV1 E (c_X12_is l D cy ad _ _ ) w_1414 w_1416 w_p56 w_10 w_1417 rfl hd_X12_is rfl hl.1 rfl (Nat.le_of_ble_eq_true rfl) ⟨Nat.le_of_ble_eq_true rfl, Nat.le_of_ble_eq_true rfl⟩ (by decide) w (rc_wM_0 w) (dq da_X12_calls 177 rfl) (fun H locs rr w => ?_)
          refine lv_if_eq (tgt := 360) hx hb (dq da_X12_calls 178 rfl) (by decide) (fun c10 => ?_) (fun c10 => ?_)
          · have h := it c10 h
            exact xret_v E hr hlk w (by decide) h (dq da_X12_calls 181 rfl)
          · have h := ie c10 h
            exact b_X12_calls_b356 E hr hlk h (lv_sub hl [0] rfl) w
  · have h := it c6 h
    refine lv_aload_n hx hb (dq da_X12_calls 152 rfl) rfl (lv_at hl 0 rfl) ?_
    refine gt_wM_0_privilege E w w_1093 (dq da_X12_calls 153 rfl) ?_
    refine lv_if_eq (tgt := 321) hx hb (dq da_X12_calls 154 rfl) (by decide) (fun c11 => ?_) (fun c11 => ?_)
    · have h := it c11 h
      exact b_X12_calls_b321 E hr hlk h (lv_sub hl [0] rfl) w
    · have h := ie c11 h
      refine lv_aload_n hx hb (dq da_X12_calls 155 rfl) rfl (lv_at hl 0 rfl) ?_
      refine gt_wM_0_privilege E w w_1093 (dq da_X12_calls 156 rfl) ?_
      refine lv_iconst (v := 1) hx hb (dq da_X12_calls 157 rfl) rfl ?_
      refine lv_icmp_ne (tgt := 360) hx hb (dq da_X12_calls 158 rfl) (by decide) (fun c12 => ?_) (fun c12 => ?_)
      · have h := ie c12 h
        exact xret_v E hr hlk w (by decide) h (dq da_X12_calls 181 rfl)
      · have h := it c12 h
        refine lv_aload_n hx hb (dq da_X12_calls 159 rfl) rfl (lv_at hl 0 rfl) ?_
        refine lv_bipush (v := 21) hx hb (dq da_X12_calls 160 rfl) rfl ?_
        refine cV1 E (c_X12_is l D cy ad _ _ ) w_1414 w_1416 w_p56 w_10 w_1417 rfl hd_X12_is rfl hl.1 rfl (Nat.le_of_ble_eq_true rfl) ⟨Nat.le_of_ble_eq_true rfl, Nat.le_of_ble_eq_true rfl⟩ (by decide) w (rc_wM_0 w) (dq da_X12_calls 161 rfl) (fun H locs rr w => ?_)
        refine lv_if_eq (tgt := 360) hx hb (dq da_X12_calls 162 rfl) (by decide) (fun c13 => ?_) (fun c13 => ?_)
        · have h := it c13 h
          exact xret_v E hr hlk w (by decide) h (dq da_X12_calls 181 rfl)
        · have h := ie c13 h
          exact b_X12_calls_b321 E hr hlk h (lv_sub hl [0] rfl) w
def f_X12_calls_b248 (s0 : Int32) (u : St) : St := (sI (f_X12_turn (17 : Int32) (0 : Int32) (f_X12_turn (8 : Int32) (0 : Int32) (f_X12_turn (5 : Int32) (1 : Int32) (f_X12_turn (1 : Int32) (f_X12_is (5 : Int32) (sI u 2 s0)) (sI u 2 s0))))) 3 (0 : Int32))
set_option maxRecDepth 100000 in
set_option maxHeartbeats 4000000 in
theorem b_X12_calls_b248 {p : Program} {l : Launch} {e : Env} {s : State} {m : MethodId} {args : Array Value} {below : List Frame} {meth : Method} {c : Code} {D : va_G} {cy : ClassId × ClassId × ClassId} {ad : Nat → Nat} {A : Nat → Prop} (E : CallFix p m c cX12_calls 5 s args gw RX12) (hr : meth.sig.returnType = none) (hlk : meth.locks = false) {s0 : Int32} {u : St} {u' : St} (h : f_X12_calls_b248 s0 u = u') {ls : Array Slot} {H : Heap} {locs : List Loc} {rr : Nat → Nat} (hl : lv_has ls 5 [(0, .ref (ad 0))]) (w : WX (wM cy ad) D cy rr u A s H locs) : Wx (wM cy ad) D p l e 2 43 0 s m args below meth c A u' none H locs 0 248 ls [.int s0, .ref (ad 0)] := by
  have hx := E.1
  have hb := E.2.1
  have hown := E.2.2.2.1
  have hts := E.2.2.2.2
  refine pt_wM_0_privilege E w w_1093 (dq da_X12_calls 125 rfl) (fun H locs w => ?_)
  refine lv_aload_n hx hb (dq da_X12_calls 126 rfl) rfl (lv_at hl 0 rfl) ?_
  refine lv_iconst (v := 1) hx hb (dq da_X12_calls 127 rfl) rfl ?_
  refine lv_aload_n hx hb (dq da_X12_calls 128 rfl) rfl (lv_at hl 0 rfl) ?_
  refine lv_iconst (v := 5) hx hb (dq da_X12_calls 129 rfl) rfl ?_
  refine cV1 E (c_X12_is l D cy ad _ _ ) w_1414 w_1416 w_p56 w_10 w_1417 rfl hd_X12_is rfl hl.1 rfl (Nat.le_of_ble_eq_true rfl) ⟨Nat.le_of_ble_eq_true rfl, Nat.le_of_ble_eq_true rfl⟩ (by decide) w (rc_wM_0 w) (dq da_X12_calls 130 rfl) (fun H locs rr w => ?_)
  refine cV0 E (c_X12_turn l D cy ad _ _ _ ) w_1422 w_1424 w_p58 w_10 w_1425 rfl hd_X12_turn rfl hl.1 rfl (Nat.le_of_ble_eq_true rfl) ⟨Nat.le_of_ble_eq_true rfl, Nat.le_of_ble_eq_true rfl⟩ (by decide) w (rc_wM_0 w) (dq da_X12_calls 131 rfl) (fun H locs rr w => ?_)
  refine lv_aload_n hx hb (dq da_X12_calls 132 rfl) rfl (lv_at hl 0 rfl) ?_
  refine lv_iconst (v := 5) hx hb (dq da_X12_calls 133 rfl) rfl ?_
  refine lv_iconst (v := 1) hx hb (dq da_X12_calls 134 rfl) rfl ?_
  refine cV0 E (c_X12_turn l D cy ad _ _ _ ) w_1422 w_1424 w_p58 w_10 w_1425 rfl hd_X12_turn rfl hl.1 rfl (Nat.le_of_ble_eq_true rfl) ⟨Nat.le_of_ble_eq_true rfl, Nat.le_of_ble_eq_true rfl⟩ (by decide) w (rc_wM_0 w) (dq da_X12_calls 135 rfl) (fun H locs rr w => ?_)
  refine lv_aload_n hx hb (dq da_X12_calls 136 rfl) rfl (lv_at hl 0 rfl) ?_
  refine lv_bipush (v := 8) hx hb (dq da_X12_calls 137 rfl) rfl ?_
  refine lv_iconst (v := 0) hx hb (dq da_X12_calls 138 rfl) rfl ?_
  refine cV0 E (c_X12_turn l D cy ad _ _ _ ) w_1422 w_1424 w_p58 w_10 w_1425 rfl hd_X12_turn rfl hl.1 rfl (Nat.le_of_ble_eq_true rfl) ⟨Nat.le_of_ble_eq_true rfl, Nat.le_of_ble_eq_true rfl⟩ (by decide) w (rc_wM_0 w) (dq da_X12_calls 139 rfl) (fun H locs rr w => ?_)
  refine lv_aload_n hx hb (dq da_X12_calls 140 rfl) rfl (lv_at hl 0 rfl) ?_
  refine lv_bipush (v := 17) hx hb (dq da_X12_calls 141 rfl) rfl ?_
  refine lv_iconst (v := 0) hx hb (dq da_X12_calls 142 rfl) rfl ?_
  refine cV0 E (c_X12_turn l D cy ad _ _ _ ) w_1422 w_1424 w_p58 w_10 w_1425 rfl hd_X12_turn rfl hl.1 rfl (Nat.le_of_ble_eq_true rfl) ⟨Nat.le_of_ble_eq_true rfl, Nat.le_of_ble_eq_true rfl⟩ (by decide) w (rc_wM_0 w) (dq da_X12_calls 143 rfl) (fun H locs rr w => ?_)
  refine lv_aload_n hx hb (dq da_X12_calls 144 rfl) rfl (lv_at hl 0 rfl) ?_
  refine lv_iconst (v := 0) hx hb (dq da_X12_calls 145 rfl) rfl ?_
  refine pt_wM_0_heldSize E w w_1095 (dq da_X12_calls 146 rfl) (fun H locs w => ?_)
  refine lv_goto (tgt := 360) hx hb (dq da_X12_calls 147 rfl) (by decide) ?_
  exact xret_v E hr hlk w (by decide) h (dq da_X12_calls 181 rfl)
def f_X12_calls_b225 (u : St) : St := if (f_X12_is (8 : Int32) (sL u 25 (gL u 20))) = (0 : Int32) then (f_X12_calls_b248 (0 : Int32) (sL u 25 (gL u 20))) else (f_X12_calls_b248 (1 : Int32) (sL u 25 (gL u 20)))
set_option maxRecDepth 100000 in
set_option maxHeartbeats 4000000 in
theorem b_X12_calls_b225 {p : Program} {l : Launch} {e : Env} {s : State} {m : MethodId} {args : Array Value} {below : List Frame} {meth : Method} {c : Code} {D : va_G} {cy : ClassId × ClassId × ClassId} {ad : Nat → Nat} {A : Nat → Prop} (E : CallFix p m c cX12_calls 5 s args gw RX12) (hr : meth.sig.returnType = none) (hlk : meth.locks = false) {u : St} {u' : St} (h : f_X12_calls_b225 u = u') {ls : Array Slot} {H : Heap} {locs : List Loc} {rr : Nat → Nat} (hl : lv_has ls 5 [(0, .ref (ad 0))]) (w : WX (wM cy ad) D cy rr u A s H locs) : Wx (wM cy ad) D p l e 2 43 0 s m args below meth c A u' none H locs 0 225 ls [] := by
  have hx := E.1
  have hb := E.2.1
  have hown := E.2.2.2.1
  have hts := E.2.2.2.2
  refine lv_aload_n hx hb (dq da_X12_calls 113 rfl) rfl (lv_at hl 0 rfl) ?_
  refine lv_aload_n hx hb (dq da_X12_calls 114 rfl) rfl (lv_at hl 0 rfl) ?_
  refine gt_wM_0_epc E w w_1129 (dq da_X12_calls 115 rfl) ?_
  refine pt_wM_0_following E w w_1138 (dq da_X12_calls 116 rfl) (fun H locs w => ?_)
  refine lv_aload_n hx hb (dq da_X12_calls 117 rfl) rfl (lv_at hl 0 rfl) ?_
  refine lv_aload_n hx hb (dq da_X12_calls 118 rfl) rfl (lv_at hl 0 rfl) ?_
  refine lv_bipush (v := 8) hx hb (dq da_X12_calls 119 rfl) rfl ?_
  refine cV1 E (c_X12_is l D cy ad _ _ ) w_1414 w_1416 w_p56 w_10 w_1417 rfl hd_X12_is rfl hl.1 rfl (Nat.le_of_ble_eq_true rfl) ⟨Nat.le_of_ble_eq_true rfl, Nat.le_of_ble_eq_true rfl⟩ (by decide) w (rc_wM_0 w) (dq da_X12_calls 120 rfl) (fun H locs rr w => ?_)
  refine lv_if_eq (tgt := 247) hx hb (dq da_X12_calls 121 rfl) (by decide) (fun c15 => ?_) (fun c15 => ?_)
  · have h := it c15 h
    refine lv_iconst (v := 0) hx hb (dq da_X12_calls 124 rfl) rfl ?_
    exact b_X12_calls_b248 E hr hlk h (lv_sub hl [0] rfl) w
  · have h := ie c15 h
    refine lv_iconst (v := 1) hx hb (dq da_X12_calls 122 rfl) rfl ?_
    refine lv_goto (tgt := 248) hx hb (dq da_X12_calls 123 rfl) (by decide) ?_
    exact b_X12_calls_b248 E hr hlk h (lv_sub hl [0] rfl) w
def f_X12_calls_b192 (x1 : Int64) (x3 : Int32) (u : St) : St := if x1 = (270532723 : Int64) then (if (gI u 2) = (3 : Int32) then (f_X12_calls_b225 u) else (if (gI u 2) = (1 : Int32) then (if (f_X12_is (22 : Int32) u) = (0 : Int32) then (f_X12_calls_b225 u) else (f_X12_calls_b289 x1 x3 u)) else (f_X12_calls_b289 x1 x3 u))) else (f_X12_calls_b289 x1 x3 u)
set_option maxRecDepth 100000 in
set_option maxHeartbeats 4000000 in
theorem b_X12_calls_b192 {p : Program} {l : Launch} {e : Env} {s : State} {m : MethodId} {args : Array Value} {below : List Frame} {meth : Method} {c : Code} {D : va_G} {cy : ClassId × ClassId × ClassId} {ad : Nat → Nat} {A : Nat → Prop} (E : CallFix p m c cX12_calls 5 s args gw RX12) (hr : meth.sig.returnType = none) (hlk : meth.locks = false) {x1 : Int64} {x3 : Int32} {u : St} {u' : St} (h : f_X12_calls_b192 x1 x3 u = u') {ls : Array Slot} {H : Heap} {locs : List Loc} {rr : Nat → Nat} (hl : lv_has ls 5 [(0, .ref (ad 0)), (1, .long x1), (3, .int x3)]) (w : WX (wM cy ad) D cy rr u A s H locs) : Wx (wM cy ad) D p l e 2 43 0 s m args below meth c A u' none H locs 0 192 ls [] := by
  have hx := E.1
  have hb := E.2.1
  have hown := E.2.2.2.1
  have hts := E.2.2.2.2
  refine lv_lload_n hx hb (dq da_X12_calls 97 rfl) rfl (lv_at hl 1 rfl) ?_
  refine lv_ldc2 hx hb hown (hts _ w_1638) (dq da_X12_calls 98 rfl) ?_
  refine lc_ne (tgt := 289) hx hb (dq da_X12_calls 99 rfl) (dq da_X12_calls 100 rfl) (by decide) (fun c5 => ?_) (fun c5 => ?_)
  · have h := ie c5 h
    exact b_X12_calls_b289 E hr hlk h (lv_sub hl [0, 1, 2] rfl) w
  · have h := it c5 h
    refine lv_aload_n hx hb (dq da_X12_calls 101 rfl) rfl (lv_at hl 0 rfl) ?_
    refine gt_wM_0_privilege E w w_1093 (dq da_X12_calls 102 rfl) ?_
    refine lv_iconst (v := 3) hx hb (dq da_X12_calls 103 rfl) rfl ?_
    refine lv_icmp_eq (tgt := 225) hx hb (dq da_X12_calls 104 rfl) (by decide) (fun c14 => ?_) (fun c14 => ?_)
    · have h := it c14 h
      exact b_X12_calls_b225 E hr hlk h (lv_sub hl [0] rfl) w
    · have h := ie c14 h
      refine lv_aload_n hx hb (dq da_X12_calls 105 rfl) rfl (lv_at hl 0 rfl) ?_
      refine gt_wM_0_privilege E w w_1093 (dq da_X12_calls 106 rfl) ?_
      refine lv_iconst (v := 1) hx hb (dq da_X12_calls 107 rfl) rfl ?_
      refine lv_icmp_ne (tgt := 289) hx hb (dq da_X12_calls 108 rfl) (by decide) (fun c16 => ?_) (fun c16 => ?_)
      · have h := ie c16 h
        exact b_X12_calls_b289 E hr hlk h (lv_sub hl [0, 1, 2] rfl) w
      · have h := it c16 h
        refine lv_aload_n hx hb (dq da_X12_calls 109 rfl) rfl (lv_at hl 0 rfl) ?_
        refine lv_bipush (v := 22) hx hb (dq da_X12_calls 110 rfl) rfl ?_
        refine cV1 E (c_X12_is l D cy ad _ _ ) w_1414 w_1416 w_p56 w_10 w_1417 rfl hd_X12_is rfl hl.1 rfl (Nat.le_of_ble_eq_true rfl) ⟨Nat.le_of_ble_eq_true rfl, Nat.le_of_ble_eq_true rfl⟩ (by decide) w (rc_wM_0 w) (dq da_X12_calls 111 rfl) (fun H locs rr w => ?_)
        refine lv_if_ne (tgt := 289) hx hb (dq da_X12_calls 112 rfl) (by decide) (fun c17 => ?_) (fun c17 => ?_)
        · have h := ie c17 h
          exact b_X12_calls_b289 E hr hlk h (lv_sub hl [0, 1, 2] rfl) w
        · have h := it c17 h
          exact b_X12_calls_b225 E hr hlk h (lv_sub hl [0] rfl) w
def f_X12_calls_b178 (x4 : Int32) (u : St) : St := (sI (sI u 2 x4) 3 (0 : Int32))
set_option maxRecDepth 100000 in
set_option maxHeartbeats 4000000 in
theorem b_X12_calls_b178 {p : Program} {l : Launch} {e : Env} {s : State} {m : MethodId} {args : Array Value} {below : List Frame} {meth : Method} {c : Code} {D : va_G} {cy : ClassId × ClassId × ClassId} {ad : Nat → Nat} {A : Nat → Prop} (E : CallFix p m c cX12_calls 5 s args gw RX12) (hr : meth.sig.returnType = none) (hlk : meth.locks = false) {x4 : Int32} {u : St} {u' : St} (h : f_X12_calls_b178 x4 u = u') {ls : Array Slot} {H : Heap} {locs : List Loc} {rr : Nat → Nat} (hl : lv_has ls 5 [(0, .ref (ad 0)), (4, .int x4)]) (w : WX (wM cy ad) D cy rr u A s H locs) : Wx (wM cy ad) D p l e 2 43 0 s m args below meth c A u' none H locs 0 178 ls [] := by
  have hx := E.1
  have hb := E.2.1
  have hown := E.2.2.2.1
  have hts := E.2.2.2.2
  refine lv_aload_n hx hb (dq da_X12_calls 90 rfl) rfl (lv_at hl 0 rfl) ?_
  refine lv_iload hx hb (dq da_X12_calls 91 rfl) (lv_at hl 1 rfl) ?_
  refine pt_wM_0_privilege E w w_1093 (dq da_X12_calls 92 rfl) (fun H locs w => ?_)
  refine lv_aload_n hx hb (dq da_X12_calls 93 rfl) rfl (lv_at hl 0 rfl) ?_
  refine lv_iconst (v := 0) hx hb (dq da_X12_calls 94 rfl) rfl ?_
  refine pt_wM_0_heldSize E w w_1095 (dq da_X12_calls 95 rfl) (fun H locs w => ?_)
  refine lv_goto (tgt := 360) hx hb (dq da_X12_calls 96 rfl) (by decide) ?_
  exact xret_v E hr hlk w (by decide) h (dq da_X12_calls 181 rfl)
def f_X12_calls_b70 (s0 : Int32) (u : St) : St := (f_X12_fail s0 (0 : Int64) u)
set_option maxRecDepth 100000 in
set_option maxHeartbeats 4000000 in
theorem b_X12_calls_b70 {p : Program} {l : Launch} {e : Env} {s : State} {m : MethodId} {args : Array Value} {below : List Frame} {meth : Method} {c : Code} {D : va_G} {cy : ClassId × ClassId × ClassId} {ad : Nat → Nat} {A : Nat → Prop} (E : CallFix p m c cX12_calls 5 s args gw RX12) (hr : meth.sig.returnType = none) (hlk : meth.locks = false) {s0 : Int32} {u : St} {u' : St} (h : f_X12_calls_b70 s0 u = u') {ls : Array Slot} {H : Heap} {locs : List Loc} {rr : Nat → Nat} (hl : lv_has ls 5 []) (w : WX (wM cy ad) D cy rr u A s H locs) : Wx (wM cy ad) D p l e 2 43 0 s m args below meth c A u' none H locs 0 70 ls [.int s0, .ref (ad 0)] := by
  have hx := E.1
  have hb := E.2.1
  have hown := E.2.2.2.1
  have hts := E.2.2.2.2
  refine lv_lconst (v := 0) hx hb (dq da_X12_calls 35 rfl) rfl ?_
  refine cV0 E (c_X12_fail l D cy ad _ _ _ ) w_1454 w_1456 w_p63 w_10 w_1457 rfl hd_X12_fail rfl hl.1 rfl (Nat.le_of_ble_eq_true rfl) ⟨Nat.le_of_ble_eq_true rfl, Nat.le_of_ble_eq_true rfl⟩ (by decide) w (rc_wM_0 w) (dq da_X12_calls 36 rfl) (fun H locs rr w => ?_)
  refine lv_goto (tgt := 360) hx hb (dq da_X12_calls 37 rfl) (by decide) ?_
  exact xret_v E hr hlk w (by decide) h (dq da_X12_calls 181 rfl)
def f_X12_calls_b33 (x1 : Int64) (s0 : Int32) (u : St) : St := if x1 = (115 : Int64) then (if (gI u 2) = (0 : Int32) then (f_X12_calls_b70 (8 : Int32) u) else (if (gI u 2) = (1 : Int32) then (f_X12_calls_b70 (9 : Int32) u) else (f_X12_calls_b70 (11 : Int32) u))) else (if x1 = (1048691 : Int64) then (f_X12_fail (3 : Int32) (gL u 0) u) else (if x1 = (807403635 : Int64) then (if (gI u 2) = (3 : Int32) then (if (f_X12_cut (gL u 4) (12 : Int32) (11 : Int32)).toInt32 = (3 : Int32) then (f_X12_calls_b178 ((f_X12_cut (gL u 4) (12 : Int32) (11 : Int32)).toInt32) (sL (f_X12_turn (7 : Int32) (1 : Int32) (f_X12_turn (3 : Int32) (f_X12_is (7 : Int32) (sL u 25 (gL u 11))) (sL u 25 (gL u 11)))) 4 ((gL (f_X12_turn (7 : Int32) (1 : Int32) (f_X12_turn (3 : Int32) (f_X12_is (7 : Int32) (sL u 25 (gL u 11))) (sL u 25 (gL u 11)))) 4) &&& (-6145 : Int64)))) else (f_X12_calls_b178 ((f_X12_cut (gL u 4) (12 : Int32) (11 : Int32)).toInt32) (f_X12_turn (17 : Int32) (0 : Int32) (sL (f_X12_turn (7 : Int32) (1 : Int32) (f_X12_turn (3 : Int32) (f_X12_is (7 : Int32) (sL u 25 (gL u 11))) (sL u 25 (gL u 11)))) 4 ((gL (f_X12_turn (7 : Int32) (1 : Int32) (f_X12_turn (3 : Int32) (f_X12_is (7 : Int32) (sL u 25 (gL u 11))) (sL u 25 (gL u 11)))) 4) &&& (-6145 : Int64)))))) else (f_X12_calls_b192 x1 s0 u)) else (f_X12_calls_b192 x1 s0 u)))
set_option maxRecDepth 100000 in
set_option maxHeartbeats 4000000 in
theorem b_X12_calls_b33 {p : Program} {l : Launch} {e : Env} {s : State} {m : MethodId} {args : Array Value} {below : List Frame} {meth : Method} {c : Code} {D : va_G} {cy : ClassId × ClassId × ClassId} {ad : Nat → Nat} {A : Nat → Prop} (E : CallFix p m c cX12_calls 5 s args gw RX12) (hr : meth.sig.returnType = none) (hlk : meth.locks = false) {x1 : Int64} {s0 : Int32} {u : St} {u' : St} (h : f_X12_calls_b33 x1 s0 u = u') {ls : Array Slot} {H : Heap} {locs : List Loc} {rr : Nat → Nat} (hl : lv_has ls 5 [(0, .ref (ad 0)), (1, .long x1)]) (w : WX (wM cy ad) D cy rr u A s H locs) : Wx (wM cy ad) D p l e 2 43 0 s m args below meth c A u' none H locs 0 33 ls [.int s0] := by
  have hx := E.1
  have hb := E.2.1
  have hown := E.2.2.2.1
  have hts := E.2.2.2.2
  refine lv_istore_n (lv' := [(3, .int s0), (0, .ref (ad 0)), (1, .long x1)]) hx hb (dq da_X12_calls 17 rfl) rfl hl (by decide) rfl (fun ls hl => ?_)
  refine lv_lload_n hx hb (dq da_X12_calls 18 rfl) rfl (lv_at hl 2 rfl) ?_
  refine lv_ldc2 hx hb hown (hts _ w_1636) (dq da_X12_calls 19 rfl) ?_
  refine lc_ne (tgt := 77) hx hb (dq da_X12_calls 20 rfl) (dq da_X12_calls 21 rfl) (by decide) (fun c2 => ?_) (fun c2 => ?_)
  · have h := ie c2 h
    refine lv_lload_n hx hb (dq da_X12_calls 38 rfl) rfl (lv_at hl 2 rfl) ?_
    refine lv_ldc2 hx hb hown (hts _ w_1510) (dq da_X12_calls 39 rfl) ?_
    refine lc_ne (tgt := 97) hx hb (dq da_X12_calls 40 rfl) (dq da_X12_calls 41 rfl) (by decide) (fun c3 => ?_) (fun c3 => ?_)
    · have h := ie c3 h
      refine lv_lload_n hx hb (dq da_X12_calls 48 rfl) rfl (lv_at hl 2 rfl) ?_
      refine lv_ldc2 hx hb hown (hts _ w_1637) (dq da_X12_calls 49 rfl) ?_
      refine lc_ne (tgt := 192) hx hb (dq da_X12_calls 50 rfl) (dq da_X12_calls 51 rfl) (by decide) (fun c4 => ?_) (fun c4 => ?_)
      · have h := ie c4 h
        exact b_X12_calls_b192 E hr hlk h (lv_sub hl [1, 2, 0] rfl) w
      · have h := it c4 h
        refine lv_aload_n hx hb (dq da_X12_calls 52 rfl) rfl (lv_at hl 1 rfl) ?_
        refine gt_wM_0_privilege E w w_1093 (dq da_X12_calls 53 rfl) ?_
        refine lv_iconst (v := 3) hx hb (dq da_X12_calls 54 rfl) rfl ?_
        refine lv_icmp_ne (tgt := 192) hx hb (dq da_X12_calls 55 rfl) (by decide) (fun c18 => ?_) (fun c18 => ?_)
        · have h := ie c18 h
          exact b_X12_calls_b192 E hr hlk h (lv_sub hl [1, 2, 0] rfl) w
        · have h := it c18 h
          refine lv_aload_n hx hb (dq da_X12_calls 56 rfl) rfl (lv_at hl 1 rfl) ?_
          refine gt_wM_0_status E w w_1113 (dq da_X12_calls 57 rfl) ?_
          refine lv_bipush (v := 12) hx hb (dq da_X12_calls 58 rfl) rfl ?_
          refine lv_bipush (v := 11) hx hb (dq da_X12_calls 59 rfl) rfl ?_
          refine callP E (c_X12_cut l _ _ _ ) w_1384 w_1385 w_10 w_1386 hd_X12_cut rfl hl.1 rfl (Nat.le_of_ble_eq_true rfl) ⟨Nat.le_of_ble_eq_true rfl, Nat.le_of_ble_eq_true rfl⟩ (by decide) (dq da_X12_calls 60 rfl) ?_
          refine lv_l2i (v := (f_X12_cut (gL u 4) (12 : Int32) (11 : Int32)).toInt32) hx hb (dq da_X12_calls 61 rfl) rfl ?_
          refine lv_istore (lv' := [(4, .int ((f_X12_cut (gL u 4) (12 : Int32) (11 : Int32)).toInt32)), (3, .int s0), (0, .ref (ad 0)), (1, .long x1)]) hx hb (dq da_X12_calls 62 rfl) hl (by decide) rfl (fun ls hl => ?_)
          refine lv_aload_n hx hb (dq da_X12_calls 63 rfl) rfl (lv_at hl 2 rfl) ?_
          refine lv_aload_n hx hb (dq da_X12_calls 64 rfl) rfl (lv_at hl 2 rfl) ?_
          refine gt_wM_0_machineEpc E w w_1120 (dq da_X12_calls 65 rfl) ?_
          refine pt_wM_0_following E w w_1138 (dq da_X12_calls 66 rfl) (fun H locs w => ?_)
          refine lv_aload_n hx hb (dq da_X12_calls 67 rfl) rfl (lv_at hl 2 rfl) ?_
          refine lv_iconst (v := 3) hx hb (dq da_X12_calls 68 rfl) rfl ?_
          refine lv_aload_n hx hb (dq da_X12_calls 69 rfl) rfl (lv_at hl 2 rfl) ?_
          refine lv_bipush (v := 7) hx hb (dq da_X12_calls 70 rfl) rfl ?_
          refine cV1 E (c_X12_is l D cy ad _ _ ) w_1414 w_1416 w_p56 w_10 w_1417 rfl hd_X12_is rfl hl.1 rfl (Nat.le_of_ble_eq_true rfl) ⟨Nat.le_of_ble_eq_true rfl, Nat.le_of_ble_eq_true rfl⟩ (by decide) w (rc_wM_0 w) (dq da_X12_calls 71 rfl) (fun H locs rr w => ?_)
          refine cV0 E (c_X12_turn l D cy ad _ _ _ ) w_1422 w_1424 w_p58 w_10 w_1425 rfl hd_X12_turn rfl hl.1 rfl (Nat.le_of_ble_eq_true rfl) ⟨Nat.le_of_ble_eq_true rfl, Nat.le_of_ble_eq_true rfl⟩ (by decide) w (rc_wM_0 w) (dq da_X12_calls 72 rfl) (fun H locs rr w => ?_)
          refine lv_aload_n hx hb (dq da_X12_calls 73 rfl) rfl (lv_at hl 2 rfl) ?_
          refine lv_bipush (v := 7) hx hb (dq da_X12_calls 74 rfl) rfl ?_
          refine lv_iconst (v := 1) hx hb (dq da_X12_calls 75 rfl) rfl ?_
          refine cV0 E (c_X12_turn l D cy ad _ _ _ ) w_1422 w_1424 w_p58 w_10 w_1425 rfl hd_X12_turn rfl hl.1 rfl (Nat.le_of_ble_eq_true rfl) ⟨Nat.le_of_ble_eq_true rfl, Nat.le_of_ble_eq_true rfl⟩ (by decide) w (rc_wM_0 w) (dq da_X12_calls 76 rfl) (fun H locs rr w => ?_)
          refine lv_aload_n hx hb (dq da_X12_calls 77 rfl) rfl (lv_at hl 2 rfl) ?_
          refine lv_aload_n hx hb (dq da_X12_calls 78 rfl) rfl (lv_at hl 2 rfl) ?_
          refine gt_wM_0_status E w w_1113 (dq da_X12_calls 79 rfl) ?_
          refine lv_ldc2 hx hb hown (hts _ w_1387) (dq da_X12_calls 80 rfl) ?_
          refine lv_land hx hb (dq da_X12_calls 81 rfl) ?_
          refine pt_wM_0_status E w w_1113 (dq da_X12_calls 82 rfl) (fun H locs w => ?_)
          refine lv_iload hx hb (dq da_X12_calls 83 rfl) (lv_at hl 0 rfl) ?_
          refine lv_iconst (v := 3) hx hb (dq da_X12_calls 84 rfl) rfl ?_
          refine lv_icmp_eq (tgt := 178) hx hb (dq da_X12_calls 85 rfl) (by decide) (fun c19 => ?_) (fun c19 => ?_)
          · have h := it c19 h
            exact b_X12_calls_b178 E hr hlk h (lv_sub hl [2, 0] rfl) w
          · have h := ie c19 h
            refine lv_aload_n hx hb (dq da_X12_calls 86 rfl) rfl (lv_at hl 2 rfl) ?_
            refine lv_bipush (v := 17) hx hb (dq da_X12_calls 87 rfl) rfl ?_
            refine lv_iconst (v := 0) hx hb (dq da_X12_calls 88 rfl) rfl ?_
            refine cV0 E (c_X12_turn l D cy ad _ _ _ ) w_1422 w_1424 w_p58 w_10 w_1425 rfl hd_X12_turn rfl hl.1 rfl (Nat.le_of_ble_eq_true rfl) ⟨Nat.le_of_ble_eq_true rfl, Nat.le_of_ble_eq_true rfl⟩ (by decide) w (rc_wM_0 w) (dq da_X12_calls 89 rfl) (fun H locs rr w => ?_)
            exact b_X12_calls_b178 E hr hlk h (lv_sub hl [2, 0] rfl) w
    · have h := it c3 h
      refine lv_aload_n hx hb (dq da_X12_calls 42 rfl) rfl (lv_at hl 1 rfl) ?_
      refine lv_iconst (v := 3) hx hb (dq da_X12_calls 43 rfl) rfl ?_
      refine lv_aload_n hx hb (dq da_X12_calls 44 rfl) rfl (lv_at hl 1 rfl) ?_
      refine gt_wM_0_pc E w w_1092 (dq da_X12_calls 45 rfl) ?_
      refine cV0 E (c_X12_fail l D cy ad _ _ _ ) w_1454 w_1456 w_p63 w_10 w_1457 rfl hd_X12_fail rfl hl.1 rfl (Nat.le_of_ble_eq_true rfl) ⟨Nat.le_of_ble_eq_true rfl, Nat.le_of_ble_eq_true rfl⟩ (by decide) w (rc_wM_0 w) (dq da_X12_calls 46 rfl) (fun H locs rr w => ?_)
      refine lv_goto (tgt := 360) hx hb (dq da_X12_calls 47 rfl) (by decide) ?_
      exact xret_v E hr hlk w (by decide) h (dq da_X12_calls 181 rfl)
  · have h := it c2 h
    refine lv_aload_n hx hb (dq da_X12_calls 22 rfl) rfl (lv_at hl 1 rfl) ?_
    refine lv_aload_n hx hb (dq da_X12_calls 23 rfl) rfl (lv_at hl 1 rfl) ?_
    refine gt_wM_0_privilege E w w_1093 (dq da_X12_calls 24 rfl) ?_
    refine lv_if_ne (tgt := 55) hx hb (dq da_X12_calls 25 rfl) (by decide) (fun c20 => ?_) (fun c20 => ?_)
    · have h := ie c20 h
      refine lv_aload_n hx hb (dq da_X12_calls 28 rfl) rfl (lv_at hl 1 rfl) ?_
      refine gt_wM_0_privilege E w w_1093 (dq da_X12_calls 29 rfl) ?_
      refine lv_iconst (v := 1) hx hb (dq da_X12_calls 30 rfl) rfl ?_
      refine lv_icmp_ne (tgt := 68) hx hb (dq da_X12_calls 31 rfl) (by decide) (fun c21 => ?_) (fun c21 => ?_)
      · have h := ie c21 h
        refine lv_bipush (v := 11) hx hb (dq da_X12_calls 34 rfl) rfl ?_
        exact b_X12_calls_b70 E hr hlk h (lv_sub hl [] rfl) w
      · have h := it c21 h
        refine lv_bipush (v := 9) hx hb (dq da_X12_calls 32 rfl) rfl ?_
        refine lv_goto (tgt := 70) hx hb (dq da_X12_calls 33 rfl) (by decide) ?_
        exact b_X12_calls_b70 E hr hlk h (lv_sub hl [] rfl) w
    · have h := it c20 h
      refine lv_bipush (v := 8) hx hb (dq da_X12_calls 26 rfl) rfl ?_
      refine lv_goto (tgt := 70) hx hb (dq da_X12_calls 27 rfl) (by decide) ?_
      exact b_X12_calls_b70 E hr hlk h (lv_sub hl [] rfl) w
def f_X12_calls_b32 (x1 : Int64) (u : St) : St := f_X12_calls_b33 x1 (0 : Int32) u
set_option maxRecDepth 100000 in
set_option maxHeartbeats 4000000 in
theorem b_X12_calls_b32 {p : Program} {l : Launch} {e : Env} {s : State} {m : MethodId} {args : Array Value} {below : List Frame} {meth : Method} {c : Code} {D : va_G} {cy : ClassId × ClassId × ClassId} {ad : Nat → Nat} {A : Nat → Prop} (E : CallFix p m c cX12_calls 5 s args gw RX12) (hr : meth.sig.returnType = none) (hlk : meth.locks = false) {x1 : Int64} {u : St} {u' : St} (h : f_X12_calls_b32 x1 u = u') {ls : Array Slot} {H : Heap} {locs : List Loc} {rr : Nat → Nat} (hl : lv_has ls 5 [(0, .ref (ad 0)), (1, .long x1)]) (w : WX (wM cy ad) D cy rr u A s H locs) : Wx (wM cy ad) D p l e 2 43 0 s m args below meth c A u' none H locs 0 32 ls [] := by
  have hx := E.1
  have hb := E.2.1
  have hown := E.2.2.2.1
  have hts := E.2.2.2.2
  refine lv_iconst (v := 0) hx hb (dq da_X12_calls 16 rfl) rfl ?_
  exact b_X12_calls_b33 E hr hlk h (lv_sub hl [0, 1] rfl) w
def f_X12_calls (x1 : Int64) (u : St) : St := if (f_X12_cut x1 (31 : Int32) (25 : Int32)) = (9 : Int64) then (if (f_X12_cut x1 (11 : Int32) (7 : Int32)) = (0 : Int64) then (f_X12_calls_b33 x1 (1 : Int32) u) else (f_X12_calls_b32 x1 u)) else (f_X12_calls_b32 x1 u)
set_option maxRecDepth 100000 in
set_option maxHeartbeats 4000000 in
theorem c_X12_calls (l : Launch) (D : va_G) (cy : ClassId × ClassId × ClassId) (ad : Nat → Nat) (x1 : Int64) (u : St) : MX (wM cy ad) D cy l yX12_calls cX12_calls 5 (none) 2 43 0 [.ref (ad 0), .long x1] u (f_X12_calls x1 u) none := by
  refine entX (by decide +kernel) (Nat.le_of_ble_eq_true rfl) ?_
  intro p e s m args below meth c ls rr A E hr hlk hl w
  have hl : lv_has ls 5 [(0, .ref (ad 0)), (1, .long x1)] := hl
  generalize h : f_X12_calls x1 u = u'
  have hx := E.1
  have hb := E.2.1
  have hown := E.2.2.2.1
  have hts := E.2.2.2.2
  refine lv_lload_n hx hb (dq da_X12_calls 0 rfl) rfl (lv_at hl 1 rfl) ?_
  refine lv_bipush (v := 31) hx hb (dq da_X12_calls 1 rfl) rfl ?_
  refine lv_bipush (v := 25) hx hb (dq da_X12_calls 2 rfl) rfl ?_
  refine callP E (c_X12_cut l _ _ _ ) w_1384 w_1385 w_10 w_1386 hd_X12_cut rfl hl.1 rfl (Nat.le_of_ble_eq_true rfl) ⟨Nat.le_of_ble_eq_true rfl, Nat.le_of_ble_eq_true rfl⟩ (by decide) (dq da_X12_calls 3 rfl) ?_
  refine lv_ldc2 hx hb hown (hts _ w_1635) (dq da_X12_calls 4 rfl) ?_
  refine lc_ne (tgt := 32) hx hb (dq da_X12_calls 5 rfl) (dq da_X12_calls 6 rfl) (by decide) (fun c1 => ?_) (fun c1 => ?_)
  · have h := ie c1 h
    exact b_X12_calls_b32 E hr hlk h (lv_sub hl [0, 1] rfl) w
  · have h := it c1 h
    refine lv_lload_n hx hb (dq da_X12_calls 7 rfl) rfl (lv_at hl 1 rfl) ?_
    refine lv_bipush (v := 11) hx hb (dq da_X12_calls 8 rfl) rfl ?_
    refine lv_bipush (v := 7) hx hb (dq da_X12_calls 9 rfl) rfl ?_
    refine callP E (c_X12_cut l _ _ _ ) w_1384 w_1385 w_10 w_1386 hd_X12_cut rfl hl.1 rfl (Nat.le_of_ble_eq_true rfl) ⟨Nat.le_of_ble_eq_true rfl, Nat.le_of_ble_eq_true rfl⟩ (by decide) (dq da_X12_calls 10 rfl) ?_
    refine lv_lconst (v := 0) hx hb (dq da_X12_calls 11 rfl) rfl ?_
    refine lc_ne (tgt := 32) hx hb (dq da_X12_calls 12 rfl) (dq da_X12_calls 13 rfl) (by decide) (fun c22 => ?_) (fun c22 => ?_)
    · have h := ie c22 h
      exact b_X12_calls_b32 E hr hlk h (lv_sub hl [0, 1] rfl) w
    · have h := it c22 h
      refine lv_iconst (v := 1) hx hb (dq da_X12_calls 14 rfl) rfl ?_
      refine lv_goto (tgt := 33) hx hb (dq da_X12_calls 15 rfl) (by decide) ?_
      exact b_X12_calls_b33 E hr hlk h (lv_sub hl [0, 1] rfl) w
def dl_X12_systems : List (Nat × Instr × Nat) := [(0, .iload_n 3, 1), (1, .ifCond .ne 9, 3), (4, .aload_n 0, 1), (5, .lload_n 1, 1), (6, .invokevirtual 460, 3), (9, .return_, 1), (10, .lload_n 1, 1), (11, .bipush 31, 2), (13, .bipush 20, 2), (15, .invokestatic 196, 3), (18, .l2i, 1), (19, .istore 6, 2), (21, .lload_n 1, 1), (22, .bipush 19, 2), (24, .bipush 15, 2), (26, .invokestatic 196, 3), (29, .l2i, 1), (30, .istore 7, 2), (32, .iload_n 3, 1), (33, .iconst 1, 1), (34, .if_icmp .eq 13, 3), (37, .iload_n 3, 1), (38, .iconst 5, 1), (39, .if_icmp .eq 8, 3), (42, .iload 7, 2), (44, .ifCond .le 7, 3), (47, .iconst 1, 1), (48, .goto 4, 3), (51, .iconst 0, 1), (52, .istore 8, 2), (54, .iload_n 3, 1), (55, .iconst 4, 1), (56, .if_icmp .eq 14, 3), (59, .aload_n 0, 1), (60, .iload 6, 2), (62, .iload 8, 2), (64, .invokevirtual 463, 3), (67, .ifCond .ne 8, 3), (70, .aload_n 0, 1), (71, .invokevirtual 396, 3), (74, .return_, 1), (75, .aload_n 0, 1), (76, .iload 6, 2), (78, .invokevirtual 467, 3), (81, .lstore 9, 2), (83, .iload_n 3, 1), (84, .iconst 4, 1), (85, .if_icmp .le 9, 3), (88, .iload 7, 2), (90, .i2l, 1), (91, .goto 5, 3), (94, .lload 4, 2), (96, .lstore 11, 2), (98, .iload 8, 2), (100, .ifCond .eq 45, 3), (103, .aload_n 0, 1), (104, .iload 6, 2), (106, .iload_n 3, 1), (107, .iconst 4, 1), (108, .irem, 1), (109, .iconst 1, 1), (110, .if_icmp .ne 8, 3), (113, .lload 11, 2), (115, .goto 27, 3), (118, .iload_n 3, 1), (119, .iconst 4, 1), (120, .irem, 1), (121, .iconst 2, 1), (122, .if_icmp .ne 11, 3), (125, .lload 9, 2), (127, .lload 11, 2), (129, .lor, 1), (130, .goto 12, 3), (133, .lload 9, 2), (135, .lload 11, 2), (137, .ldc2_w 28, 3), (140, .lxor, 1), (141, .land, 1), (142, .invokevirtual 470, 3), (145, .aload_n 0, 1), (146, .lload_n 1, 1), (147, .lload 9, 2), (149, .invokevirtual 392, 3), (152, .return_, 1)]
theorem da_X12_systems : dkL cX12_systems dl_X12_systems = true := by decide +kernel
def f_X12_systems_b70 (u : St) : Option (St) := some (f_X12_illegal u)
set_option maxRecDepth 100000 in
set_option maxHeartbeats 4000000 in
theorem b_X12_systems_b70 {p : Program} {l : Launch} {e : Env} {s : State} {m : MethodId} {args : Array Value} {below : List Frame} {meth : Method} {c : Code} {D : va_G} {cy : ClassId × ClassId × ClassId} {ad : Nat → Nat} {A : Nat → Prop} (E : CallFix p m c cX12_systems 13 s args gw RX12) (hr : meth.sig.returnType = none) (hlk : meth.locks = false) {u : St} {u' : St} (h : f_X12_systems_b70 u = some u') {ls : Array Slot} {H : Heap} {locs : List Loc} {rr : Nat → Nat} (hl : lv_has ls 13 [(0, .ref (ad 0))]) (w : WX (wM cy ad) D cy rr u A s H locs) : Wx (wM cy ad) D p l e 3 70 0 s m args below meth c A u' none H locs 0 70 ls [] := by
  have hx := E.1
  have hb := E.2.1
  have hown := E.2.2.2.1
  have hts := E.2.2.2.2
  refine lv_aload_n hx hb (dq da_X12_systems 38 rfl) rfl (lv_at hl 0 rfl) ?_
  refine cV0 E (c_X12_illegal l D cy ad _ ) w_1523 w_1525 w_p66 w_10 w_1526 rfl hd_X12_illegal rfl hl.1 rfl (Nat.le_of_ble_eq_true rfl) ⟨Nat.le_of_ble_eq_true rfl, Nat.le_of_ble_eq_true rfl⟩ (by decide) w (rc_wM_0 w) (dq da_X12_systems 39 rfl) (fun H locs rr w => ?_)
  exact xret_v E hr hlk w (by decide) (os h) (dq da_X12_systems 40 rfl)
def f_X12_systems_b145 (x1 : Int64) (x9 : Int64) (u : St) : Option (St) := (f_X12_gives x1 x9 u).bind (fun y11 => some y11)
set_option maxRecDepth 100000 in
set_option maxHeartbeats 4000000 in
theorem b_X12_systems_b145 {p : Program} {l : Launch} {e : Env} {s : State} {m : MethodId} {args : Array Value} {below : List Frame} {meth : Method} {c : Code} {D : va_G} {cy : ClassId × ClassId × ClassId} {ad : Nat → Nat} {A : Nat → Prop} (E : CallFix p m c cX12_systems 13 s args gw RX12) (hr : meth.sig.returnType = none) (hlk : meth.locks = false) {x1 : Int64} {x9 : Int64} {u : St} {u' : St} (h : f_X12_systems_b145 x1 x9 u = some u') {ls : Array Slot} {H : Heap} {locs : List Loc} {rr : Nat → Nat} (hl : lv_has ls 13 [(0, .ref (ad 0)), (1, .long x1), (9, .long x9)]) (w : WX (wM cy ad) D cy rr u A s H locs) : Wx (wM cy ad) D p l e 3 70 0 s m args below meth c A u' none H locs 0 145 ls [] := by
  have hx := E.1
  have hb := E.2.1
  have hown := E.2.2.2.1
  have hts := E.2.2.2.2
  refine lv_aload_n hx hb (dq da_X12_systems 79 rfl) rfl (lv_at hl 0 rfl) ?_
  refine lv_lload_n hx hb (dq da_X12_systems 80 rfl) rfl (lv_at hl 1 rfl) ?_
  refine lv_lload hx hb (dq da_X12_systems 81 rfl) (lv_at hl 2 rfl) ?_
  obtain ⟨y11, hy12, h⟩ := ob h
  refine cV0 E (c_X12_gives l D cy ad _ _ _ hy12) w_1519 w_1521 w_p65 w_10 w_1522 rfl hd_X12_gives rfl hl.1 rfl (Nat.le_of_ble_eq_true rfl) ⟨Nat.le_of_ble_eq_true rfl, Nat.le_of_ble_eq_true rfl⟩ (by decide) w (rc_wM_0 w) (dq da_X12_systems 82 rfl) (fun H locs rr w => ?_)
  exact xret_v E hr hlk w (by decide) (os h) (dq da_X12_systems 83 rfl)
def f_X12_systems_b142 (x1 : Int64) (x9 : Int64) (s0 : Int64) (s1 : Int32) (u : St) : Option (St) := f_X12_systems_b145 x1 x9 (f_X12_writeControl s1 s0 u)
set_option maxRecDepth 100000 in
set_option maxHeartbeats 4000000 in
theorem b_X12_systems_b142 {p : Program} {l : Launch} {e : Env} {s : State} {m : MethodId} {args : Array Value} {below : List Frame} {meth : Method} {c : Code} {D : va_G} {cy : ClassId × ClassId × ClassId} {ad : Nat → Nat} {A : Nat → Prop} (E : CallFix p m c cX12_systems 13 s args gw RX12) (hr : meth.sig.returnType = none) (hlk : meth.locks = false) {x1 : Int64} {x9 : Int64} {s0 : Int64} {s1 : Int32} {u : St} {u' : St} (h : f_X12_systems_b142 x1 x9 s0 s1 u = some u') {ls : Array Slot} {H : Heap} {locs : List Loc} {rr : Nat → Nat} (hl : lv_has ls 13 [(0, .ref (ad 0)), (1, .long x1), (9, .long x9)]) (w : WX (wM cy ad) D cy rr u A s H locs) : Wx (wM cy ad) D p l e 3 70 0 s m args below meth c A u' none H locs 0 142 ls [.long s0, .int s1, .ref (ad 0)] := by
  have hx := E.1
  have hb := E.2.1
  have hown := E.2.2.2.1
  have hts := E.2.2.2.2
  refine cV0 E (c_X12_writeControl l D cy ad _ _ _ ) w_1375 w_1377 w_p52 w_10 w_1378 rfl hd_X12_writeControl rfl hl.1 rfl (Nat.le_of_ble_eq_true rfl) ⟨Nat.le_of_ble_eq_true rfl, Nat.le_of_ble_eq_true rfl⟩ (by decide) w (rc_wM_0 w) (dq da_X12_systems 78 rfl) (fun H locs rr w => ?_)
  exact b_X12_systems_b145 E hr hlk h (lv_sub hl [0, 1, 2] rfl) w
def f_X12_systems_b96 (x1 : Int64) (x3 : Int32) (x6 : Int32) (x8 : Int32) (x9 : Int64) (s0 : Int64) (u : St) : Option (St) := if x8 = (0 : Int32) then (f_X12_systems_b145 x1 x9 u) else (if (x3 - x3 / (4 : Int32) * (4 : Int32)) = (1 : Int32) then (f_X12_systems_b142 x1 x9 s0 x6 u) else (if (x3 - x3 / (4 : Int32) * (4 : Int32)) = (2 : Int32) then (f_X12_systems_b142 x1 x9 (x9 ||| s0) x6 u) else (f_X12_systems_b142 x1 x9 (x9 &&& (s0 ^^^ (-1 : Int64))) x6 u)))
set_option maxRecDepth 100000 in
set_option maxHeartbeats 4000000 in
theorem b_X12_systems_b96 {p : Program} {l : Launch} {e : Env} {s : State} {m : MethodId} {args : Array Value} {below : List Frame} {meth : Method} {c : Code} {D : va_G} {cy : ClassId × ClassId × ClassId} {ad : Nat → Nat} {A : Nat → Prop} (E : CallFix p m c cX12_systems 13 s args gw RX12) (hr : meth.sig.returnType = none) (hlk : meth.locks = false) {x1 : Int64} {x3 : Int32} {x6 : Int32} {x8 : Int32} {x9 : Int64} {s0 : Int64} {u : St} {u' : St} (h : f_X12_systems_b96 x1 x3 x6 x8 x9 s0 u = some u') {ls : Array Slot} {H : Heap} {locs : List Loc} {rr : Nat → Nat} (hl : lv_has ls 13 [(0, .ref (ad 0)), (1, .long x1), (3, .int x3), (6, .int x6), (8, .int x8), (9, .long x9)]) (w : WX (wM cy ad) D cy rr u A s H locs) : Wx (wM cy ad) D p l e 3 70 0 s m args below meth c A u' none H locs 0 96 ls [.long s0] := by
  have hx := E.1
  have hb := E.2.1
  have hown := E.2.2.2.1
  have hts := E.2.2.2.2
  refine lv_lstore (lv' := [(11, .long s0), (0, .ref (ad 0)), (1, .long x1), (3, .int x3), (6, .int x6), (8, .int x8), (9, .long x9)]) hx hb (dq da_X12_systems 52 rfl) hl (by decide) rfl (fun ls hl => ?_)
  refine lv_iload hx hb (dq da_X12_systems 53 rfl) (lv_at hl 5 rfl) ?_
  refine lv_if_eq (tgt := 145) hx hb (dq da_X12_systems 54 rfl) (by decide) (fun c10 => ?_) (fun c10 => ?_)
  · have h := it c10 h
    exact b_X12_systems_b145 E hr hlk h (lv_sub hl [1, 2, 6] rfl) w
  · have h := ie c10 h
    refine lv_aload_n hx hb (dq da_X12_systems 55 rfl) rfl (lv_at hl 1 rfl) ?_
    refine lv_iload hx hb (dq da_X12_systems 56 rfl) (lv_at hl 4 rfl) ?_
    refine lv_iload_n hx hb (dq da_X12_systems 57 rfl) rfl (lv_at hl 3 rfl) ?_
    refine lv_iconst (v := 4) hx hb (dq da_X12_systems 58 rfl) rfl ?_
    refine lv_irem hx hb (dq da_X12_systems 59 rfl) (by decide) ?_
    refine lv_iconst (v := 1) hx hb (dq da_X12_systems 60 rfl) rfl ?_
    refine lv_icmp_ne (tgt := 118) hx hb (dq da_X12_systems 61 rfl) (by decide) (fun c13 => ?_) (fun c13 => ?_)
    · have h := ie c13 h
      refine lv_iload_n hx hb (dq da_X12_systems 64 rfl) rfl (lv_at hl 3 rfl) ?_
      refine lv_iconst (v := 4) hx hb (dq da_X12_systems 65 rfl) rfl ?_
      refine lv_irem hx hb (dq da_X12_systems 66 rfl) (by decide) ?_
      refine lv_iconst (v := 2) hx hb (dq da_X12_systems 67 rfl) rfl ?_
      refine lv_icmp_ne (tgt := 133) hx hb (dq da_X12_systems 68 rfl) (by decide) (fun c14 => ?_) (fun c14 => ?_)
      · have h := ie c14 h
        refine lv_lload hx hb (dq da_X12_systems 73 rfl) (lv_at hl 6 rfl) ?_
        refine lv_lload hx hb (dq da_X12_systems 74 rfl) (lv_at hl 0 rfl) ?_
        refine lv_ldc2 hx hb hown (hts _ w_1086) (dq da_X12_systems 75 rfl) ?_
        refine lv_lxor hx hb (dq da_X12_systems 76 rfl) ?_
        refine lv_land hx hb (dq da_X12_systems 77 rfl) ?_
        exact b_X12_systems_b142 E hr hlk h (lv_sub hl [1, 2, 6] rfl) w
      · have h := it c14 h
        refine lv_lload hx hb (dq da_X12_systems 69 rfl) (lv_at hl 6 rfl) ?_
        refine lv_lload hx hb (dq da_X12_systems 70 rfl) (lv_at hl 0 rfl) ?_
        refine lv_lor hx hb (dq da_X12_systems 71 rfl) ?_
        refine lv_goto (tgt := 142) hx hb (dq da_X12_systems 72 rfl) (by decide) ?_
        exact b_X12_systems_b142 E hr hlk h (lv_sub hl [1, 2, 6] rfl) w
    · have h := it c13 h
      refine lv_lload hx hb (dq da_X12_systems 62 rfl) (lv_at hl 0 rfl) ?_
      refine lv_goto (tgt := 142) hx hb (dq da_X12_systems 63 rfl) (by decide) ?_
      exact b_X12_systems_b142 E hr hlk h (lv_sub hl [1, 2, 6] rfl) w
def f_X12_systems_b52 (x1 : Int64) (x3 : Int32) (x4 : Int64) (x6 : Int32) (x7 : Int32) (s0 : Int32) (u : St) : Option (St) := if x3 = (4 : Int32) then (f_X12_systems_b70 u) else ((f_X12_mayControl x6 s0 u).bind (fun y4 => if y4 = (0 : Int32) then (f_X12_systems_b70 u) else ((f_X12_controlOf x6 u).bind (fun y7 => if x3 ≤ (4 : Int32) then (f_X12_systems_b96 x1 x3 x6 s0 y7 x4 u) else (f_X12_systems_b96 x1 x3 x6 s0 y7 x7.toInt64 u)))))
set_option maxRecDepth 100000 in
set_option maxHeartbeats 4000000 in
theorem b_X12_systems_b52 {p : Program} {l : Launch} {e : Env} {s : State} {m : MethodId} {args : Array Value} {below : List Frame} {meth : Method} {c : Code} {D : va_G} {cy : ClassId × ClassId × ClassId} {ad : Nat → Nat} {A : Nat → Prop} (E : CallFix p m c cX12_systems 13 s args gw RX12) (hr : meth.sig.returnType = none) (hlk : meth.locks = false) {x1 : Int64} {x3 : Int32} {x4 : Int64} {x6 : Int32} {x7 : Int32} {s0 : Int32} {u : St} {u' : St} (h : f_X12_systems_b52 x1 x3 x4 x6 x7 s0 u = some u') {ls : Array Slot} {H : Heap} {locs : List Loc} {rr : Nat → Nat} (hl : lv_has ls 13 [(0, .ref (ad 0)), (1, .long x1), (3, .int x3), (4, .long x4), (6, .int x6), (7, .int x7)]) (w : WX (wM cy ad) D cy rr u A s H locs) : Wx (wM cy ad) D p l e 3 70 0 s m args below meth c A u' none H locs 0 52 ls [.int s0] := by
  have hx := E.1
  have hb := E.2.1
  have hown := E.2.2.2.1
  have hts := E.2.2.2.2
  refine lv_istore (lv' := [(8, .int s0), (0, .ref (ad 0)), (1, .long x1), (3, .int x3), (4, .long x4), (6, .int x6), (7, .int x7)]) hx hb (dq da_X12_systems 29 rfl) hl (by decide) rfl (fun ls hl => ?_)
  refine lv_iload_n hx hb (dq da_X12_systems 30 rfl) rfl (lv_at hl 3 rfl) ?_
  refine lv_iconst (v := 4) hx hb (dq da_X12_systems 31 rfl) rfl ?_
  refine lv_icmp_eq (tgt := 70) hx hb (dq da_X12_systems 32 rfl) (by decide) (fun c3 => ?_) (fun c3 => ?_)
  · have h := it c3 h
    exact b_X12_systems_b70 E hr hlk h (lv_sub hl [1] rfl) w
  · have h := ie c3 h
    refine lv_aload_n hx hb (dq da_X12_systems 33 rfl) rfl (lv_at hl 1 rfl) ?_
    refine lv_iload hx hb (dq da_X12_systems 34 rfl) (lv_at hl 5 rfl) ?_
    refine lv_iload hx hb (dq da_X12_systems 35 rfl) (lv_at hl 0 rfl) ?_
    obtain ⟨y4, hy5, h⟩ := ob h
    refine cV1 E (c_X12_mayControl l D cy ad _ _ _ hy5) w_1640 w_1642 w_p84 w_10 w_1643 rfl hd_X12_mayControl rfl hl.1 rfl (Nat.le_of_ble_eq_true rfl) ⟨Nat.le_of_ble_eq_true rfl, Nat.le_of_ble_eq_true rfl⟩ (by decide) w (rc_wM_0 w) (dq da_X12_systems 36 rfl) (fun H locs rr w => ?_)
    refine lv_if_ne (tgt := 75) hx hb (dq da_X12_systems 37 rfl) (by decide) (fun c6 => ?_) (fun c6 => ?_)
    · have h := ie c6 h
      refine lv_aload_n hx hb (dq da_X12_systems 41 rfl) rfl (lv_at hl 1 rfl) ?_
      refine lv_iload hx hb (dq da_X12_systems 42 rfl) (lv_at hl 5 rfl) ?_
      obtain ⟨y7, hy8, h⟩ := ob h
      refine cV1 E (c_X12_controlOf l D cy ad _ _ hy8) w_1348 w_1350 w_p49 w_10 w_1351 rfl hd_X12_controlOf rfl hl.1 rfl (Nat.le_of_ble_eq_true rfl) ⟨Nat.le_of_ble_eq_true rfl, Nat.le_of_ble_eq_true rfl⟩ (by decide) w (rc_wM_0 w) (dq da_X12_systems 43 rfl) (fun H locs rr w => ?_)
      refine lv_lstore (lv' := [(9, .long y7), (8, .int s0), (0, .ref (ad 0)), (1, .long x1), (3, .int x3), (4, .long x4), (6, .int x6), (7, .int x7)]) hx hb (dq da_X12_systems 44 rfl) hl (by decide) rfl (fun ls hl => ?_)
      refine lv_iload_n hx hb (dq da_X12_systems 45 rfl) rfl (lv_at hl 4 rfl) ?_
      refine lv_iconst (v := 4) hx hb (dq da_X12_systems 46 rfl) rfl ?_
      refine lv_icmp_le (tgt := 94) hx hb (dq da_X12_systems 47 rfl) (by decide) (fun c9 => ?_) (fun c9 => ?_)
      · have h := it c9 h
        refine lv_lload hx hb (dq da_X12_systems 51 rfl) (lv_at hl 5 rfl) ?_
        exact b_X12_systems_b96 E hr hlk h (lv_sub hl [2, 3, 4, 6, 1, 0] rfl) w
      · have h := ie c9 h
        refine lv_iload hx hb (dq da_X12_systems 48 rfl) (lv_at hl 7 rfl) ?_
        refine lv_i2l (v := x7.toInt64) hx hb (dq da_X12_systems 49 rfl) rfl ?_
        refine lv_goto (tgt := 96) hx hb (dq da_X12_systems 50 rfl) (by decide) ?_
        exact b_X12_systems_b96 E hr hlk h (lv_sub hl [2, 3, 4, 6, 1, 0] rfl) w
    · have h := it c6 h
      exact b_X12_systems_b70 E hr hlk h (lv_sub hl [1] rfl) w
def f_X12_systems_b47 (x1 : Int64) (x3 : Int32) (x4 : Int64) (x6 : Int32) (x7 : Int32) (u : St) : Option (St) := f_X12_systems_b52 x1 x3 x4 x6 x7 (1 : Int32) u
set_option maxRecDepth 100000 in
set_option maxHeartbeats 4000000 in
theorem b_X12_systems_b47 {p : Program} {l : Launch} {e : Env} {s : State} {m : MethodId} {args : Array Value} {below : List Frame} {meth : Method} {c : Code} {D : va_G} {cy : ClassId × ClassId × ClassId} {ad : Nat → Nat} {A : Nat → Prop} (E : CallFix p m c cX12_systems 13 s args gw RX12) (hr : meth.sig.returnType = none) (hlk : meth.locks = false) {x1 : Int64} {x3 : Int32} {x4 : Int64} {x6 : Int32} {x7 : Int32} {u : St} {u' : St} (h : f_X12_systems_b47 x1 x3 x4 x6 x7 u = some u') {ls : Array Slot} {H : Heap} {locs : List Loc} {rr : Nat → Nat} (hl : lv_has ls 13 [(0, .ref (ad 0)), (1, .long x1), (3, .int x3), (4, .long x4), (6, .int x6), (7, .int x7)]) (w : WX (wM cy ad) D cy rr u A s H locs) : Wx (wM cy ad) D p l e 3 70 0 s m args below meth c A u' none H locs 0 47 ls [] := by
  have hx := E.1
  have hb := E.2.1
  have hown := E.2.2.2.1
  have hts := E.2.2.2.2
  refine lv_iconst (v := 1) hx hb (dq da_X12_systems 26 rfl) rfl ?_
  refine lv_goto (tgt := 52) hx hb (dq da_X12_systems 27 rfl) (by decide) ?_
  exact b_X12_systems_b52 E hr hlk h (lv_sub hl [0, 1, 2, 3, 4, 5] rfl) w
def f_X12_systems (x1 : Int64) (x3 : Int32) (x4 : Int64) (u : St) : Option (St) := if x3 = (0 : Int32) then (some (f_X12_calls x1 u)) else (if x3 = (1 : Int32) then (f_X12_systems_b47 x1 x3 x4 ((f_X12_cut x1 (31 : Int32) (20 : Int32)).toInt32) ((f_X12_cut x1 (19 : Int32) (15 : Int32)).toInt32) u) else (if x3 = (5 : Int32) then (f_X12_systems_b47 x1 x3 x4 ((f_X12_cut x1 (31 : Int32) (20 : Int32)).toInt32) ((f_X12_cut x1 (19 : Int32) (15 : Int32)).toInt32) u) else (if (f_X12_cut x1 (19 : Int32) (15 : Int32)).toInt32 ≤ (0 : Int32) then (f_X12_systems_b52 x1 x3 x4 ((f_X12_cut x1 (31 : Int32) (20 : Int32)).toInt32) ((f_X12_cut x1 (19 : Int32) (15 : Int32)).toInt32) (0 : Int32) u) else (f_X12_systems_b47 x1 x3 x4 ((f_X12_cut x1 (31 : Int32) (20 : Int32)).toInt32) ((f_X12_cut x1 (19 : Int32) (15 : Int32)).toInt32) u))))
set_option maxRecDepth 100000 in
set_option maxHeartbeats 4000000 in
theorem c_X12_systems (l : Launch) (D : va_G) (cy : ClassId × ClassId × ClassId) (ad : Nat → Nat) (x1 : Int64) (x3 : Int32) (x4 : Int64) (u : St) {u' : St} (h : f_X12_systems x1 x3 x4 u = some u') : MX (wM cy ad) D cy l yX12_systems cX12_systems 13 (none) 3 70 0 [.ref (ad 0), .long x1, .int x3, .long x4] u u' none := by
  refine entX (by decide +kernel) (Nat.le_of_ble_eq_true rfl) ?_
  intro p e s m args below meth c ls rr A E hr hlk hl w
  have hl : lv_has ls 13 [(0, .ref (ad 0)), (1, .long x1), (3, .int x3), (4, .long x4)] := hl
  have hx := E.1
  have hb := E.2.1
  have hown := E.2.2.2.1
  have hts := E.2.2.2.2
  refine lv_iload_n hx hb (dq da_X12_systems 0 rfl) rfl (lv_at hl 2 rfl) ?_
  refine lv_if_ne (tgt := 10) hx hb (dq da_X12_systems 1 rfl) (by decide) (fun c1 => ?_) (fun c1 => ?_)
  · have h := ie c1 h
    refine lv_lload_n hx hb (dq da_X12_systems 6 rfl) rfl (lv_at hl 1 rfl) ?_
    refine lv_bipush (v := 31) hx hb (dq da_X12_systems 7 rfl) rfl ?_
    refine lv_bipush (v := 20) hx hb (dq da_X12_systems 8 rfl) rfl ?_
    refine callP E (c_X12_cut l _ _ _ ) w_1384 w_1385 w_10 w_1386 hd_X12_cut rfl hl.1 rfl (Nat.le_of_ble_eq_true rfl) ⟨Nat.le_of_ble_eq_true rfl, Nat.le_of_ble_eq_true rfl⟩ (by decide) (dq da_X12_systems 9 rfl) ?_
    refine lv_l2i (v := (f_X12_cut x1 (31 : Int32) (20 : Int32)).toInt32) hx hb (dq da_X12_systems 10 rfl) rfl ?_
    refine lv_istore (lv' := [(6, .int ((f_X12_cut x1 (31 : Int32) (20 : Int32)).toInt32)), (0, .ref (ad 0)), (1, .long x1), (3, .int x3), (4, .long x4)]) hx hb (dq da_X12_systems 11 rfl) hl (by decide) rfl (fun ls hl => ?_)
    refine lv_lload_n hx hb (dq da_X12_systems 12 rfl) rfl (lv_at hl 2 rfl) ?_
    refine lv_bipush (v := 19) hx hb (dq da_X12_systems 13 rfl) rfl ?_
    refine lv_bipush (v := 15) hx hb (dq da_X12_systems 14 rfl) rfl ?_
    refine callP E (c_X12_cut l _ _ _ ) w_1384 w_1385 w_10 w_1386 hd_X12_cut rfl hl.1 rfl (Nat.le_of_ble_eq_true rfl) ⟨Nat.le_of_ble_eq_true rfl, Nat.le_of_ble_eq_true rfl⟩ (by decide) (dq da_X12_systems 15 rfl) ?_
    refine lv_l2i (v := (f_X12_cut x1 (19 : Int32) (15 : Int32)).toInt32) hx hb (dq da_X12_systems 16 rfl) rfl ?_
    refine lv_istore (lv' := [(7, .int ((f_X12_cut x1 (19 : Int32) (15 : Int32)).toInt32)), (6, .int ((f_X12_cut x1 (31 : Int32) (20 : Int32)).toInt32)), (0, .ref (ad 0)), (1, .long x1), (3, .int x3), (4, .long x4)]) hx hb (dq da_X12_systems 17 rfl) hl (by decide) rfl (fun ls hl => ?_)
    refine lv_iload_n hx hb (dq da_X12_systems 18 rfl) rfl (lv_at hl 4 rfl) ?_
    refine lv_iconst (v := 1) hx hb (dq da_X12_systems 19 rfl) rfl ?_
    refine lv_icmp_eq (tgt := 47) hx hb (dq da_X12_systems 20 rfl) (by decide) (fun c2 => ?_) (fun c2 => ?_)
    · have h := it c2 h
      exact b_X12_systems_b47 E hr hlk h (lv_sub hl [2, 3, 4, 5, 1, 0] rfl) w
    · have h := ie c2 h
      refine lv_iload_n hx hb (dq da_X12_systems 21 rfl) rfl (lv_at hl 4 rfl) ?_
      refine lv_iconst (v := 5) hx hb (dq da_X12_systems 22 rfl) rfl ?_
      refine lv_icmp_eq (tgt := 47) hx hb (dq da_X12_systems 23 rfl) (by decide) (fun c15 => ?_) (fun c15 => ?_)
      · have h := it c15 h
        exact b_X12_systems_b47 E hr hlk h (lv_sub hl [2, 3, 4, 5, 1, 0] rfl) w
      · have h := ie c15 h
        refine lv_iload hx hb (dq da_X12_systems 24 rfl) (lv_at hl 0 rfl) ?_
        refine lv_if_le (tgt := 51) hx hb (dq da_X12_systems 25 rfl) (by decide) (fun c16 => ?_) (fun c16 => ?_)
        · have h := it c16 h
          refine lv_iconst (v := 0) hx hb (dq da_X12_systems 28 rfl) rfl ?_
          exact b_X12_systems_b52 E hr hlk h (lv_sub hl [2, 3, 4, 5, 1, 0] rfl) w
        · have h := ie c16 h
          exact b_X12_systems_b47 E hr hlk h (lv_sub hl [2, 3, 4, 5, 1, 0] rfl) w
  · have h := it c1 h
    refine lv_aload_n hx hb (dq da_X12_systems 2 rfl) rfl (lv_at hl 0 rfl) ?_
    refine lv_lload_n hx hb (dq da_X12_systems 3 rfl) rfl (lv_at hl 1 rfl) ?_
    refine cV0 E (c_X12_calls l D cy ad _ _ ) w_1631 w_1633 w_p83 w_10 w_1634 rfl hd_X12_calls rfl hl.1 rfl (Nat.le_of_ble_eq_true rfl) ⟨Nat.le_of_ble_eq_true rfl, Nat.le_of_ble_eq_true rfl⟩ (by decide) w (rc_wM_0 w) (dq da_X12_systems 4 rfl) (fun H locs rr w => ?_)
    exact xret_v E hr hlk w (by decide) (os h) (dq da_X12_systems 5 rfl)
def dl_X12_works : List (Nat × Instr × Nat) := [(0, .lload_n 1, 1), (1, .bipush 14, 2), (3, .bipush 12, 2), (5, .invokestatic 196, 3), (8, .l2i, 1), (9, .istore_n 3, 1), (10, .aload_n 0, 1), (11, .getfield 14, 3), (14, .lload_n 1, 1), (15, .bipush 19, 2), (17, .bipush 15, 2), (19, .invokestatic 196, 3), (22, .l2i, 1), (23, .laload, 1), (24, .lstore 4, 2), (26, .aload_n 0, 1), (27, .getfield 14, 3), (30, .lload_n 1, 1), (31, .bipush 24, 2), (33, .bipush 20, 2), (35, .invokestatic 196, 3), (38, .l2i, 1), (39, .laload, 1), (40, .lstore 6, 2), (42, .lload_n 1, 1), (43, .bipush 20, 2), (45, .lshr, 1), (46, .bipush 12, 2), (48, .invokestatic 205, 3), (51, .lstore 8, 2), (53, .lload_n 1, 1), (54, .ldc2_w 388, 3), (57, .land, 1), (58, .bipush 32, 2), (60, .invokestatic 205, 3), (63, .lstore 10, 2), (65, .lload_n 1, 1), (66, .ldc2_w 390, 3), (69, .land, 1), (70, .l2i, 1), (71, .lookupswitch 418 #[(3, 279), (15, 395), (19, 330), (23, 131), (27, 343), (35, 293), (47, 382), (51, 356), (55, 121), (59, 369), (99, 266), (103, 224), (111, 146), (115, 407)], 121), (192, .aload_n 0, 1), (193, .lload_n 1, 1), (194, .lload 10, 2), (196, .invokevirtual 392, 3), (199, .goto 294, 3), (202, .aload_n 0, 1), (203, .lload_n 1, 1), (204, .aload_n 0, 1), (205, .getfield 20, 3), (208, .lload 10, 2), (210, .ladd, 1), (211, .invokevirtual 392, 3), (214, .goto 279, 3), (217, .aload_n 0, 1), (218, .lload_n 1, 1), (219, .aload_n 0, 1), (220, .getfield 20, 3), (223, .aload_n 0, 1), (224, .getfield 371, 3), (227, .i2l, 1), (228, .ladd, 1), (229, .invokevirtual 392, 3), (232, .aload_n 0, 1), (233, .aload_n 0, 1), (234, .getfield 20, 3), (237, .lload_n 1, 1), (238, .bipush 31, 2), (240, .bipush 31, 2), (242, .invokestatic 196, 3), (245, .bipush 20, 2), (247, .lshl, 1), (248, .lload_n 1, 1), (249, .bipush 19, 2), (251, .bipush 12, 2), (253, .invokestatic 196, 3), (256, .bipush 12, 2), (258, .lshl, 1), (259, .lor, 1), (260, .lload_n 1, 1), (261, .bipush 20, 2), (263, .bipush 20, 2), (265, .invokestatic 196, 3), (268, .bipush 11, 2), (270, .lshl, 1), (271, .lor, 1), (272, .lload_n 1, 1), (273, .bipush 30, 2), (275, .bipush 21, 2), (277, .invokestatic 196, 3), (280, .iconst 1, 1), (281, .lshl, 1), (282, .lor, 1), (283, .bipush 21, 2), (285, .invokestatic 205, 3), (288, .ladd, 1), (289, .putfield 382, 3), (292, .goto 201, 3), (295, .iload_n 3, 1), (296, .ifCond .eq 10, 3), (299, .aload_n 0, 1), (300, .invokevirtual 396, 3), (303, .goto 190, 3), (306, .aload_n 0, 1), (307, .lload_n 1, 1), (308, .aload_n 0, 1), (309, .getfield 20, 3), (312, .aload_n 0, 1), (313, .getfield 371, 3), (316, .i2l, 1), (317, .ladd, 1), (318, .invokevirtual 392, 3), (321, .aload_n 0, 1), (322, .lload 4, 2), (324, .lload 8, 2), (326, .ladd, 1), (327, .ldc2_w 331, 3), (330, .land, 1), (331, .putfield 382, 3), (334, .goto 159, 3), (337, .aload_n 0, 1), (338, .lload_n 1, 1), (339, .iload_n 3, 1), (340, .lload 4, 2), (342, .lload 6, 2), (344, .invokevirtual 399, 3), (347, .goto 146, 3), (350, .aload_n 0, 1), (351, .lload_n 1, 1), (352, .iload_n 3, 1), (353, .lload 4, 2), (355, .lload 8, 2), (357, .ladd, 1), (358, .invokevirtual 403, 3), (361, .goto 132, 3), (364, .aload_n 0, 1), (365, .iload_n 3, 1), (366, .lload 4, 2), (368, .lload_n 1, 1), (369, .bipush 31, 2), (371, .bipush 25, 2), (373, .invokestatic 196, 3), (376, .iconst 5, 1), (377, .lshl, 1), (378, .lload_n 1, 1), (379, .bipush 11, 2), (381, .bipush 7, 2), (383, .invokestatic 196, 3), (386, .lor, 1), (387, .bipush 12, 2), (389, .invokestatic 205, 3), (392, .ladd, 1), (393, .lload 6, 2), (395, .invokevirtual 406, 3), (398, .goto 95, 3), (401, .aload_n 0, 1), (402, .lload_n 1, 1), (403, .iload_n 3, 1), (404, .lload 4, 2), (406, .lload 8, 2), (408, .invokevirtual 410, 3), (411, .goto 82, 3), (414, .aload_n 0, 1), (415, .lload_n 1, 1), (416, .iload_n 3, 1), (417, .lload 4, 2), (419, .lload 8, 2), (421, .invokevirtual 413, 3), (424, .goto 69, 3), (427, .aload_n 0, 1), (428, .lload_n 1, 1), (429, .iload_n 3, 1), (430, .lload 4, 2), (432, .lload 6, 2), (434, .invokevirtual 416, 3), (437, .goto 56, 3), (440, .aload_n 0, 1), (441, .lload_n 1, 1), (442, .iload_n 3, 1), (443, .lload 4, 2), (445, .lload 6, 2), (447, .invokevirtual 419, 3), (450, .goto 43, 3), (453, .aload_n 0, 1), (454, .lload_n 1, 1), (455, .iload_n 3, 1), (456, .lload 4, 2), (458, .lload 6, 2), (460, .invokevirtual 422, 3), (463, .goto 30, 3), (466, .iload_n 3, 1), (467, .iconst 1, 1), (468, .if_icmp .le 25, 3), (471, .aload_n 0, 1), (472, .invokevirtual 396, 3), (475, .goto 18, 3), (478, .aload_n 0, 1), (479, .lload_n 1, 1), (480, .iload_n 3, 1), (481, .lload 4, 2), (483, .invokevirtual 425, 3), (486, .goto 7, 3), (489, .aload_n 0, 1), (490, .invokevirtual 396, 3), (493, .return_, 1)]
theorem da_X12_works : dkL cX12_works dl_X12_works = true := by decide +kernel
def f_X12_works (x1 : Int64) (u : St) : Option (St) := if inB ((f_X12_cut x1 (19 : Int32) (15 : Int32)).toInt32) (gN u 1) then (if inB ((f_X12_cut x1 (24 : Int32) (20 : Int32)).toInt32) (gN u 1) then (if (x1 &&& (127 : Int64)).toInt32 = (3 : Int32) then ((f_X12_loads x1 ((f_X12_cut x1 (14 : Int32) (12 : Int32)).toInt32) ((gB u 0 ((f_X12_cut x1 (19 : Int32) (15 : Int32)).toInt32).toNatClampNeg) + (f_X12_signed (j_lshr x1 (20 : Int32)) (12 : Int32))) u).bind (fun y4 => some y4)) else if (x1 &&& (127 : Int64)).toInt32 = (15 : Int32) then (if (f_X12_cut x1 (14 : Int32) (12 : Int32)).toInt32 ≤ (1 : Int32) then (some u) else (some (f_X12_illegal u))) else if (x1 &&& (127 : Int64)).toInt32 = (19 : Int32) then ((f_X12_immediates x1 ((f_X12_cut x1 (14 : Int32) (12 : Int32)).toInt32) (gB u 0 ((f_X12_cut x1 (19 : Int32) (15 : Int32)).toInt32).toNatClampNeg) (f_X12_signed (j_lshr x1 (20 : Int32)) (12 : Int32)) u).bind (fun y9 => some y9)) else if (x1 &&& (127 : Int64)).toInt32 = (23 : Int32) then ((f_X12_gives x1 ((gL u 0) + (f_X12_signed (x1 &&& (4294963200 : Int64)) (32 : Int32))) u).bind (fun y12 => some y12)) else if (x1 &&& (127 : Int64)).toInt32 = (27 : Int32) then ((f_X12_shortImmediates x1 ((f_X12_cut x1 (14 : Int32) (12 : Int32)).toInt32) (gB u 0 ((f_X12_cut x1 (19 : Int32) (15 : Int32)).toInt32).toNatClampNeg) (f_X12_signed (j_lshr x1 (20 : Int32)) (12 : Int32)) u).bind (fun y15 => some y15)) else if (x1 &&& (127 : Int64)).toInt32 = (35 : Int32) then ((f_X12_stores ((f_X12_cut x1 (14 : Int32) (12 : Int32)).toInt32) ((gB u 0 ((f_X12_cut x1 (19 : Int32) (15 : Int32)).toInt32).toNatClampNeg) + (f_X12_signed ((j_lshl (f_X12_cut x1 (31 : Int32) (25 : Int32)) (5 : Int32)) ||| (f_X12_cut x1 (11 : Int32) (7 : Int32))) (12 : Int32))) (gB u 0 ((f_X12_cut x1 (24 : Int32) (20 : Int32)).toInt32).toNatClampNeg) u).bind (fun y18 => some y18)) else if (x1 &&& (127 : Int64)).toInt32 = (47 : Int32) then ((f_X12_atomics x1 ((f_X12_cut x1 (14 : Int32) (12 : Int32)).toInt32) (gB u 0 ((f_X12_cut x1 (19 : Int32) (15 : Int32)).toInt32).toNatClampNeg) (gB u 0 ((f_X12_cut x1 (24 : Int32) (20 : Int32)).toInt32).toNatClampNeg) u).bind (fun y21 => some y21)) else if (x1 &&& (127 : Int64)).toInt32 = (51 : Int32) then ((f_X12_registers x1 ((f_X12_cut x1 (14 : Int32) (12 : Int32)).toInt32) (gB u 0 ((f_X12_cut x1 (19 : Int32) (15 : Int32)).toInt32).toNatClampNeg) (gB u 0 ((f_X12_cut x1 (24 : Int32) (20 : Int32)).toInt32).toNatClampNeg) u).bind (fun y24 => some y24)) else if (x1 &&& (127 : Int64)).toInt32 = (55 : Int32) then ((f_X12_gives x1 (f_X12_signed (x1 &&& (4294963200 : Int64)) (32 : Int32)) u).bind (fun y27 => some y27)) else if (x1 &&& (127 : Int64)).toInt32 = (59 : Int32) then ((f_X12_shortRegisters x1 ((f_X12_cut x1 (14 : Int32) (12 : Int32)).toInt32) (gB u 0 ((f_X12_cut x1 (19 : Int32) (15 : Int32)).toInt32).toNatClampNeg) (gB u 0 ((f_X12_cut x1 (24 : Int32) (20 : Int32)).toInt32).toNatClampNeg) u).bind (fun y30 => some y30)) else if (x1 &&& (127 : Int64)).toInt32 = (99 : Int32) then (some (f_X12_branches x1 ((f_X12_cut x1 (14 : Int32) (12 : Int32)).toInt32) (gB u 0 ((f_X12_cut x1 (19 : Int32) (15 : Int32)).toInt32).toNatClampNeg) (gB u 0 ((f_X12_cut x1 (24 : Int32) (20 : Int32)).toInt32).toNatClampNeg) u)) else if (x1 &&& (127 : Int64)).toInt32 = (103 : Int32) then (if (f_X12_cut x1 (14 : Int32) (12 : Int32)).toInt32 = (0 : Int32) then ((f_X12_gives x1 ((gL u 0) + (gI u 17).toInt64) u).bind (fun y35 => some (sL y35 25 (((gB u 0 ((f_X12_cut x1 (19 : Int32) (15 : Int32)).toInt32).toNatClampNeg) + (f_X12_signed (j_lshr x1 (20 : Int32)) (12 : Int32))) &&& (-2 : Int64))))) else (some (f_X12_illegal u))) else if (x1 &&& (127 : Int64)).toInt32 = (111 : Int32) then ((f_X12_gives x1 ((gL u 0) + (gI u 17).toInt64) u).bind (fun y38 => some (sL y38 25 ((gL y38 0) + (f_X12_signed ((((j_lshl (f_X12_cut x1 (31 : Int32) (31 : Int32)) (20 : Int32)) ||| (j_lshl (f_X12_cut x1 (19 : Int32) (12 : Int32)) (12 : Int32))) ||| (j_lshl (f_X12_cut x1 (20 : Int32) (20 : Int32)) (11 : Int32))) ||| (j_lshl (f_X12_cut x1 (30 : Int32) (21 : Int32)) (1 : Int32))) (21 : Int32)))))) else if (x1 &&& (127 : Int64)).toInt32 = (115 : Int32) then ((f_X12_systems x1 ((f_X12_cut x1 (14 : Int32) (12 : Int32)).toInt32) (gB u 0 ((f_X12_cut x1 (19 : Int32) (15 : Int32)).toInt32).toNatClampNeg) u).bind (fun y41 => some y41)) else (some (f_X12_illegal u))) else none) else none
set_option maxRecDepth 100000 in
set_option maxHeartbeats 4000000 in
theorem c_X12_works (l : Launch) (D : va_G) (cy : ClassId × ClassId × ClassId) (ad : Nat → Nat) (x1 : Int64) (u : St) {u' : St} (h : f_X12_works x1 u = some u') : MX (wM cy ad) D cy l yX12_works cX12_works 12 (none) 5 132 0 [.ref (ad 0), .long x1] u u' none := by
  refine entX (by decide +kernel) (Nat.le_of_ble_eq_true rfl) ?_
  intro p e s m args below meth c ls rr A E hr hlk hl w
  have hl : lv_has ls 12 [(0, .ref (ad 0)), (1, .long x1)] := hl
  have hx := E.1
  have hb := E.2.1
  have hown := E.2.2.2.1
  have hts := E.2.2.2.2
  refine lv_lload_n hx hb (dq da_X12_works 0 rfl) rfl (lv_at hl 1 rfl) ?_
  refine lv_bipush (v := 14) hx hb (dq da_X12_works 1 rfl) rfl ?_
  refine lv_bipush (v := 12) hx hb (dq da_X12_works 2 rfl) rfl ?_
  refine callP E (c_X12_cut l _ _ _ ) w_1384 w_1385 w_10 w_1386 hd_X12_cut rfl hl.1 rfl (Nat.le_of_ble_eq_true rfl) ⟨Nat.le_of_ble_eq_true rfl, Nat.le_of_ble_eq_true rfl⟩ (by decide) (dq da_X12_works 3 rfl) ?_
  refine lv_l2i (v := (f_X12_cut x1 (14 : Int32) (12 : Int32)).toInt32) hx hb (dq da_X12_works 4 rfl) rfl ?_
  refine lv_istore_n (lv' := [(3, .int ((f_X12_cut x1 (14 : Int32) (12 : Int32)).toInt32)), (0, .ref (ad 0)), (1, .long x1)]) hx hb (dq da_X12_works 5 rfl) rfl hl (by decide) rfl (fun ls hl => ?_)
  refine lv_aload_n hx hb (dq da_X12_works 6 rfl) rfl (lv_at hl 1 rfl) ?_
  refine gt_wM_0_x E w w_1091 (dq da_X12_works 7 rfl) ?_
  refine lv_lload_n hx hb (dq da_X12_works 8 rfl) rfl (lv_at hl 2 rfl) ?_
  refine lv_bipush (v := 19) hx hb (dq da_X12_works 9 rfl) rfl ?_
  refine lv_bipush (v := 15) hx hb (dq da_X12_works 10 rfl) rfl ?_
  refine callP E (c_X12_cut l _ _ _ ) w_1384 w_1385 w_10 w_1386 hd_X12_cut rfl hl.1 rfl (Nat.le_of_ble_eq_true rfl) ⟨Nat.le_of_ble_eq_true rfl, Nat.le_of_ble_eq_true rfl⟩ (by decide) (dq da_X12_works 11 rfl) ?_
  refine lv_l2i (v := (f_X12_cut x1 (19 : Int32) (15 : Int32)).toInt32) hx hb (dq da_X12_works 12 rfl) rfl ?_
  obtain ⟨hi1, h⟩ := oi h
  refine ald_wM_2 E w hi1 (dq da_X12_works 13 rfl) ?_
  refine lv_lstore (lv' := [(4, .long (gB u 0 ((f_X12_cut x1 (19 : Int32) (15 : Int32)).toInt32).toNatClampNeg)), (3, .int ((f_X12_cut x1 (14 : Int32) (12 : Int32)).toInt32)), (0, .ref (ad 0)), (1, .long x1)]) hx hb (dq da_X12_works 14 rfl) hl (by decide) rfl (fun ls hl => ?_)
  refine lv_aload_n hx hb (dq da_X12_works 15 rfl) rfl (lv_at hl 2 rfl) ?_
  refine gt_wM_0_x E w w_1091 (dq da_X12_works 16 rfl) ?_
  refine lv_lload_n hx hb (dq da_X12_works 17 rfl) rfl (lv_at hl 3 rfl) ?_
  refine lv_bipush (v := 24) hx hb (dq da_X12_works 18 rfl) rfl ?_
  refine lv_bipush (v := 20) hx hb (dq da_X12_works 19 rfl) rfl ?_
  refine callP E (c_X12_cut l _ _ _ ) w_1384 w_1385 w_10 w_1386 hd_X12_cut rfl hl.1 rfl (Nat.le_of_ble_eq_true rfl) ⟨Nat.le_of_ble_eq_true rfl, Nat.le_of_ble_eq_true rfl⟩ (by decide) (dq da_X12_works 20 rfl) ?_
  refine lv_l2i (v := (f_X12_cut x1 (24 : Int32) (20 : Int32)).toInt32) hx hb (dq da_X12_works 21 rfl) rfl ?_
  obtain ⟨hi2, h⟩ := oi h
  refine ald_wM_2 E w hi2 (dq da_X12_works 22 rfl) ?_
  refine lv_lstore (lv' := [(6, .long (gB u 0 ((f_X12_cut x1 (24 : Int32) (20 : Int32)).toInt32).toNatClampNeg)), (4, .long (gB u 0 ((f_X12_cut x1 (19 : Int32) (15 : Int32)).toInt32).toNatClampNeg)), (3, .int ((f_X12_cut x1 (14 : Int32) (12 : Int32)).toInt32)), (0, .ref (ad 0)), (1, .long x1)]) hx hb (dq da_X12_works 23 rfl) hl (by decide) rfl (fun ls hl => ?_)
  refine lv_lload_n hx hb (dq da_X12_works 24 rfl) rfl (lv_at hl 4 rfl) ?_
  refine lv_bipush (v := 20) hx hb (dq da_X12_works 25 rfl) rfl ?_
  refine lv_lshr (v := (j_lshr x1 (20 : Int32))) hx hb (dq da_X12_works 26 rfl) rfl ?_
  refine lv_bipush (v := 12) hx hb (dq da_X12_works 27 rfl) rfl ?_
  refine callP E (c_X12_signed l _ _ ) w_1440 w_1441 w_10 w_1442 hd_X12_signed rfl hl.1 rfl (Nat.le_of_ble_eq_true rfl) ⟨Nat.le_of_ble_eq_true rfl, Nat.le_of_ble_eq_true rfl⟩ (by decide) (dq da_X12_works 28 rfl) ?_
  refine lv_lstore (lv' := [(8, .long (f_X12_signed (j_lshr x1 (20 : Int32)) (12 : Int32))), (6, .long (gB u 0 ((f_X12_cut x1 (24 : Int32) (20 : Int32)).toInt32).toNatClampNeg)), (4, .long (gB u 0 ((f_X12_cut x1 (19 : Int32) (15 : Int32)).toInt32).toNatClampNeg)), (3, .int ((f_X12_cut x1 (14 : Int32) (12 : Int32)).toInt32)), (0, .ref (ad 0)), (1, .long x1)]) hx hb (dq da_X12_works 29 rfl) hl (by decide) rfl (fun ls hl => ?_)
  refine lv_lload_n hx hb (dq da_X12_works 30 rfl) rfl (lv_at hl 5 rfl) ?_
  refine lv_ldc2 hx hb hown (hts _ w_1517) (dq da_X12_works 31 rfl) ?_
  refine lv_land hx hb (dq da_X12_works 32 rfl) ?_
  refine lv_bipush (v := 32) hx hb (dq da_X12_works 33 rfl) rfl ?_
  refine callP E (c_X12_signed l _ _ ) w_1440 w_1441 w_10 w_1442 hd_X12_signed rfl hl.1 rfl (Nat.le_of_ble_eq_true rfl) ⟨Nat.le_of_ble_eq_true rfl, Nat.le_of_ble_eq_true rfl⟩ (by decide) (dq da_X12_works 34 rfl) ?_
  refine lv_lstore (lv' := [(10, .long (f_X12_signed (x1 &&& (4294963200 : Int64)) (32 : Int32))), (8, .long (f_X12_signed (j_lshr x1 (20 : Int32)) (12 : Int32))), (6, .long (gB u 0 ((f_X12_cut x1 (24 : Int32) (20 : Int32)).toInt32).toNatClampNeg)), (4, .long (gB u 0 ((f_X12_cut x1 (19 : Int32) (15 : Int32)).toInt32).toNatClampNeg)), (3, .int ((f_X12_cut x1 (14 : Int32) (12 : Int32)).toInt32)), (0, .ref (ad 0)), (1, .long x1)]) hx hb (dq da_X12_works 35 rfl) hl (by decide) rfl (fun ls hl => ?_)
  refine lv_lload_n hx hb (dq da_X12_works 36 rfl) rfl (lv_at hl 6 rfl) ?_
  refine lv_ldc2 hx hb hown (hts _ w_1518) (dq da_X12_works 37 rfl) ?_
  refine lv_land hx hb (dq da_X12_works 38 rfl) ?_
  refine lv_l2i (v := (x1 &&& (127 : Int64)).toInt32) hx hb (dq da_X12_works 39 rfl) rfl ?_
  by_cases c3 : (x1 &&& (127 : Int64)).toInt32 = (3 : Int32)
  · have h := it c3 h
    refine lv_lookup (off := 279) (tgt := 350) hx hb (dq da_X12_works 40 rfl) (by decide +kernel) (by rw [c3]; decide +kernel) (by decide) ?_
    refine lv_aload_n hx hb (dq da_X12_works 127 rfl) rfl (lv_at hl 5 rfl) ?_
    refine lv_lload_n hx hb (dq da_X12_works 128 rfl) rfl (lv_at hl 6 rfl) ?_
    refine lv_iload_n hx hb (dq da_X12_works 129 rfl) rfl (lv_at hl 4 rfl) ?_
    refine lv_lload hx hb (dq da_X12_works 130 rfl) (lv_at hl 3 rfl) ?_
    refine lv_lload hx hb (dq da_X12_works 131 rfl) (lv_at hl 1 rfl) ?_
    refine lv_ladd hx hb (dq da_X12_works 132 rfl) ?_
    obtain ⟨y4, hy5, h⟩ := ob h
    refine cV0 E (c_X12_loads l D cy ad _ _ _ _ hy5) w_1531 w_1533 w_p68 w_10 w_1534 rfl hd_X12_loads rfl hl.1 rfl (Nat.le_of_ble_eq_true rfl) ⟨Nat.le_of_ble_eq_true rfl, Nat.le_of_ble_eq_true rfl⟩ (by decide) w (rc_wM_0 w) (dq da_X12_works 133 rfl) (fun H locs rr w => ?_)
    refine lv_goto (tgt := 493) hx hb (dq da_X12_works 134 rfl) (by decide) ?_
    exact xret_v E hr hlk w (by decide) (os h) (dq da_X12_works 204 rfl)
  · have h := ie c3 h
    by_cases c6 : (x1 &&& (127 : Int64)).toInt32 = (15 : Int32)
    · have h := it c6 h
      refine lv_lookup (off := 395) (tgt := 466) hx hb (dq da_X12_works 40 rfl) (by decide +kernel) (by rw [c6]; decide +kernel) (by decide) ?_
      refine lv_iload_n hx hb (dq da_X12_works 190 rfl) rfl (lv_at hl 4 rfl) ?_
      refine lv_iconst (v := 1) hx hb (dq da_X12_works 191 rfl) rfl ?_
      refine lv_icmp_le (tgt := 493) hx hb (dq da_X12_works 192 rfl) (by decide) (fun c7 => ?_) (fun c7 => ?_)
      · have h := it c7 h
        exact xret_v E hr hlk w (by decide) (os h) (dq da_X12_works 204 rfl)
      · have h := ie c7 h
        refine lv_aload_n hx hb (dq da_X12_works 193 rfl) rfl (lv_at hl 5 rfl) ?_
        refine cV0 E (c_X12_illegal l D cy ad _ ) w_1523 w_1525 w_p66 w_10 w_1526 rfl hd_X12_illegal rfl hl.1 rfl (Nat.le_of_ble_eq_true rfl) ⟨Nat.le_of_ble_eq_true rfl, Nat.le_of_ble_eq_true rfl⟩ (by decide) w (rc_wM_0 w) (dq da_X12_works 194 rfl) (fun H locs rr w => ?_)
        refine lv_goto (tgt := 493) hx hb (dq da_X12_works 195 rfl) (by decide) ?_
        exact xret_v E hr hlk w (by decide) (os h) (dq da_X12_works 204 rfl)
    · have h := ie c6 h
      by_cases c8 : (x1 &&& (127 : Int64)).toInt32 = (19 : Int32)
      · have h := it c8 h
        refine lv_lookup (off := 330) (tgt := 401) hx hb (dq da_X12_works 40 rfl) (by decide +kernel) (by rw [c8]; decide +kernel) (by decide) ?_
        refine lv_aload_n hx hb (dq da_X12_works 155 rfl) rfl (lv_at hl 5 rfl) ?_
        refine lv_lload_n hx hb (dq da_X12_works 156 rfl) rfl (lv_at hl 6 rfl) ?_
        refine lv_iload_n hx hb (dq da_X12_works 157 rfl) rfl (lv_at hl 4 rfl) ?_
        refine lv_lload hx hb (dq da_X12_works 158 rfl) (lv_at hl 3 rfl) ?_
        refine lv_lload hx hb (dq da_X12_works 159 rfl) (lv_at hl 1 rfl) ?_
        obtain ⟨y9, hy10, h⟩ := ob h
        refine cV0 E (c_X12_immediates l D cy ad _ _ _ _ _ hy10) w_1594 w_1596 w_p77 w_10 w_1597 rfl hd_X12_immediates rfl hl.1 rfl (Nat.le_of_ble_eq_true rfl) ⟨Nat.le_of_ble_eq_true rfl, Nat.le_of_ble_eq_true rfl⟩ (by decide) w (rc_wM_0 w) (dq da_X12_works 160 rfl) (fun H locs rr w => ?_)
        refine lv_goto (tgt := 493) hx hb (dq da_X12_works 161 rfl) (by decide) ?_
        exact xret_v E hr hlk w (by decide) (os h) (dq da_X12_works 204 rfl)
      · have h := ie c8 h
        by_cases c11 : (x1 &&& (127 : Int64)).toInt32 = (23 : Int32)
        · have h := it c11 h
          refine lv_lookup (off := 131) (tgt := 202) hx hb (dq da_X12_works 40 rfl) (by decide +kernel) (by rw [c11]; decide +kernel) (by decide) ?_
          refine lv_aload_n hx hb (dq da_X12_works 46 rfl) rfl (lv_at hl 5 rfl) ?_
          refine lv_lload_n hx hb (dq da_X12_works 47 rfl) rfl (lv_at hl 6 rfl) ?_
          refine lv_aload_n hx hb (dq da_X12_works 48 rfl) rfl (lv_at hl 5 rfl) ?_
          refine gt_wM_0_pc E w w_1092 (dq da_X12_works 49 rfl) ?_
          refine lv_lload hx hb (dq da_X12_works 50 rfl) (lv_at hl 0 rfl) ?_
          refine lv_ladd hx hb (dq da_X12_works 51 rfl) ?_
          obtain ⟨y12, hy13, h⟩ := ob h
          refine cV0 E (c_X12_gives l D cy ad _ _ _ hy13) w_1519 w_1521 w_p65 w_10 w_1522 rfl hd_X12_gives rfl hl.1 rfl (Nat.le_of_ble_eq_true rfl) ⟨Nat.le_of_ble_eq_true rfl, Nat.le_of_ble_eq_true rfl⟩ (by decide) w (rc_wM_0 w) (dq da_X12_works 52 rfl) (fun H locs rr w => ?_)
          refine lv_goto (tgt := 493) hx hb (dq da_X12_works 53 rfl) (by decide) ?_
          exact xret_v E hr hlk w (by decide) (os h) (dq da_X12_works 204 rfl)
        · have h := ie c11 h
          by_cases c14 : (x1 &&& (127 : Int64)).toInt32 = (27 : Int32)
          · have h := it c14 h
            refine lv_lookup (off := 343) (tgt := 414) hx hb (dq da_X12_works 40 rfl) (by decide +kernel) (by rw [c14]; decide +kernel) (by decide) ?_
            refine lv_aload_n hx hb (dq da_X12_works 162 rfl) rfl (lv_at hl 5 rfl) ?_
            refine lv_lload_n hx hb (dq da_X12_works 163 rfl) rfl (lv_at hl 6 rfl) ?_
            refine lv_iload_n hx hb (dq da_X12_works 164 rfl) rfl (lv_at hl 4 rfl) ?_
            refine lv_lload hx hb (dq da_X12_works 165 rfl) (lv_at hl 3 rfl) ?_
            refine lv_lload hx hb (dq da_X12_works 166 rfl) (lv_at hl 1 rfl) ?_
            obtain ⟨y15, hy16, h⟩ := ob h
            refine cV0 E (c_X12_shortImmediates l D cy ad _ _ _ _ _ hy16) w_1598 w_1600 w_p78 w_10 w_1601 rfl hd_X12_shortImmediates rfl hl.1 rfl (Nat.le_of_ble_eq_true rfl) ⟨Nat.le_of_ble_eq_true rfl, Nat.le_of_ble_eq_true rfl⟩ (by decide) w (rc_wM_0 w) (dq da_X12_works 167 rfl) (fun H locs rr w => ?_)
            refine lv_goto (tgt := 493) hx hb (dq da_X12_works 168 rfl) (by decide) ?_
            exact xret_v E hr hlk w (by decide) (os h) (dq da_X12_works 204 rfl)
          · have h := ie c14 h
            by_cases c17 : (x1 &&& (127 : Int64)).toInt32 = (35 : Int32)
            · have h := it c17 h
              refine lv_lookup (off := 293) (tgt := 364) hx hb (dq da_X12_works 40 rfl) (by decide +kernel) (by rw [c17]; decide +kernel) (by decide) ?_
              refine lv_aload_n hx hb (dq da_X12_works 135 rfl) rfl (lv_at hl 5 rfl) ?_
              refine lv_iload_n hx hb (dq da_X12_works 136 rfl) rfl (lv_at hl 4 rfl) ?_
              refine lv_lload hx hb (dq da_X12_works 137 rfl) (lv_at hl 3 rfl) ?_
              refine lv_lload_n hx hb (dq da_X12_works 138 rfl) rfl (lv_at hl 6 rfl) ?_
              refine lv_bipush (v := 31) hx hb (dq da_X12_works 139 rfl) rfl ?_
              refine lv_bipush (v := 25) hx hb (dq da_X12_works 140 rfl) rfl ?_
              refine callP E (c_X12_cut l _ _ _ ) w_1384 w_1385 w_10 w_1386 hd_X12_cut rfl hl.1 rfl (Nat.le_of_ble_eq_true rfl) ⟨Nat.le_of_ble_eq_true rfl, Nat.le_of_ble_eq_true rfl⟩ (by decide) (dq da_X12_works 141 rfl) ?_
              refine lv_iconst (v := 5) hx hb (dq da_X12_works 142 rfl) rfl ?_
              refine lv_lshl (v := (j_lshl (f_X12_cut x1 (31 : Int32) (25 : Int32)) (5 : Int32))) hx hb (dq da_X12_works 143 rfl) rfl ?_
              refine lv_lload_n hx hb (dq da_X12_works 144 rfl) rfl (lv_at hl 6 rfl) ?_
              refine lv_bipush (v := 11) hx hb (dq da_X12_works 145 rfl) rfl ?_
              refine lv_bipush (v := 7) hx hb (dq da_X12_works 146 rfl) rfl ?_
              refine callP E (c_X12_cut l _ _ _ ) w_1384 w_1385 w_10 w_1386 hd_X12_cut rfl hl.1 rfl (Nat.le_of_ble_eq_true rfl) ⟨Nat.le_of_ble_eq_true rfl, Nat.le_of_ble_eq_true rfl⟩ (by decide) (dq da_X12_works 147 rfl) ?_
              refine lv_lor hx hb (dq da_X12_works 148 rfl) ?_
              refine lv_bipush (v := 12) hx hb (dq da_X12_works 149 rfl) rfl ?_
              refine callP E (c_X12_signed l _ _ ) w_1440 w_1441 w_10 w_1442 hd_X12_signed rfl hl.1 rfl (Nat.le_of_ble_eq_true rfl) ⟨Nat.le_of_ble_eq_true rfl, Nat.le_of_ble_eq_true rfl⟩ (by decide) (dq da_X12_works 150 rfl) ?_
              refine lv_ladd hx hb (dq da_X12_works 151 rfl) ?_
              refine lv_lload hx hb (dq da_X12_works 152 rfl) (lv_at hl 2 rfl) ?_
              obtain ⟨y18, hy19, h⟩ := ob h
              refine cV0 E (c_X12_stores l D cy ad _ _ _ _ hy19) w_1577 w_1579 w_p74 w_10 w_1580 rfl hd_X12_stores rfl hl.1 rfl (Nat.le_of_ble_eq_true rfl) ⟨Nat.le_of_ble_eq_true rfl, Nat.le_of_ble_eq_true rfl⟩ (by decide) w (rc_wM_0 w) (dq da_X12_works 153 rfl) (fun H locs rr w => ?_)
              refine lv_goto (tgt := 493) hx hb (dq da_X12_works 154 rfl) (by decide) ?_
              exact xret_v E hr hlk w (by decide) (os h) (dq da_X12_works 204 rfl)
            · have h := ie c17 h
              by_cases c20 : (x1 &&& (127 : Int64)).toInt32 = (47 : Int32)
              · have h := it c20 h
                refine lv_lookup (off := 382) (tgt := 453) hx hb (dq da_X12_works 40 rfl) (by decide +kernel) (by rw [c20]; decide +kernel) (by decide) ?_
                refine lv_aload_n hx hb (dq da_X12_works 183 rfl) rfl (lv_at hl 5 rfl) ?_
                refine lv_lload_n hx hb (dq da_X12_works 184 rfl) rfl (lv_at hl 6 rfl) ?_
                refine lv_iload_n hx hb (dq da_X12_works 185 rfl) rfl (lv_at hl 4 rfl) ?_
                refine lv_lload hx hb (dq da_X12_works 186 rfl) (lv_at hl 3 rfl) ?_
                refine lv_lload hx hb (dq da_X12_works 187 rfl) (lv_at hl 2 rfl) ?_
                obtain ⟨y21, hy22, h⟩ := ob h
                refine cV0 E (c_X12_atomics l D cy ad _ _ _ _ _ hy22) w_1620 w_1622 w_p81 w_10 w_1623 rfl hd_X12_atomics rfl hl.1 rfl (Nat.le_of_ble_eq_true rfl) ⟨Nat.le_of_ble_eq_true rfl, Nat.le_of_ble_eq_true rfl⟩ (by decide) w (rc_wM_0 w) (dq da_X12_works 188 rfl) (fun H locs rr w => ?_)
                refine lv_goto (tgt := 493) hx hb (dq da_X12_works 189 rfl) (by decide) ?_
                exact xret_v E hr hlk w (by decide) (os h) (dq da_X12_works 204 rfl)
              · have h := ie c20 h
                by_cases c23 : (x1 &&& (127 : Int64)).toInt32 = (51 : Int32)
                · have h := it c23 h
                  refine lv_lookup (off := 356) (tgt := 427) hx hb (dq da_X12_works 40 rfl) (by decide +kernel) (by rw [c23]; decide +kernel) (by decide) ?_
                  refine lv_aload_n hx hb (dq da_X12_works 169 rfl) rfl (lv_at hl 5 rfl) ?_
                  refine lv_lload_n hx hb (dq da_X12_works 170 rfl) rfl (lv_at hl 6 rfl) ?_
                  refine lv_iload_n hx hb (dq da_X12_works 171 rfl) rfl (lv_at hl 4 rfl) ?_
                  refine lv_lload hx hb (dq da_X12_works 172 rfl) (lv_at hl 3 rfl) ?_
                  refine lv_lload hx hb (dq da_X12_works 173 rfl) (lv_at hl 2 rfl) ?_
                  obtain ⟨y24, hy25, h⟩ := ob h
                  refine cV0 E (c_X12_registers l D cy ad _ _ _ _ _ hy25) w_1602 w_1604 w_p79 w_10 w_1605 rfl hd_X12_registers rfl hl.1 rfl (Nat.le_of_ble_eq_true rfl) ⟨Nat.le_of_ble_eq_true rfl, Nat.le_of_ble_eq_true rfl⟩ (by decide) w (rc_wM_0 w) (dq da_X12_works 174 rfl) (fun H locs rr w => ?_)
                  refine lv_goto (tgt := 493) hx hb (dq da_X12_works 175 rfl) (by decide) ?_
                  exact xret_v E hr hlk w (by decide) (os h) (dq da_X12_works 204 rfl)
                · have h := ie c23 h
                  by_cases c26 : (x1 &&& (127 : Int64)).toInt32 = (55 : Int32)
                  · have h := it c26 h
                    refine lv_lookup (off := 121) (tgt := 192) hx hb (dq da_X12_works 40 rfl) (by decide +kernel) (by rw [c26]; decide +kernel) (by decide) ?_
                    refine lv_aload_n hx hb (dq da_X12_works 41 rfl) rfl (lv_at hl 5 rfl) ?_
                    refine lv_lload_n hx hb (dq da_X12_works 42 rfl) rfl (lv_at hl 6 rfl) ?_
                    refine lv_lload hx hb (dq da_X12_works 43 rfl) (lv_at hl 0 rfl) ?_
                    obtain ⟨y27, hy28, h⟩ := ob h
                    refine cV0 E (c_X12_gives l D cy ad _ _ _ hy28) w_1519 w_1521 w_p65 w_10 w_1522 rfl hd_X12_gives rfl hl.1 rfl (Nat.le_of_ble_eq_true rfl) ⟨Nat.le_of_ble_eq_true rfl, Nat.le_of_ble_eq_true rfl⟩ (by decide) w (rc_wM_0 w) (dq da_X12_works 44 rfl) (fun H locs rr w => ?_)
                    refine lv_goto (tgt := 493) hx hb (dq da_X12_works 45 rfl) (by decide) ?_
                    exact xret_v E hr hlk w (by decide) (os h) (dq da_X12_works 204 rfl)
                  · have h := ie c26 h
                    by_cases c29 : (x1 &&& (127 : Int64)).toInt32 = (59 : Int32)
                    · have h := it c29 h
                      refine lv_lookup (off := 369) (tgt := 440) hx hb (dq da_X12_works 40 rfl) (by decide +kernel) (by rw [c29]; decide +kernel) (by decide) ?_
                      refine lv_aload_n hx hb (dq da_X12_works 176 rfl) rfl (lv_at hl 5 rfl) ?_
                      refine lv_lload_n hx hb (dq da_X12_works 177 rfl) rfl (lv_at hl 6 rfl) ?_
                      refine lv_iload_n hx hb (dq da_X12_works 178 rfl) rfl (lv_at hl 4 rfl) ?_
                      refine lv_lload hx hb (dq da_X12_works 179 rfl) (lv_at hl 3 rfl) ?_
                      refine lv_lload hx hb (dq da_X12_works 180 rfl) (lv_at hl 2 rfl) ?_
                      obtain ⟨y30, hy31, h⟩ := ob h
                      refine cV0 E (c_X12_shortRegisters l D cy ad _ _ _ _ _ hy31) w_1615 w_1617 w_p80 w_10 w_1618 rfl hd_X12_shortRegisters rfl hl.1 rfl (Nat.le_of_ble_eq_true rfl) ⟨Nat.le_of_ble_eq_true rfl, Nat.le_of_ble_eq_true rfl⟩ (by decide) w (rc_wM_0 w) (dq da_X12_works 181 rfl) (fun H locs rr w => ?_)
                      refine lv_goto (tgt := 493) hx hb (dq da_X12_works 182 rfl) (by decide) ?_
                      exact xret_v E hr hlk w (by decide) (os h) (dq da_X12_works 204 rfl)
                    · have h := ie c29 h
                      by_cases c32 : (x1 &&& (127 : Int64)).toInt32 = (99 : Int32)
                      · have h := it c32 h
                        refine lv_lookup (off := 266) (tgt := 337) hx hb (dq da_X12_works 40 rfl) (by decide +kernel) (by rw [c32]; decide +kernel) (by decide) ?_
                        refine lv_aload_n hx hb (dq da_X12_works 120 rfl) rfl (lv_at hl 5 rfl) ?_
                        refine lv_lload_n hx hb (dq da_X12_works 121 rfl) rfl (lv_at hl 6 rfl) ?_
                        refine lv_iload_n hx hb (dq da_X12_works 122 rfl) rfl (lv_at hl 4 rfl) ?_
                        refine lv_lload hx hb (dq da_X12_works 123 rfl) (lv_at hl 3 rfl) ?_
                        refine lv_lload hx hb (dq da_X12_works 124 rfl) (lv_at hl 2 rfl) ?_
                        refine cV0 E (c_X12_branches l D cy ad _ _ _ _ _ ) w_1527 w_1529 w_p67 w_10 w_1530 rfl hd_X12_branches rfl hl.1 rfl (Nat.le_of_ble_eq_true rfl) ⟨Nat.le_of_ble_eq_true rfl, Nat.le_of_ble_eq_true rfl⟩ (by decide) w (rc_wM_0 w) (dq da_X12_works 125 rfl) (fun H locs rr w => ?_)
                        refine lv_goto (tgt := 493) hx hb (dq da_X12_works 126 rfl) (by decide) ?_
                        exact xret_v E hr hlk w (by decide) (os h) (dq da_X12_works 204 rfl)
                      · have h := ie c32 h
                        by_cases c33 : (x1 &&& (127 : Int64)).toInt32 = (103 : Int32)
                        · have h := it c33 h
                          refine lv_lookup (off := 224) (tgt := 295) hx hb (dq da_X12_works 40 rfl) (by decide +kernel) (by rw [c33]; decide +kernel) (by decide) ?_
                          refine lv_iload_n hx hb (dq da_X12_works 98 rfl) rfl (lv_at hl 4 rfl) ?_
                          refine lv_if_eq (tgt := 306) hx hb (dq da_X12_works 99 rfl) (by decide) (fun c34 => ?_) (fun c34 => ?_)
                          · have h := it c34 h
                            refine lv_aload_n hx hb (dq da_X12_works 103 rfl) rfl (lv_at hl 5 rfl) ?_
                            refine lv_lload_n hx hb (dq da_X12_works 104 rfl) rfl (lv_at hl 6 rfl) ?_
                            refine lv_aload_n hx hb (dq da_X12_works 105 rfl) rfl (lv_at hl 5 rfl) ?_
                            refine gt_wM_0_pc E w w_1092 (dq da_X12_works 106 rfl) ?_
                            refine lv_aload_n hx hb (dq da_X12_works 107 rfl) rfl (lv_at hl 5 rfl) ?_
                            refine gt_wM_0_length E w w_1139 (dq da_X12_works 108 rfl) ?_
                            refine lv_i2l (v := (gI u 17).toInt64) hx hb (dq da_X12_works 109 rfl) rfl ?_
                            refine lv_ladd hx hb (dq da_X12_works 110 rfl) ?_
                            obtain ⟨y35, hy36, h⟩ := ob h
                            refine cV0 E (c_X12_gives l D cy ad _ _ _ hy36) w_1519 w_1521 w_p65 w_10 w_1522 rfl hd_X12_gives rfl hl.1 rfl (Nat.le_of_ble_eq_true rfl) ⟨Nat.le_of_ble_eq_true rfl, Nat.le_of_ble_eq_true rfl⟩ (by decide) w (rc_wM_0 w) (dq da_X12_works 111 rfl) (fun H locs rr w => ?_)
                            refine lv_aload_n hx hb (dq da_X12_works 112 rfl) rfl (lv_at hl 5 rfl) ?_
                            refine lv_lload hx hb (dq da_X12_works 113 rfl) (lv_at hl 3 rfl) ?_
                            refine lv_lload hx hb (dq da_X12_works 114 rfl) (lv_at hl 1 rfl) ?_
                            refine lv_ladd hx hb (dq da_X12_works 115 rfl) ?_
                            refine lv_ldc2 hx hb hown (hts _ w_1330) (dq da_X12_works 116 rfl) ?_
                            refine lv_land hx hb (dq da_X12_works 117 rfl) ?_
                            refine pt_wM_0_following E w w_1138 (dq da_X12_works 118 rfl) (fun H locs w => ?_)
                            refine lv_goto (tgt := 493) hx hb (dq da_X12_works 119 rfl) (by decide) ?_
                            exact xret_v E hr hlk w (by decide) (os h) (dq da_X12_works 204 rfl)
                          · have h := ie c34 h
                            refine lv_aload_n hx hb (dq da_X12_works 100 rfl) rfl (lv_at hl 5 rfl) ?_
                            refine cV0 E (c_X12_illegal l D cy ad _ ) w_1523 w_1525 w_p66 w_10 w_1526 rfl hd_X12_illegal rfl hl.1 rfl (Nat.le_of_ble_eq_true rfl) ⟨Nat.le_of_ble_eq_true rfl, Nat.le_of_ble_eq_true rfl⟩ (by decide) w (rc_wM_0 w) (dq da_X12_works 101 rfl) (fun H locs rr w => ?_)
                            refine lv_goto (tgt := 493) hx hb (dq da_X12_works 102 rfl) (by decide) ?_
                            exact xret_v E hr hlk w (by decide) (os h) (dq da_X12_works 204 rfl)
                        · have h := ie c33 h
                          by_cases c37 : (x1 &&& (127 : Int64)).toInt32 = (111 : Int32)
                          · have h := it c37 h
                            refine lv_lookup (off := 146) (tgt := 217) hx hb (dq da_X12_works 40 rfl) (by decide +kernel) (by rw [c37]; decide +kernel) (by decide) ?_
                            refine lv_aload_n hx hb (dq da_X12_works 54 rfl) rfl (lv_at hl 5 rfl) ?_
                            refine lv_lload_n hx hb (dq da_X12_works 55 rfl) rfl (lv_at hl 6 rfl) ?_
                            refine lv_aload_n hx hb (dq da_X12_works 56 rfl) rfl (lv_at hl 5 rfl) ?_
                            refine gt_wM_0_pc E w w_1092 (dq da_X12_works 57 rfl) ?_
                            refine lv_aload_n hx hb (dq da_X12_works 58 rfl) rfl (lv_at hl 5 rfl) ?_
                            refine gt_wM_0_length E w w_1139 (dq da_X12_works 59 rfl) ?_
                            refine lv_i2l (v := (gI u 17).toInt64) hx hb (dq da_X12_works 60 rfl) rfl ?_
                            refine lv_ladd hx hb (dq da_X12_works 61 rfl) ?_
                            obtain ⟨y38, hy39, h⟩ := ob h
                            refine cV0 E (c_X12_gives l D cy ad _ _ _ hy39) w_1519 w_1521 w_p65 w_10 w_1522 rfl hd_X12_gives rfl hl.1 rfl (Nat.le_of_ble_eq_true rfl) ⟨Nat.le_of_ble_eq_true rfl, Nat.le_of_ble_eq_true rfl⟩ (by decide) w (rc_wM_0 w) (dq da_X12_works 62 rfl) (fun H locs rr w => ?_)
                            refine lv_aload_n hx hb (dq da_X12_works 63 rfl) rfl (lv_at hl 5 rfl) ?_
                            refine lv_aload_n hx hb (dq da_X12_works 64 rfl) rfl (lv_at hl 5 rfl) ?_
                            refine gt_wM_0_pc E w w_1092 (dq da_X12_works 65 rfl) ?_
                            refine lv_lload_n hx hb (dq da_X12_works 66 rfl) rfl (lv_at hl 6 rfl) ?_
                            refine lv_bipush (v := 31) hx hb (dq da_X12_works 67 rfl) rfl ?_
                            refine lv_bipush (v := 31) hx hb (dq da_X12_works 68 rfl) rfl ?_
                            refine callP E (c_X12_cut l _ _ _ ) w_1384 w_1385 w_10 w_1386 hd_X12_cut rfl hl.1 rfl (Nat.le_of_ble_eq_true rfl) ⟨Nat.le_of_ble_eq_true rfl, Nat.le_of_ble_eq_true rfl⟩ (by decide) (dq da_X12_works 69 rfl) ?_
                            refine lv_bipush (v := 20) hx hb (dq da_X12_works 70 rfl) rfl ?_
                            refine lv_lshl (v := (j_lshl (f_X12_cut x1 (31 : Int32) (31 : Int32)) (20 : Int32))) hx hb (dq da_X12_works 71 rfl) rfl ?_
                            refine lv_lload_n hx hb (dq da_X12_works 72 rfl) rfl (lv_at hl 6 rfl) ?_
                            refine lv_bipush (v := 19) hx hb (dq da_X12_works 73 rfl) rfl ?_
                            refine lv_bipush (v := 12) hx hb (dq da_X12_works 74 rfl) rfl ?_
                            refine callP E (c_X12_cut l _ _ _ ) w_1384 w_1385 w_10 w_1386 hd_X12_cut rfl hl.1 rfl (Nat.le_of_ble_eq_true rfl) ⟨Nat.le_of_ble_eq_true rfl, Nat.le_of_ble_eq_true rfl⟩ (by decide) (dq da_X12_works 75 rfl) ?_
                            refine lv_bipush (v := 12) hx hb (dq da_X12_works 76 rfl) rfl ?_
                            refine lv_lshl (v := (j_lshl (f_X12_cut x1 (19 : Int32) (12 : Int32)) (12 : Int32))) hx hb (dq da_X12_works 77 rfl) rfl ?_
                            refine lv_lor hx hb (dq da_X12_works 78 rfl) ?_
                            refine lv_lload_n hx hb (dq da_X12_works 79 rfl) rfl (lv_at hl 6 rfl) ?_
                            refine lv_bipush (v := 20) hx hb (dq da_X12_works 80 rfl) rfl ?_
                            refine lv_bipush (v := 20) hx hb (dq da_X12_works 81 rfl) rfl ?_
                            refine callP E (c_X12_cut l _ _ _ ) w_1384 w_1385 w_10 w_1386 hd_X12_cut rfl hl.1 rfl (Nat.le_of_ble_eq_true rfl) ⟨Nat.le_of_ble_eq_true rfl, Nat.le_of_ble_eq_true rfl⟩ (by decide) (dq da_X12_works 82 rfl) ?_
                            refine lv_bipush (v := 11) hx hb (dq da_X12_works 83 rfl) rfl ?_
                            refine lv_lshl (v := (j_lshl (f_X12_cut x1 (20 : Int32) (20 : Int32)) (11 : Int32))) hx hb (dq da_X12_works 84 rfl) rfl ?_
                            refine lv_lor hx hb (dq da_X12_works 85 rfl) ?_
                            refine lv_lload_n hx hb (dq da_X12_works 86 rfl) rfl (lv_at hl 6 rfl) ?_
                            refine lv_bipush (v := 30) hx hb (dq da_X12_works 87 rfl) rfl ?_
                            refine lv_bipush (v := 21) hx hb (dq da_X12_works 88 rfl) rfl ?_
                            refine callP E (c_X12_cut l _ _ _ ) w_1384 w_1385 w_10 w_1386 hd_X12_cut rfl hl.1 rfl (Nat.le_of_ble_eq_true rfl) ⟨Nat.le_of_ble_eq_true rfl, Nat.le_of_ble_eq_true rfl⟩ (by decide) (dq da_X12_works 89 rfl) ?_
                            refine lv_iconst (v := 1) hx hb (dq da_X12_works 90 rfl) rfl ?_
                            refine lv_lshl (v := (j_lshl (f_X12_cut x1 (30 : Int32) (21 : Int32)) (1 : Int32))) hx hb (dq da_X12_works 91 rfl) rfl ?_
                            refine lv_lor hx hb (dq da_X12_works 92 rfl) ?_
                            refine lv_bipush (v := 21) hx hb (dq da_X12_works 93 rfl) rfl ?_
                            refine callP E (c_X12_signed l _ _ ) w_1440 w_1441 w_10 w_1442 hd_X12_signed rfl hl.1 rfl (Nat.le_of_ble_eq_true rfl) ⟨Nat.le_of_ble_eq_true rfl, Nat.le_of_ble_eq_true rfl⟩ (by decide) (dq da_X12_works 94 rfl) ?_
                            refine lv_ladd hx hb (dq da_X12_works 95 rfl) ?_
                            refine pt_wM_0_following E w w_1138 (dq da_X12_works 96 rfl) (fun H locs w => ?_)
                            refine lv_goto (tgt := 493) hx hb (dq da_X12_works 97 rfl) (by decide) ?_
                            exact xret_v E hr hlk w (by decide) (os h) (dq da_X12_works 204 rfl)
                          · have h := ie c37 h
                            by_cases c40 : (x1 &&& (127 : Int64)).toInt32 = (115 : Int32)
                            · have h := it c40 h
                              refine lv_lookup (off := 407) (tgt := 478) hx hb (dq da_X12_works 40 rfl) (by decide +kernel) (by rw [c40]; decide +kernel) (by decide) ?_
                              refine lv_aload_n hx hb (dq da_X12_works 196 rfl) rfl (lv_at hl 5 rfl) ?_
                              refine lv_lload_n hx hb (dq da_X12_works 197 rfl) rfl (lv_at hl 6 rfl) ?_
                              refine lv_iload_n hx hb (dq da_X12_works 198 rfl) rfl (lv_at hl 4 rfl) ?_
                              refine lv_lload hx hb (dq da_X12_works 199 rfl) (lv_at hl 3 rfl) ?_
                              obtain ⟨y41, hy42, h⟩ := ob h
                              refine cV0 E (c_X12_systems l D cy ad _ _ _ _ hy42) w_1627 w_1629 w_p82 w_10 w_1630 rfl hd_X12_systems rfl hl.1 rfl (Nat.le_of_ble_eq_true rfl) ⟨Nat.le_of_ble_eq_true rfl, Nat.le_of_ble_eq_true rfl⟩ (by decide) w (rc_wM_0 w) (dq da_X12_works 200 rfl) (fun H locs rr w => ?_)
                              refine lv_goto (tgt := 493) hx hb (dq da_X12_works 201 rfl) (by decide) ?_
                              exact xret_v E hr hlk w (by decide) (os h) (dq da_X12_works 204 rfl)
                            · have h := ie c40 h
                              refine lv_lookup (off := 418) (tgt := 489) hx hb (dq da_X12_works 40 rfl) (by decide +kernel) (by show Op.lookupswitch.offset [(3, 279), (15, 395), (19, 330), (23, 131), (27, 343), (35, 293), (47, 382), (51, 356), (55, 121), (59, 369), (99, 266), (103, 224), (111, 146), (115, 407)] (418) _ = _; rw [lv_osw (k := (3 : Int32)) (a := 3) c3 rfl, lv_osw (k := (15 : Int32)) (a := 15) c6 rfl, lv_osw (k := (19 : Int32)) (a := 19) c8 rfl, lv_osw (k := (23 : Int32)) (a := 23) c11 rfl, lv_osw (k := (27 : Int32)) (a := 27) c14 rfl, lv_osw (k := (35 : Int32)) (a := 35) c17 rfl, lv_osw (k := (47 : Int32)) (a := 47) c20 rfl, lv_osw (k := (51 : Int32)) (a := 51) c23 rfl, lv_osw (k := (55 : Int32)) (a := 55) c26 rfl, lv_osw (k := (59 : Int32)) (a := 59) c29 rfl, lv_osw (k := (99 : Int32)) (a := 99) c32 rfl, lv_osw (k := (103 : Int32)) (a := 103) c33 rfl, lv_osw (k := (111 : Int32)) (a := 111) c37 rfl, lv_osw (k := (115 : Int32)) (a := 115) c40 rfl]; rfl) (by decide) ?_
                              refine lv_aload_n hx hb (dq da_X12_works 202 rfl) rfl (lv_at hl 5 rfl) ?_
                              refine cV0 E (c_X12_illegal l D cy ad _ ) w_1523 w_1525 w_p66 w_10 w_1526 rfl hd_X12_illegal rfl hl.1 rfl (Nat.le_of_ble_eq_true rfl) ⟨Nat.le_of_ble_eq_true rfl, Nat.le_of_ble_eq_true rfl⟩ (by decide) w (rc_wM_0 w) (dq da_X12_works 203 rfl) (fun H locs rr w => ?_)
                              exact xret_v E hr hlk w (by decide) (os h) (dq da_X12_works 204 rfl)
def dl_X12_goes : List (Nat × Instr × Nat) := [(0, .aload_n 0, 1), (1, .aload_n 0, 1), (2, .getfield 20, 3), (5, .invokevirtual 367, 3), (8, .lstore_n 1, 1), (9, .aload_n 0, 1), (10, .getfield 56, 3), (13, .ifCond .lt 4, 3), (16, .return_, 1), (17, .aload_n 0, 1), (18, .iconst 2, 1), (19, .putfield 371, 3), (22, .aload_n 0, 1), (23, .lload_n 1, 1), (24, .putfield 374, 3), (27, .lconst 0, 1), (28, .lstore_n 3, 1), (29, .lload_n 1, 1), (30, .ldc2_w 377, 3), (33, .land, 1), (34, .ldc2_w 377, 3), (37, .lcmp, 1), (38, .ifCond .ne 46, 3), (41, .aload_n 0, 1), (42, .aload_n 0, 1), (43, .getfield 20, 3), (46, .ldc2_w 313, 3), (49, .ladd, 1), (50, .invokevirtual 367, 3), (53, .lstore 5, 2), (55, .aload_n 0, 1), (56, .getfield 56, 3), (59, .ifCond .lt 4, 3), (62, .return_, 1), (63, .aload_n 0, 1), (64, .iconst 4, 1), (65, .putfield 371, 3), (68, .lload 5, 2), (70, .bipush 16, 2), (72, .lshl, 1), (73, .lload_n 1, 1), (74, .lor, 1), (75, .lstore_n 3, 1), (76, .aload_n 0, 1), (77, .lload_n 3, 1), (78, .putfield 374, 3), (81, .goto 8, 3), (84, .lload_n 1, 1), (85, .invokestatic 379, 3), (88, .lstore_n 3, 1), (89, .aload_n 0, 1), (90, .aload_n 0, 1), (91, .getfield 20, 3), (94, .aload_n 0, 1), (95, .getfield 371, 3), (98, .i2l, 1), (99, .ladd, 1), (100, .putfield 382, 3), (103, .lload_n 3, 1), (104, .lconst 0, 1), (105, .lcmp, 1), (106, .ifCond .ne 15, 3), (109, .aload_n 0, 1), (110, .iconst 2, 1), (111, .aload_n 0, 1), (112, .getfield 374, 3), (115, .invokevirtual 216, 3), (118, .goto 8, 3), (121, .aload_n 0, 1), (122, .lload_n 3, 1), (123, .invokevirtual 385, 3), (126, .aload_n 0, 1), (127, .getfield 56, 3), (130, .ifCond .ge 11, 3), (133, .aload_n 0, 1), (134, .aload_n 0, 1), (135, .getfield 382, 3), (138, .putfield 20, 3), (141, .return_, 1)]
theorem da_X12_goes : dkL cX12_goes dl_X12_goes = true := by decide +kernel
def f_X12_goes_b126 (u : St) : Option (St) := if (0 : Int32) ≤ (gI u 16) then (some u) else (some (sL u 0 (gL u 25)))
set_option maxRecDepth 100000 in
set_option maxHeartbeats 4000000 in
theorem b_X12_goes_b126 {p : Program} {l : Launch} {e : Env} {s : State} {m : MethodId} {args : Array Value} {below : List Frame} {meth : Method} {c : Code} {D : va_G} {cy : ClassId × ClassId × ClassId} {ad : Nat → Nat} {A : Nat → Prop} (E : CallFix p m c cX12_goes 7 s args gw RX12) (hr : meth.sig.returnType = none) (hlk : meth.locks = false) {u : St} {u' : St} (h : f_X12_goes_b126 u = some u') {ls : Array Slot} {H : Heap} {locs : List Loc} {rr : Nat → Nat} (hl : lv_has ls 7 [(0, .ref (ad 0))]) (w : WX (wM cy ad) D cy rr u A s H locs) : Wx (wM cy ad) D p l e 6 163 0 s m args below meth c A u' none H locs 0 126 ls [] := by
  have hx := E.1
  have hb := E.2.1
  have hown := E.2.2.2.1
  have hts := E.2.2.2.2
  refine lv_aload_n hx hb (dq da_X12_goes 71 rfl) rfl (lv_at hl 0 rfl) ?_
  refine gt_wM_0_fault E w w_1136 (dq da_X12_goes 72 rfl) ?_
  refine lv_if_ge (tgt := 141) hx hb (dq da_X12_goes 73 rfl) (by decide) (fun c10 => ?_) (fun c10 => ?_)
  · have h := it c10 h
    exact xret_v E hr hlk w (by decide) (os h) (dq da_X12_goes 78 rfl)
  · have h := ie c10 h
    refine lv_aload_n hx hb (dq da_X12_goes 74 rfl) rfl (lv_at hl 0 rfl) ?_
    refine lv_aload_n hx hb (dq da_X12_goes 75 rfl) rfl (lv_at hl 0 rfl) ?_
    refine gt_wM_0_following E w w_1138 (dq da_X12_goes 76 rfl) ?_
    refine pt_wM_0_pc E w w_1092 (dq da_X12_goes 77 rfl) (fun H locs w => ?_)
    exact xret_v E hr hlk w (by decide) (os h) (dq da_X12_goes 78 rfl)
def f_X12_goes_b89 (x3 : Int64) (u : St) : Option (St) := if x3 = (0 : Int64) then (f_X12_goes_b126 (f_X12_fail (2 : Int32) (gL (sL u 25 ((gL u 0) + (gI u 17).toInt64)) 26) (sL u 25 ((gL u 0) + (gI u 17).toInt64)))) else ((f_X12_works x3 (sL u 25 ((gL u 0) + (gI u 17).toInt64))).bind (fun y8 => f_X12_goes_b126 y8))
set_option maxRecDepth 100000 in
set_option maxHeartbeats 4000000 in
theorem b_X12_goes_b89 {p : Program} {l : Launch} {e : Env} {s : State} {m : MethodId} {args : Array Value} {below : List Frame} {meth : Method} {c : Code} {D : va_G} {cy : ClassId × ClassId × ClassId} {ad : Nat → Nat} {A : Nat → Prop} (E : CallFix p m c cX12_goes 7 s args gw RX12) (hr : meth.sig.returnType = none) (hlk : meth.locks = false) {x3 : Int64} {u : St} {u' : St} (h : f_X12_goes_b89 x3 u = some u') {ls : Array Slot} {H : Heap} {locs : List Loc} {rr : Nat → Nat} (hl : lv_has ls 7 [(0, .ref (ad 0)), (3, .long x3)]) (w : WX (wM cy ad) D cy rr u A s H locs) : Wx (wM cy ad) D p l e 6 163 0 s m args below meth c A u' none H locs 0 89 ls [] := by
  have hx := E.1
  have hb := E.2.1
  have hown := E.2.2.2.1
  have hts := E.2.2.2.2
  refine lv_aload_n hx hb (dq da_X12_goes 50 rfl) rfl (lv_at hl 0 rfl) ?_
  refine lv_aload_n hx hb (dq da_X12_goes 51 rfl) rfl (lv_at hl 0 rfl) ?_
  refine gt_wM_0_pc E w w_1092 (dq da_X12_goes 52 rfl) ?_
  refine lv_aload_n hx hb (dq da_X12_goes 53 rfl) rfl (lv_at hl 0 rfl) ?_
  refine gt_wM_0_length E w w_1139 (dq da_X12_goes 54 rfl) ?_
  refine lv_i2l (v := (gI u 17).toInt64) hx hb (dq da_X12_goes 55 rfl) rfl ?_
  refine lv_ladd hx hb (dq da_X12_goes 56 rfl) ?_
  refine pt_wM_0_following E w w_1138 (dq da_X12_goes 57 rfl) (fun H locs w => ?_)
  refine lv_lload_n hx hb (dq da_X12_goes 58 rfl) rfl (lv_at hl 1 rfl) ?_
  refine lv_lconst (v := 0) hx hb (dq da_X12_goes 59 rfl) rfl ?_
  refine lc_ne (tgt := 121) hx hb (dq da_X12_goes 60 rfl) (dq da_X12_goes 61 rfl) (by decide) (fun c7 => ?_) (fun c7 => ?_)
  · have h := ie c7 h
    refine lv_aload_n hx hb (dq da_X12_goes 68 rfl) rfl (lv_at hl 0 rfl) ?_
    refine lv_lload_n hx hb (dq da_X12_goes 69 rfl) rfl (lv_at hl 1 rfl) ?_
    obtain ⟨y8, hy9, h⟩ := ob h
    refine cV0 E (c_X12_works l D cy ad _ _ hy9) w_1513 w_1515 w_p64 w_10 w_1516 rfl hd_X12_works rfl hl.1 rfl (Nat.le_of_ble_eq_true rfl) ⟨Nat.le_of_ble_eq_true rfl, Nat.le_of_ble_eq_true rfl⟩ (by decide) w (rc_wM_0 w) (dq da_X12_goes 70 rfl) (fun H locs rr w => ?_)
    exact b_X12_goes_b126 E hr hlk h (lv_sub hl [0] rfl) w
  · have h := it c7 h
    refine lv_aload_n hx hb (dq da_X12_goes 62 rfl) rfl (lv_at hl 0 rfl) ?_
    refine lv_iconst (v := 2) hx hb (dq da_X12_goes 63 rfl) rfl ?_
    refine lv_aload_n hx hb (dq da_X12_goes 64 rfl) rfl (lv_at hl 0 rfl) ?_
    refine gt_wM_0_told E w w_1140 (dq da_X12_goes 65 rfl) ?_
    refine cV0 E (c_X12_fail l D cy ad _ _ _ ) w_1454 w_1456 w_p63 w_10 w_1457 rfl hd_X12_fail rfl hl.1 rfl (Nat.le_of_ble_eq_true rfl) ⟨Nat.le_of_ble_eq_true rfl, Nat.le_of_ble_eq_true rfl⟩ (by decide) w (rc_wM_0 w) (dq da_X12_goes 66 rfl) (fun H locs rr w => ?_)
    refine lv_goto (tgt := 126) hx hb (dq da_X12_goes 67 rfl) (by decide) ?_
    exact b_X12_goes_b126 E hr hlk h (lv_sub hl [0] rfl) w
def f_X12_goes (u : St) : Option (St) := (f_X12_half (gL u 0) u).bind (fun y1 => if (gI y1.2 16) < (0 : Int32) then (if (y1.1 &&& (3 : Int64)) = (3 : Int64) then ((f_X12_half ((gL (sL (sI y1.2 17 (2 : Int32)) 26 y1.1) 0) + (2 : Int64)) (sL (sI y1.2 17 (2 : Int32)) 26 y1.1)).bind (fun y11 => if (gI y11.2 16) < (0 : Int32) then (f_X12_goes_b89 ((j_lshl y11.1 (16 : Int32)) ||| y1.1) (sL (sI y11.2 17 (4 : Int32)) 26 ((j_lshl y11.1 (16 : Int32)) ||| y1.1))) else (some y11.2))) else ((f_X12_wide y1.1).bind (fun y5 => f_X12_goes_b89 y5 (sL (sI y1.2 17 (2 : Int32)) 26 y1.1)))) else (some y1.2))
set_option maxRecDepth 100000 in
set_option maxHeartbeats 4000000 in
theorem c_X12_goes (l : Launch) (D : va_G) (cy : ClassId × ClassId × ClassId) (ad : Nat → Nat) (u : St) {u' : St} (h : f_X12_goes u = some u') : MX (wM cy ad) D cy l yX12_goes cX12_goes 7 (none) 6 163 0 [.ref (ad 0)] u u' none := by
  refine entX (by decide +kernel) (Nat.le_of_ble_eq_true rfl) ?_
  intro p e s m args below meth c ls rr A E hr hlk hl w
  have hl : lv_has ls 7 [(0, .ref (ad 0))] := hl
  have hx := E.1
  have hb := E.2.1
  have hown := E.2.2.2.1
  have hts := E.2.2.2.2
  refine lv_aload_n hx hb (dq da_X12_goes 0 rfl) rfl (lv_at hl 0 rfl) ?_
  refine lv_aload_n hx hb (dq da_X12_goes 1 rfl) rfl (lv_at hl 0 rfl) ?_
  refine gt_wM_0_pc E w w_1092 (dq da_X12_goes 2 rfl) ?_
  obtain ⟨y1, hy2, h⟩ := ob h
  refine cV1 E (c_X12_half l D cy ad _ _ hy2) w_1432 w_1434 w_p60 w_10 w_1435 rfl hd_X12_half rfl hl.1 rfl (Nat.le_of_ble_eq_true rfl) ⟨Nat.le_of_ble_eq_true rfl, Nat.le_of_ble_eq_true rfl⟩ (by decide) w (rc_wM_0 w) (dq da_X12_goes 3 rfl) (fun H locs rr w => ?_)
  refine lv_lstore_n (lv' := [(1, .long y1.1), (0, .ref (ad 0))]) hx hb (dq da_X12_goes 4 rfl) rfl hl (by decide) rfl (fun ls hl => ?_)
  refine lv_aload_n hx hb (dq da_X12_goes 5 rfl) rfl (lv_at hl 1 rfl) ?_
  refine gt_wM_0_fault E w w_1136 (dq da_X12_goes 6 rfl) ?_
  refine lv_if_lt (tgt := 17) hx hb (dq da_X12_goes 7 rfl) (by decide) (fun c3 => ?_) (fun c3 => ?_)
  · have h := it c3 h
    refine lv_aload_n hx hb (dq da_X12_goes 9 rfl) rfl (lv_at hl 1 rfl) ?_
    refine lv_iconst (v := 2) hx hb (dq da_X12_goes 10 rfl) rfl ?_
    refine pt_wM_0_length E w w_1139 (dq da_X12_goes 11 rfl) (fun H locs w => ?_)
    refine lv_aload_n hx hb (dq da_X12_goes 12 rfl) rfl (lv_at hl 1 rfl) ?_
    refine lv_lload_n hx hb (dq da_X12_goes 13 rfl) rfl (lv_at hl 0 rfl) ?_
    refine pt_wM_0_told E w w_1140 (dq da_X12_goes 14 rfl) (fun H locs w => ?_)
    refine lv_lconst (v := 0) hx hb (dq da_X12_goes 15 rfl) rfl ?_
    refine lv_lstore_n (lv' := [(3, .long (0 : Int64)), (1, .long y1.1), (0, .ref (ad 0))]) hx hb (dq da_X12_goes 16 rfl) rfl hl (by decide) rfl (fun ls hl => ?_)
    refine lv_lload_n hx hb (dq da_X12_goes 17 rfl) rfl (lv_at hl 1 rfl) ?_
    refine lv_ldc2 hx hb hown (hts _ w_1458) (dq da_X12_goes 18 rfl) ?_
    refine lv_land hx hb (dq da_X12_goes 19 rfl) ?_
    refine lv_ldc2 hx hb hown (hts _ w_1458) (dq da_X12_goes 20 rfl) ?_
    refine lc_ne (tgt := 84) hx hb (dq da_X12_goes 21 rfl) (dq da_X12_goes 22 rfl) (by decide) (fun c4 => ?_) (fun c4 => ?_)
    · have h := ie c4 h
      refine lv_lload_n hx hb (dq da_X12_goes 47 rfl) rfl (lv_at hl 1 rfl) ?_
      obtain ⟨y5, hy6, h⟩ := ob h
      refine callP E (c_X12_wide l _ hy6) w_1459 w_1460 w_10 w_1461 hd_X12_wide rfl hl.1 rfl (Nat.le_of_ble_eq_true rfl) ⟨Nat.le_of_ble_eq_true rfl, Nat.le_of_ble_eq_true rfl⟩ (by decide) (dq da_X12_goes 48 rfl) ?_
      refine lv_lstore_n (lv' := [(3, .long y5), (1, .long y1.1), (0, .ref (ad 0))]) hx hb (dq da_X12_goes 49 rfl) rfl hl (by decide) rfl (fun ls hl => ?_)
      exact b_X12_goes_b89 E hr hlk h (lv_sub hl [2, 0] rfl) w
    · have h := it c4 h
      refine lv_aload_n hx hb (dq da_X12_goes 23 rfl) rfl (lv_at hl 2 rfl) ?_
      refine lv_aload_n hx hb (dq da_X12_goes 24 rfl) rfl (lv_at hl 2 rfl) ?_
      refine gt_wM_0_pc E w w_1092 (dq da_X12_goes 25 rfl) ?_
      refine lv_ldc2 hx hb hown (hts _ w_1269) (dq da_X12_goes 26 rfl) ?_
      refine lv_ladd hx hb (dq da_X12_goes 27 rfl) ?_
      obtain ⟨y11, hy12, h⟩ := ob h
      refine cV1 E (c_X12_half l D cy ad _ _ hy12) w_1432 w_1434 w_p60 w_10 w_1435 rfl hd_X12_half rfl hl.1 rfl (Nat.le_of_ble_eq_true rfl) ⟨Nat.le_of_ble_eq_true rfl, Nat.le_of_ble_eq_true rfl⟩ (by decide) w (rc_wM_0 w) (dq da_X12_goes 28 rfl) (fun H locs rr w => ?_)
      refine lv_lstore (lv' := [(5, .long y11.1), (3, .long (0 : Int64)), (1, .long y1.1), (0, .ref (ad 0))]) hx hb (dq da_X12_goes 29 rfl) hl (by decide) rfl (fun ls hl => ?_)
      refine lv_aload_n hx hb (dq da_X12_goes 30 rfl) rfl (lv_at hl 3 rfl) ?_
      refine gt_wM_0_fault E w w_1136 (dq da_X12_goes 31 rfl) ?_
      refine lv_if_lt (tgt := 63) hx hb (dq da_X12_goes 32 rfl) (by decide) (fun c13 => ?_) (fun c13 => ?_)
      · have h := it c13 h
        refine lv_aload_n hx hb (dq da_X12_goes 34 rfl) rfl (lv_at hl 3 rfl) ?_
        refine lv_iconst (v := 4) hx hb (dq da_X12_goes 35 rfl) rfl ?_
        refine pt_wM_0_length E w w_1139 (dq da_X12_goes 36 rfl) (fun H locs w => ?_)
        refine lv_lload hx hb (dq da_X12_goes 37 rfl) (lv_at hl 0 rfl) ?_
        refine lv_bipush (v := 16) hx hb (dq da_X12_goes 38 rfl) rfl ?_
        refine lv_lshl (v := (j_lshl y11.1 (16 : Int32))) hx hb (dq da_X12_goes 39 rfl) rfl ?_
        refine lv_lload_n hx hb (dq da_X12_goes 40 rfl) rfl (lv_at hl 2 rfl) ?_
        refine lv_lor hx hb (dq da_X12_goes 41 rfl) ?_
        refine lv_lstore_n (lv' := [(3, .long ((j_lshl y11.1 (16 : Int32)) ||| y1.1)), (5, .long y11.1), (1, .long y1.1), (0, .ref (ad 0))]) hx hb (dq da_X12_goes 42 rfl) rfl hl (by decide) rfl (fun ls hl => ?_)
        refine lv_aload_n hx hb (dq da_X12_goes 43 rfl) rfl (lv_at hl 3 rfl) ?_
        refine lv_lload_n hx hb (dq da_X12_goes 44 rfl) rfl (lv_at hl 0 rfl) ?_
        refine pt_wM_0_told E w w_1140 (dq da_X12_goes 45 rfl) (fun H locs w => ?_)
        refine lv_goto (tgt := 89) hx hb (dq da_X12_goes 46 rfl) (by decide) ?_
        exact b_X12_goes_b89 E hr hlk h (lv_sub hl [3, 0] rfl) w
      · have h := ie c13 h
        exact xret_v E hr hlk w (by decide) (os h) (dq da_X12_goes 33 rfl)
  · have h := ie c3 h
    exact xret_v E hr hlk w (by decide) (os h) (dq da_X12_goes 8 rfl)
def dl_X12_steps : List (Nat × Instr × Nat) := [(0, .aload_n 0, 1), (1, .invokevirtual 353, 3), (4, .istore_n 1, 1), (5, .iconst 0, 1), (6, .istore_n 2, 1), (7, .iload_n 1, 1), (8, .ifCond .lt 13, 3), (11, .aload_n 0, 1), (12, .iconst 1, 1), (13, .iload_n 1, 1), (14, .lconst 0, 1), (15, .invokevirtual 357, 3), (18, .goto 42, 3), (21, .aload_n 0, 1), (22, .iconst (-1), 1), (23, .putfield 56, 3), (26, .aload_n 0, 1), (27, .invokevirtual 361, 3), (30, .aload_n 0, 1), (31, .getfield 56, 3), (34, .ifCond .ge 7, 3), (37, .iconst 1, 1), (38, .goto 4, 3), (41, .iconst 0, 1), (42, .istore_n 2, 1), (43, .iload_n 2, 1), (44, .ifCond .ne 16, 3), (47, .aload_n 0, 1), (48, .iconst 0, 1), (49, .aload_n 0, 1), (50, .getfield 56, 3), (53, .aload_n 0, 1), (54, .getfield 70, 3), (57, .invokevirtual 357, 3), (60, .aload_n 0, 1), (61, .dup, 1), (62, .getfield 283, 3), (65, .lconst 1, 1), (66, .ladd, 1), (67, .putfield 283, 3), (70, .aload_n 0, 1), (71, .dup, 1), (72, .getfield 144, 3), (75, .lconst 1, 1), (76, .ladd, 1), (77, .putfield 144, 3), (80, .aload_n 0, 1), (81, .dup, 1), (82, .getfield 286, 3), (85, .iload_n 2, 1), (86, .ifCond .eq 7, 3), (89, .lconst 1, 1), (90, .goto 4, 3), (93, .lconst 0, 1), (94, .ladd, 1), (95, .putfield 286, 3), (98, .aload_n 0, 1), (99, .invokevirtual 364, 3), (102, .iload_n 2, 1), (103, .ireturn, 1)]
theorem da_X12_steps : dkL cX12_steps dl_X12_steps = true := by decide +kernel
def f_X12_steps_b94 (x2 : Int32) (s0 : Int64) (s1 : Int64) (u : St) : Option (Int32 × St) := if x2 &&& 1 = x2 then some (x2, (f_X12_gather (sL u 16 (s1 + s0)))) else none
set_option maxRecDepth 100000 in
set_option maxHeartbeats 4000000 in
theorem b_X12_steps_b94 {p : Program} {l : Launch} {e : Env} {s : State} {m : MethodId} {args : Array Value} {below : List Frame} {meth : Method} {c : Code} {D : va_G} {cy : ClassId × ClassId × ClassId} {ad : Nat → Nat} {A : Nat → Prop} (E : CallFix p m c cX12_steps 3 s args gw RX12) (hr : meth.sig.returnType = some .boolean) (hlk : meth.locks = false) {x2 : Int32} {s0 : Int64} {s1 : Int64} {u : St} {r : Int32} {u' : St} (h : f_X12_steps_b94 x2 s0 s1 u = some (r, u')) {ls : Array Slot} {H : Heap} {locs : List Loc} {rr : Nat → Nat} (hl : lv_has ls 3 [(0, .ref (ad 0)), (2, .int x2)]) (w : WX (wM cy ad) D cy rr u A s H locs) : Wx (wM cy ad) D p l e 7 189 0 s m args below meth c A u' (some (.int r)) H locs 0 94 ls [.long s0, .long s1, .ref (ad 0)] := by
  have hx := E.1
  have hb := E.2.1
  have hown := E.2.2.2.1
  have hts := E.2.2.2.2
  refine lv_ladd hx hb (dq da_X12_steps 54 rfl) ?_
  refine pt_wM_0_retired E w w_1125 (dq da_X12_steps 55 rfl) (fun H locs w => ?_)
  refine lv_aload_n hx hb (dq da_X12_steps 56 rfl) rfl (lv_at hl 0 rfl) ?_
  refine cV0 E (c_X12_gather l D cy ad _ ) w_1306 w_1308 w_p46 w_10 w_1309 rfl hd_X12_gather rfl hl.1 rfl (Nat.le_of_ble_eq_true rfl) ⟨Nat.le_of_ble_eq_true rfl, Nat.le_of_ble_eq_true rfl⟩ (by decide) w (rc_wM_0 w) (dq da_X12_steps 57 rfl) (fun H locs rr w => ?_)
  refine lv_iload_n hx hb (dq da_X12_steps 58 rfl) rfl (lv_at hl 1 rfl) ?_
  obtain ⟨hz9, h⟩ := oi h
  exact xret_z E hr hlk (by show Value.int _ = _; rw [hz9]) w (by decide) (congrArg Prod.fst (os h)) (congrArg Prod.snd (os h)) (dq da_X12_steps 59 rfl)
def f_X12_steps_b60 (x2 : Int32) (u : St) : Option (Int32 × St) := if x2 = (0 : Int32) then (f_X12_steps_b94 x2 (0 : Int64) (gL (sL (sL u 15 ((gL u 15) + (1 : Int64))) 3 ((gL (sL u 15 ((gL u 15) + (1 : Int64))) 3) + (1 : Int64))) 16) (sL (sL u 15 ((gL u 15) + (1 : Int64))) 3 ((gL (sL u 15 ((gL u 15) + (1 : Int64))) 3) + (1 : Int64)))) else (f_X12_steps_b94 x2 (1 : Int64) (gL (sL (sL u 15 ((gL u 15) + (1 : Int64))) 3 ((gL (sL u 15 ((gL u 15) + (1 : Int64))) 3) + (1 : Int64))) 16) (sL (sL u 15 ((gL u 15) + (1 : Int64))) 3 ((gL (sL u 15 ((gL u 15) + (1 : Int64))) 3) + (1 : Int64))))
set_option maxRecDepth 100000 in
set_option maxHeartbeats 4000000 in
theorem b_X12_steps_b60 {p : Program} {l : Launch} {e : Env} {s : State} {m : MethodId} {args : Array Value} {below : List Frame} {meth : Method} {c : Code} {D : va_G} {cy : ClassId × ClassId × ClassId} {ad : Nat → Nat} {A : Nat → Prop} (E : CallFix p m c cX12_steps 3 s args gw RX12) (hr : meth.sig.returnType = some .boolean) (hlk : meth.locks = false) {x2 : Int32} {u : St} {r : Int32} {u' : St} (h : f_X12_steps_b60 x2 u = some (r, u')) {ls : Array Slot} {H : Heap} {locs : List Loc} {rr : Nat → Nat} (hl : lv_has ls 3 [(0, .ref (ad 0)), (2, .int x2)]) (w : WX (wM cy ad) D cy rr u A s H locs) : Wx (wM cy ad) D p l e 7 189 0 s m args below meth c A u' (some (.int r)) H locs 0 60 ls [] := by
  have hx := E.1
  have hb := E.2.1
  have hown := E.2.2.2.1
  have hts := E.2.2.2.2
  refine lv_aload_n hx hb (dq da_X12_steps 34 rfl) rfl (lv_at hl 0 rfl) ?_
  refine lv_dup hx hb (dq da_X12_steps 35 rfl) rfl ?_
  refine gt_wM_0_cycle E w w_1124 (dq da_X12_steps 36 rfl) ?_
  refine lv_lconst (v := 1) hx hb (dq da_X12_steps 37 rfl) rfl ?_
  refine lv_ladd hx hb (dq da_X12_steps 38 rfl) ?_
  refine pt_wM_0_cycle E w w_1124 (dq da_X12_steps 39 rfl) (fun H locs w => ?_)
  refine lv_aload_n hx hb (dq da_X12_steps 40 rfl) rfl (lv_at hl 0 rfl) ?_
  refine lv_dup hx hb (dq da_X12_steps 41 rfl) rfl ?_
  refine gt_wM_0_time E w w_1098 (dq da_X12_steps 42 rfl) ?_
  refine lv_lconst (v := 1) hx hb (dq da_X12_steps 43 rfl) rfl ?_
  refine lv_ladd hx hb (dq da_X12_steps 44 rfl) ?_
  refine pt_wM_0_time E w w_1098 (dq da_X12_steps 45 rfl) (fun H locs w => ?_)
  refine lv_aload_n hx hb (dq da_X12_steps 46 rfl) rfl (lv_at hl 0 rfl) ?_
  refine lv_dup hx hb (dq da_X12_steps 47 rfl) rfl ?_
  refine gt_wM_0_retired E w w_1125 (dq da_X12_steps 48 rfl) ?_
  refine lv_iload_n hx hb (dq da_X12_steps 49 rfl) rfl (lv_at hl 1 rfl) ?_
  refine lv_if_eq (tgt := 93) hx hb (dq da_X12_steps 50 rfl) (by decide) (fun c8 => ?_) (fun c8 => ?_)
  · have h := it c8 h
    refine lv_lconst (v := 0) hx hb (dq da_X12_steps 53 rfl) rfl ?_
    exact b_X12_steps_b94 E hr hlk h (lv_sub hl [0, 1] rfl) w
  · have h := ie c8 h
    refine lv_lconst (v := 1) hx hb (dq da_X12_steps 51 rfl) rfl ?_
    refine lv_goto (tgt := 94) hx hb (dq da_X12_steps 52 rfl) (by decide) ?_
    exact b_X12_steps_b94 E hr hlk h (lv_sub hl [0, 1] rfl) w
def f_X12_steps_b42 (s0 : Int32) (u : St) : Option (Int32 × St) := if s0 = (0 : Int32) then (f_X12_steps_b60 s0 (f_X12_trap (0 : Int32) (gI u 16) (gL u 24) u)) else (f_X12_steps_b60 s0 u)
set_option maxRecDepth 100000 in
set_option maxHeartbeats 4000000 in
theorem b_X12_steps_b42 {p : Program} {l : Launch} {e : Env} {s : State} {m : MethodId} {args : Array Value} {below : List Frame} {meth : Method} {c : Code} {D : va_G} {cy : ClassId × ClassId × ClassId} {ad : Nat → Nat} {A : Nat → Prop} (E : CallFix p m c cX12_steps 3 s args gw RX12) (hr : meth.sig.returnType = some .boolean) (hlk : meth.locks = false) {s0 : Int32} {u : St} {r : Int32} {u' : St} (h : f_X12_steps_b42 s0 u = some (r, u')) {ls : Array Slot} {H : Heap} {locs : List Loc} {rr : Nat → Nat} (hl : lv_has ls 3 [(0, .ref (ad 0))]) (w : WX (wM cy ad) D cy rr u A s H locs) : Wx (wM cy ad) D p l e 7 189 0 s m args below meth c A u' (some (.int r)) H locs 0 42 ls [.int s0] := by
  have hx := E.1
  have hb := E.2.1
  have hown := E.2.2.2.1
  have hts := E.2.2.2.2
  refine lv_istore_n (lv' := [(2, .int s0), (0, .ref (ad 0))]) hx hb (dq da_X12_steps 24 rfl) rfl hl (by decide) rfl (fun ls hl => ?_)
  refine lv_iload_n hx hb (dq da_X12_steps 25 rfl) rfl (lv_at hl 0 rfl) ?_
  refine lv_if_ne (tgt := 60) hx hb (dq da_X12_steps 26 rfl) (by decide) (fun c7 => ?_) (fun c7 => ?_)
  · have h := ie c7 h
    exact b_X12_steps_b60 E hr hlk h (lv_sub hl [1, 0] rfl) w
  · have h := it c7 h
    refine lv_aload_n hx hb (dq da_X12_steps 27 rfl) rfl (lv_at hl 1 rfl) ?_
    refine lv_iconst (v := 0) hx hb (dq da_X12_steps 28 rfl) rfl ?_
    refine lv_aload_n hx hb (dq da_X12_steps 29 rfl) rfl (lv_at hl 1 rfl) ?_
    refine gt_wM_0_fault E w w_1136 (dq da_X12_steps 30 rfl) ?_
    refine lv_aload_n hx hb (dq da_X12_steps 31 rfl) rfl (lv_at hl 1 rfl) ?_
    refine gt_wM_0_faultValue E w w_1137 (dq da_X12_steps 32 rfl) ?_
    refine cV0 E (c_X12_trap l D cy ad _ _ _ _ ) w_1418 w_1420 w_p57 w_10 w_1421 rfl hd_X12_trap rfl hl.1 rfl (Nat.le_of_ble_eq_true rfl) ⟨Nat.le_of_ble_eq_true rfl, Nat.le_of_ble_eq_true rfl⟩ (by decide) w (rc_wM_0 w) (dq da_X12_steps 33 rfl) (fun H locs rr w => ?_)
    exact b_X12_steps_b60 E hr hlk h (lv_sub hl [1, 0] rfl) w
def f_X12_steps (u : St) : Option (Int32 × St) := (f_X12_taken u).bind (fun y1 => if y1 < (0 : Int32) then ((f_X12_goes (sI u 16 (-1 : Int32))).bind (fun y4 => if (0 : Int32) ≤ (gI y4 16) then (f_X12_steps_b42 (0 : Int32) y4) else (f_X12_steps_b42 (1 : Int32) y4))) else (f_X12_steps_b60 (0 : Int32) (f_X12_trap (1 : Int32) y1 (0 : Int64) u)))
set_option maxRecDepth 100000 in
set_option maxHeartbeats 4000000 in
theorem c_X12_steps (l : Launch) (D : va_G) (cy : ClassId × ClassId × ClassId) (ad : Nat → Nat) (u : St) {r : Int32} {u' : St} (h : f_X12_steps u = some (r, u')) : MX (wM cy ad) D cy l yX12_steps cX12_steps 3 (some .boolean) 7 189 0 [.ref (ad 0)] u u' (some (.int (r))) := by
  refine entX (by decide +kernel) (Nat.le_of_ble_eq_true rfl) ?_
  intro p e s m args below meth c ls rr A E hr hlk hl w
  have hl : lv_has ls 3 [(0, .ref (ad 0))] := hl
  have hx := E.1
  have hb := E.2.1
  have hown := E.2.2.2.1
  have hts := E.2.2.2.2
  refine lv_aload_n hx hb (dq da_X12_steps 0 rfl) rfl (lv_at hl 0 rfl) ?_
  obtain ⟨y1, hy2, h⟩ := ob h
  refine cV1 E (c_X12_taken l D cy ad _ hy2) w_1407 w_1409 w_p55 w_10 w_1410 rfl hd_X12_taken rfl hl.1 rfl (Nat.le_of_ble_eq_true rfl) ⟨Nat.le_of_ble_eq_true rfl, Nat.le_of_ble_eq_true rfl⟩ (by decide) w (rc_wM_0 w) (dq da_X12_steps 1 rfl) (fun H locs rr w => ?_)
  refine lv_istore_n (lv' := [(1, .int y1), (0, .ref (ad 0))]) hx hb (dq da_X12_steps 2 rfl) rfl hl (by decide) rfl (fun ls hl => ?_)
  refine lv_iconst (v := 0) hx hb (dq da_X12_steps 3 rfl) rfl ?_
  refine lv_istore_n (lv' := [(2, .int (0 : Int32)), (1, .int y1), (0, .ref (ad 0))]) hx hb (dq da_X12_steps 4 rfl) rfl hl (by decide) rfl (fun ls hl => ?_)
  refine lv_iload_n hx hb (dq da_X12_steps 5 rfl) rfl (lv_at hl 1 rfl) ?_
  refine lv_if_lt (tgt := 21) hx hb (dq da_X12_steps 6 rfl) (by decide) (fun c3 => ?_) (fun c3 => ?_)
  · have h := it c3 h
    refine lv_aload_n hx hb (dq da_X12_steps 13 rfl) rfl (lv_at hl 2 rfl) ?_
    refine lv_iconst (v := (-1)) hx hb (dq da_X12_steps 14 rfl) rfl ?_
    refine pt_wM_0_fault E w w_1136 (dq da_X12_steps 15 rfl) (fun H locs w => ?_)
    refine lv_aload_n hx hb (dq da_X12_steps 16 rfl) rfl (lv_at hl 2 rfl) ?_
    obtain ⟨y4, hy5, h⟩ := ob h
    refine cV0 E (c_X12_goes l D cy ad _ hy5) w_1428 w_1430 w_p59 w_10 w_1431 rfl hd_X12_goes rfl hl.1 rfl (Nat.le_of_ble_eq_true rfl) ⟨Nat.le_of_ble_eq_true rfl, Nat.le_of_ble_eq_true rfl⟩ (by decide) w (rc_wM_0 w) (dq da_X12_steps 17 rfl) (fun H locs rr w => ?_)
    refine lv_aload_n hx hb (dq da_X12_steps 18 rfl) rfl (lv_at hl 2 rfl) ?_
    refine gt_wM_0_fault E w w_1136 (dq da_X12_steps 19 rfl) ?_
    refine lv_if_ge (tgt := 41) hx hb (dq da_X12_steps 20 rfl) (by decide) (fun c6 => ?_) (fun c6 => ?_)
    · have h := it c6 h
      refine lv_iconst (v := 0) hx hb (dq da_X12_steps 23 rfl) rfl ?_
      exact b_X12_steps_b42 E hr hlk h (lv_sub hl [2] rfl) w
    · have h := ie c6 h
      refine lv_iconst (v := 1) hx hb (dq da_X12_steps 21 rfl) rfl ?_
      refine lv_goto (tgt := 42) hx hb (dq da_X12_steps 22 rfl) (by decide) ?_
      exact b_X12_steps_b42 E hr hlk h (lv_sub hl [2] rfl) w
  · have h := ie c3 h
    refine lv_aload_n hx hb (dq da_X12_steps 7 rfl) rfl (lv_at hl 2 rfl) ?_
    refine lv_iconst (v := 1) hx hb (dq da_X12_steps 8 rfl) rfl ?_
    refine lv_iload_n hx hb (dq da_X12_steps 9 rfl) rfl (lv_at hl 1 rfl) ?_
    refine lv_lconst (v := 0) hx hb (dq da_X12_steps 10 rfl) rfl ?_
    refine cV0 E (c_X12_trap l D cy ad _ _ _ _ ) w_1418 w_1420 w_p57 w_10 w_1421 rfl hd_X12_trap rfl hl.1 rfl (Nat.le_of_ble_eq_true rfl) ⟨Nat.le_of_ble_eq_true rfl, Nat.le_of_ble_eq_true rfl⟩ (by decide) w (rc_wM_0 w) (dq da_X12_steps 11 rfl) (fun H locs rr w => ?_)
    refine lv_goto (tgt := 60) hx hb (dq da_X12_steps 12 rfl) (by decide) ?_
    exact b_X12_steps_b60 E hr hlk h (lv_sub hl [2, 0] rfl) w

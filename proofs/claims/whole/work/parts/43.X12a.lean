theorem fl_X12_7 : FLk RX12 7 12 3 := ⟨_, rfl, by decide, Or.inl (gw_at 1517 (by decide +kernel) rfl)⟩
theorem fl_X12_13 : FLk RX12 13 12 4 := ⟨_, rfl, by decide, Or.inl (gw_at 1518 (by decide +kernel) rfl)⟩
theorem fl_X12_17 : FLk RX12 17 12 5 := ⟨_, rfl, by decide, Or.inl (gw_at 1519 (by decide +kernel) rfl)⟩
theorem fl_X12_20 : FLk RX12 20 12 6 := ⟨_, rfl, by decide, Or.inl (gw_at 1520 (by decide +kernel) rfl)⟩
theorem fl_X12_24 : FLk RX12 24 12 7 := ⟨_, rfl, by decide, Or.inl (gw_at 1521 (by decide +kernel) rfl)⟩
theorem fl_X12_28 : FLk RX12 28 12 10 := ⟨_, rfl, by decide, Or.inl (gw_at 1524 (by decide +kernel) rfl)⟩
theorem fl_X12_32 : FLk RX12 32 12 11 := ⟨_, rfl, by decide, Or.inl (gw_at 1525 (by decide +kernel) rfl)⟩
theorem fl_X12_35 : FLk RX12 35 12 20 := ⟨_, rfl, by decide, Or.inl (gw_at 1534 (by decide +kernel) rfl)⟩
theorem fl_X12_38 : FLk RX12 38 12 21 := ⟨_, rfl, by decide, Or.inl (gw_at 1535 (by decide +kernel) rfl)⟩
theorem fl_X12_41 : FLk RX12 41 12 22 := ⟨_, rfl, by decide, Or.inl (gw_at 1536 (by decide +kernel) rfl)⟩
theorem fl_X12_44 : FLk RX12 44 12 27 := ⟨_, rfl, by decide, Or.inl (gw_at 1541 (by decide +kernel) rfl)⟩
theorem fl_X12_47 : FLk RX12 47 12 28 := ⟨_, rfl, by decide, Or.inl (gw_at 1542 (by decide +kernel) rfl)⟩
theorem fl_X12_50 : FLk RX12 50 12 29 := ⟨_, rfl, by decide, Or.inl (gw_at 1543 (by decide +kernel) rfl)⟩
theorem fl_X12_53 : FLk RX12 53 12 30 := ⟨_, rfl, by decide, Or.inl (gw_at 1544 (by decide +kernel) rfl)⟩
theorem fl_X12_56 : FLk RX12 56 12 31 := ⟨_, rfl, by decide, Or.inl (gw_at 1545 (by decide +kernel) rfl)⟩
theorem fl_X12_59 : FLk RX12 59 12 32 := ⟨_, rfl, by decide, Or.inl (gw_at 1546 (by decide +kernel) rfl)⟩
theorem fl_X12_62 : FLk RX12 62 12 33 := ⟨_, rfl, by decide, Or.inl (gw_at 1547 (by decide +kernel) rfl)⟩
theorem fl_X12_65 : FLk RX12 65 12 35 := ⟨_, rfl, by decide, Or.inl (gw_at 1549 (by decide +kernel) rfl)⟩
theorem fl_X12_68 : FLk RX12 68 12 1 := ⟨_, rfl, by decide, Or.inl (gw_at 1515 (by decide +kernel) rfl)⟩
theorem fl_X12_71 : FLk RX12 71 12 0 := ⟨_, rfl, by decide, Or.inl (gw_at 1514 (by decide +kernel) rfl)⟩
theorem fl_X12_74 : FLk RX12 74 12 2 := ⟨_, rfl, by decide, Or.inl (gw_at 1516 (by decide +kernel) rfl)⟩
theorem fl_X12_111 : FLk RX12 111 12 9 := ⟨_, rfl, by decide, Or.inl (gw_at 1523 (by decide +kernel) rfl)⟩
theorem fl_X12_114 : FLk RX12 114 12 16 := ⟨_, rfl, by decide, Or.inl (gw_at 1530 (by decide +kernel) rfl)⟩
theorem fl_X12_117 : FLk RX12 117 12 15 := ⟨_, rfl, by decide, Or.inl (gw_at 1529 (by decide +kernel) rfl)⟩
theorem fl_X12_123 : FLk RX12 123 12 14 := ⟨_, rfl, by decide, Or.inl (gw_at 1528 (by decide +kernel) rfl)⟩
theorem fl_X12_129 : FLk RX12 129 12 19 := ⟨_, rfl, by decide, Or.inl (gw_at 1533 (by decide +kernel) rfl)⟩
theorem fl_X12_136 : FLk RX12 136 12 18 := ⟨_, rfl, by decide, Or.inl (gw_at 1532 (by decide +kernel) rfl)⟩
theorem fl_X12_142 : FLk RX12 142 12 17 := ⟨_, rfl, by decide, Or.inl (gw_at 1531 (by decide +kernel) rfl)⟩
theorem fl_X12_221 : FLk RX12 221 12 12 := ⟨_, rfl, by decide, Or.inl (gw_at 1526 (by decide +kernel) rfl)⟩
theorem fl_X12_224 : FLk RX12 224 12 13 := ⟨_, rfl, by decide, Or.inl (gw_at 1527 (by decide +kernel) rfl)⟩
theorem fl_X12_244 : FLk RX12 244 12 8 := ⟨_, rfl, by decide, Or.inl (gw_at 1522 (by decide +kernel) rfl)⟩
theorem fl_X12_281 : FLk RX12 281 12 24 := ⟨_, rfl, by decide, Or.inl (gw_at 1538 (by decide +kernel) rfl)⟩
theorem fl_X12_315 : FLk RX12 315 12 25 := ⟨_, rfl, by decide, Or.inl (gw_at 1539 (by decide +kernel) rfl)⟩
theorem fl_X12_384 : FLk RX12 384 12 26 := ⟨_, rfl, by decide, Or.inl (gw_at 1540 (by decide +kernel) rfl)⟩
theorem fl_X12_444 : FLk RX12 444 12 34 := ⟨_, rfl, by decide, Or.inl (gw_at 1548 (by decide +kernel) rfl)⟩
theorem fl_X12_483 : FLk RX12 483 12 38 := ⟨_, rfl, by decide, Or.inl (gw_at 1552 (by decide +kernel) rfl)⟩
theorem fl_X12_490 : FLk RX12 490 12 43 := ⟨_, rfl, by decide, Or.inl (gw_at 1557 (by decide +kernel) rfl)⟩
theorem fl_X12_493 : FLk RX12 493 12 42 := ⟨_, rfl, by decide, Or.inl (gw_at 1556 (by decide +kernel) rfl)⟩
theorem fl_X12_496 : FLk RX12 496 12 41 := ⟨_, rfl, by decide, Or.inl (gw_at 1555 (by decide +kernel) rfl)⟩
theorem fl_X12_502 : FLk RX12 502 12 39 := ⟨_, rfl, by decide, Or.inl (gw_at 1553 (by decide +kernel) rfl)⟩
theorem fl_X12_505 : FLk RX12 505 12 37 := ⟨_, rfl, by decide, Or.inl (gw_at 1551 (by decide +kernel) rfl)⟩
theorem fl_X12_508 : FLk RX12 508 12 44 := ⟨_, rfl, by decide, Or.inl (gw_at 1558 (by decide +kernel) rfl)⟩
theorem fl_X12_511 : FLk RX12 511 12 40 := ⟨_, rfl, by decide, Or.inl (gw_at 1554 (by decide +kernel) rfl)⟩
theorem fl_X12_531 : FLk RX12 531 12 36 := ⟨_, rfl, by decide, Or.inl (gw_at 1550 (by decide +kernel) rfl)⟩
theorem fl_X12_538 : FLk RX12 538 12 23 := ⟨_, rfl, by decide, Or.inl (gw_at 1537 (by decide +kernel) rfl)⟩
theorem ff_X12_13 : FFk RX12 13 12 4 := ⟨_, rfl, by decide, rfl, rfl, gw_at 1518 (by decide +kernel) rfl⟩
theorem ff_X12_17 : FFk RX12 17 12 5 := ⟨_, rfl, by decide, rfl, rfl, gw_at 1519 (by decide +kernel) rfl⟩
theorem ff_X12_20 : FFk RX12 20 12 6 := ⟨_, rfl, by decide, rfl, rfl, gw_at 1520 (by decide +kernel) rfl⟩
theorem ff_X12_24 : FFk RX12 24 12 7 := ⟨_, rfl, by decide, rfl, rfl, gw_at 1521 (by decide +kernel) rfl⟩
theorem ff_X12_35 : FFk RX12 35 12 20 := ⟨_, rfl, by decide, rfl, rfl, gw_at 1534 (by decide +kernel) rfl⟩
theorem ff_X12_38 : FFk RX12 38 12 21 := ⟨_, rfl, by decide, rfl, rfl, gw_at 1535 (by decide +kernel) rfl⟩
theorem ff_X12_41 : FFk RX12 41 12 22 := ⟨_, rfl, by decide, rfl, rfl, gw_at 1536 (by decide +kernel) rfl⟩
theorem ff_X12_44 : FFk RX12 44 12 27 := ⟨_, rfl, by decide, rfl, rfl, gw_at 1541 (by decide +kernel) rfl⟩
theorem ff_X12_47 : FFk RX12 47 12 28 := ⟨_, rfl, by decide, rfl, rfl, gw_at 1542 (by decide +kernel) rfl⟩
theorem ff_X12_50 : FFk RX12 50 12 29 := ⟨_, rfl, by decide, rfl, rfl, gw_at 1543 (by decide +kernel) rfl⟩
theorem ff_X12_56 : FFk RX12 56 12 31 := ⟨_, rfl, by decide, rfl, rfl, gw_at 1545 (by decide +kernel) rfl⟩
theorem ff_X12_59 : FFk RX12 59 12 32 := ⟨_, rfl, by decide, rfl, rfl, gw_at 1546 (by decide +kernel) rfl⟩
theorem ff_X12_65 : FFk RX12 65 12 35 := ⟨_, rfl, by decide, rfl, rfl, gw_at 1549 (by decide +kernel) rfl⟩
theorem kc_X12_99 : Cond.constantLong RX12 99 (-1) ∈ GW := gw_at 1689 (by decide +kernel) rfl
theorem kc_X12_101 : Cond.constantLong RX12 101 3 ∈ GW := gw_at 2192 (by decide +kernel) rfl
theorem kc_X12_132 : Cond.constantLong RX12 132 32 ∈ GW := gw_at 1725 (by decide +kernel) rfl
theorem kc_X12_134 : Cond.constantLong RX12 134 96 ∈ GW := gw_at 1726 (by decide +kernel) rfl
theorem kc_X12_329 : Cond.constantLong RX12 329 9 ∈ GW := gw_at 1929 (by decide +kernel) rfl
theorem kc_X12_344 : Cond.constantLong RX12 344 8 ∈ GW := gw_at 1954 (by decide +kernel) rfl
theorem kc_X12_355 : Cond.constantLong RX12 355 5 ∈ GW := gw_at 1971 (by decide +kernel) rfl
theorem kc_X12_393 : Cond.constantLong RX12 393 240 ∈ GW := gw_at 2041 (by decide +kernel) rfl
theorem kc_X12_404 : Cond.constantLong RX12 404 99 ∈ GW := gw_at 2055 (by decide +kernel) rfl
theorem kc_X12_434 : Cond.constant RX12 434 99999 ∈ GW := gw_at 2143 (by decide +kernel) rfl
theorem kc_X12_457 : Cond.constantLong RX12 457 60 ∈ GW := gw_at 2193 (by decide +kernel) rfl
theorem kc_X12_463 : Cond.constantLong RX12 463 100 ∈ GW := gw_at 2198 (by decide +kernel) rfl
theorem kc_X12_486 : Cond.constant RX12 486 65536 ∈ GW := gw_at 2287 (by decide +kernel) rfl
theorem kc_X12_526 : Cond.constantLong RX12 526 9999 ∈ GW := gw_at 2262 (by decide +kernel) rfl
theorem kc_X12_534 : Cond.constantLong RX12 534 4 ∈ GW := gw_at 2296 (by decide +kernel) rfl
theorem kc_X12_536 : Cond.constantLong RX12 536 20 ∈ GW := gw_at 2301 (by decide +kernel) rfl
theorem oi_X12_1 : Cond.methodLink RX12 1 Lib.objectInit ∈ GW := gw_at 1513 (by decide +kernel) rfl
theorem bi_X12_77 : Cond.methodLink RX12 77 Lib.MathLoose.abs_long.x ∈ GW := gw_at 2098 (by decide +kernel) rfl
theorem bi_X12_264 : Cond.methodLink RX12 264 Lib.Math.max.name ∈ GW := gw_at 1884 (by decide +kernel) rfl
theorem bi_X12_327 : Cond.methodLink RX12 327 Lib.Math.abs.name ∈ GW := gw_at 1996 (by decide +kernel) rfl
theorem bi_X12_387 : Cond.methodLink RX12 387 Lib.Math.min.name ∈ GW := gw_at 2050 (by decide +kernel) rfl
theorem dX12_init_0 : decode cX12_init 0 = .ok (.aload_n 0, 1) := by decide +kernel
theorem dX12_init_1 : decode cX12_init 1 = .ok (.invokespecial 1, 3) := by decide +kernel
theorem dX12_init_4 : decode cX12_init 4 = .ok (.aload_n 0, 1) := by decide +kernel
theorem dX12_init_5 : decode cX12_init 5 = .ok (.lconst 1, 1) := by decide +kernel
theorem dX12_init_6 : decode cX12_init 6 = .ok (.putfield 7, 3) := by decide +kernel
theorem dX12_init_9 : decode cX12_init 9 = .ok (.aload_n 0, 1) := by decide +kernel
theorem dX12_init_10 : decode cX12_init 10 = .ok (.iconst 4, 1) := by decide +kernel
theorem dX12_init_11 : decode cX12_init 11 = .ok (.newarray .int, 2) := by decide +kernel
theorem dX12_init_13 : decode cX12_init 13 = .ok (.putfield 13, 3) := by decide +kernel
theorem dX12_init_16 : decode cX12_init 16 = .ok (.aload_n 0, 1) := by decide +kernel
theorem dX12_init_17 : decode cX12_init 17 = .ok (.iconst 4, 1) := by decide +kernel
theorem dX12_init_18 : decode cX12_init 18 = .ok (.newarray .int, 2) := by decide +kernel
theorem dX12_init_20 : decode cX12_init 20 = .ok (.putfield 17, 3) := by decide +kernel
theorem dX12_init_23 : decode cX12_init 23 = .ok (.aload_n 0, 1) := by decide +kernel
theorem dX12_init_24 : decode cX12_init 24 = .ok (.sipush 240, 3) := by decide +kernel
theorem dX12_init_27 : decode cX12_init 27 = .ok (.newarray .long, 2) := by decide +kernel
theorem dX12_init_29 : decode cX12_init 29 = .ok (.putfield 20, 3) := by decide +kernel
theorem dX12_init_32 : decode cX12_init 32 = .ok (.aload_n 0, 1) := by decide +kernel
theorem dX12_init_33 : decode cX12_init 33 = .ok (.sipush 900, 3) := by decide +kernel
theorem dX12_init_36 : decode cX12_init 36 = .ok (.newarray .byte, 2) := by decide +kernel
theorem dX12_init_38 : decode cX12_init 38 = .ok (.putfield 24, 3) := by decide +kernel
theorem dX12_init_41 : decode cX12_init 41 = .ok (.aload_n 0, 1) := by decide +kernel
theorem dX12_init_42 : decode cX12_init 42 = .ok (.iconst (-1), 1) := by decide +kernel
theorem dX12_init_43 : decode cX12_init 43 = .ok (.putfield 28, 3) := by decide +kernel
theorem dX12_init_46 : decode cX12_init 46 = .ok (.aload_n 0, 1) := by decide +kernel
theorem dX12_init_47 : decode cX12_init 47 = .ok (.iconst (-1), 1) := by decide +kernel
theorem dX12_init_48 : decode cX12_init 48 = .ok (.putfield 32, 3) := by decide +kernel
theorem dX12_init_51 : decode cX12_init 51 = .ok (.aload_n 0, 1) := by decide +kernel
theorem dX12_init_52 : decode cX12_init 52 = .ok (.sipush 2250, 3) := by decide +kernel
theorem dX12_init_55 : decode cX12_init 55 = .ok (.newarray .int, 2) := by decide +kernel
theorem dX12_init_57 : decode cX12_init 57 = .ok (.putfield 35, 3) := by decide +kernel
theorem dX12_init_60 : decode cX12_init 60 = .ok (.aload_n 0, 1) := by decide +kernel
theorem dX12_init_61 : decode cX12_init 61 = .ok (.sipush 173, 3) := by decide +kernel
theorem dX12_init_64 : decode cX12_init 64 = .ok (.newarray .int, 2) := by decide +kernel
theorem dX12_init_66 : decode cX12_init 66 = .ok (.putfield 38, 3) := by decide +kernel
theorem dX12_init_69 : decode cX12_init 69 = .ok (.aload_n 0, 1) := by decide +kernel
theorem dX12_init_70 : decode cX12_init 70 = .ok (.bipush 90, 2) := by decide +kernel
theorem dX12_init_72 : decode cX12_init 72 = .ok (.newarray .long, 2) := by decide +kernel
theorem dX12_init_74 : decode cX12_init 74 = .ok (.putfield 41, 3) := by decide +kernel
theorem dX12_init_77 : decode cX12_init 77 = .ok (.aload_n 0, 1) := by decide +kernel
theorem dX12_init_78 : decode cX12_init 78 = .ok (.sipush 2048, 3) := by decide +kernel
theorem dX12_init_81 : decode cX12_init 81 = .ok (.newarray .int, 2) := by decide +kernel
theorem dX12_init_83 : decode cX12_init 83 = .ok (.putfield 44, 3) := by decide +kernel
theorem dX12_init_86 : decode cX12_init 86 = .ok (.aload_n 0, 1) := by decide +kernel
theorem dX12_init_87 : decode cX12_init 87 = .ok (.sipush 1024, 3) := by decide +kernel
theorem dX12_init_90 : decode cX12_init 90 = .ok (.newarray .int, 2) := by decide +kernel
theorem dX12_init_92 : decode cX12_init 92 = .ok (.putfield 47, 3) := by decide +kernel
theorem dX12_init_95 : decode cX12_init 95 = .ok (.aload_n 0, 1) := by decide +kernel
theorem dX12_init_96 : decode cX12_init 96 = .ok (.sipush 256, 3) := by decide +kernel
theorem dX12_init_99 : decode cX12_init 99 = .ok (.newarray .int, 2) := by decide +kernel
theorem dX12_init_101 : decode cX12_init 101 = .ok (.putfield 50, 3) := by decide +kernel
theorem dX12_init_104 : decode cX12_init 104 = .ok (.aload_n 0, 1) := by decide +kernel
theorem dX12_init_105 : decode cX12_init 105 = .ok (.iconst (-1), 1) := by decide +kernel
theorem dX12_init_106 : decode cX12_init 106 = .ok (.putfield 53, 3) := by decide +kernel
theorem dX12_init_109 : decode cX12_init 109 = .ok (.aload_n 0, 1) := by decide +kernel
theorem dX12_init_110 : decode cX12_init 110 = .ok (.bipush 8, 2) := by decide +kernel
theorem dX12_init_112 : decode cX12_init 112 = .ok (.newarray .int, 2) := by decide +kernel
theorem dX12_init_114 : decode cX12_init 114 = .ok (.putfield 56, 3) := by decide +kernel
theorem dX12_init_117 : decode cX12_init 117 = .ok (.aload_n 0, 1) := by decide +kernel
theorem dX12_init_118 : decode cX12_init 118 = .ok (.bipush 8, 2) := by decide +kernel
theorem dX12_init_120 : decode cX12_init 120 = .ok (.newarray .int, 2) := by decide +kernel
theorem dX12_init_122 : decode cX12_init 122 = .ok (.putfield 59, 3) := by decide +kernel
theorem dX12_init_125 : decode cX12_init 125 = .ok (.aload_n 0, 1) := by decide +kernel
theorem dX12_init_126 : decode cX12_init 126 = .ok (.iconst (-1), 1) := by decide +kernel
theorem dX12_init_127 : decode cX12_init 127 = .ok (.putfield 62, 3) := by decide +kernel
theorem dX12_init_130 : decode cX12_init 130 = .ok (.aload_n 0, 1) := by decide +kernel
theorem dX12_init_131 : decode cX12_init 131 = .ok (.iconst 5, 1) := by decide +kernel
theorem dX12_init_132 : decode cX12_init 132 = .ok (.newarray .int, 2) := by decide +kernel
theorem dX12_init_134 : decode cX12_init 134 = .ok (.putfield 65, 3) := by decide +kernel
theorem dX12_init_137 : decode cX12_init 137 = .ok (.iconst 0, 1) := by decide +kernel
theorem dX12_init_138 : decode cX12_init 138 = .ok (.istore_n 1, 1) := by decide +kernel
theorem dX12_init_139 : decode cX12_init 139 = .ok (.iload_n 1, 1) := by decide +kernel
theorem dX12_init_140 : decode cX12_init 140 = .ok (.iconst 4, 1) := by decide +kernel
theorem dX12_init_141 : decode cX12_init 141 = .ok (.if_icmp .ge 16, 3) := by decide +kernel
theorem dX12_init_144 : decode cX12_init 144 = .ok (.aload_n 0, 1) := by decide +kernel
theorem dX12_init_145 : decode cX12_init 145 = .ok (.getfield 17, 3) := by decide +kernel
theorem dX12_init_148 : decode cX12_init 148 = .ok (.iload_n 1, 1) := by decide +kernel
theorem dX12_init_149 : decode cX12_init 149 = .ok (.iconst (-1), 1) := by decide +kernel
theorem dX12_init_150 : decode cX12_init 150 = .ok (.iastore, 1) := by decide +kernel
theorem dX12_init_151 : decode cX12_init 151 = .ok (.iinc 1 1, 3) := by decide +kernel
theorem dX12_init_154 : decode cX12_init 154 = .ok (.goto (-15), 3) := by decide +kernel
theorem dX12_init_157 : decode cX12_init 157 = .ok (.aload_n 0, 1) := by decide +kernel
theorem dX12_init_158 : decode cX12_init 158 = .ok (.getfield 35, 3) := by decide +kernel
theorem dX12_init_161 : decode cX12_init 161 = .ok (.iconst 3, 1) := by decide +kernel
theorem dX12_init_162 : decode cX12_init 162 = .ok (.iconst 3, 1) := by decide +kernel
theorem dX12_init_163 : decode cX12_init 163 = .ok (.iastore, 1) := by decide +kernel
theorem dX12_init_164 : decode cX12_init 164 = .ok (.return_, 1) := by decide +kernel
def j_X12_init : JD := (yX12_init, cX12_init, 2, none)
def b_X12_init : BD := (1, 13, 7010)
theorem dX12_status_0 : decode cX12_status 0 = .ok (.aload_n 0, 1) := by decide +kernel
theorem dX12_status_1 : decode cX12_status 1 = .ok (.iconst 0, 1) := by decide +kernel
theorem dX12_status_2 : decode cX12_status 2 = .ok (.putfield 68, 3) := by decide +kernel
theorem dX12_status_5 : decode cX12_status 5 = .ok (.aload_n 0, 1) := by decide +kernel
theorem dX12_status_6 : decode cX12_status 6 = .ok (.getfield 71, 3) := by decide +kernel
theorem dX12_status_9 : decode cX12_status 9 = .ok (.ireturn, 1) := by decide +kernel
def j_X12_status : JD := (yX12_status, cX12_status, 1, (some .int))
def b_X12_status : BD := (0, 0, 0)
theorem dX12_top_0 : decode cX12_top 0 = .ok (.aload_n 0, 1) := by decide +kernel
theorem dX12_top_1 : decode cX12_top 1 = .ok (.iconst 0, 1) := by decide +kernel
theorem dX12_top_2 : decode cX12_top 2 = .ok (.putfield 68, 3) := by decide +kernel
theorem dX12_top_5 : decode cX12_top 5 = .ok (.aload_n 0, 1) := by decide +kernel
theorem dX12_top_6 : decode cX12_top 6 = .ok (.getfield 74, 3) := by decide +kernel
theorem dX12_top_9 : decode cX12_top 9 = .ok (.lreturn, 1) := by decide +kernel
def j_X12_top : JD := (yX12_top, cX12_top, 1, (some .long))
def b_X12_top : BD := (0, 0, 0)
theorem dX12_bottom_0 : decode cX12_bottom 0 = .ok (.aload_n 0, 1) := by decide +kernel
theorem dX12_bottom_1 : decode cX12_bottom 1 = .ok (.iconst 0, 1) := by decide +kernel
theorem dX12_bottom_2 : decode cX12_bottom 2 = .ok (.putfield 68, 3) := by decide +kernel
theorem dX12_bottom_5 : decode cX12_bottom 5 = .ok (.aload_n 0, 1) := by decide +kernel
theorem dX12_bottom_6 : decode cX12_bottom 6 = .ok (.getfield 7, 3) := by decide +kernel
theorem dX12_bottom_9 : decode cX12_bottom 9 = .ok (.lreturn, 1) := by decide +kernel
def j_X12_bottom : JD := (yX12_bottom, cX12_bottom, 1, (some .long))
def b_X12_bottom : BD := (0, 0, 0)
theorem dX12_refuse_0 : decode cX12_refuse 0 = .ok (.aload_n 0, 1) := by decide +kernel
theorem dX12_refuse_1 : decode cX12_refuse 1 = .ok (.iload_n 1, 1) := by decide +kernel
theorem dX12_refuse_2 : decode cX12_refuse 2 = .ok (.putfield 71, 3) := by decide +kernel
theorem dX12_refuse_5 : decode cX12_refuse 5 = .ok (.iconst (-1), 1) := by decide +kernel
theorem dX12_refuse_6 : decode cX12_refuse 6 = .ok (.ireturn, 1) := by decide +kernel
def j_X12_refuse : JD := (yX12_refuse, cX12_refuse, 2, (some .int))
def b_X12_refuse : BD := (0, 0, 0)
theorem dX12_no_0 : decode cX12_no 0 = .ok (.aload_n 0, 1) := by decide +kernel
theorem dX12_no_1 : decode cX12_no 1 = .ok (.iload_n 1, 1) := by decide +kernel
theorem dX12_no_2 : decode cX12_no 2 = .ok (.putfield 71, 3) := by decide +kernel
theorem dX12_no_5 : decode cX12_no 5 = .ok (.iconst 0, 1) := by decide +kernel
theorem dX12_no_6 : decode cX12_no 6 = .ok (.ireturn, 1) := by decide +kernel
def j_X12_no : JD := (yX12_no, cX12_no, 2, (some .boolean))
def b_X12_no : BD := (0, 0, 0)
theorem dX12_isIn_0 : decode cX12_isIn 0 = .ok (.lload_n 0, 1) := by decide +kernel
theorem dX12_isIn_1 : decode cX12_isIn 1 = .ok (.lload_n 2, 1) := by decide +kernel
theorem dX12_isIn_2 : decode cX12_isIn 2 = .ok (.lcmp, 1) := by decide +kernel
theorem dX12_isIn_3 : decode cX12_isIn 3 = .ok (.ifCond .lt 14, 3) := by decide +kernel
theorem dX12_isIn_6 : decode cX12_isIn 6 = .ok (.lload_n 0, 1) := by decide +kernel
theorem dX12_isIn_7 : decode cX12_isIn 7 = .ok (.lload 4, 2) := by decide +kernel
theorem dX12_isIn_9 : decode cX12_isIn 9 = .ok (.lcmp, 1) := by decide +kernel
theorem dX12_isIn_10 : decode cX12_isIn 10 = .ok (.ifCond .gt 7, 3) := by decide +kernel
theorem dX12_isIn_13 : decode cX12_isIn 13 = .ok (.iconst 1, 1) := by decide +kernel
theorem dX12_isIn_14 : decode cX12_isIn 14 = .ok (.goto 4, 3) := by decide +kernel
theorem dX12_isIn_17 : decode cX12_isIn 17 = .ok (.iconst 0, 1) := by decide +kernel
theorem dX12_isIn_18 : decode cX12_isIn 18 = .ok (.ireturn, 1) := by decide +kernel
def j_X12_isIn : JD := (yX12_isIn, cX12_isIn, 6, (some .boolean))
def b_X12_isIn : BD := (0, 0, 0)
theorem dX12_fraction_0 : decode cX12_fraction 0 = .ok (.lload_n 1, 1) := by decide +kernel
theorem dX12_fraction_1 : decode cX12_fraction 1 = .ok (.invokestatic 77, 3) := by decide +kernel
theorem dX12_fraction_4 : decode cX12_fraction 4 = .ok (.lstore 5, 2) := by decide +kernel
theorem dX12_fraction_6 : decode cX12_fraction 6 = .ok (.lload_n 3, 1) := by decide +kernel
theorem dX12_fraction_7 : decode cX12_fraction 7 = .ok (.lstore 7, 2) := by decide +kernel
theorem dX12_fraction_9 : decode cX12_fraction 9 = .ok (.lload 7, 2) := by decide +kernel
theorem dX12_fraction_11 : decode cX12_fraction 11 = .ok (.lconst 0, 1) := by decide +kernel
theorem dX12_fraction_12 : decode cX12_fraction 12 = .ok (.lcmp, 1) := by decide +kernel
theorem dX12_fraction_13 : decode cX12_fraction 13 = .ok (.ifCond .eq 21, 3) := by decide +kernel
theorem dX12_fraction_16 : decode cX12_fraction 16 = .ok (.lload 5, 2) := by decide +kernel
theorem dX12_fraction_18 : decode cX12_fraction 18 = .ok (.lload 7, 2) := by decide +kernel
theorem dX12_fraction_20 : decode cX12_fraction 20 = .ok (.lrem, 1) := by decide +kernel
theorem dX12_fraction_21 : decode cX12_fraction 21 = .ok (.lstore 9, 2) := by decide +kernel
theorem dX12_fraction_23 : decode cX12_fraction 23 = .ok (.lload 7, 2) := by decide +kernel
theorem dX12_fraction_25 : decode cX12_fraction 25 = .ok (.lstore 5, 2) := by decide +kernel
theorem dX12_fraction_27 : decode cX12_fraction 27 = .ok (.lload 9, 2) := by decide +kernel
theorem dX12_fraction_29 : decode cX12_fraction 29 = .ok (.lstore 7, 2) := by decide +kernel
theorem dX12_fraction_31 : decode cX12_fraction 31 = .ok (.goto (-22), 3) := by decide +kernel
theorem dX12_fraction_34 : decode cX12_fraction 34 = .ok (.aload_n 0, 1) := by decide +kernel
theorem dX12_fraction_35 : decode cX12_fraction 35 = .ok (.lload_n 1, 1) := by decide +kernel
theorem dX12_fraction_36 : decode cX12_fraction 36 = .ok (.lload 5, 2) := by decide +kernel
theorem dX12_fraction_38 : decode cX12_fraction 38 = .ok (.ldiv, 1) := by decide +kernel
theorem dX12_fraction_39 : decode cX12_fraction 39 = .ok (.putfield 74, 3) := by decide +kernel
theorem dX12_fraction_42 : decode cX12_fraction 42 = .ok (.aload_n 0, 1) := by decide +kernel
theorem dX12_fraction_43 : decode cX12_fraction 43 = .ok (.lload_n 3, 1) := by decide +kernel
theorem dX12_fraction_44 : decode cX12_fraction 44 = .ok (.lload 5, 2) := by decide +kernel
theorem dX12_fraction_46 : decode cX12_fraction 46 = .ok (.ldiv, 1) := by decide +kernel
theorem dX12_fraction_47 : decode cX12_fraction 47 = .ok (.putfield 7, 3) := by decide +kernel
theorem dX12_fraction_50 : decode cX12_fraction 50 = .ok (.iconst 1, 1) := by decide +kernel
theorem dX12_fraction_51 : decode cX12_fraction 51 = .ok (.ireturn, 1) := by decide +kernel
def j_X12_fraction : JD := (yX12_fraction, cX12_fraction, 11, (some .boolean))
def b_X12_fraction : BD := (1, 0, 0)
theorem dX12_cut_0 : decode cX12_cut 0 = .ok (.iload_n 0, 1) := by decide +kernel
theorem dX12_cut_1 : decode cX12_cut 1 = .ok (.ifCond .ne 10, 3) := by decide +kernel
theorem dX12_cut_4 : decode cX12_cut 4 = .ok (.lload_n 1, 1) := by decide +kernel
theorem dX12_cut_5 : decode cX12_cut 5 = .ok (.l2i, 1) := by decide +kernel
theorem dX12_cut_6 : decode cX12_cut 6 = .ok (.i2b, 1) := by decide +kernel
theorem dX12_cut_7 : decode cX12_cut 7 = .ok (.i2l, 1) := by decide +kernel
theorem dX12_cut_8 : decode cX12_cut 8 = .ok (.goto 27, 3) := by decide +kernel
theorem dX12_cut_11 : decode cX12_cut 11 = .ok (.iload_n 0, 1) := by decide +kernel
theorem dX12_cut_12 : decode cX12_cut 12 = .ok (.iconst 1, 1) := by decide +kernel
theorem dX12_cut_13 : decode cX12_cut 13 = .ok (.if_icmp .ne 10, 3) := by decide +kernel
theorem dX12_cut_16 : decode cX12_cut 16 = .ok (.lload_n 1, 1) := by decide +kernel
theorem dX12_cut_17 : decode cX12_cut 17 = .ok (.l2i, 1) := by decide +kernel
theorem dX12_cut_18 : decode cX12_cut 18 = .ok (.i2s, 1) := by decide +kernel
theorem dX12_cut_19 : decode cX12_cut 19 = .ok (.i2l, 1) := by decide +kernel
theorem dX12_cut_20 : decode cX12_cut 20 = .ok (.goto 15, 3) := by decide +kernel
theorem dX12_cut_23 : decode cX12_cut 23 = .ok (.iload_n 0, 1) := by decide +kernel
theorem dX12_cut_24 : decode cX12_cut 24 = .ok (.iconst 2, 1) := by decide +kernel
theorem dX12_cut_25 : decode cX12_cut 25 = .ok (.if_icmp .ne 9, 3) := by decide +kernel
theorem dX12_cut_28 : decode cX12_cut 28 = .ok (.lload_n 1, 1) := by decide +kernel
theorem dX12_cut_29 : decode cX12_cut 29 = .ok (.l2i, 1) := by decide +kernel
theorem dX12_cut_30 : decode cX12_cut 30 = .ok (.i2l, 1) := by decide +kernel
theorem dX12_cut_31 : decode cX12_cut 31 = .ok (.goto 4, 3) := by decide +kernel
theorem dX12_cut_34 : decode cX12_cut 34 = .ok (.lload_n 1, 1) := by decide +kernel
theorem dX12_cut_35 : decode cX12_cut 35 = .ok (.lreturn, 1) := by decide +kernel
def j_X12_cut : JD := (yX12_cut, cX12_cut, 3, (some .long))
def b_X12_cut : BD := (0, 0, 0)
theorem dX12_tray_0 : decode cX12_tray 0 = .ok (.aload_n 0, 1) := by decide +kernel
theorem dX12_tray_1 : decode cX12_tray 1 = .ok (.iconst 0, 1) := by decide +kernel
theorem dX12_tray_2 : decode cX12_tray 2 = .ok (.putfield 68, 3) := by decide +kernel
theorem dX12_tray_5 : decode cX12_tray 5 = .ok (.aload_n 0, 1) := by decide +kernel
theorem dX12_tray_6 : decode cX12_tray 6 = .ok (.iconst 0, 1) := by decide +kernel
theorem dX12_tray_7 : decode cX12_tray 7 = .ok (.putfield 71, 3) := by decide +kernel
theorem dX12_tray_10 : decode cX12_tray 10 = .ok (.iload_n 1, 1) := by decide +kernel
theorem dX12_tray_11 : decode cX12_tray 11 = .ok (.ifCond .lt 17, 3) := by decide +kernel
theorem dX12_tray_14 : decode cX12_tray 14 = .ok (.iload_n 1, 1) := by decide +kernel
theorem dX12_tray_15 : decode cX12_tray 15 = .ok (.iconst 4, 1) := by decide +kernel
theorem dX12_tray_16 : decode cX12_tray 16 = .ok (.if_icmp .ge 12, 3) := by decide +kernel
theorem dX12_tray_19 : decode cX12_tray 19 = .ok (.iload_n 2, 1) := by decide +kernel
theorem dX12_tray_20 : decode cX12_tray 20 = .ok (.ifCond .lt 8, 3) := by decide +kernel
theorem dX12_tray_23 : decode cX12_tray 23 = .ok (.iload_n 2, 1) := by decide +kernel
theorem dX12_tray_24 : decode cX12_tray 24 = .ok (.iconst 3, 1) := by decide +kernel
theorem dX12_tray_25 : decode cX12_tray 25 = .ok (.if_icmp .le 9, 3) := by decide +kernel
theorem dX12_tray_28 : decode cX12_tray 28 = .ok (.aload_n 0, 1) := by decide +kernel
theorem dX12_tray_29 : decode cX12_tray 29 = .ok (.iconst 1, 1) := by decide +kernel
theorem dX12_tray_30 : decode cX12_tray 30 = .ok (.invokevirtual 83, 3) := by decide +kernel
theorem dX12_tray_33 : decode cX12_tray 33 = .ok (.ireturn, 1) := by decide +kernel
theorem dX12_tray_34 : decode cX12_tray 34 = .ok (.iload_n 3, 1) := by decide +kernel
theorem dX12_tray_35 : decode cX12_tray 35 = .ok (.bipush 60, 2) := by decide +kernel
theorem dX12_tray_37 : decode cX12_tray 37 = .ok (.if_icmp .le 9, 3) := by decide +kernel
theorem dX12_tray_40 : decode cX12_tray 40 = .ok (.aload_n 0, 1) := by decide +kernel
theorem dX12_tray_41 : decode cX12_tray 41 = .ok (.iconst 5, 1) := by decide +kernel
theorem dX12_tray_42 : decode cX12_tray 42 = .ok (.invokevirtual 83, 3) := by decide +kernel
theorem dX12_tray_45 : decode cX12_tray 45 = .ok (.ireturn, 1) := by decide +kernel
theorem dX12_tray_46 : decode cX12_tray 46 = .ok (.iload_n 3, 1) := by decide +kernel
theorem dX12_tray_47 : decode cX12_tray 47 = .ok (.ifCond .ge 10, 3) := by decide +kernel
theorem dX12_tray_50 : decode cX12_tray 50 = .ok (.aload_n 0, 1) := by decide +kernel
theorem dX12_tray_51 : decode cX12_tray 51 = .ok (.bipush 6, 2) := by decide +kernel
theorem dX12_tray_53 : decode cX12_tray 53 = .ok (.invokevirtual 83, 3) := by decide +kernel
theorem dX12_tray_56 : decode cX12_tray 56 = .ok (.ireturn, 1) := by decide +kernel
theorem dX12_tray_57 : decode cX12_tray 57 = .ok (.aload_n 0, 1) := by decide +kernel
theorem dX12_tray_58 : decode cX12_tray 58 = .ok (.getfield 13, 3) := by decide +kernel
theorem dX12_tray_61 : decode cX12_tray 61 = .ok (.iload_n 1, 1) := by decide +kernel
theorem dX12_tray_62 : decode cX12_tray 62 = .ok (.iload_n 2, 1) := by decide +kernel
theorem dX12_tray_63 : decode cX12_tray 63 = .ok (.iastore, 1) := by decide +kernel
theorem dX12_tray_64 : decode cX12_tray 64 = .ok (.aload_n 0, 1) := by decide +kernel
theorem dX12_tray_65 : decode cX12_tray 65 = .ok (.getfield 17, 3) := by decide +kernel
theorem dX12_tray_68 : decode cX12_tray 68 = .ok (.iload_n 1, 1) := by decide +kernel
theorem dX12_tray_69 : decode cX12_tray 69 = .ok (.iload_n 3, 1) := by decide +kernel
theorem dX12_tray_70 : decode cX12_tray 70 = .ok (.iastore, 1) := by decide +kernel
theorem dX12_tray_71 : decode cX12_tray 71 = .ok (.iconst 0, 1) := by decide +kernel
theorem dX12_tray_72 : decode cX12_tray 72 = .ok (.istore 4, 2) := by decide +kernel
theorem dX12_tray_74 : decode cX12_tray 74 = .ok (.iload 4, 2) := by decide +kernel
theorem dX12_tray_76 : decode cX12_tray 76 = .ok (.iload_n 3, 1) := by decide +kernel
theorem dX12_tray_77 : decode cX12_tray 77 = .ok (.if_icmp .ge 22, 3) := by decide +kernel
theorem dX12_tray_80 : decode cX12_tray 80 = .ok (.aload_n 0, 1) := by decide +kernel
theorem dX12_tray_81 : decode cX12_tray 81 = .ok (.getfield 20, 3) := by decide +kernel
theorem dX12_tray_84 : decode cX12_tray 84 = .ok (.bipush 60, 2) := by decide +kernel
theorem dX12_tray_86 : decode cX12_tray 86 = .ok (.iload_n 1, 1) := by decide +kernel
theorem dX12_tray_87 : decode cX12_tray 87 = .ok (.imul, 1) := by decide +kernel
theorem dX12_tray_88 : decode cX12_tray 88 = .ok (.iload 4, 2) := by decide +kernel
theorem dX12_tray_90 : decode cX12_tray 90 = .ok (.iadd, 1) := by decide +kernel
theorem dX12_tray_91 : decode cX12_tray 91 = .ok (.lconst 0, 1) := by decide +kernel
theorem dX12_tray_92 : decode cX12_tray 92 = .ok (.lastore, 1) := by decide +kernel
theorem dX12_tray_93 : decode cX12_tray 93 = .ok (.iinc 4 1, 3) := by decide +kernel
theorem dX12_tray_96 : decode cX12_tray 96 = .ok (.goto (-22), 3) := by decide +kernel
theorem dX12_tray_99 : decode cX12_tray 99 = .ok (.iconst 1, 1) := by decide +kernel
theorem dX12_tray_100 : decode cX12_tray 100 = .ok (.ireturn, 1) := by decide +kernel
def j_X12_tray : JD := (yX12_tray, cX12_tray, 5, (some .boolean))
def b_X12_tray : BD := (1, 0, 0)
theorem dX12_trayed_0 : decode cX12_trayed 0 = .ok (.iload_n 1, 1) := by decide +kernel
theorem dX12_trayed_1 : decode cX12_trayed 1 = .ok (.ifCond .lt 8, 3) := by decide +kernel
theorem dX12_trayed_4 : decode cX12_trayed 4 = .ok (.iload_n 1, 1) := by decide +kernel
theorem dX12_trayed_5 : decode cX12_trayed 5 = .ok (.iconst 4, 1) := by decide +kernel
theorem dX12_trayed_6 : decode cX12_trayed 6 = .ok (.if_icmp .lt 7, 3) := by decide +kernel
theorem dX12_trayed_9 : decode cX12_trayed 9 = .ok (.iconst 1, 1) := by decide +kernel
theorem dX12_trayed_10 : decode cX12_trayed 10 = .ok (.goto 17, 3) := by decide +kernel
theorem dX12_trayed_13 : decode cX12_trayed 13 = .ok (.aload_n 0, 1) := by decide +kernel
theorem dX12_trayed_14 : decode cX12_trayed 14 = .ok (.getfield 17, 3) := by decide +kernel
theorem dX12_trayed_17 : decode cX12_trayed 17 = .ok (.iload_n 1, 1) := by decide +kernel
theorem dX12_trayed_18 : decode cX12_trayed 18 = .ok (.iaload, 1) := by decide +kernel
theorem dX12_trayed_19 : decode cX12_trayed 19 = .ok (.ifCond .ge 7, 3) := by decide +kernel
theorem dX12_trayed_22 : decode cX12_trayed 22 = .ok (.iconst 3, 1) := by decide +kernel
theorem dX12_trayed_23 : decode cX12_trayed 23 = .ok (.goto 4, 3) := by decide +kernel
theorem dX12_trayed_26 : decode cX12_trayed 26 = .ok (.iconst 0, 1) := by decide +kernel
theorem dX12_trayed_27 : decode cX12_trayed 27 = .ok (.ireturn, 1) := by decide +kernel
def j_X12_trayed : JD := (yX12_trayed, cX12_trayed, 2, (some .int))
def b_X12_trayed : BD := (0, 0, 0)
theorem dX12_placed_0 : decode cX12_placed 0 = .ok (.aload_n 0, 1) := by decide +kernel
theorem dX12_placed_1 : decode cX12_placed 1 = .ok (.iload_n 1, 1) := by decide +kernel
theorem dX12_placed_2 : decode cX12_placed 2 = .ok (.invokevirtual 87, 3) := by decide +kernel
theorem dX12_placed_5 : decode cX12_placed 5 = .ok (.istore_n 3, 1) := by decide +kernel
theorem dX12_placed_6 : decode cX12_placed 6 = .ok (.iload_n 3, 1) := by decide +kernel
theorem dX12_placed_7 : decode cX12_placed 7 = .ok (.ifCond .le 7, 3) := by decide +kernel
theorem dX12_placed_10 : decode cX12_placed 10 = .ok (.iload_n 3, 1) := by decide +kernel
theorem dX12_placed_11 : decode cX12_placed 11 = .ok (.goto 22, 3) := by decide +kernel
theorem dX12_placed_14 : decode cX12_placed 14 = .ok (.iload_n 2, 1) := by decide +kernel
theorem dX12_placed_15 : decode cX12_placed 15 = .ok (.ifCond .lt 13, 3) := by decide +kernel
theorem dX12_placed_18 : decode cX12_placed 18 = .ok (.iload_n 2, 1) := by decide +kernel
theorem dX12_placed_19 : decode cX12_placed 19 = .ok (.aload_n 0, 1) := by decide +kernel
theorem dX12_placed_20 : decode cX12_placed 20 = .ok (.getfield 17, 3) := by decide +kernel
theorem dX12_placed_23 : decode cX12_placed 23 = .ok (.iload_n 1, 1) := by decide +kernel
theorem dX12_placed_24 : decode cX12_placed 24 = .ok (.iaload, 1) := by decide +kernel
theorem dX12_placed_25 : decode cX12_placed 25 = .ok (.if_icmp .lt 7, 3) := by decide +kernel
theorem dX12_placed_28 : decode cX12_placed 28 = .ok (.iconst 4, 1) := by decide +kernel
theorem dX12_placed_29 : decode cX12_placed 29 = .ok (.goto 4, 3) := by decide +kernel
theorem dX12_placed_32 : decode cX12_placed 32 = .ok (.iconst 0, 1) := by decide +kernel
theorem dX12_placed_33 : decode cX12_placed 33 = .ok (.ireturn, 1) := by decide +kernel
def j_X12_placed : JD := (yX12_placed, cX12_placed, 4, (some .int))
def b_X12_placed : BD := (1, 0, 0)
theorem dX12_write_0 : decode cX12_write 0 = .ok (.aload_n 0, 1) := by decide +kernel
theorem dX12_write_1 : decode cX12_write 1 = .ok (.iconst 0, 1) := by decide +kernel
theorem dX12_write_2 : decode cX12_write 2 = .ok (.putfield 68, 3) := by decide +kernel
theorem dX12_write_5 : decode cX12_write 5 = .ok (.aload_n 0, 1) := by decide +kernel
theorem dX12_write_6 : decode cX12_write 6 = .ok (.aload_n 0, 1) := by decide +kernel
theorem dX12_write_7 : decode cX12_write 7 = .ok (.iload_n 1, 1) := by decide +kernel
theorem dX12_write_8 : decode cX12_write 8 = .ok (.iload_n 2, 1) := by decide +kernel
theorem dX12_write_9 : decode cX12_write 9 = .ok (.invokevirtual 91, 3) := by decide +kernel
theorem dX12_write_12 : decode cX12_write 12 = .ok (.putfield 71, 3) := by decide +kernel
theorem dX12_write_15 : decode cX12_write 15 = .ok (.aload_n 0, 1) := by decide +kernel
theorem dX12_write_16 : decode cX12_write 16 = .ok (.getfield 71, 3) := by decide +kernel
theorem dX12_write_19 : decode cX12_write 19 = .ok (.ifCond .le 5, 3) := by decide +kernel
theorem dX12_write_22 : decode cX12_write 22 = .ok (.iconst 0, 1) := by decide +kernel
theorem dX12_write_23 : decode cX12_write 23 = .ok (.ireturn, 1) := by decide +kernel
theorem dX12_write_24 : decode cX12_write 24 = .ok (.aload_n 0, 1) := by decide +kernel
theorem dX12_write_25 : decode cX12_write 25 = .ok (.getfield 20, 3) := by decide +kernel
theorem dX12_write_28 : decode cX12_write 28 = .ok (.bipush 60, 2) := by decide +kernel
theorem dX12_write_30 : decode cX12_write 30 = .ok (.iload_n 1, 1) := by decide +kernel
theorem dX12_write_31 : decode cX12_write 31 = .ok (.imul, 1) := by decide +kernel
theorem dX12_write_32 : decode cX12_write 32 = .ok (.iload_n 2, 1) := by decide +kernel
theorem dX12_write_33 : decode cX12_write 33 = .ok (.iadd, 1) := by decide +kernel
theorem dX12_write_34 : decode cX12_write 34 = .ok (.aload_n 0, 1) := by decide +kernel
theorem dX12_write_35 : decode cX12_write 35 = .ok (.getfield 13, 3) := by decide +kernel
theorem dX12_write_38 : decode cX12_write 38 = .ok (.iload_n 1, 1) := by decide +kernel
theorem dX12_write_39 : decode cX12_write 39 = .ok (.iaload, 1) := by decide +kernel
theorem dX12_write_40 : decode cX12_write 40 = .ok (.lload_n 3, 1) := by decide +kernel
theorem dX12_write_41 : decode cX12_write 41 = .ok (.invokestatic 95, 3) := by decide +kernel
theorem dX12_write_44 : decode cX12_write 44 = .ok (.lastore, 1) := by decide +kernel
theorem dX12_write_45 : decode cX12_write 45 = .ok (.iconst 1, 1) := by decide +kernel
theorem dX12_write_46 : decode cX12_write 46 = .ok (.ireturn, 1) := by decide +kernel
def j_X12_write : JD := (yX12_write, cX12_write, 5, (some .boolean))
def b_X12_write : BD := (2, 0, 0)
theorem dX12_read_0 : decode cX12_read 0 = .ok (.aload_n 0, 1) := by decide +kernel
theorem dX12_read_1 : decode cX12_read 1 = .ok (.iconst 0, 1) := by decide +kernel
theorem dX12_read_2 : decode cX12_read 2 = .ok (.putfield 68, 3) := by decide +kernel
theorem dX12_read_5 : decode cX12_read 5 = .ok (.aload_n 0, 1) := by decide +kernel
theorem dX12_read_6 : decode cX12_read 6 = .ok (.aload_n 0, 1) := by decide +kernel
theorem dX12_read_7 : decode cX12_read 7 = .ok (.iload_n 1, 1) := by decide +kernel
theorem dX12_read_8 : decode cX12_read 8 = .ok (.iload_n 2, 1) := by decide +kernel
theorem dX12_read_9 : decode cX12_read 9 = .ok (.invokevirtual 91, 3) := by decide +kernel
theorem dX12_read_12 : decode cX12_read 12 = .ok (.putfield 71, 3) := by decide +kernel
theorem dX12_read_15 : decode cX12_read 15 = .ok (.aload_n 0, 1) := by decide +kernel
theorem dX12_read_16 : decode cX12_read 16 = .ok (.getfield 71, 3) := by decide +kernel
theorem dX12_read_19 : decode cX12_read 19 = .ok (.ifCond .le 9, 3) := by decide +kernel
theorem dX12_read_22 : decode cX12_read 22 = .ok (.ldc2_w 99, 3) := by decide +kernel
theorem dX12_read_25 : decode cX12_read 25 = .ok (.goto 14, 3) := by decide +kernel
theorem dX12_read_28 : decode cX12_read 28 = .ok (.aload_n 0, 1) := by decide +kernel
theorem dX12_read_29 : decode cX12_read 29 = .ok (.getfield 20, 3) := by decide +kernel
theorem dX12_read_32 : decode cX12_read 32 = .ok (.bipush 60, 2) := by decide +kernel
theorem dX12_read_34 : decode cX12_read 34 = .ok (.iload_n 1, 1) := by decide +kernel
theorem dX12_read_35 : decode cX12_read 35 = .ok (.imul, 1) := by decide +kernel
theorem dX12_read_36 : decode cX12_read 36 = .ok (.iload_n 2, 1) := by decide +kernel
theorem dX12_read_37 : decode cX12_read 37 = .ok (.iadd, 1) := by decide +kernel
theorem dX12_read_38 : decode cX12_read 38 = .ok (.laload, 1) := by decide +kernel
theorem dX12_read_39 : decode cX12_read 39 = .ok (.lreturn, 1) := by decide +kernel
def j_X12_read : JD := (yX12_read, cX12_read, 3, (some .long))
def b_X12_read : BD := (2, 0, 0)
theorem dX12_pour_0 : decode cX12_pour 0 = .ok (.aload_n 0, 1) := by decide +kernel
theorem dX12_pour_1 : decode cX12_pour 1 = .ok (.iconst 0, 1) := by decide +kernel
theorem dX12_pour_2 : decode cX12_pour 2 = .ok (.putfield 68, 3) := by decide +kernel
theorem dX12_pour_5 : decode cX12_pour 5 = .ok (.aload_n 0, 1) := by decide +kernel
theorem dX12_pour_6 : decode cX12_pour 6 = .ok (.iconst 0, 1) := by decide +kernel
theorem dX12_pour_7 : decode cX12_pour 7 = .ok (.putfield 71, 3) := by decide +kernel
theorem dX12_pour_10 : decode cX12_pour 10 = .ok (.iload_n 1, 1) := by decide +kernel
theorem dX12_pour_11 : decode cX12_pour 11 = .ok (.ifCond .lt 17, 3) := by decide +kernel
theorem dX12_pour_14 : decode cX12_pour 14 = .ok (.iload_n 1, 1) := by decide +kernel
theorem dX12_pour_15 : decode cX12_pour 15 = .ok (.iconst 4, 1) := by decide +kernel
theorem dX12_pour_16 : decode cX12_pour 16 = .ok (.if_icmp .ge 12, 3) := by decide +kernel
theorem dX12_pour_19 : decode cX12_pour 19 = .ok (.iload_n 3, 1) := by decide +kernel
theorem dX12_pour_20 : decode cX12_pour 20 = .ok (.ifCond .lt 8, 3) := by decide +kernel
theorem dX12_pour_23 : decode cX12_pour 23 = .ok (.iload_n 3, 1) := by decide +kernel
theorem dX12_pour_24 : decode cX12_pour 24 = .ok (.iconst 4, 1) := by decide +kernel
theorem dX12_pour_25 : decode cX12_pour 25 = .ok (.if_icmp .lt 9, 3) := by decide +kernel
theorem dX12_pour_28 : decode cX12_pour 28 = .ok (.aload_n 0, 1) := by decide +kernel
theorem dX12_pour_29 : decode cX12_pour 29 = .ok (.iconst 1, 1) := by decide +kernel
theorem dX12_pour_30 : decode cX12_pour 30 = .ok (.invokevirtual 83, 3) := by decide +kernel
theorem dX12_pour_33 : decode cX12_pour 33 = .ok (.ireturn, 1) := by decide +kernel
theorem dX12_pour_34 : decode cX12_pour 34 = .ok (.aload_n 0, 1) := by decide +kernel
theorem dX12_pour_35 : decode cX12_pour 35 = .ok (.getfield 17, 3) := by decide +kernel
theorem dX12_pour_38 : decode cX12_pour 38 = .ok (.iload_n 1, 1) := by decide +kernel
theorem dX12_pour_39 : decode cX12_pour 39 = .ok (.iaload, 1) := by decide +kernel
theorem dX12_pour_40 : decode cX12_pour 40 = .ok (.ifCond .lt 12, 3) := by decide +kernel
theorem dX12_pour_43 : decode cX12_pour 43 = .ok (.aload_n 0, 1) := by decide +kernel
theorem dX12_pour_44 : decode cX12_pour 44 = .ok (.getfield 17, 3) := by decide +kernel
theorem dX12_pour_47 : decode cX12_pour 47 = .ok (.iload_n 3, 1) := by decide +kernel
theorem dX12_pour_48 : decode cX12_pour 48 = .ok (.iaload, 1) := by decide +kernel
theorem dX12_pour_49 : decode cX12_pour 49 = .ok (.ifCond .ge 9, 3) := by decide +kernel
theorem dX12_pour_52 : decode cX12_pour 52 = .ok (.aload_n 0, 1) := by decide +kernel
theorem dX12_pour_53 : decode cX12_pour 53 = .ok (.iconst 3, 1) := by decide +kernel
theorem dX12_pour_54 : decode cX12_pour 54 = .ok (.invokevirtual 83, 3) := by decide +kernel
theorem dX12_pour_57 : decode cX12_pour 57 = .ok (.ireturn, 1) := by decide +kernel
theorem dX12_pour_58 : decode cX12_pour 58 = .ok (.aload_n 0, 1) := by decide +kernel
theorem dX12_pour_59 : decode cX12_pour 59 = .ok (.getfield 13, 3) := by decide +kernel
theorem dX12_pour_62 : decode cX12_pour 62 = .ok (.iload_n 1, 1) := by decide +kernel
theorem dX12_pour_63 : decode cX12_pour 63 = .ok (.iaload, 1) := by decide +kernel
theorem dX12_pour_64 : decode cX12_pour 64 = .ok (.aload_n 0, 1) := by decide +kernel
theorem dX12_pour_65 : decode cX12_pour 65 = .ok (.getfield 13, 3) := by decide +kernel
theorem dX12_pour_68 : decode cX12_pour 68 = .ok (.iload_n 3, 1) := by decide +kernel
theorem dX12_pour_69 : decode cX12_pour 69 = .ok (.iaload, 1) := by decide +kernel
theorem dX12_pour_70 : decode cX12_pour 70 = .ok (.if_icmp .eq 10, 3) := by decide +kernel
theorem dX12_pour_73 : decode cX12_pour 73 = .ok (.aload_n 0, 1) := by decide +kernel
theorem dX12_pour_74 : decode cX12_pour 74 = .ok (.bipush 11, 2) := by decide +kernel
theorem dX12_pour_76 : decode cX12_pour 76 = .ok (.invokevirtual 83, 3) := by decide +kernel
theorem dX12_pour_79 : decode cX12_pour 79 = .ok (.ireturn, 1) := by decide +kernel
theorem dX12_pour_80 : decode cX12_pour 80 = .ok (.iload 5, 2) := by decide +kernel
theorem dX12_pour_82 : decode cX12_pour 82 = .ok (.ifCond .ge 10, 3) := by decide +kernel
theorem dX12_pour_85 : decode cX12_pour 85 = .ok (.aload_n 0, 1) := by decide +kernel
theorem dX12_pour_86 : decode cX12_pour 86 = .ok (.bipush 6, 2) := by decide +kernel
theorem dX12_pour_88 : decode cX12_pour 88 = .ok (.invokevirtual 83, 3) := by decide +kernel
theorem dX12_pour_91 : decode cX12_pour 91 = .ok (.ireturn, 1) := by decide +kernel
theorem dX12_pour_92 : decode cX12_pour 92 = .ok (.iload_n 2, 1) := by decide +kernel
theorem dX12_pour_93 : decode cX12_pour 93 = .ok (.ifCond .lt 43, 3) := by decide +kernel
theorem dX12_pour_96 : decode cX12_pour 96 = .ok (.iload 4, 2) := by decide +kernel
theorem dX12_pour_98 : decode cX12_pour 98 = .ok (.ifCond .lt 38, 3) := by decide +kernel
theorem dX12_pour_101 : decode cX12_pour 101 = .ok (.iload_n 2, 1) := by decide +kernel
theorem dX12_pour_102 : decode cX12_pour 102 = .ok (.i2l, 1) := by decide +kernel
theorem dX12_pour_103 : decode cX12_pour 103 = .ok (.iload 5, 2) := by decide +kernel
theorem dX12_pour_105 : decode cX12_pour 105 = .ok (.i2l, 1) := by decide +kernel
theorem dX12_pour_106 : decode cX12_pour 106 = .ok (.ladd, 1) := by decide +kernel
theorem dX12_pour_107 : decode cX12_pour 107 = .ok (.aload_n 0, 1) := by decide +kernel
theorem dX12_pour_108 : decode cX12_pour 108 = .ok (.getfield 17, 3) := by decide +kernel
theorem dX12_pour_111 : decode cX12_pour 111 = .ok (.iload_n 1, 1) := by decide +kernel
theorem dX12_pour_112 : decode cX12_pour 112 = .ok (.iaload, 1) := by decide +kernel
theorem dX12_pour_113 : decode cX12_pour 113 = .ok (.i2l, 1) := by decide +kernel
theorem dX12_pour_114 : decode cX12_pour 114 = .ok (.lcmp, 1) := by decide +kernel
theorem dX12_pour_115 : decode cX12_pour 115 = .ok (.ifCond .gt 21, 3) := by decide +kernel
theorem dX12_pour_118 : decode cX12_pour 118 = .ok (.iload 4, 2) := by decide +kernel
theorem dX12_pour_120 : decode cX12_pour 120 = .ok (.i2l, 1) := by decide +kernel
theorem dX12_pour_121 : decode cX12_pour 121 = .ok (.iload 5, 2) := by decide +kernel
theorem dX12_pour_123 : decode cX12_pour 123 = .ok (.i2l, 1) := by decide +kernel
theorem dX12_pour_124 : decode cX12_pour 124 = .ok (.ladd, 1) := by decide +kernel
theorem dX12_pour_125 : decode cX12_pour 125 = .ok (.aload_n 0, 1) := by decide +kernel
theorem dX12_pour_126 : decode cX12_pour 126 = .ok (.getfield 17, 3) := by decide +kernel
theorem dX12_pour_129 : decode cX12_pour 129 = .ok (.iload_n 3, 1) := by decide +kernel
theorem dX12_pour_130 : decode cX12_pour 130 = .ok (.iaload, 1) := by decide +kernel
theorem dX12_pour_131 : decode cX12_pour 131 = .ok (.i2l, 1) := by decide +kernel
theorem dX12_pour_132 : decode cX12_pour 132 = .ok (.lcmp, 1) := by decide +kernel
theorem dX12_pour_133 : decode cX12_pour 133 = .ok (.ifCond .le 9, 3) := by decide +kernel
theorem dX12_pour_136 : decode cX12_pour 136 = .ok (.aload_n 0, 1) := by decide +kernel
theorem dX12_pour_137 : decode cX12_pour 137 = .ok (.iconst 4, 1) := by decide +kernel
theorem dX12_pour_138 : decode cX12_pour 138 = .ok (.invokevirtual 83, 3) := by decide +kernel
theorem dX12_pour_141 : decode cX12_pour 141 = .ok (.ireturn, 1) := by decide +kernel
theorem dX12_pour_142 : decode cX12_pour 142 = .ok (.iload_n 2, 1) := by decide +kernel
theorem dX12_pour_143 : decode cX12_pour 143 = .ok (.iload 4, 2) := by decide +kernel
theorem dX12_pour_145 : decode cX12_pour 145 = .ok (.if_icmp .ge 7, 3) := by decide +kernel
theorem dX12_pour_148 : decode cX12_pour 148 = .ok (.iconst 1, 1) := by decide +kernel
theorem dX12_pour_149 : decode cX12_pour 149 = .ok (.goto 4, 3) := by decide +kernel
theorem dX12_pour_152 : decode cX12_pour 152 = .ok (.iconst 0, 1) := by decide +kernel
theorem dX12_pour_153 : decode cX12_pour 153 = .ok (.istore 6, 2) := by decide +kernel
theorem dX12_pour_155 : decode cX12_pour 155 = .ok (.iconst 0, 1) := by decide +kernel
theorem dX12_pour_156 : decode cX12_pour 156 = .ok (.istore 7, 2) := by decide +kernel
theorem dX12_pour_158 : decode cX12_pour 158 = .ok (.iload 7, 2) := by decide +kernel
theorem dX12_pour_160 : decode cX12_pour 160 = .ok (.iload 5, 2) := by decide +kernel
theorem dX12_pour_162 : decode cX12_pour 162 = .ok (.if_icmp .ge 57, 3) := by decide +kernel
theorem dX12_pour_165 : decode cX12_pour 165 = .ok (.iload 6, 2) := by decide +kernel
theorem dX12_pour_167 : decode cX12_pour 167 = .ok (.ifCond .eq 13, 3) := by decide +kernel
theorem dX12_pour_170 : decode cX12_pour 170 = .ok (.iload 5, 2) := by decide +kernel
theorem dX12_pour_172 : decode cX12_pour 172 = .ok (.iconst 1, 1) := by decide +kernel
theorem dX12_pour_173 : decode cX12_pour 173 = .ok (.isub, 1) := by decide +kernel
theorem dX12_pour_174 : decode cX12_pour 174 = .ok (.iload 7, 2) := by decide +kernel
theorem dX12_pour_176 : decode cX12_pour 176 = .ok (.isub, 1) := by decide +kernel
theorem dX12_pour_177 : decode cX12_pour 177 = .ok (.goto 5, 3) := by decide +kernel
theorem dX12_pour_180 : decode cX12_pour 180 = .ok (.iload 7, 2) := by decide +kernel
theorem dX12_pour_182 : decode cX12_pour 182 = .ok (.istore 8, 2) := by decide +kernel
theorem dX12_pour_184 : decode cX12_pour 184 = .ok (.aload_n 0, 1) := by decide +kernel
theorem dX12_pour_185 : decode cX12_pour 185 = .ok (.getfield 20, 3) := by decide +kernel
theorem dX12_pour_188 : decode cX12_pour 188 = .ok (.bipush 60, 2) := by decide +kernel
theorem dX12_pour_190 : decode cX12_pour 190 = .ok (.iload_n 3, 1) := by decide +kernel
theorem dX12_pour_191 : decode cX12_pour 191 = .ok (.imul, 1) := by decide +kernel
theorem dX12_pour_192 : decode cX12_pour 192 = .ok (.iload 4, 2) := by decide +kernel
theorem dX12_pour_194 : decode cX12_pour 194 = .ok (.iadd, 1) := by decide +kernel
theorem dX12_pour_195 : decode cX12_pour 195 = .ok (.iload 8, 2) := by decide +kernel
theorem dX12_pour_197 : decode cX12_pour 197 = .ok (.iadd, 1) := by decide +kernel
theorem dX12_pour_198 : decode cX12_pour 198 = .ok (.aload_n 0, 1) := by decide +kernel
theorem dX12_pour_199 : decode cX12_pour 199 = .ok (.getfield 20, 3) := by decide +kernel
theorem dX12_pour_202 : decode cX12_pour 202 = .ok (.bipush 60, 2) := by decide +kernel
theorem dX12_pour_204 : decode cX12_pour 204 = .ok (.iload_n 1, 1) := by decide +kernel
theorem dX12_pour_205 : decode cX12_pour 205 = .ok (.imul, 1) := by decide +kernel
theorem dX12_pour_206 : decode cX12_pour 206 = .ok (.iload_n 2, 1) := by decide +kernel
theorem dX12_pour_207 : decode cX12_pour 207 = .ok (.iadd, 1) := by decide +kernel
theorem dX12_pour_208 : decode cX12_pour 208 = .ok (.iload 8, 2) := by decide +kernel
theorem dX12_pour_210 : decode cX12_pour 210 = .ok (.iadd, 1) := by decide +kernel
theorem dX12_pour_211 : decode cX12_pour 211 = .ok (.laload, 1) := by decide +kernel
theorem dX12_pour_212 : decode cX12_pour 212 = .ok (.lastore, 1) := by decide +kernel
theorem dX12_pour_213 : decode cX12_pour 213 = .ok (.iinc 7 1, 3) := by decide +kernel
theorem dX12_pour_216 : decode cX12_pour 216 = .ok (.goto (-58), 3) := by decide +kernel
theorem dX12_pour_219 : decode cX12_pour 219 = .ok (.iconst 1, 1) := by decide +kernel
theorem dX12_pour_220 : decode cX12_pour 220 = .ok (.ireturn, 1) := by decide +kernel
def j_X12_pour : JD := (yX12_pour, cX12_pour, 9, (some .boolean))
def b_X12_pour : BD := (1, 0, 0)
theorem dX12_numberOf_0 : decode cX12_numberOf 0 = .ok (.aload_n 0, 1) := by decide +kernel
theorem dX12_numberOf_1 : decode cX12_numberOf 1 = .ok (.getfield 20, 3) := by decide +kernel
theorem dX12_numberOf_4 : decode cX12_numberOf 4 = .ok (.bipush 60, 2) := by decide +kernel
theorem dX12_numberOf_6 : decode cX12_numberOf 6 = .ok (.iload_n 1, 1) := by decide +kernel
theorem dX12_numberOf_7 : decode cX12_numberOf 7 = .ok (.imul, 1) := by decide +kernel
theorem dX12_numberOf_8 : decode cX12_numberOf 8 = .ok (.iload_n 2, 1) := by decide +kernel
theorem dX12_numberOf_9 : decode cX12_numberOf 9 = .ok (.iadd, 1) := by decide +kernel
theorem dX12_numberOf_10 : decode cX12_numberOf 10 = .ok (.laload, 1) := by decide +kernel
theorem dX12_numberOf_11 : decode cX12_numberOf 11 = .ok (.lreturn, 1) := by decide +kernel
def j_X12_numberOf : JD := (yX12_numberOf, cX12_numberOf, 3, (some .long))
def b_X12_numberOf : BD := (0, 0, 0)
theorem dX12_isTray_0 : decode cX12_isTray 0 = .ok (.iload_n 1, 1) := by decide +kernel
theorem dX12_isTray_1 : decode cX12_isTray 1 = .ok (.i2l, 1) := by decide +kernel
theorem dX12_isTray_2 : decode cX12_isTray 2 = .ok (.lconst 0, 1) := by decide +kernel
theorem dX12_isTray_3 : decode cX12_isTray 3 = .ok (.ldc2_w 101, 3) := by decide +kernel
theorem dX12_isTray_6 : decode cX12_isTray 6 = .ok (.invokestatic 103, 3) := by decide +kernel
theorem dX12_isTray_9 : decode cX12_isTray 9 = .ok (.ireturn, 1) := by decide +kernel
def j_X12_isTray : JD := (yX12_isTray, cX12_isTray, 2, (some .boolean))
def b_X12_isTray : BD := (1, 0, 0)
theorem dX12_has_0 : decode cX12_has 0 = .ok (.iload_n 0, 1) := by decide +kernel
theorem dX12_has_1 : decode cX12_has 1 = .ok (.iload_n 1, 1) := by decide +kernel
theorem dX12_has_2 : decode cX12_has 2 = .ok (.ishr, 1) := by decide +kernel
theorem dX12_has_3 : decode cX12_has 3 = .ok (.iconst 1, 1) := by decide +kernel
theorem dX12_has_4 : decode cX12_has 4 = .ok (.iand, 1) := by decide +kernel
theorem dX12_has_5 : decode cX12_has 5 = .ok (.iconst 1, 1) := by decide +kernel
theorem dX12_has_6 : decode cX12_has 6 = .ok (.if_icmp .ne 7, 3) := by decide +kernel
theorem dX12_has_9 : decode cX12_has 9 = .ok (.iconst 1, 1) := by decide +kernel
theorem dX12_has_10 : decode cX12_has 10 = .ok (.goto 4, 3) := by decide +kernel
theorem dX12_has_13 : decode cX12_has 13 = .ok (.iconst 0, 1) := by decide +kernel
theorem dX12_has_14 : decode cX12_has 14 = .ok (.ireturn, 1) := by decide +kernel
def j_X12_has : JD := (yX12_has, cX12_has, 2, (some .boolean))
def b_X12_has : BD := (0, 0, 0)
theorem dX12_sizeOf_0 : decode cX12_sizeOf 0 = .ok (.iconst 0, 1) := by decide +kernel
theorem dX12_sizeOf_1 : decode cX12_sizeOf 1 = .ok (.istore_n 1, 1) := by decide +kernel
theorem dX12_sizeOf_2 : decode cX12_sizeOf 2 = .ok (.iconst 0, 1) := by decide +kernel
theorem dX12_sizeOf_3 : decode cX12_sizeOf 3 = .ok (.istore_n 2, 1) := by decide +kernel
theorem dX12_sizeOf_4 : decode cX12_sizeOf 4 = .ok (.iload_n 2, 1) := by decide +kernel
theorem dX12_sizeOf_5 : decode cX12_sizeOf 5 = .ok (.bipush 8, 2) := by decide +kernel
theorem dX12_sizeOf_7 : decode cX12_sizeOf 7 = .ok (.if_icmp .ge 25, 3) := by decide +kernel
theorem dX12_sizeOf_10 : decode cX12_sizeOf 10 = .ok (.iload_n 1, 1) := by decide +kernel
theorem dX12_sizeOf_11 : decode cX12_sizeOf 11 = .ok (.iload_n 0, 1) := by decide +kernel
theorem dX12_sizeOf_12 : decode cX12_sizeOf 12 = .ok (.iload_n 2, 1) := by decide +kernel
theorem dX12_sizeOf_13 : decode cX12_sizeOf 13 = .ok (.invokestatic 107, 3) := by decide +kernel
theorem dX12_sizeOf_16 : decode cX12_sizeOf 16 = .ok (.ifCond .eq 7, 3) := by decide +kernel
theorem dX12_sizeOf_19 : decode cX12_sizeOf 19 = .ok (.iconst 1, 1) := by decide +kernel
theorem dX12_sizeOf_20 : decode cX12_sizeOf 20 = .ok (.goto 4, 3) := by decide +kernel
theorem dX12_sizeOf_23 : decode cX12_sizeOf 23 = .ok (.iconst 0, 1) := by decide +kernel
theorem dX12_sizeOf_24 : decode cX12_sizeOf 24 = .ok (.iadd, 1) := by decide +kernel
theorem dX12_sizeOf_25 : decode cX12_sizeOf 25 = .ok (.istore_n 1, 1) := by decide +kernel
theorem dX12_sizeOf_26 : decode cX12_sizeOf 26 = .ok (.iinc 2 1, 3) := by decide +kernel
theorem dX12_sizeOf_29 : decode cX12_sizeOf 29 = .ok (.goto (-25), 3) := by decide +kernel
theorem dX12_sizeOf_32 : decode cX12_sizeOf 32 = .ok (.iload_n 1, 1) := by decide +kernel
theorem dX12_sizeOf_33 : decode cX12_sizeOf 33 = .ok (.ireturn, 1) := by decide +kernel
def j_X12_sizeOf : JD := (yX12_sizeOf, cX12_sizeOf, 3, (some .int))
def b_X12_sizeOf : BD := (1, 0, 0)
theorem dX12_look2_0 : decode cX12_look2 0 = .ok (.iload_n 1, 1) := by decide +kernel
theorem dX12_look2_1 : decode cX12_look2 1 = .ok (.aload_n 0, 1) := by decide +kernel
theorem dX12_look2_2 : decode cX12_look2 2 = .ok (.getfield 111, 3) := by decide +kernel
theorem dX12_look2_5 : decode cX12_look2 5 = .ok (.if_icmp .ge 16, 3) := by decide +kernel
theorem dX12_look2_8 : decode cX12_look2 8 = .ok (.aload_n 0, 1) := by decide +kernel
theorem dX12_look2_9 : decode cX12_look2 9 = .ok (.getfield 24, 3) := by decide +kernel
theorem dX12_look2_12 : decode cX12_look2 12 = .ok (.iload_n 1, 1) := by decide +kernel
theorem dX12_look2_13 : decode cX12_look2 13 = .ok (.baload, 1) := by decide +kernel
theorem dX12_look2_14 : decode cX12_look2 14 = .ok (.sipush 255, 3) := by decide +kernel
theorem dX12_look2_17 : decode cX12_look2 17 = .ok (.iand, 1) := by decide +kernel
theorem dX12_look2_18 : decode cX12_look2 18 = .ok (.goto 4, 3) := by decide +kernel
theorem dX12_look2_21 : decode cX12_look2 21 = .ok (.iconst 0, 1) := by decide +kernel
theorem dX12_look2_22 : decode cX12_look2 22 = .ok (.ireturn, 1) := by decide +kernel
def j_X12_look2 : JD := (yX12_look2, cX12_look2, 2, (some .int))
def b_X12_look2 : BD := (0, 0, 0)
theorem dX12_isLetter_0 : decode cX12_isLetter 0 = .ok (.iload_n 0, 1) := by decide +kernel
theorem dX12_isLetter_1 : decode cX12_isLetter 1 = .ok (.bipush 97, 2) := by decide +kernel
theorem dX12_isLetter_3 : decode cX12_isLetter 3 = .ok (.if_icmp .lt 13, 3) := by decide +kernel
theorem dX12_isLetter_6 : decode cX12_isLetter 6 = .ok (.iload_n 0, 1) := by decide +kernel
theorem dX12_isLetter_7 : decode cX12_isLetter 7 = .ok (.bipush 122, 2) := by decide +kernel
theorem dX12_isLetter_9 : decode cX12_isLetter 9 = .ok (.if_icmp .gt 7, 3) := by decide +kernel
theorem dX12_isLetter_12 : decode cX12_isLetter 12 = .ok (.iconst 1, 1) := by decide +kernel
theorem dX12_isLetter_13 : decode cX12_isLetter 13 = .ok (.goto 4, 3) := by decide +kernel
theorem dX12_isLetter_16 : decode cX12_isLetter 16 = .ok (.iconst 0, 1) := by decide +kernel
theorem dX12_isLetter_17 : decode cX12_isLetter 17 = .ok (.ireturn, 1) := by decide +kernel
def j_X12_isLetter : JD := (yX12_isLetter, cX12_isLetter, 1, (some .boolean))
def b_X12_isLetter : BD := (0, 0, 0)
theorem dX12_isDigit_0 : decode cX12_isDigit 0 = .ok (.iload_n 0, 1) := by decide +kernel
theorem dX12_isDigit_1 : decode cX12_isDigit 1 = .ok (.bipush 48, 2) := by decide +kernel
theorem dX12_isDigit_3 : decode cX12_isDigit 3 = .ok (.if_icmp .lt 13, 3) := by decide +kernel
theorem dX12_isDigit_6 : decode cX12_isDigit 6 = .ok (.iload_n 0, 1) := by decide +kernel
theorem dX12_isDigit_7 : decode cX12_isDigit 7 = .ok (.bipush 57, 2) := by decide +kernel
theorem dX12_isDigit_9 : decode cX12_isDigit 9 = .ok (.if_icmp .gt 7, 3) := by decide +kernel
theorem dX12_isDigit_12 : decode cX12_isDigit 12 = .ok (.iconst 1, 1) := by decide +kernel
theorem dX12_isDigit_13 : decode cX12_isDigit 13 = .ok (.goto 4, 3) := by decide +kernel
theorem dX12_isDigit_16 : decode cX12_isDigit 16 = .ok (.iconst 0, 1) := by decide +kernel
theorem dX12_isDigit_17 : decode cX12_isDigit 17 = .ok (.ireturn, 1) := by decide +kernel
def j_X12_isDigit : JD := (yX12_isDigit, cX12_isDigit, 1, (some .boolean))
def b_X12_isDigit : BD := (0, 0, 0)
theorem dX12_isSignByte_0 : decode cX12_isSignByte 0 = .ok (.iload_n 1, 1) := by decide +kernel
theorem dX12_isSignByte_1 : decode cX12_isSignByte 1 = .ok (.bipush 59, 2) := by decide +kernel
theorem dX12_isSignByte_3 : decode cX12_isSignByte 3 = .ok (.if_icmp .eq 21, 3) := by decide +kernel
theorem dX12_isSignByte_6 : decode cX12_isSignByte 6 = .ok (.iload_n 1, 1) := by decide +kernel
theorem dX12_isSignByte_7 : decode cX12_isSignByte 7 = .ok (.bipush 60, 2) := by decide +kernel
theorem dX12_isSignByte_9 : decode cX12_isSignByte 9 = .ok (.if_icmp .eq 15, 3) := by decide +kernel
theorem dX12_isSignByte_12 : decode cX12_isSignByte 12 = .ok (.iload_n 1, 1) := by decide +kernel
theorem dX12_isSignByte_13 : decode cX12_isSignByte 13 = .ok (.bipush 62, 2) := by decide +kernel
theorem dX12_isSignByte_15 : decode cX12_isSignByte 15 = .ok (.if_icmp .eq 9, 3) := by decide +kernel
theorem dX12_isSignByte_18 : decode cX12_isSignByte 18 = .ok (.iload_n 1, 1) := by decide +kernel
theorem dX12_isSignByte_19 : decode cX12_isSignByte 19 = .ok (.bipush 61, 2) := by decide +kernel
theorem dX12_isSignByte_21 : decode cX12_isSignByte 21 = .ok (.if_icmp .ne 7, 3) := by decide +kernel
theorem dX12_isSignByte_24 : decode cX12_isSignByte 24 = .ok (.iconst 1, 1) := by decide +kernel
theorem dX12_isSignByte_25 : decode cX12_isSignByte 25 = .ok (.goto 4, 3) := by decide +kernel
theorem dX12_isSignByte_28 : decode cX12_isSignByte 28 = .ok (.iconst 0, 1) := by decide +kernel
theorem dX12_isSignByte_29 : decode cX12_isSignByte 29 = .ok (.ireturn, 1) := by decide +kernel
def j_X12_isSignByte : JD := (yX12_isSignByte, cX12_isSignByte, 2, (some .boolean))
def b_X12_isSignByte : BD := (0, 0, 0)
theorem dX12_next_0 : decode cX12_next 0 = .ok (.aload_n 0, 1) := by decide +kernel
theorem dX12_next_1 : decode cX12_next 1 = .ok (.aload_n 0, 1) := by decide +kernel
theorem dX12_next_2 : decode cX12_next 2 = .ok (.getfield 114, 3) := by decide +kernel
theorem dX12_next_5 : decode cX12_next 5 = .ok (.putfield 117, 3) := by decide +kernel
theorem dX12_next_8 : decode cX12_next 8 = .ok (.aload_n 0, 1) := by decide +kernel
theorem dX12_next_9 : decode cX12_next 9 = .ok (.getfield 117, 3) := by decide +kernel
theorem dX12_next_12 : decode cX12_next 12 = .ok (.aload_n 0, 1) := by decide +kernel
theorem dX12_next_13 : decode cX12_next 13 = .ok (.getfield 111, 3) := by decide +kernel
theorem dX12_next_16 : decode cX12_next 16 = .ok (.if_icmp .ge 42, 3) := by decide +kernel
theorem dX12_next_19 : decode cX12_next 19 = .ok (.aload_n 0, 1) := by decide +kernel
theorem dX12_next_20 : decode cX12_next 20 = .ok (.aload_n 0, 1) := by decide +kernel
theorem dX12_next_21 : decode cX12_next 21 = .ok (.getfield 117, 3) := by decide +kernel
theorem dX12_next_24 : decode cX12_next 24 = .ok (.invokevirtual 120, 3) := by decide +kernel
theorem dX12_next_27 : decode cX12_next 27 = .ok (.bipush 10, 2) := by decide +kernel
theorem dX12_next_29 : decode cX12_next 29 = .ok (.if_icmp .eq 16, 3) := by decide +kernel
theorem dX12_next_32 : decode cX12_next 32 = .ok (.aload_n 0, 1) := by decide +kernel
theorem dX12_next_33 : decode cX12_next 33 = .ok (.aload_n 0, 1) := by decide +kernel
theorem dX12_next_34 : decode cX12_next 34 = .ok (.getfield 117, 3) := by decide +kernel
theorem dX12_next_37 : decode cX12_next 37 = .ok (.invokevirtual 120, 3) := by decide +kernel
theorem dX12_next_40 : decode cX12_next 40 = .ok (.bipush 32, 2) := by decide +kernel
theorem dX12_next_42 : decode cX12_next 42 = .ok (.if_icmp .ne 16, 3) := by decide +kernel
theorem dX12_next_45 : decode cX12_next 45 = .ok (.aload_n 0, 1) := by decide +kernel
theorem dX12_next_46 : decode cX12_next 46 = .ok (.dup, 1) := by decide +kernel
theorem dX12_next_47 : decode cX12_next 47 = .ok (.getfield 117, 3) := by decide +kernel
theorem dX12_next_50 : decode cX12_next 50 = .ok (.iconst 1, 1) := by decide +kernel
theorem dX12_next_51 : decode cX12_next 51 = .ok (.iadd, 1) := by decide +kernel
theorem dX12_next_52 : decode cX12_next 52 = .ok (.putfield 117, 3) := by decide +kernel
theorem dX12_next_55 : decode cX12_next 55 = .ok (.goto (-47), 3) := by decide +kernel
theorem dX12_next_58 : decode cX12_next 58 = .ok (.aload_n 0, 1) := by decide +kernel
theorem dX12_next_59 : decode cX12_next 59 = .ok (.aload_n 0, 1) := by decide +kernel
theorem dX12_next_60 : decode cX12_next 60 = .ok (.getfield 117, 3) := by decide +kernel
theorem dX12_next_63 : decode cX12_next 63 = .ok (.putfield 114, 3) := by decide +kernel
theorem dX12_next_66 : decode cX12_next 66 = .ok (.aload_n 0, 1) := by decide +kernel
theorem dX12_next_67 : decode cX12_next 67 = .ok (.getfield 117, 3) := by decide +kernel
theorem dX12_next_70 : decode cX12_next 70 = .ok (.aload_n 0, 1) := by decide +kernel
theorem dX12_next_71 : decode cX12_next 71 = .ok (.getfield 111, 3) := by decide +kernel
theorem dX12_next_74 : decode cX12_next 74 = .ok (.if_icmp .lt 9, 3) := by decide +kernel
theorem dX12_next_77 : decode cX12_next 77 = .ok (.aload_n 0, 1) := by decide +kernel
theorem dX12_next_78 : decode cX12_next 78 = .ok (.iconst 0, 1) := by decide +kernel
theorem dX12_next_79 : decode cX12_next 79 = .ok (.putfield 123, 3) := by decide +kernel
theorem dX12_next_82 : decode cX12_next 82 = .ok (.return_, 1) := by decide +kernel
theorem dX12_next_83 : decode cX12_next 83 = .ok (.aload_n 0, 1) := by decide +kernel
theorem dX12_next_84 : decode cX12_next 84 = .ok (.aload_n 0, 1) := by decide +kernel
theorem dX12_next_85 : decode cX12_next 85 = .ok (.getfield 117, 3) := by decide +kernel
theorem dX12_next_88 : decode cX12_next 88 = .ok (.invokevirtual 120, 3) := by decide +kernel
theorem dX12_next_91 : decode cX12_next 91 = .ok (.istore_n 1, 1) := by decide +kernel
theorem dX12_next_92 : decode cX12_next 92 = .ok (.iload_n 1, 1) := by decide +kernel
theorem dX12_next_93 : decode cX12_next 93 = .ok (.invokestatic 126, 3) := by decide +kernel
theorem dX12_next_96 : decode cX12_next 96 = .ok (.ifCond .eq 102, 3) := by decide +kernel
theorem dX12_next_99 : decode cX12_next 99 = .ok (.aload_n 0, 1) := by decide +kernel
theorem dX12_next_100 : decode cX12_next 100 = .ok (.iconst 1, 1) := by decide +kernel
theorem dX12_next_101 : decode cX12_next 101 = .ok (.putfield 123, 3) := by decide +kernel
theorem dX12_next_104 : decode cX12_next 104 = .ok (.aload_n 0, 1) := by decide +kernel
theorem dX12_next_105 : decode cX12_next 105 = .ok (.lconst 0, 1) := by decide +kernel
theorem dX12_next_106 : decode cX12_next 106 = .ok (.putfield 129, 3) := by decide +kernel
theorem dX12_next_109 : decode cX12_next 109 = .ok (.aload_n 0, 1) := by decide +kernel
theorem dX12_next_110 : decode cX12_next 110 = .ok (.aload_n 0, 1) := by decide +kernel
theorem dX12_next_111 : decode cX12_next 111 = .ok (.getfield 114, 3) := by decide +kernel
theorem dX12_next_114 : decode cX12_next 114 = .ok (.invokevirtual 120, 3) := by decide +kernel
theorem dX12_next_117 : decode cX12_next 117 = .ok (.invokestatic 126, 3) := by decide +kernel
theorem dX12_next_120 : decode cX12_next 120 = .ok (.ifCond .eq 62, 3) := by decide +kernel
theorem dX12_next_123 : decode cX12_next 123 = .ok (.aload_n 0, 1) := by decide +kernel
theorem dX12_next_124 : decode cX12_next 124 = .ok (.aload_n 0, 1) := by decide +kernel
theorem dX12_next_125 : decode cX12_next 125 = .ok (.getfield 114, 3) := by decide +kernel
theorem dX12_next_128 : decode cX12_next 128 = .ok (.aload_n 0, 1) := by decide +kernel
theorem dX12_next_129 : decode cX12_next 129 = .ok (.getfield 117, 3) := by decide +kernel
theorem dX12_next_132 : decode cX12_next 132 = .ok (.isub, 1) := by decide +kernel
theorem dX12_next_133 : decode cX12_next 133 = .ok (.bipush 8, 2) := by decide +kernel
theorem dX12_next_135 : decode cX12_next 135 = .ok (.if_icmp .ge 28, 3) := by decide +kernel
theorem dX12_next_138 : decode cX12_next 138 = .ok (.aload_n 0, 1) := by decide +kernel
theorem dX12_next_139 : decode cX12_next 139 = .ok (.getfield 129, 3) := by decide +kernel
theorem dX12_next_142 : decode cX12_next 142 = .ok (.ldc2_w 132, 3) := by decide +kernel
theorem dX12_next_145 : decode cX12_next 145 = .ok (.lmul, 1) := by decide +kernel
theorem dX12_next_146 : decode cX12_next 146 = .ok (.aload_n 0, 1) := by decide +kernel
theorem dX12_next_147 : decode cX12_next 147 = .ok (.aload_n 0, 1) := by decide +kernel
theorem dX12_next_148 : decode cX12_next 148 = .ok (.getfield 114, 3) := by decide +kernel
theorem dX12_next_151 : decode cX12_next 151 = .ok (.invokevirtual 120, 3) := by decide +kernel
theorem dX12_next_154 : decode cX12_next 154 = .ok (.i2l, 1) := by decide +kernel
theorem dX12_next_155 : decode cX12_next 155 = .ok (.ladd, 1) := by decide +kernel
theorem dX12_next_156 : decode cX12_next 156 = .ok (.ldc2_w 134, 3) := by decide +kernel
theorem dX12_next_159 : decode cX12_next 159 = .ok (.lsub, 1) := by decide +kernel
theorem dX12_next_160 : decode cX12_next 160 = .ok (.goto 6, 3) := by decide +kernel
theorem dX12_next_163 : decode cX12_next 163 = .ok (.ldc2_w 99, 3) := by decide +kernel
theorem dX12_next_166 : decode cX12_next 166 = .ok (.putfield 129, 3) := by decide +kernel
theorem dX12_next_169 : decode cX12_next 169 = .ok (.aload_n 0, 1) := by decide +kernel
theorem dX12_next_170 : decode cX12_next 170 = .ok (.dup, 1) := by decide +kernel
theorem dX12_next_171 : decode cX12_next 171 = .ok (.getfield 114, 3) := by decide +kernel
theorem dX12_next_174 : decode cX12_next 174 = .ok (.iconst 1, 1) := by decide +kernel
theorem dX12_next_175 : decode cX12_next 175 = .ok (.iadd, 1) := by decide +kernel
theorem dX12_next_176 : decode cX12_next 176 = .ok (.putfield 114, 3) := by decide +kernel
theorem dX12_next_179 : decode cX12_next 179 = .ok (.goto (-70), 3) := by decide +kernel
theorem dX12_next_182 : decode cX12_next 182 = .ok (.aload_n 0, 1) := by decide +kernel
theorem dX12_next_183 : decode cX12_next 183 = .ok (.aload_n 0, 1) := by decide +kernel
theorem dX12_next_184 : decode cX12_next 184 = .ok (.getfield 114, 3) := by decide +kernel
theorem dX12_next_187 : decode cX12_next 187 = .ok (.aload_n 0, 1) := by decide +kernel
theorem dX12_next_188 : decode cX12_next 188 = .ok (.getfield 117, 3) := by decide +kernel
theorem dX12_next_191 : decode cX12_next 191 = .ok (.isub, 1) := by decide +kernel
theorem dX12_next_192 : decode cX12_next 192 = .ok (.putfield 136, 3) := by decide +kernel
theorem dX12_next_195 : decode cX12_next 195 = .ok (.goto 135, 3) := by decide +kernel
theorem dX12_next_198 : decode cX12_next 198 = .ok (.iload_n 1, 1) := by decide +kernel
theorem dX12_next_199 : decode cX12_next 199 = .ok (.invokestatic 139, 3) := by decide +kernel
theorem dX12_next_202 : decode cX12_next 202 = .ok (.ifCond .eq 96, 3) := by decide +kernel
theorem dX12_next_205 : decode cX12_next 205 = .ok (.aload_n 0, 1) := by decide +kernel
theorem dX12_next_206 : decode cX12_next 206 = .ok (.iconst 0, 1) := by decide +kernel
theorem dX12_next_207 : decode cX12_next 207 = .ok (.putfield 142, 3) := by decide +kernel
theorem dX12_next_210 : decode cX12_next 210 = .ok (.aload_n 0, 1) := by decide +kernel
theorem dX12_next_211 : decode cX12_next 211 = .ok (.aload_n 0, 1) := by decide +kernel
theorem dX12_next_212 : decode cX12_next 212 = .ok (.getfield 114, 3) := by decide +kernel
theorem dX12_next_215 : decode cX12_next 215 = .ok (.invokevirtual 120, 3) := by decide +kernel
theorem dX12_next_218 : decode cX12_next 218 = .ok (.invokestatic 139, 3) := by decide +kernel
theorem dX12_next_221 : decode cX12_next 221 = .ok (.ifCond .eq 52, 3) := by decide +kernel
theorem dX12_next_224 : decode cX12_next 224 = .ok (.aload_n 0, 1) := by decide +kernel
theorem dX12_next_225 : decode cX12_next 225 = .ok (.getfield 114, 3) := by decide +kernel
theorem dX12_next_228 : decode cX12_next 228 = .ok (.aload_n 0, 1) := by decide +kernel
theorem dX12_next_229 : decode cX12_next 229 = .ok (.getfield 117, 3) := by decide +kernel
theorem dX12_next_232 : decode cX12_next 232 = .ok (.isub, 1) := by decide +kernel
theorem dX12_next_233 : decode cX12_next 233 = .ok (.iconst 4, 1) := by decide +kernel
theorem dX12_next_234 : decode cX12_next 234 = .ok (.if_icmp .ge 26, 3) := by decide +kernel
theorem dX12_next_237 : decode cX12_next 237 = .ok (.aload_n 0, 1) := by decide +kernel
theorem dX12_next_238 : decode cX12_next 238 = .ok (.bipush 10, 2) := by decide +kernel
theorem dX12_next_240 : decode cX12_next 240 = .ok (.aload_n 0, 1) := by decide +kernel
theorem dX12_next_241 : decode cX12_next 241 = .ok (.getfield 142, 3) := by decide +kernel
theorem dX12_next_244 : decode cX12_next 244 = .ok (.imul, 1) := by decide +kernel
theorem dX12_next_245 : decode cX12_next 245 = .ok (.aload_n 0, 1) := by decide +kernel
theorem dX12_next_246 : decode cX12_next 246 = .ok (.aload_n 0, 1) := by decide +kernel
theorem dX12_next_247 : decode cX12_next 247 = .ok (.getfield 114, 3) := by decide +kernel
theorem dX12_next_250 : decode cX12_next 250 = .ok (.invokevirtual 120, 3) := by decide +kernel
theorem dX12_next_253 : decode cX12_next 253 = .ok (.iadd, 1) := by decide +kernel
theorem dX12_next_254 : decode cX12_next 254 = .ok (.bipush 48, 2) := by decide +kernel
theorem dX12_next_256 : decode cX12_next 256 = .ok (.isub, 1) := by decide +kernel
theorem dX12_next_257 : decode cX12_next 257 = .ok (.putfield 142, 3) := by decide +kernel
theorem dX12_next_260 : decode cX12_next 260 = .ok (.aload_n 0, 1) := by decide +kernel
theorem dX12_next_261 : decode cX12_next 261 = .ok (.dup, 1) := by decide +kernel
theorem dX12_next_262 : decode cX12_next 262 = .ok (.getfield 114, 3) := by decide +kernel
theorem dX12_next_265 : decode cX12_next 265 = .ok (.iconst 1, 1) := by decide +kernel
theorem dX12_next_266 : decode cX12_next 266 = .ok (.iadd, 1) := by decide +kernel
theorem dX12_next_267 : decode cX12_next 267 = .ok (.putfield 114, 3) := by decide +kernel
theorem dX12_next_270 : decode cX12_next 270 = .ok (.goto (-60), 3) := by decide +kernel
theorem dX12_next_273 : decode cX12_next 273 = .ok (.aload_n 0, 1) := by decide +kernel
theorem dX12_next_274 : decode cX12_next 274 = .ok (.aload_n 0, 1) := by decide +kernel
theorem dX12_next_275 : decode cX12_next 275 = .ok (.getfield 114, 3) := by decide +kernel
theorem dX12_next_278 : decode cX12_next 278 = .ok (.aload_n 0, 1) := by decide +kernel
theorem dX12_next_279 : decode cX12_next 279 = .ok (.getfield 117, 3) := by decide +kernel
theorem dX12_next_282 : decode cX12_next 282 = .ok (.isub, 1) := by decide +kernel
theorem dX12_next_283 : decode cX12_next 283 = .ok (.iconst 4, 1) := by decide +kernel
theorem dX12_next_284 : decode cX12_next 284 = .ok (.if_icmp .le 7, 3) := by decide +kernel
theorem dX12_next_287 : decode cX12_next 287 = .ok (.iconst 4, 1) := by decide +kernel
theorem dX12_next_288 : decode cX12_next 288 = .ok (.goto 4, 3) := by decide +kernel
theorem dX12_next_291 : decode cX12_next 291 = .ok (.iconst 2, 1) := by decide +kernel
theorem dX12_next_292 : decode cX12_next 292 = .ok (.putfield 123, 3) := by decide +kernel
theorem dX12_next_295 : decode cX12_next 295 = .ok (.goto 35, 3) := by decide +kernel
theorem dX12_next_298 : decode cX12_next 298 = .ok (.aload_n 0, 1) := by decide +kernel
theorem dX12_next_299 : decode cX12_next 299 = .ok (.aload_n 0, 1) := by decide +kernel
theorem dX12_next_300 : decode cX12_next 300 = .ok (.getfield 117, 3) := by decide +kernel
theorem dX12_next_303 : decode cX12_next 303 = .ok (.iconst 1, 1) := by decide +kernel
theorem dX12_next_304 : decode cX12_next 304 = .ok (.iadd, 1) := by decide +kernel
theorem dX12_next_305 : decode cX12_next 305 = .ok (.putfield 114, 3) := by decide +kernel
theorem dX12_next_308 : decode cX12_next 308 = .ok (.aload_n 0, 1) := by decide +kernel
theorem dX12_next_309 : decode cX12_next 309 = .ok (.iload_n 1, 1) := by decide +kernel
theorem dX12_next_310 : decode cX12_next 310 = .ok (.putfield 142, 3) := by decide +kernel
theorem dX12_next_313 : decode cX12_next 313 = .ok (.aload_n 0, 1) := by decide +kernel
theorem dX12_next_314 : decode cX12_next 314 = .ok (.aload_n 0, 1) := by decide +kernel
theorem dX12_next_315 : decode cX12_next 315 = .ok (.iload_n 1, 1) := by decide +kernel
theorem dX12_next_316 : decode cX12_next 316 = .ok (.invokevirtual 145, 3) := by decide +kernel
theorem dX12_next_319 : decode cX12_next 319 = .ok (.ifCond .eq 7, 3) := by decide +kernel
theorem dX12_next_322 : decode cX12_next 322 = .ok (.iconst 3, 1) := by decide +kernel
theorem dX12_next_323 : decode cX12_next 323 = .ok (.goto 4, 3) := by decide +kernel
theorem dX12_next_326 : decode cX12_next 326 = .ok (.iconst 4, 1) := by decide +kernel
theorem dX12_next_327 : decode cX12_next 327 = .ok (.putfield 123, 3) := by decide +kernel
theorem dX12_next_330 : decode cX12_next 330 = .ok (.return_, 1) := by decide +kernel
def j_X12_next : JD := (yX12_next, cX12_next, 2, none)
def b_X12_next : BD := (1, 0, 0)
theorem mv_X12_refuse : MV j_X12_refuse 12 1 := ⟨⟨gw_at 1933 (by decide +kernel) rfl, gw_at 221 (by decide +kernel) rfl, ⟨by decide +kernel, by decide +kernel⟩, by decide +kernel, by decide, by decide +kernel⟩, ⟨_, rfl, rfl⟩, gw_at 1932 (by decide +kernel) rfl, gw_at 158 (by decide +kernel) rfl⟩
theorem mv_X12_no : MV j_X12_no 12 1 := ⟨⟨gw_at 1669 (by decide +kernel) rfl, gw_at 221 (by decide +kernel) rfl, ⟨by decide +kernel, by decide +kernel⟩, by decide +kernel, by decide, by decide +kernel⟩, ⟨_, rfl, rfl⟩, gw_at 1668 (by decide +kernel) rfl, gw_at 105 (by decide +kernel) rfl⟩
theorem ms_X12_isIn : MS j_X12_isIn 3 := ⟨⟨gw_at 1871 (by decide +kernel) rfl, gw_at 221 (by decide +kernel) rfl, ⟨by decide +kernel, by decide +kernel⟩, by decide +kernel, by decide, by decide +kernel⟩, gw_at 1870 (by decide +kernel) rfl⟩
theorem mv_X12_fraction : MV j_X12_fraction 12 2 := ⟨⟨gw_at 2097 (by decide +kernel) rfl, gw_at 221 (by decide +kernel) rfl, ⟨by decide +kernel, by decide +kernel⟩, by decide +kernel, by decide, by decide +kernel⟩, ⟨_, rfl, rfl⟩, gw_at 2096 (by decide +kernel) rfl, gw_at 181 (by decide +kernel) rfl⟩
theorem ms_X12_cut : MS j_X12_cut 2 := ⟨⟨gw_at 1684 (by decide +kernel) rfl, gw_at 221 (by decide +kernel) rfl, ⟨by decide +kernel, by decide +kernel⟩, by decide +kernel, by decide, by decide +kernel⟩, gw_at 1683 (by decide +kernel) rfl⟩
theorem mv_X12_trayed : MV j_X12_trayed 12 1 := ⟨⟨gw_at 1681 (by decide +kernel) rfl, gw_at 221 (by decide +kernel) rfl, ⟨by decide +kernel, by decide +kernel⟩, by decide +kernel, by decide, by decide +kernel⟩, ⟨_, rfl, rfl⟩, gw_at 1680 (by decide +kernel) rfl, gw_at 107 (by decide +kernel) rfl⟩
theorem mv_X12_placed : MV j_X12_placed 12 2 := ⟨⟨gw_at 1677 (by decide +kernel) rfl, gw_at 221 (by decide +kernel) rfl, ⟨by decide +kernel, by decide +kernel⟩, by decide +kernel, by decide, by decide +kernel⟩, ⟨_, rfl, rfl⟩, gw_at 1676 (by decide +kernel) rfl, gw_at 106 (by decide +kernel) rfl⟩
theorem mv_X12_numberOf : MV j_X12_numberOf 12 2 := ⟨⟨gw_at 2197 (by decide +kernel) rfl, gw_at 221 (by decide +kernel) rfl, ⟨by decide +kernel, by decide +kernel⟩, by decide +kernel, by decide, by decide +kernel⟩, ⟨_, rfl, rfl⟩, gw_at 2196 (by decide +kernel) rfl, gw_at 194 (by decide +kernel) rfl⟩
theorem mv_X12_isTray : MV j_X12_isTray 12 1 := ⟨⟨gw_at 2191 (by decide +kernel) rfl, gw_at 221 (by decide +kernel) rfl, ⟨by decide +kernel, by decide +kernel⟩, by decide +kernel, by decide, by decide +kernel⟩, ⟨_, rfl, rfl⟩, gw_at 2190 (by decide +kernel) rfl, gw_at 193 (by decide +kernel) rfl⟩
theorem ms_X12_has : MS j_X12_has 2 := ⟨⟨gw_at 2066 (by decide +kernel) rfl, gw_at 221 (by decide +kernel) rfl, ⟨by decide +kernel, by decide +kernel⟩, by decide +kernel, by decide, by decide +kernel⟩, gw_at 2065 (by decide +kernel) rfl⟩
theorem ms_X12_sizeOf : MS j_X12_sizeOf 1 := ⟨⟨gw_at 2069 (by decide +kernel) rfl, gw_at 221 (by decide +kernel) rfl, ⟨by decide +kernel, by decide +kernel⟩, by decide +kernel, by decide, by decide +kernel⟩, gw_at 2068 (by decide +kernel) rfl⟩
theorem mv_X12_look2 : MV j_X12_look2 12 1 := ⟨⟨gw_at 1721 (by decide +kernel) rfl, gw_at 221 (by decide +kernel) rfl, ⟨by decide +kernel, by decide +kernel⟩, by decide +kernel, by decide, by decide +kernel⟩, ⟨_, rfl, rfl⟩, gw_at 1720 (by decide +kernel) rfl, gw_at 111 (by decide +kernel) rfl⟩
theorem ms_X12_isLetter : MS j_X12_isLetter 1 := ⟨⟨gw_at 1724 (by decide +kernel) rfl, gw_at 221 (by decide +kernel) rfl, ⟨by decide +kernel, by decide +kernel⟩, by decide +kernel, by decide, by decide +kernel⟩, gw_at 1723 (by decide +kernel) rfl⟩
theorem ms_X12_isDigit : MS j_X12_isDigit 1 := ⟨⟨gw_at 1729 (by decide +kernel) rfl, gw_at 221 (by decide +kernel) rfl, ⟨by decide +kernel, by decide +kernel⟩, by decide +kernel, by decide, by decide +kernel⟩, gw_at 1728 (by decide +kernel) rfl⟩
theorem mv_X12_isSignByte : MV j_X12_isSignByte 12 1 := ⟨⟨gw_at 1733 (by decide +kernel) rfl, gw_at 221 (by decide +kernel) rfl, ⟨by decide +kernel, by decide +kernel⟩, by decide +kernel, by decide, by decide +kernel⟩, ⟨_, rfl, rfl⟩, gw_at 1732 (by decide +kernel) rfl, gw_at 112 (by decide +kernel) rfl⟩
theorem mv_X12_next : MV j_X12_next 12 0 := ⟨⟨gw_at 1717 (by decide +kernel) rfl, gw_at 221 (by decide +kernel) rfl, ⟨by decide +kernel, by decide +kernel⟩, by decide +kernel, by decide, by decide +kernel⟩, ⟨_, rfl, rfl⟩, gw_at 1716 (by decide +kernel) rfl, gw_at 110 (by decide +kernel) rfl⟩
theorem ml_X12_83 : MLk RX12 83 j_X12_no.1 := Or.inl (gw_at 1666 (by decide +kernel) rfl)
theorem ml_X12_87 : MLk RX12 87 j_X12_trayed.1 := Or.inl (gw_at 1678 (by decide +kernel) rfl)
theorem ml_X12_91 : MLk RX12 91 j_X12_placed.1 := Or.inl (gw_at 1674 (by decide +kernel) rfl)
theorem ml_X12_95 : MLk RX12 95 j_X12_cut.1 := Or.inl (gw_at 1682 (by decide +kernel) rfl)
theorem ml_X12_103 : MLk RX12 103 j_X12_isIn.1 := Or.inl (gw_at 1869 (by decide +kernel) rfl)
theorem ml_X12_107 : MLk RX12 107 j_X12_has.1 := Or.inl (gw_at 2064 (by decide +kernel) rfl)
theorem ml_X12_120 : MLk RX12 120 j_X12_look2.1 := Or.inl (gw_at 1718 (by decide +kernel) rfl)
theorem ml_X12_126 : MLk RX12 126 j_X12_isLetter.1 := Or.inl (gw_at 1722 (by decide +kernel) rfl)
theorem ml_X12_139 : MLk RX12 139 j_X12_isDigit.1 := Or.inl (gw_at 1727 (by decide +kernel) rfl)
theorem ml_X12_145 : MLk RX12 145 j_X12_isSignByte.1 := Or.inl (gw_at 1730 (by decide +kernel) rfl)
def f_X12_init_139 : Nat → Mm → Option Nat → Int32 → Option (Mm)
  | 0, _, _, _ => none
  | n + 1, M, l0, l1 => if 4 ≤ l1 then (gfR M l0 12 20 fun v158 => asI M v158 21 3 3 fun M163 => some M163) else (gfR M l0 12 5 fun v145 => asI M v145 21 l1 (-1) fun M150 => f_X12_init_139 n M150 l0 (l1 + 1))
def f_X12_init (M : Mm) (l0 : Option Nat) : Option (Mm) := nz l0 <| pfL M l0 12 3 1 fun M6 => nwa M6 21 4 fun q11 M11 => pfR M11 l0 12 4 q11 fun M13 => nwa M13 21 4 fun q18 M18 => pfR M18 l0 12 5 q18 fun M20 => nwa M20 22 240 fun q27 M27 => pfR M27 l0 12 6 q27 fun M29 => nwa M29 20 900 fun q36 M36 => pfR M36 l0 12 7 q36 fun M38 => pfI M38 l0 12 10 (-1) fun M43 => pfI M43 l0 12 11 (-1) fun M48 => nwa M48 21 2250 fun q55 M55 => pfR M55 l0 12 20 q55 fun M57 => nwa M57 21 173 fun q64 M64 => pfR M64 l0 12 21 q64 fun M66 => nwa M66 22 90 fun q72 M72 => pfR M72 l0 12 22 q72 fun M74 => nwa M74 21 2048 fun q81 M81 => pfR M81 l0 12 27 q81 fun M83 => nwa M83 21 1024 fun q90 M90 => pfR M90 l0 12 28 q90 fun M92 => nwa M92 21 256 fun q99 M99 => pfR M99 l0 12 29 q99 fun M101 => pfI M101 l0 12 30 (-1) fun M106 => nwa M106 21 8 fun q112 M112 => pfR M112 l0 12 31 q112 fun M114 => nwa M114 21 8 fun q120 M120 => pfR M120 l0 12 32 q120 fun M122 => pfI M122 l0 12 33 (-1) fun M127 => nwa M127 21 5 fun q132 M132 => pfR M132 l0 12 35 q132 fun M134 => f_X12_init_139  fu M134 l0 0
set_option maxHeartbeats 4000000 in
set_option maxRecDepth 100000 in
theorem t_X12_init_139 {G : GG} {X : CX} {ans : Mm} (he : EndV G X j_X12_init b_X12_init ans) : ∀ (n : Nat) {M : Mm} {l0 : Option Nat} {l1 : Int32}, f_X12_init_139 n M l0 l1 = some ans → Wt G X j_X12_init b_X12_init 139 [(0, rf G.1 l0), (1, .int l1)] [] M 13 7010 := by
  intro n
  induction n with
  | zero =>
    intro M l0 l1 h
    rw [f_X12_init_139] at h
    cases h
  | succ n ih =>
    intro M l0 l1 h
    rw [f_X12_init_139] at h
    refine wt_iload_n (pc := 139) 1 dX12_init_139 rfl ?_
    refine wt_iconst (pc := 140) (v := 4) dX12_init_140 (by decide) ?_
    refine wt_icmp_ge (pc := 141) (tgt := 157) dX12_init_141 (by decide) (fun q => ?_) (fun q => ?_)
    · have h := ite_t q h
      refine wt_aload_n (pc := 157) 0 dX12_init_157 rfl ?_
      refine wt_getR (pc := 158) dX12_init_158 fl_X12_35 (fun _ _ _ => rfl) h (fun v158 h => ?_)
      refine wt_iconst (pc := 161) (v := 3) dX12_init_161 (by decide) ?_
      refine wt_iconst (pc := 162) (v := 3) dX12_init_162 (by decide) ?_
      refine wt_iastore (pc := 163) (kd := 21) dX12_init_163 rfl rfl h (fun M163 h => ?_)
      cases h
      exact he 164 _ _ _ dX12_init_164 (by decide) (by decide)
    · have h := ite_f q h
      refine wt_aload_n (pc := 144) 0 dX12_init_144 rfl ?_
      refine wt_getR (pc := 145) dX12_init_145 fl_X12_17 (fun _ _ _ => rfl) h (fun v145 h => ?_)
      refine wt_iload_n (pc := 148) 1 dX12_init_148 rfl ?_
      refine wt_iconst (pc := 149) (v := (-1)) dX12_init_149 (by decide) ?_
      refine wt_iastore (pc := 150) (kd := 21) dX12_init_150 rfl rfl h (fun M150 h => ?_)
      refine wt_iinc (pc := 151) (d := 1) (ls' := [(1, .int (l1 + 1)), (0, rf G.1 l0)]) 1 dX12_init_151 rfl (by decide) (by decide) (by simp [rf_cat, cat_i, cat_l, cat_r]) ?_
      refine wt_goto (pc := 154) (tgt := 139) dX12_init_154 (by decide) ?_
      refine wt_sub (ls' := [(0, rf G.1 l0), (1, .int (l1 + 1))]) [1, 0] rfl ?_
      exact ih h
set_option maxHeartbeats 4000000 in
set_option maxRecDepth 100000 in
theorem t_X12_init_e {G : GG} {X : CX} {ans : Mm} (he : EndV G X j_X12_init b_X12_init ans) {M : Mm} {l0 : Option Nat} (h : f_X12_init M l0 = some ans) : Wt G X j_X12_init b_X12_init 0 [(0, rf G.1 l0)] [] M 0 0 := by
  unfold f_X12_init at h
  refine wt_aload_n (pc := 0) 0 dX12_init_0 rfl ?_
  refine wt_oI (pc := 1) dX12_init_1 oi_X12_1 oiM oiC (by decide) (by decide) h (fun h => ?_)
  refine wt_aload_n (pc := 4) 0 dX12_init_4 rfl ?_
  refine wt_lconst (pc := 5) (v := 1) dX12_init_5 (by decide) ?_
  refine wt_putL (pc := 6) dX12_init_6 fl_X12_7 rfl rfl h (fun M6 h => ?_)
  refine wt_aload_n (pc := 9) 0 dX12_init_9 rfl ?_
  refine wt_iconst (pc := 10) (v := 4) dX12_init_10 (by decide) ?_
  refine wt_newarray (pc := 11) (kd := 21) (ty := .int) (n' := 4) dX12_init_11 rfl rfl ac_int (fun _ _ h => h) (by decide) (by decide) (by decide) (by decide) h (fun q11 M11 h => ?_)
  refine wt_putFA (pc := 13) dX12_init_13 ff_X12_13 rfl rfl h (fun M13 h => ?_)
  refine wt_aload_n (pc := 16) 0 dX12_init_16 rfl ?_
  refine wt_iconst (pc := 17) (v := 4) dX12_init_17 (by decide) ?_
  refine wt_newarray (pc := 18) (kd := 21) (ty := .int) (n' := 4) dX12_init_18 rfl rfl ac_int (fun _ _ h => h) (by decide) (by decide) (by decide) (by decide) h (fun q18 M18 h => ?_)
  refine wt_putFA (pc := 20) dX12_init_20 ff_X12_17 rfl rfl h (fun M20 h => ?_)
  refine wt_aload_n (pc := 23) 0 dX12_init_23 rfl ?_
  refine wt_sipush (pc := 24) (v := 240) dX12_init_24 (by decide) ?_
  refine wt_newarray (pc := 27) (kd := 22) (ty := .long) (n' := 240) dX12_init_27 rfl rfl ac_long (fun _ _ h => h) (by decide) (by decide) (by decide) (by decide) h (fun q27 M27 h => ?_)
  refine wt_putFA (pc := 29) dX12_init_29 ff_X12_20 rfl rfl h (fun M29 h => ?_)
  refine wt_aload_n (pc := 32) 0 dX12_init_32 rfl ?_
  refine wt_sipush (pc := 33) (v := 900) dX12_init_33 (by decide) ?_
  refine wt_newarray (pc := 36) (kd := 20) (ty := .byte) (n' := 900) dX12_init_36 rfl rfl ac_byte (fun _ _ h => h) (by decide) (by decide) (by decide) (by decide) h (fun q36 M36 h => ?_)
  refine wt_putFA (pc := 38) dX12_init_38 ff_X12_24 rfl rfl h (fun M38 h => ?_)
  refine wt_aload_n (pc := 41) 0 dX12_init_41 rfl ?_
  refine wt_iconst (pc := 42) (v := (-1)) dX12_init_42 (by decide) ?_
  refine wt_putI (pc := 43) dX12_init_43 fl_X12_28 rfl rfl h (fun M43 h => ?_)
  refine wt_aload_n (pc := 46) 0 dX12_init_46 rfl ?_
  refine wt_iconst (pc := 47) (v := (-1)) dX12_init_47 (by decide) ?_
  refine wt_putI (pc := 48) dX12_init_48 fl_X12_32 rfl rfl h (fun M48 h => ?_)
  refine wt_aload_n (pc := 51) 0 dX12_init_51 rfl ?_
  refine wt_sipush (pc := 52) (v := 2250) dX12_init_52 (by decide) ?_
  refine wt_newarray (pc := 55) (kd := 21) (ty := .int) (n' := 2250) dX12_init_55 rfl rfl ac_int (fun _ _ h => h) (by decide) (by decide) (by decide) (by decide) h (fun q55 M55 h => ?_)
  refine wt_putFA (pc := 57) dX12_init_57 ff_X12_35 rfl rfl h (fun M57 h => ?_)
  refine wt_aload_n (pc := 60) 0 dX12_init_60 rfl ?_
  refine wt_sipush (pc := 61) (v := 173) dX12_init_61 (by decide) ?_
  refine wt_newarray (pc := 64) (kd := 21) (ty := .int) (n' := 173) dX12_init_64 rfl rfl ac_int (fun _ _ h => h) (by decide) (by decide) (by decide) (by decide) h (fun q64 M64 h => ?_)
  refine wt_putFA (pc := 66) dX12_init_66 ff_X12_38 rfl rfl h (fun M66 h => ?_)
  refine wt_aload_n (pc := 69) 0 dX12_init_69 rfl ?_
  refine wt_bipush (pc := 70) (v := 90) dX12_init_70 (by decide) ?_
  refine wt_newarray (pc := 72) (kd := 22) (ty := .long) (n' := 90) dX12_init_72 rfl rfl ac_long (fun _ _ h => h) (by decide) (by decide) (by decide) (by decide) h (fun q72 M72 h => ?_)
  refine wt_putFA (pc := 74) dX12_init_74 ff_X12_41 rfl rfl h (fun M74 h => ?_)
  refine wt_aload_n (pc := 77) 0 dX12_init_77 rfl ?_
  refine wt_sipush (pc := 78) (v := 2048) dX12_init_78 (by decide) ?_
  refine wt_newarray (pc := 81) (kd := 21) (ty := .int) (n' := 2048) dX12_init_81 rfl rfl ac_int (fun _ _ h => h) (by decide) (by decide) (by decide) (by decide) h (fun q81 M81 h => ?_)
  refine wt_putFA (pc := 83) dX12_init_83 ff_X12_44 rfl rfl h (fun M83 h => ?_)
  refine wt_aload_n (pc := 86) 0 dX12_init_86 rfl ?_
  refine wt_sipush (pc := 87) (v := 1024) dX12_init_87 (by decide) ?_
  refine wt_newarray (pc := 90) (kd := 21) (ty := .int) (n' := 1024) dX12_init_90 rfl rfl ac_int (fun _ _ h => h) (by decide) (by decide) (by decide) (by decide) h (fun q90 M90 h => ?_)
  refine wt_putFA (pc := 92) dX12_init_92 ff_X12_47 rfl rfl h (fun M92 h => ?_)
  refine wt_aload_n (pc := 95) 0 dX12_init_95 rfl ?_
  refine wt_sipush (pc := 96) (v := 256) dX12_init_96 (by decide) ?_
  refine wt_newarray (pc := 99) (kd := 21) (ty := .int) (n' := 256) dX12_init_99 rfl rfl ac_int (fun _ _ h => h) (by decide) (by decide) (by decide) (by decide) h (fun q99 M99 h => ?_)
  refine wt_putFA (pc := 101) dX12_init_101 ff_X12_50 rfl rfl h (fun M101 h => ?_)
  refine wt_aload_n (pc := 104) 0 dX12_init_104 rfl ?_
  refine wt_iconst (pc := 105) (v := (-1)) dX12_init_105 (by decide) ?_
  refine wt_putI (pc := 106) dX12_init_106 fl_X12_53 rfl rfl h (fun M106 h => ?_)
  refine wt_aload_n (pc := 109) 0 dX12_init_109 rfl ?_
  refine wt_bipush (pc := 110) (v := 8) dX12_init_110 (by decide) ?_
  refine wt_newarray (pc := 112) (kd := 21) (ty := .int) (n' := 8) dX12_init_112 rfl rfl ac_int (fun _ _ h => h) (by decide) (by decide) (by decide) (by decide) h (fun q112 M112 h => ?_)
  refine wt_putFA (pc := 114) dX12_init_114 ff_X12_56 rfl rfl h (fun M114 h => ?_)
  refine wt_aload_n (pc := 117) 0 dX12_init_117 rfl ?_
  refine wt_bipush (pc := 118) (v := 8) dX12_init_118 (by decide) ?_
  refine wt_newarray (pc := 120) (kd := 21) (ty := .int) (n' := 8) dX12_init_120 rfl rfl ac_int (fun _ _ h => h) (by decide) (by decide) (by decide) (by decide) h (fun q120 M120 h => ?_)
  refine wt_putFA (pc := 122) dX12_init_122 ff_X12_59 rfl rfl h (fun M122 h => ?_)
  refine wt_aload_n (pc := 125) 0 dX12_init_125 rfl ?_
  refine wt_iconst (pc := 126) (v := (-1)) dX12_init_126 (by decide) ?_
  refine wt_putI (pc := 127) dX12_init_127 fl_X12_62 rfl rfl h (fun M127 h => ?_)
  refine wt_aload_n (pc := 130) 0 dX12_init_130 rfl ?_
  refine wt_iconst (pc := 131) (v := 5) dX12_init_131 (by decide) ?_
  refine wt_newarray (pc := 132) (kd := 21) (ty := .int) (n' := 5) dX12_init_132 rfl rfl ac_int (fun _ _ h => h) (by decide) (by decide) (by decide) (by decide) h (fun q132 M132 h => ?_)
  refine wt_putFA (pc := 134) dX12_init_134 ff_X12_65 rfl rfl h (fun M134 h => ?_)
  refine wt_iconst (pc := 137) (v := 0) dX12_init_137 (by decide) ?_
  refine wt_istore_n (pc := 138) (i := 1) (ls' := [(1, .int 0), (0, rf G.1 l0)]) rfl dX12_init_138 (by decide) (by simp [rf_cat, cat_i, cat_l, cat_r]) ?_
  refine wt_sub (ls' := [(0, rf G.1 l0), (1, .int 0)]) [1, 0] rfl ?_
  exact t_X12_init_139 he  fu h
set_option maxHeartbeats 4000000 in
set_option maxRecDepth 100000 in
theorem c_X12_init {G : GG} {M : Mm} {l0 : Option Nat} {r : Mm} (h : f_X12_init M l0 = some r) (l : Launch) : Ct l G j_X12_init b_X12_init [rf G.1 l0] M none r := cf_V (by decide +kernel) (by simp [lg_sl, rf_cat, cat_i, cat_l, j_X12_init]) rfl (by simp [lv_args, rf_cat, cat_i, cat_l]) (fun X he => t_X12_init_e he h)
def f_X12_status (M : Mm) (l0 : Option Nat) : Option (Int32 × Mm) := pfI M l0 12 1 0 fun M2 => gfI M2 l0 12 0 fun v6 => some (v6, M2)
set_option maxHeartbeats 4000000 in
set_option maxRecDepth 100000 in
theorem t_X12_status_e {G : GG} {X : CX} {ans : Int32 × Mm} (he : EndI G X j_X12_status b_X12_status ans) {M : Mm} {l0 : Option Nat} (h : f_X12_status M l0 = some ans) : Wt G X j_X12_status b_X12_status 0 [(0, rf G.1 l0)] [] M 0 0 := by
  unfold f_X12_status at h
  refine wt_aload_n (pc := 0) 0 dX12_status_0 rfl ?_
  refine wt_iconst (pc := 1) (v := 0) dX12_status_1 (by decide) ?_
  refine wt_putI (pc := 2) dX12_status_2 fl_X12_68 rfl rfl h (fun M2 h => ?_)
  refine wt_aload_n (pc := 5) 0 dX12_status_5 rfl ?_
  refine wt_getI (pc := 6) dX12_status_6 fl_X12_71 (fun _ _ _ => rfl) h (fun v6 h => ?_)
  cases h
  exact he 9 _ _ _ dX12_status_9 (by decide) (by decide)
set_option maxHeartbeats 4000000 in
set_option maxRecDepth 100000 in
theorem c_X12_status {G : GG} {M : Mm} {l0 : Option Nat} {r : Int32 × Mm} (h : f_X12_status M l0 = some r) (l : Launch) : Ct l G j_X12_status b_X12_status [rf G.1 l0] M (some (.int r.1)) r.2 := cf_I (by decide +kernel) (by simp [lg_sl, rf_cat, cat_i, cat_l, j_X12_status]) rfl (by simp [lv_args, rf_cat, cat_i, cat_l]) (fun X he => t_X12_status_e he h)
def f_X12_top (M : Mm) (l0 : Option Nat) : Option (Int64 × Mm) := pfI M l0 12 1 0 fun M2 => gfL M2 l0 12 2 fun v6 => some (v6, M2)
set_option maxHeartbeats 4000000 in
set_option maxRecDepth 100000 in
theorem t_X12_top_e {G : GG} {X : CX} {ans : Int64 × Mm} (he : EndL G X j_X12_top b_X12_top ans) {M : Mm} {l0 : Option Nat} (h : f_X12_top M l0 = some ans) : Wt G X j_X12_top b_X12_top 0 [(0, rf G.1 l0)] [] M 0 0 := by
  unfold f_X12_top at h
  refine wt_aload_n (pc := 0) 0 dX12_top_0 rfl ?_
  refine wt_iconst (pc := 1) (v := 0) dX12_top_1 (by decide) ?_
  refine wt_putI (pc := 2) dX12_top_2 fl_X12_68 rfl rfl h (fun M2 h => ?_)
  refine wt_aload_n (pc := 5) 0 dX12_top_5 rfl ?_
  refine wt_getL (pc := 6) dX12_top_6 fl_X12_74 (fun _ _ _ => rfl) h (fun v6 h => ?_)
  cases h
  exact he 9 _ _ _ dX12_top_9 (by decide) (by decide)
set_option maxHeartbeats 4000000 in
set_option maxRecDepth 100000 in
theorem c_X12_top {G : GG} {M : Mm} {l0 : Option Nat} {r : Int64 × Mm} (h : f_X12_top M l0 = some r) (l : Launch) : Ct l G j_X12_top b_X12_top [rf G.1 l0] M (some (.long r.1)) r.2 := cf_L (by decide +kernel) (by simp [lg_sl, rf_cat, cat_i, cat_l, j_X12_top]) rfl (by simp [lv_args, rf_cat, cat_i, cat_l]) (fun X he => t_X12_top_e he h)
def f_X12_bottom (M : Mm) (l0 : Option Nat) : Option (Int64 × Mm) := pfI M l0 12 1 0 fun M2 => gfL M2 l0 12 3 fun v6 => some (v6, M2)
set_option maxHeartbeats 4000000 in
set_option maxRecDepth 100000 in
theorem t_X12_bottom_e {G : GG} {X : CX} {ans : Int64 × Mm} (he : EndL G X j_X12_bottom b_X12_bottom ans) {M : Mm} {l0 : Option Nat} (h : f_X12_bottom M l0 = some ans) : Wt G X j_X12_bottom b_X12_bottom 0 [(0, rf G.1 l0)] [] M 0 0 := by
  unfold f_X12_bottom at h
  refine wt_aload_n (pc := 0) 0 dX12_bottom_0 rfl ?_
  refine wt_iconst (pc := 1) (v := 0) dX12_bottom_1 (by decide) ?_
  refine wt_putI (pc := 2) dX12_bottom_2 fl_X12_68 rfl rfl h (fun M2 h => ?_)
  refine wt_aload_n (pc := 5) 0 dX12_bottom_5 rfl ?_
  refine wt_getL (pc := 6) dX12_bottom_6 fl_X12_7 (fun _ _ _ => rfl) h (fun v6 h => ?_)
  cases h
  exact he 9 _ _ _ dX12_bottom_9 (by decide) (by decide)
set_option maxHeartbeats 4000000 in
set_option maxRecDepth 100000 in
theorem c_X12_bottom {G : GG} {M : Mm} {l0 : Option Nat} {r : Int64 × Mm} (h : f_X12_bottom M l0 = some r) (l : Launch) : Ct l G j_X12_bottom b_X12_bottom [rf G.1 l0] M (some (.long r.1)) r.2 := cf_L (by decide +kernel) (by simp [lg_sl, rf_cat, cat_i, cat_l, j_X12_bottom]) rfl (by simp [lv_args, rf_cat, cat_i, cat_l]) (fun X he => t_X12_bottom_e he h)
def f_X12_refuse (M : Mm) (l0 : Option Nat) (l1 : Int32) : Option (Int32 × Mm) := pfI M l0 12 0 l1 fun M2 => some ((-1), M2)
set_option maxHeartbeats 4000000 in
set_option maxRecDepth 100000 in
theorem t_X12_refuse_e {G : GG} {X : CX} {ans : Int32 × Mm} (he : EndI G X j_X12_refuse b_X12_refuse ans) {M : Mm} {l0 : Option Nat} {l1 : Int32} (h : f_X12_refuse M l0 l1 = some ans) : Wt G X j_X12_refuse b_X12_refuse 0 [(0, rf G.1 l0), (1, .int l1)] [] M 0 0 := by
  unfold f_X12_refuse at h
  refine wt_aload_n (pc := 0) 0 dX12_refuse_0 rfl ?_
  refine wt_iload_n (pc := 1) 1 dX12_refuse_1 rfl ?_
  refine wt_putI (pc := 2) dX12_refuse_2 fl_X12_71 rfl rfl h (fun M2 h => ?_)
  refine wt_iconst (pc := 5) (v := (-1)) dX12_refuse_5 (by decide) ?_
  cases h
  exact he 6 _ _ _ dX12_refuse_6 (by decide) (by decide)
set_option maxHeartbeats 4000000 in
set_option maxRecDepth 100000 in
theorem c_X12_refuse {G : GG} {M : Mm} {l0 : Option Nat} {l1 : Int32} {r : Int32 × Mm} (h : f_X12_refuse M l0 l1 = some r) (l : Launch) : Ct l G j_X12_refuse b_X12_refuse [rf G.1 l0, .int l1] M (some (.int r.1)) r.2 := cf_I (by decide +kernel) (by simp [lg_sl, rf_cat, cat_i, cat_l, j_X12_refuse]) rfl (by simp [lv_args, rf_cat, cat_i, cat_l]) (fun X he => t_X12_refuse_e he h)
def g_X12_no (M : Mm) (l0 : Option Nat) (l1 : Int32) : Option (Int32 × Mm) := pfI M l0 12 0 l1 fun M2 => some (0, M2)
def f_X12_no (M : Mm) (l0 : Option Nat) (l1 : Int32) : Option (Int32 × Mm) := zc (g_X12_no M l0 l1)
set_option maxHeartbeats 4000000 in
set_option maxRecDepth 100000 in
theorem t_X12_no_e {G : GG} {X : CX} {ans : Int32 × Mm} (he : EndI G X j_X12_no b_X12_no ans) {M : Mm} {l0 : Option Nat} {l1 : Int32} (h : g_X12_no M l0 l1 = some ans) : Wt G X j_X12_no b_X12_no 0 [(0, rf G.1 l0), (1, .int l1)] [] M 0 0 := by
  unfold g_X12_no at h
  refine wt_aload_n (pc := 0) 0 dX12_no_0 rfl ?_
  refine wt_iload_n (pc := 1) 1 dX12_no_1 rfl ?_
  refine wt_putI (pc := 2) dX12_no_2 fl_X12_71 rfl rfl h (fun M2 h => ?_)
  refine wt_iconst (pc := 5) (v := 0) dX12_no_5 (by decide) ?_
  cases h
  exact he 6 _ _ _ dX12_no_6 (by decide) (by decide)
set_option maxHeartbeats 4000000 in
set_option maxRecDepth 100000 in
theorem c_X12_no {G : GG} {M : Mm} {l0 : Option Nat} {l1 : Int32} {r : Int32 × Mm} (h : f_X12_no M l0 l1 = some r) (l : Launch) : Ct l G j_X12_no b_X12_no [rf G.1 l0, .int l1] M (some (.int r.1)) r.2 := cf_Z h (by decide +kernel) (by simp [lg_sl, rf_cat, cat_i, cat_l, j_X12_no]) rfl (by simp [lv_args, rf_cat, cat_i, cat_l]) (fun h X he => t_X12_no_e he h)
def g_X12_isIn (M : Mm) (l0 : Int64) (l2 : Int64) (l4 : Int64) : Option (Int32 × Mm) := if (lg_cmp l0 l2) < 0 then (some (0, M)) else (if 0 < (lg_cmp l0 l4) then (some (0, M)) else (some (1, M)))
def f_X12_isIn (M : Mm) (l0 : Int64) (l2 : Int64) (l4 : Int64) : Option (Int32 × Mm) := zc (g_X12_isIn M l0 l2 l4)
set_option maxHeartbeats 4000000 in
set_option maxRecDepth 100000 in
theorem t_X12_isIn_e {G : GG} {X : CX} {ans : Int32 × Mm} (he : EndI G X j_X12_isIn b_X12_isIn ans) {M : Mm} {l0 : Int64} {l2 : Int64} {l4 : Int64} (h : g_X12_isIn M l0 l2 l4 = some ans) : Wt G X j_X12_isIn b_X12_isIn 0 [(0, .long l0), (2, .long l2), (4, .long l4)] [] M 0 0 := by
  unfold g_X12_isIn at h
  refine wt_lload_n (pc := 0) 0 dX12_isIn_0 rfl ?_
  refine wt_lload_n (pc := 1) 1 dX12_isIn_1 rfl ?_
  refine wt_lcmp (pc := 2) dX12_isIn_2 ?_
  refine wt_if_lt (pc := 3) (tgt := 17) dX12_isIn_3 (by decide) (fun q => ?_) (fun q => ?_)
  · have h := ite_t q h
    refine wt_iconst (pc := 17) (v := 0) dX12_isIn_17 (by decide) ?_
    cases h
    exact he 18 _ _ _ dX12_isIn_18 (by decide) (by decide)
  · have h := ite_f q h
    refine wt_lload_n (pc := 6) 0 dX12_isIn_6 rfl ?_
    refine wt_lload (pc := 7) 2 dX12_isIn_7 rfl ?_
    refine wt_lcmp (pc := 9) dX12_isIn_9 ?_
    refine wt_if_gt (pc := 10) (tgt := 17) dX12_isIn_10 (by decide) (fun q => ?_) (fun q => ?_)
    · have h := ite_t q h
      refine wt_iconst (pc := 17) (v := 0) dX12_isIn_17 (by decide) ?_
      cases h
      exact he 18 _ _ _ dX12_isIn_18 (by decide) (by decide)
    · have h := ite_f q h
      refine wt_iconst (pc := 13) (v := 1) dX12_isIn_13 (by decide) ?_
      refine wt_goto (pc := 14) (tgt := 18) dX12_isIn_14 (by decide) ?_
      cases h
      exact he 18 _ _ _ dX12_isIn_18 (by decide) (by decide)
set_option maxHeartbeats 4000000 in
set_option maxRecDepth 100000 in
theorem c_X12_isIn {G : GG} {M : Mm} {l0 : Int64} {l2 : Int64} {l4 : Int64} {r : Int32 × Mm} (h : f_X12_isIn M l0 l2 l4 = some r) (l : Launch) : Ct l G j_X12_isIn b_X12_isIn [.long l0, .long l2, .long l4] M (some (.int r.1)) r.2 := cf_Z h (by decide +kernel) (by simp [lg_sl, rf_cat, cat_i, cat_l, j_X12_isIn]) rfl (by simp [lv_args, rf_cat, cat_i, cat_l]) (fun h X he => t_X12_isIn_e he h)
def f_X12_fraction_9 : Nat → Mm → Option Nat → Int64 → Int64 → Int64 → Int64 → Option (Int32 × Mm)
  | 0, _, _, _, _, _, _ => none
  | n + 1, M, l0, l1, l3, l5, l7 => if (lg_cmp l7 0) = 0 then (dvL l5 <| pfL M l0 12 2 (l1 / l5) fun M39 => dvL l5 <| pfL M39 l0 12 3 (l3 / l5) fun M47 => some (1, M47)) else (dvL l7 <| nmL (l5 - l5 / l7 * l7) fun x21 => f_X12_fraction_9 n M l0 l1 l3 l7 x21)
def g_X12_fraction (M : Mm) (l0 : Option Nat) (l1 : Int64) (l3 : Int64) : Option (Int32 × Mm) := nmL (abL l1) fun x4 => f_X12_fraction_9  fu M l0 l1 l3 x4 l3
def f_X12_fraction (M : Mm) (l0 : Option Nat) (l1 : Int64) (l3 : Int64) : Option (Int32 × Mm) := zc (g_X12_fraction M l0 l1 l3)
set_option maxHeartbeats 4000000 in
set_option maxRecDepth 100000 in
theorem t_X12_fraction_9 {G : GG} {X : CX} {ans : Int32 × Mm} (he : EndI G X j_X12_fraction b_X12_fraction ans) : ∀ (n : Nat) {M : Mm} {l0 : Option Nat} {l1 : Int64} {l3 : Int64} {l5 : Int64} {l7 : Int64}, f_X12_fraction_9 n M l0 l1 l3 l5 l7 = some ans → Wt G X j_X12_fraction b_X12_fraction 9 [(0, rf G.1 l0), (1, .long l1), (3, .long l3), (5, .long l5), (7, .long l7)] [] M 0 0 := by
  intro n
  induction n with
  | zero =>
    intro M l0 l1 l3 l5 l7 h
    rw [f_X12_fraction_9] at h
    cases h
  | succ n ih =>
    intro M l0 l1 l3 l5 l7 h
    rw [f_X12_fraction_9] at h
    refine wt_lload (pc := 9) 4 dX12_fraction_9 rfl ?_
    refine wt_lconst (pc := 11) (v := 0) dX12_fraction_11 (by decide) ?_
    refine wt_lcmp (pc := 12) dX12_fraction_12 ?_
    refine wt_if_eq (pc := 13) (tgt := 34) dX12_fraction_13 (by decide) (fun q => ?_) (fun q => ?_)
    · have h := ite_t q h
      refine wt_aload_n (pc := 34) 0 dX12_fraction_34 rfl ?_
      refine wt_lload_n (pc := 35) 1 dX12_fraction_35 rfl ?_
      refine wt_lload (pc := 36) 3 dX12_fraction_36 rfl ?_
      obtain ⟨qd, h⟩ := dvL_spec h
      refine wt_ldiv (pc := 38) dX12_fraction_38 qd ?_
      refine wt_putL (pc := 39) dX12_fraction_39 fl_X12_74 rfl rfl h (fun M39 h => ?_)
      refine wt_aload_n (pc := 42) 0 dX12_fraction_42 rfl ?_
      refine wt_lload_n (pc := 43) 2 dX12_fraction_43 rfl ?_
      refine wt_lload (pc := 44) 3 dX12_fraction_44 rfl ?_
      obtain ⟨qd, h⟩ := dvL_spec h
      refine wt_ldiv (pc := 46) dX12_fraction_46 qd ?_
      refine wt_putL (pc := 47) dX12_fraction_47 fl_X12_7 rfl rfl h (fun M47 h => ?_)
      refine wt_iconst (pc := 50) (v := 1) dX12_fraction_50 (by decide) ?_
      cases h
      exact he 51 _ _ _ dX12_fraction_51 (by decide) (by decide)
    · have h := ite_f q h
      refine wt_lload (pc := 16) 3 dX12_fraction_16 rfl ?_
      refine wt_lload (pc := 18) 4 dX12_fraction_18 rfl ?_
      obtain ⟨qd, h⟩ := dvL_spec h
      refine wt_lrem (pc := 20) dX12_fraction_20 qd ?_
      refine wt_nmL h (fun x21 h => ?_)
      refine wt_lstore (pc := 21) (i := 9) (ls' := [(9, .long x21), (0, rf G.1 l0), (1, .long l1), (3, .long l3), (5, .long l5), (7, .long l7)]) dX12_fraction_21 (by decide) rfl ?_
      refine wt_lload (pc := 23) 5 dX12_fraction_23 rfl ?_
      refine wt_lstore (pc := 25) (i := 5) (ls' := [(5, .long l7), (9, .long x21), (0, rf G.1 l0), (1, .long l1), (3, .long l3), (7, .long l7)]) dX12_fraction_25 (by decide) rfl ?_
      refine wt_lload (pc := 27) 1 dX12_fraction_27 rfl ?_
      refine wt_lstore (pc := 29) (i := 7) (ls' := [(7, .long x21), (5, .long l7), (9, .long x21), (0, rf G.1 l0), (1, .long l1), (3, .long l3)]) dX12_fraction_29 (by decide) rfl ?_
      refine wt_goto (pc := 31) (tgt := 9) dX12_fraction_31 (by decide) ?_
      refine wt_sub (ls' := [(0, rf G.1 l0), (1, .long l1), (3, .long l3), (5, .long l7), (7, .long x21)]) [3, 4, 5, 1, 0] rfl ?_
      exact ih h
set_option maxHeartbeats 4000000 in
set_option maxRecDepth 100000 in
theorem t_X12_fraction_e {G : GG} {X : CX} {ans : Int32 × Mm} (he : EndI G X j_X12_fraction b_X12_fraction ans) {M : Mm} {l0 : Option Nat} {l1 : Int64} {l3 : Int64} (h : g_X12_fraction M l0 l1 l3 = some ans) : Wt G X j_X12_fraction b_X12_fraction 0 [(0, rf G.1 l0), (1, .long l1), (3, .long l3)] [] M 0 0 := by
  unfold g_X12_fraction at h
  refine wt_lload_n (pc := 0) 1 dX12_fraction_0 rfl ?_
  refine wt_mabsL (pc := 1) dX12_fraction_1 bi_X12_77 mw_absL.1 mw_absL.2.1 mw_absL.2.2 (by decide) (by decide) (by decide) (by decide) ?_
  refine wt_nmL h (fun x4 h => ?_)
  refine wt_lstore (pc := 4) (i := 5) (ls' := [(5, .long x4), (0, rf G.1 l0), (1, .long l1), (3, .long l3)]) dX12_fraction_4 (by decide) rfl ?_
  refine wt_lload_n (pc := 6) 3 dX12_fraction_6 rfl ?_
  refine wt_lstore (pc := 7) (i := 7) (ls' := [(7, .long l3), (5, .long x4), (0, rf G.1 l0), (1, .long l1), (3, .long l3)]) dX12_fraction_7 (by decide) rfl ?_
  refine wt_sub (ls' := [(0, rf G.1 l0), (1, .long l1), (3, .long l3), (5, .long x4), (7, .long l3)]) [2, 3, 4, 1, 0] rfl ?_
  exact t_X12_fraction_9 he  fu h
set_option maxHeartbeats 4000000 in
set_option maxRecDepth 100000 in
theorem c_X12_fraction {G : GG} {M : Mm} {l0 : Option Nat} {l1 : Int64} {l3 : Int64} {r : Int32 × Mm} (h : f_X12_fraction M l0 l1 l3 = some r) (l : Launch) : Ct l G j_X12_fraction b_X12_fraction [rf G.1 l0, .long l1, .long l3] M (some (.int r.1)) r.2 := cf_Z h (by decide +kernel) (by simp [lg_sl, rf_cat, cat_i, cat_l, j_X12_fraction]) rfl (by simp [lv_args, rf_cat, cat_i, cat_l]) (fun h X he => t_X12_fraction_e he h)
def f_X12_cut (M : Mm) (l0 : Int32) (l1 : Int64) : Option (Int64 × Mm) := if l0 = 0 then (some ((Int32.toInt64 (Int8.toInt32 (Int32.toInt8 (Int64.toInt32 l1)))), M)) else (if l0 = 1 then (some ((Int32.toInt64 (Int16.toInt32 (Int32.toInt16 (Int64.toInt32 l1)))), M)) else (if l0 = 2 then (some ((Int32.toInt64 (Int64.toInt32 l1)), M)) else (some (l1, M))))
set_option maxHeartbeats 4000000 in
set_option maxRecDepth 100000 in
theorem t_X12_cut_e {G : GG} {X : CX} {ans : Int64 × Mm} (he : EndL G X j_X12_cut b_X12_cut ans) {M : Mm} {l0 : Int32} {l1 : Int64} (h : f_X12_cut M l0 l1 = some ans) : Wt G X j_X12_cut b_X12_cut 0 [(0, .int l0), (1, .long l1)] [] M 0 0 := by
  unfold f_X12_cut at h
  refine wt_iload_n (pc := 0) 0 dX12_cut_0 rfl ?_
  refine wt_if_ne (pc := 1) (tgt := 11) dX12_cut_1 (by decide) (fun q => ?_) (fun q => ?_)
  · have h := ite_f q h
    refine wt_iload_n (pc := 11) 0 dX12_cut_11 rfl ?_
    refine wt_iconst (pc := 12) (v := 1) dX12_cut_12 (by decide) ?_
    refine wt_icmp_ne (pc := 13) (tgt := 23) dX12_cut_13 (by decide) (fun q => ?_) (fun q => ?_)
    · have h := ite_f q h
      refine wt_iload_n (pc := 23) 0 dX12_cut_23 rfl ?_
      refine wt_iconst (pc := 24) (v := 2) dX12_cut_24 (by decide) ?_
      refine wt_icmp_ne (pc := 25) (tgt := 34) dX12_cut_25 (by decide) (fun q => ?_) (fun q => ?_)
      · have h := ite_f q h
        refine wt_lload_n (pc := 34) 1 dX12_cut_34 rfl ?_
        cases h
        exact he 35 _ _ _ dX12_cut_35 (by decide) (by decide)
      · have h := ite_t q h
        refine wt_lload_n (pc := 28) 1 dX12_cut_28 rfl ?_
        refine wt_l2i (pc := 29) dX12_cut_29 ?_
        refine wt_i2l (pc := 30) dX12_cut_30 ?_
        refine wt_goto (pc := 31) (tgt := 35) dX12_cut_31 (by decide) ?_
        cases h
        exact he 35 _ _ _ dX12_cut_35 (by decide) (by decide)
    · have h := ite_t q h
      refine wt_lload_n (pc := 16) 1 dX12_cut_16 rfl ?_
      refine wt_l2i (pc := 17) dX12_cut_17 ?_
      refine wt_i2s (pc := 18) dX12_cut_18 ?_
      refine wt_i2l (pc := 19) dX12_cut_19 ?_
      refine wt_goto (pc := 20) (tgt := 35) dX12_cut_20 (by decide) ?_
      cases h
      exact he 35 _ _ _ dX12_cut_35 (by decide) (by decide)
  · have h := ite_t q h
    refine wt_lload_n (pc := 4) 1 dX12_cut_4 rfl ?_
    refine wt_l2i (pc := 5) dX12_cut_5 ?_
    refine wt_i2b (pc := 6) dX12_cut_6 ?_
    refine wt_i2l (pc := 7) dX12_cut_7 ?_
    refine wt_goto (pc := 8) (tgt := 35) dX12_cut_8 (by decide) ?_
    cases h
    exact he 35 _ _ _ dX12_cut_35 (by decide) (by decide)
set_option maxHeartbeats 4000000 in
set_option maxRecDepth 100000 in
theorem c_X12_cut {G : GG} {M : Mm} {l0 : Int32} {l1 : Int64} {r : Int64 × Mm} (h : f_X12_cut M l0 l1 = some r) (l : Launch) : Ct l G j_X12_cut b_X12_cut [.int l0, .long l1] M (some (.long r.1)) r.2 := cf_L (by decide +kernel) (by simp [lg_sl, rf_cat, cat_i, cat_l, j_X12_cut]) rfl (by simp [lv_args, rf_cat, cat_i, cat_l]) (fun X he => t_X12_cut_e he h)
def f_X12_tray_28 (M : Mm) (l0 : Option Nat) : Option (Int32 × Mm) := ck M l0 12 <| bd (f_X12_no M l0 1) fun v30 M30 => some (v30, M30)
def f_X12_tray_74 : Nat → Mm → Option Nat → Int32 → Int32 → Int32 → Option (Int32 × Mm)
  | 0, _, _, _, _, _ => none
  | n + 1, M, l0, l1, l3, l4 => if l3 ≤ l4 then (some (1, M)) else (gfR M l0 12 6 fun v81 => asL M v81 22 ((60 * l1) + l4) 0 fun M92 => f_X12_tray_74 n M92 l0 l1 l3 (l4 + 1))
def g_X12_tray (M : Mm) (l0 : Option Nat) (l1 : Int32) (l2 : Int32) (l3 : Int32) : Option (Int32 × Mm) := pfI M l0 12 1 0 fun M2 => pfI M2 l0 12 0 0 fun M7 => if l1 < 0 then (f_X12_tray_28  M7 l0) else (if 4 ≤ l1 then (f_X12_tray_28  M7 l0) else (if l2 < 0 then (f_X12_tray_28  M7 l0) else (if l2 ≤ 3 then (if l3 ≤ 60 then (if 0 ≤ l3 then (gfR M7 l0 12 4 fun v58 => asI M7 v58 21 l1 l2 fun M63 => gfR M63 l0 12 5 fun v65 => asI M63 v65 21 l1 l3 fun M70 => f_X12_tray_74  fu M70 l0 l1 l3 0) else (ck M7 l0 12 <| bd (f_X12_no M7 l0 6) fun v53 M53 => some (v53, M53))) else (ck M7 l0 12 <| bd (f_X12_no M7 l0 5) fun v42 M42 => some (v42, M42))) else (f_X12_tray_28  M7 l0))))
def f_X12_tray (M : Mm) (l0 : Option Nat) (l1 : Int32) (l2 : Int32) (l3 : Int32) : Option (Int32 × Mm) := zc (g_X12_tray M l0 l1 l2 l3)
set_option maxHeartbeats 4000000 in
set_option maxRecDepth 100000 in
theorem t_X12_tray_28 {G : GG} {X : CX} {ans : Int32 × Mm} (he : EndI G X j_X12_tray b_X12_tray ans) {M : Mm} {l0 : Option Nat} (h : f_X12_tray_28 M l0 = some ans) : Wt G X j_X12_tray b_X12_tray 28 [(0, rf G.1 l0)] [] M 0 0 := by
  unfold f_X12_tray_28 at h
  refine wt_aload_n (pc := 28) 0 dX12_tray_28 rfl ?_
  refine wt_iconst (pc := 29) (v := 1) dX12_tray_29 (by decide) ?_
  refine wt_cVI (pc := 30) (J' := j_X12_no) (As := [.int 1]) (st := []) (B' := b_X12_no) (u' := 0) (w' := 0) dX12_tray_30 ml_X12_83 mv_X12_no (fun v9 M9 e9 => c_X12_no e9) rfl (by decide) rfl rfl (by decide) (by decide) (by decide) rfl h (fun v30 M30 h => ?_)
  cases h
  exact he 33 _ _ _ dX12_tray_33 (by decide) (by decide)
set_option maxHeartbeats 4000000 in
set_option maxRecDepth 100000 in
theorem t_X12_tray_74 {G : GG} {X : CX} {ans : Int32 × Mm} (he : EndI G X j_X12_tray b_X12_tray ans) : ∀ (n : Nat) {M : Mm} {l0 : Option Nat} {l1 : Int32} {l3 : Int32} {l4 : Int32}, f_X12_tray_74 n M l0 l1 l3 l4 = some ans → Wt G X j_X12_tray b_X12_tray 74 [(0, rf G.1 l0), (1, .int l1), (3, .int l3), (4, .int l4)] [] M 0 0 := by
  intro n
  induction n with
  | zero =>
    intro M l0 l1 l3 l4 h
    rw [f_X12_tray_74] at h
    cases h
  | succ n ih =>
    intro M l0 l1 l3 l4 h
    rw [f_X12_tray_74] at h
    refine wt_iload (pc := 74) 3 dX12_tray_74 rfl ?_
    refine wt_iload_n (pc := 76) 2 dX12_tray_76 rfl ?_
    refine wt_icmp_ge (pc := 77) (tgt := 99) dX12_tray_77 (by decide) (fun q => ?_) (fun q => ?_)
    · have h := ite_t q h
      refine wt_iconst (pc := 99) (v := 1) dX12_tray_99 (by decide) ?_
      cases h
      exact he 100 _ _ _ dX12_tray_100 (by decide) (by decide)
    · have h := ite_f q h
      refine wt_aload_n (pc := 80) 0 dX12_tray_80 rfl ?_
      refine wt_getR (pc := 81) dX12_tray_81 fl_X12_20 (fun _ _ _ => rfl) h (fun v81 h => ?_)
      refine wt_bipush (pc := 84) (v := 60) dX12_tray_84 (by decide) ?_
      refine wt_iload_n (pc := 86) 1 dX12_tray_86 rfl ?_
      refine wt_imul (pc := 87) dX12_tray_87 ?_
      refine wt_iload (pc := 88) 3 dX12_tray_88 rfl ?_
      refine wt_iadd (pc := 90) dX12_tray_90 ?_
      refine wt_lconst (pc := 91) (v := 0) dX12_tray_91 (by decide) ?_
      refine wt_lastore (pc := 92) (kd := 22) dX12_tray_92 rfl rfl h (fun M92 h => ?_)
      refine wt_iinc (pc := 93) (d := 1) (ls' := [(4, .int (l4 + 1)), (0, rf G.1 l0), (1, .int l1), (3, .int l3)]) 3 dX12_tray_93 rfl (by decide) (by decide) rfl ?_
      refine wt_goto (pc := 96) (tgt := 74) dX12_tray_96 (by decide) ?_
      refine wt_sub (ls' := [(0, rf G.1 l0), (1, .int l1), (3, .int l3), (4, .int (l4 + 1))]) [1, 2, 3, 0] rfl ?_
      exact ih h
set_option maxHeartbeats 4000000 in
set_option maxRecDepth 100000 in
theorem t_X12_tray_e {G : GG} {X : CX} {ans : Int32 × Mm} (he : EndI G X j_X12_tray b_X12_tray ans) {M : Mm} {l0 : Option Nat} {l1 : Int32} {l2 : Int32} {l3 : Int32} (h : g_X12_tray M l0 l1 l2 l3 = some ans) : Wt G X j_X12_tray b_X12_tray 0 [(0, rf G.1 l0), (1, .int l1), (2, .int l2), (3, .int l3)] [] M 0 0 := by
  unfold g_X12_tray at h
  refine wt_aload_n (pc := 0) 0 dX12_tray_0 rfl ?_
  refine wt_iconst (pc := 1) (v := 0) dX12_tray_1 (by decide) ?_
  refine wt_putI (pc := 2) dX12_tray_2 fl_X12_68 rfl rfl h (fun M2 h => ?_)
  refine wt_aload_n (pc := 5) 0 dX12_tray_5 rfl ?_
  refine wt_iconst (pc := 6) (v := 0) dX12_tray_6 (by decide) ?_
  refine wt_putI (pc := 7) dX12_tray_7 fl_X12_71 rfl rfl h (fun M7 h => ?_)
  refine wt_iload_n (pc := 10) 1 dX12_tray_10 rfl ?_
  refine wt_if_lt (pc := 11) (tgt := 28) dX12_tray_11 (by decide) (fun q => ?_) (fun q => ?_)
  · have h := ite_t q h
    refine wt_sub (ls' := [(0, rf G.1 l0)]) [0] rfl ?_
    exact t_X12_tray_28 he  h
  · have h := ite_f q h
    refine wt_iload_n (pc := 14) 1 dX12_tray_14 rfl ?_
    refine wt_iconst (pc := 15) (v := 4) dX12_tray_15 (by decide) ?_
    refine wt_icmp_ge (pc := 16) (tgt := 28) dX12_tray_16 (by decide) (fun q => ?_) (fun q => ?_)
    · have h := ite_t q h
      refine wt_sub (ls' := [(0, rf G.1 l0)]) [0] rfl ?_
      exact t_X12_tray_28 he  h
    · have h := ite_f q h
      refine wt_iload_n (pc := 19) 2 dX12_tray_19 rfl ?_
      refine wt_if_lt (pc := 20) (tgt := 28) dX12_tray_20 (by decide) (fun q => ?_) (fun q => ?_)
      · have h := ite_t q h
        refine wt_sub (ls' := [(0, rf G.1 l0)]) [0] rfl ?_
        exact t_X12_tray_28 he  h
      · have h := ite_f q h
        refine wt_iload_n (pc := 23) 2 dX12_tray_23 rfl ?_
        refine wt_iconst (pc := 24) (v := 3) dX12_tray_24 (by decide) ?_
        refine wt_icmp_le (pc := 25) (tgt := 34) dX12_tray_25 (by decide) (fun q => ?_) (fun q => ?_)
        · have h := ite_t q h
          refine wt_iload_n (pc := 34) 3 dX12_tray_34 rfl ?_
          refine wt_bipush (pc := 35) (v := 60) dX12_tray_35 (by decide) ?_
          refine wt_icmp_le (pc := 37) (tgt := 46) dX12_tray_37 (by decide) (fun q => ?_) (fun q => ?_)
          · have h := ite_t q h
            refine wt_iload_n (pc := 46) 3 dX12_tray_46 rfl ?_
            refine wt_if_ge (pc := 47) (tgt := 57) dX12_tray_47 (by decide) (fun q => ?_) (fun q => ?_)
            · have h := ite_t q h
              refine wt_aload_n (pc := 57) 0 dX12_tray_57 rfl ?_
              refine wt_getR (pc := 58) dX12_tray_58 fl_X12_13 (fun _ _ _ => rfl) h (fun v58 h => ?_)
              refine wt_iload_n (pc := 61) 1 dX12_tray_61 rfl ?_
              refine wt_iload_n (pc := 62) 2 dX12_tray_62 rfl ?_
              refine wt_iastore (pc := 63) (kd := 21) dX12_tray_63 rfl rfl h (fun M63 h => ?_)
              refine wt_aload_n (pc := 64) 0 dX12_tray_64 rfl ?_
              refine wt_getR (pc := 65) dX12_tray_65 fl_X12_17 (fun _ _ _ => rfl) h (fun v65 h => ?_)
              refine wt_iload_n (pc := 68) 1 dX12_tray_68 rfl ?_
              refine wt_iload_n (pc := 69) 3 dX12_tray_69 rfl ?_
              refine wt_iastore (pc := 70) (kd := 21) dX12_tray_70 rfl rfl h (fun M70 h => ?_)
              refine wt_iconst (pc := 71) (v := 0) dX12_tray_71 (by decide) ?_
              refine wt_istore (pc := 72) (i := 4) (ls' := [(4, .int 0), (0, rf G.1 l0), (1, .int l1), (2, .int l2), (3, .int l3)]) dX12_tray_72 (by decide) rfl ?_
              refine wt_sub (ls' := [(0, rf G.1 l0), (1, .int l1), (3, .int l3), (4, .int 0)]) [1, 2, 4, 0] rfl ?_
              exact t_X12_tray_74 he  fu h
            · have h := ite_f q h
              refine wt_aload_n (pc := 50) 0 dX12_tray_50 rfl ?_
              refine wt_bipush (pc := 51) (v := 6) dX12_tray_51 (by decide) ?_
              refine wt_cVI (pc := 53) (J' := j_X12_no) (As := [.int 6]) (st := []) (B' := b_X12_no) (u' := 0) (w' := 0) dX12_tray_53 ml_X12_83 mv_X12_no (fun v9 M9 e9 => c_X12_no e9) rfl (by decide) rfl rfl (by decide) (by decide) (by decide) rfl h (fun v53 M53 h => ?_)
              cases h
              exact he 56 _ _ _ dX12_tray_56 (by decide) (by decide)
          · have h := ite_f q h
            refine wt_aload_n (pc := 40) 0 dX12_tray_40 rfl ?_
            refine wt_iconst (pc := 41) (v := 5) dX12_tray_41 (by decide) ?_
            refine wt_cVI (pc := 42) (J' := j_X12_no) (As := [.int 5]) (st := []) (B' := b_X12_no) (u' := 0) (w' := 0) dX12_tray_42 ml_X12_83 mv_X12_no (fun v9 M9 e9 => c_X12_no e9) rfl (by decide) rfl rfl (by decide) (by decide) (by decide) rfl h (fun v42 M42 h => ?_)
            cases h
            exact he 45 _ _ _ dX12_tray_45 (by decide) (by decide)
        · have h := ite_f q h
          refine wt_sub (ls' := [(0, rf G.1 l0)]) [0] rfl ?_
          exact t_X12_tray_28 he  h
set_option maxHeartbeats 4000000 in
set_option maxRecDepth 100000 in
theorem c_X12_tray {G : GG} {M : Mm} {l0 : Option Nat} {l1 : Int32} {l2 : Int32} {l3 : Int32} {r : Int32 × Mm} (h : f_X12_tray M l0 l1 l2 l3 = some r) (l : Launch) : Ct l G j_X12_tray b_X12_tray [rf G.1 l0, .int l1, .int l2, .int l3] M (some (.int r.1)) r.2 := cf_Z h (by decide +kernel) (by simp [lg_sl, rf_cat, cat_i, cat_l, j_X12_tray]) rfl (by simp [lv_args, rf_cat, cat_i, cat_l]) (fun h X he => t_X12_tray_e he h)
def f_X12_trayed_9 (M : Mm)  : Option (Int32 × Mm) := some (1, M)
def f_X12_trayed (M : Mm) (l0 : Option Nat) (l1 : Int32) : Option (Int32 × Mm) := if l1 < 0 then (f_X12_trayed_9  M) else (if l1 < 4 then (gfR M l0 12 5 fun v14 => alI M v14 21 l1 fun v18 => if 0 ≤ v18 then (some (0, M)) else (some (3, M))) else (f_X12_trayed_9  M))
set_option maxHeartbeats 4000000 in
set_option maxRecDepth 100000 in
theorem t_X12_trayed_9 {G : GG} {X : CX} {ans : Int32 × Mm} (he : EndI G X j_X12_trayed b_X12_trayed ans) {M : Mm}  (h : f_X12_trayed_9 M = some ans) : Wt G X j_X12_trayed b_X12_trayed 9 [] [] M 0 0 := by
  unfold f_X12_trayed_9 at h
  refine wt_iconst (pc := 9) (v := 1) dX12_trayed_9 (by decide) ?_
  refine wt_goto (pc := 10) (tgt := 27) dX12_trayed_10 (by decide) ?_
  cases h
  exact he 27 _ _ _ dX12_trayed_27 (by decide) (by decide)
set_option maxHeartbeats 4000000 in
set_option maxRecDepth 100000 in
theorem t_X12_trayed_e {G : GG} {X : CX} {ans : Int32 × Mm} (he : EndI G X j_X12_trayed b_X12_trayed ans) {M : Mm} {l0 : Option Nat} {l1 : Int32} (h : f_X12_trayed M l0 l1 = some ans) : Wt G X j_X12_trayed b_X12_trayed 0 [(0, rf G.1 l0), (1, .int l1)] [] M 0 0 := by
  unfold f_X12_trayed at h
  refine wt_iload_n (pc := 0) 1 dX12_trayed_0 rfl ?_
  refine wt_if_lt (pc := 1) (tgt := 9) dX12_trayed_1 (by decide) (fun q => ?_) (fun q => ?_)
  · have h := ite_t q h
    refine wt_sub (ls' := []) [] rfl ?_
    exact t_X12_trayed_9 he  h
  · have h := ite_f q h
    refine wt_iload_n (pc := 4) 1 dX12_trayed_4 rfl ?_
    refine wt_iconst (pc := 5) (v := 4) dX12_trayed_5 (by decide) ?_
    refine wt_icmp_lt (pc := 6) (tgt := 13) dX12_trayed_6 (by decide) (fun q => ?_) (fun q => ?_)
    · have h := ite_t q h
      refine wt_aload_n (pc := 13) 0 dX12_trayed_13 rfl ?_
      refine wt_getR (pc := 14) dX12_trayed_14 fl_X12_17 (fun _ _ _ => rfl) h (fun v14 h => ?_)
      refine wt_iload_n (pc := 17) 1 dX12_trayed_17 rfl ?_
      refine wt_iaload (pc := 18) (kd := 21) dX12_trayed_18 rfl rfl h (fun v18 h => ?_)
      refine wt_if_ge (pc := 19) (tgt := 26) dX12_trayed_19 (by decide) (fun q => ?_) (fun q => ?_)
      · have h := ite_t q h
        refine wt_iconst (pc := 26) (v := 0) dX12_trayed_26 (by decide) ?_
        cases h
        exact he 27 _ _ _ dX12_trayed_27 (by decide) (by decide)
      · have h := ite_f q h
        refine wt_iconst (pc := 22) (v := 3) dX12_trayed_22 (by decide) ?_
        refine wt_goto (pc := 23) (tgt := 27) dX12_trayed_23 (by decide) ?_
        cases h
        exact he 27 _ _ _ dX12_trayed_27 (by decide) (by decide)
    · have h := ite_f q h
      refine wt_sub (ls' := []) [] rfl ?_
      exact t_X12_trayed_9 he  h
set_option maxHeartbeats 4000000 in
set_option maxRecDepth 100000 in
theorem c_X12_trayed {G : GG} {M : Mm} {l0 : Option Nat} {l1 : Int32} {r : Int32 × Mm} (h : f_X12_trayed M l0 l1 = some r) (l : Launch) : Ct l G j_X12_trayed b_X12_trayed [rf G.1 l0, .int l1] M (some (.int r.1)) r.2 := cf_I (by decide +kernel) (by simp [lg_sl, rf_cat, cat_i, cat_l, j_X12_trayed]) rfl (by simp [lv_args, rf_cat, cat_i, cat_l]) (fun X he => t_X12_trayed_e he h)
def f_X12_placed_28 (M : Mm)  : Option (Int32 × Mm) := some (4, M)
def f_X12_placed (M : Mm) (l0 : Option Nat) (l1 : Int32) (l2 : Int32) : Option (Int32 × Mm) := ck M l0 12 <| bd (f_X12_trayed M l0 l1) fun v2 M2 => if v2 ≤ 0 then (if l2 < 0 then (f_X12_placed_28  M2) else (gfR M2 l0 12 5 fun v20 => alI M2 v20 21 l1 fun v24 => if l2 < v24 then (some (0, M2)) else (f_X12_placed_28  M2))) else (some (v2, M2))
set_option maxHeartbeats 4000000 in
set_option maxRecDepth 100000 in
theorem t_X12_placed_28 {G : GG} {X : CX} {ans : Int32 × Mm} (he : EndI G X j_X12_placed b_X12_placed ans) {M : Mm}  (h : f_X12_placed_28 M = some ans) : Wt G X j_X12_placed b_X12_placed 28 [] [] M 0 0 := by
  unfold f_X12_placed_28 at h
  refine wt_iconst (pc := 28) (v := 4) dX12_placed_28 (by decide) ?_
  refine wt_goto (pc := 29) (tgt := 33) dX12_placed_29 (by decide) ?_
  cases h
  exact he 33 _ _ _ dX12_placed_33 (by decide) (by decide)
set_option maxHeartbeats 4000000 in
set_option maxRecDepth 100000 in
theorem t_X12_placed_e {G : GG} {X : CX} {ans : Int32 × Mm} (he : EndI G X j_X12_placed b_X12_placed ans) {M : Mm} {l0 : Option Nat} {l1 : Int32} {l2 : Int32} (h : f_X12_placed M l0 l1 l2 = some ans) : Wt G X j_X12_placed b_X12_placed 0 [(0, rf G.1 l0), (1, .int l1), (2, .int l2)] [] M 0 0 := by
  unfold f_X12_placed at h
  refine wt_aload_n (pc := 0) 0 dX12_placed_0 rfl ?_
  refine wt_iload_n (pc := 1) 1 dX12_placed_1 rfl ?_
  refine wt_cVI (pc := 2) (J' := j_X12_trayed) (As := [.int l1]) (st := []) (B' := b_X12_trayed) (u' := 0) (w' := 0) dX12_placed_2 ml_X12_87 mv_X12_trayed (fun v9 M9 e9 => c_X12_trayed e9) rfl (by decide) rfl rfl (by decide) (by decide) (by decide) rfl h (fun v2 M2 h => ?_)
  refine wt_istore_n (pc := 5) (i := 3) (ls' := [(3, .int v2), (0, rf G.1 l0), (1, .int l1), (2, .int l2)]) rfl dX12_placed_5 (by decide) rfl ?_
  refine wt_iload_n (pc := 6) 0 dX12_placed_6 rfl ?_
  refine wt_if_le (pc := 7) (tgt := 14) dX12_placed_7 (by decide) (fun q => ?_) (fun q => ?_)
  · have h := ite_t q h
    refine wt_iload_n (pc := 14) 3 dX12_placed_14 rfl ?_
    refine wt_if_lt (pc := 15) (tgt := 28) dX12_placed_15 (by decide) (fun q => ?_) (fun q => ?_)
    · have h := ite_t q h
      refine wt_sub (ls' := []) [] rfl ?_
      exact t_X12_placed_28 he  h
    · have h := ite_f q h
      refine wt_iload_n (pc := 18) 3 dX12_placed_18 rfl ?_
      refine wt_aload_n (pc := 19) 1 dX12_placed_19 rfl ?_
      refine wt_getR (pc := 20) dX12_placed_20 fl_X12_17 (fun _ _ _ => rfl) h (fun v20 h => ?_)
      refine wt_iload_n (pc := 23) 2 dX12_placed_23 rfl ?_
      refine wt_iaload (pc := 24) (kd := 21) dX12_placed_24 rfl rfl h (fun v24 h => ?_)
      refine wt_icmp_lt (pc := 25) (tgt := 32) dX12_placed_25 (by decide) (fun q => ?_) (fun q => ?_)
      · have h := ite_t q h
        refine wt_iconst (pc := 32) (v := 0) dX12_placed_32 (by decide) ?_
        cases h
        exact he 33 _ _ _ dX12_placed_33 (by decide) (by decide)
      · have h := ite_f q h
        refine wt_sub (ls' := []) [] rfl ?_
        exact t_X12_placed_28 he  h
  · have h := ite_f q h
    refine wt_iload_n (pc := 10) 0 dX12_placed_10 rfl ?_
    refine wt_goto (pc := 11) (tgt := 33) dX12_placed_11 (by decide) ?_
    cases h
    exact he 33 _ _ _ dX12_placed_33 (by decide) (by decide)
set_option maxHeartbeats 4000000 in
set_option maxRecDepth 100000 in
theorem c_X12_placed {G : GG} {M : Mm} {l0 : Option Nat} {l1 : Int32} {l2 : Int32} {r : Int32 × Mm} (h : f_X12_placed M l0 l1 l2 = some r) (l : Launch) : Ct l G j_X12_placed b_X12_placed [rf G.1 l0, .int l1, .int l2] M (some (.int r.1)) r.2 := cf_I (by decide +kernel) (by simp [lg_sl, rf_cat, cat_i, cat_l, j_X12_placed]) rfl (by simp [lv_args, rf_cat, cat_i, cat_l]) (fun X he => t_X12_placed_e he h)
def g_X12_write (M : Mm) (l0 : Option Nat) (l1 : Int32) (l2 : Int32) (l3 : Int64) : Option (Int32 × Mm) := pfI M l0 12 1 0 fun M2 => ck M2 l0 12 <| bd (f_X12_placed M2 l0 l1 l2) fun v9 M9 => pfI M9 l0 12 0 v9 fun M12 => gfI M12 l0 12 0 fun v16 => if v16 ≤ 0 then (gfR M12 l0 12 6 fun v25 => gfR M12 l0 12 4 fun v35 => alI M12 v35 21 l1 fun v39 => bd (f_X12_cut M12 v39 l3) fun v41 M41 => asL M41 v25 22 ((60 * l1) + l2) v41 fun M44 => some (1, M44)) else (some (0, M12))
def f_X12_write (M : Mm) (l0 : Option Nat) (l1 : Int32) (l2 : Int32) (l3 : Int64) : Option (Int32 × Mm) := zc (g_X12_write M l0 l1 l2 l3)
set_option maxHeartbeats 4000000 in
set_option maxRecDepth 100000 in
theorem t_X12_write_e {G : GG} {X : CX} {ans : Int32 × Mm} (he : EndI G X j_X12_write b_X12_write ans) {M : Mm} {l0 : Option Nat} {l1 : Int32} {l2 : Int32} {l3 : Int64} (h : g_X12_write M l0 l1 l2 l3 = some ans) : Wt G X j_X12_write b_X12_write 0 [(0, rf G.1 l0), (1, .int l1), (2, .int l2), (3, .long l3)] [] M 0 0 := by
  unfold g_X12_write at h
  refine wt_aload_n (pc := 0) 0 dX12_write_0 rfl ?_
  refine wt_iconst (pc := 1) (v := 0) dX12_write_1 (by decide) ?_
  refine wt_putI (pc := 2) dX12_write_2 fl_X12_68 rfl rfl h (fun M2 h => ?_)
  refine wt_aload_n (pc := 5) 0 dX12_write_5 rfl ?_
  refine wt_aload_n (pc := 6) 0 dX12_write_6 rfl ?_
  refine wt_iload_n (pc := 7) 1 dX12_write_7 rfl ?_
  refine wt_iload_n (pc := 8) 2 dX12_write_8 rfl ?_
  refine wt_cVI (pc := 9) (J' := j_X12_placed) (As := [.int l1, .int l2]) (st := [rf G.1 l0]) (B' := b_X12_placed) (u' := 0) (w' := 0) dX12_write_9 ml_X12_91 mv_X12_placed (fun v9 M9 e9 => c_X12_placed e9) rfl (by decide) rfl rfl (by decide) (by decide) (by simp [rf_cat, cat_i, cat_l, cat_r]) rfl h (fun v9 M9 h => ?_)
  refine wt_putI (pc := 12) dX12_write_12 fl_X12_71 rfl rfl h (fun M12 h => ?_)
  refine wt_aload_n (pc := 15) 0 dX12_write_15 rfl ?_
  refine wt_getI (pc := 16) dX12_write_16 fl_X12_71 (fun _ _ _ => rfl) h (fun v16 h => ?_)
  refine wt_if_le (pc := 19) (tgt := 24) dX12_write_19 (by decide) (fun q => ?_) (fun q => ?_)
  · have h := ite_t q h
    refine wt_aload_n (pc := 24) 0 dX12_write_24 rfl ?_
    refine wt_getR (pc := 25) dX12_write_25 fl_X12_20 (fun _ _ _ => rfl) h (fun v25 h => ?_)
    refine wt_bipush (pc := 28) (v := 60) dX12_write_28 (by decide) ?_
    refine wt_iload_n (pc := 30) 1 dX12_write_30 rfl ?_
    refine wt_imul (pc := 31) dX12_write_31 ?_
    refine wt_iload_n (pc := 32) 2 dX12_write_32 rfl ?_
    refine wt_iadd (pc := 33) dX12_write_33 ?_
    refine wt_aload_n (pc := 34) 0 dX12_write_34 rfl ?_
    refine wt_getR (pc := 35) dX12_write_35 fl_X12_13 (fun _ _ _ => rfl) h (fun v35 h => ?_)
    refine wt_iload_n (pc := 38) 1 dX12_write_38 rfl ?_
    refine wt_iaload (pc := 39) (kd := 21) dX12_write_39 rfl rfl h (fun v39 h => ?_)
    refine wt_lload_n (pc := 40) 3 dX12_write_40 rfl ?_
    refine wt_cSL (pc := 41) (J' := j_X12_cut) (As := [.int v39, .long l3]) (st := [.int ((60 * l1) + l2), rf G.1 v25]) (B' := b_X12_cut) (u' := 0) (w' := 0) dX12_write_41 ml_X12_95 ms_X12_cut (fun v9 M9 e9 => c_X12_cut e9) rfl (by decide) rfl rfl (by decide) (by decide) (by simp [rf_cat, cat_i, cat_l, cat_r]) rfl h (fun v41 M41 h => ?_)
    refine wt_lastore (pc := 44) (kd := 22) dX12_write_44 rfl rfl h (fun M44 h => ?_)
    refine wt_iconst (pc := 45) (v := 1) dX12_write_45 (by decide) ?_
    cases h
    exact he 46 _ _ _ dX12_write_46 (by decide) (by decide)
  · have h := ite_f q h
    refine wt_iconst (pc := 22) (v := 0) dX12_write_22 (by decide) ?_
    cases h
    exact he 23 _ _ _ dX12_write_23 (by decide) (by decide)
set_option maxHeartbeats 4000000 in
set_option maxRecDepth 100000 in
theorem c_X12_write {G : GG} {M : Mm} {l0 : Option Nat} {l1 : Int32} {l2 : Int32} {l3 : Int64} {r : Int32 × Mm} (h : f_X12_write M l0 l1 l2 l3 = some r) (l : Launch) : Ct l G j_X12_write b_X12_write [rf G.1 l0, .int l1, .int l2, .long l3] M (some (.int r.1)) r.2 := cf_Z h (by decide +kernel) (by simp [lg_sl, rf_cat, cat_i, cat_l, j_X12_write]) rfl (by simp [lv_args, rf_cat, cat_i, cat_l]) (fun h X he => t_X12_write_e he h)
def f_X12_read (M : Mm) (l0 : Option Nat) (l1 : Int32) (l2 : Int32) : Option (Int64 × Mm) := pfI M l0 12 1 0 fun M2 => ck M2 l0 12 <| bd (f_X12_placed M2 l0 l1 l2) fun v9 M9 => pfI M9 l0 12 0 v9 fun M12 => gfI M12 l0 12 0 fun v16 => if v16 ≤ 0 then (gfR M12 l0 12 6 fun v29 => alL M12 v29 22 ((60 * l1) + l2) fun v38 => some (v38, M12)) else (some ((-1), M12))
set_option maxHeartbeats 4000000 in
set_option maxRecDepth 100000 in
theorem t_X12_read_e {G : GG} {X : CX} {ans : Int64 × Mm} (he : EndL G X j_X12_read b_X12_read ans) {M : Mm} {l0 : Option Nat} {l1 : Int32} {l2 : Int32} (h : f_X12_read M l0 l1 l2 = some ans) : Wt G X j_X12_read b_X12_read 0 [(0, rf G.1 l0), (1, .int l1), (2, .int l2)] [] M 0 0 := by
  unfold f_X12_read at h
  refine wt_aload_n (pc := 0) 0 dX12_read_0 rfl ?_
  refine wt_iconst (pc := 1) (v := 0) dX12_read_1 (by decide) ?_
  refine wt_putI (pc := 2) dX12_read_2 fl_X12_68 rfl rfl h (fun M2 h => ?_)
  refine wt_aload_n (pc := 5) 0 dX12_read_5 rfl ?_
  refine wt_aload_n (pc := 6) 0 dX12_read_6 rfl ?_
  refine wt_iload_n (pc := 7) 1 dX12_read_7 rfl ?_
  refine wt_iload_n (pc := 8) 2 dX12_read_8 rfl ?_
  refine wt_cVI (pc := 9) (J' := j_X12_placed) (As := [.int l1, .int l2]) (st := [rf G.1 l0]) (B' := b_X12_placed) (u' := 0) (w' := 0) dX12_read_9 ml_X12_91 mv_X12_placed (fun v9 M9 e9 => c_X12_placed e9) rfl (by decide) rfl rfl (by decide) (by decide) (by simp [rf_cat, cat_i, cat_l, cat_r]) rfl h (fun v9 M9 h => ?_)
  refine wt_putI (pc := 12) dX12_read_12 fl_X12_71 rfl rfl h (fun M12 h => ?_)
  refine wt_aload_n (pc := 15) 0 dX12_read_15 rfl ?_
  refine wt_getI (pc := 16) dX12_read_16 fl_X12_71 (fun _ _ _ => rfl) h (fun v16 h => ?_)
  refine wt_if_le (pc := 19) (tgt := 28) dX12_read_19 (by decide) (fun q => ?_) (fun q => ?_)
  · have h := ite_t q h
    refine wt_aload_n (pc := 28) 0 dX12_read_28 rfl ?_
    refine wt_getR (pc := 29) dX12_read_29 fl_X12_20 (fun _ _ _ => rfl) h (fun v29 h => ?_)
    refine wt_bipush (pc := 32) (v := 60) dX12_read_32 (by decide) ?_
    refine wt_iload_n (pc := 34) 1 dX12_read_34 rfl ?_
    refine wt_imul (pc := 35) dX12_read_35 ?_
    refine wt_iload_n (pc := 36) 2 dX12_read_36 rfl ?_
    refine wt_iadd (pc := 37) dX12_read_37 ?_
    refine wt_laload (pc := 38) (kd := 22) dX12_read_38 rfl rfl h (fun v38 h => ?_)
    cases h
    exact he 39 _ _ _ dX12_read_39 (by decide) (by decide)
  · have h := ite_f q h
    refine wt_ldc2 (pc := 22) dX12_read_22 kc_X12_99 ?_
    refine wt_goto (pc := 25) (tgt := 39) dX12_read_25 (by decide) ?_
    cases h
    exact he 39 _ _ _ dX12_read_39 (by decide) (by decide)
set_option maxHeartbeats 4000000 in
set_option maxRecDepth 100000 in
theorem c_X12_read {G : GG} {M : Mm} {l0 : Option Nat} {l1 : Int32} {l2 : Int32} {r : Int64 × Mm} (h : f_X12_read M l0 l1 l2 = some r) (l : Launch) : Ct l G j_X12_read b_X12_read [rf G.1 l0, .int l1, .int l2] M (some (.long r.1)) r.2 := cf_L (by decide +kernel) (by simp [lg_sl, rf_cat, cat_i, cat_l, j_X12_read]) rfl (by simp [lv_args, rf_cat, cat_i, cat_l]) (fun X he => t_X12_read_e he h)
def f_X12_pour_28 (M : Mm) (l0 : Option Nat) : Option (Int32 × Mm) := ck M l0 12 <| bd (f_X12_no M l0 1) fun v30 M30 => some (v30, M30)
def f_X12_pour_52 (M : Mm) (l0 : Option Nat) : Option (Int32 × Mm) := ck M l0 12 <| bd (f_X12_no M l0 3) fun v54 M54 => some (v54, M54)
def f_X12_pour_136 (M : Mm) (l0 : Option Nat) : Option (Int32 × Mm) := ck M l0 12 <| bd (f_X12_no M l0 4) fun v138 M138 => some (v138, M138)
def f_X12_pour_182 (k158 : Mm → Option Nat → Int32 → Int32 → Int32 → Int32 → Int32 → Int32 → Int32 → Option (Int32 × Mm)) (M : Mm) (l0 : Option Nat) (l1 : Int32) (l2 : Int32) (l3 : Int32) (l4 : Int32) (l5 : Int32) (l6 : Int32) (l7 : Int32) (s0 : Int32) : Option (Int32 × Mm) := gfR M l0 12 6 fun v185 => gfR M l0 12 6 fun v199 => alL M v199 22 (((60 * l1) + l2) + s0) fun v211 => asL M v185 22 (((60 * l3) + l4) + s0) v211 fun M212 => k158 M212 l0 l1 l2 l3 l4 l5 l6 (l7 + 1)
def f_X12_pour_158 : Nat → Mm → Option Nat → Int32 → Int32 → Int32 → Int32 → Int32 → Int32 → Int32 → Option (Int32 × Mm)
  | 0, _, _, _, _, _, _, _, _, _ => none
  | n + 1, M, l0, l1, l2, l3, l4, l5, l6, l7 => if l5 ≤ l7 then (some (1, M)) else (if l6 = 0 then (f_X12_pour_182 (f_X12_pour_158 n) M l0 l1 l2 l3 l4 l5 l6 l7 l7) else (f_X12_pour_182 (f_X12_pour_158 n) M l0 l1 l2 l3 l4 l5 l6 l7 ((l5 - 1) - l7)))
def f_X12_pour_153 (M : Mm) (l0 : Option Nat) (l1 : Int32) (l2 : Int32) (l3 : Int32) (l4 : Int32) (l5 : Int32) (s0 : Int32) : Option (Int32 × Mm) := f_X12_pour_158  fu M l0 l1 l2 l3 l4 l5 s0 0
def g_X12_pour (M : Mm) (l0 : Option Nat) (l1 : Int32) (l2 : Int32) (l3 : Int32) (l4 : Int32) (l5 : Int32) : Option (Int32 × Mm) := pfI M l0 12 1 0 fun M2 => pfI M2 l0 12 0 0 fun M7 => if l1 < 0 then (f_X12_pour_28  M7 l0) else (if 4 ≤ l1 then (f_X12_pour_28  M7 l0) else (if l3 < 0 then (f_X12_pour_28  M7 l0) else (if l3 < 4 then (gfR M7 l0 12 5 fun v35 => alI M7 v35 21 l1 fun v39 => if v39 < 0 then (f_X12_pour_52  M7 l0) else (gfR M7 l0 12 5 fun v44 => alI M7 v44 21 l3 fun v48 => if 0 ≤ v48 then (gfR M7 l0 12 4 fun v59 => alI M7 v59 21 l1 fun v63 => gfR M7 l0 12 4 fun v65 => alI M7 v65 21 l3 fun v69 => if v63 = v69 then (if 0 ≤ l5 then (if l2 < 0 then (f_X12_pour_136  M7 l0) else (if l4 < 0 then (f_X12_pour_136  M7 l0) else (gfR M7 l0 12 5 fun v108 => alI M7 v108 21 l1 fun v112 => if 0 < (lg_cmp ((Int32.toInt64 l2) + (Int32.toInt64 l5)) (Int32.toInt64 v112)) then (f_X12_pour_136  M7 l0) else (gfR M7 l0 12 5 fun v126 => alI M7 v126 21 l3 fun v130 => if (lg_cmp ((Int32.toInt64 l4) + (Int32.toInt64 l5)) (Int32.toInt64 v130)) ≤ 0 then (if l4 ≤ l2 then (f_X12_pour_153  M7 l0 l1 l2 l3 l4 l5 0) else (f_X12_pour_153  M7 l0 l1 l2 l3 l4 l5 1)) else (f_X12_pour_136  M7 l0))))) else (ck M7 l0 12 <| bd (f_X12_no M7 l0 6) fun v88 M88 => some (v88, M88))) else (ck M7 l0 12 <| bd (f_X12_no M7 l0 11) fun v76 M76 => some (v76, M76))) else (f_X12_pour_52  M7 l0))) else (f_X12_pour_28  M7 l0))))
def f_X12_pour (M : Mm) (l0 : Option Nat) (l1 : Int32) (l2 : Int32) (l3 : Int32) (l4 : Int32) (l5 : Int32) : Option (Int32 × Mm) := zc (g_X12_pour M l0 l1 l2 l3 l4 l5)
set_option maxHeartbeats 4000000 in
set_option maxRecDepth 100000 in
theorem t_X12_pour_28 {G : GG} {X : CX} {ans : Int32 × Mm} (he : EndI G X j_X12_pour b_X12_pour ans) {M : Mm} {l0 : Option Nat} (h : f_X12_pour_28 M l0 = some ans) : Wt G X j_X12_pour b_X12_pour 28 [(0, rf G.1 l0)] [] M 0 0 := by
  unfold f_X12_pour_28 at h
  refine wt_aload_n (pc := 28) 0 dX12_pour_28 rfl ?_
  refine wt_iconst (pc := 29) (v := 1) dX12_pour_29 (by decide) ?_
  refine wt_cVI (pc := 30) (J' := j_X12_no) (As := [.int 1]) (st := []) (B' := b_X12_no) (u' := 0) (w' := 0) dX12_pour_30 ml_X12_83 mv_X12_no (fun v9 M9 e9 => c_X12_no e9) rfl (by decide) rfl rfl (by decide) (by decide) (by decide) rfl h (fun v30 M30 h => ?_)
  cases h
  exact he 33 _ _ _ dX12_pour_33 (by decide) (by decide)
set_option maxHeartbeats 4000000 in
set_option maxRecDepth 100000 in
theorem t_X12_pour_52 {G : GG} {X : CX} {ans : Int32 × Mm} (he : EndI G X j_X12_pour b_X12_pour ans) {M : Mm} {l0 : Option Nat} (h : f_X12_pour_52 M l0 = some ans) : Wt G X j_X12_pour b_X12_pour 52 [(0, rf G.1 l0)] [] M 0 0 := by
  unfold f_X12_pour_52 at h
  refine wt_aload_n (pc := 52) 0 dX12_pour_52 rfl ?_
  refine wt_iconst (pc := 53) (v := 3) dX12_pour_53 (by decide) ?_
  refine wt_cVI (pc := 54) (J' := j_X12_no) (As := [.int 3]) (st := []) (B' := b_X12_no) (u' := 0) (w' := 0) dX12_pour_54 ml_X12_83 mv_X12_no (fun v9 M9 e9 => c_X12_no e9) rfl (by decide) rfl rfl (by decide) (by decide) (by decide) rfl h (fun v54 M54 h => ?_)
  cases h
  exact he 57 _ _ _ dX12_pour_57 (by decide) (by decide)
set_option maxHeartbeats 4000000 in
set_option maxRecDepth 100000 in
theorem t_X12_pour_136 {G : GG} {X : CX} {ans : Int32 × Mm} (he : EndI G X j_X12_pour b_X12_pour ans) {M : Mm} {l0 : Option Nat} (h : f_X12_pour_136 M l0 = some ans) : Wt G X j_X12_pour b_X12_pour 136 [(0, rf G.1 l0)] [] M 0 0 := by
  unfold f_X12_pour_136 at h
  refine wt_aload_n (pc := 136) 0 dX12_pour_136 rfl ?_
  refine wt_iconst (pc := 137) (v := 4) dX12_pour_137 (by decide) ?_
  refine wt_cVI (pc := 138) (J' := j_X12_no) (As := [.int 4]) (st := []) (B' := b_X12_no) (u' := 0) (w' := 0) dX12_pour_138 ml_X12_83 mv_X12_no (fun v9 M9 e9 => c_X12_no e9) rfl (by decide) rfl rfl (by decide) (by decide) (by decide) rfl h (fun v138 M138 h => ?_)
  cases h
  exact he 141 _ _ _ dX12_pour_141 (by decide) (by decide)
set_option maxHeartbeats 4000000 in
set_option maxRecDepth 100000 in
theorem t_X12_pour_182 {G : GG} {X : CX} {ans : Int32 × Mm} (he : EndI G X j_X12_pour b_X12_pour ans) {k158 : Mm → Option Nat → Int32 → Int32 → Int32 → Int32 → Int32 → Int32 → Int32 → Option (Int32 × Mm)} (hk158 : ∀ (M : Mm) (a0 : Option Nat) (a1 : Int32) (a2 : Int32) (a3 : Int32) (a4 : Int32) (a5 : Int32) (a6 : Int32) (a7 : Int32), k158 M a0 a1 a2 a3 a4 a5 a6 a7 = some ans → Wt G X j_X12_pour b_X12_pour 158 [(0, rf G.1 a0), (1, .int a1), (2, .int a2), (3, .int a3), (4, .int a4), (5, .int a5), (6, .int a6), (7, .int a7)] [] M 0 0) {M : Mm} {l0 : Option Nat} {l1 : Int32} {l2 : Int32} {l3 : Int32} {l4 : Int32} {l5 : Int32} {l6 : Int32} {l7 : Int32} {s0 : Int32} (h : f_X12_pour_182 k158 M l0 l1 l2 l3 l4 l5 l6 l7 s0 = some ans) : Wt G X j_X12_pour b_X12_pour 182 [(0, rf G.1 l0), (1, .int l1), (2, .int l2), (3, .int l3), (4, .int l4), (5, .int l5), (6, .int l6), (7, .int l7)] [.int s0] M 0 0 := by
  unfold f_X12_pour_182 at h
  refine wt_istore (pc := 182) (i := 8) (ls' := [(8, .int s0), (0, rf G.1 l0), (1, .int l1), (2, .int l2), (3, .int l3), (4, .int l4), (5, .int l5), (6, .int l6), (7, .int l7)]) dX12_pour_182 (by decide) rfl ?_
  refine wt_aload_n (pc := 184) 1 dX12_pour_184 rfl ?_
  refine wt_getR (pc := 185) dX12_pour_185 fl_X12_20 (fun _ _ _ => rfl) h (fun v185 h => ?_)
  refine wt_bipush (pc := 188) (v := 60) dX12_pour_188 (by decide) ?_
  refine wt_iload_n (pc := 190) 4 dX12_pour_190 rfl ?_
  refine wt_imul (pc := 191) dX12_pour_191 ?_
  refine wt_iload (pc := 192) 5 dX12_pour_192 rfl ?_
  refine wt_iadd (pc := 194) dX12_pour_194 ?_
  refine wt_iload (pc := 195) 0 dX12_pour_195 rfl ?_
  refine wt_iadd (pc := 197) dX12_pour_197 ?_
  refine wt_aload_n (pc := 198) 1 dX12_pour_198 rfl ?_
  refine wt_getR (pc := 199) dX12_pour_199 fl_X12_20 (fun _ _ _ => rfl) h (fun v199 h => ?_)
  refine wt_bipush (pc := 202) (v := 60) dX12_pour_202 (by decide) ?_
  refine wt_iload_n (pc := 204) 2 dX12_pour_204 rfl ?_
  refine wt_imul (pc := 205) dX12_pour_205 ?_
  refine wt_iload_n (pc := 206) 3 dX12_pour_206 rfl ?_
  refine wt_iadd (pc := 207) dX12_pour_207 ?_
  refine wt_iload (pc := 208) 0 dX12_pour_208 rfl ?_
  refine wt_iadd (pc := 210) dX12_pour_210 ?_
  refine wt_laload (pc := 211) (kd := 22) dX12_pour_211 rfl rfl h (fun v211 h => ?_)
  refine wt_lastore (pc := 212) (kd := 22) dX12_pour_212 rfl rfl h (fun M212 h => ?_)
  refine wt_iinc (pc := 213) (d := 1) (ls' := [(7, .int (l7 + 1)), (8, .int s0), (0, rf G.1 l0), (1, .int l1), (2, .int l2), (3, .int l3), (4, .int l4), (5, .int l5), (6, .int l6)]) 8 dX12_pour_213 rfl (by decide) (by decide) rfl ?_
  refine wt_goto (pc := 216) (tgt := 158) dX12_pour_216 (by decide) ?_
  refine wt_sub (ls' := [(0, rf G.1 l0), (1, .int l1), (2, .int l2), (3, .int l3), (4, .int l4), (5, .int l5), (6, .int l6), (7, .int (l7 + 1))]) [2, 3, 4, 5, 6, 7, 8, 0] rfl ?_
  exact hk158 _ _ _ _ _ _ _ _ _ h
set_option maxHeartbeats 4000000 in
set_option maxRecDepth 100000 in
theorem t_X12_pour_158 {G : GG} {X : CX} {ans : Int32 × Mm} (he : EndI G X j_X12_pour b_X12_pour ans) : ∀ (n : Nat) {M : Mm} {l0 : Option Nat} {l1 : Int32} {l2 : Int32} {l3 : Int32} {l4 : Int32} {l5 : Int32} {l6 : Int32} {l7 : Int32}, f_X12_pour_158 n M l0 l1 l2 l3 l4 l5 l6 l7 = some ans → Wt G X j_X12_pour b_X12_pour 158 [(0, rf G.1 l0), (1, .int l1), (2, .int l2), (3, .int l3), (4, .int l4), (5, .int l5), (6, .int l6), (7, .int l7)] [] M 0 0 := by
  intro n
  induction n with
  | zero =>
    intro M l0 l1 l2 l3 l4 l5 l6 l7 h
    rw [f_X12_pour_158] at h
    cases h
  | succ n ih =>
    intro M l0 l1 l2 l3 l4 l5 l6 l7 h
    rw [f_X12_pour_158] at h
    refine wt_iload (pc := 158) 7 dX12_pour_158 rfl ?_
    refine wt_iload (pc := 160) 5 dX12_pour_160 rfl ?_
    refine wt_icmp_ge (pc := 162) (tgt := 219) dX12_pour_162 (by decide) (fun q => ?_) (fun q => ?_)
    · have h := ite_t q h
      refine wt_iconst (pc := 219) (v := 1) dX12_pour_219 (by decide) ?_
      cases h
      exact he 220 _ _ _ dX12_pour_220 (by decide) (by decide)
    · have h := ite_f q h
      refine wt_iload (pc := 165) 6 dX12_pour_165 rfl ?_
      refine wt_if_eq (pc := 167) (tgt := 180) dX12_pour_167 (by decide) (fun q => ?_) (fun q => ?_)
      · have h := ite_t q h
        refine wt_iload (pc := 180) 7 dX12_pour_180 rfl ?_
        exact t_X12_pour_182 he (fun _ _ _ _ _ _ _ _ _ h => ih h) h
      · have h := ite_f q h
        refine wt_iload (pc := 170) 5 dX12_pour_170 rfl ?_
        refine wt_iconst (pc := 172) (v := 1) dX12_pour_172 (by decide) ?_
        refine wt_isub (pc := 173) dX12_pour_173 ?_
        refine wt_iload (pc := 174) 7 dX12_pour_174 rfl ?_
        refine wt_isub (pc := 176) dX12_pour_176 ?_
        refine wt_goto (pc := 177) (tgt := 182) dX12_pour_177 (by decide) ?_
        exact t_X12_pour_182 he (fun _ _ _ _ _ _ _ _ _ h => ih h) h
set_option maxHeartbeats 4000000 in
set_option maxRecDepth 100000 in
theorem t_X12_pour_153 {G : GG} {X : CX} {ans : Int32 × Mm} (he : EndI G X j_X12_pour b_X12_pour ans) {M : Mm} {l0 : Option Nat} {l1 : Int32} {l2 : Int32} {l3 : Int32} {l4 : Int32} {l5 : Int32} {s0 : Int32} (h : f_X12_pour_153 M l0 l1 l2 l3 l4 l5 s0 = some ans) : Wt G X j_X12_pour b_X12_pour 153 [(0, rf G.1 l0), (1, .int l1), (2, .int l2), (3, .int l3), (4, .int l4), (5, .int l5)] [.int s0] M 0 0 := by
  unfold f_X12_pour_153 at h
  refine wt_istore (pc := 153) (i := 6) (ls' := [(6, .int s0), (0, rf G.1 l0), (1, .int l1), (2, .int l2), (3, .int l3), (4, .int l4), (5, .int l5)]) dX12_pour_153 (by decide) rfl ?_
  refine wt_iconst (pc := 155) (v := 0) dX12_pour_155 (by decide) ?_
  refine wt_istore (pc := 156) (i := 7) (ls' := [(7, .int 0), (6, .int s0), (0, rf G.1 l0), (1, .int l1), (2, .int l2), (3, .int l3), (4, .int l4), (5, .int l5)]) dX12_pour_156 (by decide) rfl ?_
  refine wt_sub (ls' := [(0, rf G.1 l0), (1, .int l1), (2, .int l2), (3, .int l3), (4, .int l4), (5, .int l5), (6, .int s0), (7, .int 0)]) [2, 3, 4, 5, 6, 7, 1, 0] rfl ?_
  exact t_X12_pour_158 he  fu h
set_option maxHeartbeats 4000000 in
set_option maxRecDepth 100000 in
theorem t_X12_pour_e {G : GG} {X : CX} {ans : Int32 × Mm} (he : EndI G X j_X12_pour b_X12_pour ans) {M : Mm} {l0 : Option Nat} {l1 : Int32} {l2 : Int32} {l3 : Int32} {l4 : Int32} {l5 : Int32} (h : g_X12_pour M l0 l1 l2 l3 l4 l5 = some ans) : Wt G X j_X12_pour b_X12_pour 0 [(0, rf G.1 l0), (1, .int l1), (2, .int l2), (3, .int l3), (4, .int l4), (5, .int l5)] [] M 0 0 := by
  unfold g_X12_pour at h
  refine wt_aload_n (pc := 0) 0 dX12_pour_0 rfl ?_
  refine wt_iconst (pc := 1) (v := 0) dX12_pour_1 (by decide) ?_
  refine wt_putI (pc := 2) dX12_pour_2 fl_X12_68 rfl rfl h (fun M2 h => ?_)
  refine wt_aload_n (pc := 5) 0 dX12_pour_5 rfl ?_
  refine wt_iconst (pc := 6) (v := 0) dX12_pour_6 (by decide) ?_
  refine wt_putI (pc := 7) dX12_pour_7 fl_X12_71 rfl rfl h (fun M7 h => ?_)
  refine wt_iload_n (pc := 10) 1 dX12_pour_10 rfl ?_
  refine wt_if_lt (pc := 11) (tgt := 28) dX12_pour_11 (by decide) (fun q => ?_) (fun q => ?_)
  · have h := ite_t q h
    refine wt_sub (ls' := [(0, rf G.1 l0)]) [0] rfl ?_
    exact t_X12_pour_28 he  h
  · have h := ite_f q h
    refine wt_iload_n (pc := 14) 1 dX12_pour_14 rfl ?_
    refine wt_iconst (pc := 15) (v := 4) dX12_pour_15 (by decide) ?_
    refine wt_icmp_ge (pc := 16) (tgt := 28) dX12_pour_16 (by decide) (fun q => ?_) (fun q => ?_)
    · have h := ite_t q h
      refine wt_sub (ls' := [(0, rf G.1 l0)]) [0] rfl ?_
      exact t_X12_pour_28 he  h
    · have h := ite_f q h
      refine wt_iload_n (pc := 19) 3 dX12_pour_19 rfl ?_
      refine wt_if_lt (pc := 20) (tgt := 28) dX12_pour_20 (by decide) (fun q => ?_) (fun q => ?_)
      · have h := ite_t q h
        refine wt_sub (ls' := [(0, rf G.1 l0)]) [0] rfl ?_
        exact t_X12_pour_28 he  h
      · have h := ite_f q h
        refine wt_iload_n (pc := 23) 3 dX12_pour_23 rfl ?_
        refine wt_iconst (pc := 24) (v := 4) dX12_pour_24 (by decide) ?_
        refine wt_icmp_lt (pc := 25) (tgt := 34) dX12_pour_25 (by decide) (fun q => ?_) (fun q => ?_)
        · have h := ite_t q h
          refine wt_aload_n (pc := 34) 0 dX12_pour_34 rfl ?_
          refine wt_getR (pc := 35) dX12_pour_35 fl_X12_17 (fun _ _ _ => rfl) h (fun v35 h => ?_)
          refine wt_iload_n (pc := 38) 1 dX12_pour_38 rfl ?_
          refine wt_iaload (pc := 39) (kd := 21) dX12_pour_39 rfl rfl h (fun v39 h => ?_)
          refine wt_if_lt (pc := 40) (tgt := 52) dX12_pour_40 (by decide) (fun q => ?_) (fun q => ?_)
          · have h := ite_t q h
            refine wt_sub (ls' := [(0, rf G.1 l0)]) [0] rfl ?_
            exact t_X12_pour_52 he  h
          · have h := ite_f q h
            refine wt_aload_n (pc := 43) 0 dX12_pour_43 rfl ?_
            refine wt_getR (pc := 44) dX12_pour_44 fl_X12_17 (fun _ _ _ => rfl) h (fun v44 h => ?_)
            refine wt_iload_n (pc := 47) 3 dX12_pour_47 rfl ?_
            refine wt_iaload (pc := 48) (kd := 21) dX12_pour_48 rfl rfl h (fun v48 h => ?_)
            refine wt_if_ge (pc := 49) (tgt := 58) dX12_pour_49 (by decide) (fun q => ?_) (fun q => ?_)
            · have h := ite_t q h
              refine wt_aload_n (pc := 58) 0 dX12_pour_58 rfl ?_
              refine wt_getR (pc := 59) dX12_pour_59 fl_X12_13 (fun _ _ _ => rfl) h (fun v59 h => ?_)
              refine wt_iload_n (pc := 62) 1 dX12_pour_62 rfl ?_
              refine wt_iaload (pc := 63) (kd := 21) dX12_pour_63 rfl rfl h (fun v63 h => ?_)
              refine wt_aload_n (pc := 64) 0 dX12_pour_64 rfl ?_
              refine wt_getR (pc := 65) dX12_pour_65 fl_X12_13 (fun _ _ _ => rfl) h (fun v65 h => ?_)
              refine wt_iload_n (pc := 68) 3 dX12_pour_68 rfl ?_
              refine wt_iaload (pc := 69) (kd := 21) dX12_pour_69 rfl rfl h (fun v69 h => ?_)
              refine wt_icmp_eq (pc := 70) (tgt := 80) dX12_pour_70 (by decide) (fun q => ?_) (fun q => ?_)
              · have h := ite_t q h
                refine wt_iload (pc := 80) 5 dX12_pour_80 rfl ?_
                refine wt_if_ge (pc := 82) (tgt := 92) dX12_pour_82 (by decide) (fun q => ?_) (fun q => ?_)
                · have h := ite_t q h
                  refine wt_iload_n (pc := 92) 2 dX12_pour_92 rfl ?_
                  refine wt_if_lt (pc := 93) (tgt := 136) dX12_pour_93 (by decide) (fun q => ?_) (fun q => ?_)
                  · have h := ite_t q h
                    refine wt_sub (ls' := [(0, rf G.1 l0)]) [0] rfl ?_
                    exact t_X12_pour_136 he  h
                  · have h := ite_f q h
                    refine wt_iload (pc := 96) 4 dX12_pour_96 rfl ?_
                    refine wt_if_lt (pc := 98) (tgt := 136) dX12_pour_98 (by decide) (fun q => ?_) (fun q => ?_)
                    · have h := ite_t q h
                      refine wt_sub (ls' := [(0, rf G.1 l0)]) [0] rfl ?_
                      exact t_X12_pour_136 he  h
                    · have h := ite_f q h
                      refine wt_iload_n (pc := 101) 2 dX12_pour_101 rfl ?_
                      refine wt_i2l (pc := 102) dX12_pour_102 ?_
                      refine wt_iload (pc := 103) 5 dX12_pour_103 rfl ?_
                      refine wt_i2l (pc := 105) dX12_pour_105 ?_
                      refine wt_ladd (pc := 106) dX12_pour_106 ?_
                      refine wt_aload_n (pc := 107) 0 dX12_pour_107 rfl ?_
                      refine wt_getR (pc := 108) dX12_pour_108 fl_X12_17 (fun _ _ _ => rfl) h (fun v108 h => ?_)
                      refine wt_iload_n (pc := 111) 1 dX12_pour_111 rfl ?_
                      refine wt_iaload (pc := 112) (kd := 21) dX12_pour_112 rfl rfl h (fun v112 h => ?_)
                      refine wt_i2l (pc := 113) dX12_pour_113 ?_
                      refine wt_lcmp (pc := 114) dX12_pour_114 ?_
                      refine wt_if_gt (pc := 115) (tgt := 136) dX12_pour_115 (by decide) (fun q => ?_) (fun q => ?_)
                      · have h := ite_t q h
                        refine wt_sub (ls' := [(0, rf G.1 l0)]) [0] rfl ?_
                        exact t_X12_pour_136 he  h
                      · have h := ite_f q h
                        refine wt_iload (pc := 118) 4 dX12_pour_118 rfl ?_
                        refine wt_i2l (pc := 120) dX12_pour_120 ?_
                        refine wt_iload (pc := 121) 5 dX12_pour_121 rfl ?_
                        refine wt_i2l (pc := 123) dX12_pour_123 ?_
                        refine wt_ladd (pc := 124) dX12_pour_124 ?_
                        refine wt_aload_n (pc := 125) 0 dX12_pour_125 rfl ?_
                        refine wt_getR (pc := 126) dX12_pour_126 fl_X12_17 (fun _ _ _ => rfl) h (fun v126 h => ?_)
                        refine wt_iload_n (pc := 129) 3 dX12_pour_129 rfl ?_
                        refine wt_iaload (pc := 130) (kd := 21) dX12_pour_130 rfl rfl h (fun v130 h => ?_)
                        refine wt_i2l (pc := 131) dX12_pour_131 ?_
                        refine wt_lcmp (pc := 132) dX12_pour_132 ?_
                        refine wt_if_le (pc := 133) (tgt := 142) dX12_pour_133 (by decide) (fun q => ?_) (fun q => ?_)
                        · have h := ite_t q h
                          refine wt_iload_n (pc := 142) 2 dX12_pour_142 rfl ?_
                          refine wt_iload (pc := 143) 4 dX12_pour_143 rfl ?_
                          refine wt_icmp_ge (pc := 145) (tgt := 152) dX12_pour_145 (by decide) (fun q => ?_) (fun q => ?_)
                          · have h := ite_t q h
                            refine wt_iconst (pc := 152) (v := 0) dX12_pour_152 (by decide) ?_
                            exact t_X12_pour_153 he  h
                          · have h := ite_f q h
                            refine wt_iconst (pc := 148) (v := 1) dX12_pour_148 (by decide) ?_
                            refine wt_goto (pc := 149) (tgt := 153) dX12_pour_149 (by decide) ?_
                            exact t_X12_pour_153 he  h
                        · have h := ite_f q h
                          refine wt_sub (ls' := [(0, rf G.1 l0)]) [0] rfl ?_
                          exact t_X12_pour_136 he  h
                · have h := ite_f q h
                  refine wt_aload_n (pc := 85) 0 dX12_pour_85 rfl ?_
                  refine wt_bipush (pc := 86) (v := 6) dX12_pour_86 (by decide) ?_
                  refine wt_cVI (pc := 88) (J' := j_X12_no) (As := [.int 6]) (st := []) (B' := b_X12_no) (u' := 0) (w' := 0) dX12_pour_88 ml_X12_83 mv_X12_no (fun v9 M9 e9 => c_X12_no e9) rfl (by decide) rfl rfl (by decide) (by decide) (by decide) rfl h (fun v88 M88 h => ?_)
                  cases h
                  exact he 91 _ _ _ dX12_pour_91 (by decide) (by decide)
              · have h := ite_f q h
                refine wt_aload_n (pc := 73) 0 dX12_pour_73 rfl ?_
                refine wt_bipush (pc := 74) (v := 11) dX12_pour_74 (by decide) ?_
                refine wt_cVI (pc := 76) (J' := j_X12_no) (As := [.int 11]) (st := []) (B' := b_X12_no) (u' := 0) (w' := 0) dX12_pour_76 ml_X12_83 mv_X12_no (fun v9 M9 e9 => c_X12_no e9) rfl (by decide) rfl rfl (by decide) (by decide) (by decide) rfl h (fun v76 M76 h => ?_)
                cases h
                exact he 79 _ _ _ dX12_pour_79 (by decide) (by decide)
            · have h := ite_f q h
              refine wt_sub (ls' := [(0, rf G.1 l0)]) [0] rfl ?_
              exact t_X12_pour_52 he  h
        · have h := ite_f q h
          refine wt_sub (ls' := [(0, rf G.1 l0)]) [0] rfl ?_
          exact t_X12_pour_28 he  h
set_option maxHeartbeats 4000000 in
set_option maxRecDepth 100000 in
theorem c_X12_pour {G : GG} {M : Mm} {l0 : Option Nat} {l1 : Int32} {l2 : Int32} {l3 : Int32} {l4 : Int32} {l5 : Int32} {r : Int32 × Mm} (h : f_X12_pour M l0 l1 l2 l3 l4 l5 = some r) (l : Launch) : Ct l G j_X12_pour b_X12_pour [rf G.1 l0, .int l1, .int l2, .int l3, .int l4, .int l5] M (some (.int r.1)) r.2 := cf_Z h (by decide +kernel) (by simp [lg_sl, rf_cat, cat_i, cat_l, j_X12_pour]) rfl (by simp [lv_args, rf_cat, cat_i, cat_l]) (fun h X he => t_X12_pour_e he h)
def f_X12_numberOf (M : Mm) (l0 : Option Nat) (l1 : Int32) (l2 : Int32) : Option (Int64 × Mm) := gfR M l0 12 6 fun v1 => alL M v1 22 ((60 * l1) + l2) fun v10 => some (v10, M)
set_option maxHeartbeats 4000000 in
set_option maxRecDepth 100000 in
theorem t_X12_numberOf_e {G : GG} {X : CX} {ans : Int64 × Mm} (he : EndL G X j_X12_numberOf b_X12_numberOf ans) {M : Mm} {l0 : Option Nat} {l1 : Int32} {l2 : Int32} (h : f_X12_numberOf M l0 l1 l2 = some ans) : Wt G X j_X12_numberOf b_X12_numberOf 0 [(0, rf G.1 l0), (1, .int l1), (2, .int l2)] [] M 0 0 := by
  unfold f_X12_numberOf at h
  refine wt_aload_n (pc := 0) 0 dX12_numberOf_0 rfl ?_
  refine wt_getR (pc := 1) dX12_numberOf_1 fl_X12_20 (fun _ _ _ => rfl) h (fun v1 h => ?_)
  refine wt_bipush (pc := 4) (v := 60) dX12_numberOf_4 (by decide) ?_
  refine wt_iload_n (pc := 6) 1 dX12_numberOf_6 rfl ?_
  refine wt_imul (pc := 7) dX12_numberOf_7 ?_
  refine wt_iload_n (pc := 8) 2 dX12_numberOf_8 rfl ?_
  refine wt_iadd (pc := 9) dX12_numberOf_9 ?_
  refine wt_laload (pc := 10) (kd := 22) dX12_numberOf_10 rfl rfl h (fun v10 h => ?_)
  cases h
  exact he 11 _ _ _ dX12_numberOf_11 (by decide) (by decide)
set_option maxHeartbeats 4000000 in
set_option maxRecDepth 100000 in
theorem c_X12_numberOf {G : GG} {M : Mm} {l0 : Option Nat} {l1 : Int32} {l2 : Int32} {r : Int64 × Mm} (h : f_X12_numberOf M l0 l1 l2 = some r) (l : Launch) : Ct l G j_X12_numberOf b_X12_numberOf [rf G.1 l0, .int l1, .int l2] M (some (.long r.1)) r.2 := cf_L (by decide +kernel) (by simp [lg_sl, rf_cat, cat_i, cat_l, j_X12_numberOf]) rfl (by simp [lv_args, rf_cat, cat_i, cat_l]) (fun X he => t_X12_numberOf_e he h)
def g_X12_isTray (M : Mm) (l0 : Option Nat) (l1 : Int32) : Option (Int32 × Mm) := bd (f_X12_isIn M (Int32.toInt64 l1) 0 3) fun v6 M6 => some (v6, M6)
def f_X12_isTray (M : Mm) (l0 : Option Nat) (l1 : Int32) : Option (Int32 × Mm) := zc (g_X12_isTray M l0 l1)
set_option maxHeartbeats 4000000 in
set_option maxRecDepth 100000 in
theorem t_X12_isTray_e {G : GG} {X : CX} {ans : Int32 × Mm} (he : EndI G X j_X12_isTray b_X12_isTray ans) {M : Mm} {l0 : Option Nat} {l1 : Int32} (h : g_X12_isTray M l0 l1 = some ans) : Wt G X j_X12_isTray b_X12_isTray 0 [(0, rf G.1 l0), (1, .int l1)] [] M 0 0 := by
  unfold g_X12_isTray at h
  refine wt_iload_n (pc := 0) 1 dX12_isTray_0 rfl ?_
  refine wt_i2l (pc := 1) dX12_isTray_1 ?_
  refine wt_lconst (pc := 2) (v := 0) dX12_isTray_2 (by decide) ?_
  refine wt_ldc2 (pc := 3) dX12_isTray_3 kc_X12_101 ?_
  refine wt_cSI (pc := 6) (J' := j_X12_isIn) (As := [.long (Int32.toInt64 l1), .long 0, .long 3]) (st := []) (B' := b_X12_isIn) (u' := 0) (w' := 0) dX12_isTray_6 ml_X12_103 ms_X12_isIn (fun v9 M9 e9 => c_X12_isIn e9) rfl (by decide) rfl rfl (by decide) (by decide) (by decide) rfl h (fun v6 M6 h => ?_)
  cases h
  exact he 9 _ _ _ dX12_isTray_9 (by decide) (by decide)
set_option maxHeartbeats 4000000 in
set_option maxRecDepth 100000 in
theorem c_X12_isTray {G : GG} {M : Mm} {l0 : Option Nat} {l1 : Int32} {r : Int32 × Mm} (h : f_X12_isTray M l0 l1 = some r) (l : Launch) : Ct l G j_X12_isTray b_X12_isTray [rf G.1 l0, .int l1] M (some (.int r.1)) r.2 := cf_Z h (by decide +kernel) (by simp [lg_sl, rf_cat, cat_i, cat_l, j_X12_isTray]) rfl (by simp [lv_args, rf_cat, cat_i, cat_l]) (fun h X he => t_X12_isTray_e he h)
def g_X12_has (M : Mm) (l0 : Int32) (l1 : Int32) : Option (Int32 × Mm) := if ((l0 >>> (l1 &&& 31)) &&& 1) = 1 then (some (1, M)) else (some (0, M))
def f_X12_has (M : Mm) (l0 : Int32) (l1 : Int32) : Option (Int32 × Mm) := zc (g_X12_has M l0 l1)
set_option maxHeartbeats 4000000 in
set_option maxRecDepth 100000 in
theorem t_X12_has_e {G : GG} {X : CX} {ans : Int32 × Mm} (he : EndI G X j_X12_has b_X12_has ans) {M : Mm} {l0 : Int32} {l1 : Int32} (h : g_X12_has M l0 l1 = some ans) : Wt G X j_X12_has b_X12_has 0 [(0, .int l0), (1, .int l1)] [] M 0 0 := by
  unfold g_X12_has at h
  refine wt_iload_n (pc := 0) 0 dX12_has_0 rfl ?_
  refine wt_iload_n (pc := 1) 1 dX12_has_1 rfl ?_
  refine wt_ishr (pc := 2) dX12_has_2 ?_
  refine wt_iconst (pc := 3) (v := 1) dX12_has_3 (by decide) ?_
  refine wt_iand (pc := 4) dX12_has_4 ?_
  refine wt_iconst (pc := 5) (v := 1) dX12_has_5 (by decide) ?_
  refine wt_icmp_ne (pc := 6) (tgt := 13) dX12_has_6 (by decide) (fun q => ?_) (fun q => ?_)
  · have h := ite_f q h
    refine wt_iconst (pc := 13) (v := 0) dX12_has_13 (by decide) ?_
    cases h
    exact he 14 _ _ _ dX12_has_14 (by decide) (by decide)
  · have h := ite_t q h
    refine wt_iconst (pc := 9) (v := 1) dX12_has_9 (by decide) ?_
    refine wt_goto (pc := 10) (tgt := 14) dX12_has_10 (by decide) ?_
    cases h
    exact he 14 _ _ _ dX12_has_14 (by decide) (by decide)
set_option maxHeartbeats 4000000 in
set_option maxRecDepth 100000 in
theorem c_X12_has {G : GG} {M : Mm} {l0 : Int32} {l1 : Int32} {r : Int32 × Mm} (h : f_X12_has M l0 l1 = some r) (l : Launch) : Ct l G j_X12_has b_X12_has [.int l0, .int l1] M (some (.int r.1)) r.2 := cf_Z h (by decide +kernel) (by simp [lg_sl, rf_cat, cat_i, cat_l, j_X12_has]) rfl (by simp [lv_args, rf_cat, cat_i, cat_l]) (fun h X he => t_X12_has_e he h)
def f_X12_sizeOf_24 (k4 : Mm → Int32 → Int32 → Int32 → Option (Int32 × Mm)) (M : Mm) (l0 : Int32) (l2 : Int32) (s0 : Int32) (s1 : Int32) : Option (Int32 × Mm) := nmI (s0 + s1) fun x25 => k4 M l0 x25 (l2 + 1)
def f_X12_sizeOf_4 : Nat → Mm → Int32 → Int32 → Int32 → Option (Int32 × Mm)
  | 0, _, _, _, _ => none
  | n + 1, M, l0, l1, l2 => if 8 ≤ l2 then (some (l1, M)) else (bd (f_X12_has M l0 l2) fun v13 M13 => if v13 = 0 then (f_X12_sizeOf_24 (f_X12_sizeOf_4 n) M13 l0 l2 l1 0) else (f_X12_sizeOf_24 (f_X12_sizeOf_4 n) M13 l0 l2 l1 1))
def f_X12_sizeOf (M : Mm) (l0 : Int32) : Option (Int32 × Mm) := f_X12_sizeOf_4  fu M l0 0 0
set_option maxHeartbeats 4000000 in
set_option maxRecDepth 100000 in
theorem t_X12_sizeOf_24 {G : GG} {X : CX} {ans : Int32 × Mm} (he : EndI G X j_X12_sizeOf b_X12_sizeOf ans) {k4 : Mm → Int32 → Int32 → Int32 → Option (Int32 × Mm)} (hk4 : ∀ (M : Mm) (a0 : Int32) (a1 : Int32) (a2 : Int32), k4 M a0 a1 a2 = some ans → Wt G X j_X12_sizeOf b_X12_sizeOf 4 [(0, .int a0), (1, .int a1), (2, .int a2)] [] M 0 0) {M : Mm} {l0 : Int32} {l2 : Int32} {s0 : Int32} {s1 : Int32} (h : f_X12_sizeOf_24 k4 M l0 l2 s0 s1 = some ans) : Wt G X j_X12_sizeOf b_X12_sizeOf 24 [(0, .int l0), (2, .int l2)] [.int s1, .int s0] M 0 0 := by
  unfold f_X12_sizeOf_24 at h
  refine wt_iadd (pc := 24) dX12_sizeOf_24 ?_
  refine wt_nmI h (fun x25 h => ?_)
  refine wt_istore_n (pc := 25) (i := 1) (ls' := [(1, .int x25), (0, .int l0), (2, .int l2)]) rfl dX12_sizeOf_25 (by decide) rfl ?_
  refine wt_iinc (pc := 26) (d := 1) (ls' := [(2, .int (l2 + 1)), (1, .int x25), (0, .int l0)]) 2 dX12_sizeOf_26 rfl (by decide) (by decide) rfl ?_
  refine wt_goto (pc := 29) (tgt := 4) dX12_sizeOf_29 (by decide) ?_
  refine wt_sub (ls' := [(0, .int l0), (1, .int x25), (2, .int (l2 + 1))]) [2, 1, 0] rfl ?_
  exact hk4 _ _ _ _ h
set_option maxHeartbeats 4000000 in
set_option maxRecDepth 100000 in
theorem t_X12_sizeOf_4 {G : GG} {X : CX} {ans : Int32 × Mm} (he : EndI G X j_X12_sizeOf b_X12_sizeOf ans) : ∀ (n : Nat) {M : Mm} {l0 : Int32} {l1 : Int32} {l2 : Int32}, f_X12_sizeOf_4 n M l0 l1 l2 = some ans → Wt G X j_X12_sizeOf b_X12_sizeOf 4 [(0, .int l0), (1, .int l1), (2, .int l2)] [] M 0 0 := by
  intro n
  induction n with
  | zero =>
    intro M l0 l1 l2 h
    rw [f_X12_sizeOf_4] at h
    cases h
  | succ n ih =>
    intro M l0 l1 l2 h
    rw [f_X12_sizeOf_4] at h
    refine wt_iload_n (pc := 4) 2 dX12_sizeOf_4 rfl ?_
    refine wt_bipush (pc := 5) (v := 8) dX12_sizeOf_5 (by decide) ?_
    refine wt_icmp_ge (pc := 7) (tgt := 32) dX12_sizeOf_7 (by decide) (fun q => ?_) (fun q => ?_)
    · have h := ite_t q h
      refine wt_iload_n (pc := 32) 1 dX12_sizeOf_32 rfl ?_
      cases h
      exact he 33 _ _ _ dX12_sizeOf_33 (by decide) (by decide)
    · have h := ite_f q h
      refine wt_iload_n (pc := 10) 1 dX12_sizeOf_10 rfl ?_
      refine wt_iload_n (pc := 11) 0 dX12_sizeOf_11 rfl ?_
      refine wt_iload_n (pc := 12) 2 dX12_sizeOf_12 rfl ?_
      refine wt_cSI (pc := 13) (J' := j_X12_has) (As := [.int l0, .int l2]) (st := [.int l1]) (B' := b_X12_has) (u' := 0) (w' := 0) dX12_sizeOf_13 ml_X12_107 ms_X12_has (fun v9 M9 e9 => c_X12_has e9) rfl (by decide) rfl rfl (by decide) (by decide) (by simp [rf_cat, cat_i, cat_l, cat_r]) rfl h (fun v13 M13 h => ?_)
      refine wt_if_eq (pc := 16) (tgt := 23) dX12_sizeOf_16 (by decide) (fun q => ?_) (fun q => ?_)
      · have h := ite_t q h
        refine wt_iconst (pc := 23) (v := 0) dX12_sizeOf_23 (by decide) ?_
        refine wt_sub (ls' := [(0, .int l0), (2, .int l2)]) [0, 2] rfl ?_
        exact t_X12_sizeOf_24 he (fun _ _ _ _ h => ih h) h
      · have h := ite_f q h
        refine wt_iconst (pc := 19) (v := 1) dX12_sizeOf_19 (by decide) ?_
        refine wt_goto (pc := 20) (tgt := 24) dX12_sizeOf_20 (by decide) ?_
        refine wt_sub (ls' := [(0, .int l0), (2, .int l2)]) [0, 2] rfl ?_
        exact t_X12_sizeOf_24 he (fun _ _ _ _ h => ih h) h
set_option maxHeartbeats 4000000 in
set_option maxRecDepth 100000 in
theorem t_X12_sizeOf_e {G : GG} {X : CX} {ans : Int32 × Mm} (he : EndI G X j_X12_sizeOf b_X12_sizeOf ans) {M : Mm} {l0 : Int32} (h : f_X12_sizeOf M l0 = some ans) : Wt G X j_X12_sizeOf b_X12_sizeOf 0 [(0, .int l0)] [] M 0 0 := by
  unfold f_X12_sizeOf at h
  refine wt_iconst (pc := 0) (v := 0) dX12_sizeOf_0 (by decide) ?_
  refine wt_istore_n (pc := 1) (i := 1) (ls' := [(1, .int 0), (0, .int l0)]) rfl dX12_sizeOf_1 (by decide) rfl ?_
  refine wt_iconst (pc := 2) (v := 0) dX12_sizeOf_2 (by decide) ?_
  refine wt_istore_n (pc := 3) (i := 2) (ls' := [(2, .int 0), (1, .int 0), (0, .int l0)]) rfl dX12_sizeOf_3 (by decide) rfl ?_
  refine wt_sub (ls' := [(0, .int l0), (1, .int 0), (2, .int 0)]) [2, 1, 0] rfl ?_
  exact t_X12_sizeOf_4 he  fu h
set_option maxHeartbeats 4000000 in
set_option maxRecDepth 100000 in
theorem c_X12_sizeOf {G : GG} {M : Mm} {l0 : Int32} {r : Int32 × Mm} (h : f_X12_sizeOf M l0 = some r) (l : Launch) : Ct l G j_X12_sizeOf b_X12_sizeOf [.int l0] M (some (.int r.1)) r.2 := cf_I (by decide +kernel) (by simp [lg_sl, rf_cat, cat_i, cat_l, j_X12_sizeOf]) rfl (by simp [lv_args, rf_cat, cat_i, cat_l]) (fun X he => t_X12_sizeOf_e he h)
def f_X12_look2 (M : Mm) (l0 : Option Nat) (l1 : Int32) : Option (Int32 × Mm) := gfI M l0 12 9 fun v2 => if v2 ≤ l1 then (some (0, M)) else (gfR M l0 12 7 fun v9 => alI M v9 20 l1 fun v13 => some ((v13 &&& 255), M))
set_option maxHeartbeats 4000000 in
set_option maxRecDepth 100000 in
theorem t_X12_look2_e {G : GG} {X : CX} {ans : Int32 × Mm} (he : EndI G X j_X12_look2 b_X12_look2 ans) {M : Mm} {l0 : Option Nat} {l1 : Int32} (h : f_X12_look2 M l0 l1 = some ans) : Wt G X j_X12_look2 b_X12_look2 0 [(0, rf G.1 l0), (1, .int l1)] [] M 0 0 := by
  unfold f_X12_look2 at h
  refine wt_iload_n (pc := 0) 1 dX12_look2_0 rfl ?_
  refine wt_aload_n (pc := 1) 0 dX12_look2_1 rfl ?_
  refine wt_getI (pc := 2) dX12_look2_2 fl_X12_111 (fun _ _ _ => rfl) h (fun v2 h => ?_)
  refine wt_icmp_ge (pc := 5) (tgt := 21) dX12_look2_5 (by decide) (fun q => ?_) (fun q => ?_)
  · have h := ite_t q h
    refine wt_iconst (pc := 21) (v := 0) dX12_look2_21 (by decide) ?_
    cases h
    exact he 22 _ _ _ dX12_look2_22 (by decide) (by decide)
  · have h := ite_f q h
    refine wt_aload_n (pc := 8) 0 dX12_look2_8 rfl ?_
    refine wt_getR (pc := 9) dX12_look2_9 fl_X12_24 (fun _ _ _ => rfl) h (fun v9 h => ?_)
    refine wt_iload_n (pc := 12) 1 dX12_look2_12 rfl ?_
    refine wt_baload (pc := 13) (kd := 20) dX12_look2_13 rfl rfl h (fun v13 h => ?_)
    refine wt_sipush (pc := 14) (v := 255) dX12_look2_14 (by decide) ?_
    refine wt_iand (pc := 17) dX12_look2_17 ?_
    refine wt_goto (pc := 18) (tgt := 22) dX12_look2_18 (by decide) ?_
    cases h
    exact he 22 _ _ _ dX12_look2_22 (by decide) (by decide)
set_option maxHeartbeats 4000000 in
set_option maxRecDepth 100000 in
theorem c_X12_look2 {G : GG} {M : Mm} {l0 : Option Nat} {l1 : Int32} {r : Int32 × Mm} (h : f_X12_look2 M l0 l1 = some r) (l : Launch) : Ct l G j_X12_look2 b_X12_look2 [rf G.1 l0, .int l1] M (some (.int r.1)) r.2 := cf_I (by decide +kernel) (by simp [lg_sl, rf_cat, cat_i, cat_l, j_X12_look2]) rfl (by simp [lv_args, rf_cat, cat_i, cat_l]) (fun X he => t_X12_look2_e he h)
def g_X12_isLetter (M : Mm) (l0 : Int32) : Option (Int32 × Mm) := if l0 < 97 then (some (0, M)) else (if 122 < l0 then (some (0, M)) else (some (1, M)))
def f_X12_isLetter (M : Mm) (l0 : Int32) : Option (Int32 × Mm) := zc (g_X12_isLetter M l0)
set_option maxHeartbeats 4000000 in
set_option maxRecDepth 100000 in
theorem t_X12_isLetter_e {G : GG} {X : CX} {ans : Int32 × Mm} (he : EndI G X j_X12_isLetter b_X12_isLetter ans) {M : Mm} {l0 : Int32} (h : g_X12_isLetter M l0 = some ans) : Wt G X j_X12_isLetter b_X12_isLetter 0 [(0, .int l0)] [] M 0 0 := by
  unfold g_X12_isLetter at h
  refine wt_iload_n (pc := 0) 0 dX12_isLetter_0 rfl ?_
  refine wt_bipush (pc := 1) (v := 97) dX12_isLetter_1 (by decide) ?_
  refine wt_icmp_lt (pc := 3) (tgt := 16) dX12_isLetter_3 (by decide) (fun q => ?_) (fun q => ?_)
  · have h := ite_t q h
    refine wt_iconst (pc := 16) (v := 0) dX12_isLetter_16 (by decide) ?_
    cases h
    exact he 17 _ _ _ dX12_isLetter_17 (by decide) (by decide)
  · have h := ite_f q h
    refine wt_iload_n (pc := 6) 0 dX12_isLetter_6 rfl ?_
    refine wt_bipush (pc := 7) (v := 122) dX12_isLetter_7 (by decide) ?_
    refine wt_icmp_gt (pc := 9) (tgt := 16) dX12_isLetter_9 (by decide) (fun q => ?_) (fun q => ?_)
    · have h := ite_t q h
      refine wt_iconst (pc := 16) (v := 0) dX12_isLetter_16 (by decide) ?_
      cases h
      exact he 17 _ _ _ dX12_isLetter_17 (by decide) (by decide)
    · have h := ite_f q h
      refine wt_iconst (pc := 12) (v := 1) dX12_isLetter_12 (by decide) ?_
      refine wt_goto (pc := 13) (tgt := 17) dX12_isLetter_13 (by decide) ?_
      cases h
      exact he 17 _ _ _ dX12_isLetter_17 (by decide) (by decide)
set_option maxHeartbeats 4000000 in
set_option maxRecDepth 100000 in
theorem c_X12_isLetter {G : GG} {M : Mm} {l0 : Int32} {r : Int32 × Mm} (h : f_X12_isLetter M l0 = some r) (l : Launch) : Ct l G j_X12_isLetter b_X12_isLetter [.int l0] M (some (.int r.1)) r.2 := cf_Z h (by decide +kernel) (by simp [lg_sl, rf_cat, cat_i, cat_l, j_X12_isLetter]) rfl (by simp [lv_args, rf_cat, cat_i, cat_l]) (fun h X he => t_X12_isLetter_e he h)
def g_X12_isDigit (M : Mm) (l0 : Int32) : Option (Int32 × Mm) := if l0 < 48 then (some (0, M)) else (if 57 < l0 then (some (0, M)) else (some (1, M)))
def f_X12_isDigit (M : Mm) (l0 : Int32) : Option (Int32 × Mm) := zc (g_X12_isDigit M l0)
set_option maxHeartbeats 4000000 in
set_option maxRecDepth 100000 in
theorem t_X12_isDigit_e {G : GG} {X : CX} {ans : Int32 × Mm} (he : EndI G X j_X12_isDigit b_X12_isDigit ans) {M : Mm} {l0 : Int32} (h : g_X12_isDigit M l0 = some ans) : Wt G X j_X12_isDigit b_X12_isDigit 0 [(0, .int l0)] [] M 0 0 := by
  unfold g_X12_isDigit at h
  refine wt_iload_n (pc := 0) 0 dX12_isDigit_0 rfl ?_
  refine wt_bipush (pc := 1) (v := 48) dX12_isDigit_1 (by decide) ?_
  refine wt_icmp_lt (pc := 3) (tgt := 16) dX12_isDigit_3 (by decide) (fun q => ?_) (fun q => ?_)
  · have h := ite_t q h
    refine wt_iconst (pc := 16) (v := 0) dX12_isDigit_16 (by decide) ?_
    cases h
    exact he 17 _ _ _ dX12_isDigit_17 (by decide) (by decide)
  · have h := ite_f q h
    refine wt_iload_n (pc := 6) 0 dX12_isDigit_6 rfl ?_
    refine wt_bipush (pc := 7) (v := 57) dX12_isDigit_7 (by decide) ?_
    refine wt_icmp_gt (pc := 9) (tgt := 16) dX12_isDigit_9 (by decide) (fun q => ?_) (fun q => ?_)
    · have h := ite_t q h
      refine wt_iconst (pc := 16) (v := 0) dX12_isDigit_16 (by decide) ?_
      cases h
      exact he 17 _ _ _ dX12_isDigit_17 (by decide) (by decide)
    · have h := ite_f q h
      refine wt_iconst (pc := 12) (v := 1) dX12_isDigit_12 (by decide) ?_
      refine wt_goto (pc := 13) (tgt := 17) dX12_isDigit_13 (by decide) ?_
      cases h
      exact he 17 _ _ _ dX12_isDigit_17 (by decide) (by decide)
set_option maxHeartbeats 4000000 in
set_option maxRecDepth 100000 in
theorem c_X12_isDigit {G : GG} {M : Mm} {l0 : Int32} {r : Int32 × Mm} (h : f_X12_isDigit M l0 = some r) (l : Launch) : Ct l G j_X12_isDigit b_X12_isDigit [.int l0] M (some (.int r.1)) r.2 := cf_Z h (by decide +kernel) (by simp [lg_sl, rf_cat, cat_i, cat_l, j_X12_isDigit]) rfl (by simp [lv_args, rf_cat, cat_i, cat_l]) (fun h X he => t_X12_isDigit_e he h)
def f_X12_isSignByte_24 (M : Mm)  : Option (Int32 × Mm) := some (1, M)
def g_X12_isSignByte (M : Mm) (l0 : Option Nat) (l1 : Int32) : Option (Int32 × Mm) := if l1 = 59 then (f_X12_isSignByte_24  M) else (if l1 = 60 then (f_X12_isSignByte_24  M) else (if l1 = 62 then (f_X12_isSignByte_24  M) else (if l1 = 61 then (f_X12_isSignByte_24  M) else (some (0, M)))))
def f_X12_isSignByte (M : Mm) (l0 : Option Nat) (l1 : Int32) : Option (Int32 × Mm) := zc (g_X12_isSignByte M l0 l1)
set_option maxHeartbeats 4000000 in
set_option maxRecDepth 100000 in
theorem t_X12_isSignByte_24 {G : GG} {X : CX} {ans : Int32 × Mm} (he : EndI G X j_X12_isSignByte b_X12_isSignByte ans) {M : Mm}  (h : f_X12_isSignByte_24 M = some ans) : Wt G X j_X12_isSignByte b_X12_isSignByte 24 [] [] M 0 0 := by
  unfold f_X12_isSignByte_24 at h
  refine wt_iconst (pc := 24) (v := 1) dX12_isSignByte_24 (by decide) ?_
  refine wt_goto (pc := 25) (tgt := 29) dX12_isSignByte_25 (by decide) ?_
  cases h
  exact he 29 _ _ _ dX12_isSignByte_29 (by decide) (by decide)
set_option maxHeartbeats 4000000 in
set_option maxRecDepth 100000 in
theorem t_X12_isSignByte_e {G : GG} {X : CX} {ans : Int32 × Mm} (he : EndI G X j_X12_isSignByte b_X12_isSignByte ans) {M : Mm} {l0 : Option Nat} {l1 : Int32} (h : g_X12_isSignByte M l0 l1 = some ans) : Wt G X j_X12_isSignByte b_X12_isSignByte 0 [(0, rf G.1 l0), (1, .int l1)] [] M 0 0 := by
  unfold g_X12_isSignByte at h
  refine wt_iload_n (pc := 0) 1 dX12_isSignByte_0 rfl ?_
  refine wt_bipush (pc := 1) (v := 59) dX12_isSignByte_1 (by decide) ?_
  refine wt_icmp_eq (pc := 3) (tgt := 24) dX12_isSignByte_3 (by decide) (fun q => ?_) (fun q => ?_)
  · have h := ite_t q h
    refine wt_sub (ls' := []) [] rfl ?_
    exact t_X12_isSignByte_24 he  h
  · have h := ite_f q h
    refine wt_iload_n (pc := 6) 1 dX12_isSignByte_6 rfl ?_
    refine wt_bipush (pc := 7) (v := 60) dX12_isSignByte_7 (by decide) ?_
    refine wt_icmp_eq (pc := 9) (tgt := 24) dX12_isSignByte_9 (by decide) (fun q => ?_) (fun q => ?_)
    · have h := ite_t q h
      refine wt_sub (ls' := []) [] rfl ?_
      exact t_X12_isSignByte_24 he  h
    · have h := ite_f q h
      refine wt_iload_n (pc := 12) 1 dX12_isSignByte_12 rfl ?_
      refine wt_bipush (pc := 13) (v := 62) dX12_isSignByte_13 (by decide) ?_
      refine wt_icmp_eq (pc := 15) (tgt := 24) dX12_isSignByte_15 (by decide) (fun q => ?_) (fun q => ?_)
      · have h := ite_t q h
        refine wt_sub (ls' := []) [] rfl ?_
        exact t_X12_isSignByte_24 he  h
      · have h := ite_f q h
        refine wt_iload_n (pc := 18) 1 dX12_isSignByte_18 rfl ?_
        refine wt_bipush (pc := 19) (v := 61) dX12_isSignByte_19 (by decide) ?_
        refine wt_icmp_ne (pc := 21) (tgt := 28) dX12_isSignByte_21 (by decide) (fun q => ?_) (fun q => ?_)
        · have h := ite_f q h
          refine wt_iconst (pc := 28) (v := 0) dX12_isSignByte_28 (by decide) ?_
          cases h
          exact he 29 _ _ _ dX12_isSignByte_29 (by decide) (by decide)
        · have h := ite_t q h
          refine wt_sub (ls' := []) [] rfl ?_
          exact t_X12_isSignByte_24 he  h
set_option maxHeartbeats 4000000 in
set_option maxRecDepth 100000 in
theorem c_X12_isSignByte {G : GG} {M : Mm} {l0 : Option Nat} {l1 : Int32} {r : Int32 × Mm} (h : f_X12_isSignByte M l0 l1 = some r) (l : Launch) : Ct l G j_X12_isSignByte b_X12_isSignByte [rf G.1 l0, .int l1] M (some (.int r.1)) r.2 := cf_Z h (by decide +kernel) (by simp [lg_sl, rf_cat, cat_i, cat_l, j_X12_isSignByte]) rfl (by simp [lv_args, rf_cat, cat_i, cat_l]) (fun h X he => t_X12_isSignByte_e he h)
def f_X12_next_327 (M : Mm) (s0 : Option Nat) (s1 : Int32) : Option (Mm) := pfI M s0 12 14 s1 fun M327 => some M327
def f_X12_next_292 (M : Mm) (s0 : Option Nat) (s1 : Int32) : Option (Mm) := pfI M s0 12 14 s1 fun M292 => some M292
def f_X12_next_260 (k210 : Mm → Option Nat → Option (Mm)) (M : Mm) (l0 : Option Nat) : Option (Mm) := gfI M l0 12 16 fun v262 => pfI M l0 12 16 (v262 + 1) fun M267 => k210 M267 l0
def f_X12_next_210 : Nat → Mm → Option Nat → Option (Mm)
  | 0, _, _ => none
  | n + 1, M, l0 => gfI M l0 12 16 fun v212 => ck M l0 12 <| bd (f_X12_look2 M l0 v212) fun v215 M215 => bd (f_X12_isDigit M215 v215) fun v218 M218 => if v218 = 0 then (gfI M218 l0 12 16 fun v275 => gfI M218 l0 12 15 fun v279 => if (v275 - v279) ≤ 4 then (f_X12_next_292  M218 l0 2) else (f_X12_next_292  M218 l0 4)) else (gfI M218 l0 12 16 fun v225 => gfI M218 l0 12 15 fun v229 => if 4 ≤ (v225 - v229) then (f_X12_next_260 (f_X12_next_210 n) M218 l0) else (gfI M218 l0 12 17 fun v241 => gfI M218 l0 12 16 fun v247 => ck M218 l0 12 <| bd (f_X12_look2 M218 l0 v247) fun v250 M250 => pfI M250 l0 12 17 (((10 * v241) + v250) - 48) fun M257 => f_X12_next_260 (f_X12_next_210 n) M257 l0))
def f_X12_next_166 (k109 : Mm → Option Nat → Option (Mm)) (M : Mm) (l0 : Option Nat) (s0 : Option Nat) (s1 : Int64) : Option (Mm) := pfL M s0 12 19 s1 fun M166 => gfI M166 l0 12 16 fun v171 => pfI M166 l0 12 16 (v171 + 1) fun M176 => k109 M176 l0
def f_X12_next_109 : Nat → Mm → Option Nat → Option (Mm)
  | 0, _, _ => none
  | n + 1, M, l0 => gfI M l0 12 16 fun v111 => ck M l0 12 <| bd (f_X12_look2 M l0 v111) fun v114 M114 => bd (f_X12_isLetter M114 v114) fun v117 M117 => if v117 = 0 then (gfI M117 l0 12 16 fun v184 => gfI M117 l0 12 15 fun v188 => pfI M117 l0 12 18 (v184 - v188) fun M192 => some M192) else (gfI M117 l0 12 16 fun v125 => gfI M117 l0 12 15 fun v129 => if 8 ≤ (v125 - v129) then (f_X12_next_166 (f_X12_next_109 n) M117 l0 l0 (-1)) else (gfL M117 l0 12 19 fun v139 => gfI M117 l0 12 16 fun v148 => ck M117 l0 12 <| bd (f_X12_look2 M117 l0 v148) fun v151 M151 => f_X12_next_166 (f_X12_next_109 n) M151 l0 l0 (((v139 * 32) + (Int32.toInt64 v151)) - 96)))
def f_X12_next_58 (M : Mm) (l0 : Option Nat) : Option (Mm) := gfI M l0 12 15 fun v60 => pfI M l0 12 16 v60 fun M63 => gfI M63 l0 12 15 fun v67 => gfI M63 l0 12 9 fun v71 => if v67 < v71 then (gfI M63 l0 12 15 fun v85 => ck M63 l0 12 <| bd (f_X12_look2 M63 l0 v85) fun v88 M88 => bd (f_X12_isLetter M88 v88) fun v93 M93 => if v93 = 0 then (bd (f_X12_isDigit M93 v88) fun v199 M199 => if v199 = 0 then (gfI M199 l0 12 15 fun v300 => pfI M199 l0 12 16 (v300 + 1) fun M305 => pfI M305 l0 12 17 v88 fun M310 => ck M310 l0 12 <| bd (f_X12_isSignByte M310 l0 v88) fun v316 M316 => if v316 = 0 then (f_X12_next_327  M316 l0 4) else (f_X12_next_327  M316 l0 3)) else (pfI M199 l0 12 17 0 fun M207 => f_X12_next_210  fu M207 l0)) else (pfI M93 l0 12 14 1 fun M101 => pfL M101 l0 12 19 0 fun M106 => f_X12_next_109  fu M106 l0)) else (pfI M63 l0 12 14 0 fun M79 => some M79)
def f_X12_next_45 (k8 : Mm → Option Nat → Option (Mm)) (M : Mm) (l0 : Option Nat) : Option (Mm) := gfI M l0 12 15 fun v47 => pfI M l0 12 15 (v47 + 1) fun M52 => k8 M52 l0
def f_X12_next_8 : Nat → Mm → Option Nat → Option (Mm)
  | 0, _, _ => none
  | n + 1, M, l0 => gfI M l0 12 15 fun v9 => gfI M l0 12 9 fun v13 => if v13 ≤ v9 then (f_X12_next_58  M l0) else (gfI M l0 12 15 fun v21 => ck M l0 12 <| bd (f_X12_look2 M l0 v21) fun v24 M24 => if v24 = 10 then (f_X12_next_45 (f_X12_next_8 n) M24 l0) else (gfI M24 l0 12 15 fun v34 => ck M24 l0 12 <| bd (f_X12_look2 M24 l0 v34) fun v37 M37 => if v37 = 32 then (f_X12_next_45 (f_X12_next_8 n) M37 l0) else (f_X12_next_58  M37 l0)))
def f_X12_next (M : Mm) (l0 : Option Nat) : Option (Mm) := gfI M l0 12 16 fun v2 => pfI M l0 12 15 v2 fun M5 => f_X12_next_8  fu M5 l0
set_option maxHeartbeats 4000000 in
set_option maxRecDepth 100000 in
theorem t_X12_next_327 {G : GG} {X : CX} {ans : Mm} (he : EndV G X j_X12_next b_X12_next ans) {M : Mm} {s0 : Option Nat} {s1 : Int32} (h : f_X12_next_327 M s0 s1 = some ans) : Wt G X j_X12_next b_X12_next 327 [] [.int s1, rf G.1 s0] M 0 0 := by
  unfold f_X12_next_327 at h
  refine wt_putI (pc := 327) dX12_next_327 fl_X12_123 rfl rfl h (fun M327 h => ?_)
  cases h
  exact he 330 _ _ _ dX12_next_330 (by decide) (by decide)
set_option maxHeartbeats 4000000 in
set_option maxRecDepth 100000 in
theorem t_X12_next_292 {G : GG} {X : CX} {ans : Mm} (he : EndV G X j_X12_next b_X12_next ans) {M : Mm} {s0 : Option Nat} {s1 : Int32} (h : f_X12_next_292 M s0 s1 = some ans) : Wt G X j_X12_next b_X12_next 292 [] [.int s1, rf G.1 s0] M 0 0 := by
  unfold f_X12_next_292 at h
  refine wt_putI (pc := 292) dX12_next_292 fl_X12_123 rfl rfl h (fun M292 h => ?_)
  refine wt_goto (pc := 295) (tgt := 330) dX12_next_295 (by decide) ?_
  cases h
  exact he 330 _ _ _ dX12_next_330 (by decide) (by decide)
set_option maxHeartbeats 4000000 in
set_option maxRecDepth 100000 in
theorem t_X12_next_260 {G : GG} {X : CX} {ans : Mm} (he : EndV G X j_X12_next b_X12_next ans) {k210 : Mm → Option Nat → Option (Mm)} (hk210 : ∀ (M : Mm) (a0 : Option Nat), k210 M a0 = some ans → Wt G X j_X12_next b_X12_next 210 [(0, rf G.1 a0)] [] M 0 0) {M : Mm} {l0 : Option Nat} (h : f_X12_next_260 k210 M l0 = some ans) : Wt G X j_X12_next b_X12_next 260 [(0, rf G.1 l0)] [] M 0 0 := by
  unfold f_X12_next_260 at h
  refine wt_aload_n (pc := 260) 0 dX12_next_260 rfl ?_
  refine wt_dup (pc := 261) dX12_next_261 (rf_cat _ _) ?_
  refine wt_getI (pc := 262) dX12_next_262 fl_X12_114 (fun _ _ _ => rfl) h (fun v262 h => ?_)
  refine wt_iconst (pc := 265) (v := 1) dX12_next_265 (by decide) ?_
  refine wt_iadd (pc := 266) dX12_next_266 ?_
  refine wt_putI (pc := 267) dX12_next_267 fl_X12_114 rfl rfl h (fun M267 h => ?_)
  refine wt_goto (pc := 270) (tgt := 210) dX12_next_270 (by decide) ?_
  exact hk210 _ _ h
set_option maxHeartbeats 4000000 in
set_option maxRecDepth 100000 in
theorem t_X12_next_210 {G : GG} {X : CX} {ans : Mm} (he : EndV G X j_X12_next b_X12_next ans) : ∀ (n : Nat) {M : Mm} {l0 : Option Nat}, f_X12_next_210 n M l0 = some ans → Wt G X j_X12_next b_X12_next 210 [(0, rf G.1 l0)] [] M 0 0 := by
  intro n
  induction n with
  | zero =>
    intro M l0 h
    rw [f_X12_next_210] at h
    cases h
  | succ n ih =>
    intro M l0 h
    rw [f_X12_next_210] at h
    refine wt_aload_n (pc := 210) 0 dX12_next_210 rfl ?_
    refine wt_aload_n (pc := 211) 0 dX12_next_211 rfl ?_
    refine wt_getI (pc := 212) dX12_next_212 fl_X12_114 (fun _ _ _ => rfl) h (fun v212 h => ?_)
    refine wt_cVI (pc := 215) (J' := j_X12_look2) (As := [.int v212]) (st := []) (B' := b_X12_look2) (u' := 0) (w' := 0) dX12_next_215 ml_X12_120 mv_X12_look2 (fun v9 M9 e9 => c_X12_look2 e9) rfl (by decide) rfl rfl (by decide) (by decide) (by decide) rfl h (fun v215 M215 h => ?_)
    refine wt_cSI (pc := 218) (J' := j_X12_isDigit) (As := [.int v215]) (st := []) (B' := b_X12_isDigit) (u' := 0) (w' := 0) dX12_next_218 ml_X12_139 ms_X12_isDigit (fun v9 M9 e9 => c_X12_isDigit e9) rfl (by decide) rfl rfl (by decide) (by decide) (by decide) rfl h (fun v218 M218 h => ?_)
    refine wt_if_eq (pc := 221) (tgt := 273) dX12_next_221 (by decide) (fun q => ?_) (fun q => ?_)
    · have h := ite_t q h
      refine wt_aload_n (pc := 273) 0 dX12_next_273 rfl ?_
      refine wt_aload_n (pc := 274) 0 dX12_next_274 rfl ?_
      refine wt_getI (pc := 275) dX12_next_275 fl_X12_114 (fun _ _ _ => rfl) h (fun v275 h => ?_)
      refine wt_aload_n (pc := 278) 0 dX12_next_278 rfl ?_
      refine wt_getI (pc := 279) dX12_next_279 fl_X12_117 (fun _ _ _ => rfl) h (fun v279 h => ?_)
      refine wt_isub (pc := 282) dX12_next_282 ?_
      refine wt_iconst (pc := 283) (v := 4) dX12_next_283 (by decide) ?_
      refine wt_icmp_le (pc := 284) (tgt := 291) dX12_next_284 (by decide) (fun q => ?_) (fun q => ?_)
      · have h := ite_t q h
        refine wt_iconst (pc := 291) (v := 2) dX12_next_291 (by decide) ?_
        refine wt_sub (ls' := []) [] rfl ?_
        exact t_X12_next_292 he  h
      · have h := ite_f q h
        refine wt_iconst (pc := 287) (v := 4) dX12_next_287 (by decide) ?_
        refine wt_goto (pc := 288) (tgt := 292) dX12_next_288 (by decide) ?_
        refine wt_sub (ls' := []) [] rfl ?_
        exact t_X12_next_292 he  h
    · have h := ite_f q h
      refine wt_aload_n (pc := 224) 0 dX12_next_224 rfl ?_
      refine wt_getI (pc := 225) dX12_next_225 fl_X12_114 (fun _ _ _ => rfl) h (fun v225 h => ?_)
      refine wt_aload_n (pc := 228) 0 dX12_next_228 rfl ?_
      refine wt_getI (pc := 229) dX12_next_229 fl_X12_117 (fun _ _ _ => rfl) h (fun v229 h => ?_)
      refine wt_isub (pc := 232) dX12_next_232 ?_
      refine wt_iconst (pc := 233) (v := 4) dX12_next_233 (by decide) ?_
      refine wt_icmp_ge (pc := 234) (tgt := 260) dX12_next_234 (by decide) (fun q => ?_) (fun q => ?_)
      · have h := ite_t q h
        exact t_X12_next_260 he (fun _ _ h => ih h) h
      · have h := ite_f q h
        refine wt_aload_n (pc := 237) 0 dX12_next_237 rfl ?_
        refine wt_bipush (pc := 238) (v := 10) dX12_next_238 (by decide) ?_
        refine wt_aload_n (pc := 240) 0 dX12_next_240 rfl ?_
        refine wt_getI (pc := 241) dX12_next_241 fl_X12_142 (fun _ _ _ => rfl) h (fun v241 h => ?_)
        refine wt_imul (pc := 244) dX12_next_244 ?_
        refine wt_aload_n (pc := 245) 0 dX12_next_245 rfl ?_
        refine wt_aload_n (pc := 246) 0 dX12_next_246 rfl ?_
        refine wt_getI (pc := 247) dX12_next_247 fl_X12_114 (fun _ _ _ => rfl) h (fun v247 h => ?_)
        refine wt_cVI (pc := 250) (J' := j_X12_look2) (As := [.int v247]) (st := [.int (10 * v241), rf G.1 l0]) (B' := b_X12_look2) (u' := 0) (w' := 0) dX12_next_250 ml_X12_120 mv_X12_look2 (fun v9 M9 e9 => c_X12_look2 e9) rfl (by decide) rfl rfl (by decide) (by decide) (by simp [rf_cat, cat_i, cat_l, cat_r]) rfl h (fun v250 M250 h => ?_)
        refine wt_iadd (pc := 253) dX12_next_253 ?_
        refine wt_bipush (pc := 254) (v := 48) dX12_next_254 (by decide) ?_
        refine wt_isub (pc := 256) dX12_next_256 ?_
        refine wt_putI (pc := 257) dX12_next_257 fl_X12_142 rfl rfl h (fun M257 h => ?_)
        exact t_X12_next_260 he (fun _ _ h => ih h) h
set_option maxHeartbeats 4000000 in
set_option maxRecDepth 100000 in
theorem t_X12_next_166 {G : GG} {X : CX} {ans : Mm} (he : EndV G X j_X12_next b_X12_next ans) {k109 : Mm → Option Nat → Option (Mm)} (hk109 : ∀ (M : Mm) (a0 : Option Nat), k109 M a0 = some ans → Wt G X j_X12_next b_X12_next 109 [(0, rf G.1 a0)] [] M 0 0) {M : Mm} {l0 : Option Nat} {s0 : Option Nat} {s1 : Int64} (h : f_X12_next_166 k109 M l0 s0 s1 = some ans) : Wt G X j_X12_next b_X12_next 166 [(0, rf G.1 l0)] [.long s1, rf G.1 s0] M 0 0 := by
  unfold f_X12_next_166 at h
  refine wt_putL (pc := 166) dX12_next_166 fl_X12_129 rfl rfl h (fun M166 h => ?_)
  refine wt_aload_n (pc := 169) 0 dX12_next_169 rfl ?_
  refine wt_dup (pc := 170) dX12_next_170 (rf_cat _ _) ?_
  refine wt_getI (pc := 171) dX12_next_171 fl_X12_114 (fun _ _ _ => rfl) h (fun v171 h => ?_)
  refine wt_iconst (pc := 174) (v := 1) dX12_next_174 (by decide) ?_
  refine wt_iadd (pc := 175) dX12_next_175 ?_
  refine wt_putI (pc := 176) dX12_next_176 fl_X12_114 rfl rfl h (fun M176 h => ?_)
  refine wt_goto (pc := 179) (tgt := 109) dX12_next_179 (by decide) ?_
  exact hk109 _ _ h
set_option maxHeartbeats 4000000 in
set_option maxRecDepth 100000 in
theorem t_X12_next_109 {G : GG} {X : CX} {ans : Mm} (he : EndV G X j_X12_next b_X12_next ans) : ∀ (n : Nat) {M : Mm} {l0 : Option Nat}, f_X12_next_109 n M l0 = some ans → Wt G X j_X12_next b_X12_next 109 [(0, rf G.1 l0)] [] M 0 0 := by
  intro n
  induction n with
  | zero =>
    intro M l0 h
    rw [f_X12_next_109] at h
    cases h
  | succ n ih =>
    intro M l0 h
    rw [f_X12_next_109] at h
    refine wt_aload_n (pc := 109) 0 dX12_next_109 rfl ?_
    refine wt_aload_n (pc := 110) 0 dX12_next_110 rfl ?_
    refine wt_getI (pc := 111) dX12_next_111 fl_X12_114 (fun _ _ _ => rfl) h (fun v111 h => ?_)
    refine wt_cVI (pc := 114) (J' := j_X12_look2) (As := [.int v111]) (st := []) (B' := b_X12_look2) (u' := 0) (w' := 0) dX12_next_114 ml_X12_120 mv_X12_look2 (fun v9 M9 e9 => c_X12_look2 e9) rfl (by decide) rfl rfl (by decide) (by decide) (by decide) rfl h (fun v114 M114 h => ?_)
    refine wt_cSI (pc := 117) (J' := j_X12_isLetter) (As := [.int v114]) (st := []) (B' := b_X12_isLetter) (u' := 0) (w' := 0) dX12_next_117 ml_X12_126 ms_X12_isLetter (fun v9 M9 e9 => c_X12_isLetter e9) rfl (by decide) rfl rfl (by decide) (by decide) (by decide) rfl h (fun v117 M117 h => ?_)
    refine wt_if_eq (pc := 120) (tgt := 182) dX12_next_120 (by decide) (fun q => ?_) (fun q => ?_)
    · have h := ite_t q h
      refine wt_aload_n (pc := 182) 0 dX12_next_182 rfl ?_
      refine wt_aload_n (pc := 183) 0 dX12_next_183 rfl ?_
      refine wt_getI (pc := 184) dX12_next_184 fl_X12_114 (fun _ _ _ => rfl) h (fun v184 h => ?_)
      refine wt_aload_n (pc := 187) 0 dX12_next_187 rfl ?_
      refine wt_getI (pc := 188) dX12_next_188 fl_X12_117 (fun _ _ _ => rfl) h (fun v188 h => ?_)
      refine wt_isub (pc := 191) dX12_next_191 ?_
      refine wt_putI (pc := 192) dX12_next_192 fl_X12_136 rfl rfl h (fun M192 h => ?_)
      refine wt_goto (pc := 195) (tgt := 330) dX12_next_195 (by decide) ?_
      cases h
      exact he 330 _ _ _ dX12_next_330 (by decide) (by decide)
    · have h := ite_f q h
      refine wt_aload_n (pc := 123) 0 dX12_next_123 rfl ?_
      refine wt_aload_n (pc := 124) 0 dX12_next_124 rfl ?_
      refine wt_getI (pc := 125) dX12_next_125 fl_X12_114 (fun _ _ _ => rfl) h (fun v125 h => ?_)
      refine wt_aload_n (pc := 128) 0 dX12_next_128 rfl ?_
      refine wt_getI (pc := 129) dX12_next_129 fl_X12_117 (fun _ _ _ => rfl) h (fun v129 h => ?_)
      refine wt_isub (pc := 132) dX12_next_132 ?_
      refine wt_bipush (pc := 133) (v := 8) dX12_next_133 (by decide) ?_
      refine wt_icmp_ge (pc := 135) (tgt := 163) dX12_next_135 (by decide) (fun q => ?_) (fun q => ?_)
      · have h := ite_t q h
        refine wt_ldc2 (pc := 163) dX12_next_163 kc_X12_99 ?_
        exact t_X12_next_166 he (fun _ _ h => ih h) h
      · have h := ite_f q h
        refine wt_aload_n (pc := 138) 0 dX12_next_138 rfl ?_
        refine wt_getL (pc := 139) dX12_next_139 fl_X12_129 (fun _ _ _ => rfl) h (fun v139 h => ?_)
        refine wt_ldc2 (pc := 142) dX12_next_142 kc_X12_132 ?_
        refine wt_lmul (pc := 145) dX12_next_145 ?_
        refine wt_aload_n (pc := 146) 0 dX12_next_146 rfl ?_
        refine wt_aload_n (pc := 147) 0 dX12_next_147 rfl ?_
        refine wt_getI (pc := 148) dX12_next_148 fl_X12_114 (fun _ _ _ => rfl) h (fun v148 h => ?_)
        refine wt_cVI (pc := 151) (J' := j_X12_look2) (As := [.int v148]) (st := [.long (v139 * 32), rf G.1 l0]) (B' := b_X12_look2) (u' := 0) (w' := 0) dX12_next_151 ml_X12_120 mv_X12_look2 (fun v9 M9 e9 => c_X12_look2 e9) rfl (by decide) rfl rfl (by decide) (by decide) (by simp [rf_cat, cat_i, cat_l, cat_r]) rfl h (fun v151 M151 h => ?_)
        refine wt_i2l (pc := 154) dX12_next_154 ?_
        refine wt_ladd (pc := 155) dX12_next_155 ?_
        refine wt_ldc2 (pc := 156) dX12_next_156 kc_X12_134 ?_
        refine wt_lsub (pc := 159) dX12_next_159 ?_
        refine wt_goto (pc := 160) (tgt := 166) dX12_next_160 (by decide) ?_
        exact t_X12_next_166 he (fun _ _ h => ih h) h
set_option maxHeartbeats 4000000 in
set_option maxRecDepth 100000 in
theorem t_X12_next_58 {G : GG} {X : CX} {ans : Mm} (he : EndV G X j_X12_next b_X12_next ans) {M : Mm} {l0 : Option Nat} (h : f_X12_next_58 M l0 = some ans) : Wt G X j_X12_next b_X12_next 58 [(0, rf G.1 l0)] [] M 0 0 := by
  unfold f_X12_next_58 at h
  refine wt_aload_n (pc := 58) 0 dX12_next_58 rfl ?_
  refine wt_aload_n (pc := 59) 0 dX12_next_59 rfl ?_
  refine wt_getI (pc := 60) dX12_next_60 fl_X12_117 (fun _ _ _ => rfl) h (fun v60 h => ?_)
  refine wt_putI (pc := 63) dX12_next_63 fl_X12_114 rfl rfl h (fun M63 h => ?_)
  refine wt_aload_n (pc := 66) 0 dX12_next_66 rfl ?_
  refine wt_getI (pc := 67) dX12_next_67 fl_X12_117 (fun _ _ _ => rfl) h (fun v67 h => ?_)
  refine wt_aload_n (pc := 70) 0 dX12_next_70 rfl ?_
  refine wt_getI (pc := 71) dX12_next_71 fl_X12_111 (fun _ _ _ => rfl) h (fun v71 h => ?_)
  refine wt_icmp_lt (pc := 74) (tgt := 83) dX12_next_74 (by decide) (fun q => ?_) (fun q => ?_)
  · have h := ite_t q h
    refine wt_aload_n (pc := 83) 0 dX12_next_83 rfl ?_
    refine wt_aload_n (pc := 84) 0 dX12_next_84 rfl ?_
    refine wt_getI (pc := 85) dX12_next_85 fl_X12_117 (fun _ _ _ => rfl) h (fun v85 h => ?_)
    refine wt_cVI (pc := 88) (J' := j_X12_look2) (As := [.int v85]) (st := []) (B' := b_X12_look2) (u' := 0) (w' := 0) dX12_next_88 ml_X12_120 mv_X12_look2 (fun v9 M9 e9 => c_X12_look2 e9) rfl (by decide) rfl rfl (by decide) (by decide) (by decide) rfl h (fun v88 M88 h => ?_)
    refine wt_istore_n (pc := 91) (i := 1) (ls' := [(1, .int v88), (0, rf G.1 l0)]) rfl dX12_next_91 (by decide) (by simp [rf_cat, cat_i, cat_l, cat_r]) ?_
    refine wt_iload_n (pc := 92) 0 dX12_next_92 rfl ?_
    refine wt_cSI (pc := 93) (J' := j_X12_isLetter) (As := [.int v88]) (st := []) (B' := b_X12_isLetter) (u' := 0) (w' := 0) dX12_next_93 ml_X12_126 ms_X12_isLetter (fun v9 M9 e9 => c_X12_isLetter e9) rfl (by decide) rfl rfl (by decide) (by decide) (by decide) rfl h (fun v93 M93 h => ?_)
    refine wt_if_eq (pc := 96) (tgt := 198) dX12_next_96 (by decide) (fun q => ?_) (fun q => ?_)
    · have h := ite_t q h
      refine wt_iload_n (pc := 198) 0 dX12_next_198 rfl ?_
      refine wt_cSI (pc := 199) (J' := j_X12_isDigit) (As := [.int v88]) (st := []) (B' := b_X12_isDigit) (u' := 0) (w' := 0) dX12_next_199 ml_X12_139 ms_X12_isDigit (fun v9 M9 e9 => c_X12_isDigit e9) rfl (by decide) rfl rfl (by decide) (by decide) (by decide) rfl h (fun v199 M199 h => ?_)
      refine wt_if_eq (pc := 202) (tgt := 298) dX12_next_202 (by decide) (fun q => ?_) (fun q => ?_)
      · have h := ite_t q h
        refine wt_aload_n (pc := 298) 1 dX12_next_298 rfl ?_
        refine wt_aload_n (pc := 299) 1 dX12_next_299 rfl ?_
        refine wt_getI (pc := 300) dX12_next_300 fl_X12_117 (fun _ _ _ => rfl) h (fun v300 h => ?_)
        refine wt_iconst (pc := 303) (v := 1) dX12_next_303 (by decide) ?_
        refine wt_iadd (pc := 304) dX12_next_304 ?_
        refine wt_putI (pc := 305) dX12_next_305 fl_X12_114 rfl rfl h (fun M305 h => ?_)
        refine wt_aload_n (pc := 308) 1 dX12_next_308 rfl ?_
        refine wt_iload_n (pc := 309) 0 dX12_next_309 rfl ?_
        refine wt_putI (pc := 310) dX12_next_310 fl_X12_142 rfl rfl h (fun M310 h => ?_)
        refine wt_aload_n (pc := 313) 1 dX12_next_313 rfl ?_
        refine wt_aload_n (pc := 314) 1 dX12_next_314 rfl ?_
        refine wt_iload_n (pc := 315) 0 dX12_next_315 rfl ?_
        refine wt_cVI (pc := 316) (J' := j_X12_isSignByte) (As := [.int v88]) (st := [rf G.1 l0]) (B' := b_X12_isSignByte) (u' := 0) (w' := 0) dX12_next_316 ml_X12_145 mv_X12_isSignByte (fun v9 M9 e9 => c_X12_isSignByte e9) rfl (by decide) rfl rfl (by decide) (by decide) (by simp [rf_cat, cat_i, cat_l, cat_r]) rfl h (fun v316 M316 h => ?_)
        refine wt_if_eq (pc := 319) (tgt := 326) dX12_next_319 (by decide) (fun q => ?_) (fun q => ?_)
        · have h := ite_t q h
          refine wt_iconst (pc := 326) (v := 4) dX12_next_326 (by decide) ?_
          refine wt_sub (ls' := []) [] rfl ?_
          exact t_X12_next_327 he  h
        · have h := ite_f q h
          refine wt_iconst (pc := 322) (v := 3) dX12_next_322 (by decide) ?_
          refine wt_goto (pc := 323) (tgt := 327) dX12_next_323 (by decide) ?_
          refine wt_sub (ls' := []) [] rfl ?_
          exact t_X12_next_327 he  h
      · have h := ite_f q h
        refine wt_aload_n (pc := 205) 1 dX12_next_205 rfl ?_
        refine wt_iconst (pc := 206) (v := 0) dX12_next_206 (by decide) ?_
        refine wt_putI (pc := 207) dX12_next_207 fl_X12_142 rfl rfl h (fun M207 h => ?_)
        refine wt_sub (ls' := [(0, rf G.1 l0)]) [1] rfl ?_
        exact t_X12_next_210 he  fu h
    · have h := ite_f q h
      refine wt_aload_n (pc := 99) 1 dX12_next_99 rfl ?_
      refine wt_iconst (pc := 100) (v := 1) dX12_next_100 (by decide) ?_
      refine wt_putI (pc := 101) dX12_next_101 fl_X12_123 rfl rfl h (fun M101 h => ?_)
      refine wt_aload_n (pc := 104) 1 dX12_next_104 rfl ?_
      refine wt_lconst (pc := 105) (v := 0) dX12_next_105 (by decide) ?_
      refine wt_putL (pc := 106) dX12_next_106 fl_X12_129 rfl rfl h (fun M106 h => ?_)
      refine wt_sub (ls' := [(0, rf G.1 l0)]) [1] rfl ?_
      exact t_X12_next_109 he  fu h
  · have h := ite_f q h
    refine wt_aload_n (pc := 77) 0 dX12_next_77 rfl ?_
    refine wt_iconst (pc := 78) (v := 0) dX12_next_78 (by decide) ?_
    refine wt_putI (pc := 79) dX12_next_79 fl_X12_123 rfl rfl h (fun M79 h => ?_)
    cases h
    exact he 82 _ _ _ dX12_next_82 (by decide) (by decide)
set_option maxHeartbeats 4000000 in
set_option maxRecDepth 100000 in
theorem t_X12_next_45 {G : GG} {X : CX} {ans : Mm} (he : EndV G X j_X12_next b_X12_next ans) {k8 : Mm → Option Nat → Option (Mm)} (hk8 : ∀ (M : Mm) (a0 : Option Nat), k8 M a0 = some ans → Wt G X j_X12_next b_X12_next 8 [(0, rf G.1 a0)] [] M 0 0) {M : Mm} {l0 : Option Nat} (h : f_X12_next_45 k8 M l0 = some ans) : Wt G X j_X12_next b_X12_next 45 [(0, rf G.1 l0)] [] M 0 0 := by
  unfold f_X12_next_45 at h
  refine wt_aload_n (pc := 45) 0 dX12_next_45 rfl ?_
  refine wt_dup (pc := 46) dX12_next_46 (rf_cat _ _) ?_
  refine wt_getI (pc := 47) dX12_next_47 fl_X12_117 (fun _ _ _ => rfl) h (fun v47 h => ?_)
  refine wt_iconst (pc := 50) (v := 1) dX12_next_50 (by decide) ?_
  refine wt_iadd (pc := 51) dX12_next_51 ?_
  refine wt_putI (pc := 52) dX12_next_52 fl_X12_117 rfl rfl h (fun M52 h => ?_)
  refine wt_goto (pc := 55) (tgt := 8) dX12_next_55 (by decide) ?_
  exact hk8 _ _ h
set_option maxHeartbeats 4000000 in
set_option maxRecDepth 100000 in
theorem t_X12_next_8 {G : GG} {X : CX} {ans : Mm} (he : EndV G X j_X12_next b_X12_next ans) : ∀ (n : Nat) {M : Mm} {l0 : Option Nat}, f_X12_next_8 n M l0 = some ans → Wt G X j_X12_next b_X12_next 8 [(0, rf G.1 l0)] [] M 0 0 := by
  intro n
  induction n with
  | zero =>
    intro M l0 h
    rw [f_X12_next_8] at h
    cases h
  | succ n ih =>
    intro M l0 h
    rw [f_X12_next_8] at h
    refine wt_aload_n (pc := 8) 0 dX12_next_8 rfl ?_
    refine wt_getI (pc := 9) dX12_next_9 fl_X12_117 (fun _ _ _ => rfl) h (fun v9 h => ?_)
    refine wt_aload_n (pc := 12) 0 dX12_next_12 rfl ?_
    refine wt_getI (pc := 13) dX12_next_13 fl_X12_111 (fun _ _ _ => rfl) h (fun v13 h => ?_)
    refine wt_icmp_ge (pc := 16) (tgt := 58) dX12_next_16 (by decide) (fun q => ?_) (fun q => ?_)
    · have h := ite_t q h
      exact t_X12_next_58 he  h
    · have h := ite_f q h
      refine wt_aload_n (pc := 19) 0 dX12_next_19 rfl ?_
      refine wt_aload_n (pc := 20) 0 dX12_next_20 rfl ?_
      refine wt_getI (pc := 21) dX12_next_21 fl_X12_117 (fun _ _ _ => rfl) h (fun v21 h => ?_)
      refine wt_cVI (pc := 24) (J' := j_X12_look2) (As := [.int v21]) (st := []) (B' := b_X12_look2) (u' := 0) (w' := 0) dX12_next_24 ml_X12_120 mv_X12_look2 (fun v9 M9 e9 => c_X12_look2 e9) rfl (by decide) rfl rfl (by decide) (by decide) (by decide) rfl h (fun v24 M24 h => ?_)
      refine wt_bipush (pc := 27) (v := 10) dX12_next_27 (by decide) ?_
      refine wt_icmp_eq (pc := 29) (tgt := 45) dX12_next_29 (by decide) (fun q => ?_) (fun q => ?_)
      · have h := ite_t q h
        exact t_X12_next_45 he (fun _ _ h => ih h) h
      · have h := ite_f q h
        refine wt_aload_n (pc := 32) 0 dX12_next_32 rfl ?_
        refine wt_aload_n (pc := 33) 0 dX12_next_33 rfl ?_
        refine wt_getI (pc := 34) dX12_next_34 fl_X12_117 (fun _ _ _ => rfl) h (fun v34 h => ?_)
        refine wt_cVI (pc := 37) (J' := j_X12_look2) (As := [.int v34]) (st := []) (B' := b_X12_look2) (u' := 0) (w' := 0) dX12_next_37 ml_X12_120 mv_X12_look2 (fun v9 M9 e9 => c_X12_look2 e9) rfl (by decide) rfl rfl (by decide) (by decide) (by decide) rfl h (fun v37 M37 h => ?_)
        refine wt_bipush (pc := 40) (v := 32) dX12_next_40 (by decide) ?_
        refine wt_icmp_ne (pc := 42) (tgt := 58) dX12_next_42 (by decide) (fun q => ?_) (fun q => ?_)
        · have h := ite_f q h
          exact t_X12_next_58 he  h
        · have h := ite_t q h
          exact t_X12_next_45 he (fun _ _ h => ih h) h
set_option maxHeartbeats 4000000 in
set_option maxRecDepth 100000 in
theorem t_X12_next_e {G : GG} {X : CX} {ans : Mm} (he : EndV G X j_X12_next b_X12_next ans) {M : Mm} {l0 : Option Nat} (h : f_X12_next M l0 = some ans) : Wt G X j_X12_next b_X12_next 0 [(0, rf G.1 l0)] [] M 0 0 := by
  unfold f_X12_next at h
  refine wt_aload_n (pc := 0) 0 dX12_next_0 rfl ?_
  refine wt_aload_n (pc := 1) 0 dX12_next_1 rfl ?_
  refine wt_getI (pc := 2) dX12_next_2 fl_X12_114 (fun _ _ _ => rfl) h (fun v2 h => ?_)
  refine wt_putI (pc := 5) dX12_next_5 fl_X12_117 rfl rfl h (fun M5 h => ?_)
  exact t_X12_next_8 he  fu h
set_option maxHeartbeats 4000000 in
set_option maxRecDepth 100000 in
theorem c_X12_next {G : GG} {M : Mm} {l0 : Option Nat} {r : Mm} (h : f_X12_next M l0 = some r) (l : Launch) : Ct l G j_X12_next b_X12_next [rf G.1 l0] M none r := cf_V (by decide +kernel) (by simp [lg_sl, rf_cat, cat_i, cat_l, j_X12_next]) rfl (by simp [lv_args, rf_cat, cat_i, cat_l]) (fun X he => t_X12_next_e he h)

theorem fl_X6_9 : FLk RX6 9 6 0 := ⟨_, rfl, by decide, Or.inl (gw_at 292 (by decide +kernel) rfl)⟩
theorem fl_X6_15 : FLk RX6 15 6 2 := ⟨_, rfl, by decide, Or.inl (gw_at 295 (by decide +kernel) rfl)⟩
theorem fl_X6_35 : FLk RX6 35 6 1 := ⟨_, rfl, by decide, Or.inl (gw_at 293 (by decide +kernel) rfl)⟩
theorem fl_X6_39 : FLk RX6 39 6 3 := ⟨_, rfl, by decide, Or.inl (gw_at 296 (by decide +kernel) rfl)⟩
theorem fl_X6_41 : FLk RX6 41 6 4 := ⟨_, rfl, by decide, Or.inl (gw_at 297 (by decide +kernel) rfl)⟩
theorem fl_X6_44 : FLk RX6 44 6 12 := ⟨_, rfl, by decide, Or.inl (gw_at 314 (by decide +kernel) rfl)⟩
theorem fl_X6_47 : FLk RX6 47 6 13 := ⟨_, rfl, by decide, Or.inl (gw_at 316 (by decide +kernel) rfl)⟩
theorem fl_X6_53 : FLk RX6 53 6 6 := ⟨_, rfl, by decide, Or.inl (gw_at 301 (by decide +kernel) rfl)⟩
theorem fl_X6_56 : FLk RX6 56 6 7 := ⟨_, rfl, by decide, Or.inl (gw_at 305 (by decide +kernel) rfl)⟩
theorem fl_X6_61 : FLk RX6 61 6 8 := ⟨_, rfl, by decide, Or.inl (gw_at 307 (by decide +kernel) rfl)⟩
theorem fl_X6_65 : FLk RX6 65 6 5 := ⟨_, rfl, by decide, Or.inl (gw_at 300 (by decide +kernel) rfl)⟩
theorem fl_X6_77 : FLk RX6 77 6 9 := ⟨_, rfl, by decide, Or.inl (gw_at 308 (by decide +kernel) rfl)⟩
theorem fl_X6_80 : FLk RX6 80 6 10 := ⟨_, rfl, by decide, Or.inl (gw_at 309 (by decide +kernel) rfl)⟩
theorem fl_X6_92 : FLk RX6 92 6 11 := ⟨_, rfl, by decide, Or.inl (gw_at 313 (by decide +kernel) rfl)⟩
theorem ff_X6_9 : FFk RX6 9 6 0 := ⟨_, rfl, by decide, rfl, rfl, gw_at 292 (by decide +kernel) rfl⟩
theorem ff_X6_15 : FFk RX6 15 6 2 := ⟨_, rfl, by decide, rfl, rfl, gw_at 295 (by decide +kernel) rfl⟩
theorem kc_X6_31 : Cond.constantLong RX6 31 27 ∈ GW := gw_at 290 (by decide +kernel) rfl
theorem kc_X6_33 : Cond.constantLong RX6 33 97 ∈ GW := gw_at 291 (by decide +kernel) rfl
theorem kc_X6_59 : Cond.constantLong RX6 59 (-1) ∈ GW := gw_at 859 (by decide +kernel) rfl
theorem oi_X6_3 : Cond.methodLink RX6 3 Lib.objectInit ∈ GW := gw_at 240 (by decide +kernel) rfl
theorem dX6_readWord_0 : decode cX6_readWord 0 = .ok (.lconst 0, 1) := by decide +kernel
theorem dX6_readWord_1 : decode cX6_readWord 1 = .ok (.lstore_n 1, 1) := by decide +kernel
theorem dX6_readWord_2 : decode cX6_readWord 2 = .ok (.aload_n 0, 1) := by decide +kernel
theorem dX6_readWord_3 : decode cX6_readWord 3 = .ok (.getfield 41, 3) := by decide +kernel
theorem dX6_readWord_6 : decode cX6_readWord 6 = .ok (.aload_n 0, 1) := by decide +kernel
theorem dX6_readWord_7 : decode cX6_readWord 7 = .ok (.getfield 39, 3) := by decide +kernel
theorem dX6_readWord_10 : decode cX6_readWord 10 = .ok (.if_icmp .ge 67, 3) := by decide +kernel
theorem dX6_readWord_13 : decode cX6_readWord 13 = .ok (.aload_n 0, 1) := by decide +kernel
theorem dX6_readWord_14 : decode cX6_readWord 14 = .ok (.getfield 9, 3) := by decide +kernel
theorem dX6_readWord_17 : decode cX6_readWord 17 = .ok (.aload_n 0, 1) := by decide +kernel
theorem dX6_readWord_18 : decode cX6_readWord 18 = .ok (.getfield 41, 3) := by decide +kernel
theorem dX6_readWord_21 : decode cX6_readWord 21 = .ok (.baload, 1) := by decide +kernel
theorem dX6_readWord_22 : decode cX6_readWord 22 = .ok (.bipush 97, 2) := by decide +kernel
theorem dX6_readWord_24 : decode cX6_readWord 24 = .ok (.if_icmp .lt 53, 3) := by decide +kernel
theorem dX6_readWord_27 : decode cX6_readWord 27 = .ok (.aload_n 0, 1) := by decide +kernel
theorem dX6_readWord_28 : decode cX6_readWord 28 = .ok (.getfield 9, 3) := by decide +kernel
theorem dX6_readWord_31 : decode cX6_readWord 31 = .ok (.aload_n 0, 1) := by decide +kernel
theorem dX6_readWord_32 : decode cX6_readWord 32 = .ok (.getfield 41, 3) := by decide +kernel
theorem dX6_readWord_35 : decode cX6_readWord 35 = .ok (.baload, 1) := by decide +kernel
theorem dX6_readWord_36 : decode cX6_readWord 36 = .ok (.bipush 122, 2) := by decide +kernel
theorem dX6_readWord_38 : decode cX6_readWord 38 = .ok (.if_icmp .gt 39, 3) := by decide +kernel
theorem dX6_readWord_41 : decode cX6_readWord 41 = .ok (.lload_n 1, 1) := by decide +kernel
theorem dX6_readWord_42 : decode cX6_readWord 42 = .ok (.ldc2_w 31, 3) := by decide +kernel
theorem dX6_readWord_45 : decode cX6_readWord 45 = .ok (.lmul, 1) := by decide +kernel
theorem dX6_readWord_46 : decode cX6_readWord 46 = .ok (.aload_n 0, 1) := by decide +kernel
theorem dX6_readWord_47 : decode cX6_readWord 47 = .ok (.getfield 9, 3) := by decide +kernel
theorem dX6_readWord_50 : decode cX6_readWord 50 = .ok (.aload_n 0, 1) := by decide +kernel
theorem dX6_readWord_51 : decode cX6_readWord 51 = .ok (.getfield 41, 3) := by decide +kernel
theorem dX6_readWord_54 : decode cX6_readWord 54 = .ok (.baload, 1) := by decide +kernel
theorem dX6_readWord_55 : decode cX6_readWord 55 = .ok (.i2l, 1) := by decide +kernel
theorem dX6_readWord_56 : decode cX6_readWord 56 = .ok (.ladd, 1) := by decide +kernel
theorem dX6_readWord_57 : decode cX6_readWord 57 = .ok (.ldc2_w 33, 3) := by decide +kernel
theorem dX6_readWord_60 : decode cX6_readWord 60 = .ok (.lsub, 1) := by decide +kernel
theorem dX6_readWord_61 : decode cX6_readWord 61 = .ok (.lconst 1, 1) := by decide +kernel
theorem dX6_readWord_62 : decode cX6_readWord 62 = .ok (.ladd, 1) := by decide +kernel
theorem dX6_readWord_63 : decode cX6_readWord 63 = .ok (.lstore_n 1, 1) := by decide +kernel
theorem dX6_readWord_64 : decode cX6_readWord 64 = .ok (.aload_n 0, 1) := by decide +kernel
theorem dX6_readWord_65 : decode cX6_readWord 65 = .ok (.dup, 1) := by decide +kernel
theorem dX6_readWord_66 : decode cX6_readWord 66 = .ok (.getfield 41, 3) := by decide +kernel
theorem dX6_readWord_69 : decode cX6_readWord 69 = .ok (.iconst 1, 1) := by decide +kernel
theorem dX6_readWord_70 : decode cX6_readWord 70 = .ok (.iadd, 1) := by decide +kernel
theorem dX6_readWord_71 : decode cX6_readWord 71 = .ok (.putfield 41, 3) := by decide +kernel
theorem dX6_readWord_74 : decode cX6_readWord 74 = .ok (.goto (-72), 3) := by decide +kernel
theorem dX6_readWord_77 : decode cX6_readWord 77 = .ok (.aload_n 0, 1) := by decide +kernel
theorem dX6_readWord_78 : decode cX6_readWord 78 = .ok (.getfield 41, 3) := by decide +kernel
theorem dX6_readWord_81 : decode cX6_readWord 81 = .ok (.aload_n 0, 1) := by decide +kernel
theorem dX6_readWord_82 : decode cX6_readWord 82 = .ok (.getfield 53, 3) := by decide +kernel
theorem dX6_readWord_85 : decode cX6_readWord 85 = .ok (.if_icmp .le 8, 3) := by decide +kernel
theorem dX6_readWord_88 : decode cX6_readWord 88 = .ok (.aload_n 0, 1) := by decide +kernel
theorem dX6_readWord_89 : decode cX6_readWord 89 = .ok (.iconst 2, 1) := by decide +kernel
theorem dX6_readWord_90 : decode cX6_readWord 90 = .ok (.putfield 65, 3) := by decide +kernel
theorem dX6_readWord_93 : decode cX6_readWord 93 = .ok (.aload_n 0, 1) := by decide +kernel
theorem dX6_readWord_94 : decode cX6_readWord 94 = .ok (.getfield 41, 3) := by decide +kernel
theorem dX6_readWord_97 : decode cX6_readWord 97 = .ok (.aload_n 0, 1) := by decide +kernel
theorem dX6_readWord_98 : decode cX6_readWord 98 = .ok (.getfield 53, 3) := by decide +kernel
theorem dX6_readWord_101 : decode cX6_readWord 101 = .ok (.if_icmp .eq 17, 3) := by decide +kernel
theorem dX6_readWord_104 : decode cX6_readWord 104 = .ok (.aload_n 0, 1) := by decide +kernel
theorem dX6_readWord_105 : decode cX6_readWord 105 = .ok (.getfield 41, 3) := by decide +kernel
theorem dX6_readWord_108 : decode cX6_readWord 108 = .ok (.aload_n 0, 1) := by decide +kernel
theorem dX6_readWord_109 : decode cX6_readWord 109 = .ok (.getfield 53, 3) := by decide +kernel
theorem dX6_readWord_112 : decode cX6_readWord 112 = .ok (.isub, 1) := by decide +kernel
theorem dX6_readWord_113 : decode cX6_readWord 113 = .ok (.bipush 8, 2) := by decide +kernel
theorem dX6_readWord_115 : decode cX6_readWord 115 = .ok (.if_icmp .le 4, 3) := by decide +kernel
theorem dX6_readWord_118 : decode cX6_readWord 118 = .ok (.return_, 1) := by decide +kernel
theorem dX6_readWord_119 : decode cX6_readWord 119 = .ok (.aload_n 0, 1) := by decide +kernel
theorem dX6_readWord_120 : decode cX6_readWord 120 = .ok (.lload_n 1, 1) := by decide +kernel
theorem dX6_readWord_121 : decode cX6_readWord 121 = .ok (.putfield 61, 3) := by decide +kernel
theorem dX6_readWord_124 : decode cX6_readWord 124 = .ok (.iconst 0, 1) := by decide +kernel
theorem dX6_readWord_125 : decode cX6_readWord 125 = .ok (.istore_n 3, 1) := by decide +kernel
theorem dX6_readWord_126 : decode cX6_readWord 126 = .ok (.iload_n 3, 1) := by decide +kernel
theorem dX6_readWord_127 : decode cX6_readWord 127 = .ok (.bipush 30, 2) := by decide +kernel
theorem dX6_readWord_129 : decode cX6_readWord 129 = .ok (.if_icmp .ge 25, 3) := by decide +kernel
theorem dX6_readWord_132 : decode cX6_readWord 132 = .ok (.aload_n 0, 1) := by decide +kernel
theorem dX6_readWord_133 : decode cX6_readWord 133 = .ok (.getfield 15, 3) := by decide +kernel
theorem dX6_readWord_136 : decode cX6_readWord 136 = .ok (.iload_n 3, 1) := by decide +kernel
theorem dX6_readWord_137 : decode cX6_readWord 137 = .ok (.laload, 1) := by decide +kernel
theorem dX6_readWord_138 : decode cX6_readWord 138 = .ok (.lload_n 1, 1) := by decide +kernel
theorem dX6_readWord_139 : decode cX6_readWord 139 = .ok (.lcmp, 1) := by decide +kernel
theorem dX6_readWord_140 : decode cX6_readWord 140 = .ok (.ifCond .ne 8, 3) := by decide +kernel
theorem dX6_readWord_143 : decode cX6_readWord 143 = .ok (.aload_n 0, 1) := by decide +kernel
theorem dX6_readWord_144 : decode cX6_readWord 144 = .ok (.iload_n 3, 1) := by decide +kernel
theorem dX6_readWord_145 : decode cX6_readWord 145 = .ok (.putfield 56, 3) := by decide +kernel
theorem dX6_readWord_148 : decode cX6_readWord 148 = .ok (.iinc 3 1, 3) := by decide +kernel
theorem dX6_readWord_151 : decode cX6_readWord 151 = .ok (.goto (-25), 3) := by decide +kernel
theorem dX6_readWord_154 : decode cX6_readWord 154 = .ok (.return_, 1) := by decide +kernel
def j_X6_readWord : JD := (yX6_readWord, cX6_readWord, 4, none)
def b_X6_readWord : BD := (0, 0, 0)
theorem dX6_readNumber_0 : decode cX6_readNumber 0 = .ok (.aload_n 0, 1) := by decide +kernel
theorem dX6_readNumber_1 : decode cX6_readNumber 1 = .ok (.iconst 0, 1) := by decide +kernel
theorem dX6_readNumber_2 : decode cX6_readNumber 2 = .ok (.putfield 77, 3) := by decide +kernel
theorem dX6_readNumber_5 : decode cX6_readNumber 5 = .ok (.aload_n 0, 1) := by decide +kernel
theorem dX6_readNumber_6 : decode cX6_readNumber 6 = .ok (.getfield 41, 3) := by decide +kernel
theorem dX6_readNumber_9 : decode cX6_readNumber 9 = .ok (.aload_n 0, 1) := by decide +kernel
theorem dX6_readNumber_10 : decode cX6_readNumber 10 = .ok (.getfield 39, 3) := by decide +kernel
theorem dX6_readNumber_13 : decode cX6_readNumber 13 = .ok (.if_icmp .ge 68, 3) := by decide +kernel
theorem dX6_readNumber_16 : decode cX6_readNumber 16 = .ok (.aload_n 0, 1) := by decide +kernel
theorem dX6_readNumber_17 : decode cX6_readNumber 17 = .ok (.getfield 9, 3) := by decide +kernel
theorem dX6_readNumber_20 : decode cX6_readNumber 20 = .ok (.aload_n 0, 1) := by decide +kernel
theorem dX6_readNumber_21 : decode cX6_readNumber 21 = .ok (.getfield 41, 3) := by decide +kernel
theorem dX6_readNumber_24 : decode cX6_readNumber 24 = .ok (.baload, 1) := by decide +kernel
theorem dX6_readNumber_25 : decode cX6_readNumber 25 = .ok (.bipush 48, 2) := by decide +kernel
theorem dX6_readNumber_27 : decode cX6_readNumber 27 = .ok (.if_icmp .lt 54, 3) := by decide +kernel
theorem dX6_readNumber_30 : decode cX6_readNumber 30 = .ok (.aload_n 0, 1) := by decide +kernel
theorem dX6_readNumber_31 : decode cX6_readNumber 31 = .ok (.getfield 9, 3) := by decide +kernel
theorem dX6_readNumber_34 : decode cX6_readNumber 34 = .ok (.aload_n 0, 1) := by decide +kernel
theorem dX6_readNumber_35 : decode cX6_readNumber 35 = .ok (.getfield 41, 3) := by decide +kernel
theorem dX6_readNumber_38 : decode cX6_readNumber 38 = .ok (.baload, 1) := by decide +kernel
theorem dX6_readNumber_39 : decode cX6_readNumber 39 = .ok (.bipush 57, 2) := by decide +kernel
theorem dX6_readNumber_41 : decode cX6_readNumber 41 = .ok (.if_icmp .gt 40, 3) := by decide +kernel
theorem dX6_readNumber_44 : decode cX6_readNumber 44 = .ok (.aload_n 0, 1) := by decide +kernel
theorem dX6_readNumber_45 : decode cX6_readNumber 45 = .ok (.aload_n 0, 1) := by decide +kernel
theorem dX6_readNumber_46 : decode cX6_readNumber 46 = .ok (.getfield 77, 3) := by decide +kernel
theorem dX6_readNumber_49 : decode cX6_readNumber 49 = .ok (.bipush 10, 2) := by decide +kernel
theorem dX6_readNumber_51 : decode cX6_readNumber 51 = .ok (.imul, 1) := by decide +kernel
theorem dX6_readNumber_52 : decode cX6_readNumber 52 = .ok (.aload_n 0, 1) := by decide +kernel
theorem dX6_readNumber_53 : decode cX6_readNumber 53 = .ok (.getfield 9, 3) := by decide +kernel
theorem dX6_readNumber_56 : decode cX6_readNumber 56 = .ok (.aload_n 0, 1) := by decide +kernel
theorem dX6_readNumber_57 : decode cX6_readNumber 57 = .ok (.getfield 41, 3) := by decide +kernel
theorem dX6_readNumber_60 : decode cX6_readNumber 60 = .ok (.baload, 1) := by decide +kernel
theorem dX6_readNumber_61 : decode cX6_readNumber 61 = .ok (.iadd, 1) := by decide +kernel
theorem dX6_readNumber_62 : decode cX6_readNumber 62 = .ok (.bipush 48, 2) := by decide +kernel
theorem dX6_readNumber_64 : decode cX6_readNumber 64 = .ok (.isub, 1) := by decide +kernel
theorem dX6_readNumber_65 : decode cX6_readNumber 65 = .ok (.putfield 77, 3) := by decide +kernel
theorem dX6_readNumber_68 : decode cX6_readNumber 68 = .ok (.aload_n 0, 1) := by decide +kernel
theorem dX6_readNumber_69 : decode cX6_readNumber 69 = .ok (.dup, 1) := by decide +kernel
theorem dX6_readNumber_70 : decode cX6_readNumber 70 = .ok (.getfield 41, 3) := by decide +kernel
theorem dX6_readNumber_73 : decode cX6_readNumber 73 = .ok (.iconst 1, 1) := by decide +kernel
theorem dX6_readNumber_74 : decode cX6_readNumber 74 = .ok (.iadd, 1) := by decide +kernel
theorem dX6_readNumber_75 : decode cX6_readNumber 75 = .ok (.putfield 41, 3) := by decide +kernel
theorem dX6_readNumber_78 : decode cX6_readNumber 78 = .ok (.goto (-73), 3) := by decide +kernel
theorem dX6_readNumber_81 : decode cX6_readNumber 81 = .ok (.aload_n 0, 1) := by decide +kernel
theorem dX6_readNumber_82 : decode cX6_readNumber 82 = .ok (.getfield 41, 3) := by decide +kernel
theorem dX6_readNumber_85 : decode cX6_readNumber 85 = .ok (.aload_n 0, 1) := by decide +kernel
theorem dX6_readNumber_86 : decode cX6_readNumber 86 = .ok (.getfield 53, 3) := by decide +kernel
theorem dX6_readNumber_89 : decode cX6_readNumber 89 = .ok (.if_icmp .le 25, 3) := by decide +kernel
theorem dX6_readNumber_92 : decode cX6_readNumber 92 = .ok (.aload_n 0, 1) := by decide +kernel
theorem dX6_readNumber_93 : decode cX6_readNumber 93 = .ok (.aload_n 0, 1) := by decide +kernel
theorem dX6_readNumber_94 : decode cX6_readNumber 94 = .ok (.getfield 41, 3) := by decide +kernel
theorem dX6_readNumber_97 : decode cX6_readNumber 97 = .ok (.aload_n 0, 1) := by decide +kernel
theorem dX6_readNumber_98 : decode cX6_readNumber 98 = .ok (.getfield 53, 3) := by decide +kernel
theorem dX6_readNumber_101 : decode cX6_readNumber 101 = .ok (.isub, 1) := by decide +kernel
theorem dX6_readNumber_102 : decode cX6_readNumber 102 = .ok (.iconst 4, 1) := by decide +kernel
theorem dX6_readNumber_103 : decode cX6_readNumber 103 = .ok (.if_icmp .le 7, 3) := by decide +kernel
theorem dX6_readNumber_106 : decode cX6_readNumber 106 = .ok (.iconst 1, 1) := by decide +kernel
theorem dX6_readNumber_107 : decode cX6_readNumber 107 = .ok (.goto 4, 3) := by decide +kernel
theorem dX6_readNumber_110 : decode cX6_readNumber 110 = .ok (.iconst 3, 1) := by decide +kernel
theorem dX6_readNumber_111 : decode cX6_readNumber 111 = .ok (.putfield 65, 3) := by decide +kernel
theorem dX6_readNumber_114 : decode cX6_readNumber 114 = .ok (.return_, 1) := by decide +kernel
def j_X6_readNumber : JD := (yX6_readNumber, cX6_readNumber, 1, none)
def b_X6_readNumber : BD := (0, 0, 0)
theorem dX6_readSign_0 : decode cX6_readSign 0 = .ok (.aload_n 0, 1) := by decide +kernel
theorem dX6_readSign_1 : decode cX6_readSign 1 = .ok (.aload_n 0, 1) := by decide +kernel
theorem dX6_readSign_2 : decode cX6_readSign 2 = .ok (.getfield 9, 3) := by decide +kernel
theorem dX6_readSign_5 : decode cX6_readSign 5 = .ok (.aload_n 0, 1) := by decide +kernel
theorem dX6_readSign_6 : decode cX6_readSign 6 = .ok (.getfield 41, 3) := by decide +kernel
theorem dX6_readSign_9 : decode cX6_readSign 9 = .ok (.baload, 1) := by decide +kernel
theorem dX6_readSign_10 : decode cX6_readSign 10 = .ok (.sipush 255, 3) := by decide +kernel
theorem dX6_readSign_13 : decode cX6_readSign 13 = .ok (.iand, 1) := by decide +kernel
theorem dX6_readSign_14 : decode cX6_readSign 14 = .ok (.i2c, 1) := by decide +kernel
theorem dX6_readSign_15 : decode cX6_readSign 15 = .ok (.putfield 80, 3) := by decide +kernel
theorem dX6_readSign_18 : decode cX6_readSign 18 = .ok (.aload_n 0, 1) := by decide +kernel
theorem dX6_readSign_19 : decode cX6_readSign 19 = .ok (.getfield 80, 3) := by decide +kernel
theorem dX6_readSign_22 : decode cX6_readSign 22 = .ok (.bipush 59, 2) := by decide +kernel
theorem dX6_readSign_24 : decode cX6_readSign 24 = .ok (.if_icmp .eq 30, 3) := by decide +kernel
theorem dX6_readSign_27 : decode cX6_readSign 27 = .ok (.aload_n 0, 1) := by decide +kernel
theorem dX6_readSign_28 : decode cX6_readSign 28 = .ok (.getfield 80, 3) := by decide +kernel
theorem dX6_readSign_31 : decode cX6_readSign 31 = .ok (.bipush 60, 2) := by decide +kernel
theorem dX6_readSign_33 : decode cX6_readSign 33 = .ok (.if_icmp .eq 21, 3) := by decide +kernel
theorem dX6_readSign_36 : decode cX6_readSign 36 = .ok (.aload_n 0, 1) := by decide +kernel
theorem dX6_readSign_37 : decode cX6_readSign 37 = .ok (.getfield 80, 3) := by decide +kernel
theorem dX6_readSign_40 : decode cX6_readSign 40 = .ok (.bipush 62, 2) := by decide +kernel
theorem dX6_readSign_42 : decode cX6_readSign 42 = .ok (.if_icmp .eq 12, 3) := by decide +kernel
theorem dX6_readSign_45 : decode cX6_readSign 45 = .ok (.aload_n 0, 1) := by decide +kernel
theorem dX6_readSign_46 : decode cX6_readSign 46 = .ok (.getfield 80, 3) := by decide +kernel
theorem dX6_readSign_49 : decode cX6_readSign 49 = .ok (.bipush 61, 2) := by decide +kernel
theorem dX6_readSign_51 : decode cX6_readSign 51 = .ok (.if_icmp .ne 7, 3) := by decide +kernel
theorem dX6_readSign_54 : decode cX6_readSign 54 = .ok (.iconst 1, 1) := by decide +kernel
theorem dX6_readSign_55 : decode cX6_readSign 55 = .ok (.goto 4, 3) := by decide +kernel
theorem dX6_readSign_58 : decode cX6_readSign 58 = .ok (.iconst 0, 1) := by decide +kernel
theorem dX6_readSign_59 : decode cX6_readSign 59 = .ok (.istore_n 1, 1) := by decide +kernel
theorem dX6_readSign_60 : decode cX6_readSign 60 = .ok (.aload_n 0, 1) := by decide +kernel
theorem dX6_readSign_61 : decode cX6_readSign 61 = .ok (.iload_n 1, 1) := by decide +kernel
theorem dX6_readSign_62 : decode cX6_readSign 62 = .ok (.ifCond .eq 7, 3) := by decide +kernel
theorem dX6_readSign_65 : decode cX6_readSign 65 = .ok (.iconst 4, 1) := by decide +kernel
theorem dX6_readSign_66 : decode cX6_readSign 66 = .ok (.goto 4, 3) := by decide +kernel
theorem dX6_readSign_69 : decode cX6_readSign 69 = .ok (.iconst 1, 1) := by decide +kernel
theorem dX6_readSign_70 : decode cX6_readSign 70 = .ok (.putfield 65, 3) := by decide +kernel
theorem dX6_readSign_73 : decode cX6_readSign 73 = .ok (.aload_n 0, 1) := by decide +kernel
theorem dX6_readSign_74 : decode cX6_readSign 74 = .ok (.dup, 1) := by decide +kernel
theorem dX6_readSign_75 : decode cX6_readSign 75 = .ok (.getfield 41, 3) := by decide +kernel
theorem dX6_readSign_78 : decode cX6_readSign 78 = .ok (.iconst 1, 1) := by decide +kernel
theorem dX6_readSign_79 : decode cX6_readSign 79 = .ok (.iadd, 1) := by decide +kernel
theorem dX6_readSign_80 : decode cX6_readSign 80 = .ok (.putfield 41, 3) := by decide +kernel
theorem dX6_readSign_83 : decode cX6_readSign 83 = .ok (.return_, 1) := by decide +kernel
def j_X6_readSign : JD := (yX6_readSign, cX6_readSign, 2, none)
def b_X6_readSign : BD := (0, 0, 0)
theorem dX6_step_0 : decode cX6_step 0 = .ok (.aload_n 0, 1) := by decide +kernel
theorem dX6_step_1 : decode cX6_step 1 = .ok (.getfield 41, 3) := by decide +kernel
theorem dX6_step_4 : decode cX6_step 4 = .ok (.aload_n 0, 1) := by decide +kernel
theorem dX6_step_5 : decode cX6_step 5 = .ok (.getfield 39, 3) := by decide +kernel
theorem dX6_step_8 : decode cX6_step 8 = .ok (.if_icmp .ge 44, 3) := by decide +kernel
theorem dX6_step_11 : decode cX6_step 11 = .ok (.aload_n 0, 1) := by decide +kernel
theorem dX6_step_12 : decode cX6_step 12 = .ok (.getfield 9, 3) := by decide +kernel
theorem dX6_step_15 : decode cX6_step 15 = .ok (.aload_n 0, 1) := by decide +kernel
theorem dX6_step_16 : decode cX6_step 16 = .ok (.getfield 41, 3) := by decide +kernel
theorem dX6_step_19 : decode cX6_step 19 = .ok (.baload, 1) := by decide +kernel
theorem dX6_step_20 : decode cX6_step 20 = .ok (.bipush 32, 2) := by decide +kernel
theorem dX6_step_22 : decode cX6_step 22 = .ok (.if_icmp .eq 17, 3) := by decide +kernel
theorem dX6_step_25 : decode cX6_step 25 = .ok (.aload_n 0, 1) := by decide +kernel
theorem dX6_step_26 : decode cX6_step 26 = .ok (.getfield 9, 3) := by decide +kernel
theorem dX6_step_29 : decode cX6_step 29 = .ok (.aload_n 0, 1) := by decide +kernel
theorem dX6_step_30 : decode cX6_step 30 = .ok (.getfield 41, 3) := by decide +kernel
theorem dX6_step_33 : decode cX6_step 33 = .ok (.baload, 1) := by decide +kernel
theorem dX6_step_34 : decode cX6_step 34 = .ok (.bipush 10, 2) := by decide +kernel
theorem dX6_step_36 : decode cX6_step 36 = .ok (.if_icmp .ne 16, 3) := by decide +kernel
theorem dX6_step_39 : decode cX6_step 39 = .ok (.aload_n 0, 1) := by decide +kernel
theorem dX6_step_40 : decode cX6_step 40 = .ok (.dup, 1) := by decide +kernel
theorem dX6_step_41 : decode cX6_step 41 = .ok (.getfield 41, 3) := by decide +kernel
theorem dX6_step_44 : decode cX6_step 44 = .ok (.iconst 1, 1) := by decide +kernel
theorem dX6_step_45 : decode cX6_step 45 = .ok (.iadd, 1) := by decide +kernel
theorem dX6_step_46 : decode cX6_step 46 = .ok (.putfield 41, 3) := by decide +kernel
theorem dX6_step_49 : decode cX6_step 49 = .ok (.goto (-49), 3) := by decide +kernel
theorem dX6_step_52 : decode cX6_step 52 = .ok (.aload_n 0, 1) := by decide +kernel
theorem dX6_step_53 : decode cX6_step 53 = .ok (.aload_n 0, 1) := by decide +kernel
theorem dX6_step_54 : decode cX6_step 54 = .ok (.getfield 41, 3) := by decide +kernel
theorem dX6_step_57 : decode cX6_step 57 = .ok (.putfield 53, 3) := by decide +kernel
theorem dX6_step_60 : decode cX6_step 60 = .ok (.aload_n 0, 1) := by decide +kernel
theorem dX6_step_61 : decode cX6_step 61 = .ok (.iconst (-1), 1) := by decide +kernel
theorem dX6_step_62 : decode cX6_step 62 = .ok (.putfield 56, 3) := by decide +kernel
theorem dX6_step_65 : decode cX6_step 65 = .ok (.aload_n 0, 1) := by decide +kernel
theorem dX6_step_66 : decode cX6_step 66 = .ok (.ldc2_w 59, 3) := by decide +kernel
theorem dX6_step_69 : decode cX6_step 69 = .ok (.putfield 61, 3) := by decide +kernel
theorem dX6_step_72 : decode cX6_step 72 = .ok (.aload_n 0, 1) := by decide +kernel
theorem dX6_step_73 : decode cX6_step 73 = .ok (.iconst 0, 1) := by decide +kernel
theorem dX6_step_74 : decode cX6_step 74 = .ok (.putfield 65, 3) := by decide +kernel
theorem dX6_step_77 : decode cX6_step 77 = .ok (.aload_n 0, 1) := by decide +kernel
theorem dX6_step_78 : decode cX6_step 78 = .ok (.invokevirtual 68, 3) := by decide +kernel
theorem dX6_step_81 : decode cX6_step 81 = .ok (.aload_n 0, 1) := by decide +kernel
theorem dX6_step_82 : decode cX6_step 82 = .ok (.getfield 65, 3) := by decide +kernel
theorem dX6_step_85 : decode cX6_step 85 = .ok (.ifCond .ne 7, 3) := by decide +kernel
theorem dX6_step_88 : decode cX6_step 88 = .ok (.aload_n 0, 1) := by decide +kernel
theorem dX6_step_89 : decode cX6_step 89 = .ok (.invokevirtual 71, 3) := by decide +kernel
theorem dX6_step_92 : decode cX6_step 92 = .ok (.aload_n 0, 1) := by decide +kernel
theorem dX6_step_93 : decode cX6_step 93 = .ok (.getfield 65, 3) := by decide +kernel
theorem dX6_step_96 : decode cX6_step 96 = .ok (.ifCond .ne 18, 3) := by decide +kernel
theorem dX6_step_99 : decode cX6_step 99 = .ok (.aload_n 0, 1) := by decide +kernel
theorem dX6_step_100 : decode cX6_step 100 = .ok (.getfield 41, 3) := by decide +kernel
theorem dX6_step_103 : decode cX6_step 103 = .ok (.aload_n 0, 1) := by decide +kernel
theorem dX6_step_104 : decode cX6_step 104 = .ok (.getfield 39, 3) := by decide +kernel
theorem dX6_step_107 : decode cX6_step 107 = .ok (.if_icmp .ge 7, 3) := by decide +kernel
theorem dX6_step_110 : decode cX6_step 110 = .ok (.aload_n 0, 1) := by decide +kernel
theorem dX6_step_111 : decode cX6_step 111 = .ok (.invokevirtual 74, 3) := by decide +kernel
theorem dX6_step_114 : decode cX6_step 114 = .ok (.return_, 1) := by decide +kernel
def j_X6_step : JD := (yX6_step, cX6_step, 1, none)
def b_X6_step : BD := (1, 0, 0)
theorem dX6_open_0 : decode cX6_open 0 = .ok (.aload_n 0, 1) := by decide +kernel
theorem dX6_open_1 : decode cX6_open 1 = .ok (.iload_n 1, 1) := by decide +kernel
theorem dX6_open_2 : decode cX6_open 2 = .ok (.putfield 39, 3) := by decide +kernel
theorem dX6_open_5 : decode cX6_open 5 = .ok (.aload_n 0, 1) := by decide +kernel
theorem dX6_open_6 : decode cX6_open 6 = .ok (.iconst 0, 1) := by decide +kernel
theorem dX6_open_7 : decode cX6_open 7 = .ok (.putfield 41, 3) := by decide +kernel
theorem dX6_open_10 : decode cX6_open 10 = .ok (.aload_n 0, 1) := by decide +kernel
theorem dX6_open_11 : decode cX6_open 11 = .ok (.iconst 0, 1) := by decide +kernel
theorem dX6_open_12 : decode cX6_open 12 = .ok (.putfield 44, 3) := by decide +kernel
theorem dX6_open_15 : decode cX6_open 15 = .ok (.aload_n 0, 1) := by decide +kernel
theorem dX6_open_16 : decode cX6_open 16 = .ok (.iconst (-1), 1) := by decide +kernel
theorem dX6_open_17 : decode cX6_open 17 = .ok (.putfield 47, 3) := by decide +kernel
theorem dX6_open_20 : decode cX6_open 20 = .ok (.aload_n 0, 1) := by decide +kernel
theorem dX6_open_21 : decode cX6_open 21 = .ok (.invokevirtual 50, 3) := by decide +kernel
theorem dX6_open_24 : decode cX6_open 24 = .ok (.return_, 1) := by decide +kernel
def j_X6_open : JD := (yX6_open, cX6_open, 2, none)
def b_X6_open : BD := (2, 0, 0)
theorem dX6_failAt_0 : decode cX6_failAt 0 = .ok (.aload_n 0, 1) := by decide +kernel
theorem dX6_failAt_1 : decode cX6_failAt 1 = .ok (.iload_n 1, 1) := by decide +kernel
theorem dX6_failAt_2 : decode cX6_failAt 2 = .ok (.putfield 44, 3) := by decide +kernel
theorem dX6_failAt_5 : decode cX6_failAt 5 = .ok (.aload_n 0, 1) := by decide +kernel
theorem dX6_failAt_6 : decode cX6_failAt 6 = .ok (.iload_n 2, 1) := by decide +kernel
theorem dX6_failAt_7 : decode cX6_failAt 7 = .ok (.putfield 47, 3) := by decide +kernel
theorem dX6_failAt_10 : decode cX6_failAt 10 = .ok (.iconst 0, 1) := by decide +kernel
theorem dX6_failAt_11 : decode cX6_failAt 11 = .ok (.ireturn, 1) := by decide +kernel
def j_X6_failAt : JD := (yX6_failAt, cX6_failAt, 3, (some .boolean))
def b_X6_failAt : BD := (0, 0, 0)
theorem dX6_fail_0 : decode cX6_fail 0 = .ok (.aload_n 0, 1) := by decide +kernel
theorem dX6_fail_1 : decode cX6_fail 1 = .ok (.aload_n 0, 1) := by decide +kernel
theorem dX6_fail_2 : decode cX6_fail 2 = .ok (.getfield 65, 3) := by decide +kernel
theorem dX6_fail_5 : decode cX6_fail 5 = .ok (.iconst 1, 1) := by decide +kernel
theorem dX6_fail_6 : decode cX6_fail 6 = .ok (.if_icmp .ne 7, 3) := by decide +kernel
theorem dX6_fail_9 : decode cX6_fail 9 = .ok (.iconst 1, 1) := by decide +kernel
theorem dX6_fail_10 : decode cX6_fail 10 = .ok (.goto 4, 3) := by decide +kernel
theorem dX6_fail_13 : decode cX6_fail 13 = .ok (.iload_n 1, 1) := by decide +kernel
theorem dX6_fail_14 : decode cX6_fail 14 = .ok (.aload_n 0, 1) := by decide +kernel
theorem dX6_fail_15 : decode cX6_fail 15 = .ok (.getfield 53, 3) := by decide +kernel
theorem dX6_fail_18 : decode cX6_fail 18 = .ok (.invokevirtual 84, 3) := by decide +kernel
theorem dX6_fail_21 : decode cX6_fail 21 = .ok (.ireturn, 1) := by decide +kernel
def j_X6_fail : JD := (yX6_fail, cX6_fail, 2, (some .boolean))
def b_X6_fail : BD := (1, 0, 0)
theorem dX6_isName_0 : decode cX6_isName 0 = .ok (.aload_n 0, 1) := by decide +kernel
theorem dX6_isName_1 : decode cX6_isName 1 = .ok (.getfield 65, 3) := by decide +kernel
theorem dX6_isName_4 : decode cX6_isName 4 = .ok (.iconst 2, 1) := by decide +kernel
theorem dX6_isName_5 : decode cX6_isName 5 = .ok (.if_icmp .ne 26, 3) := by decide +kernel
theorem dX6_isName_8 : decode cX6_isName 8 = .ok (.aload_n 0, 1) := by decide +kernel
theorem dX6_isName_9 : decode cX6_isName 9 = .ok (.getfield 61, 3) := by decide +kernel
theorem dX6_isName_12 : decode cX6_isName 12 = .ok (.ldc2_w 59, 3) := by decide +kernel
theorem dX6_isName_15 : decode cX6_isName 15 = .ok (.lcmp, 1) := by decide +kernel
theorem dX6_isName_16 : decode cX6_isName 16 = .ok (.ifCond .eq 15, 3) := by decide +kernel
theorem dX6_isName_19 : decode cX6_isName 19 = .ok (.aload_n 0, 1) := by decide +kernel
theorem dX6_isName_20 : decode cX6_isName 20 = .ok (.getfield 56, 3) := by decide +kernel
theorem dX6_isName_23 : decode cX6_isName 23 = .ok (.iconst (-1), 1) := by decide +kernel
theorem dX6_isName_24 : decode cX6_isName 24 = .ok (.if_icmp .ne 7, 3) := by decide +kernel
theorem dX6_isName_27 : decode cX6_isName 27 = .ok (.iconst 1, 1) := by decide +kernel
theorem dX6_isName_28 : decode cX6_isName 28 = .ok (.goto 4, 3) := by decide +kernel
theorem dX6_isName_31 : decode cX6_isName 31 = .ok (.iconst 0, 1) := by decide +kernel
theorem dX6_isName_32 : decode cX6_isName 32 = .ok (.ireturn, 1) := by decide +kernel
def j_X6_isName : JD := (yX6_isName, cX6_isName, 1, (some .boolean))
def b_X6_isName : BD := (0, 0, 0)
theorem dX6_takeWord_0 : decode cX6_takeWord 0 = .ok (.aload_n 0, 1) := by decide +kernel
theorem dX6_takeWord_1 : decode cX6_takeWord 1 = .ok (.getfield 56, 3) := by decide +kernel
theorem dX6_takeWord_4 : decode cX6_takeWord 4 = .ok (.iload_n 1, 1) := by decide +kernel
theorem dX6_takeWord_5 : decode cX6_takeWord 5 = .ok (.if_icmp .eq 9, 3) := by decide +kernel
theorem dX6_takeWord_8 : decode cX6_takeWord 8 = .ok (.aload_n 0, 1) := by decide +kernel
theorem dX6_takeWord_9 : decode cX6_takeWord 9 = .ok (.iconst 2, 1) := by decide +kernel
theorem dX6_takeWord_10 : decode cX6_takeWord 10 = .ok (.invokevirtual 88, 3) := by decide +kernel
theorem dX6_takeWord_13 : decode cX6_takeWord 13 = .ok (.ireturn, 1) := by decide +kernel
theorem dX6_takeWord_14 : decode cX6_takeWord 14 = .ok (.aload_n 0, 1) := by decide +kernel
theorem dX6_takeWord_15 : decode cX6_takeWord 15 = .ok (.invokevirtual 50, 3) := by decide +kernel
theorem dX6_takeWord_18 : decode cX6_takeWord 18 = .ok (.iconst 1, 1) := by decide +kernel
theorem dX6_takeWord_19 : decode cX6_takeWord 19 = .ok (.ireturn, 1) := by decide +kernel
def j_X6_takeWord : JD := (yX6_takeWord, cX6_takeWord, 2, (some .boolean))
def b_X6_takeWord : BD := (2, 0, 0)
theorem dX6_takeNumber_0 : decode cX6_takeNumber 0 = .ok (.aload_n 0, 1) := by decide +kernel
theorem dX6_takeNumber_1 : decode cX6_takeNumber 1 = .ok (.getfield 65, 3) := by decide +kernel
theorem dX6_takeNumber_4 : decode cX6_takeNumber 4 = .ok (.iconst 3, 1) := by decide +kernel
theorem dX6_takeNumber_5 : decode cX6_takeNumber 5 = .ok (.if_icmp .eq 9, 3) := by decide +kernel
theorem dX6_takeNumber_8 : decode cX6_takeNumber 8 = .ok (.aload_n 0, 1) := by decide +kernel
theorem dX6_takeNumber_9 : decode cX6_takeNumber 9 = .ok (.iconst 2, 1) := by decide +kernel
theorem dX6_takeNumber_10 : decode cX6_takeNumber 10 = .ok (.invokevirtual 88, 3) := by decide +kernel
theorem dX6_takeNumber_13 : decode cX6_takeNumber 13 = .ok (.ireturn, 1) := by decide +kernel
theorem dX6_takeNumber_14 : decode cX6_takeNumber 14 = .ok (.aload_n 0, 1) := by decide +kernel
theorem dX6_takeNumber_15 : decode cX6_takeNumber 15 = .ok (.getfield 77, 3) := by decide +kernel
theorem dX6_takeNumber_18 : decode cX6_takeNumber 18 = .ok (.iload_n 1, 1) := by decide +kernel
theorem dX6_takeNumber_19 : decode cX6_takeNumber 19 = .ok (.if_icmp .lt 11, 3) := by decide +kernel
theorem dX6_takeNumber_22 : decode cX6_takeNumber 22 = .ok (.aload_n 0, 1) := by decide +kernel
theorem dX6_takeNumber_23 : decode cX6_takeNumber 23 = .ok (.getfield 77, 3) := by decide +kernel
theorem dX6_takeNumber_26 : decode cX6_takeNumber 26 = .ok (.iload_n 2, 1) := by decide +kernel
theorem dX6_takeNumber_27 : decode cX6_takeNumber 27 = .ok (.if_icmp .le 9, 3) := by decide +kernel
theorem dX6_takeNumber_30 : decode cX6_takeNumber 30 = .ok (.aload_n 0, 1) := by decide +kernel
theorem dX6_takeNumber_31 : decode cX6_takeNumber 31 = .ok (.iconst 4, 1) := by decide +kernel
theorem dX6_takeNumber_32 : decode cX6_takeNumber 32 = .ok (.invokevirtual 88, 3) := by decide +kernel
theorem dX6_takeNumber_35 : decode cX6_takeNumber 35 = .ok (.ireturn, 1) := by decide +kernel
theorem dX6_takeNumber_36 : decode cX6_takeNumber 36 = .ok (.aload_n 0, 1) := by decide +kernel
theorem dX6_takeNumber_37 : decode cX6_takeNumber 37 = .ok (.aload_n 0, 1) := by decide +kernel
theorem dX6_takeNumber_38 : decode cX6_takeNumber 38 = .ok (.getfield 77, 3) := by decide +kernel
theorem dX6_takeNumber_41 : decode cX6_takeNumber 41 = .ok (.putfield 92, 3) := by decide +kernel
theorem dX6_takeNumber_44 : decode cX6_takeNumber 44 = .ok (.aload_n 0, 1) := by decide +kernel
theorem dX6_takeNumber_45 : decode cX6_takeNumber 45 = .ok (.invokevirtual 50, 3) := by decide +kernel
theorem dX6_takeNumber_48 : decode cX6_takeNumber 48 = .ok (.iconst 1, 1) := by decide +kernel
theorem dX6_takeNumber_49 : decode cX6_takeNumber 49 = .ok (.ireturn, 1) := by decide +kernel
def j_X6_takeNumber : JD := (yX6_takeNumber, cX6_takeNumber, 3, (some .boolean))
def b_X6_takeNumber : BD := (2, 0, 0)
theorem dX6_takeWordAndNumber_0 : decode cX6_takeWordAndNumber 0 = .ok (.aload_n 0, 1) := by decide +kernel
theorem dX6_takeWordAndNumber_1 : decode cX6_takeWordAndNumber 1 = .ok (.iload_n 1, 1) := by decide +kernel
theorem dX6_takeWordAndNumber_2 : decode cX6_takeWordAndNumber 2 = .ok (.invokevirtual 95, 3) := by decide +kernel
theorem dX6_takeWordAndNumber_5 : decode cX6_takeWordAndNumber 5 = .ok (.ifCond .eq 16, 3) := by decide +kernel
theorem dX6_takeWordAndNumber_8 : decode cX6_takeWordAndNumber 8 = .ok (.aload_n 0, 1) := by decide +kernel
theorem dX6_takeWordAndNumber_9 : decode cX6_takeWordAndNumber 9 = .ok (.iload_n 2, 1) := by decide +kernel
theorem dX6_takeWordAndNumber_10 : decode cX6_takeWordAndNumber 10 = .ok (.iload_n 3, 1) := by decide +kernel
theorem dX6_takeWordAndNumber_11 : decode cX6_takeWordAndNumber 11 = .ok (.invokevirtual 98, 3) := by decide +kernel
theorem dX6_takeWordAndNumber_14 : decode cX6_takeWordAndNumber 14 = .ok (.ifCond .eq 7, 3) := by decide +kernel
theorem dX6_takeWordAndNumber_17 : decode cX6_takeWordAndNumber 17 = .ok (.iconst 1, 1) := by decide +kernel
theorem dX6_takeWordAndNumber_18 : decode cX6_takeWordAndNumber 18 = .ok (.goto 4, 3) := by decide +kernel
theorem dX6_takeWordAndNumber_21 : decode cX6_takeWordAndNumber 21 = .ok (.iconst 0, 1) := by decide +kernel
theorem dX6_takeWordAndNumber_22 : decode cX6_takeWordAndNumber 22 = .ok (.ireturn, 1) := by decide +kernel
def j_X6_takeWordAndNumber : JD := (yX6_takeWordAndNumber, cX6_takeWordAndNumber, 4, (some .boolean))
def b_X6_takeWordAndNumber : BD := (3, 0, 0)
theorem dX6_takeNamed_0 : decode cX6_takeNamed 0 = .ok (.iconst (-1), 1) := by decide +kernel
theorem dX6_takeNamed_1 : decode cX6_takeNamed 1 = .ok (.istore_n 3, 1) := by decide +kernel
theorem dX6_takeNamed_2 : decode cX6_takeNamed 2 = .ok (.aload_n 0, 1) := by decide +kernel
theorem dX6_takeNamed_3 : decode cX6_takeNamed 3 = .ok (.invokevirtual 101, 3) := by decide +kernel
theorem dX6_takeNamed_6 : decode cX6_takeNamed 6 = .ok (.ifCond .eq 29, 3) := by decide +kernel
theorem dX6_takeNamed_9 : decode cX6_takeNamed 9 = .ok (.iload_n 2, 1) := by decide +kernel
theorem dX6_takeNamed_10 : decode cX6_takeNamed 10 = .ok (.bipush 7, 2) := by decide +kernel
theorem dX6_takeNamed_12 : decode cX6_takeNamed 12 = .ok (.if_icmp .ne 14, 3) := by decide +kernel
theorem dX6_takeNamed_15 : decode cX6_takeNamed 15 = .ok (.aload_n 1, 1) := by decide +kernel
theorem dX6_takeNamed_16 : decode cX6_takeNamed 16 = .ok (.aload_n 0, 1) := by decide +kernel
theorem dX6_takeNamed_17 : decode cX6_takeNamed 17 = .ok (.getfield 61, 3) := by decide +kernel
theorem dX6_takeNamed_20 : decode cX6_takeNamed 20 = .ok (.invokevirtual 105, 3) := by decide +kernel
theorem dX6_takeNamed_23 : decode cX6_takeNamed 23 = .ok (.goto 11, 3) := by decide +kernel
theorem dX6_takeNamed_26 : decode cX6_takeNamed 26 = .ok (.aload_n 1, 1) := by decide +kernel
theorem dX6_takeNamed_27 : decode cX6_takeNamed 27 = .ok (.aload_n 0, 1) := by decide +kernel
theorem dX6_takeNamed_28 : decode cX6_takeNamed 28 = .ok (.getfield 61, 3) := by decide +kernel
theorem dX6_takeNamed_31 : decode cX6_takeNamed 31 = .ok (.invokevirtual 111, 3) := by decide +kernel
theorem dX6_takeNamed_34 : decode cX6_takeNamed 34 = .ok (.istore_n 3, 1) := by decide +kernel
theorem dX6_takeNamed_35 : decode cX6_takeNamed 35 = .ok (.iload_n 3, 1) := by decide +kernel
theorem dX6_takeNamed_36 : decode cX6_takeNamed 36 = .ok (.iconst (-1), 1) := by decide +kernel
theorem dX6_takeNamed_37 : decode cX6_takeNamed 37 = .ok (.if_icmp .ne 23, 3) := by decide +kernel
theorem dX6_takeNamed_40 : decode cX6_takeNamed 40 = .ok (.aload_n 0, 1) := by decide +kernel
theorem dX6_takeNamed_41 : decode cX6_takeNamed 41 = .ok (.aload_n 0, 1) := by decide +kernel
theorem dX6_takeNamed_42 : decode cX6_takeNamed 42 = .ok (.invokevirtual 101, 3) := by decide +kernel
theorem dX6_takeNamed_45 : decode cX6_takeNamed 45 = .ok (.ifCond .eq 7, 3) := by decide +kernel
theorem dX6_takeNamed_48 : decode cX6_takeNamed 48 = .ok (.iconst 3, 1) := by decide +kernel
theorem dX6_takeNamed_49 : decode cX6_takeNamed 49 = .ok (.goto 4, 3) := by decide +kernel
theorem dX6_takeNamed_52 : decode cX6_takeNamed 52 = .ok (.iconst 2, 1) := by decide +kernel
theorem dX6_takeNamed_53 : decode cX6_takeNamed 53 = .ok (.invokevirtual 88, 3) := by decide +kernel
theorem dX6_takeNamed_56 : decode cX6_takeNamed 56 = .ok (.pop, 1) := by decide +kernel
theorem dX6_takeNamed_57 : decode cX6_takeNamed 57 = .ok (.goto 7, 3) := by decide +kernel
theorem dX6_takeNamed_60 : decode cX6_takeNamed 60 = .ok (.aload_n 0, 1) := by decide +kernel
theorem dX6_takeNamed_61 : decode cX6_takeNamed 61 = .ok (.invokevirtual 50, 3) := by decide +kernel
theorem dX6_takeNamed_64 : decode cX6_takeNamed 64 = .ok (.iload_n 3, 1) := by decide +kernel
theorem dX6_takeNamed_65 : decode cX6_takeNamed 65 = .ok (.ireturn, 1) := by decide +kernel
def j_X6_takeNamed : JD := (yX6_takeNamed, cX6_takeNamed, 4, (some .int))
def b_X6_takeNamed : BD := (2, 0, 0)
theorem dX6_takeSemicolon_0 : decode cX6_takeSemicolon 0 = .ok (.aload_n 0, 1) := by decide +kernel
theorem dX6_takeSemicolon_1 : decode cX6_takeSemicolon 1 = .ok (.getfield 65, 3) := by decide +kernel
theorem dX6_takeSemicolon_4 : decode cX6_takeSemicolon 4 = .ok (.iconst 4, 1) := by decide +kernel
theorem dX6_takeSemicolon_5 : decode cX6_takeSemicolon 5 = .ok (.if_icmp .ne 12, 3) := by decide +kernel
theorem dX6_takeSemicolon_8 : decode cX6_takeSemicolon 8 = .ok (.aload_n 0, 1) := by decide +kernel
theorem dX6_takeSemicolon_9 : decode cX6_takeSemicolon 9 = .ok (.getfield 80, 3) := by decide +kernel
theorem dX6_takeSemicolon_12 : decode cX6_takeSemicolon 12 = .ok (.bipush 59, 2) := by decide +kernel
theorem dX6_takeSemicolon_14 : decode cX6_takeSemicolon 14 = .ok (.if_icmp .eq 9, 3) := by decide +kernel
theorem dX6_takeSemicolon_17 : decode cX6_takeSemicolon 17 = .ok (.aload_n 0, 1) := by decide +kernel
theorem dX6_takeSemicolon_18 : decode cX6_takeSemicolon 18 = .ok (.iconst 2, 1) := by decide +kernel
theorem dX6_takeSemicolon_19 : decode cX6_takeSemicolon 19 = .ok (.invokevirtual 88, 3) := by decide +kernel
theorem dX6_takeSemicolon_22 : decode cX6_takeSemicolon 22 = .ok (.ireturn, 1) := by decide +kernel
theorem dX6_takeSemicolon_23 : decode cX6_takeSemicolon 23 = .ok (.aload_n 0, 1) := by decide +kernel
theorem dX6_takeSemicolon_24 : decode cX6_takeSemicolon 24 = .ok (.invokevirtual 50, 3) := by decide +kernel
theorem dX6_takeSemicolon_27 : decode cX6_takeSemicolon 27 = .ok (.iconst 1, 1) := by decide +kernel
theorem dX6_takeSemicolon_28 : decode cX6_takeSemicolon 28 = .ok (.ireturn, 1) := by decide +kernel
def j_X6_takeSemicolon : JD := (yX6_takeSemicolon, cX6_takeSemicolon, 1, (some .boolean))
def b_X6_takeSemicolon : BD := (2, 0, 0)
theorem dX6_init_0 : decode cX6_init 0 = .ok (.aload_n 0, 1) := by decide +kernel
theorem dX6_init_1 : decode cX6_init 1 = .ok (.invokespecial 3, 3) := by decide +kernel
theorem dX6_init_4 : decode cX6_init 4 = .ok (.aload_n 0, 1) := by decide +kernel
theorem dX6_init_5 : decode cX6_init 5 = .ok (.sipush 900, 3) := by decide +kernel
theorem dX6_init_8 : decode cX6_init 8 = .ok (.newarray .byte, 2) := by decide +kernel
theorem dX6_init_10 : decode cX6_init 10 = .ok (.putfield 9, 3) := by decide +kernel
theorem dX6_init_13 : decode cX6_init 13 = .ok (.aload_n 0, 1) := by decide +kernel
theorem dX6_init_14 : decode cX6_init 14 = .ok (.bipush 30, 2) := by decide +kernel
theorem dX6_init_16 : decode cX6_init 16 = .ok (.newarray .long, 2) := by decide +kernel
theorem dX6_init_18 : decode cX6_init 18 = .ok (.putfield 15, 3) := by decide +kernel
theorem dX6_init_21 : decode cX6_init 21 = .ok (.iconst 0, 1) := by decide +kernel
theorem dX6_init_22 : decode cX6_init 22 = .ok (.istore_n 1, 1) := by decide +kernel
theorem dX6_init_23 : decode cX6_init 23 = .ok (.lconst 0, 1) := by decide +kernel
theorem dX6_init_24 : decode cX6_init 24 = .ok (.lstore_n 2, 1) := by decide +kernel
theorem dX6_init_25 : decode cX6_init 25 = .ok (.iconst 0, 1) := by decide +kernel
theorem dX6_init_26 : decode cX6_init 26 = .ok (.istore 4, 2) := by decide +kernel
theorem dX6_init_28 : decode cX6_init 28 = .ok (.iload 4, 2) := by decide +kernel
theorem dX6_init_30 : decode cX6_init 30 = .ok (.ldc 19, 2) := by decide +kernel
theorem dX6_init_32 : decode cX6_init 32 = .ok (.invokevirtual 21, 3) := by decide +kernel
theorem dX6_init_35 : decode cX6_init 35 = .ok (.if_icmp .ge 63, 3) := by decide +kernel
theorem dX6_init_38 : decode cX6_init 38 = .ok (.iload_n 1, 1) := by decide +kernel
theorem dX6_init_39 : decode cX6_init 39 = .ok (.bipush 30, 2) := by decide +kernel
theorem dX6_init_41 : decode cX6_init 41 = .ok (.if_icmp .ge 57, 3) := by decide +kernel
theorem dX6_init_44 : decode cX6_init 44 = .ok (.ldc 19, 2) := by decide +kernel
theorem dX6_init_46 : decode cX6_init 46 = .ok (.iload 4, 2) := by decide +kernel
theorem dX6_init_48 : decode cX6_init 48 = .ok (.invokevirtual 27, 3) := by decide +kernel
theorem dX6_init_51 : decode cX6_init 51 = .ok (.bipush 32, 2) := by decide +kernel
theorem dX6_init_53 : decode cX6_init 53 = .ok (.if_icmp .ne 18, 3) := by decide +kernel
theorem dX6_init_56 : decode cX6_init 56 = .ok (.aload_n 0, 1) := by decide +kernel
theorem dX6_init_57 : decode cX6_init 57 = .ok (.getfield 15, 3) := by decide +kernel
theorem dX6_init_60 : decode cX6_init 60 = .ok (.iload_n 1, 1) := by decide +kernel
theorem dX6_init_61 : decode cX6_init 61 = .ok (.lload_n 2, 1) := by decide +kernel
theorem dX6_init_62 : decode cX6_init 62 = .ok (.lastore, 1) := by decide +kernel
theorem dX6_init_63 : decode cX6_init 63 = .ok (.iinc 1 1, 3) := by decide +kernel
theorem dX6_init_66 : decode cX6_init 66 = .ok (.lconst 0, 1) := by decide +kernel
theorem dX6_init_67 : decode cX6_init 67 = .ok (.lstore_n 2, 1) := by decide +kernel
theorem dX6_init_68 : decode cX6_init 68 = .ok (.goto 24, 3) := by decide +kernel
theorem dX6_init_71 : decode cX6_init 71 = .ok (.lload_n 2, 1) := by decide +kernel
theorem dX6_init_72 : decode cX6_init 72 = .ok (.ldc2_w 31, 3) := by decide +kernel
theorem dX6_init_75 : decode cX6_init 75 = .ok (.lmul, 1) := by decide +kernel
theorem dX6_init_76 : decode cX6_init 76 = .ok (.ldc 19, 2) := by decide +kernel
theorem dX6_init_78 : decode cX6_init 78 = .ok (.iload 4, 2) := by decide +kernel
theorem dX6_init_80 : decode cX6_init 80 = .ok (.invokevirtual 27, 3) := by decide +kernel
theorem dX6_init_83 : decode cX6_init 83 = .ok (.i2l, 1) := by decide +kernel
theorem dX6_init_84 : decode cX6_init 84 = .ok (.ladd, 1) := by decide +kernel
theorem dX6_init_85 : decode cX6_init 85 = .ok (.ldc2_w 33, 3) := by decide +kernel
theorem dX6_init_88 : decode cX6_init 88 = .ok (.lsub, 1) := by decide +kernel
theorem dX6_init_89 : decode cX6_init 89 = .ok (.lconst 1, 1) := by decide +kernel
theorem dX6_init_90 : decode cX6_init 90 = .ok (.ladd, 1) := by decide +kernel
theorem dX6_init_91 : decode cX6_init 91 = .ok (.lstore_n 2, 1) := by decide +kernel
theorem dX6_init_92 : decode cX6_init 92 = .ok (.iinc 4 1, 3) := by decide +kernel
theorem dX6_init_95 : decode cX6_init 95 = .ok (.goto (-67), 3) := by decide +kernel
theorem dX6_init_98 : decode cX6_init 98 = .ok (.return_, 1) := by decide +kernel
def j_X6_init : JD := (yX6_init, cX6_init, 5, none)
def b_X6_init : BD := (6, 2, 930)
theorem dX6_put_0 : decode cX6_put 0 = .ok (.bipush 24, 2) := by decide +kernel
theorem dX6_put_2 : decode cX6_put 2 = .ok (.istore_n 2, 1) := by decide +kernel
theorem dX6_put_3 : decode cX6_put 3 = .ok (.iload_n 2, 1) := by decide +kernel
theorem dX6_put_4 : decode cX6_put 4 = .ok (.ifCond .lt 42, 3) := by decide +kernel
theorem dX6_put_7 : decode cX6_put 7 = .ok (.aload_n 0, 1) := by decide +kernel
theorem dX6_put_8 : decode cX6_put 8 = .ok (.getfield 35, 3) := by decide +kernel
theorem dX6_put_11 : decode cX6_put 11 = .ok (.sipush 900, 3) := by decide +kernel
theorem dX6_put_14 : decode cX6_put 14 = .ok (.if_icmp .ge 32, 3) := by decide +kernel
theorem dX6_put_17 : decode cX6_put 17 = .ok (.aload_n 0, 1) := by decide +kernel
theorem dX6_put_18 : decode cX6_put 18 = .ok (.getfield 9, 3) := by decide +kernel
theorem dX6_put_21 : decode cX6_put 21 = .ok (.aload_n 0, 1) := by decide +kernel
theorem dX6_put_22 : decode cX6_put 22 = .ok (.getfield 35, 3) := by decide +kernel
theorem dX6_put_25 : decode cX6_put 25 = .ok (.iload_n 1, 1) := by decide +kernel
theorem dX6_put_26 : decode cX6_put 26 = .ok (.iload_n 2, 1) := by decide +kernel
theorem dX6_put_27 : decode cX6_put 27 = .ok (.ishr, 1) := by decide +kernel
theorem dX6_put_28 : decode cX6_put 28 = .ok (.i2b, 1) := by decide +kernel
theorem dX6_put_29 : decode cX6_put 29 = .ok (.bastore, 1) := by decide +kernel
theorem dX6_put_30 : decode cX6_put 30 = .ok (.aload_n 0, 1) := by decide +kernel
theorem dX6_put_31 : decode cX6_put 31 = .ok (.dup, 1) := by decide +kernel
theorem dX6_put_32 : decode cX6_put 32 = .ok (.getfield 35, 3) := by decide +kernel
theorem dX6_put_35 : decode cX6_put 35 = .ok (.iconst 1, 1) := by decide +kernel
theorem dX6_put_36 : decode cX6_put 36 = .ok (.iadd, 1) := by decide +kernel
theorem dX6_put_37 : decode cX6_put 37 = .ok (.putfield 35, 3) := by decide +kernel
theorem dX6_put_40 : decode cX6_put 40 = .ok (.iinc 2 (-8), 3) := by decide +kernel
theorem dX6_put_43 : decode cX6_put 43 = .ok (.goto (-40), 3) := by decide +kernel
theorem dX6_put_46 : decode cX6_put 46 = .ok (.return_, 1) := by decide +kernel
def j_X6_put : JD := (yX6_put, cX6_put, 3, none)
def b_X6_put : BD := (0, 0, 0)
theorem mv_X6_readWord : MV j_X6_readWord 6 0 := ⟨⟨gw_at 863 (by decide +kernel) rfl, gw_at 208 (by decide +kernel) rfl, ⟨by decide +kernel, by decide +kernel⟩, by decide +kernel, by decide, by decide +kernel⟩, ⟨_, rfl, rfl⟩, gw_at 862 (by decide +kernel) rfl, gw_at 14 (by decide +kernel) rfl⟩
theorem mv_X6_readNumber : MV j_X6_readNumber 6 0 := ⟨⟨gw_at 867 (by decide +kernel) rfl, gw_at 208 (by decide +kernel) rfl, ⟨by decide +kernel, by decide +kernel⟩, by decide +kernel, by decide, by decide +kernel⟩, ⟨_, rfl, rfl⟩, gw_at 866 (by decide +kernel) rfl, gw_at 15 (by decide +kernel) rfl⟩
theorem mv_X6_readSign : MV j_X6_readSign 6 0 := ⟨⟨gw_at 871 (by decide +kernel) rfl, gw_at 208 (by decide +kernel) rfl, ⟨by decide +kernel, by decide +kernel⟩, by decide +kernel, by decide, by decide +kernel⟩, ⟨_, rfl, rfl⟩, gw_at 870 (by decide +kernel) rfl, gw_at 16 (by decide +kernel) rfl⟩
theorem mv_X6_step : MV j_X6_step 6 0 := ⟨⟨gw_at 858 (by decide +kernel) rfl, gw_at 208 (by decide +kernel) rfl, ⟨by decide +kernel, by decide +kernel⟩, by decide +kernel, by decide, by decide +kernel⟩, ⟨_, rfl, rfl⟩, gw_at 857 (by decide +kernel) rfl, gw_at 13 (by decide +kernel) rfl⟩
theorem mv_X6_open : MV j_X6_open 6 1 := ⟨⟨gw_at 854 (by decide +kernel) rfl, gw_at 208 (by decide +kernel) rfl, ⟨by decide +kernel, by decide +kernel⟩, by decide +kernel, by decide, by decide +kernel⟩, ⟨_, rfl, rfl⟩, gw_at 853 (by decide +kernel) rfl, gw_at 12 (by decide +kernel) rfl⟩
theorem mv_X6_failAt : MV j_X6_failAt 6 2 := ⟨⟨gw_at 883 (by decide +kernel) rfl, gw_at 208 (by decide +kernel) rfl, ⟨by decide +kernel, by decide +kernel⟩, by decide +kernel, by decide, by decide +kernel⟩, ⟨_, rfl, rfl⟩, gw_at 882 (by decide +kernel) rfl, gw_at 19 (by decide +kernel) rfl⟩
theorem mv_X6_fail : MV j_X6_fail 6 1 := ⟨⟨gw_at 879 (by decide +kernel) rfl, gw_at 208 (by decide +kernel) rfl, ⟨by decide +kernel, by decide +kernel⟩, by decide +kernel, by decide, by decide +kernel⟩, ⟨_, rfl, rfl⟩, gw_at 878 (by decide +kernel) rfl, gw_at 18 (by decide +kernel) rfl⟩
theorem mv_X6_isName : MV j_X6_isName 6 0 := ⟨⟨gw_at 892 (by decide +kernel) rfl, gw_at 208 (by decide +kernel) rfl, ⟨by decide +kernel, by decide +kernel⟩, by decide +kernel, by decide, by decide +kernel⟩, ⟨_, rfl, rfl⟩, gw_at 891 (by decide +kernel) rfl, gw_at 21 (by decide +kernel) rfl⟩
theorem mv_X6_takeWord : MV j_X6_takeWord 6 1 := ⟨⟨gw_at 913 (by decide +kernel) rfl, gw_at 208 (by decide +kernel) rfl, ⟨by decide +kernel, by decide +kernel⟩, by decide +kernel, by decide, by decide +kernel⟩, ⟨_, rfl, rfl⟩, gw_at 912 (by decide +kernel) rfl, gw_at 26 (by decide +kernel) rfl⟩
theorem mv_X6_takeNumber : MV j_X6_takeNumber 6 2 := ⟨⟨gw_at 918 (by decide +kernel) rfl, gw_at 208 (by decide +kernel) rfl, ⟨by decide +kernel, by decide +kernel⟩, by decide +kernel, by decide, by decide +kernel⟩, ⟨_, rfl, rfl⟩, gw_at 917 (by decide +kernel) rfl, gw_at 27 (by decide +kernel) rfl⟩
theorem mv_X6_takeWordAndNumber : MV j_X6_takeWordAndNumber 6 3 := ⟨⟨gw_at 909 (by decide +kernel) rfl, gw_at 208 (by decide +kernel) rfl, ⟨by decide +kernel, by decide +kernel⟩, by decide +kernel, by decide, by decide +kernel⟩, ⟨_, rfl, rfl⟩, gw_at 908 (by decide +kernel) rfl, gw_at 25 (by decide +kernel) rfl⟩
theorem mv_X6_takeNamed : MV j_X6_takeNamed 6 2 := ⟨⟨gw_at 931 (by decide +kernel) rfl, gw_at 208 (by decide +kernel) rfl, ⟨by decide +kernel, by decide +kernel⟩, by decide +kernel, by decide, by decide +kernel⟩, ⟨_, rfl, rfl⟩, gw_at 930 (by decide +kernel) rfl, gw_at 30 (by decide +kernel) rfl⟩
theorem mv_X6_takeSemicolon : MV j_X6_takeSemicolon 6 0 := ⟨⟨gw_at 956 (by decide +kernel) rfl, gw_at 208 (by decide +kernel) rfl, ⟨by decide +kernel, by decide +kernel⟩, by decide +kernel, by decide, by decide +kernel⟩, ⟨_, rfl, rfl⟩, gw_at 955 (by decide +kernel) rfl, gw_at 35 (by decide +kernel) rfl⟩
theorem mi_X6_init : MI j_X6_init 0 := ⟨⟨gw_at 239 (by decide +kernel) rfl, gw_at 208 (by decide +kernel) rfl, ⟨by decide +kernel, by decide +kernel⟩, by decide +kernel, by decide, by decide +kernel⟩, rfl, rfl, gw_at 238 (by decide +kernel) rfl⟩
theorem mv_X6_put : MV j_X6_put 6 1 := ⟨⟨gw_at 822 (by decide +kernel) rfl, gw_at 208 (by decide +kernel) rfl, ⟨by decide +kernel, by decide +kernel⟩, by decide +kernel, by decide, by decide +kernel⟩, ⟨_, rfl, rfl⟩, gw_at 821 (by decide +kernel) rfl, gw_at 9 (by decide +kernel) rfl⟩
theorem ml_X6_50 : MLk RX6 50 j_X6_step.1 := Or.inl (gw_at 855 (by decide +kernel) rfl)
theorem ml_X6_68 : MLk RX6 68 j_X6_readWord.1 := Or.inl (gw_at 860 (by decide +kernel) rfl)
theorem ml_X6_71 : MLk RX6 71 j_X6_readNumber.1 := Or.inl (gw_at 864 (by decide +kernel) rfl)
theorem ml_X6_74 : MLk RX6 74 j_X6_readSign.1 := Or.inl (gw_at 868 (by decide +kernel) rfl)
theorem ml_X6_84 : MLk RX6 84 j_X6_failAt.1 := Or.inl (gw_at 880 (by decide +kernel) rfl)
theorem ml_X6_88 : MLk RX6 88 j_X6_fail.1 := Or.inl (gw_at 914 (by decide +kernel) rfl)
theorem ml_X6_95 : MLk RX6 95 j_X6_takeWord.1 := Or.inl (gw_at 910 (by decide +kernel) rfl)
theorem ml_X6_98 : MLk RX6 98 j_X6_takeNumber.1 := Or.inl (gw_at 915 (by decide +kernel) rfl)
theorem ml_X6_101 : MLk RX6 101 j_X6_isName.1 := Or.inl (gw_at 932 (by decide +kernel) rfl)
theorem ml_X6_105 : MLk RX6 105 j_X4_gangNamed.1 := Or.inr ⟨_, nw_at (w := Cond.methodLinkNest RX6 105 yX4_gangNamed "RoofGale") 933 (by decide +kernel) rfl⟩
theorem ml_X6_111 : MLk RX6 111 j_X4_houseNamed.1 := Or.inr ⟨_, nw_at (w := Cond.methodLinkNest RX6 111 yX4_houseNamed "RoofGale") 934 (by decide +kernel) rfl⟩
def f_X6_readWord_148 (k126 : Mm → Option Nat → Int64 → Int32 → Option (Mm)) (M : Mm) (l0 : Option Nat) (l1 : Int64) (l3 : Int32) : Option (Mm) := k126 M l0 l1 (l3 + 1)
def f_X6_readWord_126 : Nat → Mm → Option Nat → Int64 → Int32 → Option (Mm)
  | 0, _, _, _, _ => none
  | n + 1, M, l0, l1, l3 => if 30 ≤ l3 then (some M) else (gfR M l0 6 2 fun v133 => alL M v133 22 l3 fun v137 => if (lg_cmp v137 l1) = 0 then (pfI M l0 6 7 l3 fun M145 => f_X6_readWord_148 (f_X6_readWord_126 n) M145 l0 l1 l3) else (f_X6_readWord_148 (f_X6_readWord_126 n) M l0 l1 l3))
def f_X6_readWord_93 (M : Mm) (l0 : Option Nat) (l1 : Int64) : Option (Mm) := gfI M l0 6 4 fun v94 => gfI M l0 6 6 fun v98 => if v94 = v98 then (some M) else (gfI M l0 6 4 fun v105 => gfI M l0 6 6 fun v109 => if (v105 - v109) ≤ 8 then (pfL M l0 6 8 l1 fun M121 => f_X6_readWord_126  fu M121 l0 l1 0) else (some M))
def f_X6_readWord_77 (M : Mm) (l0 : Option Nat) (l1 : Int64) : Option (Mm) := gfI M l0 6 4 fun v78 => gfI M l0 6 6 fun v82 => if v78 ≤ v82 then (f_X6_readWord_93  M l0 l1) else (pfI M l0 6 5 2 fun M90 => f_X6_readWord_93  M90 l0 l1)
def f_X6_readWord_2 : Nat → Mm → Option Nat → Int64 → Option (Mm)
  | 0, _, _, _ => none
  | n + 1, M, l0, l1 => gfI M l0 6 4 fun v3 => gfI M l0 6 3 fun v7 => if v7 ≤ v3 then (f_X6_readWord_77  M l0 l1) else (gfR M l0 6 0 fun v14 => gfI M l0 6 4 fun v18 => alI M v14 20 v18 fun v21 => if v21 < 97 then (f_X6_readWord_77  M l0 l1) else (gfR M l0 6 0 fun v28 => gfI M l0 6 4 fun v32 => alI M v28 20 v32 fun v35 => if 122 < v35 then (f_X6_readWord_77  M l0 l1) else (gfR M l0 6 0 fun v47 => gfI M l0 6 4 fun v51 => alI M v47 20 v51 fun v54 => nmL ((((l1 * 27) + (Int32.toInt64 v54)) - 97) + 1) fun x63 => gfI M l0 6 4 fun v66 => pfI M l0 6 4 (v66 + 1) fun M71 => f_X6_readWord_2 n M71 l0 x63)))
def f_X6_readWord (M : Mm) (l0 : Option Nat) : Option (Mm) := f_X6_readWord_2  fu M l0 0
set_option maxHeartbeats 4000000 in
set_option maxRecDepth 100000 in
theorem t_X6_readWord_148 {G : GG} {X : CX} {ans : Mm} (he : EndV G X j_X6_readWord b_X6_readWord ans) {k126 : Mm → Option Nat → Int64 → Int32 → Option (Mm)} (hk126 : ∀ (M : Mm) (a0 : Option Nat) (a1 : Int64) (a3 : Int32), k126 M a0 a1 a3 = some ans → Wt G X j_X6_readWord b_X6_readWord 126 [(0, rf G.1 a0), (1, .long a1), (3, .int a3)] [] M 0 0) {M : Mm} {l0 : Option Nat} {l1 : Int64} {l3 : Int32} (h : f_X6_readWord_148 k126 M l0 l1 l3 = some ans) : Wt G X j_X6_readWord b_X6_readWord 148 [(0, rf G.1 l0), (1, .long l1), (3, .int l3)] [] M 0 0 := by
  unfold f_X6_readWord_148 at h
  refine wt_iinc (pc := 148) (d := 1) (ls' := [(3, .int (l3 + 1)), (0, rf G.1 l0), (1, .long l1)]) 2 dX6_readWord_148 rfl (by decide) (by decide) rfl ?_
  refine wt_goto (pc := 151) (tgt := 126) dX6_readWord_151 (by decide) ?_
  refine wt_sub (ls' := [(0, rf G.1 l0), (1, .long l1), (3, .int (l3 + 1))]) [1, 2, 0] rfl ?_
  exact hk126 _ _ _ _ h
set_option maxHeartbeats 4000000 in
set_option maxRecDepth 100000 in
theorem t_X6_readWord_126 {G : GG} {X : CX} {ans : Mm} (he : EndV G X j_X6_readWord b_X6_readWord ans) : ∀ (n : Nat) {M : Mm} {l0 : Option Nat} {l1 : Int64} {l3 : Int32}, f_X6_readWord_126 n M l0 l1 l3 = some ans → Wt G X j_X6_readWord b_X6_readWord 126 [(0, rf G.1 l0), (1, .long l1), (3, .int l3)] [] M 0 0 := by
  intro n
  induction n with
  | zero =>
    intro M l0 l1 l3 h
    rw [f_X6_readWord_126] at h
    cases h
  | succ n ih =>
    intro M l0 l1 l3 h
    rw [f_X6_readWord_126] at h
    refine wt_iload_n (pc := 126) 2 dX6_readWord_126 rfl ?_
    refine wt_bipush (pc := 127) (v := 30) dX6_readWord_127 (by decide) ?_
    refine wt_icmp_ge (pc := 129) (tgt := 154) dX6_readWord_129 (by decide) (fun q => ?_) (fun q => ?_)
    · have h := ite_t q h
      cases h
      exact he 154 _ _ _ dX6_readWord_154 (by decide) (by decide)
    · have h := ite_f q h
      refine wt_aload_n (pc := 132) 0 dX6_readWord_132 rfl ?_
      refine wt_getR (pc := 133) dX6_readWord_133 fl_X6_15 (fun _ _ _ => rfl) h (fun v133 h => ?_)
      refine wt_iload_n (pc := 136) 2 dX6_readWord_136 rfl ?_
      refine wt_laload (pc := 137) (kd := 22) dX6_readWord_137 rfl rfl h (fun v137 h => ?_)
      refine wt_lload_n (pc := 138) 1 dX6_readWord_138 rfl ?_
      refine wt_lcmp (pc := 139) dX6_readWord_139 ?_
      refine wt_if_ne (pc := 140) (tgt := 148) dX6_readWord_140 (by decide) (fun q => ?_) (fun q => ?_)
      · have h := ite_f q h
        exact t_X6_readWord_148 he (fun _ _ _ _ h => ih h) h
      · have h := ite_t q h
        refine wt_aload_n (pc := 143) 0 dX6_readWord_143 rfl ?_
        refine wt_iload_n (pc := 144) 2 dX6_readWord_144 rfl ?_
        refine wt_putI (pc := 145) dX6_readWord_145 fl_X6_56 rfl rfl h (fun M145 h => ?_)
        exact t_X6_readWord_148 he (fun _ _ _ _ h => ih h) h
set_option maxHeartbeats 4000000 in
set_option maxRecDepth 100000 in
theorem t_X6_readWord_93 {G : GG} {X : CX} {ans : Mm} (he : EndV G X j_X6_readWord b_X6_readWord ans) {M : Mm} {l0 : Option Nat} {l1 : Int64} (h : f_X6_readWord_93 M l0 l1 = some ans) : Wt G X j_X6_readWord b_X6_readWord 93 [(0, rf G.1 l0), (1, .long l1)] [] M 0 0 := by
  unfold f_X6_readWord_93 at h
  refine wt_aload_n (pc := 93) 0 dX6_readWord_93 rfl ?_
  refine wt_getI (pc := 94) dX6_readWord_94 fl_X6_41 (fun _ _ _ => rfl) h (fun v94 h => ?_)
  refine wt_aload_n (pc := 97) 0 dX6_readWord_97 rfl ?_
  refine wt_getI (pc := 98) dX6_readWord_98 fl_X6_53 (fun _ _ _ => rfl) h (fun v98 h => ?_)
  refine wt_icmp_eq (pc := 101) (tgt := 118) dX6_readWord_101 (by decide) (fun q => ?_) (fun q => ?_)
  · have h := ite_t q h
    cases h
    exact he 118 _ _ _ dX6_readWord_118 (by decide) (by decide)
  · have h := ite_f q h
    refine wt_aload_n (pc := 104) 0 dX6_readWord_104 rfl ?_
    refine wt_getI (pc := 105) dX6_readWord_105 fl_X6_41 (fun _ _ _ => rfl) h (fun v105 h => ?_)
    refine wt_aload_n (pc := 108) 0 dX6_readWord_108 rfl ?_
    refine wt_getI (pc := 109) dX6_readWord_109 fl_X6_53 (fun _ _ _ => rfl) h (fun v109 h => ?_)
    refine wt_isub (pc := 112) dX6_readWord_112 ?_
    refine wt_bipush (pc := 113) (v := 8) dX6_readWord_113 (by decide) ?_
    refine wt_icmp_le (pc := 115) (tgt := 119) dX6_readWord_115 (by decide) (fun q => ?_) (fun q => ?_)
    · have h := ite_t q h
      refine wt_aload_n (pc := 119) 0 dX6_readWord_119 rfl ?_
      refine wt_lload_n (pc := 120) 1 dX6_readWord_120 rfl ?_
      refine wt_putL (pc := 121) dX6_readWord_121 fl_X6_61 rfl rfl h (fun M121 h => ?_)
      refine wt_iconst (pc := 124) (v := 0) dX6_readWord_124 (by decide) ?_
      refine wt_istore_n (pc := 125) (i := 3) (ls' := [(3, .int 0), (0, rf G.1 l0), (1, .long l1)]) rfl dX6_readWord_125 (by decide) rfl ?_
      refine wt_sub (ls' := [(0, rf G.1 l0), (1, .long l1), (3, .int 0)]) [1, 2, 0] rfl ?_
      exact t_X6_readWord_126 he  fu h
    · have h := ite_f q h
      cases h
      exact he 118 _ _ _ dX6_readWord_118 (by decide) (by decide)
set_option maxHeartbeats 4000000 in
set_option maxRecDepth 100000 in
theorem t_X6_readWord_77 {G : GG} {X : CX} {ans : Mm} (he : EndV G X j_X6_readWord b_X6_readWord ans) {M : Mm} {l0 : Option Nat} {l1 : Int64} (h : f_X6_readWord_77 M l0 l1 = some ans) : Wt G X j_X6_readWord b_X6_readWord 77 [(0, rf G.1 l0), (1, .long l1)] [] M 0 0 := by
  unfold f_X6_readWord_77 at h
  refine wt_aload_n (pc := 77) 0 dX6_readWord_77 rfl ?_
  refine wt_getI (pc := 78) dX6_readWord_78 fl_X6_41 (fun _ _ _ => rfl) h (fun v78 h => ?_)
  refine wt_aload_n (pc := 81) 0 dX6_readWord_81 rfl ?_
  refine wt_getI (pc := 82) dX6_readWord_82 fl_X6_53 (fun _ _ _ => rfl) h (fun v82 h => ?_)
  refine wt_icmp_le (pc := 85) (tgt := 93) dX6_readWord_85 (by decide) (fun q => ?_) (fun q => ?_)
  · have h := ite_t q h
    exact t_X6_readWord_93 he  h
  · have h := ite_f q h
    refine wt_aload_n (pc := 88) 0 dX6_readWord_88 rfl ?_
    refine wt_iconst (pc := 89) (v := 2) dX6_readWord_89 (by decide) ?_
    refine wt_putI (pc := 90) dX6_readWord_90 fl_X6_65 rfl rfl h (fun M90 h => ?_)
    exact t_X6_readWord_93 he  h
set_option maxHeartbeats 4000000 in
set_option maxRecDepth 100000 in
theorem t_X6_readWord_2 {G : GG} {X : CX} {ans : Mm} (he : EndV G X j_X6_readWord b_X6_readWord ans) : ∀ (n : Nat) {M : Mm} {l0 : Option Nat} {l1 : Int64}, f_X6_readWord_2 n M l0 l1 = some ans → Wt G X j_X6_readWord b_X6_readWord 2 [(0, rf G.1 l0), (1, .long l1)] [] M 0 0 := by
  intro n
  induction n with
  | zero =>
    intro M l0 l1 h
    rw [f_X6_readWord_2] at h
    cases h
  | succ n ih =>
    intro M l0 l1 h
    rw [f_X6_readWord_2] at h
    refine wt_aload_n (pc := 2) 0 dX6_readWord_2 rfl ?_
    refine wt_getI (pc := 3) dX6_readWord_3 fl_X6_41 (fun _ _ _ => rfl) h (fun v3 h => ?_)
    refine wt_aload_n (pc := 6) 0 dX6_readWord_6 rfl ?_
    refine wt_getI (pc := 7) dX6_readWord_7 fl_X6_39 (fun _ _ _ => rfl) h (fun v7 h => ?_)
    refine wt_icmp_ge (pc := 10) (tgt := 77) dX6_readWord_10 (by decide) (fun q => ?_) (fun q => ?_)
    · have h := ite_t q h
      exact t_X6_readWord_77 he  h
    · have h := ite_f q h
      refine wt_aload_n (pc := 13) 0 dX6_readWord_13 rfl ?_
      refine wt_getR (pc := 14) dX6_readWord_14 fl_X6_9 (fun _ _ _ => rfl) h (fun v14 h => ?_)
      refine wt_aload_n (pc := 17) 0 dX6_readWord_17 rfl ?_
      refine wt_getI (pc := 18) dX6_readWord_18 fl_X6_41 (fun _ _ _ => rfl) h (fun v18 h => ?_)
      refine wt_baload (pc := 21) (kd := 20) dX6_readWord_21 rfl rfl h (fun v21 h => ?_)
      refine wt_bipush (pc := 22) (v := 97) dX6_readWord_22 (by decide) ?_
      refine wt_icmp_lt (pc := 24) (tgt := 77) dX6_readWord_24 (by decide) (fun q => ?_) (fun q => ?_)
      · have h := ite_t q h
        exact t_X6_readWord_77 he  h
      · have h := ite_f q h
        refine wt_aload_n (pc := 27) 0 dX6_readWord_27 rfl ?_
        refine wt_getR (pc := 28) dX6_readWord_28 fl_X6_9 (fun _ _ _ => rfl) h (fun v28 h => ?_)
        refine wt_aload_n (pc := 31) 0 dX6_readWord_31 rfl ?_
        refine wt_getI (pc := 32) dX6_readWord_32 fl_X6_41 (fun _ _ _ => rfl) h (fun v32 h => ?_)
        refine wt_baload (pc := 35) (kd := 20) dX6_readWord_35 rfl rfl h (fun v35 h => ?_)
        refine wt_bipush (pc := 36) (v := 122) dX6_readWord_36 (by decide) ?_
        refine wt_icmp_gt (pc := 38) (tgt := 77) dX6_readWord_38 (by decide) (fun q => ?_) (fun q => ?_)
        · have h := ite_t q h
          exact t_X6_readWord_77 he  h
        · have h := ite_f q h
          refine wt_lload_n (pc := 41) 1 dX6_readWord_41 rfl ?_
          refine wt_ldc2 (pc := 42) dX6_readWord_42 kc_X6_31 ?_
          refine wt_lmul (pc := 45) dX6_readWord_45 ?_
          refine wt_aload_n (pc := 46) 0 dX6_readWord_46 rfl ?_
          refine wt_getR (pc := 47) dX6_readWord_47 fl_X6_9 (fun _ _ _ => rfl) h (fun v47 h => ?_)
          refine wt_aload_n (pc := 50) 0 dX6_readWord_50 rfl ?_
          refine wt_getI (pc := 51) dX6_readWord_51 fl_X6_41 (fun _ _ _ => rfl) h (fun v51 h => ?_)
          refine wt_baload (pc := 54) (kd := 20) dX6_readWord_54 rfl rfl h (fun v54 h => ?_)
          refine wt_i2l (pc := 55) dX6_readWord_55 ?_
          refine wt_ladd (pc := 56) dX6_readWord_56 ?_
          refine wt_ldc2 (pc := 57) dX6_readWord_57 kc_X6_33 ?_
          refine wt_lsub (pc := 60) dX6_readWord_60 ?_
          refine wt_lconst (pc := 61) (v := 1) dX6_readWord_61 (by decide) ?_
          refine wt_ladd (pc := 62) dX6_readWord_62 ?_
          refine wt_nmL h (fun x63 h => ?_)
          refine wt_lstore_n (pc := 63) (i := 1) (ls' := [(1, .long x63), (0, rf G.1 l0)]) rfl dX6_readWord_63 (by decide) (by simp [rf_cat, cat_i, cat_l, cat_r]) ?_
          refine wt_aload_n (pc := 64) 1 dX6_readWord_64 rfl ?_
          refine wt_dup (pc := 65) dX6_readWord_65 (rf_cat _ _) ?_
          refine wt_getI (pc := 66) dX6_readWord_66 fl_X6_41 (fun _ _ _ => rfl) h (fun v66 h => ?_)
          refine wt_iconst (pc := 69) (v := 1) dX6_readWord_69 (by decide) ?_
          refine wt_iadd (pc := 70) dX6_readWord_70 ?_
          refine wt_putI (pc := 71) dX6_readWord_71 fl_X6_41 rfl rfl h (fun M71 h => ?_)
          refine wt_goto (pc := 74) (tgt := 2) dX6_readWord_74 (by decide) ?_
          refine wt_sub (ls' := [(0, rf G.1 l0), (1, .long x63)]) [1, 0] rfl ?_
          exact ih h
set_option maxHeartbeats 4000000 in
set_option maxRecDepth 100000 in
theorem t_X6_readWord_e {G : GG} {X : CX} {ans : Mm} (he : EndV G X j_X6_readWord b_X6_readWord ans) {M : Mm} {l0 : Option Nat} (h : f_X6_readWord M l0 = some ans) : Wt G X j_X6_readWord b_X6_readWord 0 [(0, rf G.1 l0)] [] M 0 0 := by
  unfold f_X6_readWord at h
  refine wt_lconst (pc := 0) (v := 0) dX6_readWord_0 (by decide) ?_
  refine wt_lstore_n (pc := 1) (i := 1) (ls' := [(1, .long 0), (0, rf G.1 l0)]) rfl dX6_readWord_1 (by decide) (by simp [rf_cat, cat_i, cat_l, cat_r]) ?_
  refine wt_sub (ls' := [(0, rf G.1 l0), (1, .long 0)]) [1, 0] rfl ?_
  exact t_X6_readWord_2 he  fu h
set_option maxHeartbeats 4000000 in
set_option maxRecDepth 100000 in
theorem c_X6_readWord {G : GG} {M : Mm} {l0 : Option Nat} {r : Mm} (h : f_X6_readWord M l0 = some r) (l : Launch) : Ct l G j_X6_readWord b_X6_readWord [rf G.1 l0] M none r := cf_V (by decide +kernel) (by simp [lg_sl, rf_cat, cat_i, cat_l, j_X6_readWord]) rfl (by simp [lv_args, rf_cat, cat_i, cat_l]) (fun X he => t_X6_readWord_e he h)
def f_X6_readNumber_111 (M : Mm) (s0 : Option Nat) (s1 : Int32) : Option (Mm) := pfI M s0 6 5 s1 fun M111 => some M111
def f_X6_readNumber_81 (M : Mm) (l0 : Option Nat) : Option (Mm) := gfI M l0 6 4 fun v82 => gfI M l0 6 6 fun v86 => if v82 ≤ v86 then (some M) else (gfI M l0 6 4 fun v94 => gfI M l0 6 6 fun v98 => if (v94 - v98) ≤ 4 then (f_X6_readNumber_111  M l0 3) else (f_X6_readNumber_111  M l0 1))
def f_X6_readNumber_5 : Nat → Mm → Option Nat → Option (Mm)
  | 0, _, _ => none
  | n + 1, M, l0 => gfI M l0 6 4 fun v6 => gfI M l0 6 3 fun v10 => if v10 ≤ v6 then (f_X6_readNumber_81  M l0) else (gfR M l0 6 0 fun v17 => gfI M l0 6 4 fun v21 => alI M v17 20 v21 fun v24 => if v24 < 48 then (f_X6_readNumber_81  M l0) else (gfR M l0 6 0 fun v31 => gfI M l0 6 4 fun v35 => alI M v31 20 v35 fun v38 => if 57 < v38 then (f_X6_readNumber_81  M l0) else (gfI M l0 6 9 fun v46 => gfR M l0 6 0 fun v53 => gfI M l0 6 4 fun v57 => alI M v53 20 v57 fun v60 => pfI M l0 6 9 (((v46 * 10) + v60) - 48) fun M65 => gfI M65 l0 6 4 fun v70 => pfI M65 l0 6 4 (v70 + 1) fun M75 => f_X6_readNumber_5 n M75 l0)))
def f_X6_readNumber (M : Mm) (l0 : Option Nat) : Option (Mm) := pfI M l0 6 9 0 fun M2 => f_X6_readNumber_5  fu M2 l0
set_option maxHeartbeats 4000000 in
set_option maxRecDepth 100000 in
theorem t_X6_readNumber_111 {G : GG} {X : CX} {ans : Mm} (he : EndV G X j_X6_readNumber b_X6_readNumber ans) {M : Mm} {s0 : Option Nat} {s1 : Int32} (h : f_X6_readNumber_111 M s0 s1 = some ans) : Wt G X j_X6_readNumber b_X6_readNumber 111 [] [.int s1, rf G.1 s0] M 0 0 := by
  unfold f_X6_readNumber_111 at h
  refine wt_putI (pc := 111) dX6_readNumber_111 fl_X6_65 rfl rfl h (fun M111 h => ?_)
  cases h
  exact he 114 _ _ _ dX6_readNumber_114 (by decide) (by decide)
set_option maxHeartbeats 4000000 in
set_option maxRecDepth 100000 in
theorem t_X6_readNumber_81 {G : GG} {X : CX} {ans : Mm} (he : EndV G X j_X6_readNumber b_X6_readNumber ans) {M : Mm} {l0 : Option Nat} (h : f_X6_readNumber_81 M l0 = some ans) : Wt G X j_X6_readNumber b_X6_readNumber 81 [(0, rf G.1 l0)] [] M 0 0 := by
  unfold f_X6_readNumber_81 at h
  refine wt_aload_n (pc := 81) 0 dX6_readNumber_81 rfl ?_
  refine wt_getI (pc := 82) dX6_readNumber_82 fl_X6_41 (fun _ _ _ => rfl) h (fun v82 h => ?_)
  refine wt_aload_n (pc := 85) 0 dX6_readNumber_85 rfl ?_
  refine wt_getI (pc := 86) dX6_readNumber_86 fl_X6_53 (fun _ _ _ => rfl) h (fun v86 h => ?_)
  refine wt_icmp_le (pc := 89) (tgt := 114) dX6_readNumber_89 (by decide) (fun q => ?_) (fun q => ?_)
  · have h := ite_t q h
    cases h
    exact he 114 _ _ _ dX6_readNumber_114 (by decide) (by decide)
  · have h := ite_f q h
    refine wt_aload_n (pc := 92) 0 dX6_readNumber_92 rfl ?_
    refine wt_aload_n (pc := 93) 0 dX6_readNumber_93 rfl ?_
    refine wt_getI (pc := 94) dX6_readNumber_94 fl_X6_41 (fun _ _ _ => rfl) h (fun v94 h => ?_)
    refine wt_aload_n (pc := 97) 0 dX6_readNumber_97 rfl ?_
    refine wt_getI (pc := 98) dX6_readNumber_98 fl_X6_53 (fun _ _ _ => rfl) h (fun v98 h => ?_)
    refine wt_isub (pc := 101) dX6_readNumber_101 ?_
    refine wt_iconst (pc := 102) (v := 4) dX6_readNumber_102 (by decide) ?_
    refine wt_icmp_le (pc := 103) (tgt := 110) dX6_readNumber_103 (by decide) (fun q => ?_) (fun q => ?_)
    · have h := ite_t q h
      refine wt_iconst (pc := 110) (v := 3) dX6_readNumber_110 (by decide) ?_
      refine wt_sub (ls' := []) [] rfl ?_
      exact t_X6_readNumber_111 he  h
    · have h := ite_f q h
      refine wt_iconst (pc := 106) (v := 1) dX6_readNumber_106 (by decide) ?_
      refine wt_goto (pc := 107) (tgt := 111) dX6_readNumber_107 (by decide) ?_
      refine wt_sub (ls' := []) [] rfl ?_
      exact t_X6_readNumber_111 he  h
set_option maxHeartbeats 4000000 in
set_option maxRecDepth 100000 in
theorem t_X6_readNumber_5 {G : GG} {X : CX} {ans : Mm} (he : EndV G X j_X6_readNumber b_X6_readNumber ans) : ∀ (n : Nat) {M : Mm} {l0 : Option Nat}, f_X6_readNumber_5 n M l0 = some ans → Wt G X j_X6_readNumber b_X6_readNumber 5 [(0, rf G.1 l0)] [] M 0 0 := by
  intro n
  induction n with
  | zero =>
    intro M l0 h
    rw [f_X6_readNumber_5] at h
    cases h
  | succ n ih =>
    intro M l0 h
    rw [f_X6_readNumber_5] at h
    refine wt_aload_n (pc := 5) 0 dX6_readNumber_5 rfl ?_
    refine wt_getI (pc := 6) dX6_readNumber_6 fl_X6_41 (fun _ _ _ => rfl) h (fun v6 h => ?_)
    refine wt_aload_n (pc := 9) 0 dX6_readNumber_9 rfl ?_
    refine wt_getI (pc := 10) dX6_readNumber_10 fl_X6_39 (fun _ _ _ => rfl) h (fun v10 h => ?_)
    refine wt_icmp_ge (pc := 13) (tgt := 81) dX6_readNumber_13 (by decide) (fun q => ?_) (fun q => ?_)
    · have h := ite_t q h
      exact t_X6_readNumber_81 he  h
    · have h := ite_f q h
      refine wt_aload_n (pc := 16) 0 dX6_readNumber_16 rfl ?_
      refine wt_getR (pc := 17) dX6_readNumber_17 fl_X6_9 (fun _ _ _ => rfl) h (fun v17 h => ?_)
      refine wt_aload_n (pc := 20) 0 dX6_readNumber_20 rfl ?_
      refine wt_getI (pc := 21) dX6_readNumber_21 fl_X6_41 (fun _ _ _ => rfl) h (fun v21 h => ?_)
      refine wt_baload (pc := 24) (kd := 20) dX6_readNumber_24 rfl rfl h (fun v24 h => ?_)
      refine wt_bipush (pc := 25) (v := 48) dX6_readNumber_25 (by decide) ?_
      refine wt_icmp_lt (pc := 27) (tgt := 81) dX6_readNumber_27 (by decide) (fun q => ?_) (fun q => ?_)
      · have h := ite_t q h
        exact t_X6_readNumber_81 he  h
      · have h := ite_f q h
        refine wt_aload_n (pc := 30) 0 dX6_readNumber_30 rfl ?_
        refine wt_getR (pc := 31) dX6_readNumber_31 fl_X6_9 (fun _ _ _ => rfl) h (fun v31 h => ?_)
        refine wt_aload_n (pc := 34) 0 dX6_readNumber_34 rfl ?_
        refine wt_getI (pc := 35) dX6_readNumber_35 fl_X6_41 (fun _ _ _ => rfl) h (fun v35 h => ?_)
        refine wt_baload (pc := 38) (kd := 20) dX6_readNumber_38 rfl rfl h (fun v38 h => ?_)
        refine wt_bipush (pc := 39) (v := 57) dX6_readNumber_39 (by decide) ?_
        refine wt_icmp_gt (pc := 41) (tgt := 81) dX6_readNumber_41 (by decide) (fun q => ?_) (fun q => ?_)
        · have h := ite_t q h
          exact t_X6_readNumber_81 he  h
        · have h := ite_f q h
          refine wt_aload_n (pc := 44) 0 dX6_readNumber_44 rfl ?_
          refine wt_aload_n (pc := 45) 0 dX6_readNumber_45 rfl ?_
          refine wt_getI (pc := 46) dX6_readNumber_46 fl_X6_77 (fun _ _ _ => rfl) h (fun v46 h => ?_)
          refine wt_bipush (pc := 49) (v := 10) dX6_readNumber_49 (by decide) ?_
          refine wt_imul (pc := 51) dX6_readNumber_51 ?_
          refine wt_aload_n (pc := 52) 0 dX6_readNumber_52 rfl ?_
          refine wt_getR (pc := 53) dX6_readNumber_53 fl_X6_9 (fun _ _ _ => rfl) h (fun v53 h => ?_)
          refine wt_aload_n (pc := 56) 0 dX6_readNumber_56 rfl ?_
          refine wt_getI (pc := 57) dX6_readNumber_57 fl_X6_41 (fun _ _ _ => rfl) h (fun v57 h => ?_)
          refine wt_baload (pc := 60) (kd := 20) dX6_readNumber_60 rfl rfl h (fun v60 h => ?_)
          refine wt_iadd (pc := 61) dX6_readNumber_61 ?_
          refine wt_bipush (pc := 62) (v := 48) dX6_readNumber_62 (by decide) ?_
          refine wt_isub (pc := 64) dX6_readNumber_64 ?_
          refine wt_putI (pc := 65) dX6_readNumber_65 fl_X6_77 rfl rfl h (fun M65 h => ?_)
          refine wt_aload_n (pc := 68) 0 dX6_readNumber_68 rfl ?_
          refine wt_dup (pc := 69) dX6_readNumber_69 (rf_cat _ _) ?_
          refine wt_getI (pc := 70) dX6_readNumber_70 fl_X6_41 (fun _ _ _ => rfl) h (fun v70 h => ?_)
          refine wt_iconst (pc := 73) (v := 1) dX6_readNumber_73 (by decide) ?_
          refine wt_iadd (pc := 74) dX6_readNumber_74 ?_
          refine wt_putI (pc := 75) dX6_readNumber_75 fl_X6_41 rfl rfl h (fun M75 h => ?_)
          refine wt_goto (pc := 78) (tgt := 5) dX6_readNumber_78 (by decide) ?_
          exact ih h
set_option maxHeartbeats 4000000 in
set_option maxRecDepth 100000 in
theorem t_X6_readNumber_e {G : GG} {X : CX} {ans : Mm} (he : EndV G X j_X6_readNumber b_X6_readNumber ans) {M : Mm} {l0 : Option Nat} (h : f_X6_readNumber M l0 = some ans) : Wt G X j_X6_readNumber b_X6_readNumber 0 [(0, rf G.1 l0)] [] M 0 0 := by
  unfold f_X6_readNumber at h
  refine wt_aload_n (pc := 0) 0 dX6_readNumber_0 rfl ?_
  refine wt_iconst (pc := 1) (v := 0) dX6_readNumber_1 (by decide) ?_
  refine wt_putI (pc := 2) dX6_readNumber_2 fl_X6_77 rfl rfl h (fun M2 h => ?_)
  exact t_X6_readNumber_5 he  fu h
set_option maxHeartbeats 4000000 in
set_option maxRecDepth 100000 in
theorem c_X6_readNumber {G : GG} {M : Mm} {l0 : Option Nat} {r : Mm} (h : f_X6_readNumber M l0 = some r) (l : Launch) : Ct l G j_X6_readNumber b_X6_readNumber [rf G.1 l0] M none r := cf_V (by decide +kernel) (by simp [lg_sl, rf_cat, cat_i, cat_l, j_X6_readNumber]) rfl (by simp [lv_args, rf_cat, cat_i, cat_l]) (fun X he => t_X6_readNumber_e he h)
def f_X6_readSign_70 (M : Mm) (l0 : Option Nat) (s0 : Option Nat) (s1 : Int32) : Option (Mm) := pfI M s0 6 5 s1 fun M70 => gfI M70 l0 6 4 fun v75 => pfI M70 l0 6 4 (v75 + 1) fun M80 => some M80
def f_X6_readSign_59 (M : Mm) (l0 : Option Nat) (s0 : Int32) : Option (Mm) := if s0 = 0 then (f_X6_readSign_70  M l0 l0 1) else (f_X6_readSign_70  M l0 l0 4)
def f_X6_readSign_54 (M : Mm) (l0 : Option Nat) : Option (Mm) := f_X6_readSign_59  M l0 1
def f_X6_readSign (M : Mm) (l0 : Option Nat) : Option (Mm) := gfR M l0 6 0 fun v2 => gfI M l0 6 4 fun v6 => alI M v2 20 v6 fun v9 => pfC M l0 6 10 (UInt32.toInt32 (Int32.toUInt32 (v9 &&& 255) % 65536)) fun M15 => gfI M15 l0 6 10 fun v19 => if v19 = 59 then (f_X6_readSign_54  M15 l0) else (gfI M15 l0 6 10 fun v28 => if v28 = 60 then (f_X6_readSign_54  M15 l0) else (gfI M15 l0 6 10 fun v37 => if v37 = 62 then (f_X6_readSign_54  M15 l0) else (gfI M15 l0 6 10 fun v46 => if v46 = 61 then (f_X6_readSign_54  M15 l0) else (f_X6_readSign_59  M15 l0 0))))
set_option maxHeartbeats 4000000 in
set_option maxRecDepth 100000 in
theorem t_X6_readSign_70 {G : GG} {X : CX} {ans : Mm} (he : EndV G X j_X6_readSign b_X6_readSign ans) {M : Mm} {l0 : Option Nat} {s0 : Option Nat} {s1 : Int32} (h : f_X6_readSign_70 M l0 s0 s1 = some ans) : Wt G X j_X6_readSign b_X6_readSign 70 [(0, rf G.1 l0)] [.int s1, rf G.1 s0] M 0 0 := by
  unfold f_X6_readSign_70 at h
  refine wt_putI (pc := 70) dX6_readSign_70 fl_X6_65 rfl rfl h (fun M70 h => ?_)
  refine wt_aload_n (pc := 73) 0 dX6_readSign_73 rfl ?_
  refine wt_dup (pc := 74) dX6_readSign_74 (rf_cat _ _) ?_
  refine wt_getI (pc := 75) dX6_readSign_75 fl_X6_41 (fun _ _ _ => rfl) h (fun v75 h => ?_)
  refine wt_iconst (pc := 78) (v := 1) dX6_readSign_78 (by decide) ?_
  refine wt_iadd (pc := 79) dX6_readSign_79 ?_
  refine wt_putI (pc := 80) dX6_readSign_80 fl_X6_41 rfl rfl h (fun M80 h => ?_)
  cases h
  exact he 83 _ _ _ dX6_readSign_83 (by decide) (by decide)
set_option maxHeartbeats 4000000 in
set_option maxRecDepth 100000 in
theorem t_X6_readSign_59 {G : GG} {X : CX} {ans : Mm} (he : EndV G X j_X6_readSign b_X6_readSign ans) {M : Mm} {l0 : Option Nat} {s0 : Int32} (h : f_X6_readSign_59 M l0 s0 = some ans) : Wt G X j_X6_readSign b_X6_readSign 59 [(0, rf G.1 l0)] [.int s0] M 0 0 := by
  unfold f_X6_readSign_59 at h
  refine wt_istore_n (pc := 59) (i := 1) (ls' := [(1, .int s0), (0, rf G.1 l0)]) rfl dX6_readSign_59 (by decide) (by simp [rf_cat, cat_i, cat_l, cat_r]) ?_
  refine wt_aload_n (pc := 60) 1 dX6_readSign_60 rfl ?_
  refine wt_iload_n (pc := 61) 0 dX6_readSign_61 rfl ?_
  refine wt_if_eq (pc := 62) (tgt := 69) dX6_readSign_62 (by decide) (fun q => ?_) (fun q => ?_)
  · have h := ite_t q h
    refine wt_iconst (pc := 69) (v := 1) dX6_readSign_69 (by decide) ?_
    refine wt_sub (ls' := [(0, rf G.1 l0)]) [1] rfl ?_
    exact t_X6_readSign_70 he  h
  · have h := ite_f q h
    refine wt_iconst (pc := 65) (v := 4) dX6_readSign_65 (by decide) ?_
    refine wt_goto (pc := 66) (tgt := 70) dX6_readSign_66 (by decide) ?_
    refine wt_sub (ls' := [(0, rf G.1 l0)]) [1] rfl ?_
    exact t_X6_readSign_70 he  h
set_option maxHeartbeats 4000000 in
set_option maxRecDepth 100000 in
theorem t_X6_readSign_54 {G : GG} {X : CX} {ans : Mm} (he : EndV G X j_X6_readSign b_X6_readSign ans) {M : Mm} {l0 : Option Nat} (h : f_X6_readSign_54 M l0 = some ans) : Wt G X j_X6_readSign b_X6_readSign 54 [(0, rf G.1 l0)] [] M 0 0 := by
  unfold f_X6_readSign_54 at h
  refine wt_iconst (pc := 54) (v := 1) dX6_readSign_54 (by decide) ?_
  refine wt_goto (pc := 55) (tgt := 59) dX6_readSign_55 (by decide) ?_
  exact t_X6_readSign_59 he  h
set_option maxHeartbeats 4000000 in
set_option maxRecDepth 100000 in
theorem t_X6_readSign_e {G : GG} {X : CX} {ans : Mm} (he : EndV G X j_X6_readSign b_X6_readSign ans) {M : Mm} {l0 : Option Nat} (h : f_X6_readSign M l0 = some ans) : Wt G X j_X6_readSign b_X6_readSign 0 [(0, rf G.1 l0)] [] M 0 0 := by
  unfold f_X6_readSign at h
  refine wt_aload_n (pc := 0) 0 dX6_readSign_0 rfl ?_
  refine wt_aload_n (pc := 1) 0 dX6_readSign_1 rfl ?_
  refine wt_getR (pc := 2) dX6_readSign_2 fl_X6_9 (fun _ _ _ => rfl) h (fun v2 h => ?_)
  refine wt_aload_n (pc := 5) 0 dX6_readSign_5 rfl ?_
  refine wt_getI (pc := 6) dX6_readSign_6 fl_X6_41 (fun _ _ _ => rfl) h (fun v6 h => ?_)
  refine wt_baload (pc := 9) (kd := 20) dX6_readSign_9 rfl rfl h (fun v9 h => ?_)
  refine wt_sipush (pc := 10) (v := 255) dX6_readSign_10 (by decide) ?_
  refine wt_iand (pc := 13) dX6_readSign_13 ?_
  refine wt_i2c (pc := 14) dX6_readSign_14 ?_
  refine wt_putC (pc := 15) dX6_readSign_15 fl_X6_80 rfl rfl h (fun M15 h => ?_)
  refine wt_aload_n (pc := 18) 0 dX6_readSign_18 rfl ?_
  refine wt_getI (pc := 19) dX6_readSign_19 fl_X6_80 (fun _ _ _ => rfl) h (fun v19 h => ?_)
  refine wt_bipush (pc := 22) (v := 59) dX6_readSign_22 (by decide) ?_
  refine wt_icmp_eq (pc := 24) (tgt := 54) dX6_readSign_24 (by decide) (fun q => ?_) (fun q => ?_)
  · have h := ite_t q h
    exact t_X6_readSign_54 he  h
  · have h := ite_f q h
    refine wt_aload_n (pc := 27) 0 dX6_readSign_27 rfl ?_
    refine wt_getI (pc := 28) dX6_readSign_28 fl_X6_80 (fun _ _ _ => rfl) h (fun v28 h => ?_)
    refine wt_bipush (pc := 31) (v := 60) dX6_readSign_31 (by decide) ?_
    refine wt_icmp_eq (pc := 33) (tgt := 54) dX6_readSign_33 (by decide) (fun q => ?_) (fun q => ?_)
    · have h := ite_t q h
      exact t_X6_readSign_54 he  h
    · have h := ite_f q h
      refine wt_aload_n (pc := 36) 0 dX6_readSign_36 rfl ?_
      refine wt_getI (pc := 37) dX6_readSign_37 fl_X6_80 (fun _ _ _ => rfl) h (fun v37 h => ?_)
      refine wt_bipush (pc := 40) (v := 62) dX6_readSign_40 (by decide) ?_
      refine wt_icmp_eq (pc := 42) (tgt := 54) dX6_readSign_42 (by decide) (fun q => ?_) (fun q => ?_)
      · have h := ite_t q h
        exact t_X6_readSign_54 he  h
      · have h := ite_f q h
        refine wt_aload_n (pc := 45) 0 dX6_readSign_45 rfl ?_
        refine wt_getI (pc := 46) dX6_readSign_46 fl_X6_80 (fun _ _ _ => rfl) h (fun v46 h => ?_)
        refine wt_bipush (pc := 49) (v := 61) dX6_readSign_49 (by decide) ?_
        refine wt_icmp_ne (pc := 51) (tgt := 58) dX6_readSign_51 (by decide) (fun q => ?_) (fun q => ?_)
        · have h := ite_f q h
          refine wt_iconst (pc := 58) (v := 0) dX6_readSign_58 (by decide) ?_
          exact t_X6_readSign_59 he  h
        · have h := ite_t q h
          exact t_X6_readSign_54 he  h
set_option maxHeartbeats 4000000 in
set_option maxRecDepth 100000 in
theorem c_X6_readSign {G : GG} {M : Mm} {l0 : Option Nat} {r : Mm} (h : f_X6_readSign M l0 = some r) (l : Launch) : Ct l G j_X6_readSign b_X6_readSign [rf G.1 l0] M none r := cf_V (by decide +kernel) (by simp [lg_sl, rf_cat, cat_i, cat_l, j_X6_readSign]) rfl (by simp [lv_args, rf_cat, cat_i, cat_l]) (fun X he => t_X6_readSign_e he h)
def f_X6_step_92 (M : Mm) (l0 : Option Nat) : Option (Mm) := gfI M l0 6 5 fun v93 => if v93 = 0 then (gfI M l0 6 4 fun v100 => gfI M l0 6 3 fun v104 => if v104 ≤ v100 then (some M) else (ck M l0 6 <| bv (f_X6_readSign M l0) fun M111 => some M111)) else (some M)
def f_X6_step_52 (M : Mm) (l0 : Option Nat) : Option (Mm) := gfI M l0 6 4 fun v54 => pfI M l0 6 6 v54 fun M57 => pfI M57 l0 6 7 (-1) fun M62 => pfL M62 l0 6 8 (-1) fun M69 => pfI M69 l0 6 5 0 fun M74 => ck M74 l0 6 <| bv (f_X6_readWord M74 l0) fun M78 => gfI M78 l0 6 5 fun v82 => if v82 = 0 then (ck M78 l0 6 <| bv (f_X6_readNumber M78 l0) fun M89 => f_X6_step_92  M89 l0) else (f_X6_step_92  M78 l0)
def f_X6_step_39 (k0 : Mm → Option Nat → Option (Mm)) (M : Mm) (l0 : Option Nat) : Option (Mm) := gfI M l0 6 4 fun v41 => pfI M l0 6 4 (v41 + 1) fun M46 => k0 M46 l0
def f_X6_step_0 : Nat → Mm → Option Nat → Option (Mm)
  | 0, _, _ => none
  | n + 1, M, l0 => gfI M l0 6 4 fun v1 => gfI M l0 6 3 fun v5 => if v5 ≤ v1 then (f_X6_step_52  M l0) else (gfR M l0 6 0 fun v12 => gfI M l0 6 4 fun v16 => alI M v12 20 v16 fun v19 => if v19 = 32 then (f_X6_step_39 (f_X6_step_0 n) M l0) else (gfR M l0 6 0 fun v26 => gfI M l0 6 4 fun v30 => alI M v26 20 v30 fun v33 => if v33 = 10 then (f_X6_step_39 (f_X6_step_0 n) M l0) else (f_X6_step_52  M l0)))
def f_X6_step (M : Mm) (l0 : Option Nat) : Option (Mm) := f_X6_step_0  fu M l0
set_option maxHeartbeats 4000000 in
set_option maxRecDepth 100000 in
theorem t_X6_step_92 {G : GG} {X : CX} {ans : Mm} (he : EndV G X j_X6_step b_X6_step ans) {M : Mm} {l0 : Option Nat} (h : f_X6_step_92 M l0 = some ans) : Wt G X j_X6_step b_X6_step 92 [(0, rf G.1 l0)] [] M 0 0 := by
  unfold f_X6_step_92 at h
  refine wt_aload_n (pc := 92) 0 dX6_step_92 rfl ?_
  refine wt_getI (pc := 93) dX6_step_93 fl_X6_65 (fun _ _ _ => rfl) h (fun v93 h => ?_)
  refine wt_if_ne (pc := 96) (tgt := 114) dX6_step_96 (by decide) (fun q => ?_) (fun q => ?_)
  · have h := ite_f q h
    cases h
    exact he 114 _ _ _ dX6_step_114 (by decide) (by decide)
  · have h := ite_t q h
    refine wt_aload_n (pc := 99) 0 dX6_step_99 rfl ?_
    refine wt_getI (pc := 100) dX6_step_100 fl_X6_41 (fun _ _ _ => rfl) h (fun v100 h => ?_)
    refine wt_aload_n (pc := 103) 0 dX6_step_103 rfl ?_
    refine wt_getI (pc := 104) dX6_step_104 fl_X6_39 (fun _ _ _ => rfl) h (fun v104 h => ?_)
    refine wt_icmp_ge (pc := 107) (tgt := 114) dX6_step_107 (by decide) (fun q => ?_) (fun q => ?_)
    · have h := ite_t q h
      cases h
      exact he 114 _ _ _ dX6_step_114 (by decide) (by decide)
    · have h := ite_f q h
      refine wt_aload_n (pc := 110) 0 dX6_step_110 rfl ?_
      refine wt_cVV (pc := 111) (J' := j_X6_readSign) (As := []) (st := []) (B' := b_X6_readSign) (u' := 0) (w' := 0) dX6_step_111 ml_X6_74 mv_X6_readSign (fun M9 e9 => c_X6_readSign e9) rfl (by decide) rfl rfl (by decide) (by decide) (by decide) rfl h (fun M111 h => ?_)
      cases h
      exact he 114 _ _ _ dX6_step_114 (by decide) (by decide)
set_option maxHeartbeats 4000000 in
set_option maxRecDepth 100000 in
theorem t_X6_step_52 {G : GG} {X : CX} {ans : Mm} (he : EndV G X j_X6_step b_X6_step ans) {M : Mm} {l0 : Option Nat} (h : f_X6_step_52 M l0 = some ans) : Wt G X j_X6_step b_X6_step 52 [(0, rf G.1 l0)] [] M 0 0 := by
  unfold f_X6_step_52 at h
  refine wt_aload_n (pc := 52) 0 dX6_step_52 rfl ?_
  refine wt_aload_n (pc := 53) 0 dX6_step_53 rfl ?_
  refine wt_getI (pc := 54) dX6_step_54 fl_X6_41 (fun _ _ _ => rfl) h (fun v54 h => ?_)
  refine wt_putI (pc := 57) dX6_step_57 fl_X6_53 rfl rfl h (fun M57 h => ?_)
  refine wt_aload_n (pc := 60) 0 dX6_step_60 rfl ?_
  refine wt_iconst (pc := 61) (v := (-1)) dX6_step_61 (by decide) ?_
  refine wt_putI (pc := 62) dX6_step_62 fl_X6_56 rfl rfl h (fun M62 h => ?_)
  refine wt_aload_n (pc := 65) 0 dX6_step_65 rfl ?_
  refine wt_ldc2 (pc := 66) dX6_step_66 kc_X6_59 ?_
  refine wt_putL (pc := 69) dX6_step_69 fl_X6_61 rfl rfl h (fun M69 h => ?_)
  refine wt_aload_n (pc := 72) 0 dX6_step_72 rfl ?_
  refine wt_iconst (pc := 73) (v := 0) dX6_step_73 (by decide) ?_
  refine wt_putI (pc := 74) dX6_step_74 fl_X6_65 rfl rfl h (fun M74 h => ?_)
  refine wt_aload_n (pc := 77) 0 dX6_step_77 rfl ?_
  refine wt_cVV (pc := 78) (J' := j_X6_readWord) (As := []) (st := []) (B' := b_X6_readWord) (u' := 0) (w' := 0) dX6_step_78 ml_X6_68 mv_X6_readWord (fun M9 e9 => c_X6_readWord e9) rfl (by decide) rfl rfl (by decide) (by decide) (by decide) rfl h (fun M78 h => ?_)
  refine wt_aload_n (pc := 81) 0 dX6_step_81 rfl ?_
  refine wt_getI (pc := 82) dX6_step_82 fl_X6_65 (fun _ _ _ => rfl) h (fun v82 h => ?_)
  refine wt_if_ne (pc := 85) (tgt := 92) dX6_step_85 (by decide) (fun q => ?_) (fun q => ?_)
  · have h := ite_f q h
    exact t_X6_step_92 he  h
  · have h := ite_t q h
    refine wt_aload_n (pc := 88) 0 dX6_step_88 rfl ?_
    refine wt_cVV (pc := 89) (J' := j_X6_readNumber) (As := []) (st := []) (B' := b_X6_readNumber) (u' := 0) (w' := 0) dX6_step_89 ml_X6_71 mv_X6_readNumber (fun M9 e9 => c_X6_readNumber e9) rfl (by decide) rfl rfl (by decide) (by decide) (by decide) rfl h (fun M89 h => ?_)
    exact t_X6_step_92 he  h
set_option maxHeartbeats 4000000 in
set_option maxRecDepth 100000 in
theorem t_X6_step_39 {G : GG} {X : CX} {ans : Mm} (he : EndV G X j_X6_step b_X6_step ans) {k0 : Mm → Option Nat → Option (Mm)} (hk0 : ∀ (M : Mm) (a0 : Option Nat), k0 M a0 = some ans → Wt G X j_X6_step b_X6_step 0 [(0, rf G.1 a0)] [] M 0 0) {M : Mm} {l0 : Option Nat} (h : f_X6_step_39 k0 M l0 = some ans) : Wt G X j_X6_step b_X6_step 39 [(0, rf G.1 l0)] [] M 0 0 := by
  unfold f_X6_step_39 at h
  refine wt_aload_n (pc := 39) 0 dX6_step_39 rfl ?_
  refine wt_dup (pc := 40) dX6_step_40 (rf_cat _ _) ?_
  refine wt_getI (pc := 41) dX6_step_41 fl_X6_41 (fun _ _ _ => rfl) h (fun v41 h => ?_)
  refine wt_iconst (pc := 44) (v := 1) dX6_step_44 (by decide) ?_
  refine wt_iadd (pc := 45) dX6_step_45 ?_
  refine wt_putI (pc := 46) dX6_step_46 fl_X6_41 rfl rfl h (fun M46 h => ?_)
  refine wt_goto (pc := 49) (tgt := 0) dX6_step_49 (by decide) ?_
  exact hk0 _ _ h
set_option maxHeartbeats 4000000 in
set_option maxRecDepth 100000 in
theorem t_X6_step_0 {G : GG} {X : CX} {ans : Mm} (he : EndV G X j_X6_step b_X6_step ans) : ∀ (n : Nat) {M : Mm} {l0 : Option Nat}, f_X6_step_0 n M l0 = some ans → Wt G X j_X6_step b_X6_step 0 [(0, rf G.1 l0)] [] M 0 0 := by
  intro n
  induction n with
  | zero =>
    intro M l0 h
    rw [f_X6_step_0] at h
    cases h
  | succ n ih =>
    intro M l0 h
    rw [f_X6_step_0] at h
    refine wt_aload_n (pc := 0) 0 dX6_step_0 rfl ?_
    refine wt_getI (pc := 1) dX6_step_1 fl_X6_41 (fun _ _ _ => rfl) h (fun v1 h => ?_)
    refine wt_aload_n (pc := 4) 0 dX6_step_4 rfl ?_
    refine wt_getI (pc := 5) dX6_step_5 fl_X6_39 (fun _ _ _ => rfl) h (fun v5 h => ?_)
    refine wt_icmp_ge (pc := 8) (tgt := 52) dX6_step_8 (by decide) (fun q => ?_) (fun q => ?_)
    · have h := ite_t q h
      exact t_X6_step_52 he  h
    · have h := ite_f q h
      refine wt_aload_n (pc := 11) 0 dX6_step_11 rfl ?_
      refine wt_getR (pc := 12) dX6_step_12 fl_X6_9 (fun _ _ _ => rfl) h (fun v12 h => ?_)
      refine wt_aload_n (pc := 15) 0 dX6_step_15 rfl ?_
      refine wt_getI (pc := 16) dX6_step_16 fl_X6_41 (fun _ _ _ => rfl) h (fun v16 h => ?_)
      refine wt_baload (pc := 19) (kd := 20) dX6_step_19 rfl rfl h (fun v19 h => ?_)
      refine wt_bipush (pc := 20) (v := 32) dX6_step_20 (by decide) ?_
      refine wt_icmp_eq (pc := 22) (tgt := 39) dX6_step_22 (by decide) (fun q => ?_) (fun q => ?_)
      · have h := ite_t q h
        exact t_X6_step_39 he (fun _ _ h => ih h) h
      · have h := ite_f q h
        refine wt_aload_n (pc := 25) 0 dX6_step_25 rfl ?_
        refine wt_getR (pc := 26) dX6_step_26 fl_X6_9 (fun _ _ _ => rfl) h (fun v26 h => ?_)
        refine wt_aload_n (pc := 29) 0 dX6_step_29 rfl ?_
        refine wt_getI (pc := 30) dX6_step_30 fl_X6_41 (fun _ _ _ => rfl) h (fun v30 h => ?_)
        refine wt_baload (pc := 33) (kd := 20) dX6_step_33 rfl rfl h (fun v33 h => ?_)
        refine wt_bipush (pc := 34) (v := 10) dX6_step_34 (by decide) ?_
        refine wt_icmp_ne (pc := 36) (tgt := 52) dX6_step_36 (by decide) (fun q => ?_) (fun q => ?_)
        · have h := ite_f q h
          exact t_X6_step_52 he  h
        · have h := ite_t q h
          exact t_X6_step_39 he (fun _ _ h => ih h) h
set_option maxHeartbeats 4000000 in
set_option maxRecDepth 100000 in
theorem t_X6_step_e {G : GG} {X : CX} {ans : Mm} (he : EndV G X j_X6_step b_X6_step ans) {M : Mm} {l0 : Option Nat} (h : f_X6_step M l0 = some ans) : Wt G X j_X6_step b_X6_step 0 [(0, rf G.1 l0)] [] M 0 0 := by
  unfold f_X6_step at h
  exact t_X6_step_0 he  fu h
set_option maxHeartbeats 4000000 in
set_option maxRecDepth 100000 in
theorem c_X6_step {G : GG} {M : Mm} {l0 : Option Nat} {r : Mm} (h : f_X6_step M l0 = some r) (l : Launch) : Ct l G j_X6_step b_X6_step [rf G.1 l0] M none r := cf_V (by decide +kernel) (by simp [lg_sl, rf_cat, cat_i, cat_l, j_X6_step]) rfl (by simp [lv_args, rf_cat, cat_i, cat_l]) (fun X he => t_X6_step_e he h)
def f_X6_open (M : Mm) (l0 : Option Nat) (l1 : Int32) : Option (Mm) := pfI M l0 6 3 l1 fun M2 => pfI M2 l0 6 4 0 fun M7 => pfI M7 l0 6 12 0 fun M12 => pfI M12 l0 6 13 (-1) fun M17 => ck M17 l0 6 <| bv (f_X6_step M17 l0) fun M21 => some M21
set_option maxHeartbeats 4000000 in
set_option maxRecDepth 100000 in
theorem t_X6_open_e {G : GG} {X : CX} {ans : Mm} (he : EndV G X j_X6_open b_X6_open ans) {M : Mm} {l0 : Option Nat} {l1 : Int32} (h : f_X6_open M l0 l1 = some ans) : Wt G X j_X6_open b_X6_open 0 [(0, rf G.1 l0), (1, .int l1)] [] M 0 0 := by
  unfold f_X6_open at h
  refine wt_aload_n (pc := 0) 0 dX6_open_0 rfl ?_
  refine wt_iload_n (pc := 1) 1 dX6_open_1 rfl ?_
  refine wt_putI (pc := 2) dX6_open_2 fl_X6_39 rfl rfl h (fun M2 h => ?_)
  refine wt_aload_n (pc := 5) 0 dX6_open_5 rfl ?_
  refine wt_iconst (pc := 6) (v := 0) dX6_open_6 (by decide) ?_
  refine wt_putI (pc := 7) dX6_open_7 fl_X6_41 rfl rfl h (fun M7 h => ?_)
  refine wt_aload_n (pc := 10) 0 dX6_open_10 rfl ?_
  refine wt_iconst (pc := 11) (v := 0) dX6_open_11 (by decide) ?_
  refine wt_putI (pc := 12) dX6_open_12 fl_X6_44 rfl rfl h (fun M12 h => ?_)
  refine wt_aload_n (pc := 15) 0 dX6_open_15 rfl ?_
  refine wt_iconst (pc := 16) (v := (-1)) dX6_open_16 (by decide) ?_
  refine wt_putI (pc := 17) dX6_open_17 fl_X6_47 rfl rfl h (fun M17 h => ?_)
  refine wt_aload_n (pc := 20) 0 dX6_open_20 rfl ?_
  refine wt_cVV (pc := 21) (J' := j_X6_step) (As := []) (st := []) (B' := b_X6_step) (u' := 0) (w' := 0) dX6_open_21 ml_X6_50 mv_X6_step (fun M9 e9 => c_X6_step e9) rfl (by decide) rfl rfl (by decide) (by decide) (by decide) rfl h (fun M21 h => ?_)
  cases h
  exact he 24 _ _ _ dX6_open_24 (by decide) (by decide)
set_option maxHeartbeats 4000000 in
set_option maxRecDepth 100000 in
theorem c_X6_open {G : GG} {M : Mm} {l0 : Option Nat} {l1 : Int32} {r : Mm} (h : f_X6_open M l0 l1 = some r) (l : Launch) : Ct l G j_X6_open b_X6_open [rf G.1 l0, .int l1] M none r := cf_V (by decide +kernel) (by simp [lg_sl, rf_cat, cat_i, cat_l, j_X6_open]) rfl (by simp [lv_args, rf_cat, cat_i, cat_l]) (fun X he => t_X6_open_e he h)
def g_X6_failAt (M : Mm) (l0 : Option Nat) (l1 : Int32) (l2 : Int32) : Option (Int32 × Mm) := pfI M l0 6 12 l1 fun M2 => pfI M2 l0 6 13 l2 fun M7 => some (0, M7)
def f_X6_failAt (M : Mm) (l0 : Option Nat) (l1 : Int32) (l2 : Int32) : Option (Int32 × Mm) := zc (g_X6_failAt M l0 l1 l2)
set_option maxHeartbeats 4000000 in
set_option maxRecDepth 100000 in
theorem t_X6_failAt_e {G : GG} {X : CX} {ans : Int32 × Mm} (he : EndI G X j_X6_failAt b_X6_failAt ans) {M : Mm} {l0 : Option Nat} {l1 : Int32} {l2 : Int32} (h : g_X6_failAt M l0 l1 l2 = some ans) : Wt G X j_X6_failAt b_X6_failAt 0 [(0, rf G.1 l0), (1, .int l1), (2, .int l2)] [] M 0 0 := by
  unfold g_X6_failAt at h
  refine wt_aload_n (pc := 0) 0 dX6_failAt_0 rfl ?_
  refine wt_iload_n (pc := 1) 1 dX6_failAt_1 rfl ?_
  refine wt_putI (pc := 2) dX6_failAt_2 fl_X6_44 rfl rfl h (fun M2 h => ?_)
  refine wt_aload_n (pc := 5) 0 dX6_failAt_5 rfl ?_
  refine wt_iload_n (pc := 6) 2 dX6_failAt_6 rfl ?_
  refine wt_putI (pc := 7) dX6_failAt_7 fl_X6_47 rfl rfl h (fun M7 h => ?_)
  refine wt_iconst (pc := 10) (v := 0) dX6_failAt_10 (by decide) ?_
  cases h
  exact he 11 _ _ _ dX6_failAt_11 (by decide) (by decide)
set_option maxHeartbeats 4000000 in
set_option maxRecDepth 100000 in
theorem c_X6_failAt {G : GG} {M : Mm} {l0 : Option Nat} {l1 : Int32} {l2 : Int32} {r : Int32 × Mm} (h : f_X6_failAt M l0 l1 l2 = some r) (l : Launch) : Ct l G j_X6_failAt b_X6_failAt [rf G.1 l0, .int l1, .int l2] M (some (.int r.1)) r.2 := cf_Z h (by decide +kernel) (by simp [lg_sl, rf_cat, cat_i, cat_l, j_X6_failAt]) rfl (by simp [lv_args, rf_cat, cat_i, cat_l]) (fun h X he => t_X6_failAt_e he h)
def f_X6_fail_14 (M : Mm) (l0 : Option Nat) (s0 : Option Nat) (s1 : Int32) : Option (Int32 × Mm) := gfI M l0 6 6 fun v15 => ck M s0 6 <| bd (f_X6_failAt M s0 s1 v15) fun v18 M18 => some (v18, M18)
def g_X6_fail (M : Mm) (l0 : Option Nat) (l1 : Int32) : Option (Int32 × Mm) := gfI M l0 6 5 fun v2 => if v2 = 1 then (f_X6_fail_14  M l0 l0 1) else (f_X6_fail_14  M l0 l0 l1)
def f_X6_fail (M : Mm) (l0 : Option Nat) (l1 : Int32) : Option (Int32 × Mm) := zc (g_X6_fail M l0 l1)
set_option maxHeartbeats 4000000 in
set_option maxRecDepth 100000 in
theorem t_X6_fail_14 {G : GG} {X : CX} {ans : Int32 × Mm} (he : EndI G X j_X6_fail b_X6_fail ans) {M : Mm} {l0 : Option Nat} {s0 : Option Nat} {s1 : Int32} (h : f_X6_fail_14 M l0 s0 s1 = some ans) : Wt G X j_X6_fail b_X6_fail 14 [(0, rf G.1 l0)] [.int s1, rf G.1 s0] M 0 0 := by
  unfold f_X6_fail_14 at h
  refine wt_aload_n (pc := 14) 0 dX6_fail_14 rfl ?_
  refine wt_getI (pc := 15) dX6_fail_15 fl_X6_53 (fun _ _ _ => rfl) h (fun v15 h => ?_)
  refine wt_cVI (pc := 18) (J' := j_X6_failAt) (As := [.int s1, .int v15]) (st := []) (B' := b_X6_failAt) (u' := 0) (w' := 0) dX6_fail_18 ml_X6_84 mv_X6_failAt (fun v9 M9 e9 => c_X6_failAt e9) rfl (by decide) rfl rfl (by decide) (by decide) (by decide) rfl h (fun v18 M18 h => ?_)
  cases h
  exact he 21 _ _ _ dX6_fail_21 (by decide) (by decide)
set_option maxHeartbeats 4000000 in
set_option maxRecDepth 100000 in
theorem t_X6_fail_e {G : GG} {X : CX} {ans : Int32 × Mm} (he : EndI G X j_X6_fail b_X6_fail ans) {M : Mm} {l0 : Option Nat} {l1 : Int32} (h : g_X6_fail M l0 l1 = some ans) : Wt G X j_X6_fail b_X6_fail 0 [(0, rf G.1 l0), (1, .int l1)] [] M 0 0 := by
  unfold g_X6_fail at h
  refine wt_aload_n (pc := 0) 0 dX6_fail_0 rfl ?_
  refine wt_aload_n (pc := 1) 0 dX6_fail_1 rfl ?_
  refine wt_getI (pc := 2) dX6_fail_2 fl_X6_65 (fun _ _ _ => rfl) h (fun v2 h => ?_)
  refine wt_iconst (pc := 5) (v := 1) dX6_fail_5 (by decide) ?_
  refine wt_icmp_ne (pc := 6) (tgt := 13) dX6_fail_6 (by decide) (fun q => ?_) (fun q => ?_)
  · have h := ite_f q h
    refine wt_iload_n (pc := 13) 1 dX6_fail_13 rfl ?_
    refine wt_sub (ls' := [(0, rf G.1 l0)]) [0] rfl ?_
    exact t_X6_fail_14 he  h
  · have h := ite_t q h
    refine wt_iconst (pc := 9) (v := 1) dX6_fail_9 (by decide) ?_
    refine wt_goto (pc := 10) (tgt := 14) dX6_fail_10 (by decide) ?_
    refine wt_sub (ls' := [(0, rf G.1 l0)]) [0] rfl ?_
    exact t_X6_fail_14 he  h
set_option maxHeartbeats 4000000 in
set_option maxRecDepth 100000 in
theorem c_X6_fail {G : GG} {M : Mm} {l0 : Option Nat} {l1 : Int32} {r : Int32 × Mm} (h : f_X6_fail M l0 l1 = some r) (l : Launch) : Ct l G j_X6_fail b_X6_fail [rf G.1 l0, .int l1] M (some (.int r.1)) r.2 := cf_Z h (by decide +kernel) (by simp [lg_sl, rf_cat, cat_i, cat_l, j_X6_fail]) rfl (by simp [lv_args, rf_cat, cat_i, cat_l]) (fun h X he => t_X6_fail_e he h)
def g_X6_isName (M : Mm) (l0 : Option Nat) : Option (Int32 × Mm) := gfI M l0 6 5 fun v1 => if v1 = 2 then (gfL M l0 6 8 fun v9 => if (lg_cmp v9 (-1)) = 0 then (some (0, M)) else (gfI M l0 6 7 fun v20 => if v20 = (-1) then (some (1, M)) else (some (0, M)))) else (some (0, M))
def f_X6_isName (M : Mm) (l0 : Option Nat) : Option (Int32 × Mm) := zc (g_X6_isName M l0)
set_option maxHeartbeats 4000000 in
set_option maxRecDepth 100000 in
theorem t_X6_isName_e {G : GG} {X : CX} {ans : Int32 × Mm} (he : EndI G X j_X6_isName b_X6_isName ans) {M : Mm} {l0 : Option Nat} (h : g_X6_isName M l0 = some ans) : Wt G X j_X6_isName b_X6_isName 0 [(0, rf G.1 l0)] [] M 0 0 := by
  unfold g_X6_isName at h
  refine wt_aload_n (pc := 0) 0 dX6_isName_0 rfl ?_
  refine wt_getI (pc := 1) dX6_isName_1 fl_X6_65 (fun _ _ _ => rfl) h (fun v1 h => ?_)
  refine wt_iconst (pc := 4) (v := 2) dX6_isName_4 (by decide) ?_
  refine wt_icmp_ne (pc := 5) (tgt := 31) dX6_isName_5 (by decide) (fun q => ?_) (fun q => ?_)
  · have h := ite_f q h
    refine wt_iconst (pc := 31) (v := 0) dX6_isName_31 (by decide) ?_
    cases h
    exact he 32 _ _ _ dX6_isName_32 (by decide) (by decide)
  · have h := ite_t q h
    refine wt_aload_n (pc := 8) 0 dX6_isName_8 rfl ?_
    refine wt_getL (pc := 9) dX6_isName_9 fl_X6_61 (fun _ _ _ => rfl) h (fun v9 h => ?_)
    refine wt_ldc2 (pc := 12) dX6_isName_12 kc_X6_59 ?_
    refine wt_lcmp (pc := 15) dX6_isName_15 ?_
    refine wt_if_eq (pc := 16) (tgt := 31) dX6_isName_16 (by decide) (fun q => ?_) (fun q => ?_)
    · have h := ite_t q h
      refine wt_iconst (pc := 31) (v := 0) dX6_isName_31 (by decide) ?_
      cases h
      exact he 32 _ _ _ dX6_isName_32 (by decide) (by decide)
    · have h := ite_f q h
      refine wt_aload_n (pc := 19) 0 dX6_isName_19 rfl ?_
      refine wt_getI (pc := 20) dX6_isName_20 fl_X6_56 (fun _ _ _ => rfl) h (fun v20 h => ?_)
      refine wt_iconst (pc := 23) (v := (-1)) dX6_isName_23 (by decide) ?_
      refine wt_icmp_ne (pc := 24) (tgt := 31) dX6_isName_24 (by decide) (fun q => ?_) (fun q => ?_)
      · have h := ite_f q h
        refine wt_iconst (pc := 31) (v := 0) dX6_isName_31 (by decide) ?_
        cases h
        exact he 32 _ _ _ dX6_isName_32 (by decide) (by decide)
      · have h := ite_t q h
        refine wt_iconst (pc := 27) (v := 1) dX6_isName_27 (by decide) ?_
        refine wt_goto (pc := 28) (tgt := 32) dX6_isName_28 (by decide) ?_
        cases h
        exact he 32 _ _ _ dX6_isName_32 (by decide) (by decide)
set_option maxHeartbeats 4000000 in
set_option maxRecDepth 100000 in
theorem c_X6_isName {G : GG} {M : Mm} {l0 : Option Nat} {r : Int32 × Mm} (h : f_X6_isName M l0 = some r) (l : Launch) : Ct l G j_X6_isName b_X6_isName [rf G.1 l0] M (some (.int r.1)) r.2 := cf_Z h (by decide +kernel) (by simp [lg_sl, rf_cat, cat_i, cat_l, j_X6_isName]) rfl (by simp [lv_args, rf_cat, cat_i, cat_l]) (fun h X he => t_X6_isName_e he h)
def g_X6_takeWord (M : Mm) (l0 : Option Nat) (l1 : Int32) : Option (Int32 × Mm) := gfI M l0 6 7 fun v1 => if v1 = l1 then (ck M l0 6 <| bv (f_X6_step M l0) fun M15 => some (1, M15)) else (ck M l0 6 <| bd (f_X6_fail M l0 2) fun v10 M10 => some (v10, M10))
def f_X6_takeWord (M : Mm) (l0 : Option Nat) (l1 : Int32) : Option (Int32 × Mm) := zc (g_X6_takeWord M l0 l1)
set_option maxHeartbeats 4000000 in
set_option maxRecDepth 100000 in
theorem t_X6_takeWord_e {G : GG} {X : CX} {ans : Int32 × Mm} (he : EndI G X j_X6_takeWord b_X6_takeWord ans) {M : Mm} {l0 : Option Nat} {l1 : Int32} (h : g_X6_takeWord M l0 l1 = some ans) : Wt G X j_X6_takeWord b_X6_takeWord 0 [(0, rf G.1 l0), (1, .int l1)] [] M 0 0 := by
  unfold g_X6_takeWord at h
  refine wt_aload_n (pc := 0) 0 dX6_takeWord_0 rfl ?_
  refine wt_getI (pc := 1) dX6_takeWord_1 fl_X6_56 (fun _ _ _ => rfl) h (fun v1 h => ?_)
  refine wt_iload_n (pc := 4) 1 dX6_takeWord_4 rfl ?_
  refine wt_icmp_eq (pc := 5) (tgt := 14) dX6_takeWord_5 (by decide) (fun q => ?_) (fun q => ?_)
  · have h := ite_t q h
    refine wt_aload_n (pc := 14) 0 dX6_takeWord_14 rfl ?_
    refine wt_cVV (pc := 15) (J' := j_X6_step) (As := []) (st := []) (B' := b_X6_step) (u' := 0) (w' := 0) dX6_takeWord_15 ml_X6_50 mv_X6_step (fun M9 e9 => c_X6_step e9) rfl (by decide) rfl rfl (by decide) (by decide) (by decide) rfl h (fun M15 h => ?_)
    refine wt_iconst (pc := 18) (v := 1) dX6_takeWord_18 (by decide) ?_
    cases h
    exact he 19 _ _ _ dX6_takeWord_19 (by decide) (by decide)
  · have h := ite_f q h
    refine wt_aload_n (pc := 8) 0 dX6_takeWord_8 rfl ?_
    refine wt_iconst (pc := 9) (v := 2) dX6_takeWord_9 (by decide) ?_
    refine wt_cVI (pc := 10) (J' := j_X6_fail) (As := [.int 2]) (st := []) (B' := b_X6_fail) (u' := 0) (w' := 0) dX6_takeWord_10 ml_X6_88 mv_X6_fail (fun v9 M9 e9 => c_X6_fail e9) rfl (by decide) rfl rfl (by decide) (by decide) (by decide) rfl h (fun v10 M10 h => ?_)
    cases h
    exact he 13 _ _ _ dX6_takeWord_13 (by decide) (by decide)
set_option maxHeartbeats 4000000 in
set_option maxRecDepth 100000 in
theorem c_X6_takeWord {G : GG} {M : Mm} {l0 : Option Nat} {l1 : Int32} {r : Int32 × Mm} (h : f_X6_takeWord M l0 l1 = some r) (l : Launch) : Ct l G j_X6_takeWord b_X6_takeWord [rf G.1 l0, .int l1] M (some (.int r.1)) r.2 := cf_Z h (by decide +kernel) (by simp [lg_sl, rf_cat, cat_i, cat_l, j_X6_takeWord]) rfl (by simp [lv_args, rf_cat, cat_i, cat_l]) (fun h X he => t_X6_takeWord_e he h)
def f_X6_takeNumber_30 (M : Mm) (l0 : Option Nat) : Option (Int32 × Mm) := ck M l0 6 <| bd (f_X6_fail M l0 4) fun v32 M32 => some (v32, M32)
def g_X6_takeNumber (M : Mm) (l0 : Option Nat) (l1 : Int32) (l2 : Int32) : Option (Int32 × Mm) := gfI M l0 6 5 fun v1 => if v1 = 3 then (gfI M l0 6 9 fun v15 => if v15 < l1 then (f_X6_takeNumber_30  M l0) else (gfI M l0 6 9 fun v23 => if v23 ≤ l2 then (gfI M l0 6 9 fun v38 => pfI M l0 6 11 v38 fun M41 => ck M41 l0 6 <| bv (f_X6_step M41 l0) fun M45 => some (1, M45)) else (f_X6_takeNumber_30  M l0))) else (ck M l0 6 <| bd (f_X6_fail M l0 2) fun v10 M10 => some (v10, M10))
def f_X6_takeNumber (M : Mm) (l0 : Option Nat) (l1 : Int32) (l2 : Int32) : Option (Int32 × Mm) := zc (g_X6_takeNumber M l0 l1 l2)
set_option maxHeartbeats 4000000 in
set_option maxRecDepth 100000 in
theorem t_X6_takeNumber_30 {G : GG} {X : CX} {ans : Int32 × Mm} (he : EndI G X j_X6_takeNumber b_X6_takeNumber ans) {M : Mm} {l0 : Option Nat} (h : f_X6_takeNumber_30 M l0 = some ans) : Wt G X j_X6_takeNumber b_X6_takeNumber 30 [(0, rf G.1 l0)] [] M 0 0 := by
  unfold f_X6_takeNumber_30 at h
  refine wt_aload_n (pc := 30) 0 dX6_takeNumber_30 rfl ?_
  refine wt_iconst (pc := 31) (v := 4) dX6_takeNumber_31 (by decide) ?_
  refine wt_cVI (pc := 32) (J' := j_X6_fail) (As := [.int 4]) (st := []) (B' := b_X6_fail) (u' := 0) (w' := 0) dX6_takeNumber_32 ml_X6_88 mv_X6_fail (fun v9 M9 e9 => c_X6_fail e9) rfl (by decide) rfl rfl (by decide) (by decide) (by decide) rfl h (fun v32 M32 h => ?_)
  cases h
  exact he 35 _ _ _ dX6_takeNumber_35 (by decide) (by decide)
set_option maxHeartbeats 4000000 in
set_option maxRecDepth 100000 in
theorem t_X6_takeNumber_e {G : GG} {X : CX} {ans : Int32 × Mm} (he : EndI G X j_X6_takeNumber b_X6_takeNumber ans) {M : Mm} {l0 : Option Nat} {l1 : Int32} {l2 : Int32} (h : g_X6_takeNumber M l0 l1 l2 = some ans) : Wt G X j_X6_takeNumber b_X6_takeNumber 0 [(0, rf G.1 l0), (1, .int l1), (2, .int l2)] [] M 0 0 := by
  unfold g_X6_takeNumber at h
  refine wt_aload_n (pc := 0) 0 dX6_takeNumber_0 rfl ?_
  refine wt_getI (pc := 1) dX6_takeNumber_1 fl_X6_65 (fun _ _ _ => rfl) h (fun v1 h => ?_)
  refine wt_iconst (pc := 4) (v := 3) dX6_takeNumber_4 (by decide) ?_
  refine wt_icmp_eq (pc := 5) (tgt := 14) dX6_takeNumber_5 (by decide) (fun q => ?_) (fun q => ?_)
  · have h := ite_t q h
    refine wt_aload_n (pc := 14) 0 dX6_takeNumber_14 rfl ?_
    refine wt_getI (pc := 15) dX6_takeNumber_15 fl_X6_77 (fun _ _ _ => rfl) h (fun v15 h => ?_)
    refine wt_iload_n (pc := 18) 1 dX6_takeNumber_18 rfl ?_
    refine wt_icmp_lt (pc := 19) (tgt := 30) dX6_takeNumber_19 (by decide) (fun q => ?_) (fun q => ?_)
    · have h := ite_t q h
      refine wt_sub (ls' := [(0, rf G.1 l0)]) [0] rfl ?_
      exact t_X6_takeNumber_30 he  h
    · have h := ite_f q h
      refine wt_aload_n (pc := 22) 0 dX6_takeNumber_22 rfl ?_
      refine wt_getI (pc := 23) dX6_takeNumber_23 fl_X6_77 (fun _ _ _ => rfl) h (fun v23 h => ?_)
      refine wt_iload_n (pc := 26) 2 dX6_takeNumber_26 rfl ?_
      refine wt_icmp_le (pc := 27) (tgt := 36) dX6_takeNumber_27 (by decide) (fun q => ?_) (fun q => ?_)
      · have h := ite_t q h
        refine wt_aload_n (pc := 36) 0 dX6_takeNumber_36 rfl ?_
        refine wt_aload_n (pc := 37) 0 dX6_takeNumber_37 rfl ?_
        refine wt_getI (pc := 38) dX6_takeNumber_38 fl_X6_77 (fun _ _ _ => rfl) h (fun v38 h => ?_)
        refine wt_putI (pc := 41) dX6_takeNumber_41 fl_X6_92 rfl rfl h (fun M41 h => ?_)
        refine wt_aload_n (pc := 44) 0 dX6_takeNumber_44 rfl ?_
        refine wt_cVV (pc := 45) (J' := j_X6_step) (As := []) (st := []) (B' := b_X6_step) (u' := 0) (w' := 0) dX6_takeNumber_45 ml_X6_50 mv_X6_step (fun M9 e9 => c_X6_step e9) rfl (by decide) rfl rfl (by decide) (by decide) (by decide) rfl h (fun M45 h => ?_)
        refine wt_iconst (pc := 48) (v := 1) dX6_takeNumber_48 (by decide) ?_
        cases h
        exact he 49 _ _ _ dX6_takeNumber_49 (by decide) (by decide)
      · have h := ite_f q h
        refine wt_sub (ls' := [(0, rf G.1 l0)]) [0] rfl ?_
        exact t_X6_takeNumber_30 he  h
  · have h := ite_f q h
    refine wt_aload_n (pc := 8) 0 dX6_takeNumber_8 rfl ?_
    refine wt_iconst (pc := 9) (v := 2) dX6_takeNumber_9 (by decide) ?_
    refine wt_cVI (pc := 10) (J' := j_X6_fail) (As := [.int 2]) (st := []) (B' := b_X6_fail) (u' := 0) (w' := 0) dX6_takeNumber_10 ml_X6_88 mv_X6_fail (fun v9 M9 e9 => c_X6_fail e9) rfl (by decide) rfl rfl (by decide) (by decide) (by decide) rfl h (fun v10 M10 h => ?_)
    cases h
    exact he 13 _ _ _ dX6_takeNumber_13 (by decide) (by decide)
set_option maxHeartbeats 4000000 in
set_option maxRecDepth 100000 in
theorem c_X6_takeNumber {G : GG} {M : Mm} {l0 : Option Nat} {l1 : Int32} {l2 : Int32} {r : Int32 × Mm} (h : f_X6_takeNumber M l0 l1 l2 = some r) (l : Launch) : Ct l G j_X6_takeNumber b_X6_takeNumber [rf G.1 l0, .int l1, .int l2] M (some (.int r.1)) r.2 := cf_Z h (by decide +kernel) (by simp [lg_sl, rf_cat, cat_i, cat_l, j_X6_takeNumber]) rfl (by simp [lv_args, rf_cat, cat_i, cat_l]) (fun h X he => t_X6_takeNumber_e he h)
def g_X6_takeWordAndNumber (M : Mm) (l0 : Option Nat) (l1 : Int32) (l2 : Int32) (l3 : Int32) : Option (Int32 × Mm) := ck M l0 6 <| bd (f_X6_takeWord M l0 l1) fun v2 M2 => if v2 = 0 then (some (0, M2)) else (ck M2 l0 6 <| bd (f_X6_takeNumber M2 l0 l2 l3) fun v11 M11 => if v11 = 0 then (some (0, M11)) else (some (1, M11)))
def f_X6_takeWordAndNumber (M : Mm) (l0 : Option Nat) (l1 : Int32) (l2 : Int32) (l3 : Int32) : Option (Int32 × Mm) := zc (g_X6_takeWordAndNumber M l0 l1 l2 l3)
set_option maxHeartbeats 4000000 in
set_option maxRecDepth 100000 in
theorem t_X6_takeWordAndNumber_e {G : GG} {X : CX} {ans : Int32 × Mm} (he : EndI G X j_X6_takeWordAndNumber b_X6_takeWordAndNumber ans) {M : Mm} {l0 : Option Nat} {l1 : Int32} {l2 : Int32} {l3 : Int32} (h : g_X6_takeWordAndNumber M l0 l1 l2 l3 = some ans) : Wt G X j_X6_takeWordAndNumber b_X6_takeWordAndNumber 0 [(0, rf G.1 l0), (1, .int l1), (2, .int l2), (3, .int l3)] [] M 0 0 := by
  unfold g_X6_takeWordAndNumber at h
  refine wt_aload_n (pc := 0) 0 dX6_takeWordAndNumber_0 rfl ?_
  refine wt_iload_n (pc := 1) 1 dX6_takeWordAndNumber_1 rfl ?_
  refine wt_cVI (pc := 2) (J' := j_X6_takeWord) (As := [.int l1]) (st := []) (B' := b_X6_takeWord) (u' := 0) (w' := 0) dX6_takeWordAndNumber_2 ml_X6_95 mv_X6_takeWord (fun v9 M9 e9 => c_X6_takeWord e9) rfl (by decide) rfl rfl (by decide) (by decide) (by decide) rfl h (fun v2 M2 h => ?_)
  refine wt_if_eq (pc := 5) (tgt := 21) dX6_takeWordAndNumber_5 (by decide) (fun q => ?_) (fun q => ?_)
  · have h := ite_t q h
    refine wt_iconst (pc := 21) (v := 0) dX6_takeWordAndNumber_21 (by decide) ?_
    cases h
    exact he 22 _ _ _ dX6_takeWordAndNumber_22 (by decide) (by decide)
  · have h := ite_f q h
    refine wt_aload_n (pc := 8) 0 dX6_takeWordAndNumber_8 rfl ?_
    refine wt_iload_n (pc := 9) 2 dX6_takeWordAndNumber_9 rfl ?_
    refine wt_iload_n (pc := 10) 3 dX6_takeWordAndNumber_10 rfl ?_
    refine wt_cVI (pc := 11) (J' := j_X6_takeNumber) (As := [.int l2, .int l3]) (st := []) (B' := b_X6_takeNumber) (u' := 0) (w' := 0) dX6_takeWordAndNumber_11 ml_X6_98 mv_X6_takeNumber (fun v9 M9 e9 => c_X6_takeNumber e9) rfl (by decide) rfl rfl (by decide) (by decide) (by decide) rfl h (fun v11 M11 h => ?_)
    refine wt_if_eq (pc := 14) (tgt := 21) dX6_takeWordAndNumber_14 (by decide) (fun q => ?_) (fun q => ?_)
    · have h := ite_t q h
      refine wt_iconst (pc := 21) (v := 0) dX6_takeWordAndNumber_21 (by decide) ?_
      cases h
      exact he 22 _ _ _ dX6_takeWordAndNumber_22 (by decide) (by decide)
    · have h := ite_f q h
      refine wt_iconst (pc := 17) (v := 1) dX6_takeWordAndNumber_17 (by decide) ?_
      refine wt_goto (pc := 18) (tgt := 22) dX6_takeWordAndNumber_18 (by decide) ?_
      cases h
      exact he 22 _ _ _ dX6_takeWordAndNumber_22 (by decide) (by decide)
set_option maxHeartbeats 4000000 in
set_option maxRecDepth 100000 in
theorem c_X6_takeWordAndNumber {G : GG} {M : Mm} {l0 : Option Nat} {l1 : Int32} {l2 : Int32} {l3 : Int32} {r : Int32 × Mm} (h : f_X6_takeWordAndNumber M l0 l1 l2 l3 = some r) (l : Launch) : Ct l G j_X6_takeWordAndNumber b_X6_takeWordAndNumber [rf G.1 l0, .int l1, .int l2, .int l3] M (some (.int r.1)) r.2 := cf_Z h (by decide +kernel) (by simp [lg_sl, rf_cat, cat_i, cat_l, j_X6_takeWordAndNumber]) rfl (by simp [lv_args, rf_cat, cat_i, cat_l]) (fun h X he => t_X6_takeWordAndNumber_e he h)
def f_X6_takeNamed_53 (M : Mm) (l3 : Int32) (s0 : Option Nat) (s1 : Int32) : Option (Int32 × Mm) := ck M s0 6 <| bd (f_X6_fail M s0 s1) fun v53 M53 => some (l3, M53)
def f_X6_takeNamed_35 (M : Mm) (l0 : Option Nat) (l3 : Int32) : Option (Int32 × Mm) := if l3 = (-1) then (ck M l0 6 <| bd (f_X6_isName M l0) fun v42 M42 => if v42 = 0 then (f_X6_takeNamed_53  M42 l3 l0 2) else (f_X6_takeNamed_53  M42 l3 l0 3)) else (ck M l0 6 <| bv (f_X6_step M l0) fun M61 => some (l3, M61))
def f_X6_takeNamed_34 (M : Mm) (l0 : Option Nat) (s0 : Int32) : Option (Int32 × Mm) := f_X6_takeNamed_35  M l0 s0
def f_X6_takeNamed (M : Mm) (l0 : Option Nat) (l1 : Option Nat) (l2 : Int32) : Option (Int32 × Mm) := ck M l0 6 <| bd (f_X6_isName M l0) fun v3 M3 => if v3 = 0 then (f_X6_takeNamed_35  M3 l0 (-1)) else (if l2 = 7 then (gfL M3 l0 6 8 fun v17 => ck M3 l1 4 <| bd (f_X4_gangNamed M3 l1 v17) fun v20 M20 => f_X6_takeNamed_34  M20 l0 v20) else (gfL M3 l0 6 8 fun v28 => ck M3 l1 4 <| bd (f_X4_houseNamed M3 l1 v28) fun v31 M31 => f_X6_takeNamed_34  M31 l0 v31))
set_option maxHeartbeats 4000000 in
set_option maxRecDepth 100000 in
theorem t_X6_takeNamed_53 {G : GG} {X : CX} {ans : Int32 × Mm} (he : EndI G X j_X6_takeNamed b_X6_takeNamed ans) {M : Mm} {l3 : Int32} {s0 : Option Nat} {s1 : Int32} (h : f_X6_takeNamed_53 M l3 s0 s1 = some ans) : Wt G X j_X6_takeNamed b_X6_takeNamed 53 [(3, .int l3)] [.int s1, rf G.1 s0] M 0 0 := by
  unfold f_X6_takeNamed_53 at h
  refine wt_cVI (pc := 53) (J' := j_X6_fail) (As := [.int s1]) (st := []) (B' := b_X6_fail) (u' := 0) (w' := 0) dX6_takeNamed_53 ml_X6_88 mv_X6_fail (fun v9 M9 e9 => c_X6_fail e9) rfl (by decide) rfl rfl (by decide) (by decide) (by decide) rfl h (fun v53 M53 h => ?_)
  refine wt_pop (pc := 56) dX6_takeNamed_56 rfl ?_
  refine wt_goto (pc := 57) (tgt := 64) dX6_takeNamed_57 (by decide) ?_
  refine wt_iload_n (pc := 64) 0 dX6_takeNamed_64 rfl ?_
  cases h
  exact he 65 _ _ _ dX6_takeNamed_65 (by decide) (by decide)
set_option maxHeartbeats 4000000 in
set_option maxRecDepth 100000 in
theorem t_X6_takeNamed_35 {G : GG} {X : CX} {ans : Int32 × Mm} (he : EndI G X j_X6_takeNamed b_X6_takeNamed ans) {M : Mm} {l0 : Option Nat} {l3 : Int32} (h : f_X6_takeNamed_35 M l0 l3 = some ans) : Wt G X j_X6_takeNamed b_X6_takeNamed 35 [(0, rf G.1 l0), (3, .int l3)] [] M 0 0 := by
  unfold f_X6_takeNamed_35 at h
  refine wt_iload_n (pc := 35) 1 dX6_takeNamed_35 rfl ?_
  refine wt_iconst (pc := 36) (v := (-1)) dX6_takeNamed_36 (by decide) ?_
  refine wt_icmp_ne (pc := 37) (tgt := 60) dX6_takeNamed_37 (by decide) (fun q => ?_) (fun q => ?_)
  · have h := ite_f q h
    refine wt_aload_n (pc := 60) 0 dX6_takeNamed_60 rfl ?_
    refine wt_cVV (pc := 61) (J' := j_X6_step) (As := []) (st := []) (B' := b_X6_step) (u' := 0) (w' := 0) dX6_takeNamed_61 ml_X6_50 mv_X6_step (fun M9 e9 => c_X6_step e9) rfl (by decide) rfl rfl (by decide) (by decide) (by decide) rfl h (fun M61 h => ?_)
    refine wt_iload_n (pc := 64) 1 dX6_takeNamed_64 rfl ?_
    cases h
    exact he 65 _ _ _ dX6_takeNamed_65 (by decide) (by decide)
  · have h := ite_t q h
    refine wt_aload_n (pc := 40) 0 dX6_takeNamed_40 rfl ?_
    refine wt_aload_n (pc := 41) 0 dX6_takeNamed_41 rfl ?_
    refine wt_cVI (pc := 42) (J' := j_X6_isName) (As := []) (st := [rf G.1 l0]) (B' := b_X6_isName) (u' := 0) (w' := 0) dX6_takeNamed_42 ml_X6_101 mv_X6_isName (fun v9 M9 e9 => c_X6_isName e9) rfl (by decide) rfl rfl (by decide) (by decide) (by simp [rf_cat, cat_i, cat_l, cat_r]) rfl h (fun v42 M42 h => ?_)
    refine wt_if_eq (pc := 45) (tgt := 52) dX6_takeNamed_45 (by decide) (fun q => ?_) (fun q => ?_)
    · have h := ite_t q h
      refine wt_iconst (pc := 52) (v := 2) dX6_takeNamed_52 (by decide) ?_
      refine wt_sub (ls' := [(3, .int l3)]) [1] rfl ?_
      exact t_X6_takeNamed_53 he  h
    · have h := ite_f q h
      refine wt_iconst (pc := 48) (v := 3) dX6_takeNamed_48 (by decide) ?_
      refine wt_goto (pc := 49) (tgt := 53) dX6_takeNamed_49 (by decide) ?_
      refine wt_sub (ls' := [(3, .int l3)]) [1] rfl ?_
      exact t_X6_takeNamed_53 he  h
set_option maxHeartbeats 4000000 in
set_option maxRecDepth 100000 in
theorem t_X6_takeNamed_34 {G : GG} {X : CX} {ans : Int32 × Mm} (he : EndI G X j_X6_takeNamed b_X6_takeNamed ans) {M : Mm} {l0 : Option Nat} {s0 : Int32} (h : f_X6_takeNamed_34 M l0 s0 = some ans) : Wt G X j_X6_takeNamed b_X6_takeNamed 34 [(0, rf G.1 l0)] [.int s0] M 0 0 := by
  unfold f_X6_takeNamed_34 at h
  refine wt_istore_n (pc := 34) (i := 3) (ls' := [(3, .int s0), (0, rf G.1 l0)]) rfl dX6_takeNamed_34 (by decide) rfl ?_
  refine wt_sub (ls' := [(0, rf G.1 l0), (3, .int s0)]) [1, 0] rfl ?_
  exact t_X6_takeNamed_35 he  h
set_option maxHeartbeats 4000000 in
set_option maxRecDepth 100000 in
theorem t_X6_takeNamed_e {G : GG} {X : CX} {ans : Int32 × Mm} (he : EndI G X j_X6_takeNamed b_X6_takeNamed ans) {M : Mm} {l0 : Option Nat} {l1 : Option Nat} {l2 : Int32} (h : f_X6_takeNamed M l0 l1 l2 = some ans) : Wt G X j_X6_takeNamed b_X6_takeNamed 0 [(0, rf G.1 l0), (1, rf G.1 l1), (2, .int l2)] [] M 0 0 := by
  unfold f_X6_takeNamed at h
  refine wt_iconst (pc := 0) (v := (-1)) dX6_takeNamed_0 (by decide) ?_
  refine wt_istore_n (pc := 1) (i := 3) (ls' := [(3, .int (-1)), (0, rf G.1 l0), (1, rf G.1 l1), (2, .int l2)]) rfl dX6_takeNamed_1 (by decide) rfl ?_
  refine wt_aload_n (pc := 2) 1 dX6_takeNamed_2 rfl ?_
  refine wt_cVI (pc := 3) (J' := j_X6_isName) (As := []) (st := []) (B' := b_X6_isName) (u' := 0) (w' := 0) dX6_takeNamed_3 ml_X6_101 mv_X6_isName (fun v9 M9 e9 => c_X6_isName e9) rfl (by decide) rfl rfl (by decide) (by decide) (by decide) rfl h (fun v3 M3 h => ?_)
  refine wt_if_eq (pc := 6) (tgt := 35) dX6_takeNamed_6 (by decide) (fun q => ?_) (fun q => ?_)
  · have h := ite_t q h
    refine wt_sub (ls' := [(0, rf G.1 l0), (3, .int (-1))]) [1, 0] rfl ?_
    exact t_X6_takeNamed_35 he  h
  · have h := ite_f q h
    refine wt_iload_n (pc := 9) 3 dX6_takeNamed_9 rfl ?_
    refine wt_bipush (pc := 10) (v := 7) dX6_takeNamed_10 (by decide) ?_
    refine wt_icmp_ne (pc := 12) (tgt := 26) dX6_takeNamed_12 (by decide) (fun q => ?_) (fun q => ?_)
    · have h := ite_f q h
      refine wt_aload_n (pc := 26) 2 dX6_takeNamed_26 rfl ?_
      refine wt_aload_n (pc := 27) 1 dX6_takeNamed_27 rfl ?_
      refine wt_getL (pc := 28) dX6_takeNamed_28 fl_X6_61 (fun _ _ _ => rfl) h (fun v28 h => ?_)
      refine wt_cVI (pc := 31) (J' := j_X4_houseNamed) (As := [.long v28]) (st := []) (B' := b_X4_houseNamed) (u' := 0) (w' := 0) dX6_takeNamed_31 ml_X6_111 mv_X4_houseNamed (fun v9 M9 e9 => c_X4_houseNamed e9) rfl (by decide) rfl rfl (by decide) (by decide) (by decide) rfl h (fun v31 M31 h => ?_)
      refine wt_sub (ls' := [(0, rf G.1 l0)]) [1] rfl ?_
      exact t_X6_takeNamed_34 he  h
    · have h := ite_t q h
      refine wt_aload_n (pc := 15) 2 dX6_takeNamed_15 rfl ?_
      refine wt_aload_n (pc := 16) 1 dX6_takeNamed_16 rfl ?_
      refine wt_getL (pc := 17) dX6_takeNamed_17 fl_X6_61 (fun _ _ _ => rfl) h (fun v17 h => ?_)
      refine wt_cVI (pc := 20) (J' := j_X4_gangNamed) (As := [.long v17]) (st := []) (B' := b_X4_gangNamed) (u' := 0) (w' := 0) dX6_takeNamed_20 ml_X6_105 mv_X4_gangNamed (fun v9 M9 e9 => c_X4_gangNamed e9) rfl (by decide) rfl rfl (by decide) (by decide) (by decide) rfl h (fun v20 M20 h => ?_)
      refine wt_goto (pc := 23) (tgt := 34) dX6_takeNamed_23 (by decide) ?_
      refine wt_sub (ls' := [(0, rf G.1 l0)]) [1] rfl ?_
      exact t_X6_takeNamed_34 he  h
set_option maxHeartbeats 4000000 in
set_option maxRecDepth 100000 in
theorem c_X6_takeNamed {G : GG} {M : Mm} {l0 : Option Nat} {l1 : Option Nat} {l2 : Int32} {r : Int32 × Mm} (h : f_X6_takeNamed M l0 l1 l2 = some r) (l : Launch) : Ct l G j_X6_takeNamed b_X6_takeNamed [rf G.1 l0, rf G.1 l1, .int l2] M (some (.int r.1)) r.2 := cf_I (by decide +kernel) (by simp [lg_sl, rf_cat, cat_i, cat_l, j_X6_takeNamed]) rfl (by simp [lv_args, rf_cat, cat_i, cat_l]) (fun X he => t_X6_takeNamed_e he h)
def f_X6_takeSemicolon_17 (M : Mm) (l0 : Option Nat) : Option (Int32 × Mm) := ck M l0 6 <| bd (f_X6_fail M l0 2) fun v19 M19 => some (v19, M19)
def g_X6_takeSemicolon (M : Mm) (l0 : Option Nat) : Option (Int32 × Mm) := gfI M l0 6 5 fun v1 => if v1 = 4 then (gfI M l0 6 10 fun v9 => if v9 = 59 then (ck M l0 6 <| bv (f_X6_step M l0) fun M24 => some (1, M24)) else (f_X6_takeSemicolon_17  M l0)) else (f_X6_takeSemicolon_17  M l0)
def f_X6_takeSemicolon (M : Mm) (l0 : Option Nat) : Option (Int32 × Mm) := zc (g_X6_takeSemicolon M l0)
set_option maxHeartbeats 4000000 in
set_option maxRecDepth 100000 in
theorem t_X6_takeSemicolon_17 {G : GG} {X : CX} {ans : Int32 × Mm} (he : EndI G X j_X6_takeSemicolon b_X6_takeSemicolon ans) {M : Mm} {l0 : Option Nat} (h : f_X6_takeSemicolon_17 M l0 = some ans) : Wt G X j_X6_takeSemicolon b_X6_takeSemicolon 17 [(0, rf G.1 l0)] [] M 0 0 := by
  unfold f_X6_takeSemicolon_17 at h
  refine wt_aload_n (pc := 17) 0 dX6_takeSemicolon_17 rfl ?_
  refine wt_iconst (pc := 18) (v := 2) dX6_takeSemicolon_18 (by decide) ?_
  refine wt_cVI (pc := 19) (J' := j_X6_fail) (As := [.int 2]) (st := []) (B' := b_X6_fail) (u' := 0) (w' := 0) dX6_takeSemicolon_19 ml_X6_88 mv_X6_fail (fun v9 M9 e9 => c_X6_fail e9) rfl (by decide) rfl rfl (by decide) (by decide) (by decide) rfl h (fun v19 M19 h => ?_)
  cases h
  exact he 22 _ _ _ dX6_takeSemicolon_22 (by decide) (by decide)
set_option maxHeartbeats 4000000 in
set_option maxRecDepth 100000 in
theorem t_X6_takeSemicolon_e {G : GG} {X : CX} {ans : Int32 × Mm} (he : EndI G X j_X6_takeSemicolon b_X6_takeSemicolon ans) {M : Mm} {l0 : Option Nat} (h : g_X6_takeSemicolon M l0 = some ans) : Wt G X j_X6_takeSemicolon b_X6_takeSemicolon 0 [(0, rf G.1 l0)] [] M 0 0 := by
  unfold g_X6_takeSemicolon at h
  refine wt_aload_n (pc := 0) 0 dX6_takeSemicolon_0 rfl ?_
  refine wt_getI (pc := 1) dX6_takeSemicolon_1 fl_X6_65 (fun _ _ _ => rfl) h (fun v1 h => ?_)
  refine wt_iconst (pc := 4) (v := 4) dX6_takeSemicolon_4 (by decide) ?_
  refine wt_icmp_ne (pc := 5) (tgt := 17) dX6_takeSemicolon_5 (by decide) (fun q => ?_) (fun q => ?_)
  · have h := ite_f q h
    exact t_X6_takeSemicolon_17 he  h
  · have h := ite_t q h
    refine wt_aload_n (pc := 8) 0 dX6_takeSemicolon_8 rfl ?_
    refine wt_getI (pc := 9) dX6_takeSemicolon_9 fl_X6_80 (fun _ _ _ => rfl) h (fun v9 h => ?_)
    refine wt_bipush (pc := 12) (v := 59) dX6_takeSemicolon_12 (by decide) ?_
    refine wt_icmp_eq (pc := 14) (tgt := 23) dX6_takeSemicolon_14 (by decide) (fun q => ?_) (fun q => ?_)
    · have h := ite_t q h
      refine wt_aload_n (pc := 23) 0 dX6_takeSemicolon_23 rfl ?_
      refine wt_cVV (pc := 24) (J' := j_X6_step) (As := []) (st := []) (B' := b_X6_step) (u' := 0) (w' := 0) dX6_takeSemicolon_24 ml_X6_50 mv_X6_step (fun M9 e9 => c_X6_step e9) rfl (by decide) rfl rfl (by decide) (by decide) (by decide) rfl h (fun M24 h => ?_)
      refine wt_iconst (pc := 27) (v := 1) dX6_takeSemicolon_27 (by decide) ?_
      cases h
      exact he 28 _ _ _ dX6_takeSemicolon_28 (by decide) (by decide)
    · have h := ite_f q h
      exact t_X6_takeSemicolon_17 he  h
set_option maxHeartbeats 4000000 in
set_option maxRecDepth 100000 in
theorem c_X6_takeSemicolon {G : GG} {M : Mm} {l0 : Option Nat} {r : Int32 × Mm} (h : f_X6_takeSemicolon M l0 = some r) (l : Launch) : Ct l G j_X6_takeSemicolon b_X6_takeSemicolon [rf G.1 l0] M (some (.int r.1)) r.2 := cf_Z h (by decide +kernel) (by simp [lg_sl, rf_cat, cat_i, cat_l, j_X6_takeSemicolon]) rfl (by simp [lv_args, rf_cat, cat_i, cat_l]) (fun h X he => t_X6_takeSemicolon_e he h)
def f_X6_init_92 (k28 : Mm → Option Nat → Int32 → Int64 → Int32 → Option (Mm)) (M : Mm) (l0 : Option Nat) (l1 : Int32) (l2 : Int64) (l4 : Int32) : Option (Mm) := k28 M l0 l1 l2 (l4 + 1)
def f_X6_init_28 : Nat → Mm → Option Nat → Int32 → Int64 → Int32 → Option (Mm)
  | 0, _, _, _, _, _ => none
  | n + 1, M, l0, l1, l2, l4 => if 152 ≤ l4 then (some M) else (if 30 ≤ l1 then (some M) else (chW l4 fun v48 => if v48 = 32 then (gfR M l0 6 2 fun v57 => asL M v57 22 l1 l2 fun M62 => f_X6_init_92 (f_X6_init_28 n) M62 l0 (l1 + 1) 0 l4) else (chW l4 fun v80 => nmL ((((l2 * 27) + (Int32.toInt64 v80)) - 97) + 1) fun x91 => f_X6_init_92 (f_X6_init_28 n) M l0 l1 x91 l4)))
def f_X6_init (M : Mm) (l0 : Option Nat) : Option (Mm) := nz l0 <| nwa M 20 900 fun q8 M8 => pfR M8 l0 6 0 q8 fun M10 => nwa M10 22 30 fun q16 M16 => pfR M16 l0 6 2 q16 fun M18 => f_X6_init_28  fu M18 l0 0 0 0
set_option maxHeartbeats 4000000 in
set_option maxRecDepth 100000 in
theorem t_X6_init_92 {G : GG} {X : CX} {ans : Mm} (he : EndV G X j_X6_init b_X6_init ans) {k28 : Mm → Option Nat → Int32 → Int64 → Int32 → Option (Mm)} (hk28 : ∀ (M : Mm) (a0 : Option Nat) (a1 : Int32) (a2 : Int64) (a4 : Int32), k28 M a0 a1 a2 a4 = some ans → Wt G X j_X6_init b_X6_init 28 [(0, rf G.1 a0), (1, .int a1), (2, .long a2), (4, .int a4)] [] M 2 930) {M : Mm} {l0 : Option Nat} {l1 : Int32} {l2 : Int64} {l4 : Int32} (h : f_X6_init_92 k28 M l0 l1 l2 l4 = some ans) : Wt G X j_X6_init b_X6_init 92 [(0, rf G.1 l0), (1, .int l1), (2, .long l2), (4, .int l4)] [] M 2 930 := by
  unfold f_X6_init_92 at h
  refine wt_iinc (pc := 92) (d := 1) (ls' := [(4, .int (l4 + 1)), (0, rf G.1 l0), (1, .int l1), (2, .long l2)]) 3 dX6_init_92 rfl (by decide) (by decide) rfl ?_
  refine wt_goto (pc := 95) (tgt := 28) dX6_init_95 (by decide) ?_
  refine wt_sub (ls' := [(0, rf G.1 l0), (1, .int l1), (2, .long l2), (4, .int (l4 + 1))]) [1, 2, 3, 0] rfl ?_
  exact hk28 _ _ _ _ _ h
set_option maxHeartbeats 4000000 in
set_option maxRecDepth 100000 in
theorem t_X6_init_28 {G : GG} {X : CX} {ans : Mm} (he : EndV G X j_X6_init b_X6_init ans) : ∀ (n : Nat) {M : Mm} {l0 : Option Nat} {l1 : Int32} {l2 : Int64} {l4 : Int32}, f_X6_init_28 n M l0 l1 l2 l4 = some ans → Wt G X j_X6_init b_X6_init 28 [(0, rf G.1 l0), (1, .int l1), (2, .long l2), (4, .int l4)] [] M 2 930 := by
  intro n
  induction n with
  | zero =>
    intro M l0 l1 l2 l4 h
    rw [f_X6_init_28] at h
    cases h
  | succ n ih =>
    intro M l0 l1 l2 l4 h
    rw [f_X6_init_28] at h
    refine wt_iload (pc := 28) 3 dX6_init_28 rfl ?_
    refine wt_ldcS (pc := 30) dX6_init_30 rfl ?_
    refine wt_strLen (pc := 32) dX6_init_32 st_X6_21 (by decide) (by decide) (by decide) (by simp [rf_cat, cat_i, cat_l, cat_r]) ?_
    refine wt_icmp_ge (pc := 35) (tgt := 98) dX6_init_35 (by decide) (fun q => ?_) (fun q => ?_)
    · have h := ite_t q h
      cases h
      exact he 98 _ _ _ dX6_init_98 (by decide) (by decide)
    · have h := ite_f q h
      refine wt_iload_n (pc := 38) 1 dX6_init_38 rfl ?_
      refine wt_bipush (pc := 39) (v := 30) dX6_init_39 (by decide) ?_
      refine wt_icmp_ge (pc := 41) (tgt := 98) dX6_init_41 (by decide) (fun q => ?_) (fun q => ?_)
      · have h := ite_t q h
        cases h
        exact he 98 _ _ _ dX6_init_98 (by decide) (by decide)
      · have h := ite_f q h
        refine wt_ldcS (pc := 44) dX6_init_44 rfl ?_
        refine wt_iload (pc := 46) 3 dX6_init_46 rfl ?_
        refine wt_strAt (pc := 48) dX6_init_48 st_X6_27 (by decide) (by decide) (by decide) (by decide) h (fun v48 h => ?_)
        refine wt_bipush (pc := 51) (v := 32) dX6_init_51 (by decide) ?_
        refine wt_icmp_ne (pc := 53) (tgt := 71) dX6_init_53 (by decide) (fun q => ?_) (fun q => ?_)
        · have h := ite_f q h
          refine wt_lload_n (pc := 71) 2 dX6_init_71 rfl ?_
          refine wt_ldc2 (pc := 72) dX6_init_72 kc_X6_31 ?_
          refine wt_lmul (pc := 75) dX6_init_75 ?_
          refine wt_ldcS (pc := 76) dX6_init_76 rfl ?_
          refine wt_iload (pc := 78) 3 dX6_init_78 rfl ?_
          refine wt_strAt (pc := 80) dX6_init_80 st_X6_27 (by decide) (by decide) (by decide) (by simp [rf_cat, cat_i, cat_l, cat_r]) h (fun v80 h => ?_)
          refine wt_i2l (pc := 83) dX6_init_83 ?_
          refine wt_ladd (pc := 84) dX6_init_84 ?_
          refine wt_ldc2 (pc := 85) dX6_init_85 kc_X6_33 ?_
          refine wt_lsub (pc := 88) dX6_init_88 ?_
          refine wt_lconst (pc := 89) (v := 1) dX6_init_89 (by decide) ?_
          refine wt_ladd (pc := 90) dX6_init_90 ?_
          refine wt_nmL h (fun x91 h => ?_)
          refine wt_lstore_n (pc := 91) (i := 2) (ls' := [(2, .long x91), (0, rf G.1 l0), (1, .int l1), (4, .int l4)]) rfl dX6_init_91 (by decide) rfl ?_
          refine wt_sub (ls' := [(0, rf G.1 l0), (1, .int l1), (2, .long x91), (4, .int l4)]) [1, 2, 0, 3] rfl ?_
          exact t_X6_init_92 he (fun _ _ _ _ _ h => ih h) h
        · have h := ite_t q h
          refine wt_aload_n (pc := 56) 0 dX6_init_56 rfl ?_
          refine wt_getR (pc := 57) dX6_init_57 fl_X6_15 (fun _ _ _ => rfl) h (fun v57 h => ?_)
          refine wt_iload_n (pc := 60) 1 dX6_init_60 rfl ?_
          refine wt_lload_n (pc := 61) 2 dX6_init_61 rfl ?_
          refine wt_lastore (pc := 62) (kd := 22) dX6_init_62 rfl rfl h (fun M62 h => ?_)
          refine wt_iinc (pc := 63) (d := 1) (ls' := [(1, .int (l1 + 1)), (0, rf G.1 l0), (2, .long l2), (4, .int l4)]) 1 dX6_init_63 rfl (by decide) (by decide) (by simp [rf_cat, cat_i, cat_l, cat_r]) ?_
          refine wt_lconst (pc := 66) (v := 0) dX6_init_66 (by decide) ?_
          refine wt_lstore_n (pc := 67) (i := 2) (ls' := [(2, .long 0), (1, .int (l1 + 1)), (0, rf G.1 l0), (4, .int l4)]) rfl dX6_init_67 (by decide) rfl ?_
          refine wt_goto (pc := 68) (tgt := 92) dX6_init_68 (by decide) ?_
          refine wt_sub (ls' := [(0, rf G.1 l0), (1, .int (l1 + 1)), (2, .long 0), (4, .int l4)]) [2, 1, 0, 3] rfl ?_
          exact t_X6_init_92 he (fun _ _ _ _ _ h => ih h) h
set_option maxHeartbeats 4000000 in
set_option maxRecDepth 100000 in
theorem t_X6_init_e {G : GG} {X : CX} {ans : Mm} (he : EndV G X j_X6_init b_X6_init ans) {M : Mm} {l0 : Option Nat} (h : f_X6_init M l0 = some ans) : Wt G X j_X6_init b_X6_init 0 [(0, rf G.1 l0)] [] M 0 0 := by
  unfold f_X6_init at h
  refine wt_aload_n (pc := 0) 0 dX6_init_0 rfl ?_
  refine wt_oI (pc := 1) dX6_init_1 oi_X6_3 oiM oiC (by decide) (by decide) h (fun h => ?_)
  refine wt_aload_n (pc := 4) 0 dX6_init_4 rfl ?_
  refine wt_sipush (pc := 5) (v := 900) dX6_init_5 (by decide) ?_
  refine wt_newarray (pc := 8) (kd := 20) (ty := .byte) (n' := 900) dX6_init_8 rfl rfl ac_byte (fun _ _ h => h) (by decide) (by decide) (by decide) (by decide) h (fun q8 M8 h => ?_)
  refine wt_putFA (pc := 10) dX6_init_10 ff_X6_9 rfl rfl h (fun M10 h => ?_)
  refine wt_aload_n (pc := 13) 0 dX6_init_13 rfl ?_
  refine wt_bipush (pc := 14) (v := 30) dX6_init_14 (by decide) ?_
  refine wt_newarray (pc := 16) (kd := 22) (ty := .long) (n' := 30) dX6_init_16 rfl rfl ac_long (fun _ _ h => h) (by decide) (by decide) (by decide) (by decide) h (fun q16 M16 h => ?_)
  refine wt_putFA (pc := 18) dX6_init_18 ff_X6_15 rfl rfl h (fun M18 h => ?_)
  refine wt_iconst (pc := 21) (v := 0) dX6_init_21 (by decide) ?_
  refine wt_istore_n (pc := 22) (i := 1) (ls' := [(1, .int 0), (0, rf G.1 l0)]) rfl dX6_init_22 (by decide) (by simp [rf_cat, cat_i, cat_l, cat_r]) ?_
  refine wt_lconst (pc := 23) (v := 0) dX6_init_23 (by decide) ?_
  refine wt_lstore_n (pc := 24) (i := 2) (ls' := [(2, .long 0), (1, .int 0), (0, rf G.1 l0)]) rfl dX6_init_24 (by decide) rfl ?_
  refine wt_iconst (pc := 25) (v := 0) dX6_init_25 (by decide) ?_
  refine wt_istore (pc := 26) (i := 4) (ls' := [(4, .int 0), (2, .long 0), (1, .int 0), (0, rf G.1 l0)]) dX6_init_26 (by decide) rfl ?_
  refine wt_sub (ls' := [(0, rf G.1 l0), (1, .int 0), (2, .long 0), (4, .int 0)]) [3, 2, 1, 0] rfl ?_
  exact t_X6_init_28 he  fu h
set_option maxHeartbeats 4000000 in
set_option maxRecDepth 100000 in
theorem c_X6_init {G : GG} {M : Mm} {l0 : Option Nat} {r : Mm} (h : f_X6_init M l0 = some r) (l : Launch) : Ct l G j_X6_init b_X6_init [rf G.1 l0] M none r := cf_V (by decide +kernel) (by simp [lg_sl, rf_cat, cat_i, cat_l, j_X6_init]) rfl (by simp [lv_args, rf_cat, cat_i, cat_l]) (fun X he => t_X6_init_e he h)
def f_X6_put_3 : Nat → Mm → Option Nat → Int32 → Int32 → Option (Mm)
  | 0, _, _, _, _ => none
  | n + 1, M, l0, l1, l2 => if l2 < 0 then (some M) else (gfI M l0 6 1 fun v8 => if 900 ≤ v8 then (some M) else (gfR M l0 6 0 fun v18 => gfI M l0 6 1 fun v22 => asB M v18 20 v22 (Int8.toInt32 (Int32.toInt8 (l1 >>> (l2 &&& 31)))) fun M29 => gfI M29 l0 6 1 fun v32 => pfI M29 l0 6 1 (v32 + 1) fun M37 => f_X6_put_3 n M37 l0 l1 (l2 + (-8))))
def f_X6_put (M : Mm) (l0 : Option Nat) (l1 : Int32) : Option (Mm) := f_X6_put_3  fu M l0 l1 24
set_option maxHeartbeats 4000000 in
set_option maxRecDepth 100000 in
theorem t_X6_put_3 {G : GG} {X : CX} {ans : Mm} (he : EndV G X j_X6_put b_X6_put ans) : ∀ (n : Nat) {M : Mm} {l0 : Option Nat} {l1 : Int32} {l2 : Int32}, f_X6_put_3 n M l0 l1 l2 = some ans → Wt G X j_X6_put b_X6_put 3 [(0, rf G.1 l0), (1, .int l1), (2, .int l2)] [] M 0 0 := by
  intro n
  induction n with
  | zero =>
    intro M l0 l1 l2 h
    rw [f_X6_put_3] at h
    cases h
  | succ n ih =>
    intro M l0 l1 l2 h
    rw [f_X6_put_3] at h
    refine wt_iload_n (pc := 3) 2 dX6_put_3 rfl ?_
    refine wt_if_lt (pc := 4) (tgt := 46) dX6_put_4 (by decide) (fun q => ?_) (fun q => ?_)
    · have h := ite_t q h
      cases h
      exact he 46 _ _ _ dX6_put_46 (by decide) (by decide)
    · have h := ite_f q h
      refine wt_aload_n (pc := 7) 0 dX6_put_7 rfl ?_
      refine wt_getI (pc := 8) dX6_put_8 fl_X6_35 (fun _ _ _ => rfl) h (fun v8 h => ?_)
      refine wt_sipush (pc := 11) (v := 900) dX6_put_11 (by decide) ?_
      refine wt_icmp_ge (pc := 14) (tgt := 46) dX6_put_14 (by decide) (fun q => ?_) (fun q => ?_)
      · have h := ite_t q h
        cases h
        exact he 46 _ _ _ dX6_put_46 (by decide) (by decide)
      · have h := ite_f q h
        refine wt_aload_n (pc := 17) 0 dX6_put_17 rfl ?_
        refine wt_getR (pc := 18) dX6_put_18 fl_X6_9 (fun _ _ _ => rfl) h (fun v18 h => ?_)
        refine wt_aload_n (pc := 21) 0 dX6_put_21 rfl ?_
        refine wt_getI (pc := 22) dX6_put_22 fl_X6_35 (fun _ _ _ => rfl) h (fun v22 h => ?_)
        refine wt_iload_n (pc := 25) 1 dX6_put_25 rfl ?_
        refine wt_iload_n (pc := 26) 2 dX6_put_26 rfl ?_
        refine wt_ishr (pc := 27) dX6_put_27 ?_
        refine wt_i2b (pc := 28) dX6_put_28 ?_
        refine wt_bastore (pc := 29) (kd := 20) dX6_put_29 rfl rfl h (fun M29 h => ?_)
        refine wt_aload_n (pc := 30) 0 dX6_put_30 rfl ?_
        refine wt_dup (pc := 31) dX6_put_31 (rf_cat _ _) ?_
        refine wt_getI (pc := 32) dX6_put_32 fl_X6_35 (fun _ _ _ => rfl) h (fun v32 h => ?_)
        refine wt_iconst (pc := 35) (v := 1) dX6_put_35 (by decide) ?_
        refine wt_iadd (pc := 36) dX6_put_36 ?_
        refine wt_putI (pc := 37) dX6_put_37 fl_X6_35 rfl rfl h (fun M37 h => ?_)
        refine wt_iinc (pc := 40) (d := (-8)) (ls' := [(2, .int (l2 + (-8))), (0, rf G.1 l0), (1, .int l1)]) 2 dX6_put_40 rfl (by decide) (by decide) rfl ?_
        refine wt_goto (pc := 43) (tgt := 3) dX6_put_43 (by decide) ?_
        refine wt_sub (ls' := [(0, rf G.1 l0), (1, .int l1), (2, .int (l2 + (-8)))]) [1, 2, 0] rfl ?_
        exact ih h
set_option maxHeartbeats 4000000 in
set_option maxRecDepth 100000 in
theorem t_X6_put_e {G : GG} {X : CX} {ans : Mm} (he : EndV G X j_X6_put b_X6_put ans) {M : Mm} {l0 : Option Nat} {l1 : Int32} (h : f_X6_put M l0 l1 = some ans) : Wt G X j_X6_put b_X6_put 0 [(0, rf G.1 l0), (1, .int l1)] [] M 0 0 := by
  unfold f_X6_put at h
  refine wt_bipush (pc := 0) (v := 24) dX6_put_0 (by decide) ?_
  refine wt_istore_n (pc := 2) (i := 2) (ls' := [(2, .int 24), (0, rf G.1 l0), (1, .int l1)]) rfl dX6_put_2 (by decide) rfl ?_
  refine wt_sub (ls' := [(0, rf G.1 l0), (1, .int l1), (2, .int 24)]) [1, 2, 0] rfl ?_
  exact t_X6_put_3 he  fu h
set_option maxHeartbeats 4000000 in
set_option maxRecDepth 100000 in
theorem c_X6_put {G : GG} {M : Mm} {l0 : Option Nat} {l1 : Int32} {r : Mm} (h : f_X6_put M l0 l1 = some r) (l : Launch) : Ct l G j_X6_put b_X6_put [rf G.1 l0, .int l1] M none r := cf_V (by decide +kernel) (by simp [lg_sl, rf_cat, cat_i, cat_l, j_X6_put]) rfl (by simp [lv_args, rf_cat, cat_i, cat_l]) (fun X he => t_X6_put_e he h)

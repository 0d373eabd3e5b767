theorem fl_X10_9 : FLk RX10 9 10 3 := ⟨_, rfl, by decide, Or.inl (gw_at 985 (by decide +kernel) rfl)⟩
theorem fl_X10_15 : FLk RX10 15 10 0 := ⟨_, rfl, by decide, Or.inl (gw_at 982 (by decide +kernel) rfl)⟩
theorem fl_X10_19 : FLk RX10 19 10 1 := ⟨_, rfl, by decide, Or.inl (gw_at 983 (by decide +kernel) rfl)⟩
theorem fl_X10_23 : FLk RX10 23 10 2 := ⟨_, rfl, by decide, Or.inl (gw_at 984 (by decide +kernel) rfl)⟩
theorem fl_X10_38 : FLk RX10 38 6 5 := ⟨_, rfl, by decide, Or.inr ⟨_, nw_at (w := Cond.fieldLinkNest RX10 38 "RoofGale$Tape" "kind" "I" "RoofGale") 299 (by decide +kernel) rfl, rfl⟩⟩
theorem fl_X10_49 : FLk RX10 49 9 2 := ⟨_, rfl, by decide, Or.inr ⟨_, nw_at (w := Cond.fieldLinkNest RX10 49 "RoofGale$Years" "count" "I" "RoofGale") 590 (by decide +kernel) rfl, rfl⟩⟩
theorem fl_X10_52 : FLk RX10 52 9 0 := ⟨_, rfl, by decide, Or.inr ⟨_, nw_at (w := Cond.fieldLinkNest RX10 52 "RoofGale$Years" "there" "Z" "RoofGale") 583 (by decide +kernel) rfl, rfl⟩⟩
theorem fl_X10_56 : FLk RX10 56 10 4 := ⟨_, rfl, by decide, Or.inl (gw_at 986 (by decide +kernel) rfl)⟩
theorem fl_X10_63 : FLk RX10 63 6 7 := ⟨_, rfl, by decide, Or.inr ⟨_, nw_at (w := Cond.fieldLinkNest RX10 63 "RoofGale$Tape" "word" "I" "RoofGale") 304 (by decide +kernel) rfl, rfl⟩⟩
theorem fl_X10_69 : FLk RX10 69 9 1 := ⟨_, rfl, by decide, Or.inr ⟨_, nw_at (w := Cond.fieldLinkNest RX10 69 "RoofGale$Years" "steps" "I" "RoofGale") 586 (by decide +kernel) rfl, rfl⟩⟩
theorem fl_X10_72 : FLk RX10 72 9 3 := ⟨_, rfl, by decide, Or.inr ⟨_, nw_at (w := Cond.fieldLinkNest RX10 72 "RoofGale$Years" "kinds" "[I" "RoofGale") 593 (by decide +kernel) rfl, rfl⟩⟩
theorem fl_X10_82 : FLk RX10 82 9 7 := ⟨_, rfl, by decide, Or.inr ⟨_, nw_at (w := Cond.fieldLinkNest RX10 82 "RoofGale$Years" "partners" "[I" "RoofGale") 605 (by decide +kernel) rfl, rfl⟩⟩
theorem fl_X10_88 : FLk RX10 88 9 4 := ⟨_, rfl, by decide, Or.inr ⟨_, nw_at (w := Cond.fieldLinkNest RX10 88 "RoofGale$Years" "firsts" "[I" "RoofGale") 596 (by decide +kernel) rfl, rfl⟩⟩
theorem fl_X10_98 : FLk RX10 98 9 5 := ⟨_, rfl, by decide, Or.inr ⟨_, nw_at (w := Cond.fieldLinkNest RX10 98 "RoofGale$Years" "seconds" "[I" "RoofGale") 599 (by decide +kernel) rfl, rfl⟩⟩
theorem fl_X10_107 : FLk RX10 107 6 11 := ⟨_, rfl, by decide, Or.inr ⟨_, nw_at (w := Cond.fieldLinkNest RX10 107 "RoofGale$Tape" "value" "I" "RoofGale") 312 (by decide +kernel) rfl, rfl⟩⟩
theorem fl_X10_110 : FLk RX10 110 6 10 := ⟨_, rfl, by decide, Or.inr ⟨_, nw_at (w := Cond.fieldLinkNest RX10 110 "RoofGale$Tape" "sign" "C" "RoofGale") 310 (by decide +kernel) rfl, rfl⟩⟩
theorem fl_X10_114 : FLk RX10 114 9 6 := ⟨_, rfl, by decide, Or.inr ⟨_, nw_at (w := Cond.fieldLinkNest RX10 114 "RoofGale$Years" "compares" "[I" "RoofGale") 602 (by decide +kernel) rfl, rfl⟩⟩
theorem ff_X10_9 : FFk RX10 9 10 3 := ⟨_, rfl, by decide, rfl, rfl, gw_at 985 (by decide +kernel) rfl⟩
theorem ff_X10_15 : FFk RX10 15 10 0 := ⟨_, rfl, by decide, rfl, rfl, gw_at 982 (by decide +kernel) rfl⟩
theorem ff_X10_19 : FFk RX10 19 10 1 := ⟨_, rfl, by decide, rfl, rfl, gw_at 983 (by decide +kernel) rfl⟩
theorem ff_X10_23 : FFk RX10 23 10 2 := ⟨_, rfl, by decide, rfl, rfl, gw_at 984 (by decide +kernel) rfl⟩
theorem oi_X10_3 : Cond.methodLink RX10 3 Lib.objectInit ∈ GW := gw_at 981 (by decide +kernel) rfl
theorem dX10_init_0 : decode cX10_init 0 = .ok (.aload_n 0, 1) := by decide +kernel
theorem dX10_init_1 : decode cX10_init 1 = .ok (.invokespecial 3, 3) := by decide +kernel
theorem dX10_init_4 : decode cX10_init 4 = .ok (.aload_n 0, 1) := by decide +kernel
theorem dX10_init_5 : decode cX10_init 5 = .ok (.iconst 3, 1) := by decide +kernel
theorem dX10_init_6 : decode cX10_init 6 = .ok (.newarray .int, 2) := by decide +kernel
theorem dX10_init_8 : decode cX10_init 8 = .ok (.putfield 9, 3) := by decide +kernel
theorem dX10_init_11 : decode cX10_init 11 = .ok (.aload_n 0, 1) := by decide +kernel
theorem dX10_init_12 : decode cX10_init 12 = .ok (.aload_n 1, 1) := by decide +kernel
theorem dX10_init_13 : decode cX10_init 13 = .ok (.putfield 15, 3) := by decide +kernel
theorem dX10_init_16 : decode cX10_init 16 = .ok (.aload_n 0, 1) := by decide +kernel
theorem dX10_init_17 : decode cX10_init 17 = .ok (.aload_n 2, 1) := by decide +kernel
theorem dX10_init_18 : decode cX10_init 18 = .ok (.putfield 19, 3) := by decide +kernel
theorem dX10_init_21 : decode cX10_init 21 = .ok (.aload_n 0, 1) := by decide +kernel
theorem dX10_init_22 : decode cX10_init 22 = .ok (.aload_n 3, 1) := by decide +kernel
theorem dX10_init_23 : decode cX10_init 23 = .ok (.putfield 23, 3) := by decide +kernel
theorem dX10_init_26 : decode cX10_init 26 = .ok (.return_, 1) := by decide +kernel
def j_X10_init : JD := (yX10_init, cX10_init, 4, none)
def b_X10_init : BD := (1, 1, 3)
theorem dX10_readEnd_0 : decode cX10_readEnd 0 = .ok (.aload_n 0, 1) := by decide +kernel
theorem dX10_readEnd_1 : decode cX10_readEnd 1 = .ok (.getfield 56, 3) := by decide +kernel
theorem dX10_readEnd_4 : decode cX10_readEnd 4 = .ok (.ifCond .le 15, 3) := by decide +kernel
theorem dX10_readEnd_7 : decode cX10_readEnd 7 = .ok (.aload_n 0, 1) := by decide +kernel
theorem dX10_readEnd_8 : decode cX10_readEnd 8 = .ok (.getfield 23, 3) := by decide +kernel
theorem dX10_readEnd_11 : decode cX10_readEnd 11 = .ok (.getfield 49, 3) := by decide +kernel
theorem dX10_readEnd_14 : decode cX10_readEnd 14 = .ok (.bipush 60, 2) := by decide +kernel
theorem dX10_readEnd_16 : decode cX10_readEnd 16 = .ok (.if_icmp .lt 12, 3) := by decide +kernel
theorem dX10_readEnd_19 : decode cX10_readEnd 19 = .ok (.aload_n 0, 1) := by decide +kernel
theorem dX10_readEnd_20 : decode cX10_readEnd 20 = .ok (.getfield 15, 3) := by decide +kernel
theorem dX10_readEnd_23 : decode cX10_readEnd 23 = .ok (.iconst 2, 1) := by decide +kernel
theorem dX10_readEnd_24 : decode cX10_readEnd 24 = .ok (.invokevirtual 59, 3) := by decide +kernel
theorem dX10_readEnd_27 : decode cX10_readEnd 27 = .ok (.ireturn, 1) := by decide +kernel
theorem dX10_readEnd_28 : decode cX10_readEnd 28 = .ok (.aload_n 0, 1) := by decide +kernel
theorem dX10_readEnd_29 : decode cX10_readEnd 29 = .ok (.dup, 1) := by decide +kernel
theorem dX10_readEnd_30 : decode cX10_readEnd 30 = .ok (.getfield 56, 3) := by decide +kernel
theorem dX10_readEnd_33 : decode cX10_readEnd 33 = .ok (.iconst 1, 1) := by decide +kernel
theorem dX10_readEnd_34 : decode cX10_readEnd 34 = .ok (.isub, 1) := by decide +kernel
theorem dX10_readEnd_35 : decode cX10_readEnd 35 = .ok (.putfield 56, 3) := by decide +kernel
theorem dX10_readEnd_38 : decode cX10_readEnd 38 = .ok (.aload_n 0, 1) := by decide +kernel
theorem dX10_readEnd_39 : decode cX10_readEnd 39 = .ok (.getfield 23, 3) := by decide +kernel
theorem dX10_readEnd_42 : decode cX10_readEnd 42 = .ok (.getfield 72, 3) := by decide +kernel
theorem dX10_readEnd_45 : decode cX10_readEnd 45 = .ok (.aload_n 0, 1) := by decide +kernel
theorem dX10_readEnd_46 : decode cX10_readEnd 46 = .ok (.getfield 23, 3) := by decide +kernel
theorem dX10_readEnd_49 : decode cX10_readEnd 49 = .ok (.getfield 49, 3) := by decide +kernel
theorem dX10_readEnd_52 : decode cX10_readEnd 52 = .ok (.bipush 28, 2) := by decide +kernel
theorem dX10_readEnd_54 : decode cX10_readEnd 54 = .ok (.iastore, 1) := by decide +kernel
theorem dX10_readEnd_55 : decode cX10_readEnd 55 = .ok (.aload_n 0, 1) := by decide +kernel
theorem dX10_readEnd_56 : decode cX10_readEnd 56 = .ok (.getfield 23, 3) := by decide +kernel
theorem dX10_readEnd_59 : decode cX10_readEnd 59 = .ok (.getfield 82, 3) := by decide +kernel
theorem dX10_readEnd_62 : decode cX10_readEnd 62 = .ok (.aload_n 0, 1) := by decide +kernel
theorem dX10_readEnd_63 : decode cX10_readEnd 63 = .ok (.getfield 23, 3) := by decide +kernel
theorem dX10_readEnd_66 : decode cX10_readEnd 66 = .ok (.getfield 49, 3) := by decide +kernel
theorem dX10_readEnd_69 : decode cX10_readEnd 69 = .ok (.aload_n 0, 1) := by decide +kernel
theorem dX10_readEnd_70 : decode cX10_readEnd 70 = .ok (.getfield 9, 3) := by decide +kernel
theorem dX10_readEnd_73 : decode cX10_readEnd 73 = .ok (.aload_n 0, 1) := by decide +kernel
theorem dX10_readEnd_74 : decode cX10_readEnd 74 = .ok (.getfield 56, 3) := by decide +kernel
theorem dX10_readEnd_77 : decode cX10_readEnd 77 = .ok (.iaload, 1) := by decide +kernel
theorem dX10_readEnd_78 : decode cX10_readEnd 78 = .ok (.iastore, 1) := by decide +kernel
theorem dX10_readEnd_79 : decode cX10_readEnd 79 = .ok (.aload_n 0, 1) := by decide +kernel
theorem dX10_readEnd_80 : decode cX10_readEnd 80 = .ok (.getfield 23, 3) := by decide +kernel
theorem dX10_readEnd_83 : decode cX10_readEnd 83 = .ok (.getfield 82, 3) := by decide +kernel
theorem dX10_readEnd_86 : decode cX10_readEnd 86 = .ok (.aload_n 0, 1) := by decide +kernel
theorem dX10_readEnd_87 : decode cX10_readEnd 87 = .ok (.getfield 9, 3) := by decide +kernel
theorem dX10_readEnd_90 : decode cX10_readEnd 90 = .ok (.aload_n 0, 1) := by decide +kernel
theorem dX10_readEnd_91 : decode cX10_readEnd 91 = .ok (.getfield 56, 3) := by decide +kernel
theorem dX10_readEnd_94 : decode cX10_readEnd 94 = .ok (.iaload, 1) := by decide +kernel
theorem dX10_readEnd_95 : decode cX10_readEnd 95 = .ok (.aload_n 0, 1) := by decide +kernel
theorem dX10_readEnd_96 : decode cX10_readEnd 96 = .ok (.getfield 23, 3) := by decide +kernel
theorem dX10_readEnd_99 : decode cX10_readEnd 99 = .ok (.getfield 49, 3) := by decide +kernel
theorem dX10_readEnd_102 : decode cX10_readEnd 102 = .ok (.iastore, 1) := by decide +kernel
theorem dX10_readEnd_103 : decode cX10_readEnd 103 = .ok (.aload_n 0, 1) := by decide +kernel
theorem dX10_readEnd_104 : decode cX10_readEnd 104 = .ok (.getfield 15, 3) := by decide +kernel
theorem dX10_readEnd_107 : decode cX10_readEnd 107 = .ok (.invokevirtual 75, 3) := by decide +kernel
theorem dX10_readEnd_110 : decode cX10_readEnd 110 = .ok (.iconst 1, 1) := by decide +kernel
theorem dX10_readEnd_111 : decode cX10_readEnd 111 = .ok (.ireturn, 1) := by decide +kernel
def j_X10_readEnd : JD := (yX10_readEnd, cX10_readEnd, 1, (some .boolean))
def b_X10_readEnd : BD := (2, 0, 0)
theorem dX10_readCount_0 : decode cX10_readCount 0 = .ok (.aload_n 0, 1) := by decide +kernel
theorem dX10_readCount_1 : decode cX10_readCount 1 = .ok (.getfield 15, 3) := by decide +kernel
theorem dX10_readCount_4 : decode cX10_readCount 4 = .ok (.iconst 1, 1) := by decide +kernel
theorem dX10_readCount_5 : decode cX10_readCount 5 = .ok (.iload_n 2, 1) := by decide +kernel
theorem dX10_readCount_6 : decode cX10_readCount 6 = .ok (.invokevirtual 104, 3) := by decide +kernel
theorem dX10_readCount_9 : decode cX10_readCount 9 = .ok (.istore_n 3, 1) := by decide +kernel
theorem dX10_readCount_10 : decode cX10_readCount 10 = .ok (.aload_n 0, 1) := by decide +kernel
theorem dX10_readCount_11 : decode cX10_readCount 11 = .ok (.getfield 23, 3) := by decide +kernel
theorem dX10_readCount_14 : decode cX10_readCount 14 = .ok (.getfield 88, 3) := by decide +kernel
theorem dX10_readCount_17 : decode cX10_readCount 17 = .ok (.iload_n 1, 1) := by decide +kernel
theorem dX10_readCount_18 : decode cX10_readCount 18 = .ok (.aload_n 0, 1) := by decide +kernel
theorem dX10_readCount_19 : decode cX10_readCount 19 = .ok (.getfield 15, 3) := by decide +kernel
theorem dX10_readCount_22 : decode cX10_readCount 22 = .ok (.getfield 107, 3) := by decide +kernel
theorem dX10_readCount_25 : decode cX10_readCount 25 = .ok (.iastore, 1) := by decide +kernel
theorem dX10_readCount_26 : decode cX10_readCount 26 = .ok (.iload_n 3, 1) := by decide +kernel
theorem dX10_readCount_27 : decode cX10_readCount 27 = .ok (.ireturn, 1) := by decide +kernel
def j_X10_readCount : JD := (yX10_readCount, cX10_readCount, 4, (some .boolean))
def b_X10_readCount : BD := (3, 0, 0)
theorem dX10_readTest_0 : decode cX10_readTest 0 = .ok (.aload_n 0, 1) := by decide +kernel
theorem dX10_readTest_1 : decode cX10_readTest 1 = .ok (.getfield 15, 3) := by decide +kernel
theorem dX10_readTest_4 : decode cX10_readTest 4 = .ok (.getfield 63, 3) := by decide +kernel
theorem dX10_readTest_7 : decode cX10_readTest 7 = .ok (.istore_n 2, 1) := by decide +kernel
theorem dX10_readTest_8 : decode cX10_readTest 8 = .ok (.aload_n 0, 1) := by decide +kernel
theorem dX10_readTest_9 : decode cX10_readTest 9 = .ok (.getfield 23, 3) := by decide +kernel
theorem dX10_readTest_12 : decode cX10_readTest 12 = .ok (.getfield 98, 3) := by decide +kernel
theorem dX10_readTest_15 : decode cX10_readTest 15 = .ok (.iload_n 1, 1) := by decide +kernel
theorem dX10_readTest_16 : decode cX10_readTest 16 = .ok (.iload_n 2, 1) := by decide +kernel
theorem dX10_readTest_17 : decode cX10_readTest 17 = .ok (.iastore, 1) := by decide +kernel
theorem dX10_readTest_18 : decode cX10_readTest 18 = .ok (.iload_n 2, 1) := by decide +kernel
theorem dX10_readTest_19 : decode cX10_readTest 19 = .ok (.bipush 25, 2) := by decide +kernel
theorem dX10_readTest_21 : decode cX10_readTest 21 = .ok (.if_icmp .eq 9, 3) := by decide +kernel
theorem dX10_readTest_24 : decode cX10_readTest 24 = .ok (.iload_n 2, 1) := by decide +kernel
theorem dX10_readTest_25 : decode cX10_readTest 25 = .ok (.bipush 26, 2) := by decide +kernel
theorem dX10_readTest_27 : decode cX10_readTest 27 = .ok (.if_icmp .ne 50, 3) := by decide +kernel
theorem dX10_readTest_30 : decode cX10_readTest 30 = .ok (.aload_n 0, 1) := by decide +kernel
theorem dX10_readTest_31 : decode cX10_readTest 31 = .ok (.getfield 15, 3) := by decide +kernel
theorem dX10_readTest_34 : decode cX10_readTest 34 = .ok (.invokevirtual 75, 3) := by decide +kernel
theorem dX10_readTest_37 : decode cX10_readTest 37 = .ok (.aload_n 0, 1) := by decide +kernel
theorem dX10_readTest_38 : decode cX10_readTest 38 = .ok (.getfield 23, 3) := by decide +kernel
theorem dX10_readTest_41 : decode cX10_readTest 41 = .ok (.getfield 88, 3) := by decide +kernel
theorem dX10_readTest_44 : decode cX10_readTest 44 = .ok (.iload_n 1, 1) := by decide +kernel
theorem dX10_readTest_45 : decode cX10_readTest 45 = .ok (.aload_n 0, 1) := by decide +kernel
theorem dX10_readTest_46 : decode cX10_readTest 46 = .ok (.getfield 15, 3) := by decide +kernel
theorem dX10_readTest_49 : decode cX10_readTest 49 = .ok (.aload_n 0, 1) := by decide +kernel
theorem dX10_readTest_50 : decode cX10_readTest 50 = .ok (.getfield 19, 3) := by decide +kernel
theorem dX10_readTest_53 : decode cX10_readTest 53 = .ok (.iconst 0, 1) := by decide +kernel
theorem dX10_readTest_54 : decode cX10_readTest 54 = .ok (.invokevirtual 91, 3) := by decide +kernel
theorem dX10_readTest_57 : decode cX10_readTest 57 = .ok (.iastore, 1) := by decide +kernel
theorem dX10_readTest_58 : decode cX10_readTest 58 = .ok (.aload_n 0, 1) := by decide +kernel
theorem dX10_readTest_59 : decode cX10_readTest 59 = .ok (.getfield 23, 3) := by decide +kernel
theorem dX10_readTest_62 : decode cX10_readTest 62 = .ok (.getfield 88, 3) := by decide +kernel
theorem dX10_readTest_65 : decode cX10_readTest 65 = .ok (.iload_n 1, 1) := by decide +kernel
theorem dX10_readTest_66 : decode cX10_readTest 66 = .ok (.iaload, 1) := by decide +kernel
theorem dX10_readTest_67 : decode cX10_readTest 67 = .ok (.iconst (-1), 1) := by decide +kernel
theorem dX10_readTest_68 : decode cX10_readTest 68 = .ok (.if_icmp .eq 7, 3) := by decide +kernel
theorem dX10_readTest_71 : decode cX10_readTest 71 = .ok (.iconst 1, 1) := by decide +kernel
theorem dX10_readTest_72 : decode cX10_readTest 72 = .ok (.goto 4, 3) := by decide +kernel
theorem dX10_readTest_75 : decode cX10_readTest 75 = .ok (.iconst 0, 1) := by decide +kernel
theorem dX10_readTest_76 : decode cX10_readTest 76 = .ok (.ireturn, 1) := by decide +kernel
theorem dX10_readTest_77 : decode cX10_readTest 77 = .ok (.aload_n 0, 1) := by decide +kernel
theorem dX10_readTest_78 : decode cX10_readTest 78 = .ok (.getfield 15, 3) := by decide +kernel
theorem dX10_readTest_81 : decode cX10_readTest 81 = .ok (.iconst 2, 1) := by decide +kernel
theorem dX10_readTest_82 : decode cX10_readTest 82 = .ok (.invokevirtual 95, 3) := by decide +kernel
theorem dX10_readTest_85 : decode cX10_readTest 85 = .ok (.ifCond .ne 5, 3) := by decide +kernel
theorem dX10_readTest_88 : decode cX10_readTest 88 = .ok (.iconst 0, 1) := by decide +kernel
theorem dX10_readTest_89 : decode cX10_readTest 89 = .ok (.ireturn, 1) := by decide +kernel
theorem dX10_readTest_90 : decode cX10_readTest 90 = .ok (.aload_n 0, 1) := by decide +kernel
theorem dX10_readTest_91 : decode cX10_readTest 91 = .ok (.getfield 15, 3) := by decide +kernel
theorem dX10_readTest_94 : decode cX10_readTest 94 = .ok (.getfield 38, 3) := by decide +kernel
theorem dX10_readTest_97 : decode cX10_readTest 97 = .ok (.iconst 4, 1) := by decide +kernel
theorem dX10_readTest_98 : decode cX10_readTest 98 = .ok (.if_icmp .ne 15, 3) := by decide +kernel
theorem dX10_readTest_101 : decode cX10_readTest 101 = .ok (.aload_n 0, 1) := by decide +kernel
theorem dX10_readTest_102 : decode cX10_readTest 102 = .ok (.getfield 15, 3) := by decide +kernel
theorem dX10_readTest_105 : decode cX10_readTest 105 = .ok (.getfield 110, 3) := by decide +kernel
theorem dX10_readTest_108 : decode cX10_readTest 108 = .ok (.bipush 59, 2) := by decide +kernel
theorem dX10_readTest_110 : decode cX10_readTest 110 = .ok (.if_icmp .ne 12, 3) := by decide +kernel
theorem dX10_readTest_113 : decode cX10_readTest 113 = .ok (.aload_n 0, 1) := by decide +kernel
theorem dX10_readTest_114 : decode cX10_readTest 114 = .ok (.getfield 15, 3) := by decide +kernel
theorem dX10_readTest_117 : decode cX10_readTest 117 = .ok (.iconst 2, 1) := by decide +kernel
theorem dX10_readTest_118 : decode cX10_readTest 118 = .ok (.invokevirtual 59, 3) := by decide +kernel
theorem dX10_readTest_121 : decode cX10_readTest 121 = .ok (.ireturn, 1) := by decide +kernel
theorem dX10_readTest_122 : decode cX10_readTest 122 = .ok (.aload_n 0, 1) := by decide +kernel
theorem dX10_readTest_123 : decode cX10_readTest 123 = .ok (.getfield 23, 3) := by decide +kernel
theorem dX10_readTest_126 : decode cX10_readTest 126 = .ok (.getfield 114, 3) := by decide +kernel
theorem dX10_readTest_129 : decode cX10_readTest 129 = .ok (.iload_n 1, 1) := by decide +kernel
theorem dX10_readTest_130 : decode cX10_readTest 130 = .ok (.aload_n 0, 1) := by decide +kernel
theorem dX10_readTest_131 : decode cX10_readTest 131 = .ok (.getfield 15, 3) := by decide +kernel
theorem dX10_readTest_134 : decode cX10_readTest 134 = .ok (.getfield 110, 3) := by decide +kernel
theorem dX10_readTest_137 : decode cX10_readTest 137 = .ok (.iastore, 1) := by decide +kernel
theorem dX10_readTest_138 : decode cX10_readTest 138 = .ok (.aload_n 0, 1) := by decide +kernel
theorem dX10_readTest_139 : decode cX10_readTest 139 = .ok (.getfield 15, 3) := by decide +kernel
theorem dX10_readTest_142 : decode cX10_readTest 142 = .ok (.invokevirtual 75, 3) := by decide +kernel
theorem dX10_readTest_145 : decode cX10_readTest 145 = .ok (.aload_n 0, 1) := by decide +kernel
theorem dX10_readTest_146 : decode cX10_readTest 146 = .ok (.getfield 15, 3) := by decide +kernel
theorem dX10_readTest_149 : decode cX10_readTest 149 = .ok (.iconst 0, 1) := by decide +kernel
theorem dX10_readTest_150 : decode cX10_readTest 150 = .ok (.sipush 9999, 3) := by decide +kernel
theorem dX10_readTest_153 : decode cX10_readTest 153 = .ok (.invokevirtual 104, 3) := by decide +kernel
theorem dX10_readTest_156 : decode cX10_readTest 156 = .ok (.istore_n 3, 1) := by decide +kernel
theorem dX10_readTest_157 : decode cX10_readTest 157 = .ok (.aload_n 0, 1) := by decide +kernel
theorem dX10_readTest_158 : decode cX10_readTest 158 = .ok (.getfield 23, 3) := by decide +kernel
theorem dX10_readTest_161 : decode cX10_readTest 161 = .ok (.getfield 88, 3) := by decide +kernel
theorem dX10_readTest_164 : decode cX10_readTest 164 = .ok (.iload_n 1, 1) := by decide +kernel
theorem dX10_readTest_165 : decode cX10_readTest 165 = .ok (.aload_n 0, 1) := by decide +kernel
theorem dX10_readTest_166 : decode cX10_readTest 166 = .ok (.getfield 15, 3) := by decide +kernel
theorem dX10_readTest_169 : decode cX10_readTest 169 = .ok (.getfield 107, 3) := by decide +kernel
theorem dX10_readTest_172 : decode cX10_readTest 172 = .ok (.iastore, 1) := by decide +kernel
theorem dX10_readTest_173 : decode cX10_readTest 173 = .ok (.iload_n 3, 1) := by decide +kernel
theorem dX10_readTest_174 : decode cX10_readTest 174 = .ok (.ireturn, 1) := by decide +kernel
def j_X10_readTest : JD := (yX10_readTest, cX10_readTest, 4, (some .boolean))
def b_X10_readTest : BD := (3, 0, 0)
theorem dX10_readRest_0 : decode cX10_readRest 0 = .ok (.iload_n 1, 1) := by decide +kernel
theorem dX10_readRest_1 : decode cX10_readRest 1 = .ok (.tableswitch 208 18 27 #[55, 208, 208, 161, 72, 208, 202, 208, 208, 64], 55) := by decide +kernel
theorem dX10_readRest_56 : decode cX10_readRest 56 = .ok (.aload_n 0, 1) := by decide +kernel
theorem dX10_readRest_57 : decode cX10_readRest 57 = .ok (.iload_n 2, 1) := by decide +kernel
theorem dX10_readRest_58 : decode cX10_readRest 58 = .ok (.sipush 240, 3) := by decide +kernel
theorem dX10_readRest_61 : decode cX10_readRest 61 = .ok (.invokevirtual 85, 3) := by decide +kernel
theorem dX10_readRest_64 : decode cX10_readRest 64 = .ok (.ireturn, 1) := by decide +kernel
theorem dX10_readRest_65 : decode cX10_readRest 65 = .ok (.aload_n 0, 1) := by decide +kernel
theorem dX10_readRest_66 : decode cX10_readRest 66 = .ok (.iload_n 2, 1) := by decide +kernel
theorem dX10_readRest_67 : decode cX10_readRest 67 = .ok (.bipush 99, 2) := by decide +kernel
theorem dX10_readRest_69 : decode cX10_readRest 69 = .ok (.invokevirtual 85, 3) := by decide +kernel
theorem dX10_readRest_72 : decode cX10_readRest 72 = .ok (.ireturn, 1) := by decide +kernel
theorem dX10_readRest_73 : decode cX10_readRest 73 = .ok (.aload_n 0, 1) := by decide +kernel
theorem dX10_readRest_74 : decode cX10_readRest 74 = .ok (.getfield 23, 3) := by decide +kernel
theorem dX10_readRest_77 : decode cX10_readRest 77 = .ok (.getfield 88, 3) := by decide +kernel
theorem dX10_readRest_80 : decode cX10_readRest 80 = .ok (.iload_n 2, 1) := by decide +kernel
theorem dX10_readRest_81 : decode cX10_readRest 81 = .ok (.aload_n 0, 1) := by decide +kernel
theorem dX10_readRest_82 : decode cX10_readRest 82 = .ok (.getfield 15, 3) := by decide +kernel
theorem dX10_readRest_85 : decode cX10_readRest 85 = .ok (.aload_n 0, 1) := by decide +kernel
theorem dX10_readRest_86 : decode cX10_readRest 86 = .ok (.getfield 19, 3) := by decide +kernel
theorem dX10_readRest_89 : decode cX10_readRest 89 = .ok (.iconst 0, 1) := by decide +kernel
theorem dX10_readRest_90 : decode cX10_readRest 90 = .ok (.invokevirtual 91, 3) := by decide +kernel
theorem dX10_readRest_93 : decode cX10_readRest 93 = .ok (.iastore, 1) := by decide +kernel
theorem dX10_readRest_94 : decode cX10_readRest 94 = .ok (.aload_n 0, 1) := by decide +kernel
theorem dX10_readRest_95 : decode cX10_readRest 95 = .ok (.getfield 23, 3) := by decide +kernel
theorem dX10_readRest_98 : decode cX10_readRest 98 = .ok (.getfield 88, 3) := by decide +kernel
theorem dX10_readRest_101 : decode cX10_readRest 101 = .ok (.iload_n 2, 1) := by decide +kernel
theorem dX10_readRest_102 : decode cX10_readRest 102 = .ok (.iaload, 1) := by decide +kernel
theorem dX10_readRest_103 : decode cX10_readRest 103 = .ok (.iconst (-1), 1) := by decide +kernel
theorem dX10_readRest_104 : decode cX10_readRest 104 = .ok (.if_icmp .eq 15, 3) := by decide +kernel
theorem dX10_readRest_107 : decode cX10_readRest 107 = .ok (.aload_n 0, 1) := by decide +kernel
theorem dX10_readRest_108 : decode cX10_readRest 108 = .ok (.getfield 15, 3) := by decide +kernel
theorem dX10_readRest_111 : decode cX10_readRest 111 = .ok (.bipush 23, 2) := by decide +kernel
theorem dX10_readRest_113 : decode cX10_readRest 113 = .ok (.invokevirtual 95, 3) := by decide +kernel
theorem dX10_readRest_116 : decode cX10_readRest 116 = .ok (.ifCond .ne 5, 3) := by decide +kernel
theorem dX10_readRest_119 : decode cX10_readRest 119 = .ok (.iconst 0, 1) := by decide +kernel
theorem dX10_readRest_120 : decode cX10_readRest 120 = .ok (.ireturn, 1) := by decide +kernel
theorem dX10_readRest_121 : decode cX10_readRest 121 = .ok (.aload_n 0, 1) := by decide +kernel
theorem dX10_readRest_122 : decode cX10_readRest 122 = .ok (.getfield 23, 3) := by decide +kernel
theorem dX10_readRest_125 : decode cX10_readRest 125 = .ok (.getfield 98, 3) := by decide +kernel
theorem dX10_readRest_128 : decode cX10_readRest 128 = .ok (.iload_n 2, 1) := by decide +kernel
theorem dX10_readRest_129 : decode cX10_readRest 129 = .ok (.aload_n 0, 1) := by decide +kernel
theorem dX10_readRest_130 : decode cX10_readRest 130 = .ok (.getfield 15, 3) := by decide +kernel
theorem dX10_readRest_133 : decode cX10_readRest 133 = .ok (.aload_n 0, 1) := by decide +kernel
theorem dX10_readRest_134 : decode cX10_readRest 134 = .ok (.getfield 19, 3) := by decide +kernel
theorem dX10_readRest_137 : decode cX10_readRest 137 = .ok (.bipush 7, 2) := by decide +kernel
theorem dX10_readRest_139 : decode cX10_readRest 139 = .ok (.invokevirtual 91, 3) := by decide +kernel
theorem dX10_readRest_142 : decode cX10_readRest 142 = .ok (.iastore, 1) := by decide +kernel
theorem dX10_readRest_143 : decode cX10_readRest 143 = .ok (.aload_n 0, 1) := by decide +kernel
theorem dX10_readRest_144 : decode cX10_readRest 144 = .ok (.getfield 23, 3) := by decide +kernel
theorem dX10_readRest_147 : decode cX10_readRest 147 = .ok (.getfield 98, 3) := by decide +kernel
theorem dX10_readRest_150 : decode cX10_readRest 150 = .ok (.iload_n 2, 1) := by decide +kernel
theorem dX10_readRest_151 : decode cX10_readRest 151 = .ok (.iaload, 1) := by decide +kernel
theorem dX10_readRest_152 : decode cX10_readRest 152 = .ok (.iconst (-1), 1) := by decide +kernel
theorem dX10_readRest_153 : decode cX10_readRest 153 = .ok (.if_icmp .eq 7, 3) := by decide +kernel
theorem dX10_readRest_156 : decode cX10_readRest 156 = .ok (.iconst 1, 1) := by decide +kernel
theorem dX10_readRest_157 : decode cX10_readRest 157 = .ok (.goto 4, 3) := by decide +kernel
theorem dX10_readRest_160 : decode cX10_readRest 160 = .ok (.iconst 0, 1) := by decide +kernel
theorem dX10_readRest_161 : decode cX10_readRest 161 = .ok (.ireturn, 1) := by decide +kernel
theorem dX10_readRest_162 : decode cX10_readRest 162 = .ok (.aload_n 0, 1) := by decide +kernel
theorem dX10_readRest_163 : decode cX10_readRest 163 = .ok (.getfield 23, 3) := by decide +kernel
theorem dX10_readRest_166 : decode cX10_readRest 166 = .ok (.getfield 98, 3) := by decide +kernel
theorem dX10_readRest_169 : decode cX10_readRest 169 = .ok (.iload_n 2, 1) := by decide +kernel
theorem dX10_readRest_170 : decode cX10_readRest 170 = .ok (.aload_n 0, 1) := by decide +kernel
theorem dX10_readRest_171 : decode cX10_readRest 171 = .ok (.getfield 15, 3) := by decide +kernel
theorem dX10_readRest_174 : decode cX10_readRest 174 = .ok (.aload_n 0, 1) := by decide +kernel
theorem dX10_readRest_175 : decode cX10_readRest 175 = .ok (.getfield 19, 3) := by decide +kernel
theorem dX10_readRest_178 : decode cX10_readRest 178 = .ok (.bipush 7, 2) := by decide +kernel
theorem dX10_readRest_180 : decode cX10_readRest 180 = .ok (.invokevirtual 91, 3) := by decide +kernel
theorem dX10_readRest_183 : decode cX10_readRest 183 = .ok (.iastore, 1) := by decide +kernel
theorem dX10_readRest_184 : decode cX10_readRest 184 = .ok (.aload_n 0, 1) := by decide +kernel
theorem dX10_readRest_185 : decode cX10_readRest 185 = .ok (.getfield 23, 3) := by decide +kernel
theorem dX10_readRest_188 : decode cX10_readRest 188 = .ok (.getfield 98, 3) := by decide +kernel
theorem dX10_readRest_191 : decode cX10_readRest 191 = .ok (.iload_n 2, 1) := by decide +kernel
theorem dX10_readRest_192 : decode cX10_readRest 192 = .ok (.iaload, 1) := by decide +kernel
theorem dX10_readRest_193 : decode cX10_readRest 193 = .ok (.iconst (-1), 1) := by decide +kernel
theorem dX10_readRest_194 : decode cX10_readRest 194 = .ok (.if_icmp .eq 7, 3) := by decide +kernel
theorem dX10_readRest_197 : decode cX10_readRest 197 = .ok (.iconst 1, 1) := by decide +kernel
theorem dX10_readRest_198 : decode cX10_readRest 198 = .ok (.goto 4, 3) := by decide +kernel
theorem dX10_readRest_201 : decode cX10_readRest 201 = .ok (.iconst 0, 1) := by decide +kernel
theorem dX10_readRest_202 : decode cX10_readRest 202 = .ok (.ireturn, 1) := by decide +kernel
theorem dX10_readRest_203 : decode cX10_readRest 203 = .ok (.aload_n 0, 1) := by decide +kernel
theorem dX10_readRest_204 : decode cX10_readRest 204 = .ok (.iload_n 2, 1) := by decide +kernel
theorem dX10_readRest_205 : decode cX10_readRest 205 = .ok (.invokevirtual 101, 3) := by decide +kernel
theorem dX10_readRest_208 : decode cX10_readRest 208 = .ok (.ireturn, 1) := by decide +kernel
theorem dX10_readRest_209 : decode cX10_readRest 209 = .ok (.iconst 1, 1) := by decide +kernel
theorem dX10_readRest_210 : decode cX10_readRest 210 = .ok (.ireturn, 1) := by decide +kernel
def j_X10_readRest : JD := (yX10_readRest, cX10_readRest, 3, (some .boolean))
def b_X10_readRest : BD := (4, 0, 0)
theorem dX10_readStepOrEnd_0 : decode cX10_readStepOrEnd 0 = .ok (.aload_n 0, 1) := by decide +kernel
theorem dX10_readStepOrEnd_1 : decode cX10_readStepOrEnd 1 = .ok (.getfield 15, 3) := by decide +kernel
theorem dX10_readStepOrEnd_4 : decode cX10_readStepOrEnd 4 = .ok (.getfield 63, 3) := by decide +kernel
theorem dX10_readStepOrEnd_7 : decode cX10_readStepOrEnd 7 = .ok (.istore_n 1, 1) := by decide +kernel
theorem dX10_readStepOrEnd_8 : decode cX10_readStepOrEnd 8 = .ok (.iload_n 1, 1) := by decide +kernel
theorem dX10_readStepOrEnd_9 : decode cX10_readStepOrEnd 9 = .ok (.bipush 28, 2) := by decide +kernel
theorem dX10_readStepOrEnd_11 : decode cX10_readStepOrEnd 11 = .ok (.if_icmp .ne 8, 3) := by decide +kernel
theorem dX10_readStepOrEnd_14 : decode cX10_readStepOrEnd 14 = .ok (.aload_n 0, 1) := by decide +kernel
theorem dX10_readStepOrEnd_15 : decode cX10_readStepOrEnd 15 = .ok (.invokevirtual 66, 3) := by decide +kernel
theorem dX10_readStepOrEnd_18 : decode cX10_readStepOrEnd 18 = .ok (.ireturn, 1) := by decide +kernel
theorem dX10_readStepOrEnd_19 : decode cX10_readStepOrEnd 19 = .ok (.iload_n 1, 1) := by decide +kernel
theorem dX10_readStepOrEnd_20 : decode cX10_readStepOrEnd 20 = .ok (.bipush 24, 2) := by decide +kernel
theorem dX10_readStepOrEnd_22 : decode cX10_readStepOrEnd 22 = .ok (.if_icmp .eq 9, 3) := by decide +kernel
theorem dX10_readStepOrEnd_25 : decode cX10_readStepOrEnd 25 = .ok (.iload_n 1, 1) := by decide +kernel
theorem dX10_readStepOrEnd_26 : decode cX10_readStepOrEnd 26 = .ok (.bipush 27, 2) := by decide +kernel
theorem dX10_readStepOrEnd_28 : decode cX10_readStepOrEnd 28 = .ok (.if_icmp .ne 7, 3) := by decide +kernel
theorem dX10_readStepOrEnd_31 : decode cX10_readStepOrEnd 31 = .ok (.iconst 1, 1) := by decide +kernel
theorem dX10_readStepOrEnd_32 : decode cX10_readStepOrEnd 32 = .ok (.goto 4, 3) := by decide +kernel
theorem dX10_readStepOrEnd_35 : decode cX10_readStepOrEnd 35 = .ok (.iconst 0, 1) := by decide +kernel
theorem dX10_readStepOrEnd_36 : decode cX10_readStepOrEnd 36 = .ok (.istore_n 2, 1) := by decide +kernel
theorem dX10_readStepOrEnd_37 : decode cX10_readStepOrEnd 37 = .ok (.iload_n 2, 1) := by decide +kernel
theorem dX10_readStepOrEnd_38 : decode cX10_readStepOrEnd 38 = .ok (.ifCond .ne 21, 3) := by decide +kernel
theorem dX10_readStepOrEnd_41 : decode cX10_readStepOrEnd 41 = .ok (.iload_n 1, 1) := by decide +kernel
theorem dX10_readStepOrEnd_42 : decode cX10_readStepOrEnd 42 = .ok (.bipush 29, 2) := by decide +kernel
theorem dX10_readStepOrEnd_44 : decode cX10_readStepOrEnd 44 = .ok (.if_icmp .eq 15, 3) := by decide +kernel
theorem dX10_readStepOrEnd_47 : decode cX10_readStepOrEnd 47 = .ok (.iload_n 1, 1) := by decide +kernel
theorem dX10_readStepOrEnd_48 : decode cX10_readStepOrEnd 48 = .ok (.bipush 18, 2) := by decide +kernel
theorem dX10_readStepOrEnd_50 : decode cX10_readStepOrEnd 50 = .ok (.if_icmp .lt 13, 3) := by decide +kernel
theorem dX10_readStepOrEnd_53 : decode cX10_readStepOrEnd 53 = .ok (.iload_n 1, 1) := by decide +kernel
theorem dX10_readStepOrEnd_54 : decode cX10_readStepOrEnd 54 = .ok (.bipush 22, 2) := by decide +kernel
theorem dX10_readStepOrEnd_56 : decode cX10_readStepOrEnd 56 = .ok (.if_icmp .gt 7, 3) := by decide +kernel
theorem dX10_readStepOrEnd_59 : decode cX10_readStepOrEnd 59 = .ok (.iconst 1, 1) := by decide +kernel
theorem dX10_readStepOrEnd_60 : decode cX10_readStepOrEnd 60 = .ok (.goto 4, 3) := by decide +kernel
theorem dX10_readStepOrEnd_63 : decode cX10_readStepOrEnd 63 = .ok (.iconst 0, 1) := by decide +kernel
theorem dX10_readStepOrEnd_64 : decode cX10_readStepOrEnd 64 = .ok (.istore_n 3, 1) := by decide +kernel
theorem dX10_readStepOrEnd_65 : decode cX10_readStepOrEnd 65 = .ok (.iload_n 3, 1) := by decide +kernel
theorem dX10_readStepOrEnd_66 : decode cX10_readStepOrEnd 66 = .ok (.ifCond .ne 12, 3) := by decide +kernel
theorem dX10_readStepOrEnd_69 : decode cX10_readStepOrEnd 69 = .ok (.aload_n 0, 1) := by decide +kernel
theorem dX10_readStepOrEnd_70 : decode cX10_readStepOrEnd 70 = .ok (.getfield 15, 3) := by decide +kernel
theorem dX10_readStepOrEnd_73 : decode cX10_readStepOrEnd 73 = .ok (.iconst 2, 1) := by decide +kernel
theorem dX10_readStepOrEnd_74 : decode cX10_readStepOrEnd 74 = .ok (.invokevirtual 59, 3) := by decide +kernel
theorem dX10_readStepOrEnd_77 : decode cX10_readStepOrEnd 77 = .ok (.ireturn, 1) := by decide +kernel
theorem dX10_readStepOrEnd_78 : decode cX10_readStepOrEnd 78 = .ok (.aload_n 0, 1) := by decide +kernel
theorem dX10_readStepOrEnd_79 : decode cX10_readStepOrEnd 79 = .ok (.getfield 23, 3) := by decide +kernel
theorem dX10_readStepOrEnd_82 : decode cX10_readStepOrEnd 82 = .ok (.getfield 69, 3) := by decide +kernel
theorem dX10_readStepOrEnd_85 : decode cX10_readStepOrEnd 85 = .ok (.bipush 30, 2) := by decide +kernel
theorem dX10_readStepOrEnd_87 : decode cX10_readStepOrEnd 87 = .ok (.if_icmp .ge 15, 3) := by decide +kernel
theorem dX10_readStepOrEnd_90 : decode cX10_readStepOrEnd 90 = .ok (.aload_n 0, 1) := by decide +kernel
theorem dX10_readStepOrEnd_91 : decode cX10_readStepOrEnd 91 = .ok (.getfield 23, 3) := by decide +kernel
theorem dX10_readStepOrEnd_94 : decode cX10_readStepOrEnd 94 = .ok (.getfield 49, 3) := by decide +kernel
theorem dX10_readStepOrEnd_97 : decode cX10_readStepOrEnd 97 = .ok (.bipush 60, 2) := by decide +kernel
theorem dX10_readStepOrEnd_99 : decode cX10_readStepOrEnd 99 = .ok (.if_icmp .lt 13, 3) := by decide +kernel
theorem dX10_readStepOrEnd_102 : decode cX10_readStepOrEnd 102 = .ok (.aload_n 0, 1) := by decide +kernel
theorem dX10_readStepOrEnd_103 : decode cX10_readStepOrEnd 103 = .ok (.getfield 15, 3) := by decide +kernel
theorem dX10_readStepOrEnd_106 : decode cX10_readStepOrEnd 106 = .ok (.bipush 6, 2) := by decide +kernel
theorem dX10_readStepOrEnd_108 : decode cX10_readStepOrEnd 108 = .ok (.invokevirtual 59, 3) := by decide +kernel
theorem dX10_readStepOrEnd_111 : decode cX10_readStepOrEnd 111 = .ok (.ireturn, 1) := by decide +kernel
theorem dX10_readStepOrEnd_112 : decode cX10_readStepOrEnd 112 = .ok (.iload_n 2, 1) := by decide +kernel
theorem dX10_readStepOrEnd_113 : decode cX10_readStepOrEnd 113 = .ok (.ifCond .eq 21, 3) := by decide +kernel
theorem dX10_readStepOrEnd_116 : decode cX10_readStepOrEnd 116 = .ok (.aload_n 0, 1) := by decide +kernel
theorem dX10_readStepOrEnd_117 : decode cX10_readStepOrEnd 117 = .ok (.getfield 56, 3) := by decide +kernel
theorem dX10_readStepOrEnd_120 : decode cX10_readStepOrEnd 120 = .ok (.iconst 3, 1) := by decide +kernel
theorem dX10_readStepOrEnd_121 : decode cX10_readStepOrEnd 121 = .ok (.if_icmp .lt 13, 3) := by decide +kernel
theorem dX10_readStepOrEnd_124 : decode cX10_readStepOrEnd 124 = .ok (.aload_n 0, 1) := by decide +kernel
theorem dX10_readStepOrEnd_125 : decode cX10_readStepOrEnd 125 = .ok (.getfield 15, 3) := by decide +kernel
theorem dX10_readStepOrEnd_128 : decode cX10_readStepOrEnd 128 = .ok (.bipush 7, 2) := by decide +kernel
theorem dX10_readStepOrEnd_130 : decode cX10_readStepOrEnd 130 = .ok (.invokevirtual 59, 3) := by decide +kernel
theorem dX10_readStepOrEnd_133 : decode cX10_readStepOrEnd 133 = .ok (.ireturn, 1) := by decide +kernel
theorem dX10_readStepOrEnd_134 : decode cX10_readStepOrEnd 134 = .ok (.aload_n 0, 1) := by decide +kernel
theorem dX10_readStepOrEnd_135 : decode cX10_readStepOrEnd 135 = .ok (.getfield 23, 3) := by decide +kernel
theorem dX10_readStepOrEnd_138 : decode cX10_readStepOrEnd 138 = .ok (.dup, 1) := by decide +kernel
theorem dX10_readStepOrEnd_139 : decode cX10_readStepOrEnd 139 = .ok (.getfield 69, 3) := by decide +kernel
theorem dX10_readStepOrEnd_142 : decode cX10_readStepOrEnd 142 = .ok (.iconst 1, 1) := by decide +kernel
theorem dX10_readStepOrEnd_143 : decode cX10_readStepOrEnd 143 = .ok (.iadd, 1) := by decide +kernel
theorem dX10_readStepOrEnd_144 : decode cX10_readStepOrEnd 144 = .ok (.putfield 69, 3) := by decide +kernel
theorem dX10_readStepOrEnd_147 : decode cX10_readStepOrEnd 147 = .ok (.aload_n 0, 1) := by decide +kernel
theorem dX10_readStepOrEnd_148 : decode cX10_readStepOrEnd 148 = .ok (.getfield 23, 3) := by decide +kernel
theorem dX10_readStepOrEnd_151 : decode cX10_readStepOrEnd 151 = .ok (.getfield 72, 3) := by decide +kernel
theorem dX10_readStepOrEnd_154 : decode cX10_readStepOrEnd 154 = .ok (.aload_n 0, 1) := by decide +kernel
theorem dX10_readStepOrEnd_155 : decode cX10_readStepOrEnd 155 = .ok (.getfield 23, 3) := by decide +kernel
theorem dX10_readStepOrEnd_158 : decode cX10_readStepOrEnd 158 = .ok (.getfield 49, 3) := by decide +kernel
theorem dX10_readStepOrEnd_161 : decode cX10_readStepOrEnd 161 = .ok (.iload_n 1, 1) := by decide +kernel
theorem dX10_readStepOrEnd_162 : decode cX10_readStepOrEnd 162 = .ok (.iastore, 1) := by decide +kernel
theorem dX10_readStepOrEnd_163 : decode cX10_readStepOrEnd 163 = .ok (.iload_n 2, 1) := by decide +kernel
theorem dX10_readStepOrEnd_164 : decode cX10_readStepOrEnd 164 = .ok (.ifCond .eq 29, 3) := by decide +kernel
theorem dX10_readStepOrEnd_167 : decode cX10_readStepOrEnd 167 = .ok (.aload_n 0, 1) := by decide +kernel
theorem dX10_readStepOrEnd_168 : decode cX10_readStepOrEnd 168 = .ok (.getfield 9, 3) := by decide +kernel
theorem dX10_readStepOrEnd_171 : decode cX10_readStepOrEnd 171 = .ok (.aload_n 0, 1) := by decide +kernel
theorem dX10_readStepOrEnd_172 : decode cX10_readStepOrEnd 172 = .ok (.getfield 56, 3) := by decide +kernel
theorem dX10_readStepOrEnd_175 : decode cX10_readStepOrEnd 175 = .ok (.aload_n 0, 1) := by decide +kernel
theorem dX10_readStepOrEnd_176 : decode cX10_readStepOrEnd 176 = .ok (.getfield 23, 3) := by decide +kernel
theorem dX10_readStepOrEnd_179 : decode cX10_readStepOrEnd 179 = .ok (.getfield 49, 3) := by decide +kernel
theorem dX10_readStepOrEnd_182 : decode cX10_readStepOrEnd 182 = .ok (.iastore, 1) := by decide +kernel
theorem dX10_readStepOrEnd_183 : decode cX10_readStepOrEnd 183 = .ok (.aload_n 0, 1) := by decide +kernel
theorem dX10_readStepOrEnd_184 : decode cX10_readStepOrEnd 184 = .ok (.dup, 1) := by decide +kernel
theorem dX10_readStepOrEnd_185 : decode cX10_readStepOrEnd 185 = .ok (.getfield 56, 3) := by decide +kernel
theorem dX10_readStepOrEnd_188 : decode cX10_readStepOrEnd 188 = .ok (.iconst 1, 1) := by decide +kernel
theorem dX10_readStepOrEnd_189 : decode cX10_readStepOrEnd 189 = .ok (.iadd, 1) := by decide +kernel
theorem dX10_readStepOrEnd_190 : decode cX10_readStepOrEnd 190 = .ok (.putfield 56, 3) := by decide +kernel
theorem dX10_readStepOrEnd_193 : decode cX10_readStepOrEnd 193 = .ok (.aload_n 0, 1) := by decide +kernel
theorem dX10_readStepOrEnd_194 : decode cX10_readStepOrEnd 194 = .ok (.getfield 15, 3) := by decide +kernel
theorem dX10_readStepOrEnd_197 : decode cX10_readStepOrEnd 197 = .ok (.invokevirtual 75, 3) := by decide +kernel
theorem dX10_readStepOrEnd_200 : decode cX10_readStepOrEnd 200 = .ok (.aload_n 0, 1) := by decide +kernel
theorem dX10_readStepOrEnd_201 : decode cX10_readStepOrEnd 201 = .ok (.iload_n 1, 1) := by decide +kernel
theorem dX10_readStepOrEnd_202 : decode cX10_readStepOrEnd 202 = .ok (.aload_n 0, 1) := by decide +kernel
theorem dX10_readStepOrEnd_203 : decode cX10_readStepOrEnd 203 = .ok (.getfield 23, 3) := by decide +kernel
theorem dX10_readStepOrEnd_206 : decode cX10_readStepOrEnd 206 = .ok (.getfield 49, 3) := by decide +kernel
theorem dX10_readStepOrEnd_209 : decode cX10_readStepOrEnd 209 = .ok (.invokevirtual 78, 3) := by decide +kernel
theorem dX10_readStepOrEnd_212 : decode cX10_readStepOrEnd 212 = .ok (.ireturn, 1) := by decide +kernel
def j_X10_readStepOrEnd : JD := (yX10_readStepOrEnd, cX10_readStepOrEnd, 4, (some .boolean))
def b_X10_readStepOrEnd : BD := (5, 0, 0)
theorem dX10_readAll_0 : decode cX10_readAll 0 = .ok (.aload_n 0, 1) := by decide +kernel
theorem dX10_readAll_1 : decode cX10_readAll 1 = .ok (.getfield 23, 3) := by decide +kernel
theorem dX10_readAll_4 : decode cX10_readAll 4 = .ok (.invokevirtual 27, 3) := by decide +kernel
theorem dX10_readAll_7 : decode cX10_readAll 7 = .ok (.aload_n 0, 1) := by decide +kernel
theorem dX10_readAll_8 : decode cX10_readAll 8 = .ok (.getfield 15, 3) := by decide +kernel
theorem dX10_readAll_11 : decode cX10_readAll 11 = .ok (.iload_n 1, 1) := by decide +kernel
theorem dX10_readAll_12 : decode cX10_readAll 12 = .ok (.invokevirtual 32, 3) := by decide +kernel
theorem dX10_readAll_15 : decode cX10_readAll 15 = .ok (.iconst 0, 1) := by decide +kernel
theorem dX10_readAll_16 : decode cX10_readAll 16 = .ok (.istore_n 2, 1) := by decide +kernel
theorem dX10_readAll_17 : decode cX10_readAll 17 = .ok (.iload_n 2, 1) := by decide +kernel
theorem dX10_readAll_18 : decode cX10_readAll 18 = .ok (.sipush 300, 3) := by decide +kernel
theorem dX10_readAll_21 : decode cX10_readAll 21 = .ok (.if_icmp .ge 51, 3) := by decide +kernel
theorem dX10_readAll_24 : decode cX10_readAll 24 = .ok (.aload_n 0, 1) := by decide +kernel
theorem dX10_readAll_25 : decode cX10_readAll 25 = .ok (.getfield 15, 3) := by decide +kernel
theorem dX10_readAll_28 : decode cX10_readAll 28 = .ok (.getfield 38, 3) := by decide +kernel
theorem dX10_readAll_31 : decode cX10_readAll 31 = .ok (.ifCond .eq 41, 3) := by decide +kernel
theorem dX10_readAll_34 : decode cX10_readAll 34 = .ok (.aload_n 0, 1) := by decide +kernel
theorem dX10_readAll_35 : decode cX10_readAll 35 = .ok (.invokevirtual 42, 3) := by decide +kernel
theorem dX10_readAll_38 : decode cX10_readAll 38 = .ok (.ifCond .eq 13, 3) := by decide +kernel
theorem dX10_readAll_41 : decode cX10_readAll 41 = .ok (.aload_n 0, 1) := by decide +kernel
theorem dX10_readAll_42 : decode cX10_readAll 42 = .ok (.getfield 15, 3) := by decide +kernel
theorem dX10_readAll_45 : decode cX10_readAll 45 = .ok (.invokevirtual 46, 3) := by decide +kernel
theorem dX10_readAll_48 : decode cX10_readAll 48 = .ok (.ifCond .ne 5, 3) := by decide +kernel
theorem dX10_readAll_51 : decode cX10_readAll 51 = .ok (.iconst 0, 1) := by decide +kernel
theorem dX10_readAll_52 : decode cX10_readAll 52 = .ok (.ireturn, 1) := by decide +kernel
theorem dX10_readAll_53 : decode cX10_readAll 53 = .ok (.aload_n 0, 1) := by decide +kernel
theorem dX10_readAll_54 : decode cX10_readAll 54 = .ok (.getfield 23, 3) := by decide +kernel
theorem dX10_readAll_57 : decode cX10_readAll 57 = .ok (.dup, 1) := by decide +kernel
theorem dX10_readAll_58 : decode cX10_readAll 58 = .ok (.getfield 49, 3) := by decide +kernel
theorem dX10_readAll_61 : decode cX10_readAll 61 = .ok (.iconst 1, 1) := by decide +kernel
theorem dX10_readAll_62 : decode cX10_readAll 62 = .ok (.iadd, 1) := by decide +kernel
theorem dX10_readAll_63 : decode cX10_readAll 63 = .ok (.putfield 49, 3) := by decide +kernel
theorem dX10_readAll_66 : decode cX10_readAll 66 = .ok (.iinc 2 1, 3) := by decide +kernel
theorem dX10_readAll_69 : decode cX10_readAll 69 = .ok (.goto (-52), 3) := by decide +kernel
theorem dX10_readAll_72 : decode cX10_readAll 72 = .ok (.aload_n 0, 1) := by decide +kernel
theorem dX10_readAll_73 : decode cX10_readAll 73 = .ok (.getfield 23, 3) := by decide +kernel
theorem dX10_readAll_76 : decode cX10_readAll 76 = .ok (.iconst 1, 1) := by decide +kernel
theorem dX10_readAll_77 : decode cX10_readAll 77 = .ok (.putfield 52, 3) := by decide +kernel
theorem dX10_readAll_80 : decode cX10_readAll 80 = .ok (.aload_n 0, 1) := by decide +kernel
theorem dX10_readAll_81 : decode cX10_readAll 81 = .ok (.getfield 56, 3) := by decide +kernel
theorem dX10_readAll_84 : decode cX10_readAll 84 = .ok (.ifCond .eq 14, 3) := by decide +kernel
theorem dX10_readAll_87 : decode cX10_readAll 87 = .ok (.aload_n 0, 1) := by decide +kernel
theorem dX10_readAll_88 : decode cX10_readAll 88 = .ok (.getfield 15, 3) := by decide +kernel
theorem dX10_readAll_91 : decode cX10_readAll 91 = .ok (.iconst 2, 1) := by decide +kernel
theorem dX10_readAll_92 : decode cX10_readAll 92 = .ok (.invokevirtual 59, 3) := by decide +kernel
theorem dX10_readAll_95 : decode cX10_readAll 95 = .ok (.ifCond .eq 7, 3) := by decide +kernel
theorem dX10_readAll_98 : decode cX10_readAll 98 = .ok (.iconst 1, 1) := by decide +kernel
theorem dX10_readAll_99 : decode cX10_readAll 99 = .ok (.goto 4, 3) := by decide +kernel
theorem dX10_readAll_102 : decode cX10_readAll 102 = .ok (.iconst 0, 1) := by decide +kernel
theorem dX10_readAll_103 : decode cX10_readAll 103 = .ok (.ireturn, 1) := by decide +kernel
def j_X10_readAll : JD := (yX10_readAll, cX10_readAll, 3, (some .boolean))
def b_X10_readAll : BD := (6, 0, 0)
theorem mi_X10_init : MI j_X10_init 3 := ⟨⟨gw_at 980 (by decide +kernel) rfl, gw_at 225 (by decide +kernel) rfl, ⟨by decide +kernel, by decide +kernel⟩, by decide +kernel, by decide, by decide +kernel⟩, rfl, rfl, gw_at 979 (by decide +kernel) rfl⟩
theorem mv_X10_readEnd : MV j_X10_readEnd 10 0 := ⟨⟨gw_at 1011 (by decide +kernel) rfl, gw_at 225 (by decide +kernel) rfl, ⟨by decide +kernel, by decide +kernel⟩, by decide +kernel, by decide, by decide +kernel⟩, ⟨_, rfl, rfl⟩, gw_at 1010 (by decide +kernel) rfl, gw_at 41 (by decide +kernel) rfl⟩
theorem mv_X10_readCount : MV j_X10_readCount 10 2 := ⟨⟨gw_at 1021 (by decide +kernel) rfl, gw_at 225 (by decide +kernel) rfl, ⟨by decide +kernel, by decide +kernel⟩, by decide +kernel, by decide, by decide +kernel⟩, ⟨_, rfl, rfl⟩, gw_at 1020 (by decide +kernel) rfl, gw_at 43 (by decide +kernel) rfl⟩
theorem mv_X10_readTest : MV j_X10_readTest 10 1 := ⟨⟨gw_at 1028 (by decide +kernel) rfl, gw_at 225 (by decide +kernel) rfl, ⟨by decide +kernel, by decide +kernel⟩, by decide +kernel, by decide, by decide +kernel⟩, ⟨_, rfl, rfl⟩, gw_at 1027 (by decide +kernel) rfl, gw_at 44 (by decide +kernel) rfl⟩
theorem mv_X10_readRest : MV j_X10_readRest 10 2 := ⟨⟨gw_at 1017 (by decide +kernel) rfl, gw_at 225 (by decide +kernel) rfl, ⟨by decide +kernel, by decide +kernel⟩, by decide +kernel, by decide, by decide +kernel⟩, ⟨_, rfl, rfl⟩, gw_at 1016 (by decide +kernel) rfl, gw_at 42 (by decide +kernel) rfl⟩
theorem mv_X10_readStepOrEnd : MV j_X10_readStepOrEnd 10 0 := ⟨⟨gw_at 1007 (by decide +kernel) rfl, gw_at 225 (by decide +kernel) rfl, ⟨by decide +kernel, by decide +kernel⟩, by decide +kernel, by decide, by decide +kernel⟩, ⟨_, rfl, rfl⟩, gw_at 1006 (by decide +kernel) rfl, gw_at 40 (by decide +kernel) rfl⟩
theorem mv_X10_readAll : MV j_X10_readAll 10 1 := ⟨⟨gw_at 1001 (by decide +kernel) rfl, gw_at 225 (by decide +kernel) rfl, ⟨by decide +kernel, by decide +kernel⟩, by decide +kernel, by decide, by decide +kernel⟩, ⟨_, rfl, rfl⟩, gw_at 1000 (by decide +kernel) rfl, gw_at 39 (by decide +kernel) rfl⟩
theorem ml_X10_27 : MLk RX10 27 j_X9_clear.1 := Or.inr ⟨_, nw_at (w := Cond.methodLinkNest RX10 27 yX9_clear "RoofGale") 1002 (by decide +kernel) rfl⟩
theorem ml_X10_32 : MLk RX10 32 j_X6_open.1 := Or.inr ⟨_, nw_at (w := Cond.methodLinkNest RX10 32 yX6_open "RoofGale") 1003 (by decide +kernel) rfl⟩
theorem ml_X10_42 : MLk RX10 42 j_X10_readStepOrEnd.1 := Or.inl (gw_at 1004 (by decide +kernel) rfl)
theorem ml_X10_46 : MLk RX10 46 j_X6_takeSemicolon.1 := Or.inr ⟨_, nw_at (w := Cond.methodLinkNest RX10 46 yX6_takeSemicolon "RoofGale") 1029 (by decide +kernel) rfl⟩
theorem ml_X10_59 : MLk RX10 59 j_X6_fail.1 := Or.inr ⟨_, nw_at (w := Cond.methodLinkNest RX10 59 yX6_fail "RoofGale") 1012 (by decide +kernel) rfl⟩
theorem ml_X10_66 : MLk RX10 66 j_X10_readEnd.1 := Or.inl (gw_at 1008 (by decide +kernel) rfl)
theorem ml_X10_75 : MLk RX10 75 j_X6_step.1 := Or.inr ⟨_, nw_at (w := Cond.methodLinkNest RX10 75 yX6_step "RoofGale") 1013 (by decide +kernel) rfl⟩
theorem ml_X10_78 : MLk RX10 78 j_X10_readRest.1 := Or.inl (gw_at 1014 (by decide +kernel) rfl)
theorem ml_X10_85 : MLk RX10 85 j_X10_readCount.1 := Or.inl (gw_at 1018 (by decide +kernel) rfl)
theorem ml_X10_91 : MLk RX10 91 j_X6_takeNamed.1 := Or.inr ⟨_, nw_at (w := Cond.methodLinkNest RX10 91 yX6_takeNamed "RoofGale") 1023 (by decide +kernel) rfl⟩
theorem ml_X10_95 : MLk RX10 95 j_X6_takeWord.1 := Or.inr ⟨_, nw_at (w := Cond.methodLinkNest RX10 95 yX6_takeWord "RoofGale") 1024 (by decide +kernel) rfl⟩
theorem ml_X10_101 : MLk RX10 101 j_X10_readTest.1 := Or.inl (gw_at 1025 (by decide +kernel) rfl)
theorem ml_X10_104 : MLk RX10 104 j_X6_takeNumber.1 := Or.inr ⟨_, nw_at (w := Cond.methodLinkNest RX10 104 yX6_takeNumber "RoofGale") 1022 (by decide +kernel) rfl⟩
def f_X10_init (M : Mm) (l0 : Option Nat) (l1 : Option Nat) (l2 : Option Nat) (l3 : Option Nat) : Option (Mm) := nz l0 <| nwa M 21 3 fun q6 M6 => pfR M6 l0 10 3 q6 fun M8 => pfR M8 l0 10 0 l1 fun M13 => pfR M13 l0 10 1 l2 fun M18 => pfR M18 l0 10 2 l3 fun M23 => some M23
set_option maxHeartbeats 4000000 in
set_option maxRecDepth 100000 in
theorem t_X10_init_e {G : GG} {X : CX} {ans : Mm} (he : EndV G X j_X10_init b_X10_init ans) {M : Mm} {l0 : Option Nat} {l1 : Option Nat} {l2 : Option Nat} {l3 : Option Nat} (h : f_X10_init M l0 l1 l2 l3 = some ans) : Wt G X j_X10_init b_X10_init 0 [(0, rf G.1 l0), (1, rf G.1 l1), (2, rf G.1 l2), (3, rf G.1 l3)] [] M 0 0 := by
  unfold f_X10_init at h
  refine wt_aload_n (pc := 0) 0 dX10_init_0 rfl ?_
  refine wt_oI (pc := 1) dX10_init_1 oi_X10_3 oiM oiC (by decide) (by decide) h (fun h => ?_)
  refine wt_aload_n (pc := 4) 0 dX10_init_4 rfl ?_
  refine wt_iconst (pc := 5) (v := 3) dX10_init_5 (by decide) ?_
  refine wt_newarray (pc := 6) (kd := 21) (ty := .int) (n' := 3) dX10_init_6 rfl rfl ac_int (fun _ _ h => h) (by decide) (by decide) (by decide) (by decide) h (fun q6 M6 h => ?_)
  refine wt_putFA (pc := 8) dX10_init_8 ff_X10_9 rfl rfl h (fun M8 h => ?_)
  refine wt_aload_n (pc := 11) 0 dX10_init_11 rfl ?_
  refine wt_aload_n (pc := 12) 1 dX10_init_12 rfl ?_
  refine wt_putFR (pc := 13) dX10_init_13 ff_X10_15 rfl rfl h (fun M13 h => ?_)
  refine wt_aload_n (pc := 16) 0 dX10_init_16 rfl ?_
  refine wt_aload_n (pc := 17) 2 dX10_init_17 rfl ?_
  refine wt_putFR (pc := 18) dX10_init_18 ff_X10_19 rfl rfl h (fun M18 h => ?_)
  refine wt_aload_n (pc := 21) 0 dX10_init_21 rfl ?_
  refine wt_aload_n (pc := 22) 3 dX10_init_22 rfl ?_
  refine wt_putFR (pc := 23) dX10_init_23 ff_X10_23 rfl rfl h (fun M23 h => ?_)
  cases h
  exact he 26 _ _ _ dX10_init_26 (by decide) (by decide)
set_option maxHeartbeats 4000000 in
set_option maxRecDepth 100000 in
theorem c_X10_init {G : GG} {M : Mm} {l0 : Option Nat} {l1 : Option Nat} {l2 : Option Nat} {l3 : Option Nat} {r : Mm} (h : f_X10_init M l0 l1 l2 l3 = some r) (l : Launch) : Ct l G j_X10_init b_X10_init [rf G.1 l0, rf G.1 l1, rf G.1 l2, rf G.1 l3] M none r := cf_V (by decide +kernel) (by simp [lg_sl, rf_cat, cat_i, cat_l, j_X10_init]) rfl (by simp [lv_args, rf_cat, cat_i, cat_l]) (fun X he => t_X10_init_e he h)
def f_X10_readEnd_19 (M : Mm) (l0 : Option Nat) : Option (Int32 × Mm) := gfR M l0 10 0 fun v20 => ck M v20 6 <| bd (f_X6_fail M v20 2) fun v24 M24 => some (v24, M24)
def g_X10_readEnd (M : Mm) (l0 : Option Nat) : Option (Int32 × Mm) := gfI M l0 10 4 fun v1 => if v1 ≤ 0 then (f_X10_readEnd_19  M l0) else (gfR M l0 10 2 fun v8 => gfI M v8 9 2 fun v11 => if v11 < 60 then (gfI M l0 10 4 fun v30 => pfI M l0 10 4 (v30 - 1) fun M35 => gfR M35 l0 10 2 fun v39 => gfR M35 v39 9 3 fun v42 => gfR M35 l0 10 2 fun v46 => gfI M35 v46 9 2 fun v49 => asI M35 v42 21 v49 28 fun M54 => gfR M54 l0 10 2 fun v56 => gfR M54 v56 9 7 fun v59 => gfR M54 l0 10 2 fun v63 => gfI M54 v63 9 2 fun v66 => gfR M54 l0 10 3 fun v70 => gfI M54 l0 10 4 fun v74 => alI M54 v70 21 v74 fun v77 => asI M54 v59 21 v66 v77 fun M78 => gfR M78 l0 10 2 fun v80 => gfR M78 v80 9 7 fun v83 => gfR M78 l0 10 3 fun v87 => gfI M78 l0 10 4 fun v91 => alI M78 v87 21 v91 fun v94 => gfR M78 l0 10 2 fun v96 => gfI M78 v96 9 2 fun v99 => asI M78 v83 21 v94 v99 fun M102 => gfR M102 l0 10 0 fun v104 => ck M102 v104 6 <| bv (f_X6_step M102 v104) fun M107 => some (1, M107)) else (f_X10_readEnd_19  M l0))
def f_X10_readEnd (M : Mm) (l0 : Option Nat) : Option (Int32 × Mm) := zc (g_X10_readEnd M l0)
set_option maxHeartbeats 4000000 in
set_option maxRecDepth 100000 in
theorem t_X10_readEnd_19 {G : GG} {X : CX} {ans : Int32 × Mm} (he : EndI G X j_X10_readEnd b_X10_readEnd ans) {M : Mm} {l0 : Option Nat} (h : f_X10_readEnd_19 M l0 = some ans) : Wt G X j_X10_readEnd b_X10_readEnd 19 [(0, rf G.1 l0)] [] M 0 0 := by
  unfold f_X10_readEnd_19 at h
  refine wt_aload_n (pc := 19) 0 dX10_readEnd_19 rfl ?_
  refine wt_getR (pc := 20) dX10_readEnd_20 fl_X10_15 (fun _ _ _ => rfl) h (fun v20 h => ?_)
  refine wt_iconst (pc := 23) (v := 2) dX10_readEnd_23 (by decide) ?_
  refine wt_cVI (pc := 24) (J' := j_X6_fail) (As := [.int 2]) (st := []) (B' := b_X6_fail) (u' := 0) (w' := 0) dX10_readEnd_24 ml_X10_59 mv_X6_fail (fun v9 M9 e9 => c_X6_fail e9) rfl (by decide) rfl rfl (by decide) (by decide) (by decide) rfl h (fun v24 M24 h => ?_)
  cases h
  exact he 27 _ _ _ dX10_readEnd_27 (by decide) (by decide)
set_option maxHeartbeats 4000000 in
set_option maxRecDepth 100000 in
theorem t_X10_readEnd_e {G : GG} {X : CX} {ans : Int32 × Mm} (he : EndI G X j_X10_readEnd b_X10_readEnd ans) {M : Mm} {l0 : Option Nat} (h : g_X10_readEnd M l0 = some ans) : Wt G X j_X10_readEnd b_X10_readEnd 0 [(0, rf G.1 l0)] [] M 0 0 := by
  unfold g_X10_readEnd at h
  refine wt_aload_n (pc := 0) 0 dX10_readEnd_0 rfl ?_
  refine wt_getI (pc := 1) dX10_readEnd_1 fl_X10_56 (fun _ _ _ => rfl) h (fun v1 h => ?_)
  refine wt_if_le (pc := 4) (tgt := 19) dX10_readEnd_4 (by decide) (fun q => ?_) (fun q => ?_)
  · have h := ite_t q h
    exact t_X10_readEnd_19 he  h
  · have h := ite_f q h
    refine wt_aload_n (pc := 7) 0 dX10_readEnd_7 rfl ?_
    refine wt_getR (pc := 8) dX10_readEnd_8 fl_X10_23 (fun _ _ _ => rfl) h (fun v8 h => ?_)
    refine wt_getI (pc := 11) dX10_readEnd_11 fl_X10_49 (fun _ _ _ => rfl) h (fun v11 h => ?_)
    refine wt_bipush (pc := 14) (v := 60) dX10_readEnd_14 (by decide) ?_
    refine wt_icmp_lt (pc := 16) (tgt := 28) dX10_readEnd_16 (by decide) (fun q => ?_) (fun q => ?_)
    · have h := ite_t q h
      refine wt_aload_n (pc := 28) 0 dX10_readEnd_28 rfl ?_
      refine wt_dup (pc := 29) dX10_readEnd_29 (rf_cat _ _) ?_
      refine wt_getI (pc := 30) dX10_readEnd_30 fl_X10_56 (fun _ _ _ => rfl) h (fun v30 h => ?_)
      refine wt_iconst (pc := 33) (v := 1) dX10_readEnd_33 (by decide) ?_
      refine wt_isub (pc := 34) dX10_readEnd_34 ?_
      refine wt_putI (pc := 35) dX10_readEnd_35 fl_X10_56 rfl rfl h (fun M35 h => ?_)
      refine wt_aload_n (pc := 38) 0 dX10_readEnd_38 rfl ?_
      refine wt_getR (pc := 39) dX10_readEnd_39 fl_X10_23 (fun _ _ _ => rfl) h (fun v39 h => ?_)
      refine wt_getR (pc := 42) dX10_readEnd_42 fl_X10_72 (fun _ _ _ => rfl) h (fun v42 h => ?_)
      refine wt_aload_n (pc := 45) 0 dX10_readEnd_45 rfl ?_
      refine wt_getR (pc := 46) dX10_readEnd_46 fl_X10_23 (fun _ _ _ => rfl) h (fun v46 h => ?_)
      refine wt_getI (pc := 49) dX10_readEnd_49 fl_X10_49 (fun _ _ _ => rfl) h (fun v49 h => ?_)
      refine wt_bipush (pc := 52) (v := 28) dX10_readEnd_52 (by decide) ?_
      refine wt_iastore (pc := 54) (kd := 21) dX10_readEnd_54 rfl rfl h (fun M54 h => ?_)
      refine wt_aload_n (pc := 55) 0 dX10_readEnd_55 rfl ?_
      refine wt_getR (pc := 56) dX10_readEnd_56 fl_X10_23 (fun _ _ _ => rfl) h (fun v56 h => ?_)
      refine wt_getR (pc := 59) dX10_readEnd_59 fl_X10_82 (fun _ _ _ => rfl) h (fun v59 h => ?_)
      refine wt_aload_n (pc := 62) 0 dX10_readEnd_62 rfl ?_
      refine wt_getR (pc := 63) dX10_readEnd_63 fl_X10_23 (fun _ _ _ => rfl) h (fun v63 h => ?_)
      refine wt_getI (pc := 66) dX10_readEnd_66 fl_X10_49 (fun _ _ _ => rfl) h (fun v66 h => ?_)
      refine wt_aload_n (pc := 69) 0 dX10_readEnd_69 rfl ?_
      refine wt_getR (pc := 70) dX10_readEnd_70 fl_X10_9 (fun _ _ _ => rfl) h (fun v70 h => ?_)
      refine wt_aload_n (pc := 73) 0 dX10_readEnd_73 rfl ?_
      refine wt_getI (pc := 74) dX10_readEnd_74 fl_X10_56 (fun _ _ _ => rfl) h (fun v74 h => ?_)
      refine wt_iaload (pc := 77) (kd := 21) dX10_readEnd_77 rfl rfl h (fun v77 h => ?_)
      refine wt_iastore (pc := 78) (kd := 21) dX10_readEnd_78 rfl rfl h (fun M78 h => ?_)
      refine wt_aload_n (pc := 79) 0 dX10_readEnd_79 rfl ?_
      refine wt_getR (pc := 80) dX10_readEnd_80 fl_X10_23 (fun _ _ _ => rfl) h (fun v80 h => ?_)
      refine wt_getR (pc := 83) dX10_readEnd_83 fl_X10_82 (fun _ _ _ => rfl) h (fun v83 h => ?_)
      refine wt_aload_n (pc := 86) 0 dX10_readEnd_86 rfl ?_
      refine wt_getR (pc := 87) dX10_readEnd_87 fl_X10_9 (fun _ _ _ => rfl) h (fun v87 h => ?_)
      refine wt_aload_n (pc := 90) 0 dX10_readEnd_90 rfl ?_
      refine wt_getI (pc := 91) dX10_readEnd_91 fl_X10_56 (fun _ _ _ => rfl) h (fun v91 h => ?_)
      refine wt_iaload (pc := 94) (kd := 21) dX10_readEnd_94 rfl rfl h (fun v94 h => ?_)
      refine wt_aload_n (pc := 95) 0 dX10_readEnd_95 rfl ?_
      refine wt_getR (pc := 96) dX10_readEnd_96 fl_X10_23 (fun _ _ _ => rfl) h (fun v96 h => ?_)
      refine wt_getI (pc := 99) dX10_readEnd_99 fl_X10_49 (fun _ _ _ => rfl) h (fun v99 h => ?_)
      refine wt_iastore (pc := 102) (kd := 21) dX10_readEnd_102 rfl rfl h (fun M102 h => ?_)
      refine wt_aload_n (pc := 103) 0 dX10_readEnd_103 rfl ?_
      refine wt_getR (pc := 104) dX10_readEnd_104 fl_X10_15 (fun _ _ _ => rfl) h (fun v104 h => ?_)
      refine wt_cVV (pc := 107) (J' := j_X6_step) (As := []) (st := []) (B' := b_X6_step) (u' := 0) (w' := 0) dX10_readEnd_107 ml_X10_75 mv_X6_step (fun M9 e9 => c_X6_step e9) rfl (by decide) rfl rfl (by decide) (by decide) (by decide) rfl h (fun M107 h => ?_)
      refine wt_iconst (pc := 110) (v := 1) dX10_readEnd_110 (by decide) ?_
      cases h
      exact he 111 _ _ _ dX10_readEnd_111 (by decide) (by decide)
    · have h := ite_f q h
      exact t_X10_readEnd_19 he  h
set_option maxHeartbeats 4000000 in
set_option maxRecDepth 100000 in
theorem c_X10_readEnd {G : GG} {M : Mm} {l0 : Option Nat} {r : Int32 × Mm} (h : f_X10_readEnd M l0 = some r) (l : Launch) : Ct l G j_X10_readEnd b_X10_readEnd [rf G.1 l0] M (some (.int r.1)) r.2 := cf_Z h (by decide +kernel) (by simp [lg_sl, rf_cat, cat_i, cat_l, j_X10_readEnd]) rfl (by simp [lv_args, rf_cat, cat_i, cat_l]) (fun h X he => t_X10_readEnd_e he h)
def g_X10_readCount (M : Mm) (l0 : Option Nat) (l1 : Int32) (l2 : Int32) : Option (Int32 × Mm) := gfR M l0 10 0 fun v1 => ck M v1 6 <| bd (f_X6_takeNumber M v1 1 l2) fun v6 M6 => gfR M6 l0 10 2 fun v11 => gfR M6 v11 9 4 fun v14 => gfR M6 l0 10 0 fun v19 => gfI M6 v19 6 11 fun v22 => asI M6 v14 21 l1 v22 fun M25 => some (v6, M25)
def f_X10_readCount (M : Mm) (l0 : Option Nat) (l1 : Int32) (l2 : Int32) : Option (Int32 × Mm) := zc (g_X10_readCount M l0 l1 l2)
set_option maxHeartbeats 4000000 in
set_option maxRecDepth 100000 in
theorem t_X10_readCount_e {G : GG} {X : CX} {ans : Int32 × Mm} (he : EndI G X j_X10_readCount b_X10_readCount ans) {M : Mm} {l0 : Option Nat} {l1 : Int32} {l2 : Int32} (h : g_X10_readCount M l0 l1 l2 = some ans) : Wt G X j_X10_readCount b_X10_readCount 0 [(0, rf G.1 l0), (1, .int l1), (2, .int l2)] [] M 0 0 := by
  unfold g_X10_readCount at h
  refine wt_aload_n (pc := 0) 0 dX10_readCount_0 rfl ?_
  refine wt_getR (pc := 1) dX10_readCount_1 fl_X10_15 (fun _ _ _ => rfl) h (fun v1 h => ?_)
  refine wt_iconst (pc := 4) (v := 1) dX10_readCount_4 (by decide) ?_
  refine wt_iload_n (pc := 5) 2 dX10_readCount_5 rfl ?_
  refine wt_cVI (pc := 6) (J' := j_X6_takeNumber) (As := [.int 1, .int l2]) (st := []) (B' := b_X6_takeNumber) (u' := 0) (w' := 0) dX10_readCount_6 ml_X10_104 mv_X6_takeNumber (fun v9 M9 e9 => c_X6_takeNumber e9) rfl (by decide) rfl rfl (by decide) (by decide) (by decide) rfl h (fun v6 M6 h => ?_)
  refine wt_istore_n (pc := 9) (i := 3) (ls' := [(3, .int v6), (0, rf G.1 l0), (1, .int l1), (2, .int l2)]) rfl dX10_readCount_9 (by decide) rfl ?_
  refine wt_aload_n (pc := 10) 1 dX10_readCount_10 rfl ?_
  refine wt_getR (pc := 11) dX10_readCount_11 fl_X10_23 (fun _ _ _ => rfl) h (fun v11 h => ?_)
  refine wt_getR (pc := 14) dX10_readCount_14 fl_X10_88 (fun _ _ _ => rfl) h (fun v14 h => ?_)
  refine wt_iload_n (pc := 17) 2 dX10_readCount_17 rfl ?_
  refine wt_aload_n (pc := 18) 1 dX10_readCount_18 rfl ?_
  refine wt_getR (pc := 19) dX10_readCount_19 fl_X10_15 (fun _ _ _ => rfl) h (fun v19 h => ?_)
  refine wt_getI (pc := 22) dX10_readCount_22 fl_X10_107 (fun _ _ _ => rfl) h (fun v22 h => ?_)
  refine wt_iastore (pc := 25) (kd := 21) dX10_readCount_25 rfl rfl h (fun M25 h => ?_)
  refine wt_iload_n (pc := 26) 0 dX10_readCount_26 rfl ?_
  cases h
  exact he 27 _ _ _ dX10_readCount_27 (by decide) (by decide)
set_option maxHeartbeats 4000000 in
set_option maxRecDepth 100000 in
theorem c_X10_readCount {G : GG} {M : Mm} {l0 : Option Nat} {l1 : Int32} {l2 : Int32} {r : Int32 × Mm} (h : f_X10_readCount M l0 l1 l2 = some r) (l : Launch) : Ct l G j_X10_readCount b_X10_readCount [rf G.1 l0, .int l1, .int l2] M (some (.int r.1)) r.2 := cf_Z h (by decide +kernel) (by simp [lg_sl, rf_cat, cat_i, cat_l, j_X10_readCount]) rfl (by simp [lv_args, rf_cat, cat_i, cat_l]) (fun h X he => t_X10_readCount_e he h)
def f_X10_readTest_30 (M : Mm) (l0 : Option Nat) (l1 : Int32) : Option (Int32 × Mm) := gfR M l0 10 0 fun v31 => ck M v31 6 <| bv (f_X6_step M v31) fun M34 => gfR M34 l0 10 2 fun v38 => gfR M34 v38 9 4 fun v41 => gfR M34 l0 10 0 fun v46 => gfR M34 l0 10 1 fun v50 => ck M34 v46 6 <| bd (f_X6_takeNamed M34 v46 v50 0) fun v54 M54 => asI M54 v41 21 l1 v54 fun M57 => gfR M57 l0 10 2 fun v59 => gfR M57 v59 9 4 fun v62 => alI M57 v62 21 l1 fun v66 => if v66 = (-1) then (some (0, M57)) else (some (1, M57))
def f_X10_readTest_113 (M : Mm) (l0 : Option Nat) : Option (Int32 × Mm) := gfR M l0 10 0 fun v114 => ck M v114 6 <| bd (f_X6_fail M v114 2) fun v118 M118 => some (v118, M118)
def g_X10_readTest (M : Mm) (l0 : Option Nat) (l1 : Int32) : Option (Int32 × Mm) := gfR M l0 10 0 fun v1 => gfI M v1 6 7 fun v4 => gfR M l0 10 2 fun v9 => gfR M v9 9 5 fun v12 => asI M v12 21 l1 v4 fun M17 => if v4 = 25 then (f_X10_readTest_30  M17 l0 l1) else (if v4 = 26 then (f_X10_readTest_30  M17 l0 l1) else (gfR M17 l0 10 0 fun v78 => ck M17 v78 6 <| bd (f_X6_takeWord M17 v78 2) fun v82 M82 => if v82 = 0 then (some (0, M82)) else (gfR M82 l0 10 0 fun v91 => gfI M82 v91 6 5 fun v94 => if v94 = 4 then (gfR M82 l0 10 0 fun v102 => gfI M82 v102 6 10 fun v105 => if v105 = 59 then (f_X10_readTest_113  M82 l0) else (gfR M82 l0 10 2 fun v123 => gfR M82 v123 9 6 fun v126 => gfR M82 l0 10 0 fun v131 => gfI M82 v131 6 10 fun v134 => asI M82 v126 21 l1 v134 fun M137 => gfR M137 l0 10 0 fun v139 => ck M137 v139 6 <| bv (f_X6_step M137 v139) fun M142 => gfR M142 l0 10 0 fun v146 => ck M142 v146 6 <| bd (f_X6_takeNumber M142 v146 0 9999) fun v153 M153 => gfR M153 l0 10 2 fun v158 => gfR M153 v158 9 4 fun v161 => gfR M153 l0 10 0 fun v166 => gfI M153 v166 6 11 fun v169 => asI M153 v161 21 l1 v169 fun M172 => some (v153, M172))) else (f_X10_readTest_113  M82 l0))))
def f_X10_readTest (M : Mm) (l0 : Option Nat) (l1 : Int32) : Option (Int32 × Mm) := zc (g_X10_readTest M l0 l1)
set_option maxHeartbeats 4000000 in
set_option maxRecDepth 100000 in
theorem t_X10_readTest_30 {G : GG} {X : CX} {ans : Int32 × Mm} (he : EndI G X j_X10_readTest b_X10_readTest ans) {M : Mm} {l0 : Option Nat} {l1 : Int32} (h : f_X10_readTest_30 M l0 l1 = some ans) : Wt G X j_X10_readTest b_X10_readTest 30 [(0, rf G.1 l0), (1, .int l1)] [] M 0 0 := by
  unfold f_X10_readTest_30 at h
  refine wt_aload_n (pc := 30) 0 dX10_readTest_30 rfl ?_
  refine wt_getR (pc := 31) dX10_readTest_31 fl_X10_15 (fun _ _ _ => rfl) h (fun v31 h => ?_)
  refine wt_cVV (pc := 34) (J' := j_X6_step) (As := []) (st := []) (B' := b_X6_step) (u' := 0) (w' := 0) dX10_readTest_34 ml_X10_75 mv_X6_step (fun M9 e9 => c_X6_step e9) rfl (by decide) rfl rfl (by decide) (by decide) (by decide) rfl h (fun M34 h => ?_)
  refine wt_aload_n (pc := 37) 0 dX10_readTest_37 rfl ?_
  refine wt_getR (pc := 38) dX10_readTest_38 fl_X10_23 (fun _ _ _ => rfl) h (fun v38 h => ?_)
  refine wt_getR (pc := 41) dX10_readTest_41 fl_X10_88 (fun _ _ _ => rfl) h (fun v41 h => ?_)
  refine wt_iload_n (pc := 44) 1 dX10_readTest_44 rfl ?_
  refine wt_aload_n (pc := 45) 0 dX10_readTest_45 rfl ?_
  refine wt_getR (pc := 46) dX10_readTest_46 fl_X10_15 (fun _ _ _ => rfl) h (fun v46 h => ?_)
  refine wt_aload_n (pc := 49) 0 dX10_readTest_49 rfl ?_
  refine wt_getR (pc := 50) dX10_readTest_50 fl_X10_19 (fun _ _ _ => rfl) h (fun v50 h => ?_)
  refine wt_iconst (pc := 53) (v := 0) dX10_readTest_53 (by decide) ?_
  refine wt_cVI (pc := 54) (J' := j_X6_takeNamed) (As := [rf G.1 v50, .int 0]) (st := [.int l1, rf G.1 v41]) (B' := b_X6_takeNamed) (u' := 0) (w' := 0) dX10_readTest_54 ml_X10_91 mv_X6_takeNamed (fun v9 M9 e9 => c_X6_takeNamed e9) rfl (by decide) rfl rfl (by decide) (by decide) (by simp [rf_cat, cat_i, cat_l, cat_r]) rfl h (fun v54 M54 h => ?_)
  refine wt_iastore (pc := 57) (kd := 21) dX10_readTest_57 rfl rfl h (fun M57 h => ?_)
  refine wt_aload_n (pc := 58) 0 dX10_readTest_58 rfl ?_
  refine wt_getR (pc := 59) dX10_readTest_59 fl_X10_23 (fun _ _ _ => rfl) h (fun v59 h => ?_)
  refine wt_getR (pc := 62) dX10_readTest_62 fl_X10_88 (fun _ _ _ => rfl) h (fun v62 h => ?_)
  refine wt_iload_n (pc := 65) 1 dX10_readTest_65 rfl ?_
  refine wt_iaload (pc := 66) (kd := 21) dX10_readTest_66 rfl rfl h (fun v66 h => ?_)
  refine wt_iconst (pc := 67) (v := (-1)) dX10_readTest_67 (by decide) ?_
  refine wt_icmp_eq (pc := 68) (tgt := 75) dX10_readTest_68 (by decide) (fun q => ?_) (fun q => ?_)
  · have h := ite_t q h
    refine wt_iconst (pc := 75) (v := 0) dX10_readTest_75 (by decide) ?_
    cases h
    exact he 76 _ _ _ dX10_readTest_76 (by decide) (by decide)
  · have h := ite_f q h
    refine wt_iconst (pc := 71) (v := 1) dX10_readTest_71 (by decide) ?_
    refine wt_goto (pc := 72) (tgt := 76) dX10_readTest_72 (by decide) ?_
    cases h
    exact he 76 _ _ _ dX10_readTest_76 (by decide) (by decide)
set_option maxHeartbeats 4000000 in
set_option maxRecDepth 100000 in
theorem t_X10_readTest_113 {G : GG} {X : CX} {ans : Int32 × Mm} (he : EndI G X j_X10_readTest b_X10_readTest ans) {M : Mm} {l0 : Option Nat} (h : f_X10_readTest_113 M l0 = some ans) : Wt G X j_X10_readTest b_X10_readTest 113 [(0, rf G.1 l0)] [] M 0 0 := by
  unfold f_X10_readTest_113 at h
  refine wt_aload_n (pc := 113) 0 dX10_readTest_113 rfl ?_
  refine wt_getR (pc := 114) dX10_readTest_114 fl_X10_15 (fun _ _ _ => rfl) h (fun v114 h => ?_)
  refine wt_iconst (pc := 117) (v := 2) dX10_readTest_117 (by decide) ?_
  refine wt_cVI (pc := 118) (J' := j_X6_fail) (As := [.int 2]) (st := []) (B' := b_X6_fail) (u' := 0) (w' := 0) dX10_readTest_118 ml_X10_59 mv_X6_fail (fun v9 M9 e9 => c_X6_fail e9) rfl (by decide) rfl rfl (by decide) (by decide) (by decide) rfl h (fun v118 M118 h => ?_)
  cases h
  exact he 121 _ _ _ dX10_readTest_121 (by decide) (by decide)
set_option maxHeartbeats 4000000 in
set_option maxRecDepth 100000 in
theorem t_X10_readTest_e {G : GG} {X : CX} {ans : Int32 × Mm} (he : EndI G X j_X10_readTest b_X10_readTest ans) {M : Mm} {l0 : Option Nat} {l1 : Int32} (h : g_X10_readTest M l0 l1 = some ans) : Wt G X j_X10_readTest b_X10_readTest 0 [(0, rf G.1 l0), (1, .int l1)] [] M 0 0 := by
  unfold g_X10_readTest at h
  refine wt_aload_n (pc := 0) 0 dX10_readTest_0 rfl ?_
  refine wt_getR (pc := 1) dX10_readTest_1 fl_X10_15 (fun _ _ _ => rfl) h (fun v1 h => ?_)
  refine wt_getI (pc := 4) dX10_readTest_4 fl_X10_63 (fun _ _ _ => rfl) h (fun v4 h => ?_)
  refine wt_istore_n (pc := 7) (i := 2) (ls' := [(2, .int v4), (0, rf G.1 l0), (1, .int l1)]) rfl dX10_readTest_7 (by decide) rfl ?_
  refine wt_aload_n (pc := 8) 1 dX10_readTest_8 rfl ?_
  refine wt_getR (pc := 9) dX10_readTest_9 fl_X10_23 (fun _ _ _ => rfl) h (fun v9 h => ?_)
  refine wt_getR (pc := 12) dX10_readTest_12 fl_X10_98 (fun _ _ _ => rfl) h (fun v12 h => ?_)
  refine wt_iload_n (pc := 15) 2 dX10_readTest_15 rfl ?_
  refine wt_iload_n (pc := 16) 0 dX10_readTest_16 rfl ?_
  refine wt_iastore (pc := 17) (kd := 21) dX10_readTest_17 rfl rfl h (fun M17 h => ?_)
  refine wt_iload_n (pc := 18) 0 dX10_readTest_18 rfl ?_
  refine wt_bipush (pc := 19) (v := 25) dX10_readTest_19 (by decide) ?_
  refine wt_icmp_eq (pc := 21) (tgt := 30) dX10_readTest_21 (by decide) (fun q => ?_) (fun q => ?_)
  · have h := ite_t q h
    refine wt_sub (ls' := [(0, rf G.1 l0), (1, .int l1)]) [1, 2] rfl ?_
    exact t_X10_readTest_30 he  h
  · have h := ite_f q h
    refine wt_iload_n (pc := 24) 0 dX10_readTest_24 rfl ?_
    refine wt_bipush (pc := 25) (v := 26) dX10_readTest_25 (by decide) ?_
    refine wt_icmp_ne (pc := 27) (tgt := 77) dX10_readTest_27 (by decide) (fun q => ?_) (fun q => ?_)
    · have h := ite_f q h
      refine wt_aload_n (pc := 77) 1 dX10_readTest_77 rfl ?_
      refine wt_getR (pc := 78) dX10_readTest_78 fl_X10_15 (fun _ _ _ => rfl) h (fun v78 h => ?_)
      refine wt_iconst (pc := 81) (v := 2) dX10_readTest_81 (by decide) ?_
      refine wt_cVI (pc := 82) (J' := j_X6_takeWord) (As := [.int 2]) (st := []) (B' := b_X6_takeWord) (u' := 0) (w' := 0) dX10_readTest_82 ml_X10_95 mv_X6_takeWord (fun v9 M9 e9 => c_X6_takeWord e9) rfl (by decide) rfl rfl (by decide) (by decide) (by decide) rfl h (fun v82 M82 h => ?_)
      refine wt_if_ne (pc := 85) (tgt := 90) dX10_readTest_85 (by decide) (fun q => ?_) (fun q => ?_)
      · have h := ite_f q h
        refine wt_aload_n (pc := 90) 1 dX10_readTest_90 rfl ?_
        refine wt_getR (pc := 91) dX10_readTest_91 fl_X10_15 (fun _ _ _ => rfl) h (fun v91 h => ?_)
        refine wt_getI (pc := 94) dX10_readTest_94 fl_X10_38 (fun _ _ _ => rfl) h (fun v94 h => ?_)
        refine wt_iconst (pc := 97) (v := 4) dX10_readTest_97 (by decide) ?_
        refine wt_icmp_ne (pc := 98) (tgt := 113) dX10_readTest_98 (by decide) (fun q => ?_) (fun q => ?_)
        · have h := ite_f q h
          refine wt_sub (ls' := [(0, rf G.1 l0)]) [1] rfl ?_
          exact t_X10_readTest_113 he  h
        · have h := ite_t q h
          refine wt_aload_n (pc := 101) 1 dX10_readTest_101 rfl ?_
          refine wt_getR (pc := 102) dX10_readTest_102 fl_X10_15 (fun _ _ _ => rfl) h (fun v102 h => ?_)
          refine wt_getI (pc := 105) dX10_readTest_105 fl_X10_110 (fun _ _ _ => rfl) h (fun v105 h => ?_)
          refine wt_bipush (pc := 108) (v := 59) dX10_readTest_108 (by decide) ?_
          refine wt_icmp_ne (pc := 110) (tgt := 122) dX10_readTest_110 (by decide) (fun q => ?_) (fun q => ?_)
          · have h := ite_f q h
            refine wt_aload_n (pc := 122) 1 dX10_readTest_122 rfl ?_
            refine wt_getR (pc := 123) dX10_readTest_123 fl_X10_23 (fun _ _ _ => rfl) h (fun v123 h => ?_)
            refine wt_getR (pc := 126) dX10_readTest_126 fl_X10_114 (fun _ _ _ => rfl) h (fun v126 h => ?_)
            refine wt_iload_n (pc := 129) 2 dX10_readTest_129 rfl ?_
            refine wt_aload_n (pc := 130) 1 dX10_readTest_130 rfl ?_
            refine wt_getR (pc := 131) dX10_readTest_131 fl_X10_15 (fun _ _ _ => rfl) h (fun v131 h => ?_)
            refine wt_getI (pc := 134) dX10_readTest_134 fl_X10_110 (fun _ _ _ => rfl) h (fun v134 h => ?_)
            refine wt_iastore (pc := 137) (kd := 21) dX10_readTest_137 rfl rfl h (fun M137 h => ?_)
            refine wt_aload_n (pc := 138) 1 dX10_readTest_138 rfl ?_
            refine wt_getR (pc := 139) dX10_readTest_139 fl_X10_15 (fun _ _ _ => rfl) h (fun v139 h => ?_)
            refine wt_cVV (pc := 142) (J' := j_X6_step) (As := []) (st := []) (B' := b_X6_step) (u' := 0) (w' := 0) dX10_readTest_142 ml_X10_75 mv_X6_step (fun M9 e9 => c_X6_step e9) rfl (by decide) rfl rfl (by decide) (by decide) (by decide) rfl h (fun M142 h => ?_)
            refine wt_aload_n (pc := 145) 1 dX10_readTest_145 rfl ?_
            refine wt_getR (pc := 146) dX10_readTest_146 fl_X10_15 (fun _ _ _ => rfl) h (fun v146 h => ?_)
            refine wt_iconst (pc := 149) (v := 0) dX10_readTest_149 (by decide) ?_
            refine wt_sipush (pc := 150) (v := 9999) dX10_readTest_150 (by decide) ?_
            refine wt_cVI (pc := 153) (J' := j_X6_takeNumber) (As := [.int 0, .int 9999]) (st := []) (B' := b_X6_takeNumber) (u' := 0) (w' := 0) dX10_readTest_153 ml_X10_104 mv_X6_takeNumber (fun v9 M9 e9 => c_X6_takeNumber e9) rfl (by decide) rfl rfl (by decide) (by decide) (by decide) rfl h (fun v153 M153 h => ?_)
            refine wt_istore_n (pc := 156) (i := 3) (ls' := [(3, .int v153), (2, .int v4), (0, rf G.1 l0), (1, .int l1)]) rfl dX10_readTest_156 (by decide) rfl ?_
            refine wt_aload_n (pc := 157) 2 dX10_readTest_157 rfl ?_
            refine wt_getR (pc := 158) dX10_readTest_158 fl_X10_23 (fun _ _ _ => rfl) h (fun v158 h => ?_)
            refine wt_getR (pc := 161) dX10_readTest_161 fl_X10_88 (fun _ _ _ => rfl) h (fun v161 h => ?_)
            refine wt_iload_n (pc := 164) 3 dX10_readTest_164 rfl ?_
            refine wt_aload_n (pc := 165) 2 dX10_readTest_165 rfl ?_
            refine wt_getR (pc := 166) dX10_readTest_166 fl_X10_15 (fun _ _ _ => rfl) h (fun v166 h => ?_)
            refine wt_getI (pc := 169) dX10_readTest_169 fl_X10_107 (fun _ _ _ => rfl) h (fun v169 h => ?_)
            refine wt_iastore (pc := 172) (kd := 21) dX10_readTest_172 rfl rfl h (fun M172 h => ?_)
            refine wt_iload_n (pc := 173) 0 dX10_readTest_173 rfl ?_
            cases h
            exact he 174 _ _ _ dX10_readTest_174 (by decide) (by decide)
          · have h := ite_t q h
            refine wt_sub (ls' := [(0, rf G.1 l0)]) [1] rfl ?_
            exact t_X10_readTest_113 he  h
      · have h := ite_t q h
        refine wt_iconst (pc := 88) (v := 0) dX10_readTest_88 (by decide) ?_
        cases h
        exact he 89 _ _ _ dX10_readTest_89 (by decide) (by decide)
    · have h := ite_t q h
      refine wt_sub (ls' := [(0, rf G.1 l0), (1, .int l1)]) [1, 2] rfl ?_
      exact t_X10_readTest_30 he  h
set_option maxHeartbeats 4000000 in
set_option maxRecDepth 100000 in
theorem c_X10_readTest {G : GG} {M : Mm} {l0 : Option Nat} {l1 : Int32} {r : Int32 × Mm} (h : f_X10_readTest M l0 l1 = some r) (l : Launch) : Ct l G j_X10_readTest b_X10_readTest [rf G.1 l0, .int l1] M (some (.int r.1)) r.2 := cf_Z h (by decide +kernel) (by simp [lg_sl, rf_cat, cat_i, cat_l, j_X10_readTest]) rfl (by simp [lv_args, rf_cat, cat_i, cat_l]) (fun h X he => t_X10_readTest_e he h)
def g_X10_readRest (M : Mm) (l0 : Option Nat) (l1 : Int32) (l2 : Int32) : Option (Int32 × Mm) := if l1 = 18 then (ck M l0 10 <| bd (f_X10_readCount M l0 l2 240) fun v61 M61 => some (v61, M61)) else if l1 = 19 then (some (1, M)) else if l1 = 20 then (some (1, M)) else if l1 = 21 then (gfR M l0 10 2 fun v163 => gfR M v163 9 5 fun v166 => gfR M l0 10 0 fun v171 => gfR M l0 10 1 fun v175 => ck M v171 6 <| bd (f_X6_takeNamed M v171 v175 7) fun v180 M180 => asI M180 v166 21 l2 v180 fun M183 => gfR M183 l0 10 2 fun v185 => gfR M183 v185 9 5 fun v188 => alI M183 v188 21 l2 fun v192 => if v192 = (-1) then (some (0, M183)) else (some (1, M183))) else if l1 = 22 then (gfR M l0 10 2 fun v74 => gfR M v74 9 4 fun v77 => gfR M l0 10 0 fun v82 => gfR M l0 10 1 fun v86 => ck M v82 6 <| bd (f_X6_takeNamed M v82 v86 0) fun v90 M90 => asI M90 v77 21 l2 v90 fun M93 => gfR M93 l0 10 2 fun v95 => gfR M93 v95 9 4 fun v98 => alI M93 v98 21 l2 fun v102 => if v102 = (-1) then (some (0, M93)) else (gfR M93 l0 10 0 fun v108 => ck M93 v108 6 <| bd (f_X6_takeWord M93 v108 23) fun v113 M113 => if v113 = 0 then (some (0, M113)) else (gfR M113 l0 10 2 fun v122 => gfR M113 v122 9 5 fun v125 => gfR M113 l0 10 0 fun v130 => gfR M113 l0 10 1 fun v134 => ck M113 v130 6 <| bd (f_X6_takeNamed M113 v130 v134 7) fun v139 M139 => asI M139 v125 21 l2 v139 fun M142 => gfR M142 l0 10 2 fun v144 => gfR M142 v144 9 5 fun v147 => alI M142 v147 21 l2 fun v151 => if v151 = (-1) then (some (0, M142)) else (some (1, M142))))) else if l1 = 23 then (some (1, M)) else if l1 = 24 then (ck M l0 10 <| bd (f_X10_readTest M l0 l2) fun v205 M205 => some (v205, M205)) else if l1 = 25 then (some (1, M)) else if l1 = 26 then (some (1, M)) else if l1 = 27 then (ck M l0 10 <| bd (f_X10_readCount M l0 l2 99) fun v69 M69 => some (v69, M69)) else (some (1, M))
def f_X10_readRest (M : Mm) (l0 : Option Nat) (l1 : Int32) (l2 : Int32) : Option (Int32 × Mm) := zc (g_X10_readRest M l0 l1 l2)
set_option maxHeartbeats 4000000 in
set_option maxRecDepth 100000 in
theorem t_X10_readRest_e {G : GG} {X : CX} {ans : Int32 × Mm} (he : EndI G X j_X10_readRest b_X10_readRest ans) {M : Mm} {l0 : Option Nat} {l1 : Int32} {l2 : Int32} (h : g_X10_readRest M l0 l1 l2 = some ans) : Wt G X j_X10_readRest b_X10_readRest 0 [(0, rf G.1 l0), (1, .int l1), (2, .int l2)] [] M 0 0 := by
  unfold g_X10_readRest at h
  refine wt_iload_n (pc := 0) 1 dX10_readRest_0 rfl ?_
  rcases Decidable.em (l1 = 18) with q1_0 | q1_0
  · have h := ite_t q1_0 h
    refine wt_tableIn (pc := 1) (off := 55) (tgt := 56) q1_0 dX10_readRest_1 (by decide) (by decide) (by decide) (by decide) ?_
    refine wt_aload_n (pc := 56) 0 dX10_readRest_56 rfl ?_
    refine wt_iload_n (pc := 57) 2 dX10_readRest_57 rfl ?_
    refine wt_sipush (pc := 58) (v := 240) dX10_readRest_58 (by decide) ?_
    refine wt_cVI (pc := 61) (J' := j_X10_readCount) (As := [.int l2, .int 240]) (st := []) (B' := b_X10_readCount) (u' := 0) (w' := 0) dX10_readRest_61 ml_X10_85 mv_X10_readCount (fun v9 M9 e9 => c_X10_readCount e9) rfl (by decide) rfl rfl (by decide) (by decide) (by decide) rfl h (fun v61 M61 h => ?_)
    cases h
    exact he 64 _ _ _ dX10_readRest_64 (by decide) (by decide)
  have h := ite_f q1_0 h
  rcases Decidable.em (l1 = 19) with q1_1 | q1_1
  · have h := ite_t q1_1 h
    refine wt_tableIn (pc := 1) (off := 208) (tgt := 209) q1_1 dX10_readRest_1 (by decide) (by decide) (by decide) (by decide) ?_
    refine wt_iconst (pc := 209) (v := 1) dX10_readRest_209 (by decide) ?_
    cases h
    exact he 210 _ _ _ dX10_readRest_210 (by decide) (by decide)
  have h := ite_f q1_1 h
  rcases Decidable.em (l1 = 20) with q1_2 | q1_2
  · have h := ite_t q1_2 h
    refine wt_tableIn (pc := 1) (off := 208) (tgt := 209) q1_2 dX10_readRest_1 (by decide) (by decide) (by decide) (by decide) ?_
    refine wt_iconst (pc := 209) (v := 1) dX10_readRest_209 (by decide) ?_
    cases h
    exact he 210 _ _ _ dX10_readRest_210 (by decide) (by decide)
  have h := ite_f q1_2 h
  rcases Decidable.em (l1 = 21) with q1_3 | q1_3
  · have h := ite_t q1_3 h
    refine wt_tableIn (pc := 1) (off := 161) (tgt := 162) q1_3 dX10_readRest_1 (by decide) (by decide) (by decide) (by decide) ?_
    refine wt_aload_n (pc := 162) 0 dX10_readRest_162 rfl ?_
    refine wt_getR (pc := 163) dX10_readRest_163 fl_X10_23 (fun _ _ _ => rfl) h (fun v163 h => ?_)
    refine wt_getR (pc := 166) dX10_readRest_166 fl_X10_98 (fun _ _ _ => rfl) h (fun v166 h => ?_)
    refine wt_iload_n (pc := 169) 2 dX10_readRest_169 rfl ?_
    refine wt_aload_n (pc := 170) 0 dX10_readRest_170 rfl ?_
    refine wt_getR (pc := 171) dX10_readRest_171 fl_X10_15 (fun _ _ _ => rfl) h (fun v171 h => ?_)
    refine wt_aload_n (pc := 174) 0 dX10_readRest_174 rfl ?_
    refine wt_getR (pc := 175) dX10_readRest_175 fl_X10_19 (fun _ _ _ => rfl) h (fun v175 h => ?_)
    refine wt_bipush (pc := 178) (v := 7) dX10_readRest_178 (by decide) ?_
    refine wt_cVI (pc := 180) (J' := j_X6_takeNamed) (As := [rf G.1 v175, .int 7]) (st := [.int l2, rf G.1 v166]) (B' := b_X6_takeNamed) (u' := 0) (w' := 0) dX10_readRest_180 ml_X10_91 mv_X6_takeNamed (fun v9 M9 e9 => c_X6_takeNamed e9) rfl (by decide) rfl rfl (by decide) (by decide) (by simp [rf_cat, cat_i, cat_l, cat_r]) rfl h (fun v180 M180 h => ?_)
    refine wt_iastore (pc := 183) (kd := 21) dX10_readRest_183 rfl rfl h (fun M183 h => ?_)
    refine wt_aload_n (pc := 184) 0 dX10_readRest_184 rfl ?_
    refine wt_getR (pc := 185) dX10_readRest_185 fl_X10_23 (fun _ _ _ => rfl) h (fun v185 h => ?_)
    refine wt_getR (pc := 188) dX10_readRest_188 fl_X10_98 (fun _ _ _ => rfl) h (fun v188 h => ?_)
    refine wt_iload_n (pc := 191) 2 dX10_readRest_191 rfl ?_
    refine wt_iaload (pc := 192) (kd := 21) dX10_readRest_192 rfl rfl h (fun v192 h => ?_)
    refine wt_iconst (pc := 193) (v := (-1)) dX10_readRest_193 (by decide) ?_
    refine wt_icmp_eq (pc := 194) (tgt := 201) dX10_readRest_194 (by decide) (fun q => ?_) (fun q => ?_)
    · have h := ite_t q h
      refine wt_iconst (pc := 201) (v := 0) dX10_readRest_201 (by decide) ?_
      cases h
      exact he 202 _ _ _ dX10_readRest_202 (by decide) (by decide)
    · have h := ite_f q h
      refine wt_iconst (pc := 197) (v := 1) dX10_readRest_197 (by decide) ?_
      refine wt_goto (pc := 198) (tgt := 202) dX10_readRest_198 (by decide) ?_
      cases h
      exact he 202 _ _ _ dX10_readRest_202 (by decide) (by decide)
  have h := ite_f q1_3 h
  rcases Decidable.em (l1 = 22) with q1_4 | q1_4
  · have h := ite_t q1_4 h
    refine wt_tableIn (pc := 1) (off := 72) (tgt := 73) q1_4 dX10_readRest_1 (by decide) (by decide) (by decide) (by decide) ?_
    refine wt_aload_n (pc := 73) 0 dX10_readRest_73 rfl ?_
    refine wt_getR (pc := 74) dX10_readRest_74 fl_X10_23 (fun _ _ _ => rfl) h (fun v74 h => ?_)
    refine wt_getR (pc := 77) dX10_readRest_77 fl_X10_88 (fun _ _ _ => rfl) h (fun v77 h => ?_)
    refine wt_iload_n (pc := 80) 2 dX10_readRest_80 rfl ?_
    refine wt_aload_n (pc := 81) 0 dX10_readRest_81 rfl ?_
    refine wt_getR (pc := 82) dX10_readRest_82 fl_X10_15 (fun _ _ _ => rfl) h (fun v82 h => ?_)
    refine wt_aload_n (pc := 85) 0 dX10_readRest_85 rfl ?_
    refine wt_getR (pc := 86) dX10_readRest_86 fl_X10_19 (fun _ _ _ => rfl) h (fun v86 h => ?_)
    refine wt_iconst (pc := 89) (v := 0) dX10_readRest_89 (by decide) ?_
    refine wt_cVI (pc := 90) (J' := j_X6_takeNamed) (As := [rf G.1 v86, .int 0]) (st := [.int l2, rf G.1 v77]) (B' := b_X6_takeNamed) (u' := 0) (w' := 0) dX10_readRest_90 ml_X10_91 mv_X6_takeNamed (fun v9 M9 e9 => c_X6_takeNamed e9) rfl (by decide) rfl rfl (by decide) (by decide) (by simp [rf_cat, cat_i, cat_l, cat_r]) rfl h (fun v90 M90 h => ?_)
    refine wt_iastore (pc := 93) (kd := 21) dX10_readRest_93 rfl rfl h (fun M93 h => ?_)
    refine wt_aload_n (pc := 94) 0 dX10_readRest_94 rfl ?_
    refine wt_getR (pc := 95) dX10_readRest_95 fl_X10_23 (fun _ _ _ => rfl) h (fun v95 h => ?_)
    refine wt_getR (pc := 98) dX10_readRest_98 fl_X10_88 (fun _ _ _ => rfl) h (fun v98 h => ?_)
    refine wt_iload_n (pc := 101) 2 dX10_readRest_101 rfl ?_
    refine wt_iaload (pc := 102) (kd := 21) dX10_readRest_102 rfl rfl h (fun v102 h => ?_)
    refine wt_iconst (pc := 103) (v := (-1)) dX10_readRest_103 (by decide) ?_
    refine wt_icmp_eq (pc := 104) (tgt := 119) dX10_readRest_104 (by decide) (fun q => ?_) (fun q => ?_)
    · have h := ite_t q h
      refine wt_iconst (pc := 119) (v := 0) dX10_readRest_119 (by decide) ?_
      cases h
      exact he 120 _ _ _ dX10_readRest_120 (by decide) (by decide)
    · have h := ite_f q h
      refine wt_aload_n (pc := 107) 0 dX10_readRest_107 rfl ?_
      refine wt_getR (pc := 108) dX10_readRest_108 fl_X10_15 (fun _ _ _ => rfl) h (fun v108 h => ?_)
      refine wt_bipush (pc := 111) (v := 23) dX10_readRest_111 (by decide) ?_
      refine wt_cVI (pc := 113) (J' := j_X6_takeWord) (As := [.int 23]) (st := []) (B' := b_X6_takeWord) (u' := 0) (w' := 0) dX10_readRest_113 ml_X10_95 mv_X6_takeWord (fun v9 M9 e9 => c_X6_takeWord e9) rfl (by decide) rfl rfl (by decide) (by decide) (by decide) rfl h (fun v113 M113 h => ?_)
      refine wt_if_ne (pc := 116) (tgt := 121) dX10_readRest_116 (by decide) (fun q => ?_) (fun q => ?_)
      · have h := ite_f q h
        refine wt_aload_n (pc := 121) 0 dX10_readRest_121 rfl ?_
        refine wt_getR (pc := 122) dX10_readRest_122 fl_X10_23 (fun _ _ _ => rfl) h (fun v122 h => ?_)
        refine wt_getR (pc := 125) dX10_readRest_125 fl_X10_98 (fun _ _ _ => rfl) h (fun v125 h => ?_)
        refine wt_iload_n (pc := 128) 2 dX10_readRest_128 rfl ?_
        refine wt_aload_n (pc := 129) 0 dX10_readRest_129 rfl ?_
        refine wt_getR (pc := 130) dX10_readRest_130 fl_X10_15 (fun _ _ _ => rfl) h (fun v130 h => ?_)
        refine wt_aload_n (pc := 133) 0 dX10_readRest_133 rfl ?_
        refine wt_getR (pc := 134) dX10_readRest_134 fl_X10_19 (fun _ _ _ => rfl) h (fun v134 h => ?_)
        refine wt_bipush (pc := 137) (v := 7) dX10_readRest_137 (by decide) ?_
        refine wt_cVI (pc := 139) (J' := j_X6_takeNamed) (As := [rf G.1 v134, .int 7]) (st := [.int l2, rf G.1 v125]) (B' := b_X6_takeNamed) (u' := 0) (w' := 0) dX10_readRest_139 ml_X10_91 mv_X6_takeNamed (fun v9 M9 e9 => c_X6_takeNamed e9) rfl (by decide) rfl rfl (by decide) (by decide) (by simp [rf_cat, cat_i, cat_l, cat_r]) rfl h (fun v139 M139 h => ?_)
        refine wt_iastore (pc := 142) (kd := 21) dX10_readRest_142 rfl rfl h (fun M142 h => ?_)
        refine wt_aload_n (pc := 143) 0 dX10_readRest_143 rfl ?_
        refine wt_getR (pc := 144) dX10_readRest_144 fl_X10_23 (fun _ _ _ => rfl) h (fun v144 h => ?_)
        refine wt_getR (pc := 147) dX10_readRest_147 fl_X10_98 (fun _ _ _ => rfl) h (fun v147 h => ?_)
        refine wt_iload_n (pc := 150) 2 dX10_readRest_150 rfl ?_
        refine wt_iaload (pc := 151) (kd := 21) dX10_readRest_151 rfl rfl h (fun v151 h => ?_)
        refine wt_iconst (pc := 152) (v := (-1)) dX10_readRest_152 (by decide) ?_
        refine wt_icmp_eq (pc := 153) (tgt := 160) dX10_readRest_153 (by decide) (fun q => ?_) (fun q => ?_)
        · have h := ite_t q h
          refine wt_iconst (pc := 160) (v := 0) dX10_readRest_160 (by decide) ?_
          cases h
          exact he 161 _ _ _ dX10_readRest_161 (by decide) (by decide)
        · have h := ite_f q h
          refine wt_iconst (pc := 156) (v := 1) dX10_readRest_156 (by decide) ?_
          refine wt_goto (pc := 157) (tgt := 161) dX10_readRest_157 (by decide) ?_
          cases h
          exact he 161 _ _ _ dX10_readRest_161 (by decide) (by decide)
      · have h := ite_t q h
        refine wt_iconst (pc := 119) (v := 0) dX10_readRest_119 (by decide) ?_
        cases h
        exact he 120 _ _ _ dX10_readRest_120 (by decide) (by decide)
  have h := ite_f q1_4 h
  rcases Decidable.em (l1 = 23) with q1_5 | q1_5
  · have h := ite_t q1_5 h
    refine wt_tableIn (pc := 1) (off := 208) (tgt := 209) q1_5 dX10_readRest_1 (by decide) (by decide) (by decide) (by decide) ?_
    refine wt_iconst (pc := 209) (v := 1) dX10_readRest_209 (by decide) ?_
    cases h
    exact he 210 _ _ _ dX10_readRest_210 (by decide) (by decide)
  have h := ite_f q1_5 h
  rcases Decidable.em (l1 = 24) with q1_6 | q1_6
  · have h := ite_t q1_6 h
    refine wt_tableIn (pc := 1) (off := 202) (tgt := 203) q1_6 dX10_readRest_1 (by decide) (by decide) (by decide) (by decide) ?_
    refine wt_aload_n (pc := 203) 0 dX10_readRest_203 rfl ?_
    refine wt_iload_n (pc := 204) 2 dX10_readRest_204 rfl ?_
    refine wt_cVI (pc := 205) (J' := j_X10_readTest) (As := [.int l2]) (st := []) (B' := b_X10_readTest) (u' := 0) (w' := 0) dX10_readRest_205 ml_X10_101 mv_X10_readTest (fun v9 M9 e9 => c_X10_readTest e9) rfl (by decide) rfl rfl (by decide) (by decide) (by decide) rfl h (fun v205 M205 h => ?_)
    cases h
    exact he 208 _ _ _ dX10_readRest_208 (by decide) (by decide)
  have h := ite_f q1_6 h
  rcases Decidable.em (l1 = 25) with q1_7 | q1_7
  · have h := ite_t q1_7 h
    refine wt_tableIn (pc := 1) (off := 208) (tgt := 209) q1_7 dX10_readRest_1 (by decide) (by decide) (by decide) (by decide) ?_
    refine wt_iconst (pc := 209) (v := 1) dX10_readRest_209 (by decide) ?_
    cases h
    exact he 210 _ _ _ dX10_readRest_210 (by decide) (by decide)
  have h := ite_f q1_7 h
  rcases Decidable.em (l1 = 26) with q1_8 | q1_8
  · have h := ite_t q1_8 h
    refine wt_tableIn (pc := 1) (off := 208) (tgt := 209) q1_8 dX10_readRest_1 (by decide) (by decide) (by decide) (by decide) ?_
    refine wt_iconst (pc := 209) (v := 1) dX10_readRest_209 (by decide) ?_
    cases h
    exact he 210 _ _ _ dX10_readRest_210 (by decide) (by decide)
  have h := ite_f q1_8 h
  rcases Decidable.em (l1 = 27) with q1_9 | q1_9
  · have h := ite_t q1_9 h
    refine wt_tableIn (pc := 1) (off := 64) (tgt := 65) q1_9 dX10_readRest_1 (by decide) (by decide) (by decide) (by decide) ?_
    refine wt_aload_n (pc := 65) 0 dX10_readRest_65 rfl ?_
    refine wt_iload_n (pc := 66) 2 dX10_readRest_66 rfl ?_
    refine wt_bipush (pc := 67) (v := 99) dX10_readRest_67 (by decide) ?_
    refine wt_cVI (pc := 69) (J' := j_X10_readCount) (As := [.int l2, .int 99]) (st := []) (B' := b_X10_readCount) (u' := 0) (w' := 0) dX10_readRest_69 ml_X10_85 mv_X10_readCount (fun v9 M9 e9 => c_X10_readCount e9) rfl (by decide) rfl rfl (by decide) (by decide) (by decide) rfl h (fun v69 M69 h => ?_)
    cases h
    exact he 72 _ _ _ dX10_readRest_72 (by decide) (by decide)
  have h := ite_f q1_9 h
  refine wt_tableOut (pc := 1) (tgt := 209) dX10_readRest_1 (by have h9 := ts_out (x := l1) 18 10 (fun i hi => by match i, hi with | 0, _ => exact ts_ne (by decide) q1_0 | 1, _ => exact ts_ne (by decide) q1_1 | 2, _ => exact ts_ne (by decide) q1_2 | 3, _ => exact ts_ne (by decide) q1_3 | 4, _ => exact ts_ne (by decide) q1_4 | 5, _ => exact ts_ne (by decide) q1_5 | 6, _ => exact ts_ne (by decide) q1_6 | 7, _ => exact ts_ne (by decide) q1_7 | 8, _ => exact ts_ne (by decide) q1_8 | 9, _ => exact ts_ne (by decide) q1_9 | i + 10, hi => omega); omega) (by decide) ?_
  refine wt_iconst (pc := 209) (v := 1) dX10_readRest_209 (by decide) ?_
  cases h
  exact he 210 _ _ _ dX10_readRest_210 (by decide) (by decide)
set_option maxHeartbeats 4000000 in
set_option maxRecDepth 100000 in
theorem c_X10_readRest {G : GG} {M : Mm} {l0 : Option Nat} {l1 : Int32} {l2 : Int32} {r : Int32 × Mm} (h : f_X10_readRest M l0 l1 l2 = some r) (l : Launch) : Ct l G j_X10_readRest b_X10_readRest [rf G.1 l0, .int l1, .int l2] M (some (.int r.1)) r.2 := cf_Z h (by decide +kernel) (by simp [lg_sl, rf_cat, cat_i, cat_l, j_X10_readRest]) rfl (by simp [lv_args, rf_cat, cat_i, cat_l]) (fun h X he => t_X10_readRest_e he h)
def f_X10_readStepOrEnd_102 (M : Mm) (l0 : Option Nat) : Option (Int32 × Mm) := gfR M l0 10 0 fun v103 => ck M v103 6 <| bd (f_X6_fail M v103 6) fun v108 M108 => some (v108, M108)
def f_X10_readStepOrEnd_193 (M : Mm) (l0 : Option Nat) (l1 : Int32) : Option (Int32 × Mm) := gfR M l0 10 0 fun v194 => ck M v194 6 <| bv (f_X6_step M v194) fun M197 => gfR M197 l0 10 2 fun v203 => gfI M197 v203 9 2 fun v206 => ck M197 l0 10 <| bd (f_X10_readRest M197 l0 l1 v206) fun v209 M209 => some (v209, M209)
def f_X10_readStepOrEnd_134 (M : Mm) (l0 : Option Nat) (l1 : Int32) (l2 : Int32) : Option (Int32 × Mm) := gfR M l0 10 2 fun v135 => gfI M v135 9 1 fun v139 => pfI M v135 9 1 (v139 + 1) fun M144 => gfR M144 l0 10 2 fun v148 => gfR M144 v148 9 3 fun v151 => gfR M144 l0 10 2 fun v155 => gfI M144 v155 9 2 fun v158 => asI M144 v151 21 v158 l1 fun M162 => if l2 = 0 then (f_X10_readStepOrEnd_193  M162 l0 l1) else (gfR M162 l0 10 3 fun v168 => gfI M162 l0 10 4 fun v172 => gfR M162 l0 10 2 fun v176 => gfI M162 v176 9 2 fun v179 => asI M162 v168 21 v172 v179 fun M182 => gfI M182 l0 10 4 fun v185 => pfI M182 l0 10 4 (v185 + 1) fun M190 => f_X10_readStepOrEnd_193  M190 l0 l1)
def f_X10_readStepOrEnd_64 (M : Mm) (l0 : Option Nat) (l1 : Int32) (l2 : Int32) (s0 : Int32) : Option (Int32 × Mm) := if s0 = 0 then (gfR M l0 10 0 fun v70 => ck M v70 6 <| bd (f_X6_fail M v70 2) fun v74 M74 => some (v74, M74)) else (gfR M l0 10 2 fun v79 => gfI M v79 9 1 fun v82 => if 30 ≤ v82 then (f_X10_readStepOrEnd_102  M l0) else (gfR M l0 10 2 fun v91 => gfI M v91 9 2 fun v94 => if v94 < 60 then (if l2 = 0 then (f_X10_readStepOrEnd_134  M l0 l1 l2) else (gfI M l0 10 4 fun v117 => if v117 < 3 then (f_X10_readStepOrEnd_134  M l0 l1 l2) else (gfR M l0 10 0 fun v125 => ck M v125 6 <| bd (f_X6_fail M v125 7) fun v130 M130 => some (v130, M130)))) else (f_X10_readStepOrEnd_102  M l0)))
def f_X10_readStepOrEnd_59 (M : Mm) (l0 : Option Nat) (l1 : Int32) (l2 : Int32) : Option (Int32 × Mm) := f_X10_readStepOrEnd_64  M l0 l1 l2 1
def f_X10_readStepOrEnd_63 (M : Mm) (l0 : Option Nat) (l1 : Int32) (l2 : Int32) : Option (Int32 × Mm) := f_X10_readStepOrEnd_64  M l0 l1 l2 0
def f_X10_readStepOrEnd_36 (M : Mm) (l0 : Option Nat) (l1 : Int32) (s0 : Int32) : Option (Int32 × Mm) := if s0 = 0 then (if l1 = 29 then (f_X10_readStepOrEnd_59  M l0 l1 s0) else (if l1 < 18 then (f_X10_readStepOrEnd_63  M l0 l1 s0) else (if 22 < l1 then (f_X10_readStepOrEnd_63  M l0 l1 s0) else (f_X10_readStepOrEnd_59  M l0 l1 s0)))) else (f_X10_readStepOrEnd_59  M l0 l1 s0)
def f_X10_readStepOrEnd_31 (M : Mm) (l0 : Option Nat) (l1 : Int32) : Option (Int32 × Mm) := f_X10_readStepOrEnd_36  M l0 l1 1
def g_X10_readStepOrEnd (M : Mm) (l0 : Option Nat) : Option (Int32 × Mm) := gfR M l0 10 0 fun v1 => gfI M v1 6 7 fun v4 => if v4 = 28 then (ck M l0 10 <| bd (f_X10_readEnd M l0) fun v15 M15 => some (v15, M15)) else (if v4 = 24 then (f_X10_readStepOrEnd_31  M l0 v4) else (if v4 = 27 then (f_X10_readStepOrEnd_31  M l0 v4) else (f_X10_readStepOrEnd_36  M l0 v4 0)))
def f_X10_readStepOrEnd (M : Mm) (l0 : Option Nat) : Option (Int32 × Mm) := zc (g_X10_readStepOrEnd M l0)
set_option maxHeartbeats 4000000 in
set_option maxRecDepth 100000 in
theorem t_X10_readStepOrEnd_102 {G : GG} {X : CX} {ans : Int32 × Mm} (he : EndI G X j_X10_readStepOrEnd b_X10_readStepOrEnd ans) {M : Mm} {l0 : Option Nat} (h : f_X10_readStepOrEnd_102 M l0 = some ans) : Wt G X j_X10_readStepOrEnd b_X10_readStepOrEnd 102 [(0, rf G.1 l0)] [] M 0 0 := by
  unfold f_X10_readStepOrEnd_102 at h
  refine wt_aload_n (pc := 102) 0 dX10_readStepOrEnd_102 rfl ?_
  refine wt_getR (pc := 103) dX10_readStepOrEnd_103 fl_X10_15 (fun _ _ _ => rfl) h (fun v103 h => ?_)
  refine wt_bipush (pc := 106) (v := 6) dX10_readStepOrEnd_106 (by decide) ?_
  refine wt_cVI (pc := 108) (J' := j_X6_fail) (As := [.int 6]) (st := []) (B' := b_X6_fail) (u' := 0) (w' := 0) dX10_readStepOrEnd_108 ml_X10_59 mv_X6_fail (fun v9 M9 e9 => c_X6_fail e9) rfl (by decide) rfl rfl (by decide) (by decide) (by decide) rfl h (fun v108 M108 h => ?_)
  cases h
  exact he 111 _ _ _ dX10_readStepOrEnd_111 (by decide) (by decide)
set_option maxHeartbeats 4000000 in
set_option maxRecDepth 100000 in
theorem t_X10_readStepOrEnd_193 {G : GG} {X : CX} {ans : Int32 × Mm} (he : EndI G X j_X10_readStepOrEnd b_X10_readStepOrEnd ans) {M : Mm} {l0 : Option Nat} {l1 : Int32} (h : f_X10_readStepOrEnd_193 M l0 l1 = some ans) : Wt G X j_X10_readStepOrEnd b_X10_readStepOrEnd 193 [(0, rf G.1 l0), (1, .int l1)] [] M 0 0 := by
  unfold f_X10_readStepOrEnd_193 at h
  refine wt_aload_n (pc := 193) 0 dX10_readStepOrEnd_193 rfl ?_
  refine wt_getR (pc := 194) dX10_readStepOrEnd_194 fl_X10_15 (fun _ _ _ => rfl) h (fun v194 h => ?_)
  refine wt_cVV (pc := 197) (J' := j_X6_step) (As := []) (st := []) (B' := b_X6_step) (u' := 0) (w' := 0) dX10_readStepOrEnd_197 ml_X10_75 mv_X6_step (fun M9 e9 => c_X6_step e9) rfl (by decide) rfl rfl (by decide) (by decide) (by decide) rfl h (fun M197 h => ?_)
  refine wt_aload_n (pc := 200) 0 dX10_readStepOrEnd_200 rfl ?_
  refine wt_iload_n (pc := 201) 1 dX10_readStepOrEnd_201 rfl ?_
  refine wt_aload_n (pc := 202) 0 dX10_readStepOrEnd_202 rfl ?_
  refine wt_getR (pc := 203) dX10_readStepOrEnd_203 fl_X10_23 (fun _ _ _ => rfl) h (fun v203 h => ?_)
  refine wt_getI (pc := 206) dX10_readStepOrEnd_206 fl_X10_49 (fun _ _ _ => rfl) h (fun v206 h => ?_)
  refine wt_cVI (pc := 209) (J' := j_X10_readRest) (As := [.int l1, .int v206]) (st := []) (B' := b_X10_readRest) (u' := 0) (w' := 0) dX10_readStepOrEnd_209 ml_X10_78 mv_X10_readRest (fun v9 M9 e9 => c_X10_readRest e9) rfl (by decide) rfl rfl (by decide) (by decide) (by decide) rfl h (fun v209 M209 h => ?_)
  cases h
  exact he 212 _ _ _ dX10_readStepOrEnd_212 (by decide) (by decide)
set_option maxHeartbeats 4000000 in
set_option maxRecDepth 100000 in
theorem t_X10_readStepOrEnd_134 {G : GG} {X : CX} {ans : Int32 × Mm} (he : EndI G X j_X10_readStepOrEnd b_X10_readStepOrEnd ans) {M : Mm} {l0 : Option Nat} {l1 : Int32} {l2 : Int32} (h : f_X10_readStepOrEnd_134 M l0 l1 l2 = some ans) : Wt G X j_X10_readStepOrEnd b_X10_readStepOrEnd 134 [(0, rf G.1 l0), (1, .int l1), (2, .int l2)] [] M 0 0 := by
  unfold f_X10_readStepOrEnd_134 at h
  refine wt_aload_n (pc := 134) 0 dX10_readStepOrEnd_134 rfl ?_
  refine wt_getR (pc := 135) dX10_readStepOrEnd_135 fl_X10_23 (fun _ _ _ => rfl) h (fun v135 h => ?_)
  refine wt_dup (pc := 138) dX10_readStepOrEnd_138 (rf_cat _ _) ?_
  refine wt_getI (pc := 139) dX10_readStepOrEnd_139 fl_X10_69 (fun _ _ _ => rfl) h (fun v139 h => ?_)
  refine wt_iconst (pc := 142) (v := 1) dX10_readStepOrEnd_142 (by decide) ?_
  refine wt_iadd (pc := 143) dX10_readStepOrEnd_143 ?_
  refine wt_putI (pc := 144) dX10_readStepOrEnd_144 fl_X10_69 rfl rfl h (fun M144 h => ?_)
  refine wt_aload_n (pc := 147) 0 dX10_readStepOrEnd_147 rfl ?_
  refine wt_getR (pc := 148) dX10_readStepOrEnd_148 fl_X10_23 (fun _ _ _ => rfl) h (fun v148 h => ?_)
  refine wt_getR (pc := 151) dX10_readStepOrEnd_151 fl_X10_72 (fun _ _ _ => rfl) h (fun v151 h => ?_)
  refine wt_aload_n (pc := 154) 0 dX10_readStepOrEnd_154 rfl ?_
  refine wt_getR (pc := 155) dX10_readStepOrEnd_155 fl_X10_23 (fun _ _ _ => rfl) h (fun v155 h => ?_)
  refine wt_getI (pc := 158) dX10_readStepOrEnd_158 fl_X10_49 (fun _ _ _ => rfl) h (fun v158 h => ?_)
  refine wt_iload_n (pc := 161) 1 dX10_readStepOrEnd_161 rfl ?_
  refine wt_iastore (pc := 162) (kd := 21) dX10_readStepOrEnd_162 rfl rfl h (fun M162 h => ?_)
  refine wt_iload_n (pc := 163) 2 dX10_readStepOrEnd_163 rfl ?_
  refine wt_if_eq (pc := 164) (tgt := 193) dX10_readStepOrEnd_164 (by decide) (fun q => ?_) (fun q => ?_)
  · have h := ite_t q h
    refine wt_sub (ls' := [(0, rf G.1 l0), (1, .int l1)]) [0, 1] rfl ?_
    exact t_X10_readStepOrEnd_193 he  h
  · have h := ite_f q h
    refine wt_aload_n (pc := 167) 0 dX10_readStepOrEnd_167 rfl ?_
    refine wt_getR (pc := 168) dX10_readStepOrEnd_168 fl_X10_9 (fun _ _ _ => rfl) h (fun v168 h => ?_)
    refine wt_aload_n (pc := 171) 0 dX10_readStepOrEnd_171 rfl ?_
    refine wt_getI (pc := 172) dX10_readStepOrEnd_172 fl_X10_56 (fun _ _ _ => rfl) h (fun v172 h => ?_)
    refine wt_aload_n (pc := 175) 0 dX10_readStepOrEnd_175 rfl ?_
    refine wt_getR (pc := 176) dX10_readStepOrEnd_176 fl_X10_23 (fun _ _ _ => rfl) h (fun v176 h => ?_)
    refine wt_getI (pc := 179) dX10_readStepOrEnd_179 fl_X10_49 (fun _ _ _ => rfl) h (fun v179 h => ?_)
    refine wt_iastore (pc := 182) (kd := 21) dX10_readStepOrEnd_182 rfl rfl h (fun M182 h => ?_)
    refine wt_aload_n (pc := 183) 0 dX10_readStepOrEnd_183 rfl ?_
    refine wt_dup (pc := 184) dX10_readStepOrEnd_184 (rf_cat _ _) ?_
    refine wt_getI (pc := 185) dX10_readStepOrEnd_185 fl_X10_56 (fun _ _ _ => rfl) h (fun v185 h => ?_)
    refine wt_iconst (pc := 188) (v := 1) dX10_readStepOrEnd_188 (by decide) ?_
    refine wt_iadd (pc := 189) dX10_readStepOrEnd_189 ?_
    refine wt_putI (pc := 190) dX10_readStepOrEnd_190 fl_X10_56 rfl rfl h (fun M190 h => ?_)
    refine wt_sub (ls' := [(0, rf G.1 l0), (1, .int l1)]) [0, 1] rfl ?_
    exact t_X10_readStepOrEnd_193 he  h
set_option maxHeartbeats 4000000 in
set_option maxRecDepth 100000 in
theorem t_X10_readStepOrEnd_64 {G : GG} {X : CX} {ans : Int32 × Mm} (he : EndI G X j_X10_readStepOrEnd b_X10_readStepOrEnd ans) {M : Mm} {l0 : Option Nat} {l1 : Int32} {l2 : Int32} {s0 : Int32} (h : f_X10_readStepOrEnd_64 M l0 l1 l2 s0 = some ans) : Wt G X j_X10_readStepOrEnd b_X10_readStepOrEnd 64 [(0, rf G.1 l0), (1, .int l1), (2, .int l2)] [.int s0] M 0 0 := by
  unfold f_X10_readStepOrEnd_64 at h
  refine wt_istore_n (pc := 64) (i := 3) (ls' := [(3, .int s0), (0, rf G.1 l0), (1, .int l1), (2, .int l2)]) rfl dX10_readStepOrEnd_64 (by decide) rfl ?_
  refine wt_iload_n (pc := 65) 0 dX10_readStepOrEnd_65 rfl ?_
  refine wt_if_ne (pc := 66) (tgt := 78) dX10_readStepOrEnd_66 (by decide) (fun q => ?_) (fun q => ?_)
  · have h := ite_f q h
    refine wt_aload_n (pc := 78) 1 dX10_readStepOrEnd_78 rfl ?_
    refine wt_getR (pc := 79) dX10_readStepOrEnd_79 fl_X10_23 (fun _ _ _ => rfl) h (fun v79 h => ?_)
    refine wt_getI (pc := 82) dX10_readStepOrEnd_82 fl_X10_69 (fun _ _ _ => rfl) h (fun v82 h => ?_)
    refine wt_bipush (pc := 85) (v := 30) dX10_readStepOrEnd_85 (by decide) ?_
    refine wt_icmp_ge (pc := 87) (tgt := 102) dX10_readStepOrEnd_87 (by decide) (fun q => ?_) (fun q => ?_)
    · have h := ite_t q h
      refine wt_sub (ls' := [(0, rf G.1 l0)]) [1] rfl ?_
      exact t_X10_readStepOrEnd_102 he  h
    · have h := ite_f q h
      refine wt_aload_n (pc := 90) 1 dX10_readStepOrEnd_90 rfl ?_
      refine wt_getR (pc := 91) dX10_readStepOrEnd_91 fl_X10_23 (fun _ _ _ => rfl) h (fun v91 h => ?_)
      refine wt_getI (pc := 94) dX10_readStepOrEnd_94 fl_X10_49 (fun _ _ _ => rfl) h (fun v94 h => ?_)
      refine wt_bipush (pc := 97) (v := 60) dX10_readStepOrEnd_97 (by decide) ?_
      refine wt_icmp_lt (pc := 99) (tgt := 112) dX10_readStepOrEnd_99 (by decide) (fun q => ?_) (fun q => ?_)
      · have h := ite_t q h
        refine wt_iload_n (pc := 112) 3 dX10_readStepOrEnd_112 rfl ?_
        refine wt_if_eq (pc := 113) (tgt := 134) dX10_readStepOrEnd_113 (by decide) (fun q => ?_) (fun q => ?_)
        · have h := ite_t q h
          refine wt_sub (ls' := [(0, rf G.1 l0), (1, .int l1), (2, .int l2)]) [1, 2, 3] rfl ?_
          exact t_X10_readStepOrEnd_134 he  h
        · have h := ite_f q h
          refine wt_aload_n (pc := 116) 1 dX10_readStepOrEnd_116 rfl ?_
          refine wt_getI (pc := 117) dX10_readStepOrEnd_117 fl_X10_56 (fun _ _ _ => rfl) h (fun v117 h => ?_)
          refine wt_iconst (pc := 120) (v := 3) dX10_readStepOrEnd_120 (by decide) ?_
          refine wt_icmp_lt (pc := 121) (tgt := 134) dX10_readStepOrEnd_121 (by decide) (fun q => ?_) (fun q => ?_)
          · have h := ite_t q h
            refine wt_sub (ls' := [(0, rf G.1 l0), (1, .int l1), (2, .int l2)]) [1, 2, 3] rfl ?_
            exact t_X10_readStepOrEnd_134 he  h
          · have h := ite_f q h
            refine wt_aload_n (pc := 124) 1 dX10_readStepOrEnd_124 rfl ?_
            refine wt_getR (pc := 125) dX10_readStepOrEnd_125 fl_X10_15 (fun _ _ _ => rfl) h (fun v125 h => ?_)
            refine wt_bipush (pc := 128) (v := 7) dX10_readStepOrEnd_128 (by decide) ?_
            refine wt_cVI (pc := 130) (J' := j_X6_fail) (As := [.int 7]) (st := []) (B' := b_X6_fail) (u' := 0) (w' := 0) dX10_readStepOrEnd_130 ml_X10_59 mv_X6_fail (fun v9 M9 e9 => c_X6_fail e9) rfl (by decide) rfl rfl (by decide) (by decide) (by decide) rfl h (fun v130 M130 h => ?_)
            cases h
            exact he 133 _ _ _ dX10_readStepOrEnd_133 (by decide) (by decide)
      · have h := ite_f q h
        refine wt_sub (ls' := [(0, rf G.1 l0)]) [1] rfl ?_
        exact t_X10_readStepOrEnd_102 he  h
  · have h := ite_t q h
    refine wt_aload_n (pc := 69) 1 dX10_readStepOrEnd_69 rfl ?_
    refine wt_getR (pc := 70) dX10_readStepOrEnd_70 fl_X10_15 (fun _ _ _ => rfl) h (fun v70 h => ?_)
    refine wt_iconst (pc := 73) (v := 2) dX10_readStepOrEnd_73 (by decide) ?_
    refine wt_cVI (pc := 74) (J' := j_X6_fail) (As := [.int 2]) (st := []) (B' := b_X6_fail) (u' := 0) (w' := 0) dX10_readStepOrEnd_74 ml_X10_59 mv_X6_fail (fun v9 M9 e9 => c_X6_fail e9) rfl (by decide) rfl rfl (by decide) (by decide) (by decide) rfl h (fun v74 M74 h => ?_)
    cases h
    exact he 77 _ _ _ dX10_readStepOrEnd_77 (by decide) (by decide)
set_option maxHeartbeats 4000000 in
set_option maxRecDepth 100000 in
theorem t_X10_readStepOrEnd_59 {G : GG} {X : CX} {ans : Int32 × Mm} (he : EndI G X j_X10_readStepOrEnd b_X10_readStepOrEnd ans) {M : Mm} {l0 : Option Nat} {l1 : Int32} {l2 : Int32} (h : f_X10_readStepOrEnd_59 M l0 l1 l2 = some ans) : Wt G X j_X10_readStepOrEnd b_X10_readStepOrEnd 59 [(0, rf G.1 l0), (1, .int l1), (2, .int l2)] [] M 0 0 := by
  unfold f_X10_readStepOrEnd_59 at h
  refine wt_iconst (pc := 59) (v := 1) dX10_readStepOrEnd_59 (by decide) ?_
  refine wt_goto (pc := 60) (tgt := 64) dX10_readStepOrEnd_60 (by decide) ?_
  exact t_X10_readStepOrEnd_64 he  h
set_option maxHeartbeats 4000000 in
set_option maxRecDepth 100000 in
theorem t_X10_readStepOrEnd_63 {G : GG} {X : CX} {ans : Int32 × Mm} (he : EndI G X j_X10_readStepOrEnd b_X10_readStepOrEnd ans) {M : Mm} {l0 : Option Nat} {l1 : Int32} {l2 : Int32} (h : f_X10_readStepOrEnd_63 M l0 l1 l2 = some ans) : Wt G X j_X10_readStepOrEnd b_X10_readStepOrEnd 63 [(0, rf G.1 l0), (1, .int l1), (2, .int l2)] [] M 0 0 := by
  unfold f_X10_readStepOrEnd_63 at h
  refine wt_iconst (pc := 63) (v := 0) dX10_readStepOrEnd_63 (by decide) ?_
  exact t_X10_readStepOrEnd_64 he  h
set_option maxHeartbeats 4000000 in
set_option maxRecDepth 100000 in
theorem t_X10_readStepOrEnd_36 {G : GG} {X : CX} {ans : Int32 × Mm} (he : EndI G X j_X10_readStepOrEnd b_X10_readStepOrEnd ans) {M : Mm} {l0 : Option Nat} {l1 : Int32} {s0 : Int32} (h : f_X10_readStepOrEnd_36 M l0 l1 s0 = some ans) : Wt G X j_X10_readStepOrEnd b_X10_readStepOrEnd 36 [(0, rf G.1 l0), (1, .int l1)] [.int s0] M 0 0 := by
  unfold f_X10_readStepOrEnd_36 at h
  refine wt_istore_n (pc := 36) (i := 2) (ls' := [(2, .int s0), (0, rf G.1 l0), (1, .int l1)]) rfl dX10_readStepOrEnd_36 (by decide) rfl ?_
  refine wt_iload_n (pc := 37) 0 dX10_readStepOrEnd_37 rfl ?_
  refine wt_if_ne (pc := 38) (tgt := 59) dX10_readStepOrEnd_38 (by decide) (fun q => ?_) (fun q => ?_)
  · have h := ite_f q h
    refine wt_sub (ls' := [(0, rf G.1 l0), (1, .int l1), (2, .int s0)]) [1, 2, 0] rfl ?_
    exact t_X10_readStepOrEnd_59 he  h
  · have h := ite_t q h
    refine wt_iload_n (pc := 41) 2 dX10_readStepOrEnd_41 rfl ?_
    refine wt_bipush (pc := 42) (v := 29) dX10_readStepOrEnd_42 (by decide) ?_
    refine wt_icmp_eq (pc := 44) (tgt := 59) dX10_readStepOrEnd_44 (by decide) (fun q => ?_) (fun q => ?_)
    · have h := ite_t q h
      refine wt_sub (ls' := [(0, rf G.1 l0), (1, .int l1), (2, .int s0)]) [1, 2, 0] rfl ?_
      exact t_X10_readStepOrEnd_59 he  h
    · have h := ite_f q h
      refine wt_iload_n (pc := 47) 2 dX10_readStepOrEnd_47 rfl ?_
      refine wt_bipush (pc := 48) (v := 18) dX10_readStepOrEnd_48 (by decide) ?_
      refine wt_icmp_lt (pc := 50) (tgt := 63) dX10_readStepOrEnd_50 (by decide) (fun q => ?_) (fun q => ?_)
      · have h := ite_t q h
        refine wt_sub (ls' := [(0, rf G.1 l0), (1, .int l1), (2, .int s0)]) [1, 2, 0] rfl ?_
        exact t_X10_readStepOrEnd_63 he  h
      · have h := ite_f q h
        refine wt_iload_n (pc := 53) 2 dX10_readStepOrEnd_53 rfl ?_
        refine wt_bipush (pc := 54) (v := 22) dX10_readStepOrEnd_54 (by decide) ?_
        refine wt_icmp_gt (pc := 56) (tgt := 63) dX10_readStepOrEnd_56 (by decide) (fun q => ?_) (fun q => ?_)
        · have h := ite_t q h
          refine wt_sub (ls' := [(0, rf G.1 l0), (1, .int l1), (2, .int s0)]) [1, 2, 0] rfl ?_
          exact t_X10_readStepOrEnd_63 he  h
        · have h := ite_f q h
          refine wt_sub (ls' := [(0, rf G.1 l0), (1, .int l1), (2, .int s0)]) [1, 2, 0] rfl ?_
          exact t_X10_readStepOrEnd_59 he  h
set_option maxHeartbeats 4000000 in
set_option maxRecDepth 100000 in
theorem t_X10_readStepOrEnd_31 {G : GG} {X : CX} {ans : Int32 × Mm} (he : EndI G X j_X10_readStepOrEnd b_X10_readStepOrEnd ans) {M : Mm} {l0 : Option Nat} {l1 : Int32} (h : f_X10_readStepOrEnd_31 M l0 l1 = some ans) : Wt G X j_X10_readStepOrEnd b_X10_readStepOrEnd 31 [(0, rf G.1 l0), (1, .int l1)] [] M 0 0 := by
  unfold f_X10_readStepOrEnd_31 at h
  refine wt_iconst (pc := 31) (v := 1) dX10_readStepOrEnd_31 (by decide) ?_
  refine wt_goto (pc := 32) (tgt := 36) dX10_readStepOrEnd_32 (by decide) ?_
  exact t_X10_readStepOrEnd_36 he  h
set_option maxHeartbeats 4000000 in
set_option maxRecDepth 100000 in
theorem t_X10_readStepOrEnd_e {G : GG} {X : CX} {ans : Int32 × Mm} (he : EndI G X j_X10_readStepOrEnd b_X10_readStepOrEnd ans) {M : Mm} {l0 : Option Nat} (h : g_X10_readStepOrEnd M l0 = some ans) : Wt G X j_X10_readStepOrEnd b_X10_readStepOrEnd 0 [(0, rf G.1 l0)] [] M 0 0 := by
  unfold g_X10_readStepOrEnd at h
  refine wt_aload_n (pc := 0) 0 dX10_readStepOrEnd_0 rfl ?_
  refine wt_getR (pc := 1) dX10_readStepOrEnd_1 fl_X10_15 (fun _ _ _ => rfl) h (fun v1 h => ?_)
  refine wt_getI (pc := 4) dX10_readStepOrEnd_4 fl_X10_63 (fun _ _ _ => rfl) h (fun v4 h => ?_)
  refine wt_istore_n (pc := 7) (i := 1) (ls' := [(1, .int v4), (0, rf G.1 l0)]) rfl dX10_readStepOrEnd_7 (by decide) (by simp [rf_cat, cat_i, cat_l, cat_r]) ?_
  refine wt_iload_n (pc := 8) 0 dX10_readStepOrEnd_8 rfl ?_
  refine wt_bipush (pc := 9) (v := 28) dX10_readStepOrEnd_9 (by decide) ?_
  refine wt_icmp_ne (pc := 11) (tgt := 19) dX10_readStepOrEnd_11 (by decide) (fun q => ?_) (fun q => ?_)
  · have h := ite_f q h
    refine wt_iload_n (pc := 19) 0 dX10_readStepOrEnd_19 rfl ?_
    refine wt_bipush (pc := 20) (v := 24) dX10_readStepOrEnd_20 (by decide) ?_
    refine wt_icmp_eq (pc := 22) (tgt := 31) dX10_readStepOrEnd_22 (by decide) (fun q => ?_) (fun q => ?_)
    · have h := ite_t q h
      refine wt_sub (ls' := [(0, rf G.1 l0), (1, .int v4)]) [1, 0] rfl ?_
      exact t_X10_readStepOrEnd_31 he  h
    · have h := ite_f q h
      refine wt_iload_n (pc := 25) 0 dX10_readStepOrEnd_25 rfl ?_
      refine wt_bipush (pc := 26) (v := 27) dX10_readStepOrEnd_26 (by decide) ?_
      refine wt_icmp_ne (pc := 28) (tgt := 35) dX10_readStepOrEnd_28 (by decide) (fun q => ?_) (fun q => ?_)
      · have h := ite_f q h
        refine wt_iconst (pc := 35) (v := 0) dX10_readStepOrEnd_35 (by decide) ?_
        refine wt_sub (ls' := [(0, rf G.1 l0), (1, .int v4)]) [1, 0] rfl ?_
        exact t_X10_readStepOrEnd_36 he  h
      · have h := ite_t q h
        refine wt_sub (ls' := [(0, rf G.1 l0), (1, .int v4)]) [1, 0] rfl ?_
        exact t_X10_readStepOrEnd_31 he  h
  · have h := ite_t q h
    refine wt_aload_n (pc := 14) 1 dX10_readStepOrEnd_14 rfl ?_
    refine wt_cVI (pc := 15) (J' := j_X10_readEnd) (As := []) (st := []) (B' := b_X10_readEnd) (u' := 0) (w' := 0) dX10_readStepOrEnd_15 ml_X10_66 mv_X10_readEnd (fun v9 M9 e9 => c_X10_readEnd e9) rfl (by decide) rfl rfl (by decide) (by decide) (by decide) rfl h (fun v15 M15 h => ?_)
    cases h
    exact he 18 _ _ _ dX10_readStepOrEnd_18 (by decide) (by decide)
set_option maxHeartbeats 4000000 in
set_option maxRecDepth 100000 in
theorem c_X10_readStepOrEnd {G : GG} {M : Mm} {l0 : Option Nat} {r : Int32 × Mm} (h : f_X10_readStepOrEnd M l0 = some r) (l : Launch) : Ct l G j_X10_readStepOrEnd b_X10_readStepOrEnd [rf G.1 l0] M (some (.int r.1)) r.2 := cf_Z h (by decide +kernel) (by simp [lg_sl, rf_cat, cat_i, cat_l, j_X10_readStepOrEnd]) rfl (by simp [lv_args, rf_cat, cat_i, cat_l]) (fun h X he => t_X10_readStepOrEnd_e he h)
def f_X10_readAll_98 (M : Mm)  : Option (Int32 × Mm) := some (1, M)
def f_X10_readAll_72 (M : Mm) (l0 : Option Nat) : Option (Int32 × Mm) := gfR M l0 10 2 fun v73 => pfZ M v73 9 0 1 fun M77 => gfI M77 l0 10 4 fun v81 => if v81 = 0 then (f_X10_readAll_98  M77) else (gfR M77 l0 10 0 fun v88 => ck M77 v88 6 <| bd (f_X6_fail M77 v88 2) fun v92 M92 => if v92 = 0 then (some (0, M92)) else (f_X10_readAll_98  M92))
def f_X10_readAll_17 : Nat → Mm → Option Nat → Int32 → Option (Int32 × Mm)
  | 0, _, _, _ => none
  | n + 1, M, l0, l2 => if 300 ≤ l2 then (f_X10_readAll_72  M l0) else (gfR M l0 10 0 fun v25 => gfI M v25 6 5 fun v28 => if v28 = 0 then (f_X10_readAll_72  M l0) else (ck M l0 10 <| bd (f_X10_readStepOrEnd M l0) fun v35 M35 => if v35 = 0 then (some (0, M35)) else (gfR M35 l0 10 0 fun v42 => ck M35 v42 6 <| bd (f_X6_takeSemicolon M35 v42) fun v45 M45 => if v45 = 0 then (some (0, M45)) else (gfR M45 l0 10 2 fun v54 => gfI M45 v54 9 2 fun v58 => pfI M45 v54 9 2 (v58 + 1) fun M63 => f_X10_readAll_17 n M63 l0 (l2 + 1)))))
def g_X10_readAll (M : Mm) (l0 : Option Nat) (l1 : Int32) : Option (Int32 × Mm) := gfR M l0 10 2 fun v1 => ck M v1 9 <| bv (f_X9_clear M v1) fun M4 => gfR M4 l0 10 0 fun v8 => ck M4 v8 6 <| bv (f_X6_open M4 v8 l1) fun M12 => f_X10_readAll_17  fu M12 l0 0
def f_X10_readAll (M : Mm) (l0 : Option Nat) (l1 : Int32) : Option (Int32 × Mm) := zc (g_X10_readAll M l0 l1)
set_option maxHeartbeats 4000000 in
set_option maxRecDepth 100000 in
theorem t_X10_readAll_98 {G : GG} {X : CX} {ans : Int32 × Mm} (he : EndI G X j_X10_readAll b_X10_readAll ans) {M : Mm}  (h : f_X10_readAll_98 M = some ans) : Wt G X j_X10_readAll b_X10_readAll 98 [] [] M 0 0 := by
  unfold f_X10_readAll_98 at h
  refine wt_iconst (pc := 98) (v := 1) dX10_readAll_98 (by decide) ?_
  refine wt_goto (pc := 99) (tgt := 103) dX10_readAll_99 (by decide) ?_
  cases h
  exact he 103 _ _ _ dX10_readAll_103 (by decide) (by decide)
set_option maxHeartbeats 4000000 in
set_option maxRecDepth 100000 in
theorem t_X10_readAll_72 {G : GG} {X : CX} {ans : Int32 × Mm} (he : EndI G X j_X10_readAll b_X10_readAll ans) {M : Mm} {l0 : Option Nat} (h : f_X10_readAll_72 M l0 = some ans) : Wt G X j_X10_readAll b_X10_readAll 72 [(0, rf G.1 l0)] [] M 0 0 := by
  unfold f_X10_readAll_72 at h
  refine wt_aload_n (pc := 72) 0 dX10_readAll_72 rfl ?_
  refine wt_getR (pc := 73) dX10_readAll_73 fl_X10_23 (fun _ _ _ => rfl) h (fun v73 h => ?_)
  refine wt_iconst (pc := 76) (v := 1) dX10_readAll_76 (by decide) ?_
  refine wt_putZ (pc := 77) dX10_readAll_77 fl_X10_52 rfl rfl h (fun M77 h => ?_)
  refine wt_aload_n (pc := 80) 0 dX10_readAll_80 rfl ?_
  refine wt_getI (pc := 81) dX10_readAll_81 fl_X10_56 (fun _ _ _ => rfl) h (fun v81 h => ?_)
  refine wt_if_eq (pc := 84) (tgt := 98) dX10_readAll_84 (by decide) (fun q => ?_) (fun q => ?_)
  · have h := ite_t q h
    refine wt_sub (ls' := []) [] rfl ?_
    exact t_X10_readAll_98 he  h
  · have h := ite_f q h
    refine wt_aload_n (pc := 87) 0 dX10_readAll_87 rfl ?_
    refine wt_getR (pc := 88) dX10_readAll_88 fl_X10_15 (fun _ _ _ => rfl) h (fun v88 h => ?_)
    refine wt_iconst (pc := 91) (v := 2) dX10_readAll_91 (by decide) ?_
    refine wt_cVI (pc := 92) (J' := j_X6_fail) (As := [.int 2]) (st := []) (B' := b_X6_fail) (u' := 0) (w' := 0) dX10_readAll_92 ml_X10_59 mv_X6_fail (fun v9 M9 e9 => c_X6_fail e9) rfl (by decide) rfl rfl (by decide) (by decide) (by decide) rfl h (fun v92 M92 h => ?_)
    refine wt_if_eq (pc := 95) (tgt := 102) dX10_readAll_95 (by decide) (fun q => ?_) (fun q => ?_)
    · have h := ite_t q h
      refine wt_iconst (pc := 102) (v := 0) dX10_readAll_102 (by decide) ?_
      cases h
      exact he 103 _ _ _ dX10_readAll_103 (by decide) (by decide)
    · have h := ite_f q h
      refine wt_sub (ls' := []) [] rfl ?_
      exact t_X10_readAll_98 he  h
set_option maxHeartbeats 4000000 in
set_option maxRecDepth 100000 in
theorem t_X10_readAll_17 {G : GG} {X : CX} {ans : Int32 × Mm} (he : EndI G X j_X10_readAll b_X10_readAll ans) : ∀ (n : Nat) {M : Mm} {l0 : Option Nat} {l2 : Int32}, f_X10_readAll_17 n M l0 l2 = some ans → Wt G X j_X10_readAll b_X10_readAll 17 [(0, rf G.1 l0), (2, .int l2)] [] M 0 0 := by
  intro n
  induction n with
  | zero =>
    intro M l0 l2 h
    rw [f_X10_readAll_17] at h
    cases h
  | succ n ih =>
    intro M l0 l2 h
    rw [f_X10_readAll_17] at h
    refine wt_iload_n (pc := 17) 1 dX10_readAll_17 rfl ?_
    refine wt_sipush (pc := 18) (v := 300) dX10_readAll_18 (by decide) ?_
    refine wt_icmp_ge (pc := 21) (tgt := 72) dX10_readAll_21 (by decide) (fun q => ?_) (fun q => ?_)
    · have h := ite_t q h
      refine wt_sub (ls' := [(0, rf G.1 l0)]) [0] rfl ?_
      exact t_X10_readAll_72 he  h
    · have h := ite_f q h
      refine wt_aload_n (pc := 24) 0 dX10_readAll_24 rfl ?_
      refine wt_getR (pc := 25) dX10_readAll_25 fl_X10_15 (fun _ _ _ => rfl) h (fun v25 h => ?_)
      refine wt_getI (pc := 28) dX10_readAll_28 fl_X10_38 (fun _ _ _ => rfl) h (fun v28 h => ?_)
      refine wt_if_eq (pc := 31) (tgt := 72) dX10_readAll_31 (by decide) (fun q => ?_) (fun q => ?_)
      · have h := ite_t q h
        refine wt_sub (ls' := [(0, rf G.1 l0)]) [0] rfl ?_
        exact t_X10_readAll_72 he  h
      · have h := ite_f q h
        refine wt_aload_n (pc := 34) 0 dX10_readAll_34 rfl ?_
        refine wt_cVI (pc := 35) (J' := j_X10_readStepOrEnd) (As := []) (st := []) (B' := b_X10_readStepOrEnd) (u' := 0) (w' := 0) dX10_readAll_35 ml_X10_42 mv_X10_readStepOrEnd (fun v9 M9 e9 => c_X10_readStepOrEnd e9) rfl (by decide) rfl rfl (by decide) (by decide) (by decide) rfl h (fun v35 M35 h => ?_)
        refine wt_if_eq (pc := 38) (tgt := 51) dX10_readAll_38 (by decide) (fun q => ?_) (fun q => ?_)
        · have h := ite_t q h
          refine wt_iconst (pc := 51) (v := 0) dX10_readAll_51 (by decide) ?_
          cases h
          exact he 52 _ _ _ dX10_readAll_52 (by decide) (by decide)
        · have h := ite_f q h
          refine wt_aload_n (pc := 41) 0 dX10_readAll_41 rfl ?_
          refine wt_getR (pc := 42) dX10_readAll_42 fl_X10_15 (fun _ _ _ => rfl) h (fun v42 h => ?_)
          refine wt_cVI (pc := 45) (J' := j_X6_takeSemicolon) (As := []) (st := []) (B' := b_X6_takeSemicolon) (u' := 0) (w' := 0) dX10_readAll_45 ml_X10_46 mv_X6_takeSemicolon (fun v9 M9 e9 => c_X6_takeSemicolon e9) rfl (by decide) rfl rfl (by decide) (by decide) (by decide) rfl h (fun v45 M45 h => ?_)
          refine wt_if_ne (pc := 48) (tgt := 53) dX10_readAll_48 (by decide) (fun q => ?_) (fun q => ?_)
          · have h := ite_f q h
            refine wt_aload_n (pc := 53) 0 dX10_readAll_53 rfl ?_
            refine wt_getR (pc := 54) dX10_readAll_54 fl_X10_23 (fun _ _ _ => rfl) h (fun v54 h => ?_)
            refine wt_dup (pc := 57) dX10_readAll_57 (rf_cat _ _) ?_
            refine wt_getI (pc := 58) dX10_readAll_58 fl_X10_49 (fun _ _ _ => rfl) h (fun v58 h => ?_)
            refine wt_iconst (pc := 61) (v := 1) dX10_readAll_61 (by decide) ?_
            refine wt_iadd (pc := 62) dX10_readAll_62 ?_
            refine wt_putI (pc := 63) dX10_readAll_63 fl_X10_49 rfl rfl h (fun M63 h => ?_)
            refine wt_iinc (pc := 66) (d := 1) (ls' := [(2, .int (l2 + 1)), (0, rf G.1 l0)]) 1 dX10_readAll_66 rfl (by decide) (by decide) rfl ?_
            refine wt_goto (pc := 69) (tgt := 17) dX10_readAll_69 (by decide) ?_
            refine wt_sub (ls' := [(0, rf G.1 l0), (2, .int (l2 + 1))]) [1, 0] rfl ?_
            exact ih h
          · have h := ite_t q h
            refine wt_iconst (pc := 51) (v := 0) dX10_readAll_51 (by decide) ?_
            cases h
            exact he 52 _ _ _ dX10_readAll_52 (by decide) (by decide)
set_option maxHeartbeats 4000000 in
set_option maxRecDepth 100000 in
theorem t_X10_readAll_e {G : GG} {X : CX} {ans : Int32 × Mm} (he : EndI G X j_X10_readAll b_X10_readAll ans) {M : Mm} {l0 : Option Nat} {l1 : Int32} (h : g_X10_readAll M l0 l1 = some ans) : Wt G X j_X10_readAll b_X10_readAll 0 [(0, rf G.1 l0), (1, .int l1)] [] M 0 0 := by
  unfold g_X10_readAll at h
  refine wt_aload_n (pc := 0) 0 dX10_readAll_0 rfl ?_
  refine wt_getR (pc := 1) dX10_readAll_1 fl_X10_23 (fun _ _ _ => rfl) h (fun v1 h => ?_)
  refine wt_cVV (pc := 4) (J' := j_X9_clear) (As := []) (st := []) (B' := b_X9_clear) (u' := 0) (w' := 0) dX10_readAll_4 ml_X10_27 mv_X9_clear (fun M9 e9 => c_X9_clear e9) rfl (by decide) rfl rfl (by decide) (by decide) (by decide) rfl h (fun M4 h => ?_)
  refine wt_aload_n (pc := 7) 0 dX10_readAll_7 rfl ?_
  refine wt_getR (pc := 8) dX10_readAll_8 fl_X10_15 (fun _ _ _ => rfl) h (fun v8 h => ?_)
  refine wt_iload_n (pc := 11) 1 dX10_readAll_11 rfl ?_
  refine wt_cVV (pc := 12) (J' := j_X6_open) (As := [.int l1]) (st := []) (B' := b_X6_open) (u' := 0) (w' := 0) dX10_readAll_12 ml_X10_32 mv_X6_open (fun M9 e9 => c_X6_open e9) rfl (by decide) rfl rfl (by decide) (by decide) (by decide) rfl h (fun M12 h => ?_)
  refine wt_iconst (pc := 15) (v := 0) dX10_readAll_15 (by decide) ?_
  refine wt_istore_n (pc := 16) (i := 2) (ls' := [(2, .int 0), (0, rf G.1 l0), (1, .int l1)]) rfl dX10_readAll_16 (by decide) rfl ?_
  refine wt_sub (ls' := [(0, rf G.1 l0), (2, .int 0)]) [1, 0] rfl ?_
  exact t_X10_readAll_17 he  fu h
set_option maxHeartbeats 4000000 in
set_option maxRecDepth 100000 in
theorem c_X10_readAll {G : GG} {M : Mm} {l0 : Option Nat} {l1 : Int32} {r : Int32 × Mm} (h : f_X10_readAll M l0 l1 = some r) (l : Launch) : Ct l G j_X10_readAll b_X10_readAll [rf G.1 l0, .int l1] M (some (.int r.1)) r.2 := cf_Z h (by decide +kernel) (by simp [lg_sl, rf_cat, cat_i, cat_l, j_X10_readAll]) rfl (by simp [lv_args, rf_cat, cat_i, cat_l]) (fun h X he => t_X10_readAll_e he h)

theorem fl_X5_9 : FLk RX5 9 5 0 := ⟨_, rfl, by decide, Or.inl (gw_at 833 (by decide +kernel) rfl)⟩
theorem fl_X5_15 : FLk RX5 15 5 1 := ⟨_, rfl, by decide, Or.inl (gw_at 834 (by decide +kernel) rfl)⟩
theorem fl_X5_30 : FLk RX5 30 6 5 := ⟨_, rfl, by decide, Or.inr ⟨_, nw_at (w := Cond.fieldLinkNest RX5 30 "RoofGale$Tape" "kind" "I" "RoofGale") 298 (by decide +kernel) rfl, rfl⟩⟩
theorem fl_X5_34 : FLk RX5 34 6 7 := ⟨_, rfl, by decide, Or.inr ⟨_, nw_at (w := Cond.fieldLinkNest RX5 34 "RoofGale$Tape" "word" "I" "RoofGale") 303 (by decide +kernel) rfl, rfl⟩⟩
theorem fl_X5_65 : FLk RX5 65 6 8 := ⟨_, rfl, by decide, Or.inr ⟨_, nw_at (w := Cond.fieldLinkNest RX5 65 "RoofGale$Tape" "name" "J" "RoofGale") 306 (by decide +kernel) rfl, rfl⟩⟩
theorem fl_X5_76 : FLk RX5 76 4 3 := ⟨_, rfl, by decide, Or.inr ⟨_, nw_at (w := Cond.fieldLinkNest RX5 76 "RoofGale$Shore" "houseCount" "I" "RoofGale") 538 (by decide +kernel) rfl, rfl⟩⟩
theorem fl_X5_79 : FLk RX5 79 4 0 := ⟨_, rfl, by decide, Or.inr ⟨_, nw_at (w := Cond.fieldLinkNest RX5 79 "RoofGale$Shore" "houses" "[LRoofGale$House;" "RoofGale") 524 (by decide +kernel) rfl, rfl⟩⟩
theorem fl_X5_87 : FLk RX5 87 1 0 := ⟨_, rfl, by decide, Or.inr ⟨_, nw_at (w := Cond.fieldLinkNest RX5 87 "RoofGale$House" "name" "J" "RoofGale") 392 (by decide +kernel) rfl, rfl⟩⟩
theorem fl_X5_94 : FLk RX5 94 6 11 := ⟨_, rfl, by decide, Or.inr ⟨_, nw_at (w := Cond.fieldLinkNest RX5 94 "RoofGale$Tape" "value" "I" "RoofGale") 311 (by decide +kernel) rfl, rfl⟩⟩
theorem fl_X5_97 : FLk RX5 97 1 1 := ⟨_, rfl, by decide, Or.inr ⟨_, nw_at (w := Cond.fieldLinkNest RX5 97 "RoofGale$House" "at" "I" "RoofGale") 396 (by decide +kernel) rfl, rfl⟩⟩
theorem fl_X5_100 : FLk RX5 100 1 2 := ⟨_, rfl, by decide, Or.inr ⟨_, nw_at (w := Cond.fieldLinkNest RX5 100 "RoofGale$House" "worth" "I" "RoofGale") 400 (by decide +kernel) rfl, rfl⟩⟩
theorem fl_X5_103 : FLk RX5 103 1 3 := ⟨_, rfl, by decide, Or.inr ⟨_, nw_at (w := Cond.fieldLinkNest RX5 103 "RoofGale$House" "pieces" "I" "RoofGale") 404 (by decide +kernel) rfl, rfl⟩⟩
theorem fl_X5_106 : FLk RX5 106 1 4 := ⟨_, rfl, by decide, Or.inr ⟨_, nw_at (w := Cond.fieldLinkNest RX5 106 "RoofGale$House" "weight" "I" "RoofGale") 409 (by decide +kernel) rfl, rfl⟩⟩
theorem fl_X5_109 : FLk RX5 109 1 7 := ⟨_, rfl, by decide, Or.inr ⟨_, nw_at (w := Cond.fieldLinkNest RX5 109 "RoofGale$House" "on" "I" "RoofGale") 421 (by decide +kernel) rfl, rfl⟩⟩
theorem fl_X5_112 : FLk RX5 112 1 8 := ⟨_, rfl, by decide, Or.inr ⟨_, nw_at (w := Cond.fieldLinkNest RX5 112 "RoofGale$House" "stands" "Z" "RoofGale") 426 (by decide +kernel) rfl, rfl⟩⟩
theorem fl_X5_120 : FLk RX5 120 1 5 := ⟨_, rfl, by decide, Or.inr ⟨_, nw_at (w := Cond.fieldLinkNest RX5 120 "RoofGale$House" "length" "I" "RoofGale") 412 (by decide +kernel) rfl, rfl⟩⟩
theorem fl_X5_123 : FLk RX5 123 1 6 := ⟨_, rfl, by decide, Or.inr ⟨_, nw_at (w := Cond.fieldLinkNest RX5 123 "RoofGale$House" "pegs" "I" "RoofGale") 417 (by decide +kernel) rfl, rfl⟩⟩
theorem fl_X5_126 : FLk RX5 126 4 4 := ⟨_, rfl, by decide, Or.inr ⟨_, nw_at (w := Cond.fieldLinkNest RX5 126 "RoofGale$Shore" "gangCount" "I" "RoofGale") 541 (by decide +kernel) rfl, rfl⟩⟩
theorem fl_X5_129 : FLk RX5 129 4 1 := ⟨_, rfl, by decide, Or.inr ⟨_, nw_at (w := Cond.fieldLinkNest RX5 129 "RoofGale$Shore" "gangs" "[LRoofGale$Gang;" "RoofGale") 530 (by decide +kernel) rfl, rfl⟩⟩
theorem fl_X5_133 : FLk RX5 133 0 0 := ⟨_, rfl, by decide, Or.inr ⟨_, nw_at (w := Cond.fieldLinkNest RX5 133 "RoofGale$Gang" "name" "J" "RoofGale") 456 (by decide +kernel) rfl, rfl⟩⟩
theorem fl_X5_143 : FLk RX5 143 0 1 := ⟨_, rfl, by decide, Or.inr ⟨_, nw_at (w := Cond.fieldLinkNest RX5 143 "RoofGale$Gang" "home" "I" "RoofGale") 458 (by decide +kernel) rfl, rfl⟩⟩
theorem fl_X5_146 : FLk RX5 146 0 4 := ⟨_, rfl, by decide, Or.inr ⟨_, nw_at (w := Cond.fieldLinkNest RX5 146 "RoofGale$Gang" "at" "I" "RoofGale") 470 (by decide +kernel) rfl, rfl⟩⟩
theorem fl_X5_147 : FLk RX5 147 0 2 := ⟨_, rfl, by decide, Or.inr ⟨_, nw_at (w := Cond.fieldLinkNest RX5 147 "RoofGale$Gang" "hands" "I" "RoofGale") 462 (by decide +kernel) rfl, rfl⟩⟩
theorem fl_X5_150 : FLk RX5 150 0 3 := ⟨_, rfl, by decide, Or.inr ⟨_, nw_at (w := Cond.fieldLinkNest RX5 150 "RoofGale$Gang" "pace" "I" "RoofGale") 466 (by decide +kernel) rfl, rfl⟩⟩
theorem fl_X5_156 : FLk RX5 156 6 6 := ⟨_, rfl, by decide, Or.inr ⟨_, nw_at (w := Cond.fieldLinkNest RX5 156 "RoofGale$Tape" "start" "I" "RoofGale") 302 (by decide +kernel) rfl, rfl⟩⟩
theorem fl_X5_166 : FLk RX5 166 4 6 := ⟨_, rfl, by decide, Or.inr ⟨_, nw_at (w := Cond.fieldLinkNest RX5 166 "RoofGale$Shore" "debts" "[[I" "RoofGale") 549 (by decide +kernel) rfl, rfl⟩⟩
theorem fl_X5_170 : FLk RX5 170 4 5 := ⟨_, rfl, by decide, Or.inr ⟨_, nw_at (w := Cond.fieldLinkNest RX5 170 "RoofGale$Shore" "windCount" "I" "RoofGale") 546 (by decide +kernel) rfl, rfl⟩⟩
theorem fl_X5_173 : FLk RX5 173 4 2 := ⟨_, rfl, by decide, Or.inr ⟨_, nw_at (w := Cond.fieldLinkNest RX5 173 "RoofGale$Shore" "winds" "[LRoofGale$Wind;" "RoofGale") 534 (by decide +kernel) rfl, rfl⟩⟩
theorem fl_X5_177 : FLk RX5 177 8 0 := ⟨_, rfl, by decide, Or.inr ⟨_, nw_at (w := Cond.fieldLinkNest RX5 177 "RoofGale$Wind" "name" "J" "RoofGale") 504 (by decide +kernel) rfl, rfl⟩⟩
theorem fl_X5_180 : FLk RX5 180 8 1 := ⟨_, rfl, by decide, Or.inr ⟨_, nw_at (w := Cond.fieldLinkNest RX5 180 "RoofGale$Wind" "strength" "I" "RoofGale") 507 (by decide +kernel) rfl, rfl⟩⟩
theorem fl_X5_183 : FLk RX5 183 8 2 := ⟨_, rfl, by decide, Or.inr ⟨_, nw_at (w := Cond.fieldLinkNest RX5 183 "RoofGale$Wind" "chances" "I" "RoofGale") 512 (by decide +kernel) rfl, rfl⟩⟩
theorem fl_X5_186 : FLk RX5 186 5 2 := ⟨_, rfl, by decide, Or.inl (gw_at 835 (by decide +kernel) rfl)⟩
theorem fl_X5_189 : FLk RX5 189 4 7 := ⟨_, rfl, by decide, Or.inr ⟨_, nw_at (w := Cond.fieldLinkNest RX5 189 "RoofGale$Shore" "law" "I" "RoofGale") 552 (by decide +kernel) rfl, rfl⟩⟩
theorem ff_X5_9 : FFk RX5 9 5 0 := ⟨_, rfl, by decide, rfl, rfl, gw_at 833 (by decide +kernel) rfl⟩
theorem ff_X5_15 : FFk RX5 15 5 1 := ⟨_, rfl, by decide, rfl, rfl, gw_at 834 (by decide +kernel) rfl⟩
theorem kc_X5_63 : Cond.constantLong RX5 63 (-1) ∈ GW := gw_at 893 (by decide +kernel) rfl
theorem oi_X5_3 : Cond.methodLink RX5 3 Lib.objectInit ∈ GW := gw_at 832 (by decide +kernel) rfl
theorem dX5_init_0 : decode cX5_init 0 = .ok (.aload_n 0, 1) := by decide +kernel
theorem dX5_init_1 : decode cX5_init 1 = .ok (.invokespecial 3, 3) := by decide +kernel
theorem dX5_init_4 : decode cX5_init 4 = .ok (.aload_n 0, 1) := by decide +kernel
theorem dX5_init_5 : decode cX5_init 5 = .ok (.aload_n 1, 1) := by decide +kernel
theorem dX5_init_6 : decode cX5_init 6 = .ok (.putfield 9, 3) := by decide +kernel
theorem dX5_init_9 : decode cX5_init 9 = .ok (.aload_n 0, 1) := by decide +kernel
theorem dX5_init_10 : decode cX5_init 10 = .ok (.aload_n 2, 1) := by decide +kernel
theorem dX5_init_11 : decode cX5_init 11 = .ok (.putfield 15, 3) := by decide +kernel
theorem dX5_init_14 : decode cX5_init 14 = .ok (.return_, 1) := by decide +kernel
def j_X5_init : JD := (yX5_init, cX5_init, 3, none)
def b_X5_init : BD := (1, 0, 0)
theorem dX5_readNewName_0 : decode cX5_readNewName 0 = .ok (.aload_n 0, 1) := by decide +kernel
theorem dX5_readNewName_1 : decode cX5_readNewName 1 = .ok (.getfield 9, 3) := by decide +kernel
theorem dX5_readNewName_4 : decode cX5_readNewName 4 = .ok (.invokevirtual 60, 3) := by decide +kernel
theorem dX5_readNewName_7 : decode cX5_readNewName 7 = .ok (.ifCond .ne 16, 3) := by decide +kernel
theorem dX5_readNewName_10 : decode cX5_readNewName 10 = .ok (.aload_n 0, 1) := by decide +kernel
theorem dX5_readNewName_11 : decode cX5_readNewName 11 = .ok (.getfield 9, 3) := by decide +kernel
theorem dX5_readNewName_14 : decode cX5_readNewName 14 = .ok (.iconst 2, 1) := by decide +kernel
theorem dX5_readNewName_15 : decode cX5_readNewName 15 = .ok (.invokevirtual 53, 3) := by decide +kernel
theorem dX5_readNewName_18 : decode cX5_readNewName 18 = .ok (.pop, 1) := by decide +kernel
theorem dX5_readNewName_19 : decode cX5_readNewName 19 = .ok (.ldc2_w 63, 3) := by decide +kernel
theorem dX5_readNewName_22 : decode cX5_readNewName 22 = .ok (.lreturn, 1) := by decide +kernel
theorem dX5_readNewName_23 : decode cX5_readNewName 23 = .ok (.aload_n 0, 1) := by decide +kernel
theorem dX5_readNewName_24 : decode cX5_readNewName 24 = .ok (.getfield 15, 3) := by decide +kernel
theorem dX5_readNewName_27 : decode cX5_readNewName 27 = .ok (.aload_n 0, 1) := by decide +kernel
theorem dX5_readNewName_28 : decode cX5_readNewName 28 = .ok (.getfield 9, 3) := by decide +kernel
theorem dX5_readNewName_31 : decode cX5_readNewName 31 = .ok (.getfield 65, 3) := by decide +kernel
theorem dX5_readNewName_34 : decode cX5_readNewName 34 = .ok (.invokevirtual 69, 3) := by decide +kernel
theorem dX5_readNewName_37 : decode cX5_readNewName 37 = .ok (.ifCond .eq 16, 3) := by decide +kernel
theorem dX5_readNewName_40 : decode cX5_readNewName 40 = .ok (.aload_n 0, 1) := by decide +kernel
theorem dX5_readNewName_41 : decode cX5_readNewName 41 = .ok (.getfield 9, 3) := by decide +kernel
theorem dX5_readNewName_44 : decode cX5_readNewName 44 = .ok (.iconst 3, 1) := by decide +kernel
theorem dX5_readNewName_45 : decode cX5_readNewName 45 = .ok (.invokevirtual 53, 3) := by decide +kernel
theorem dX5_readNewName_48 : decode cX5_readNewName 48 = .ok (.pop, 1) := by decide +kernel
theorem dX5_readNewName_49 : decode cX5_readNewName 49 = .ok (.ldc2_w 63, 3) := by decide +kernel
theorem dX5_readNewName_52 : decode cX5_readNewName 52 = .ok (.lreturn, 1) := by decide +kernel
theorem dX5_readNewName_53 : decode cX5_readNewName 53 = .ok (.aload_n 0, 1) := by decide +kernel
theorem dX5_readNewName_54 : decode cX5_readNewName 54 = .ok (.getfield 9, 3) := by decide +kernel
theorem dX5_readNewName_57 : decode cX5_readNewName 57 = .ok (.getfield 65, 3) := by decide +kernel
theorem dX5_readNewName_60 : decode cX5_readNewName 60 = .ok (.lstore_n 1, 1) := by decide +kernel
theorem dX5_readNewName_61 : decode cX5_readNewName 61 = .ok (.aload_n 0, 1) := by decide +kernel
theorem dX5_readNewName_62 : decode cX5_readNewName 62 = .ok (.getfield 9, 3) := by decide +kernel
theorem dX5_readNewName_65 : decode cX5_readNewName 65 = .ok (.invokevirtual 73, 3) := by decide +kernel
theorem dX5_readNewName_68 : decode cX5_readNewName 68 = .ok (.lload_n 1, 1) := by decide +kernel
theorem dX5_readNewName_69 : decode cX5_readNewName 69 = .ok (.lreturn, 1) := by decide +kernel
def j_X5_readNewName : JD := (yX5_readNewName, cX5_readNewName, 3, (some .long))
def b_X5_readNewName : BD := (2, 0, 0)
theorem dX5_readLongAndPegs_0 : decode cX5_readLongAndPegs 0 = .ok (.aload_n 1, 1) := by decide +kernel
theorem dX5_readLongAndPegs_1 : decode cX5_readLongAndPegs 1 = .ok (.iconst 4, 1) := by decide +kernel
theorem dX5_readLongAndPegs_2 : decode cX5_readLongAndPegs 2 = .ok (.putfield 120, 3) := by decide +kernel
theorem dX5_readLongAndPegs_5 : decode cX5_readLongAndPegs 5 = .ok (.aload_n 1, 1) := by decide +kernel
theorem dX5_readLongAndPegs_6 : decode cX5_readLongAndPegs 6 = .ok (.iconst 0, 1) := by decide +kernel
theorem dX5_readLongAndPegs_7 : decode cX5_readLongAndPegs 7 = .ok (.putfield 123, 3) := by decide +kernel
theorem dX5_readLongAndPegs_10 : decode cX5_readLongAndPegs 10 = .ok (.aload_n 0, 1) := by decide +kernel
theorem dX5_readLongAndPegs_11 : decode cX5_readLongAndPegs 11 = .ok (.getfield 9, 3) := by decide +kernel
theorem dX5_readLongAndPegs_14 : decode cX5_readLongAndPegs 14 = .ok (.getfield 34, 3) := by decide +kernel
theorem dX5_readLongAndPegs_17 : decode cX5_readLongAndPegs 17 = .ok (.iconst 5, 1) := by decide +kernel
theorem dX5_readLongAndPegs_18 : decode cX5_readLongAndPegs 18 = .ok (.if_icmp .ne 30, 3) := by decide +kernel
theorem dX5_readLongAndPegs_21 : decode cX5_readLongAndPegs 21 = .ok (.aload_n 0, 1) := by decide +kernel
theorem dX5_readLongAndPegs_22 : decode cX5_readLongAndPegs 22 = .ok (.getfield 9, 3) := by decide +kernel
theorem dX5_readLongAndPegs_25 : decode cX5_readLongAndPegs 25 = .ok (.iconst 5, 1) := by decide +kernel
theorem dX5_readLongAndPegs_26 : decode cX5_readLongAndPegs 26 = .ok (.iconst 1, 1) := by decide +kernel
theorem dX5_readLongAndPegs_27 : decode cX5_readLongAndPegs 27 = .ok (.bipush 20, 2) := by decide +kernel
theorem dX5_readLongAndPegs_29 : decode cX5_readLongAndPegs 29 = .ok (.invokevirtual 90, 3) := by decide +kernel
theorem dX5_readLongAndPegs_32 : decode cX5_readLongAndPegs 32 = .ok (.ifCond .ne 5, 3) := by decide +kernel
theorem dX5_readLongAndPegs_35 : decode cX5_readLongAndPegs 35 = .ok (.iconst 0, 1) := by decide +kernel
theorem dX5_readLongAndPegs_36 : decode cX5_readLongAndPegs 36 = .ok (.ireturn, 1) := by decide +kernel
theorem dX5_readLongAndPegs_37 : decode cX5_readLongAndPegs 37 = .ok (.aload_n 1, 1) := by decide +kernel
theorem dX5_readLongAndPegs_38 : decode cX5_readLongAndPegs 38 = .ok (.aload_n 0, 1) := by decide +kernel
theorem dX5_readLongAndPegs_39 : decode cX5_readLongAndPegs 39 = .ok (.getfield 9, 3) := by decide +kernel
theorem dX5_readLongAndPegs_42 : decode cX5_readLongAndPegs 42 = .ok (.getfield 94, 3) := by decide +kernel
theorem dX5_readLongAndPegs_45 : decode cX5_readLongAndPegs 45 = .ok (.putfield 120, 3) := by decide +kernel
theorem dX5_readLongAndPegs_48 : decode cX5_readLongAndPegs 48 = .ok (.aload_n 0, 1) := by decide +kernel
theorem dX5_readLongAndPegs_49 : decode cX5_readLongAndPegs 49 = .ok (.getfield 9, 3) := by decide +kernel
theorem dX5_readLongAndPegs_52 : decode cX5_readLongAndPegs 52 = .ok (.getfield 34, 3) := by decide +kernel
theorem dX5_readLongAndPegs_55 : decode cX5_readLongAndPegs 55 = .ok (.bipush 6, 2) := by decide +kernel
theorem dX5_readLongAndPegs_57 : decode cX5_readLongAndPegs 57 = .ok (.if_icmp .ne 31, 3) := by decide +kernel
theorem dX5_readLongAndPegs_60 : decode cX5_readLongAndPegs 60 = .ok (.aload_n 0, 1) := by decide +kernel
theorem dX5_readLongAndPegs_61 : decode cX5_readLongAndPegs 61 = .ok (.getfield 9, 3) := by decide +kernel
theorem dX5_readLongAndPegs_64 : decode cX5_readLongAndPegs 64 = .ok (.bipush 6, 2) := by decide +kernel
theorem dX5_readLongAndPegs_66 : decode cX5_readLongAndPegs 66 = .ok (.iconst 0, 1) := by decide +kernel
theorem dX5_readLongAndPegs_67 : decode cX5_readLongAndPegs 67 = .ok (.bipush 9, 2) := by decide +kernel
theorem dX5_readLongAndPegs_69 : decode cX5_readLongAndPegs 69 = .ok (.invokevirtual 90, 3) := by decide +kernel
theorem dX5_readLongAndPegs_72 : decode cX5_readLongAndPegs 72 = .ok (.ifCond .ne 5, 3) := by decide +kernel
theorem dX5_readLongAndPegs_75 : decode cX5_readLongAndPegs 75 = .ok (.iconst 0, 1) := by decide +kernel
theorem dX5_readLongAndPegs_76 : decode cX5_readLongAndPegs 76 = .ok (.ireturn, 1) := by decide +kernel
theorem dX5_readLongAndPegs_77 : decode cX5_readLongAndPegs 77 = .ok (.aload_n 1, 1) := by decide +kernel
theorem dX5_readLongAndPegs_78 : decode cX5_readLongAndPegs 78 = .ok (.aload_n 0, 1) := by decide +kernel
theorem dX5_readLongAndPegs_79 : decode cX5_readLongAndPegs 79 = .ok (.getfield 9, 3) := by decide +kernel
theorem dX5_readLongAndPegs_82 : decode cX5_readLongAndPegs 82 = .ok (.getfield 94, 3) := by decide +kernel
theorem dX5_readLongAndPegs_85 : decode cX5_readLongAndPegs 85 = .ok (.putfield 123, 3) := by decide +kernel
theorem dX5_readLongAndPegs_88 : decode cX5_readLongAndPegs 88 = .ok (.iconst 1, 1) := by decide +kernel
theorem dX5_readLongAndPegs_89 : decode cX5_readLongAndPegs 89 = .ok (.ireturn, 1) := by decide +kernel
def j_X5_readLongAndPegs : JD := (yX5_readLongAndPegs, cX5_readLongAndPegs, 2, (some .boolean))
def b_X5_readLongAndPegs : BD := (4, 0, 0)
theorem dX5_readHouse_0 : decode cX5_readHouse 0 = .ok (.aload_n 0, 1) := by decide +kernel
theorem dX5_readHouse_1 : decode cX5_readHouse 1 = .ok (.getfield 15, 3) := by decide +kernel
theorem dX5_readHouse_4 : decode cX5_readHouse 4 = .ok (.getfield 76, 3) := by decide +kernel
theorem dX5_readHouse_7 : decode cX5_readHouse 7 = .ok (.bipush 8, 2) := by decide +kernel
theorem dX5_readHouse_9 : decode cX5_readHouse 9 = .ok (.if_icmp .lt 13, 3) := by decide +kernel
theorem dX5_readHouse_12 : decode cX5_readHouse 12 = .ok (.aload_n 0, 1) := by decide +kernel
theorem dX5_readHouse_13 : decode cX5_readHouse 13 = .ok (.getfield 9, 3) := by decide +kernel
theorem dX5_readHouse_16 : decode cX5_readHouse 16 = .ok (.bipush 6, 2) := by decide +kernel
theorem dX5_readHouse_18 : decode cX5_readHouse 18 = .ok (.invokevirtual 53, 3) := by decide +kernel
theorem dX5_readHouse_21 : decode cX5_readHouse 21 = .ok (.ireturn, 1) := by decide +kernel
theorem dX5_readHouse_22 : decode cX5_readHouse 22 = .ok (.aload_n 0, 1) := by decide +kernel
theorem dX5_readHouse_23 : decode cX5_readHouse 23 = .ok (.getfield 15, 3) := by decide +kernel
theorem dX5_readHouse_26 : decode cX5_readHouse 26 = .ok (.getfield 79, 3) := by decide +kernel
theorem dX5_readHouse_29 : decode cX5_readHouse 29 = .ok (.aload_n 0, 1) := by decide +kernel
theorem dX5_readHouse_30 : decode cX5_readHouse 30 = .ok (.getfield 15, 3) := by decide +kernel
theorem dX5_readHouse_33 : decode cX5_readHouse 33 = .ok (.getfield 76, 3) := by decide +kernel
theorem dX5_readHouse_36 : decode cX5_readHouse 36 = .ok (.aaload, 1) := by decide +kernel
theorem dX5_readHouse_37 : decode cX5_readHouse 37 = .ok (.astore_n 1, 1) := by decide +kernel
theorem dX5_readHouse_38 : decode cX5_readHouse 38 = .ok (.aload_n 0, 1) := by decide +kernel
theorem dX5_readHouse_39 : decode cX5_readHouse 39 = .ok (.getfield 9, 3) := by decide +kernel
theorem dX5_readHouse_42 : decode cX5_readHouse 42 = .ok (.invokevirtual 73, 3) := by decide +kernel
theorem dX5_readHouse_45 : decode cX5_readHouse 45 = .ok (.aload_n 1, 1) := by decide +kernel
theorem dX5_readHouse_46 : decode cX5_readHouse 46 = .ok (.aload_n 0, 1) := by decide +kernel
theorem dX5_readHouse_47 : decode cX5_readHouse 47 = .ok (.invokevirtual 83, 3) := by decide +kernel
theorem dX5_readHouse_50 : decode cX5_readHouse 50 = .ok (.putfield 87, 3) := by decide +kernel
theorem dX5_readHouse_53 : decode cX5_readHouse 53 = .ok (.aload_n 1, 1) := by decide +kernel
theorem dX5_readHouse_54 : decode cX5_readHouse 54 = .ok (.getfield 87, 3) := by decide +kernel
theorem dX5_readHouse_57 : decode cX5_readHouse 57 = .ok (.ldc2_w 63, 3) := by decide +kernel
theorem dX5_readHouse_60 : decode cX5_readHouse 60 = .ok (.lcmp, 1) := by decide +kernel
theorem dX5_readHouse_61 : decode cX5_readHouse 61 = .ok (.ifCond .eq 17, 3) := by decide +kernel
theorem dX5_readHouse_64 : decode cX5_readHouse 64 = .ok (.aload_n 0, 1) := by decide +kernel
theorem dX5_readHouse_65 : decode cX5_readHouse 65 = .ok (.getfield 9, 3) := by decide +kernel
theorem dX5_readHouse_68 : decode cX5_readHouse 68 = .ok (.iconst 1, 1) := by decide +kernel
theorem dX5_readHouse_69 : decode cX5_readHouse 69 = .ok (.iconst 0, 1) := by decide +kernel
theorem dX5_readHouse_70 : decode cX5_readHouse 70 = .ok (.bipush 60, 2) := by decide +kernel
theorem dX5_readHouse_72 : decode cX5_readHouse 72 = .ok (.invokevirtual 90, 3) := by decide +kernel
theorem dX5_readHouse_75 : decode cX5_readHouse 75 = .ok (.ifCond .ne 5, 3) := by decide +kernel
theorem dX5_readHouse_78 : decode cX5_readHouse 78 = .ok (.iconst 0, 1) := by decide +kernel
theorem dX5_readHouse_79 : decode cX5_readHouse 79 = .ok (.ireturn, 1) := by decide +kernel
theorem dX5_readHouse_80 : decode cX5_readHouse 80 = .ok (.aload_n 1, 1) := by decide +kernel
theorem dX5_readHouse_81 : decode cX5_readHouse 81 = .ok (.aload_n 0, 1) := by decide +kernel
theorem dX5_readHouse_82 : decode cX5_readHouse 82 = .ok (.getfield 9, 3) := by decide +kernel
theorem dX5_readHouse_85 : decode cX5_readHouse 85 = .ok (.getfield 94, 3) := by decide +kernel
theorem dX5_readHouse_88 : decode cX5_readHouse 88 = .ok (.putfield 97, 3) := by decide +kernel
theorem dX5_readHouse_91 : decode cX5_readHouse 91 = .ok (.aload_n 0, 1) := by decide +kernel
theorem dX5_readHouse_92 : decode cX5_readHouse 92 = .ok (.getfield 9, 3) := by decide +kernel
theorem dX5_readHouse_95 : decode cX5_readHouse 95 = .ok (.iconst 2, 1) := by decide +kernel
theorem dX5_readHouse_96 : decode cX5_readHouse 96 = .ok (.iconst 0, 1) := by decide +kernel
theorem dX5_readHouse_97 : decode cX5_readHouse 97 = .ok (.sipush 999, 3) := by decide +kernel
theorem dX5_readHouse_100 : decode cX5_readHouse 100 = .ok (.invokevirtual 90, 3) := by decide +kernel
theorem dX5_readHouse_103 : decode cX5_readHouse 103 = .ok (.ifCond .ne 5, 3) := by decide +kernel
theorem dX5_readHouse_106 : decode cX5_readHouse 106 = .ok (.iconst 0, 1) := by decide +kernel
theorem dX5_readHouse_107 : decode cX5_readHouse 107 = .ok (.ireturn, 1) := by decide +kernel
theorem dX5_readHouse_108 : decode cX5_readHouse 108 = .ok (.aload_n 1, 1) := by decide +kernel
theorem dX5_readHouse_109 : decode cX5_readHouse 109 = .ok (.aload_n 0, 1) := by decide +kernel
theorem dX5_readHouse_110 : decode cX5_readHouse 110 = .ok (.getfield 9, 3) := by decide +kernel
theorem dX5_readHouse_113 : decode cX5_readHouse 113 = .ok (.getfield 94, 3) := by decide +kernel
theorem dX5_readHouse_116 : decode cX5_readHouse 116 = .ok (.putfield 100, 3) := by decide +kernel
theorem dX5_readHouse_119 : decode cX5_readHouse 119 = .ok (.aload_n 0, 1) := by decide +kernel
theorem dX5_readHouse_120 : decode cX5_readHouse 120 = .ok (.getfield 9, 3) := by decide +kernel
theorem dX5_readHouse_123 : decode cX5_readHouse 123 = .ok (.iconst 3, 1) := by decide +kernel
theorem dX5_readHouse_124 : decode cX5_readHouse 124 = .ok (.iconst 1, 1) := by decide +kernel
theorem dX5_readHouse_125 : decode cX5_readHouse 125 = .ok (.bipush 9, 2) := by decide +kernel
theorem dX5_readHouse_127 : decode cX5_readHouse 127 = .ok (.invokevirtual 90, 3) := by decide +kernel
theorem dX5_readHouse_130 : decode cX5_readHouse 130 = .ok (.ifCond .ne 5, 3) := by decide +kernel
theorem dX5_readHouse_133 : decode cX5_readHouse 133 = .ok (.iconst 0, 1) := by decide +kernel
theorem dX5_readHouse_134 : decode cX5_readHouse 134 = .ok (.ireturn, 1) := by decide +kernel
theorem dX5_readHouse_135 : decode cX5_readHouse 135 = .ok (.aload_n 1, 1) := by decide +kernel
theorem dX5_readHouse_136 : decode cX5_readHouse 136 = .ok (.aload_n 0, 1) := by decide +kernel
theorem dX5_readHouse_137 : decode cX5_readHouse 137 = .ok (.getfield 9, 3) := by decide +kernel
theorem dX5_readHouse_140 : decode cX5_readHouse 140 = .ok (.getfield 94, 3) := by decide +kernel
theorem dX5_readHouse_143 : decode cX5_readHouse 143 = .ok (.putfield 103, 3) := by decide +kernel
theorem dX5_readHouse_146 : decode cX5_readHouse 146 = .ok (.aload_n 0, 1) := by decide +kernel
theorem dX5_readHouse_147 : decode cX5_readHouse 147 = .ok (.getfield 9, 3) := by decide +kernel
theorem dX5_readHouse_150 : decode cX5_readHouse 150 = .ok (.iconst 4, 1) := by decide +kernel
theorem dX5_readHouse_151 : decode cX5_readHouse 151 = .ok (.iconst 1, 1) := by decide +kernel
theorem dX5_readHouse_152 : decode cX5_readHouse 152 = .ok (.bipush 20, 2) := by decide +kernel
theorem dX5_readHouse_154 : decode cX5_readHouse 154 = .ok (.invokevirtual 90, 3) := by decide +kernel
theorem dX5_readHouse_157 : decode cX5_readHouse 157 = .ok (.ifCond .ne 5, 3) := by decide +kernel
theorem dX5_readHouse_160 : decode cX5_readHouse 160 = .ok (.iconst 0, 1) := by decide +kernel
theorem dX5_readHouse_161 : decode cX5_readHouse 161 = .ok (.ireturn, 1) := by decide +kernel
theorem dX5_readHouse_162 : decode cX5_readHouse 162 = .ok (.aload_n 1, 1) := by decide +kernel
theorem dX5_readHouse_163 : decode cX5_readHouse 163 = .ok (.aload_n 0, 1) := by decide +kernel
theorem dX5_readHouse_164 : decode cX5_readHouse 164 = .ok (.getfield 9, 3) := by decide +kernel
theorem dX5_readHouse_167 : decode cX5_readHouse 167 = .ok (.getfield 94, 3) := by decide +kernel
theorem dX5_readHouse_170 : decode cX5_readHouse 170 = .ok (.putfield 106, 3) := by decide +kernel
theorem dX5_readHouse_173 : decode cX5_readHouse 173 = .ok (.aload_n 1, 1) := by decide +kernel
theorem dX5_readHouse_174 : decode cX5_readHouse 174 = .ok (.aload_n 1, 1) := by decide +kernel
theorem dX5_readHouse_175 : decode cX5_readHouse 175 = .ok (.getfield 103, 3) := by decide +kernel
theorem dX5_readHouse_178 : decode cX5_readHouse 178 = .ok (.putfield 109, 3) := by decide +kernel
theorem dX5_readHouse_181 : decode cX5_readHouse 181 = .ok (.aload_n 1, 1) := by decide +kernel
theorem dX5_readHouse_182 : decode cX5_readHouse 182 = .ok (.iconst 1, 1) := by decide +kernel
theorem dX5_readHouse_183 : decode cX5_readHouse 183 = .ok (.putfield 112, 3) := by decide +kernel
theorem dX5_readHouse_186 : decode cX5_readHouse 186 = .ok (.aload_n 0, 1) := by decide +kernel
theorem dX5_readHouse_187 : decode cX5_readHouse 187 = .ok (.getfield 15, 3) := by decide +kernel
theorem dX5_readHouse_190 : decode cX5_readHouse 190 = .ok (.dup, 1) := by decide +kernel
theorem dX5_readHouse_191 : decode cX5_readHouse 191 = .ok (.getfield 76, 3) := by decide +kernel
theorem dX5_readHouse_194 : decode cX5_readHouse 194 = .ok (.iconst 1, 1) := by decide +kernel
theorem dX5_readHouse_195 : decode cX5_readHouse 195 = .ok (.iadd, 1) := by decide +kernel
theorem dX5_readHouse_196 : decode cX5_readHouse 196 = .ok (.putfield 76, 3) := by decide +kernel
theorem dX5_readHouse_199 : decode cX5_readHouse 199 = .ok (.aload_n 0, 1) := by decide +kernel
theorem dX5_readHouse_200 : decode cX5_readHouse 200 = .ok (.aload_n 1, 1) := by decide +kernel
theorem dX5_readHouse_201 : decode cX5_readHouse 201 = .ok (.invokevirtual 116, 3) := by decide +kernel
theorem dX5_readHouse_204 : decode cX5_readHouse 204 = .ok (.ireturn, 1) := by decide +kernel
def j_X5_readHouse : JD := (yX5_readHouse, cX5_readHouse, 2, (some .boolean))
def b_X5_readHouse : BD := (5, 0, 0)
theorem dX5_readGang_0 : decode cX5_readGang 0 = .ok (.aload_n 0, 1) := by decide +kernel
theorem dX5_readGang_1 : decode cX5_readGang 1 = .ok (.getfield 15, 3) := by decide +kernel
theorem dX5_readGang_4 : decode cX5_readGang 4 = .ok (.getfield 126, 3) := by decide +kernel
theorem dX5_readGang_7 : decode cX5_readGang 7 = .ok (.iconst 4, 1) := by decide +kernel
theorem dX5_readGang_8 : decode cX5_readGang 8 = .ok (.if_icmp .lt 13, 3) := by decide +kernel
theorem dX5_readGang_11 : decode cX5_readGang 11 = .ok (.aload_n 0, 1) := by decide +kernel
theorem dX5_readGang_12 : decode cX5_readGang 12 = .ok (.getfield 9, 3) := by decide +kernel
theorem dX5_readGang_15 : decode cX5_readGang 15 = .ok (.bipush 6, 2) := by decide +kernel
theorem dX5_readGang_17 : decode cX5_readGang 17 = .ok (.invokevirtual 53, 3) := by decide +kernel
theorem dX5_readGang_20 : decode cX5_readGang 20 = .ok (.ireturn, 1) := by decide +kernel
theorem dX5_readGang_21 : decode cX5_readGang 21 = .ok (.aload_n 0, 1) := by decide +kernel
theorem dX5_readGang_22 : decode cX5_readGang 22 = .ok (.getfield 15, 3) := by decide +kernel
theorem dX5_readGang_25 : decode cX5_readGang 25 = .ok (.getfield 129, 3) := by decide +kernel
theorem dX5_readGang_28 : decode cX5_readGang 28 = .ok (.aload_n 0, 1) := by decide +kernel
theorem dX5_readGang_29 : decode cX5_readGang 29 = .ok (.getfield 15, 3) := by decide +kernel
theorem dX5_readGang_32 : decode cX5_readGang 32 = .ok (.getfield 126, 3) := by decide +kernel
theorem dX5_readGang_35 : decode cX5_readGang 35 = .ok (.aaload, 1) := by decide +kernel
theorem dX5_readGang_36 : decode cX5_readGang 36 = .ok (.astore_n 1, 1) := by decide +kernel
theorem dX5_readGang_37 : decode cX5_readGang 37 = .ok (.aload_n 0, 1) := by decide +kernel
theorem dX5_readGang_38 : decode cX5_readGang 38 = .ok (.getfield 9, 3) := by decide +kernel
theorem dX5_readGang_41 : decode cX5_readGang 41 = .ok (.invokevirtual 73, 3) := by decide +kernel
theorem dX5_readGang_44 : decode cX5_readGang 44 = .ok (.aload_n 1, 1) := by decide +kernel
theorem dX5_readGang_45 : decode cX5_readGang 45 = .ok (.aload_n 0, 1) := by decide +kernel
theorem dX5_readGang_46 : decode cX5_readGang 46 = .ok (.invokevirtual 83, 3) := by decide +kernel
theorem dX5_readGang_49 : decode cX5_readGang 49 = .ok (.putfield 133, 3) := by decide +kernel
theorem dX5_readGang_52 : decode cX5_readGang 52 = .ok (.aload_n 1, 1) := by decide +kernel
theorem dX5_readGang_53 : decode cX5_readGang 53 = .ok (.getfield 133, 3) := by decide +kernel
theorem dX5_readGang_56 : decode cX5_readGang 56 = .ok (.ldc2_w 63, 3) := by decide +kernel
theorem dX5_readGang_59 : decode cX5_readGang 59 = .ok (.lcmp, 1) := by decide +kernel
theorem dX5_readGang_60 : decode cX5_readGang 60 = .ok (.ifCond .eq 15, 3) := by decide +kernel
theorem dX5_readGang_63 : decode cX5_readGang 63 = .ok (.aload_n 0, 1) := by decide +kernel
theorem dX5_readGang_64 : decode cX5_readGang 64 = .ok (.getfield 9, 3) := by decide +kernel
theorem dX5_readGang_67 : decode cX5_readGang 67 = .ok (.bipush 13, 2) := by decide +kernel
theorem dX5_readGang_69 : decode cX5_readGang 69 = .ok (.invokevirtual 136, 3) := by decide +kernel
theorem dX5_readGang_72 : decode cX5_readGang 72 = .ok (.ifCond .ne 5, 3) := by decide +kernel
theorem dX5_readGang_75 : decode cX5_readGang 75 = .ok (.iconst 0, 1) := by decide +kernel
theorem dX5_readGang_76 : decode cX5_readGang 76 = .ok (.ireturn, 1) := by decide +kernel
theorem dX5_readGang_77 : decode cX5_readGang 77 = .ok (.aload_n 0, 1) := by decide +kernel
theorem dX5_readGang_78 : decode cX5_readGang 78 = .ok (.getfield 9, 3) := by decide +kernel
theorem dX5_readGang_81 : decode cX5_readGang 81 = .ok (.aload_n 0, 1) := by decide +kernel
theorem dX5_readGang_82 : decode cX5_readGang 82 = .ok (.getfield 15, 3) := by decide +kernel
theorem dX5_readGang_85 : decode cX5_readGang 85 = .ok (.iconst 0, 1) := by decide +kernel
theorem dX5_readGang_86 : decode cX5_readGang 86 = .ok (.invokevirtual 139, 3) := by decide +kernel
theorem dX5_readGang_89 : decode cX5_readGang 89 = .ok (.istore_n 2, 1) := by decide +kernel
theorem dX5_readGang_90 : decode cX5_readGang 90 = .ok (.iload_n 2, 1) := by decide +kernel
theorem dX5_readGang_91 : decode cX5_readGang 91 = .ok (.iconst (-1), 1) := by decide +kernel
theorem dX5_readGang_92 : decode cX5_readGang 92 = .ok (.if_icmp .eq 18, 3) := by decide +kernel
theorem dX5_readGang_95 : decode cX5_readGang 95 = .ok (.aload_n 0, 1) := by decide +kernel
theorem dX5_readGang_96 : decode cX5_readGang 96 = .ok (.getfield 9, 3) := by decide +kernel
theorem dX5_readGang_99 : decode cX5_readGang 99 = .ok (.bipush 8, 2) := by decide +kernel
theorem dX5_readGang_101 : decode cX5_readGang 101 = .ok (.iconst 1, 1) := by decide +kernel
theorem dX5_readGang_102 : decode cX5_readGang 102 = .ok (.bipush 40, 2) := by decide +kernel
theorem dX5_readGang_104 : decode cX5_readGang 104 = .ok (.invokevirtual 90, 3) := by decide +kernel
theorem dX5_readGang_107 : decode cX5_readGang 107 = .ok (.ifCond .ne 5, 3) := by decide +kernel
theorem dX5_readGang_110 : decode cX5_readGang 110 = .ok (.iconst 0, 1) := by decide +kernel
theorem dX5_readGang_111 : decode cX5_readGang 111 = .ok (.ireturn, 1) := by decide +kernel
theorem dX5_readGang_112 : decode cX5_readGang 112 = .ok (.aload_n 1, 1) := by decide +kernel
theorem dX5_readGang_113 : decode cX5_readGang 113 = .ok (.iload_n 2, 1) := by decide +kernel
theorem dX5_readGang_114 : decode cX5_readGang 114 = .ok (.putfield 143, 3) := by decide +kernel
theorem dX5_readGang_117 : decode cX5_readGang 117 = .ok (.aload_n 1, 1) := by decide +kernel
theorem dX5_readGang_118 : decode cX5_readGang 118 = .ok (.aload_n 0, 1) := by decide +kernel
theorem dX5_readGang_119 : decode cX5_readGang 119 = .ok (.getfield 15, 3) := by decide +kernel
theorem dX5_readGang_122 : decode cX5_readGang 122 = .ok (.getfield 79, 3) := by decide +kernel
theorem dX5_readGang_125 : decode cX5_readGang 125 = .ok (.iload_n 2, 1) := by decide +kernel
theorem dX5_readGang_126 : decode cX5_readGang 126 = .ok (.aaload, 1) := by decide +kernel
theorem dX5_readGang_127 : decode cX5_readGang 127 = .ok (.getfield 97, 3) := by decide +kernel
theorem dX5_readGang_130 : decode cX5_readGang 130 = .ok (.putfield 146, 3) := by decide +kernel
theorem dX5_readGang_133 : decode cX5_readGang 133 = .ok (.aload_n 1, 1) := by decide +kernel
theorem dX5_readGang_134 : decode cX5_readGang 134 = .ok (.aload_n 0, 1) := by decide +kernel
theorem dX5_readGang_135 : decode cX5_readGang 135 = .ok (.getfield 9, 3) := by decide +kernel
theorem dX5_readGang_138 : decode cX5_readGang 138 = .ok (.getfield 94, 3) := by decide +kernel
theorem dX5_readGang_141 : decode cX5_readGang 141 = .ok (.putfield 147, 3) := by decide +kernel
theorem dX5_readGang_144 : decode cX5_readGang 144 = .ok (.aload_n 1, 1) := by decide +kernel
theorem dX5_readGang_145 : decode cX5_readGang 145 = .ok (.iconst 1, 1) := by decide +kernel
theorem dX5_readGang_146 : decode cX5_readGang 146 = .ok (.putfield 150, 3) := by decide +kernel
theorem dX5_readGang_149 : decode cX5_readGang 149 = .ok (.aload_n 1, 1) := by decide +kernel
theorem dX5_readGang_150 : decode cX5_readGang 150 = .ok (.invokevirtual 153, 3) := by decide +kernel
theorem dX5_readGang_153 : decode cX5_readGang 153 = .ok (.aload_n 0, 1) := by decide +kernel
theorem dX5_readGang_154 : decode cX5_readGang 154 = .ok (.getfield 15, 3) := by decide +kernel
theorem dX5_readGang_157 : decode cX5_readGang 157 = .ok (.dup, 1) := by decide +kernel
theorem dX5_readGang_158 : decode cX5_readGang 158 = .ok (.getfield 126, 3) := by decide +kernel
theorem dX5_readGang_161 : decode cX5_readGang 161 = .ok (.iconst 1, 1) := by decide +kernel
theorem dX5_readGang_162 : decode cX5_readGang 162 = .ok (.iadd, 1) := by decide +kernel
theorem dX5_readGang_163 : decode cX5_readGang 163 = .ok (.putfield 126, 3) := by decide +kernel
theorem dX5_readGang_166 : decode cX5_readGang 166 = .ok (.aload_n 0, 1) := by decide +kernel
theorem dX5_readGang_167 : decode cX5_readGang 167 = .ok (.getfield 9, 3) := by decide +kernel
theorem dX5_readGang_170 : decode cX5_readGang 170 = .ok (.getfield 34, 3) := by decide +kernel
theorem dX5_readGang_173 : decode cX5_readGang 173 = .ok (.bipush 9, 2) := by decide +kernel
theorem dX5_readGang_175 : decode cX5_readGang 175 = .ok (.if_icmp .ne 31, 3) := by decide +kernel
theorem dX5_readGang_178 : decode cX5_readGang 178 = .ok (.aload_n 0, 1) := by decide +kernel
theorem dX5_readGang_179 : decode cX5_readGang 179 = .ok (.getfield 9, 3) := by decide +kernel
theorem dX5_readGang_182 : decode cX5_readGang 182 = .ok (.bipush 9, 2) := by decide +kernel
theorem dX5_readGang_184 : decode cX5_readGang 184 = .ok (.iconst 0, 1) := by decide +kernel
theorem dX5_readGang_185 : decode cX5_readGang 185 = .ok (.bipush 9, 2) := by decide +kernel
theorem dX5_readGang_187 : decode cX5_readGang 187 = .ok (.invokevirtual 90, 3) := by decide +kernel
theorem dX5_readGang_190 : decode cX5_readGang 190 = .ok (.ifCond .ne 5, 3) := by decide +kernel
theorem dX5_readGang_193 : decode cX5_readGang 193 = .ok (.iconst 0, 1) := by decide +kernel
theorem dX5_readGang_194 : decode cX5_readGang 194 = .ok (.ireturn, 1) := by decide +kernel
theorem dX5_readGang_195 : decode cX5_readGang 195 = .ok (.aload_n 1, 1) := by decide +kernel
theorem dX5_readGang_196 : decode cX5_readGang 196 = .ok (.aload_n 0, 1) := by decide +kernel
theorem dX5_readGang_197 : decode cX5_readGang 197 = .ok (.getfield 9, 3) := by decide +kernel
theorem dX5_readGang_200 : decode cX5_readGang 200 = .ok (.getfield 94, 3) := by decide +kernel
theorem dX5_readGang_203 : decode cX5_readGang 203 = .ok (.putfield 150, 3) := by decide +kernel
theorem dX5_readGang_206 : decode cX5_readGang 206 = .ok (.iconst 1, 1) := by decide +kernel
theorem dX5_readGang_207 : decode cX5_readGang 207 = .ok (.ireturn, 1) := by decide +kernel
def j_X5_readGang : JD := (yX5_readGang, cX5_readGang, 3, (some .boolean))
def b_X5_readGang : BD := (4, 0, 0)
theorem dX5_readHelped_0 : decode cX5_readHelped 0 = .ok (.aload_n 0, 1) := by decide +kernel
theorem dX5_readHelped_1 : decode cX5_readHelped 1 = .ok (.getfield 9, 3) := by decide +kernel
theorem dX5_readHelped_4 : decode cX5_readHelped 4 = .ok (.invokevirtual 73, 3) := by decide +kernel
theorem dX5_readHelped_7 : decode cX5_readHelped 7 = .ok (.aload_n 0, 1) := by decide +kernel
theorem dX5_readHelped_8 : decode cX5_readHelped 8 = .ok (.getfield 9, 3) := by decide +kernel
theorem dX5_readHelped_11 : decode cX5_readHelped 11 = .ok (.aload_n 0, 1) := by decide +kernel
theorem dX5_readHelped_12 : decode cX5_readHelped 12 = .ok (.getfield 15, 3) := by decide +kernel
theorem dX5_readHelped_15 : decode cX5_readHelped 15 = .ok (.iconst 0, 1) := by decide +kernel
theorem dX5_readHelped_16 : decode cX5_readHelped 16 = .ok (.invokevirtual 139, 3) := by decide +kernel
theorem dX5_readHelped_19 : decode cX5_readHelped 19 = .ok (.istore_n 1, 1) := by decide +kernel
theorem dX5_readHelped_20 : decode cX5_readHelped 20 = .ok (.iload_n 1, 1) := by decide +kernel
theorem dX5_readHelped_21 : decode cX5_readHelped 21 = .ok (.iconst (-1), 1) := by decide +kernel
theorem dX5_readHelped_22 : decode cX5_readHelped 22 = .ok (.if_icmp .eq 15, 3) := by decide +kernel
theorem dX5_readHelped_25 : decode cX5_readHelped 25 = .ok (.aload_n 0, 1) := by decide +kernel
theorem dX5_readHelped_26 : decode cX5_readHelped 26 = .ok (.getfield 9, 3) := by decide +kernel
theorem dX5_readHelped_29 : decode cX5_readHelped 29 = .ok (.bipush 11, 2) := by decide +kernel
theorem dX5_readHelped_31 : decode cX5_readHelped 31 = .ok (.invokevirtual 136, 3) := by decide +kernel
theorem dX5_readHelped_34 : decode cX5_readHelped 34 = .ok (.ifCond .ne 5, 3) := by decide +kernel
theorem dX5_readHelped_37 : decode cX5_readHelped 37 = .ok (.iconst 0, 1) := by decide +kernel
theorem dX5_readHelped_38 : decode cX5_readHelped 38 = .ok (.ireturn, 1) := by decide +kernel
theorem dX5_readHelped_39 : decode cX5_readHelped 39 = .ok (.aload_n 0, 1) := by decide +kernel
theorem dX5_readHelped_40 : decode cX5_readHelped 40 = .ok (.getfield 9, 3) := by decide +kernel
theorem dX5_readHelped_43 : decode cX5_readHelped 43 = .ok (.getfield 156, 3) := by decide +kernel
theorem dX5_readHelped_46 : decode cX5_readHelped 46 = .ok (.istore_n 2, 1) := by decide +kernel
theorem dX5_readHelped_47 : decode cX5_readHelped 47 = .ok (.aload_n 0, 1) := by decide +kernel
theorem dX5_readHelped_48 : decode cX5_readHelped 48 = .ok (.getfield 9, 3) := by decide +kernel
theorem dX5_readHelped_51 : decode cX5_readHelped 51 = .ok (.aload_n 0, 1) := by decide +kernel
theorem dX5_readHelped_52 : decode cX5_readHelped 52 = .ok (.getfield 15, 3) := by decide +kernel
theorem dX5_readHelped_55 : decode cX5_readHelped 55 = .ok (.iconst 0, 1) := by decide +kernel
theorem dX5_readHelped_56 : decode cX5_readHelped 56 = .ok (.invokevirtual 139, 3) := by decide +kernel
theorem dX5_readHelped_59 : decode cX5_readHelped 59 = .ok (.istore_n 3, 1) := by decide +kernel
theorem dX5_readHelped_60 : decode cX5_readHelped 60 = .ok (.iload_n 3, 1) := by decide +kernel
theorem dX5_readHelped_61 : decode cX5_readHelped 61 = .ok (.iconst (-1), 1) := by decide +kernel
theorem dX5_readHelped_62 : decode cX5_readHelped 62 = .ok (.if_icmp .ne 5, 3) := by decide +kernel
theorem dX5_readHelped_65 : decode cX5_readHelped 65 = .ok (.iconst 0, 1) := by decide +kernel
theorem dX5_readHelped_66 : decode cX5_readHelped 66 = .ok (.ireturn, 1) := by decide +kernel
theorem dX5_readHelped_67 : decode cX5_readHelped 67 = .ok (.iload_n 3, 1) := by decide +kernel
theorem dX5_readHelped_68 : decode cX5_readHelped 68 = .ok (.iload_n 1, 1) := by decide +kernel
theorem dX5_readHelped_69 : decode cX5_readHelped 69 = .ok (.if_icmp .ne 13, 3) := by decide +kernel
theorem dX5_readHelped_72 : decode cX5_readHelped 72 = .ok (.aload_n 0, 1) := by decide +kernel
theorem dX5_readHelped_73 : decode cX5_readHelped 73 = .ok (.getfield 9, 3) := by decide +kernel
theorem dX5_readHelped_76 : decode cX5_readHelped 76 = .ok (.iconst 5, 1) := by decide +kernel
theorem dX5_readHelped_77 : decode cX5_readHelped 77 = .ok (.iload_n 2, 1) := by decide +kernel
theorem dX5_readHelped_78 : decode cX5_readHelped 78 = .ok (.invokevirtual 159, 3) := by decide +kernel
theorem dX5_readHelped_81 : decode cX5_readHelped 81 = .ok (.ireturn, 1) := by decide +kernel
theorem dX5_readHelped_82 : decode cX5_readHelped 82 = .ok (.aload_n 0, 1) := by decide +kernel
theorem dX5_readHelped_83 : decode cX5_readHelped 83 = .ok (.getfield 9, 3) := by decide +kernel
theorem dX5_readHelped_86 : decode cX5_readHelped 86 = .ok (.iconst 0, 1) := by decide +kernel
theorem dX5_readHelped_87 : decode cX5_readHelped 87 = .ok (.bipush 99, 2) := by decide +kernel
theorem dX5_readHelped_89 : decode cX5_readHelped 89 = .ok (.invokevirtual 163, 3) := by decide +kernel
theorem dX5_readHelped_92 : decode cX5_readHelped 92 = .ok (.ifCond .ne 5, 3) := by decide +kernel
theorem dX5_readHelped_95 : decode cX5_readHelped 95 = .ok (.iconst 0, 1) := by decide +kernel
theorem dX5_readHelped_96 : decode cX5_readHelped 96 = .ok (.ireturn, 1) := by decide +kernel
theorem dX5_readHelped_97 : decode cX5_readHelped 97 = .ok (.aload_n 0, 1) := by decide +kernel
theorem dX5_readHelped_98 : decode cX5_readHelped 98 = .ok (.getfield 15, 3) := by decide +kernel
theorem dX5_readHelped_101 : decode cX5_readHelped 101 = .ok (.getfield 166, 3) := by decide +kernel
theorem dX5_readHelped_104 : decode cX5_readHelped 104 = .ok (.iload_n 1, 1) := by decide +kernel
theorem dX5_readHelped_105 : decode cX5_readHelped 105 = .ok (.aaload, 1) := by decide +kernel
theorem dX5_readHelped_106 : decode cX5_readHelped 106 = .ok (.iload_n 3, 1) := by decide +kernel
theorem dX5_readHelped_107 : decode cX5_readHelped 107 = .ok (.aload_n 0, 1) := by decide +kernel
theorem dX5_readHelped_108 : decode cX5_readHelped 108 = .ok (.getfield 9, 3) := by decide +kernel
theorem dX5_readHelped_111 : decode cX5_readHelped 111 = .ok (.getfield 94, 3) := by decide +kernel
theorem dX5_readHelped_114 : decode cX5_readHelped 114 = .ok (.iastore, 1) := by decide +kernel
theorem dX5_readHelped_115 : decode cX5_readHelped 115 = .ok (.iconst 1, 1) := by decide +kernel
theorem dX5_readHelped_116 : decode cX5_readHelped 116 = .ok (.ireturn, 1) := by decide +kernel
def j_X5_readHelped : JD := (yX5_readHelped, cX5_readHelped, 4, (some .boolean))
def b_X5_readHelped : BD := (3, 0, 0)
theorem dX5_readWind_0 : decode cX5_readWind 0 = .ok (.aload_n 0, 1) := by decide +kernel
theorem dX5_readWind_1 : decode cX5_readWind 1 = .ok (.getfield 15, 3) := by decide +kernel
theorem dX5_readWind_4 : decode cX5_readWind 4 = .ok (.getfield 170, 3) := by decide +kernel
theorem dX5_readWind_7 : decode cX5_readWind 7 = .ok (.bipush 6, 2) := by decide +kernel
theorem dX5_readWind_9 : decode cX5_readWind 9 = .ok (.if_icmp .lt 13, 3) := by decide +kernel
theorem dX5_readWind_12 : decode cX5_readWind 12 = .ok (.aload_n 0, 1) := by decide +kernel
theorem dX5_readWind_13 : decode cX5_readWind 13 = .ok (.getfield 9, 3) := by decide +kernel
theorem dX5_readWind_16 : decode cX5_readWind 16 = .ok (.bipush 6, 2) := by decide +kernel
theorem dX5_readWind_18 : decode cX5_readWind 18 = .ok (.invokevirtual 53, 3) := by decide +kernel
theorem dX5_readWind_21 : decode cX5_readWind 21 = .ok (.ireturn, 1) := by decide +kernel
theorem dX5_readWind_22 : decode cX5_readWind 22 = .ok (.aload_n 0, 1) := by decide +kernel
theorem dX5_readWind_23 : decode cX5_readWind 23 = .ok (.getfield 15, 3) := by decide +kernel
theorem dX5_readWind_26 : decode cX5_readWind 26 = .ok (.getfield 173, 3) := by decide +kernel
theorem dX5_readWind_29 : decode cX5_readWind 29 = .ok (.aload_n 0, 1) := by decide +kernel
theorem dX5_readWind_30 : decode cX5_readWind 30 = .ok (.getfield 15, 3) := by decide +kernel
theorem dX5_readWind_33 : decode cX5_readWind 33 = .ok (.getfield 170, 3) := by decide +kernel
theorem dX5_readWind_36 : decode cX5_readWind 36 = .ok (.aaload, 1) := by decide +kernel
theorem dX5_readWind_37 : decode cX5_readWind 37 = .ok (.astore_n 1, 1) := by decide +kernel
theorem dX5_readWind_38 : decode cX5_readWind 38 = .ok (.aload_n 0, 1) := by decide +kernel
theorem dX5_readWind_39 : decode cX5_readWind 39 = .ok (.getfield 9, 3) := by decide +kernel
theorem dX5_readWind_42 : decode cX5_readWind 42 = .ok (.invokevirtual 73, 3) := by decide +kernel
theorem dX5_readWind_45 : decode cX5_readWind 45 = .ok (.aload_n 1, 1) := by decide +kernel
theorem dX5_readWind_46 : decode cX5_readWind 46 = .ok (.aload_n 0, 1) := by decide +kernel
theorem dX5_readWind_47 : decode cX5_readWind 47 = .ok (.invokevirtual 83, 3) := by decide +kernel
theorem dX5_readWind_50 : decode cX5_readWind 50 = .ok (.putfield 177, 3) := by decide +kernel
theorem dX5_readWind_53 : decode cX5_readWind 53 = .ok (.aload_n 1, 1) := by decide +kernel
theorem dX5_readWind_54 : decode cX5_readWind 54 = .ok (.getfield 177, 3) := by decide +kernel
theorem dX5_readWind_57 : decode cX5_readWind 57 = .ok (.ldc2_w 63, 3) := by decide +kernel
theorem dX5_readWind_60 : decode cX5_readWind 60 = .ok (.lcmp, 1) := by decide +kernel
theorem dX5_readWind_61 : decode cX5_readWind 61 = .ok (.ifCond .eq 16, 3) := by decide +kernel
theorem dX5_readWind_64 : decode cX5_readWind 64 = .ok (.aload_n 0, 1) := by decide +kernel
theorem dX5_readWind_65 : decode cX5_readWind 65 = .ok (.getfield 9, 3) := by decide +kernel
theorem dX5_readWind_68 : decode cX5_readWind 68 = .ok (.iconst 0, 1) := by decide +kernel
theorem dX5_readWind_69 : decode cX5_readWind 69 = .ok (.bipush 99, 2) := by decide +kernel
theorem dX5_readWind_71 : decode cX5_readWind 71 = .ok (.invokevirtual 163, 3) := by decide +kernel
theorem dX5_readWind_74 : decode cX5_readWind 74 = .ok (.ifCond .ne 5, 3) := by decide +kernel
theorem dX5_readWind_77 : decode cX5_readWind 77 = .ok (.iconst 0, 1) := by decide +kernel
theorem dX5_readWind_78 : decode cX5_readWind 78 = .ok (.ireturn, 1) := by decide +kernel
theorem dX5_readWind_79 : decode cX5_readWind 79 = .ok (.aload_n 1, 1) := by decide +kernel
theorem dX5_readWind_80 : decode cX5_readWind 80 = .ok (.aload_n 0, 1) := by decide +kernel
theorem dX5_readWind_81 : decode cX5_readWind 81 = .ok (.getfield 9, 3) := by decide +kernel
theorem dX5_readWind_84 : decode cX5_readWind 84 = .ok (.getfield 94, 3) := by decide +kernel
theorem dX5_readWind_87 : decode cX5_readWind 87 = .ok (.putfield 180, 3) := by decide +kernel
theorem dX5_readWind_90 : decode cX5_readWind 90 = .ok (.aload_n 0, 1) := by decide +kernel
theorem dX5_readWind_91 : decode cX5_readWind 91 = .ok (.getfield 9, 3) := by decide +kernel
theorem dX5_readWind_94 : decode cX5_readWind 94 = .ok (.bipush 13, 2) := by decide +kernel
theorem dX5_readWind_96 : decode cX5_readWind 96 = .ok (.iconst 1, 1) := by decide +kernel
theorem dX5_readWind_97 : decode cX5_readWind 97 = .ok (.bipush 99, 2) := by decide +kernel
theorem dX5_readWind_99 : decode cX5_readWind 99 = .ok (.invokevirtual 90, 3) := by decide +kernel
theorem dX5_readWind_102 : decode cX5_readWind 102 = .ok (.ifCond .ne 5, 3) := by decide +kernel
theorem dX5_readWind_105 : decode cX5_readWind 105 = .ok (.iconst 0, 1) := by decide +kernel
theorem dX5_readWind_106 : decode cX5_readWind 106 = .ok (.ireturn, 1) := by decide +kernel
theorem dX5_readWind_107 : decode cX5_readWind 107 = .ok (.aload_n 1, 1) := by decide +kernel
theorem dX5_readWind_108 : decode cX5_readWind 108 = .ok (.aload_n 0, 1) := by decide +kernel
theorem dX5_readWind_109 : decode cX5_readWind 109 = .ok (.getfield 9, 3) := by decide +kernel
theorem dX5_readWind_112 : decode cX5_readWind 112 = .ok (.getfield 94, 3) := by decide +kernel
theorem dX5_readWind_115 : decode cX5_readWind 115 = .ok (.putfield 183, 3) := by decide +kernel
theorem dX5_readWind_118 : decode cX5_readWind 118 = .ok (.aload_n 0, 1) := by decide +kernel
theorem dX5_readWind_119 : decode cX5_readWind 119 = .ok (.getfield 15, 3) := by decide +kernel
theorem dX5_readWind_122 : decode cX5_readWind 122 = .ok (.dup, 1) := by decide +kernel
theorem dX5_readWind_123 : decode cX5_readWind 123 = .ok (.getfield 170, 3) := by decide +kernel
theorem dX5_readWind_126 : decode cX5_readWind 126 = .ok (.iconst 1, 1) := by decide +kernel
theorem dX5_readWind_127 : decode cX5_readWind 127 = .ok (.iadd, 1) := by decide +kernel
theorem dX5_readWind_128 : decode cX5_readWind 128 = .ok (.putfield 170, 3) := by decide +kernel
theorem dX5_readWind_131 : decode cX5_readWind 131 = .ok (.iconst 1, 1) := by decide +kernel
theorem dX5_readWind_132 : decode cX5_readWind 132 = .ok (.ireturn, 1) := by decide +kernel
def j_X5_readWind : JD := (yX5_readWind, cX5_readWind, 2, (some .boolean))
def b_X5_readWind : BD := (4, 0, 0)
theorem dX5_readLaw_0 : decode cX5_readLaw 0 = .ok (.aload_n 0, 1) := by decide +kernel
theorem dX5_readLaw_1 : decode cX5_readLaw 1 = .ok (.getfield 186, 3) := by decide +kernel
theorem dX5_readLaw_4 : decode cX5_readLaw 4 = .ok (.ifCond .eq 12, 3) := by decide +kernel
theorem dX5_readLaw_7 : decode cX5_readLaw 7 = .ok (.aload_n 0, 1) := by decide +kernel
theorem dX5_readLaw_8 : decode cX5_readLaw 8 = .ok (.getfield 9, 3) := by decide +kernel
theorem dX5_readLaw_11 : decode cX5_readLaw 11 = .ok (.iconst 5, 1) := by decide +kernel
theorem dX5_readLaw_12 : decode cX5_readLaw 12 = .ok (.invokevirtual 53, 3) := by decide +kernel
theorem dX5_readLaw_15 : decode cX5_readLaw 15 = .ok (.ireturn, 1) := by decide +kernel
theorem dX5_readLaw_16 : decode cX5_readLaw 16 = .ok (.aload_n 0, 1) := by decide +kernel
theorem dX5_readLaw_17 : decode cX5_readLaw 17 = .ok (.iconst 1, 1) := by decide +kernel
theorem dX5_readLaw_18 : decode cX5_readLaw 18 = .ok (.putfield 186, 3) := by decide +kernel
theorem dX5_readLaw_21 : decode cX5_readLaw 21 = .ok (.aload_n 0, 1) := by decide +kernel
theorem dX5_readLaw_22 : decode cX5_readLaw 22 = .ok (.getfield 9, 3) := by decide +kernel
theorem dX5_readLaw_25 : decode cX5_readLaw 25 = .ok (.invokevirtual 73, 3) := by decide +kernel
theorem dX5_readLaw_28 : decode cX5_readLaw 28 = .ok (.aload_n 0, 1) := by decide +kernel
theorem dX5_readLaw_29 : decode cX5_readLaw 29 = .ok (.getfield 9, 3) := by decide +kernel
theorem dX5_readLaw_32 : decode cX5_readLaw 32 = .ok (.getfield 34, 3) := by decide +kernel
theorem dX5_readLaw_35 : decode cX5_readLaw 35 = .ok (.lookupswitch 85 #[(2, 41), (15, 52), (16, 63), (17, 74)], 41) := by decide +kernel
theorem dX5_readLaw_76 : decode cX5_readLaw 76 = .ok (.aload_n 0, 1) := by decide +kernel
theorem dX5_readLaw_77 : decode cX5_readLaw 77 = .ok (.getfield 15, 3) := by decide +kernel
theorem dX5_readLaw_80 : decode cX5_readLaw 80 = .ok (.iconst 0, 1) := by decide +kernel
theorem dX5_readLaw_81 : decode cX5_readLaw 81 = .ok (.putfield 189, 3) := by decide +kernel
theorem dX5_readLaw_84 : decode cX5_readLaw 84 = .ok (.goto 45, 3) := by decide +kernel
theorem dX5_readLaw_87 : decode cX5_readLaw 87 = .ok (.aload_n 0, 1) := by decide +kernel
theorem dX5_readLaw_88 : decode cX5_readLaw 88 = .ok (.getfield 15, 3) := by decide +kernel
theorem dX5_readLaw_91 : decode cX5_readLaw 91 = .ok (.iconst 1, 1) := by decide +kernel
theorem dX5_readLaw_92 : decode cX5_readLaw 92 = .ok (.putfield 189, 3) := by decide +kernel
theorem dX5_readLaw_95 : decode cX5_readLaw 95 = .ok (.goto 34, 3) := by decide +kernel
theorem dX5_readLaw_98 : decode cX5_readLaw 98 = .ok (.aload_n 0, 1) := by decide +kernel
theorem dX5_readLaw_99 : decode cX5_readLaw 99 = .ok (.getfield 15, 3) := by decide +kernel
theorem dX5_readLaw_102 : decode cX5_readLaw 102 = .ok (.iconst 2, 1) := by decide +kernel
theorem dX5_readLaw_103 : decode cX5_readLaw 103 = .ok (.putfield 189, 3) := by decide +kernel
theorem dX5_readLaw_106 : decode cX5_readLaw 106 = .ok (.goto 23, 3) := by decide +kernel
theorem dX5_readLaw_109 : decode cX5_readLaw 109 = .ok (.aload_n 0, 1) := by decide +kernel
theorem dX5_readLaw_110 : decode cX5_readLaw 110 = .ok (.getfield 15, 3) := by decide +kernel
theorem dX5_readLaw_113 : decode cX5_readLaw 113 = .ok (.iconst 3, 1) := by decide +kernel
theorem dX5_readLaw_114 : decode cX5_readLaw 114 = .ok (.putfield 189, 3) := by decide +kernel
theorem dX5_readLaw_117 : decode cX5_readLaw 117 = .ok (.goto 12, 3) := by decide +kernel
theorem dX5_readLaw_120 : decode cX5_readLaw 120 = .ok (.aload_n 0, 1) := by decide +kernel
theorem dX5_readLaw_121 : decode cX5_readLaw 121 = .ok (.getfield 9, 3) := by decide +kernel
theorem dX5_readLaw_124 : decode cX5_readLaw 124 = .ok (.iconst 2, 1) := by decide +kernel
theorem dX5_readLaw_125 : decode cX5_readLaw 125 = .ok (.invokevirtual 53, 3) := by decide +kernel
theorem dX5_readLaw_128 : decode cX5_readLaw 128 = .ok (.ireturn, 1) := by decide +kernel
theorem dX5_readLaw_129 : decode cX5_readLaw 129 = .ok (.aload_n 0, 1) := by decide +kernel
theorem dX5_readLaw_130 : decode cX5_readLaw 130 = .ok (.getfield 9, 3) := by decide +kernel
theorem dX5_readLaw_133 : decode cX5_readLaw 133 = .ok (.invokevirtual 73, 3) := by decide +kernel
theorem dX5_readLaw_136 : decode cX5_readLaw 136 = .ok (.iconst 1, 1) := by decide +kernel
theorem dX5_readLaw_137 : decode cX5_readLaw 137 = .ok (.ireturn, 1) := by decide +kernel
def j_X5_readLaw : JD := (yX5_readLaw, cX5_readLaw, 1, (some .boolean))
def b_X5_readLaw : BD := (2, 0, 0)
theorem dX5_readAll_0 : decode cX5_readAll 0 = .ok (.aload_n 0, 1) := by decide +kernel
theorem dX5_readAll_1 : decode cX5_readAll 1 = .ok (.getfield 15, 3) := by decide +kernel
theorem dX5_readAll_4 : decode cX5_readAll 4 = .ok (.invokevirtual 19, 3) := by decide +kernel
theorem dX5_readAll_7 : decode cX5_readAll 7 = .ok (.aload_n 0, 1) := by decide +kernel
theorem dX5_readAll_8 : decode cX5_readAll 8 = .ok (.getfield 9, 3) := by decide +kernel
theorem dX5_readAll_11 : decode cX5_readAll 11 = .ok (.iload_n 1, 1) := by decide +kernel
theorem dX5_readAll_12 : decode cX5_readAll 12 = .ok (.invokevirtual 24, 3) := by decide +kernel
theorem dX5_readAll_15 : decode cX5_readAll 15 = .ok (.iconst 0, 1) := by decide +kernel
theorem dX5_readAll_16 : decode cX5_readAll 16 = .ok (.istore_n 2, 1) := by decide +kernel
theorem dX5_readAll_17 : decode cX5_readAll 17 = .ok (.iload_n 2, 1) := by decide +kernel
theorem dX5_readAll_18 : decode cX5_readAll 18 = .ok (.sipush 900, 3) := by decide +kernel
theorem dX5_readAll_21 : decode cX5_readAll 21 = .ok (.if_icmp .ge 166, 3) := by decide +kernel
theorem dX5_readAll_24 : decode cX5_readAll 24 = .ok (.aload_n 0, 1) := by decide +kernel
theorem dX5_readAll_25 : decode cX5_readAll 25 = .ok (.getfield 9, 3) := by decide +kernel
theorem dX5_readAll_28 : decode cX5_readAll 28 = .ok (.getfield 30, 3) := by decide +kernel
theorem dX5_readAll_31 : decode cX5_readAll 31 = .ok (.ifCond .eq 156, 3) := by decide +kernel
theorem dX5_readAll_34 : decode cX5_readAll 34 = .ok (.aload_n 0, 1) := by decide +kernel
theorem dX5_readAll_35 : decode cX5_readAll 35 = .ok (.getfield 9, 3) := by decide +kernel
theorem dX5_readAll_38 : decode cX5_readAll 38 = .ok (.getfield 34, 3) := by decide +kernel
theorem dX5_readAll_41 : decode cX5_readAll 41 = .ok (.tableswitch 115 0 14 #[75, 115, 115, 115, 115, 115, 115, 83, 115, 115, 91, 115, 99, 115, 107], 75) := by decide +kernel
theorem dX5_readAll_116 : decode cX5_readAll 116 = .ok (.aload_n 0, 1) := by decide +kernel
theorem dX5_readAll_117 : decode cX5_readAll 117 = .ok (.invokevirtual 37, 3) := by decide +kernel
theorem dX5_readAll_120 : decode cX5_readAll 120 = .ok (.istore_n 3, 1) := by decide +kernel
theorem dX5_readAll_121 : decode cX5_readAll 121 = .ok (.goto 44, 3) := by decide +kernel
theorem dX5_readAll_124 : decode cX5_readAll 124 = .ok (.aload_n 0, 1) := by decide +kernel
theorem dX5_readAll_125 : decode cX5_readAll 125 = .ok (.invokevirtual 41, 3) := by decide +kernel
theorem dX5_readAll_128 : decode cX5_readAll 128 = .ok (.istore_n 3, 1) := by decide +kernel
theorem dX5_readAll_129 : decode cX5_readAll 129 = .ok (.goto 36, 3) := by decide +kernel
theorem dX5_readAll_132 : decode cX5_readAll 132 = .ok (.aload_n 0, 1) := by decide +kernel
theorem dX5_readAll_133 : decode cX5_readAll 133 = .ok (.invokevirtual 44, 3) := by decide +kernel
theorem dX5_readAll_136 : decode cX5_readAll 136 = .ok (.istore_n 3, 1) := by decide +kernel
theorem dX5_readAll_137 : decode cX5_readAll 137 = .ok (.goto 28, 3) := by decide +kernel
theorem dX5_readAll_140 : decode cX5_readAll 140 = .ok (.aload_n 0, 1) := by decide +kernel
theorem dX5_readAll_141 : decode cX5_readAll 141 = .ok (.invokevirtual 47, 3) := by decide +kernel
theorem dX5_readAll_144 : decode cX5_readAll 144 = .ok (.istore_n 3, 1) := by decide +kernel
theorem dX5_readAll_145 : decode cX5_readAll 145 = .ok (.goto 20, 3) := by decide +kernel
theorem dX5_readAll_148 : decode cX5_readAll 148 = .ok (.aload_n 0, 1) := by decide +kernel
theorem dX5_readAll_149 : decode cX5_readAll 149 = .ok (.invokevirtual 50, 3) := by decide +kernel
theorem dX5_readAll_152 : decode cX5_readAll 152 = .ok (.istore_n 3, 1) := by decide +kernel
theorem dX5_readAll_153 : decode cX5_readAll 153 = .ok (.goto 12, 3) := by decide +kernel
theorem dX5_readAll_156 : decode cX5_readAll 156 = .ok (.aload_n 0, 1) := by decide +kernel
theorem dX5_readAll_157 : decode cX5_readAll 157 = .ok (.getfield 9, 3) := by decide +kernel
theorem dX5_readAll_160 : decode cX5_readAll 160 = .ok (.iconst 2, 1) := by decide +kernel
theorem dX5_readAll_161 : decode cX5_readAll 161 = .ok (.invokevirtual 53, 3) := by decide +kernel
theorem dX5_readAll_164 : decode cX5_readAll 164 = .ok (.istore_n 3, 1) := by decide +kernel
theorem dX5_readAll_165 : decode cX5_readAll 165 = .ok (.iload_n 3, 1) := by decide +kernel
theorem dX5_readAll_166 : decode cX5_readAll 166 = .ok (.ifCond .eq 13, 3) := by decide +kernel
theorem dX5_readAll_169 : decode cX5_readAll 169 = .ok (.aload_n 0, 1) := by decide +kernel
theorem dX5_readAll_170 : decode cX5_readAll 170 = .ok (.getfield 9, 3) := by decide +kernel
theorem dX5_readAll_173 : decode cX5_readAll 173 = .ok (.invokevirtual 57, 3) := by decide +kernel
theorem dX5_readAll_176 : decode cX5_readAll 176 = .ok (.ifCond .ne 5, 3) := by decide +kernel
theorem dX5_readAll_179 : decode cX5_readAll 179 = .ok (.iconst 0, 1) := by decide +kernel
theorem dX5_readAll_180 : decode cX5_readAll 180 = .ok (.ireturn, 1) := by decide +kernel
theorem dX5_readAll_181 : decode cX5_readAll 181 = .ok (.iinc 2 1, 3) := by decide +kernel
theorem dX5_readAll_184 : decode cX5_readAll 184 = .ok (.goto (-167), 3) := by decide +kernel
theorem dX5_readAll_187 : decode cX5_readAll 187 = .ok (.iconst 1, 1) := by decide +kernel
theorem dX5_readAll_188 : decode cX5_readAll 188 = .ok (.ireturn, 1) := by decide +kernel
def j_X5_readAll : JD := (yX5_readAll, cX5_readAll, 4, (some .boolean))
def b_X5_readAll : BD := (6, 0, 0)
theorem mi_X5_init : MI j_X5_init 2 := ⟨⟨gw_at 831 (by decide +kernel) rfl, gw_at 223 (by decide +kernel) rfl, ⟨by decide +kernel, by decide +kernel⟩, by decide +kernel, by decide, by decide +kernel⟩, rfl, rfl, gw_at 830 (by decide +kernel) rfl⟩
theorem mv_X5_readNewName : MV j_X5_readNewName 5 0 := ⟨⟨gw_at 888 (by decide +kernel) rfl, gw_at 223 (by decide +kernel) rfl, ⟨by decide +kernel, by decide +kernel⟩, by decide +kernel, by decide, by decide +kernel⟩, ⟨_, rfl, rfl⟩, gw_at 887 (by decide +kernel) rfl, gw_at 20 (by decide +kernel) rfl⟩
theorem mv_X5_readLongAndPegs : MV j_X5_readLongAndPegs 5 1 := ⟨⟨gw_at 922 (by decide +kernel) rfl, gw_at 223 (by decide +kernel) rfl, ⟨by decide +kernel, by decide +kernel⟩, by decide +kernel, by decide, by decide +kernel⟩, ⟨_, rfl, rfl⟩, gw_at 921 (by decide +kernel) rfl, gw_at 28 (by decide +kernel) rfl⟩
theorem mv_X5_readHouse : MV j_X5_readHouse 5 0 := ⟨⟨gw_at 875 (by decide +kernel) rfl, gw_at 223 (by decide +kernel) rfl, ⟨by decide +kernel, by decide +kernel⟩, by decide +kernel, by decide, by decide +kernel⟩, ⟨_, rfl, rfl⟩, gw_at 874 (by decide +kernel) rfl, gw_at 17 (by decide +kernel) rfl⟩
theorem mv_X5_readGang : MV j_X5_readGang 5 0 := ⟨⟨gw_at 926 (by decide +kernel) rfl, gw_at 223 (by decide +kernel) rfl, ⟨by decide +kernel, by decide +kernel⟩, by decide +kernel, by decide, by decide +kernel⟩, ⟨_, rfl, rfl⟩, gw_at 925 (by decide +kernel) rfl, gw_at 29 (by decide +kernel) rfl⟩
theorem mv_X5_readHelped : MV j_X5_readHelped 5 0 := ⟨⟨gw_at 942 (by decide +kernel) rfl, gw_at 223 (by decide +kernel) rfl, ⟨by decide +kernel, by decide +kernel⟩, by decide +kernel, by decide, by decide +kernel⟩, ⟨_, rfl, rfl⟩, gw_at 941 (by decide +kernel) rfl, gw_at 32 (by decide +kernel) rfl⟩
theorem mv_X5_readWind : MV j_X5_readWind 5 0 := ⟨⟨gw_at 948 (by decide +kernel) rfl, gw_at 223 (by decide +kernel) rfl, ⟨by decide +kernel, by decide +kernel⟩, by decide +kernel, by decide, by decide +kernel⟩, ⟨_, rfl, rfl⟩, gw_at 947 (by decide +kernel) rfl, gw_at 33 (by decide +kernel) rfl⟩
theorem mv_X5_readLaw : MV j_X5_readLaw 5 0 := ⟨⟨gw_at 952 (by decide +kernel) rfl, gw_at 223 (by decide +kernel) rfl, ⟨by decide +kernel, by decide +kernel⟩, by decide +kernel, by decide, by decide +kernel⟩, ⟨_, rfl, rfl⟩, gw_at 951 (by decide +kernel) rfl, gw_at 34 (by decide +kernel) rfl⟩
theorem mv_X5_readAll : MV j_X5_readAll 5 1 := ⟨⟨gw_at 846 (by decide +kernel) rfl, gw_at 223 (by decide +kernel) rfl, ⟨by decide +kernel, by decide +kernel⟩, by decide +kernel, by decide, by decide +kernel⟩, ⟨_, rfl, rfl⟩, gw_at 845 (by decide +kernel) rfl, gw_at 10 (by decide +kernel) rfl⟩
theorem ml_X5_19 : MLk RX5 19 j_X4_clear.1 := Or.inr ⟨_, nw_at (w := Cond.methodLinkNest RX5 19 yX4_clear "RoofGale") 847 (by decide +kernel) rfl⟩
theorem ml_X5_24 : MLk RX5 24 j_X6_open.1 := Or.inr ⟨_, nw_at (w := Cond.methodLinkNest RX5 24 yX6_open "RoofGale") 851 (by decide +kernel) rfl⟩
theorem ml_X5_37 : MLk RX5 37 j_X5_readHouse.1 := Or.inl (gw_at 872 (by decide +kernel) rfl)
theorem ml_X5_41 : MLk RX5 41 j_X5_readGang.1 := Or.inl (gw_at 923 (by decide +kernel) rfl)
theorem ml_X5_44 : MLk RX5 44 j_X5_readHelped.1 := Or.inl (gw_at 939 (by decide +kernel) rfl)
theorem ml_X5_47 : MLk RX5 47 j_X5_readWind.1 := Or.inl (gw_at 945 (by decide +kernel) rfl)
theorem ml_X5_50 : MLk RX5 50 j_X5_readLaw.1 := Or.inl (gw_at 949 (by decide +kernel) rfl)
theorem ml_X5_53 : MLk RX5 53 j_X6_fail.1 := Or.inr ⟨_, nw_at (w := Cond.methodLinkNest RX5 53 yX6_fail "RoofGale") 876 (by decide +kernel) rfl⟩
theorem ml_X5_57 : MLk RX5 57 j_X6_takeSemicolon.1 := Or.inr ⟨_, nw_at (w := Cond.methodLinkNest RX5 57 yX6_takeSemicolon "RoofGale") 953 (by decide +kernel) rfl⟩
theorem ml_X5_60 : MLk RX5 60 j_X6_isName.1 := Or.inr ⟨_, nw_at (w := Cond.methodLinkNest RX5 60 yX6_isName "RoofGale") 889 (by decide +kernel) rfl⟩
theorem ml_X5_69 : MLk RX5 69 j_X4_isTaken.1 := Or.inr ⟨_, nw_at (w := Cond.methodLinkNest RX5 69 yX4_isTaken "RoofGale") 894 (by decide +kernel) rfl⟩
theorem ml_X5_73 : MLk RX5 73 j_X6_step.1 := Or.inr ⟨_, nw_at (w := Cond.methodLinkNest RX5 73 yX6_step "RoofGale") 884 (by decide +kernel) rfl⟩
theorem ml_X5_83 : MLk RX5 83 j_X5_readNewName.1 := Or.inl (gw_at 885 (by decide +kernel) rfl)
theorem ml_X5_90 : MLk RX5 90 j_X6_takeWordAndNumber.1 := Or.inr ⟨_, nw_at (w := Cond.methodLinkNest RX5 90 yX6_takeWordAndNumber "RoofGale") 906 (by decide +kernel) rfl⟩
theorem ml_X5_116 : MLk RX5 116 j_X5_readLongAndPegs.1 := Or.inl (gw_at 919 (by decide +kernel) rfl)
theorem ml_X5_136 : MLk RX5 136 j_X6_takeWord.1 := Or.inr ⟨_, nw_at (w := Cond.methodLinkNest RX5 136 yX6_takeWord "RoofGale") 927 (by decide +kernel) rfl⟩
theorem ml_X5_139 : MLk RX5 139 j_X6_takeNamed.1 := Or.inr ⟨_, nw_at (w := Cond.methodLinkNest RX5 139 yX6_takeNamed "RoofGale") 928 (by decide +kernel) rfl⟩
theorem ml_X5_153 : MLk RX5 153 j_X0_putDown.1 := Or.inr ⟨_, nw_at (w := Cond.methodLinkNest RX5 153 yX0_putDown "RoofGale") 935 (by decide +kernel) rfl⟩
theorem ml_X5_159 : MLk RX5 159 j_X6_failAt.1 := Or.inr ⟨_, nw_at (w := Cond.methodLinkNest RX5 159 yX6_failAt "RoofGale") 943 (by decide +kernel) rfl⟩
theorem ml_X5_163 : MLk RX5 163 j_X6_takeNumber.1 := Or.inr ⟨_, nw_at (w := Cond.methodLinkNest RX5 163 yX6_takeNumber "RoofGale") 944 (by decide +kernel) rfl⟩
def f_X5_init (M : Mm) (l0 : Option Nat) (l1 : Option Nat) (l2 : Option Nat) : Option (Mm) := nz l0 <| pfR M l0 5 0 l1 fun M6 => pfR M6 l0 5 1 l2 fun M11 => some M11
set_option maxHeartbeats 4000000 in
set_option maxRecDepth 100000 in
theorem t_X5_init_e {G : GG} {X : CX} {ans : Mm} (he : EndV G X j_X5_init b_X5_init ans) {M : Mm} {l0 : Option Nat} {l1 : Option Nat} {l2 : Option Nat} (h : f_X5_init M l0 l1 l2 = some ans) : Wt G X j_X5_init b_X5_init 0 [(0, rf G.1 l0), (1, rf G.1 l1), (2, rf G.1 l2)] [] M 0 0 := by
  unfold f_X5_init at h
  refine wt_aload_n (pc := 0) 0 dX5_init_0 rfl ?_
  refine wt_oI (pc := 1) dX5_init_1 oi_X5_3 oiM oiC (by decide) (by decide) h (fun h => ?_)
  refine wt_aload_n (pc := 4) 0 dX5_init_4 rfl ?_
  refine wt_aload_n (pc := 5) 1 dX5_init_5 rfl ?_
  refine wt_putFR (pc := 6) dX5_init_6 ff_X5_9 rfl rfl h (fun M6 h => ?_)
  refine wt_aload_n (pc := 9) 0 dX5_init_9 rfl ?_
  refine wt_aload_n (pc := 10) 2 dX5_init_10 rfl ?_
  refine wt_putFR (pc := 11) dX5_init_11 ff_X5_15 rfl rfl h (fun M11 h => ?_)
  cases h
  exact he 14 _ _ _ dX5_init_14 (by decide) (by decide)
set_option maxHeartbeats 4000000 in
set_option maxRecDepth 100000 in
theorem c_X5_init {G : GG} {M : Mm} {l0 : Option Nat} {l1 : Option Nat} {l2 : Option Nat} {r : Mm} (h : f_X5_init M l0 l1 l2 = some r) (l : Launch) : Ct l G j_X5_init b_X5_init [rf G.1 l0, rf G.1 l1, rf G.1 l2] M none r := cf_V (by decide +kernel) (by simp [lg_sl, rf_cat, cat_i, cat_l, j_X5_init]) rfl (by simp [lv_args, rf_cat, cat_i, cat_l]) (fun X he => t_X5_init_e he h)
def f_X5_readNewName (M : Mm) (l0 : Option Nat) : Option (Int64 × Mm) := gfR M l0 5 0 fun v1 => ck M v1 6 <| bd (f_X6_isName M v1) fun v4 M4 => if v4 = 0 then (gfR M4 l0 5 0 fun v11 => ck M4 v11 6 <| bd (f_X6_fail M4 v11 2) fun v15 M15 => some ((-1), M15)) else (gfR M4 l0 5 1 fun v24 => gfR M4 l0 5 0 fun v28 => gfL M4 v28 6 8 fun v31 => ck M4 v24 4 <| bd (f_X4_isTaken M4 v24 v31) fun v34 M34 => if v34 = 0 then (gfR M34 l0 5 0 fun v54 => gfL M34 v54 6 8 fun v57 => gfR M34 l0 5 0 fun v62 => ck M34 v62 6 <| bv (f_X6_step M34 v62) fun M65 => some (v57, M65)) else (gfR M34 l0 5 0 fun v41 => ck M34 v41 6 <| bd (f_X6_fail M34 v41 3) fun v45 M45 => some ((-1), M45)))
set_option maxHeartbeats 4000000 in
set_option maxRecDepth 100000 in
theorem t_X5_readNewName_e {G : GG} {X : CX} {ans : Int64 × Mm} (he : EndL G X j_X5_readNewName b_X5_readNewName ans) {M : Mm} {l0 : Option Nat} (h : f_X5_readNewName M l0 = some ans) : Wt G X j_X5_readNewName b_X5_readNewName 0 [(0, rf G.1 l0)] [] M 0 0 := by
  unfold f_X5_readNewName at h
  refine wt_aload_n (pc := 0) 0 dX5_readNewName_0 rfl ?_
  refine wt_getR (pc := 1) dX5_readNewName_1 fl_X5_9 (fun _ _ _ => rfl) h (fun v1 h => ?_)
  refine wt_cVI (pc := 4) (J' := j_X6_isName) (As := []) (st := []) (B' := b_X6_isName) (u' := 0) (w' := 0) dX5_readNewName_4 ml_X5_60 mv_X6_isName (fun v9 M9 e9 => c_X6_isName e9) rfl (by decide) rfl rfl (by decide) (by decide) (by decide) rfl h (fun v4 M4 h => ?_)
  refine wt_if_ne (pc := 7) (tgt := 23) dX5_readNewName_7 (by decide) (fun q => ?_) (fun q => ?_)
  · have h := ite_f q h
    refine wt_aload_n (pc := 23) 0 dX5_readNewName_23 rfl ?_
    refine wt_getR (pc := 24) dX5_readNewName_24 fl_X5_15 (fun _ _ _ => rfl) h (fun v24 h => ?_)
    refine wt_aload_n (pc := 27) 0 dX5_readNewName_27 rfl ?_
    refine wt_getR (pc := 28) dX5_readNewName_28 fl_X5_9 (fun _ _ _ => rfl) h (fun v28 h => ?_)
    refine wt_getL (pc := 31) dX5_readNewName_31 fl_X5_65 (fun _ _ _ => rfl) h (fun v31 h => ?_)
    refine wt_cVI (pc := 34) (J' := j_X4_isTaken) (As := [.long v31]) (st := []) (B' := b_X4_isTaken) (u' := 0) (w' := 0) dX5_readNewName_34 ml_X5_69 mv_X4_isTaken (fun v9 M9 e9 => c_X4_isTaken e9) rfl (by decide) rfl rfl (by decide) (by decide) (by decide) rfl h (fun v34 M34 h => ?_)
    refine wt_if_eq (pc := 37) (tgt := 53) dX5_readNewName_37 (by decide) (fun q => ?_) (fun q => ?_)
    · have h := ite_t q h
      refine wt_aload_n (pc := 53) 0 dX5_readNewName_53 rfl ?_
      refine wt_getR (pc := 54) dX5_readNewName_54 fl_X5_9 (fun _ _ _ => rfl) h (fun v54 h => ?_)
      refine wt_getL (pc := 57) dX5_readNewName_57 fl_X5_65 (fun _ _ _ => rfl) h (fun v57 h => ?_)
      refine wt_lstore_n (pc := 60) (i := 1) (ls' := [(1, .long v57), (0, rf G.1 l0)]) rfl dX5_readNewName_60 (by decide) (by simp [rf_cat, cat_i, cat_l, cat_r]) ?_
      refine wt_aload_n (pc := 61) 1 dX5_readNewName_61 rfl ?_
      refine wt_getR (pc := 62) dX5_readNewName_62 fl_X5_9 (fun _ _ _ => rfl) h (fun v62 h => ?_)
      refine wt_cVV (pc := 65) (J' := j_X6_step) (As := []) (st := []) (B' := b_X6_step) (u' := 0) (w' := 0) dX5_readNewName_65 ml_X5_73 mv_X6_step (fun M9 e9 => c_X6_step e9) rfl (by decide) rfl rfl (by decide) (by decide) (by decide) rfl h (fun M65 h => ?_)
      refine wt_lload_n (pc := 68) 0 dX5_readNewName_68 rfl ?_
      cases h
      exact he 69 _ _ _ dX5_readNewName_69 (by decide) (by decide)
    · have h := ite_f q h
      refine wt_aload_n (pc := 40) 0 dX5_readNewName_40 rfl ?_
      refine wt_getR (pc := 41) dX5_readNewName_41 fl_X5_9 (fun _ _ _ => rfl) h (fun v41 h => ?_)
      refine wt_iconst (pc := 44) (v := 3) dX5_readNewName_44 (by decide) ?_
      refine wt_cVI (pc := 45) (J' := j_X6_fail) (As := [.int 3]) (st := []) (B' := b_X6_fail) (u' := 0) (w' := 0) dX5_readNewName_45 ml_X5_53 mv_X6_fail (fun v9 M9 e9 => c_X6_fail e9) rfl (by decide) rfl rfl (by decide) (by decide) (by decide) rfl h (fun v45 M45 h => ?_)
      refine wt_pop (pc := 48) dX5_readNewName_48 rfl ?_
      refine wt_ldc2 (pc := 49) dX5_readNewName_49 kc_X5_63 ?_
      cases h
      exact he 52 _ _ _ dX5_readNewName_52 (by decide) (by decide)
  · have h := ite_t q h
    refine wt_aload_n (pc := 10) 0 dX5_readNewName_10 rfl ?_
    refine wt_getR (pc := 11) dX5_readNewName_11 fl_X5_9 (fun _ _ _ => rfl) h (fun v11 h => ?_)
    refine wt_iconst (pc := 14) (v := 2) dX5_readNewName_14 (by decide) ?_
    refine wt_cVI (pc := 15) (J' := j_X6_fail) (As := [.int 2]) (st := []) (B' := b_X6_fail) (u' := 0) (w' := 0) dX5_readNewName_15 ml_X5_53 mv_X6_fail (fun v9 M9 e9 => c_X6_fail e9) rfl (by decide) rfl rfl (by decide) (by decide) (by decide) rfl h (fun v15 M15 h => ?_)
    refine wt_pop (pc := 18) dX5_readNewName_18 rfl ?_
    refine wt_ldc2 (pc := 19) dX5_readNewName_19 kc_X5_63 ?_
    cases h
    exact he 22 _ _ _ dX5_readNewName_22 (by decide) (by decide)
set_option maxHeartbeats 4000000 in
set_option maxRecDepth 100000 in
theorem c_X5_readNewName {G : GG} {M : Mm} {l0 : Option Nat} {r : Int64 × Mm} (h : f_X5_readNewName M l0 = some r) (l : Launch) : Ct l G j_X5_readNewName b_X5_readNewName [rf G.1 l0] M (some (.long r.1)) r.2 := cf_L (by decide +kernel) (by simp [lg_sl, rf_cat, cat_i, cat_l, j_X5_readNewName]) rfl (by simp [lv_args, rf_cat, cat_i, cat_l]) (fun X he => t_X5_readNewName_e he h)
def f_X5_readLongAndPegs_48 (M : Mm) (l0 : Option Nat) (l1 : Option Nat) : Option (Int32 × Mm) := gfR M l0 5 0 fun v49 => gfI M v49 6 7 fun v52 => if v52 = 6 then (gfR M l0 5 0 fun v61 => ck M v61 6 <| bd (f_X6_takeWordAndNumber M v61 6 0 9) fun v69 M69 => if v69 = 0 then (some (0, M69)) else (gfR M69 l0 5 0 fun v79 => gfI M69 v79 6 11 fun v82 => pfI M69 l1 1 6 v82 fun M85 => some (1, M85))) else (some (1, M))
def g_X5_readLongAndPegs (M : Mm) (l0 : Option Nat) (l1 : Option Nat) : Option (Int32 × Mm) := pfI M l1 1 5 4 fun M2 => pfI M2 l1 1 6 0 fun M7 => gfR M7 l0 5 0 fun v11 => gfI M7 v11 6 7 fun v14 => if v14 = 5 then (gfR M7 l0 5 0 fun v22 => ck M7 v22 6 <| bd (f_X6_takeWordAndNumber M7 v22 5 1 20) fun v29 M29 => if v29 = 0 then (some (0, M29)) else (gfR M29 l0 5 0 fun v39 => gfI M29 v39 6 11 fun v42 => pfI M29 l1 1 5 v42 fun M45 => f_X5_readLongAndPegs_48  M45 l0 l1)) else (f_X5_readLongAndPegs_48  M7 l0 l1)
def f_X5_readLongAndPegs (M : Mm) (l0 : Option Nat) (l1 : Option Nat) : Option (Int32 × Mm) := zc (g_X5_readLongAndPegs M l0 l1)
set_option maxHeartbeats 4000000 in
set_option maxRecDepth 100000 in
theorem t_X5_readLongAndPegs_48 {G : GG} {X : CX} {ans : Int32 × Mm} (he : EndI G X j_X5_readLongAndPegs b_X5_readLongAndPegs ans) {M : Mm} {l0 : Option Nat} {l1 : Option Nat} (h : f_X5_readLongAndPegs_48 M l0 l1 = some ans) : Wt G X j_X5_readLongAndPegs b_X5_readLongAndPegs 48 [(0, rf G.1 l0), (1, rf G.1 l1)] [] M 0 0 := by
  unfold f_X5_readLongAndPegs_48 at h
  refine wt_aload_n (pc := 48) 0 dX5_readLongAndPegs_48 rfl ?_
  refine wt_getR (pc := 49) dX5_readLongAndPegs_49 fl_X5_9 (fun _ _ _ => rfl) h (fun v49 h => ?_)
  refine wt_getI (pc := 52) dX5_readLongAndPegs_52 fl_X5_34 (fun _ _ _ => rfl) h (fun v52 h => ?_)
  refine wt_bipush (pc := 55) (v := 6) dX5_readLongAndPegs_55 (by decide) ?_
  refine wt_icmp_ne (pc := 57) (tgt := 88) dX5_readLongAndPegs_57 (by decide) (fun q => ?_) (fun q => ?_)
  · have h := ite_f q h
    refine wt_iconst (pc := 88) (v := 1) dX5_readLongAndPegs_88 (by decide) ?_
    cases h
    exact he 89 _ _ _ dX5_readLongAndPegs_89 (by decide) (by decide)
  · have h := ite_t q h
    refine wt_aload_n (pc := 60) 0 dX5_readLongAndPegs_60 rfl ?_
    refine wt_getR (pc := 61) dX5_readLongAndPegs_61 fl_X5_9 (fun _ _ _ => rfl) h (fun v61 h => ?_)
    refine wt_bipush (pc := 64) (v := 6) dX5_readLongAndPegs_64 (by decide) ?_
    refine wt_iconst (pc := 66) (v := 0) dX5_readLongAndPegs_66 (by decide) ?_
    refine wt_bipush (pc := 67) (v := 9) dX5_readLongAndPegs_67 (by decide) ?_
    refine wt_cVI (pc := 69) (J' := j_X6_takeWordAndNumber) (As := [.int 6, .int 0, .int 9]) (st := []) (B' := b_X6_takeWordAndNumber) (u' := 0) (w' := 0) dX5_readLongAndPegs_69 ml_X5_90 mv_X6_takeWordAndNumber (fun v9 M9 e9 => c_X6_takeWordAndNumber e9) rfl (by decide) rfl rfl (by decide) (by decide) (by decide) rfl h (fun v69 M69 h => ?_)
    refine wt_if_ne (pc := 72) (tgt := 77) dX5_readLongAndPegs_72 (by decide) (fun q => ?_) (fun q => ?_)
    · have h := ite_f q h
      refine wt_aload_n (pc := 77) 1 dX5_readLongAndPegs_77 rfl ?_
      refine wt_aload_n (pc := 78) 0 dX5_readLongAndPegs_78 rfl ?_
      refine wt_getR (pc := 79) dX5_readLongAndPegs_79 fl_X5_9 (fun _ _ _ => rfl) h (fun v79 h => ?_)
      refine wt_getI (pc := 82) dX5_readLongAndPegs_82 fl_X5_94 (fun _ _ _ => rfl) h (fun v82 h => ?_)
      refine wt_putI (pc := 85) dX5_readLongAndPegs_85 fl_X5_123 rfl rfl h (fun M85 h => ?_)
      refine wt_iconst (pc := 88) (v := 1) dX5_readLongAndPegs_88 (by decide) ?_
      cases h
      exact he 89 _ _ _ dX5_readLongAndPegs_89 (by decide) (by decide)
    · have h := ite_t q h
      refine wt_iconst (pc := 75) (v := 0) dX5_readLongAndPegs_75 (by decide) ?_
      cases h
      exact he 76 _ _ _ dX5_readLongAndPegs_76 (by decide) (by decide)
set_option maxHeartbeats 4000000 in
set_option maxRecDepth 100000 in
theorem t_X5_readLongAndPegs_e {G : GG} {X : CX} {ans : Int32 × Mm} (he : EndI G X j_X5_readLongAndPegs b_X5_readLongAndPegs ans) {M : Mm} {l0 : Option Nat} {l1 : Option Nat} (h : g_X5_readLongAndPegs M l0 l1 = some ans) : Wt G X j_X5_readLongAndPegs b_X5_readLongAndPegs 0 [(0, rf G.1 l0), (1, rf G.1 l1)] [] M 0 0 := by
  unfold g_X5_readLongAndPegs at h
  refine wt_aload_n (pc := 0) 1 dX5_readLongAndPegs_0 rfl ?_
  refine wt_iconst (pc := 1) (v := 4) dX5_readLongAndPegs_1 (by decide) ?_
  refine wt_putI (pc := 2) dX5_readLongAndPegs_2 fl_X5_120 rfl rfl h (fun M2 h => ?_)
  refine wt_aload_n (pc := 5) 1 dX5_readLongAndPegs_5 rfl ?_
  refine wt_iconst (pc := 6) (v := 0) dX5_readLongAndPegs_6 (by decide) ?_
  refine wt_putI (pc := 7) dX5_readLongAndPegs_7 fl_X5_123 rfl rfl h (fun M7 h => ?_)
  refine wt_aload_n (pc := 10) 0 dX5_readLongAndPegs_10 rfl ?_
  refine wt_getR (pc := 11) dX5_readLongAndPegs_11 fl_X5_9 (fun _ _ _ => rfl) h (fun v11 h => ?_)
  refine wt_getI (pc := 14) dX5_readLongAndPegs_14 fl_X5_34 (fun _ _ _ => rfl) h (fun v14 h => ?_)
  refine wt_iconst (pc := 17) (v := 5) dX5_readLongAndPegs_17 (by decide) ?_
  refine wt_icmp_ne (pc := 18) (tgt := 48) dX5_readLongAndPegs_18 (by decide) (fun q => ?_) (fun q => ?_)
  · have h := ite_f q h
    exact t_X5_readLongAndPegs_48 he  h
  · have h := ite_t q h
    refine wt_aload_n (pc := 21) 0 dX5_readLongAndPegs_21 rfl ?_
    refine wt_getR (pc := 22) dX5_readLongAndPegs_22 fl_X5_9 (fun _ _ _ => rfl) h (fun v22 h => ?_)
    refine wt_iconst (pc := 25) (v := 5) dX5_readLongAndPegs_25 (by decide) ?_
    refine wt_iconst (pc := 26) (v := 1) dX5_readLongAndPegs_26 (by decide) ?_
    refine wt_bipush (pc := 27) (v := 20) dX5_readLongAndPegs_27 (by decide) ?_
    refine wt_cVI (pc := 29) (J' := j_X6_takeWordAndNumber) (As := [.int 5, .int 1, .int 20]) (st := []) (B' := b_X6_takeWordAndNumber) (u' := 0) (w' := 0) dX5_readLongAndPegs_29 ml_X5_90 mv_X6_takeWordAndNumber (fun v9 M9 e9 => c_X6_takeWordAndNumber e9) rfl (by decide) rfl rfl (by decide) (by decide) (by decide) rfl h (fun v29 M29 h => ?_)
    refine wt_if_ne (pc := 32) (tgt := 37) dX5_readLongAndPegs_32 (by decide) (fun q => ?_) (fun q => ?_)
    · have h := ite_f q h
      refine wt_aload_n (pc := 37) 1 dX5_readLongAndPegs_37 rfl ?_
      refine wt_aload_n (pc := 38) 0 dX5_readLongAndPegs_38 rfl ?_
      refine wt_getR (pc := 39) dX5_readLongAndPegs_39 fl_X5_9 (fun _ _ _ => rfl) h (fun v39 h => ?_)
      refine wt_getI (pc := 42) dX5_readLongAndPegs_42 fl_X5_94 (fun _ _ _ => rfl) h (fun v42 h => ?_)
      refine wt_putI (pc := 45) dX5_readLongAndPegs_45 fl_X5_120 rfl rfl h (fun M45 h => ?_)
      exact t_X5_readLongAndPegs_48 he  h
    · have h := ite_t q h
      refine wt_iconst (pc := 35) (v := 0) dX5_readLongAndPegs_35 (by decide) ?_
      cases h
      exact he 36 _ _ _ dX5_readLongAndPegs_36 (by decide) (by decide)
set_option maxHeartbeats 4000000 in
set_option maxRecDepth 100000 in
theorem c_X5_readLongAndPegs {G : GG} {M : Mm} {l0 : Option Nat} {l1 : Option Nat} {r : Int32 × Mm} (h : f_X5_readLongAndPegs M l0 l1 = some r) (l : Launch) : Ct l G j_X5_readLongAndPegs b_X5_readLongAndPegs [rf G.1 l0, rf G.1 l1] M (some (.int r.1)) r.2 := cf_Z h (by decide +kernel) (by simp [lg_sl, rf_cat, cat_i, cat_l, j_X5_readLongAndPegs]) rfl (by simp [lv_args, rf_cat, cat_i, cat_l]) (fun h X he => t_X5_readLongAndPegs_e he h)
def g_X5_readHouse (M : Mm) (l0 : Option Nat) : Option (Int32 × Mm) := gfR M l0 5 1 fun v1 => gfI M v1 4 3 fun v4 => if v4 < 8 then (gfR M l0 5 1 fun v23 => gfR M v23 4 0 fun v26 => gfR M l0 5 1 fun v30 => gfI M v30 4 3 fun v33 => alR M v26 31 v33 fun v36 => gfR M l0 5 0 fun v39 => ck M v39 6 <| bv (f_X6_step M v39) fun M42 => ck M42 l0 5 <| bd (f_X5_readNewName M42 l0) fun v47 M47 => pfL M47 v36 1 0 v47 fun M50 => gfL M50 v36 1 0 fun v54 => if (lg_cmp v54 (-1)) = 0 then (some (0, M50)) else (gfR M50 l0 5 0 fun v65 => ck M50 v65 6 <| bd (f_X6_takeWordAndNumber M50 v65 1 0 60) fun v72 M72 => if v72 = 0 then (some (0, M72)) else (gfR M72 l0 5 0 fun v82 => gfI M72 v82 6 11 fun v85 => pfI M72 v36 1 1 v85 fun M88 => gfR M88 l0 5 0 fun v92 => ck M88 v92 6 <| bd (f_X6_takeWordAndNumber M88 v92 2 0 999) fun v100 M100 => if v100 = 0 then (some (0, M100)) else (gfR M100 l0 5 0 fun v110 => gfI M100 v110 6 11 fun v113 => pfI M100 v36 1 2 v113 fun M116 => gfR M116 l0 5 0 fun v120 => ck M116 v120 6 <| bd (f_X6_takeWordAndNumber M116 v120 3 1 9) fun v127 M127 => if v127 = 0 then (some (0, M127)) else (gfR M127 l0 5 0 fun v137 => gfI M127 v137 6 11 fun v140 => pfI M127 v36 1 3 v140 fun M143 => gfR M143 l0 5 0 fun v147 => ck M143 v147 6 <| bd (f_X6_takeWordAndNumber M143 v147 4 1 20) fun v154 M154 => if v154 = 0 then (some (0, M154)) else (gfR M154 l0 5 0 fun v164 => gfI M154 v164 6 11 fun v167 => pfI M154 v36 1 4 v167 fun M170 => gfI M170 v36 1 3 fun v175 => pfI M170 v36 1 7 v175 fun M178 => pfZ M178 v36 1 8 1 fun M183 => gfR M183 l0 5 1 fun v187 => gfI M183 v187 4 3 fun v191 => pfI M183 v187 4 3 (v191 + 1) fun M196 => ck M196 l0 5 <| bd (f_X5_readLongAndPegs M196 l0 v36) fun v201 M201 => some (v201, M201))))))) else (gfR M l0 5 0 fun v13 => ck M v13 6 <| bd (f_X6_fail M v13 6) fun v18 M18 => some (v18, M18))
def f_X5_readHouse (M : Mm) (l0 : Option Nat) : Option (Int32 × Mm) := zc (g_X5_readHouse M l0)
set_option maxHeartbeats 4000000 in
set_option maxRecDepth 100000 in
theorem t_X5_readHouse_e {G : GG} {X : CX} {ans : Int32 × Mm} (he : EndI G X j_X5_readHouse b_X5_readHouse ans) {M : Mm} {l0 : Option Nat} (h : g_X5_readHouse M l0 = some ans) : Wt G X j_X5_readHouse b_X5_readHouse 0 [(0, rf G.1 l0)] [] M 0 0 := by
  unfold g_X5_readHouse at h
  refine wt_aload_n (pc := 0) 0 dX5_readHouse_0 rfl ?_
  refine wt_getR (pc := 1) dX5_readHouse_1 fl_X5_15 (fun _ _ _ => rfl) h (fun v1 h => ?_)
  refine wt_getI (pc := 4) dX5_readHouse_4 fl_X5_76 (fun _ _ _ => rfl) h (fun v4 h => ?_)
  refine wt_bipush (pc := 7) (v := 8) dX5_readHouse_7 (by decide) ?_
  refine wt_icmp_lt (pc := 9) (tgt := 22) dX5_readHouse_9 (by decide) (fun q => ?_) (fun q => ?_)
  · have h := ite_t q h
    refine wt_aload_n (pc := 22) 0 dX5_readHouse_22 rfl ?_
    refine wt_getR (pc := 23) dX5_readHouse_23 fl_X5_15 (fun _ _ _ => rfl) h (fun v23 h => ?_)
    refine wt_getR (pc := 26) dX5_readHouse_26 fl_X5_79 (fun _ _ _ => rfl) h (fun v26 h => ?_)
    refine wt_aload_n (pc := 29) 0 dX5_readHouse_29 rfl ?_
    refine wt_getR (pc := 30) dX5_readHouse_30 fl_X5_15 (fun _ _ _ => rfl) h (fun v30 h => ?_)
    refine wt_getI (pc := 33) dX5_readHouse_33 fl_X5_76 (fun _ _ _ => rfl) h (fun v33 h => ?_)
    refine wt_aaload (pc := 36) (kd := 31) dX5_readHouse_36 rfl rfl (by decide) h (fun v36 h => ?_)
    refine wt_astore_n (pc := 37) (i := 1) (ls' := [(1, rf G.1 v36), (0, rf G.1 l0)]) rfl dX5_readHouse_37 (by decide) (by simp [rf_cat, cat_i, cat_l, cat_r]) ?_
    refine wt_aload_n (pc := 38) 1 dX5_readHouse_38 rfl ?_
    refine wt_getR (pc := 39) dX5_readHouse_39 fl_X5_9 (fun _ _ _ => rfl) h (fun v39 h => ?_)
    refine wt_cVV (pc := 42) (J' := j_X6_step) (As := []) (st := []) (B' := b_X6_step) (u' := 0) (w' := 0) dX5_readHouse_42 ml_X5_73 mv_X6_step (fun M9 e9 => c_X6_step e9) rfl (by decide) rfl rfl (by decide) (by decide) (by decide) rfl h (fun M42 h => ?_)
    refine wt_aload_n (pc := 45) 0 dX5_readHouse_45 rfl ?_
    refine wt_aload_n (pc := 46) 1 dX5_readHouse_46 rfl ?_
    refine wt_cVL (pc := 47) (J' := j_X5_readNewName) (As := []) (st := [rf G.1 v36]) (B' := b_X5_readNewName) (u' := 0) (w' := 0) dX5_readHouse_47 ml_X5_83 mv_X5_readNewName (fun v9 M9 e9 => c_X5_readNewName e9) rfl (by decide) rfl rfl (by decide) (by decide) (by simp [rf_cat, cat_i, cat_l, cat_r]) rfl h (fun v47 M47 h => ?_)
    refine wt_putL (pc := 50) dX5_readHouse_50 fl_X5_87 rfl rfl h (fun M50 h => ?_)
    refine wt_aload_n (pc := 53) 0 dX5_readHouse_53 rfl ?_
    refine wt_getL (pc := 54) dX5_readHouse_54 fl_X5_87 (fun _ _ _ => rfl) h (fun v54 h => ?_)
    refine wt_ldc2 (pc := 57) dX5_readHouse_57 kc_X5_63 ?_
    refine wt_lcmp (pc := 60) dX5_readHouse_60 ?_
    refine wt_if_eq (pc := 61) (tgt := 78) dX5_readHouse_61 (by decide) (fun q => ?_) (fun q => ?_)
    · have h := ite_t q h
      refine wt_iconst (pc := 78) (v := 0) dX5_readHouse_78 (by decide) ?_
      cases h
      exact he 79 _ _ _ dX5_readHouse_79 (by decide) (by decide)
    · have h := ite_f q h
      refine wt_aload_n (pc := 64) 1 dX5_readHouse_64 rfl ?_
      refine wt_getR (pc := 65) dX5_readHouse_65 fl_X5_9 (fun _ _ _ => rfl) h (fun v65 h => ?_)
      refine wt_iconst (pc := 68) (v := 1) dX5_readHouse_68 (by decide) ?_
      refine wt_iconst (pc := 69) (v := 0) dX5_readHouse_69 (by decide) ?_
      refine wt_bipush (pc := 70) (v := 60) dX5_readHouse_70 (by decide) ?_
      refine wt_cVI (pc := 72) (J' := j_X6_takeWordAndNumber) (As := [.int 1, .int 0, .int 60]) (st := []) (B' := b_X6_takeWordAndNumber) (u' := 0) (w' := 0) dX5_readHouse_72 ml_X5_90 mv_X6_takeWordAndNumber (fun v9 M9 e9 => c_X6_takeWordAndNumber e9) rfl (by decide) rfl rfl (by decide) (by decide) (by decide) rfl h (fun v72 M72 h => ?_)
      refine wt_if_ne (pc := 75) (tgt := 80) dX5_readHouse_75 (by decide) (fun q => ?_) (fun q => ?_)
      · have h := ite_f q h
        refine wt_aload_n (pc := 80) 0 dX5_readHouse_80 rfl ?_
        refine wt_aload_n (pc := 81) 1 dX5_readHouse_81 rfl ?_
        refine wt_getR (pc := 82) dX5_readHouse_82 fl_X5_9 (fun _ _ _ => rfl) h (fun v82 h => ?_)
        refine wt_getI (pc := 85) dX5_readHouse_85 fl_X5_94 (fun _ _ _ => rfl) h (fun v85 h => ?_)
        refine wt_putI (pc := 88) dX5_readHouse_88 fl_X5_97 rfl rfl h (fun M88 h => ?_)
        refine wt_aload_n (pc := 91) 1 dX5_readHouse_91 rfl ?_
        refine wt_getR (pc := 92) dX5_readHouse_92 fl_X5_9 (fun _ _ _ => rfl) h (fun v92 h => ?_)
        refine wt_iconst (pc := 95) (v := 2) dX5_readHouse_95 (by decide) ?_
        refine wt_iconst (pc := 96) (v := 0) dX5_readHouse_96 (by decide) ?_
        refine wt_sipush (pc := 97) (v := 999) dX5_readHouse_97 (by decide) ?_
        refine wt_cVI (pc := 100) (J' := j_X6_takeWordAndNumber) (As := [.int 2, .int 0, .int 999]) (st := []) (B' := b_X6_takeWordAndNumber) (u' := 0) (w' := 0) dX5_readHouse_100 ml_X5_90 mv_X6_takeWordAndNumber (fun v9 M9 e9 => c_X6_takeWordAndNumber e9) rfl (by decide) rfl rfl (by decide) (by decide) (by decide) rfl h (fun v100 M100 h => ?_)
        refine wt_if_ne (pc := 103) (tgt := 108) dX5_readHouse_103 (by decide) (fun q => ?_) (fun q => ?_)
        · have h := ite_f q h
          refine wt_aload_n (pc := 108) 0 dX5_readHouse_108 rfl ?_
          refine wt_aload_n (pc := 109) 1 dX5_readHouse_109 rfl ?_
          refine wt_getR (pc := 110) dX5_readHouse_110 fl_X5_9 (fun _ _ _ => rfl) h (fun v110 h => ?_)
          refine wt_getI (pc := 113) dX5_readHouse_113 fl_X5_94 (fun _ _ _ => rfl) h (fun v113 h => ?_)
          refine wt_putI (pc := 116) dX5_readHouse_116 fl_X5_100 rfl rfl h (fun M116 h => ?_)
          refine wt_aload_n (pc := 119) 1 dX5_readHouse_119 rfl ?_
          refine wt_getR (pc := 120) dX5_readHouse_120 fl_X5_9 (fun _ _ _ => rfl) h (fun v120 h => ?_)
          refine wt_iconst (pc := 123) (v := 3) dX5_readHouse_123 (by decide) ?_
          refine wt_iconst (pc := 124) (v := 1) dX5_readHouse_124 (by decide) ?_
          refine wt_bipush (pc := 125) (v := 9) dX5_readHouse_125 (by decide) ?_
          refine wt_cVI (pc := 127) (J' := j_X6_takeWordAndNumber) (As := [.int 3, .int 1, .int 9]) (st := []) (B' := b_X6_takeWordAndNumber) (u' := 0) (w' := 0) dX5_readHouse_127 ml_X5_90 mv_X6_takeWordAndNumber (fun v9 M9 e9 => c_X6_takeWordAndNumber e9) rfl (by decide) rfl rfl (by decide) (by decide) (by decide) rfl h (fun v127 M127 h => ?_)
          refine wt_if_ne (pc := 130) (tgt := 135) dX5_readHouse_130 (by decide) (fun q => ?_) (fun q => ?_)
          · have h := ite_f q h
            refine wt_aload_n (pc := 135) 0 dX5_readHouse_135 rfl ?_
            refine wt_aload_n (pc := 136) 1 dX5_readHouse_136 rfl ?_
            refine wt_getR (pc := 137) dX5_readHouse_137 fl_X5_9 (fun _ _ _ => rfl) h (fun v137 h => ?_)
            refine wt_getI (pc := 140) dX5_readHouse_140 fl_X5_94 (fun _ _ _ => rfl) h (fun v140 h => ?_)
            refine wt_putI (pc := 143) dX5_readHouse_143 fl_X5_103 rfl rfl h (fun M143 h => ?_)
            refine wt_aload_n (pc := 146) 1 dX5_readHouse_146 rfl ?_
            refine wt_getR (pc := 147) dX5_readHouse_147 fl_X5_9 (fun _ _ _ => rfl) h (fun v147 h => ?_)
            refine wt_iconst (pc := 150) (v := 4) dX5_readHouse_150 (by decide) ?_
            refine wt_iconst (pc := 151) (v := 1) dX5_readHouse_151 (by decide) ?_
            refine wt_bipush (pc := 152) (v := 20) dX5_readHouse_152 (by decide) ?_
            refine wt_cVI (pc := 154) (J' := j_X6_takeWordAndNumber) (As := [.int 4, .int 1, .int 20]) (st := []) (B' := b_X6_takeWordAndNumber) (u' := 0) (w' := 0) dX5_readHouse_154 ml_X5_90 mv_X6_takeWordAndNumber (fun v9 M9 e9 => c_X6_takeWordAndNumber e9) rfl (by decide) rfl rfl (by decide) (by decide) (by decide) rfl h (fun v154 M154 h => ?_)
            refine wt_if_ne (pc := 157) (tgt := 162) dX5_readHouse_157 (by decide) (fun q => ?_) (fun q => ?_)
            · have h := ite_f q h
              refine wt_aload_n (pc := 162) 0 dX5_readHouse_162 rfl ?_
              refine wt_aload_n (pc := 163) 1 dX5_readHouse_163 rfl ?_
              refine wt_getR (pc := 164) dX5_readHouse_164 fl_X5_9 (fun _ _ _ => rfl) h (fun v164 h => ?_)
              refine wt_getI (pc := 167) dX5_readHouse_167 fl_X5_94 (fun _ _ _ => rfl) h (fun v167 h => ?_)
              refine wt_putI (pc := 170) dX5_readHouse_170 fl_X5_106 rfl rfl h (fun M170 h => ?_)
              refine wt_aload_n (pc := 173) 0 dX5_readHouse_173 rfl ?_
              refine wt_aload_n (pc := 174) 0 dX5_readHouse_174 rfl ?_
              refine wt_getI (pc := 175) dX5_readHouse_175 fl_X5_103 (fun _ _ _ => rfl) h (fun v175 h => ?_)
              refine wt_putI (pc := 178) dX5_readHouse_178 fl_X5_109 rfl rfl h (fun M178 h => ?_)
              refine wt_aload_n (pc := 181) 0 dX5_readHouse_181 rfl ?_
              refine wt_iconst (pc := 182) (v := 1) dX5_readHouse_182 (by decide) ?_
              refine wt_putZ (pc := 183) dX5_readHouse_183 fl_X5_112 rfl rfl h (fun M183 h => ?_)
              refine wt_aload_n (pc := 186) 1 dX5_readHouse_186 rfl ?_
              refine wt_getR (pc := 187) dX5_readHouse_187 fl_X5_15 (fun _ _ _ => rfl) h (fun v187 h => ?_)
              refine wt_dup (pc := 190) dX5_readHouse_190 (rf_cat _ _) ?_
              refine wt_getI (pc := 191) dX5_readHouse_191 fl_X5_76 (fun _ _ _ => rfl) h (fun v191 h => ?_)
              refine wt_iconst (pc := 194) (v := 1) dX5_readHouse_194 (by decide) ?_
              refine wt_iadd (pc := 195) dX5_readHouse_195 ?_
              refine wt_putI (pc := 196) dX5_readHouse_196 fl_X5_76 rfl rfl h (fun M196 h => ?_)
              refine wt_aload_n (pc := 199) 1 dX5_readHouse_199 rfl ?_
              refine wt_aload_n (pc := 200) 0 dX5_readHouse_200 rfl ?_
              refine wt_cVI (pc := 201) (J' := j_X5_readLongAndPegs) (As := [rf G.1 v36]) (st := []) (B' := b_X5_readLongAndPegs) (u' := 0) (w' := 0) dX5_readHouse_201 ml_X5_116 mv_X5_readLongAndPegs (fun v9 M9 e9 => c_X5_readLongAndPegs e9) rfl (by decide) rfl rfl (by decide) (by decide) (by decide) rfl h (fun v201 M201 h => ?_)
              cases h
              exact he 204 _ _ _ dX5_readHouse_204 (by decide) (by decide)
            · have h := ite_t q h
              refine wt_iconst (pc := 160) (v := 0) dX5_readHouse_160 (by decide) ?_
              cases h
              exact he 161 _ _ _ dX5_readHouse_161 (by decide) (by decide)
          · have h := ite_t q h
            refine wt_iconst (pc := 133) (v := 0) dX5_readHouse_133 (by decide) ?_
            cases h
            exact he 134 _ _ _ dX5_readHouse_134 (by decide) (by decide)
        · have h := ite_t q h
          refine wt_iconst (pc := 106) (v := 0) dX5_readHouse_106 (by decide) ?_
          cases h
          exact he 107 _ _ _ dX5_readHouse_107 (by decide) (by decide)
      · have h := ite_t q h
        refine wt_iconst (pc := 78) (v := 0) dX5_readHouse_78 (by decide) ?_
        cases h
        exact he 79 _ _ _ dX5_readHouse_79 (by decide) (by decide)
  · have h := ite_f q h
    refine wt_aload_n (pc := 12) 0 dX5_readHouse_12 rfl ?_
    refine wt_getR (pc := 13) dX5_readHouse_13 fl_X5_9 (fun _ _ _ => rfl) h (fun v13 h => ?_)
    refine wt_bipush (pc := 16) (v := 6) dX5_readHouse_16 (by decide) ?_
    refine wt_cVI (pc := 18) (J' := j_X6_fail) (As := [.int 6]) (st := []) (B' := b_X6_fail) (u' := 0) (w' := 0) dX5_readHouse_18 ml_X5_53 mv_X6_fail (fun v9 M9 e9 => c_X6_fail e9) rfl (by decide) rfl rfl (by decide) (by decide) (by decide) rfl h (fun v18 M18 h => ?_)
    cases h
    exact he 21 _ _ _ dX5_readHouse_21 (by decide) (by decide)
set_option maxHeartbeats 4000000 in
set_option maxRecDepth 100000 in
theorem c_X5_readHouse {G : GG} {M : Mm} {l0 : Option Nat} {r : Int32 × Mm} (h : f_X5_readHouse M l0 = some r) (l : Launch) : Ct l G j_X5_readHouse b_X5_readHouse [rf G.1 l0] M (some (.int r.1)) r.2 := cf_Z h (by decide +kernel) (by simp [lg_sl, rf_cat, cat_i, cat_l, j_X5_readHouse]) rfl (by simp [lv_args, rf_cat, cat_i, cat_l]) (fun h X he => t_X5_readHouse_e he h)
def g_X5_readGang (M : Mm) (l0 : Option Nat) : Option (Int32 × Mm) := gfR M l0 5 1 fun v1 => gfI M v1 4 4 fun v4 => if v4 < 4 then (gfR M l0 5 1 fun v22 => gfR M v22 4 1 fun v25 => gfR M l0 5 1 fun v29 => gfI M v29 4 4 fun v32 => alR M v25 30 v32 fun v35 => gfR M l0 5 0 fun v38 => ck M v38 6 <| bv (f_X6_step M v38) fun M41 => ck M41 l0 5 <| bd (f_X5_readNewName M41 l0) fun v46 M46 => pfL M46 v35 0 0 v46 fun M49 => gfL M49 v35 0 0 fun v53 => if (lg_cmp v53 (-1)) = 0 then (some (0, M49)) else (gfR M49 l0 5 0 fun v64 => ck M49 v64 6 <| bd (f_X6_takeWord M49 v64 13) fun v69 M69 => if v69 = 0 then (some (0, M69)) else (gfR M69 l0 5 0 fun v78 => gfR M69 l0 5 1 fun v82 => ck M69 v78 6 <| bd (f_X6_takeNamed M69 v78 v82 0) fun v86 M86 => if v86 = (-1) then (some (0, M86)) else (gfR M86 l0 5 0 fun v96 => ck M86 v96 6 <| bd (f_X6_takeWordAndNumber M86 v96 8 1 40) fun v104 M104 => if v104 = 0 then (some (0, M104)) else (pfI M104 v35 0 1 v86 fun M114 => gfR M114 l0 5 1 fun v119 => gfR M114 v119 4 0 fun v122 => alR M114 v122 31 v86 fun v126 => gfI M114 v126 1 1 fun v127 => pfI M114 v35 0 4 v127 fun M130 => gfR M130 l0 5 0 fun v135 => gfI M130 v135 6 11 fun v138 => pfI M130 v35 0 2 v138 fun M141 => pfI M141 v35 0 3 1 fun M146 => ck M146 v35 0 <| bv (f_X0_putDown M146 v35) fun M150 => gfR M150 l0 5 1 fun v154 => gfI M150 v154 4 4 fun v158 => pfI M150 v154 4 4 (v158 + 1) fun M163 => gfR M163 l0 5 0 fun v167 => gfI M163 v167 6 7 fun v170 => if v170 = 9 then (gfR M163 l0 5 0 fun v179 => ck M163 v179 6 <| bd (f_X6_takeWordAndNumber M163 v179 9 0 9) fun v187 M187 => if v187 = 0 then (some (0, M187)) else (gfR M187 l0 5 0 fun v197 => gfI M187 v197 6 11 fun v200 => pfI M187 v35 0 3 v200 fun M203 => some (1, M203))) else (some (1, M163))))))) else (gfR M l0 5 0 fun v12 => ck M v12 6 <| bd (f_X6_fail M v12 6) fun v17 M17 => some (v17, M17))
def f_X5_readGang (M : Mm) (l0 : Option Nat) : Option (Int32 × Mm) := zc (g_X5_readGang M l0)
set_option maxHeartbeats 4000000 in
set_option maxRecDepth 100000 in
theorem t_X5_readGang_e {G : GG} {X : CX} {ans : Int32 × Mm} (he : EndI G X j_X5_readGang b_X5_readGang ans) {M : Mm} {l0 : Option Nat} (h : g_X5_readGang M l0 = some ans) : Wt G X j_X5_readGang b_X5_readGang 0 [(0, rf G.1 l0)] [] M 0 0 := by
  unfold g_X5_readGang at h
  refine wt_aload_n (pc := 0) 0 dX5_readGang_0 rfl ?_
  refine wt_getR (pc := 1) dX5_readGang_1 fl_X5_15 (fun _ _ _ => rfl) h (fun v1 h => ?_)
  refine wt_getI (pc := 4) dX5_readGang_4 fl_X5_126 (fun _ _ _ => rfl) h (fun v4 h => ?_)
  refine wt_iconst (pc := 7) (v := 4) dX5_readGang_7 (by decide) ?_
  refine wt_icmp_lt (pc := 8) (tgt := 21) dX5_readGang_8 (by decide) (fun q => ?_) (fun q => ?_)
  · have h := ite_t q h
    refine wt_aload_n (pc := 21) 0 dX5_readGang_21 rfl ?_
    refine wt_getR (pc := 22) dX5_readGang_22 fl_X5_15 (fun _ _ _ => rfl) h (fun v22 h => ?_)
    refine wt_getR (pc := 25) dX5_readGang_25 fl_X5_129 (fun _ _ _ => rfl) h (fun v25 h => ?_)
    refine wt_aload_n (pc := 28) 0 dX5_readGang_28 rfl ?_
    refine wt_getR (pc := 29) dX5_readGang_29 fl_X5_15 (fun _ _ _ => rfl) h (fun v29 h => ?_)
    refine wt_getI (pc := 32) dX5_readGang_32 fl_X5_126 (fun _ _ _ => rfl) h (fun v32 h => ?_)
    refine wt_aaload (pc := 35) (kd := 30) dX5_readGang_35 rfl rfl (by decide) h (fun v35 h => ?_)
    refine wt_astore_n (pc := 36) (i := 1) (ls' := [(1, rf G.1 v35), (0, rf G.1 l0)]) rfl dX5_readGang_36 (by decide) (by simp [rf_cat, cat_i, cat_l, cat_r]) ?_
    refine wt_aload_n (pc := 37) 1 dX5_readGang_37 rfl ?_
    refine wt_getR (pc := 38) dX5_readGang_38 fl_X5_9 (fun _ _ _ => rfl) h (fun v38 h => ?_)
    refine wt_cVV (pc := 41) (J' := j_X6_step) (As := []) (st := []) (B' := b_X6_step) (u' := 0) (w' := 0) dX5_readGang_41 ml_X5_73 mv_X6_step (fun M9 e9 => c_X6_step e9) rfl (by decide) rfl rfl (by decide) (by decide) (by decide) rfl h (fun M41 h => ?_)
    refine wt_aload_n (pc := 44) 0 dX5_readGang_44 rfl ?_
    refine wt_aload_n (pc := 45) 1 dX5_readGang_45 rfl ?_
    refine wt_cVL (pc := 46) (J' := j_X5_readNewName) (As := []) (st := [rf G.1 v35]) (B' := b_X5_readNewName) (u' := 0) (w' := 0) dX5_readGang_46 ml_X5_83 mv_X5_readNewName (fun v9 M9 e9 => c_X5_readNewName e9) rfl (by decide) rfl rfl (by decide) (by decide) (by simp [rf_cat, cat_i, cat_l, cat_r]) rfl h (fun v46 M46 h => ?_)
    refine wt_putL (pc := 49) dX5_readGang_49 fl_X5_133 rfl rfl h (fun M49 h => ?_)
    refine wt_aload_n (pc := 52) 0 dX5_readGang_52 rfl ?_
    refine wt_getL (pc := 53) dX5_readGang_53 fl_X5_133 (fun _ _ _ => rfl) h (fun v53 h => ?_)
    refine wt_ldc2 (pc := 56) dX5_readGang_56 kc_X5_63 ?_
    refine wt_lcmp (pc := 59) dX5_readGang_59 ?_
    refine wt_if_eq (pc := 60) (tgt := 75) dX5_readGang_60 (by decide) (fun q => ?_) (fun q => ?_)
    · have h := ite_t q h
      refine wt_iconst (pc := 75) (v := 0) dX5_readGang_75 (by decide) ?_
      cases h
      exact he 76 _ _ _ dX5_readGang_76 (by decide) (by decide)
    · have h := ite_f q h
      refine wt_aload_n (pc := 63) 1 dX5_readGang_63 rfl ?_
      refine wt_getR (pc := 64) dX5_readGang_64 fl_X5_9 (fun _ _ _ => rfl) h (fun v64 h => ?_)
      refine wt_bipush (pc := 67) (v := 13) dX5_readGang_67 (by decide) ?_
      refine wt_cVI (pc := 69) (J' := j_X6_takeWord) (As := [.int 13]) (st := []) (B' := b_X6_takeWord) (u' := 0) (w' := 0) dX5_readGang_69 ml_X5_136 mv_X6_takeWord (fun v9 M9 e9 => c_X6_takeWord e9) rfl (by decide) rfl rfl (by decide) (by decide) (by decide) rfl h (fun v69 M69 h => ?_)
      refine wt_if_ne (pc := 72) (tgt := 77) dX5_readGang_72 (by decide) (fun q => ?_) (fun q => ?_)
      · have h := ite_f q h
        refine wt_aload_n (pc := 77) 1 dX5_readGang_77 rfl ?_
        refine wt_getR (pc := 78) dX5_readGang_78 fl_X5_9 (fun _ _ _ => rfl) h (fun v78 h => ?_)
        refine wt_aload_n (pc := 81) 1 dX5_readGang_81 rfl ?_
        refine wt_getR (pc := 82) dX5_readGang_82 fl_X5_15 (fun _ _ _ => rfl) h (fun v82 h => ?_)
        refine wt_iconst (pc := 85) (v := 0) dX5_readGang_85 (by decide) ?_
        refine wt_cVI (pc := 86) (J' := j_X6_takeNamed) (As := [rf G.1 v82, .int 0]) (st := []) (B' := b_X6_takeNamed) (u' := 0) (w' := 0) dX5_readGang_86 ml_X5_139 mv_X6_takeNamed (fun v9 M9 e9 => c_X6_takeNamed e9) rfl (by decide) rfl rfl (by decide) (by decide) (by decide) rfl h (fun v86 M86 h => ?_)
        refine wt_istore_n (pc := 89) (i := 2) (ls' := [(2, .int v86), (1, rf G.1 v35), (0, rf G.1 l0)]) rfl dX5_readGang_89 (by decide) (by simp [rf_cat, cat_i, cat_l, cat_r]) ?_
        refine wt_iload_n (pc := 90) 0 dX5_readGang_90 rfl ?_
        refine wt_iconst (pc := 91) (v := (-1)) dX5_readGang_91 (by decide) ?_
        refine wt_icmp_eq (pc := 92) (tgt := 110) dX5_readGang_92 (by decide) (fun q => ?_) (fun q => ?_)
        · have h := ite_t q h
          refine wt_iconst (pc := 110) (v := 0) dX5_readGang_110 (by decide) ?_
          cases h
          exact he 111 _ _ _ dX5_readGang_111 (by decide) (by decide)
        · have h := ite_f q h
          refine wt_aload_n (pc := 95) 2 dX5_readGang_95 rfl ?_
          refine wt_getR (pc := 96) dX5_readGang_96 fl_X5_9 (fun _ _ _ => rfl) h (fun v96 h => ?_)
          refine wt_bipush (pc := 99) (v := 8) dX5_readGang_99 (by decide) ?_
          refine wt_iconst (pc := 101) (v := 1) dX5_readGang_101 (by decide) ?_
          refine wt_bipush (pc := 102) (v := 40) dX5_readGang_102 (by decide) ?_
          refine wt_cVI (pc := 104) (J' := j_X6_takeWordAndNumber) (As := [.int 8, .int 1, .int 40]) (st := []) (B' := b_X6_takeWordAndNumber) (u' := 0) (w' := 0) dX5_readGang_104 ml_X5_90 mv_X6_takeWordAndNumber (fun v9 M9 e9 => c_X6_takeWordAndNumber e9) rfl (by decide) rfl rfl (by decide) (by decide) (by decide) rfl h (fun v104 M104 h => ?_)
          refine wt_if_ne (pc := 107) (tgt := 112) dX5_readGang_107 (by decide) (fun q => ?_) (fun q => ?_)
          · have h := ite_f q h
            refine wt_aload_n (pc := 112) 1 dX5_readGang_112 rfl ?_
            refine wt_iload_n (pc := 113) 0 dX5_readGang_113 rfl ?_
            refine wt_putI (pc := 114) dX5_readGang_114 fl_X5_143 rfl rfl h (fun M114 h => ?_)
            refine wt_aload_n (pc := 117) 1 dX5_readGang_117 rfl ?_
            refine wt_aload_n (pc := 118) 2 dX5_readGang_118 rfl ?_
            refine wt_getR (pc := 119) dX5_readGang_119 fl_X5_15 (fun _ _ _ => rfl) h (fun v119 h => ?_)
            refine wt_getR (pc := 122) dX5_readGang_122 fl_X5_79 (fun _ _ _ => rfl) h (fun v122 h => ?_)
            refine wt_iload_n (pc := 125) 0 dX5_readGang_125 rfl ?_
            refine wt_aaload (pc := 126) (kd := 31) dX5_readGang_126 rfl rfl (by decide) h (fun v126 h => ?_)
            refine wt_getI (pc := 127) dX5_readGang_127 fl_X5_97 (fun _ _ _ => rfl) h (fun v127 h => ?_)
            refine wt_putI (pc := 130) dX5_readGang_130 fl_X5_146 rfl rfl h (fun M130 h => ?_)
            refine wt_aload_n (pc := 133) 1 dX5_readGang_133 rfl ?_
            refine wt_aload_n (pc := 134) 2 dX5_readGang_134 rfl ?_
            refine wt_getR (pc := 135) dX5_readGang_135 fl_X5_9 (fun _ _ _ => rfl) h (fun v135 h => ?_)
            refine wt_getI (pc := 138) dX5_readGang_138 fl_X5_94 (fun _ _ _ => rfl) h (fun v138 h => ?_)
            refine wt_putI (pc := 141) dX5_readGang_141 fl_X5_147 rfl rfl h (fun M141 h => ?_)
            refine wt_aload_n (pc := 144) 1 dX5_readGang_144 rfl ?_
            refine wt_iconst (pc := 145) (v := 1) dX5_readGang_145 (by decide) ?_
            refine wt_putI (pc := 146) dX5_readGang_146 fl_X5_150 rfl rfl h (fun M146 h => ?_)
            refine wt_aload_n (pc := 149) 1 dX5_readGang_149 rfl ?_
            refine wt_cVV (pc := 150) (J' := j_X0_putDown) (As := []) (st := []) (B' := b_X0_putDown) (u' := 0) (w' := 0) dX5_readGang_150 ml_X5_153 mv_X0_putDown (fun M9 e9 => c_X0_putDown e9) rfl (by decide) rfl rfl (by decide) (by decide) (by decide) rfl h (fun M150 h => ?_)
            refine wt_aload_n (pc := 153) 2 dX5_readGang_153 rfl ?_
            refine wt_getR (pc := 154) dX5_readGang_154 fl_X5_15 (fun _ _ _ => rfl) h (fun v154 h => ?_)
            refine wt_dup (pc := 157) dX5_readGang_157 (rf_cat _ _) ?_
            refine wt_getI (pc := 158) dX5_readGang_158 fl_X5_126 (fun _ _ _ => rfl) h (fun v158 h => ?_)
            refine wt_iconst (pc := 161) (v := 1) dX5_readGang_161 (by decide) ?_
            refine wt_iadd (pc := 162) dX5_readGang_162 ?_
            refine wt_putI (pc := 163) dX5_readGang_163 fl_X5_126 rfl rfl h (fun M163 h => ?_)
            refine wt_aload_n (pc := 166) 2 dX5_readGang_166 rfl ?_
            refine wt_getR (pc := 167) dX5_readGang_167 fl_X5_9 (fun _ _ _ => rfl) h (fun v167 h => ?_)
            refine wt_getI (pc := 170) dX5_readGang_170 fl_X5_34 (fun _ _ _ => rfl) h (fun v170 h => ?_)
            refine wt_bipush (pc := 173) (v := 9) dX5_readGang_173 (by decide) ?_
            refine wt_icmp_ne (pc := 175) (tgt := 206) dX5_readGang_175 (by decide) (fun q => ?_) (fun q => ?_)
            · have h := ite_f q h
              refine wt_iconst (pc := 206) (v := 1) dX5_readGang_206 (by decide) ?_
              cases h
              exact he 207 _ _ _ dX5_readGang_207 (by decide) (by decide)
            · have h := ite_t q h
              refine wt_aload_n (pc := 178) 2 dX5_readGang_178 rfl ?_
              refine wt_getR (pc := 179) dX5_readGang_179 fl_X5_9 (fun _ _ _ => rfl) h (fun v179 h => ?_)
              refine wt_bipush (pc := 182) (v := 9) dX5_readGang_182 (by decide) ?_
              refine wt_iconst (pc := 184) (v := 0) dX5_readGang_184 (by decide) ?_
              refine wt_bipush (pc := 185) (v := 9) dX5_readGang_185 (by decide) ?_
              refine wt_cVI (pc := 187) (J' := j_X6_takeWordAndNumber) (As := [.int 9, .int 0, .int 9]) (st := []) (B' := b_X6_takeWordAndNumber) (u' := 0) (w' := 0) dX5_readGang_187 ml_X5_90 mv_X6_takeWordAndNumber (fun v9 M9 e9 => c_X6_takeWordAndNumber e9) rfl (by decide) rfl rfl (by decide) (by decide) (by decide) rfl h (fun v187 M187 h => ?_)
              refine wt_if_ne (pc := 190) (tgt := 195) dX5_readGang_190 (by decide) (fun q => ?_) (fun q => ?_)
              · have h := ite_f q h
                refine wt_aload_n (pc := 195) 1 dX5_readGang_195 rfl ?_
                refine wt_aload_n (pc := 196) 2 dX5_readGang_196 rfl ?_
                refine wt_getR (pc := 197) dX5_readGang_197 fl_X5_9 (fun _ _ _ => rfl) h (fun v197 h => ?_)
                refine wt_getI (pc := 200) dX5_readGang_200 fl_X5_94 (fun _ _ _ => rfl) h (fun v200 h => ?_)
                refine wt_putI (pc := 203) dX5_readGang_203 fl_X5_150 rfl rfl h (fun M203 h => ?_)
                refine wt_iconst (pc := 206) (v := 1) dX5_readGang_206 (by decide) ?_
                cases h
                exact he 207 _ _ _ dX5_readGang_207 (by decide) (by decide)
              · have h := ite_t q h
                refine wt_iconst (pc := 193) (v := 0) dX5_readGang_193 (by decide) ?_
                cases h
                exact he 194 _ _ _ dX5_readGang_194 (by decide) (by decide)
          · have h := ite_t q h
            refine wt_iconst (pc := 110) (v := 0) dX5_readGang_110 (by decide) ?_
            cases h
            exact he 111 _ _ _ dX5_readGang_111 (by decide) (by decide)
      · have h := ite_t q h
        refine wt_iconst (pc := 75) (v := 0) dX5_readGang_75 (by decide) ?_
        cases h
        exact he 76 _ _ _ dX5_readGang_76 (by decide) (by decide)
  · have h := ite_f q h
    refine wt_aload_n (pc := 11) 0 dX5_readGang_11 rfl ?_
    refine wt_getR (pc := 12) dX5_readGang_12 fl_X5_9 (fun _ _ _ => rfl) h (fun v12 h => ?_)
    refine wt_bipush (pc := 15) (v := 6) dX5_readGang_15 (by decide) ?_
    refine wt_cVI (pc := 17) (J' := j_X6_fail) (As := [.int 6]) (st := []) (B' := b_X6_fail) (u' := 0) (w' := 0) dX5_readGang_17 ml_X5_53 mv_X6_fail (fun v9 M9 e9 => c_X6_fail e9) rfl (by decide) rfl rfl (by decide) (by decide) (by decide) rfl h (fun v17 M17 h => ?_)
    cases h
    exact he 20 _ _ _ dX5_readGang_20 (by decide) (by decide)
set_option maxHeartbeats 4000000 in
set_option maxRecDepth 100000 in
theorem c_X5_readGang {G : GG} {M : Mm} {l0 : Option Nat} {r : Int32 × Mm} (h : f_X5_readGang M l0 = some r) (l : Launch) : Ct l G j_X5_readGang b_X5_readGang [rf G.1 l0] M (some (.int r.1)) r.2 := cf_Z h (by decide +kernel) (by simp [lg_sl, rf_cat, cat_i, cat_l, j_X5_readGang]) rfl (by simp [lv_args, rf_cat, cat_i, cat_l]) (fun h X he => t_X5_readGang_e he h)
def g_X5_readHelped (M : Mm) (l0 : Option Nat) : Option (Int32 × Mm) := gfR M l0 5 0 fun v1 => ck M v1 6 <| bv (f_X6_step M v1) fun M4 => gfR M4 l0 5 0 fun v8 => gfR M4 l0 5 1 fun v12 => ck M4 v8 6 <| bd (f_X6_takeNamed M4 v8 v12 0) fun v16 M16 => if v16 = (-1) then (some (0, M16)) else (gfR M16 l0 5 0 fun v26 => ck M16 v26 6 <| bd (f_X6_takeWord M16 v26 11) fun v31 M31 => if v31 = 0 then (some (0, M31)) else (gfR M31 l0 5 0 fun v40 => gfI M31 v40 6 6 fun v43 => gfR M31 l0 5 0 fun v48 => gfR M31 l0 5 1 fun v52 => ck M31 v48 6 <| bd (f_X6_takeNamed M31 v48 v52 0) fun v56 M56 => if v56 = (-1) then (some (0, M56)) else (if v56 = v16 then (gfR M56 l0 5 0 fun v73 => ck M56 v73 6 <| bd (f_X6_failAt M56 v73 5 v43) fun v78 M78 => some (v78, M78)) else (gfR M56 l0 5 0 fun v83 => ck M56 v83 6 <| bd (f_X6_takeNumber M56 v83 0 99) fun v89 M89 => if v89 = 0 then (some (0, M89)) else (gfR M89 l0 5 1 fun v98 => gfR M89 v98 4 6 fun v101 => alR M89 v101 50 v16 fun v105 => gfR M89 l0 5 0 fun v108 => gfI M89 v108 6 11 fun v111 => asI M89 v105 21 v56 v111 fun M114 => some (1, M114))))))
def f_X5_readHelped (M : Mm) (l0 : Option Nat) : Option (Int32 × Mm) := zc (g_X5_readHelped M l0)
set_option maxHeartbeats 4000000 in
set_option maxRecDepth 100000 in
theorem t_X5_readHelped_e {G : GG} {X : CX} {ans : Int32 × Mm} (he : EndI G X j_X5_readHelped b_X5_readHelped ans) {M : Mm} {l0 : Option Nat} (h : g_X5_readHelped M l0 = some ans) : Wt G X j_X5_readHelped b_X5_readHelped 0 [(0, rf G.1 l0)] [] M 0 0 := by
  unfold g_X5_readHelped at h
  refine wt_aload_n (pc := 0) 0 dX5_readHelped_0 rfl ?_
  refine wt_getR (pc := 1) dX5_readHelped_1 fl_X5_9 (fun _ _ _ => rfl) h (fun v1 h => ?_)
  refine wt_cVV (pc := 4) (J' := j_X6_step) (As := []) (st := []) (B' := b_X6_step) (u' := 0) (w' := 0) dX5_readHelped_4 ml_X5_73 mv_X6_step (fun M9 e9 => c_X6_step e9) rfl (by decide) rfl rfl (by decide) (by decide) (by decide) rfl h (fun M4 h => ?_)
  refine wt_aload_n (pc := 7) 0 dX5_readHelped_7 rfl ?_
  refine wt_getR (pc := 8) dX5_readHelped_8 fl_X5_9 (fun _ _ _ => rfl) h (fun v8 h => ?_)
  refine wt_aload_n (pc := 11) 0 dX5_readHelped_11 rfl ?_
  refine wt_getR (pc := 12) dX5_readHelped_12 fl_X5_15 (fun _ _ _ => rfl) h (fun v12 h => ?_)
  refine wt_iconst (pc := 15) (v := 0) dX5_readHelped_15 (by decide) ?_
  refine wt_cVI (pc := 16) (J' := j_X6_takeNamed) (As := [rf G.1 v12, .int 0]) (st := []) (B' := b_X6_takeNamed) (u' := 0) (w' := 0) dX5_readHelped_16 ml_X5_139 mv_X6_takeNamed (fun v9 M9 e9 => c_X6_takeNamed e9) rfl (by decide) rfl rfl (by decide) (by decide) (by decide) rfl h (fun v16 M16 h => ?_)
  refine wt_istore_n (pc := 19) (i := 1) (ls' := [(1, .int v16), (0, rf G.1 l0)]) rfl dX5_readHelped_19 (by decide) (by simp [rf_cat, cat_i, cat_l, cat_r]) ?_
  refine wt_iload_n (pc := 20) 0 dX5_readHelped_20 rfl ?_
  refine wt_iconst (pc := 21) (v := (-1)) dX5_readHelped_21 (by decide) ?_
  refine wt_icmp_eq (pc := 22) (tgt := 37) dX5_readHelped_22 (by decide) (fun q => ?_) (fun q => ?_)
  · have h := ite_t q h
    refine wt_iconst (pc := 37) (v := 0) dX5_readHelped_37 (by decide) ?_
    cases h
    exact he 38 _ _ _ dX5_readHelped_38 (by decide) (by decide)
  · have h := ite_f q h
    refine wt_aload_n (pc := 25) 1 dX5_readHelped_25 rfl ?_
    refine wt_getR (pc := 26) dX5_readHelped_26 fl_X5_9 (fun _ _ _ => rfl) h (fun v26 h => ?_)
    refine wt_bipush (pc := 29) (v := 11) dX5_readHelped_29 (by decide) ?_
    refine wt_cVI (pc := 31) (J' := j_X6_takeWord) (As := [.int 11]) (st := []) (B' := b_X6_takeWord) (u' := 0) (w' := 0) dX5_readHelped_31 ml_X5_136 mv_X6_takeWord (fun v9 M9 e9 => c_X6_takeWord e9) rfl (by decide) rfl rfl (by decide) (by decide) (by decide) rfl h (fun v31 M31 h => ?_)
    refine wt_if_ne (pc := 34) (tgt := 39) dX5_readHelped_34 (by decide) (fun q => ?_) (fun q => ?_)
    · have h := ite_f q h
      refine wt_aload_n (pc := 39) 1 dX5_readHelped_39 rfl ?_
      refine wt_getR (pc := 40) dX5_readHelped_40 fl_X5_9 (fun _ _ _ => rfl) h (fun v40 h => ?_)
      refine wt_getI (pc := 43) dX5_readHelped_43 fl_X5_156 (fun _ _ _ => rfl) h (fun v43 h => ?_)
      refine wt_istore_n (pc := 46) (i := 2) (ls' := [(2, .int v43), (1, .int v16), (0, rf G.1 l0)]) rfl dX5_readHelped_46 (by decide) rfl ?_
      refine wt_aload_n (pc := 47) 2 dX5_readHelped_47 rfl ?_
      refine wt_getR (pc := 48) dX5_readHelped_48 fl_X5_9 (fun _ _ _ => rfl) h (fun v48 h => ?_)
      refine wt_aload_n (pc := 51) 2 dX5_readHelped_51 rfl ?_
      refine wt_getR (pc := 52) dX5_readHelped_52 fl_X5_15 (fun _ _ _ => rfl) h (fun v52 h => ?_)
      refine wt_iconst (pc := 55) (v := 0) dX5_readHelped_55 (by decide) ?_
      refine wt_cVI (pc := 56) (J' := j_X6_takeNamed) (As := [rf G.1 v52, .int 0]) (st := []) (B' := b_X6_takeNamed) (u' := 0) (w' := 0) dX5_readHelped_56 ml_X5_139 mv_X6_takeNamed (fun v9 M9 e9 => c_X6_takeNamed e9) rfl (by decide) rfl rfl (by decide) (by decide) (by decide) rfl h (fun v56 M56 h => ?_)
      refine wt_istore_n (pc := 59) (i := 3) (ls' := [(3, .int v56), (2, .int v43), (1, .int v16), (0, rf G.1 l0)]) rfl dX5_readHelped_59 (by decide) rfl ?_
      refine wt_iload_n (pc := 60) 0 dX5_readHelped_60 rfl ?_
      refine wt_iconst (pc := 61) (v := (-1)) dX5_readHelped_61 (by decide) ?_
      refine wt_icmp_ne (pc := 62) (tgt := 67) dX5_readHelped_62 (by decide) (fun q => ?_) (fun q => ?_)
      · have h := ite_f q h
        refine wt_iload_n (pc := 67) 0 dX5_readHelped_67 rfl ?_
        refine wt_iload_n (pc := 68) 2 dX5_readHelped_68 rfl ?_
        refine wt_icmp_ne (pc := 69) (tgt := 82) dX5_readHelped_69 (by decide) (fun q => ?_) (fun q => ?_)
        · have h := ite_f q h
          refine wt_aload_n (pc := 82) 3 dX5_readHelped_82 rfl ?_
          refine wt_getR (pc := 83) dX5_readHelped_83 fl_X5_9 (fun _ _ _ => rfl) h (fun v83 h => ?_)
          refine wt_iconst (pc := 86) (v := 0) dX5_readHelped_86 (by decide) ?_
          refine wt_bipush (pc := 87) (v := 99) dX5_readHelped_87 (by decide) ?_
          refine wt_cVI (pc := 89) (J' := j_X6_takeNumber) (As := [.int 0, .int 99]) (st := []) (B' := b_X6_takeNumber) (u' := 0) (w' := 0) dX5_readHelped_89 ml_X5_163 mv_X6_takeNumber (fun v9 M9 e9 => c_X6_takeNumber e9) rfl (by decide) rfl rfl (by decide) (by decide) (by decide) rfl h (fun v89 M89 h => ?_)
          refine wt_if_ne (pc := 92) (tgt := 97) dX5_readHelped_92 (by decide) (fun q => ?_) (fun q => ?_)
          · have h := ite_f q h
            refine wt_aload_n (pc := 97) 3 dX5_readHelped_97 rfl ?_
            refine wt_getR (pc := 98) dX5_readHelped_98 fl_X5_15 (fun _ _ _ => rfl) h (fun v98 h => ?_)
            refine wt_getR (pc := 101) dX5_readHelped_101 fl_X5_166 (fun _ _ _ => rfl) h (fun v101 h => ?_)
            refine wt_iload_n (pc := 104) 2 dX5_readHelped_104 rfl ?_
            refine wt_aaload (pc := 105) (kd := 50) dX5_readHelped_105 rfl rfl (by decide) h (fun v105 h => ?_)
            refine wt_iload_n (pc := 106) 0 dX5_readHelped_106 rfl ?_
            refine wt_aload_n (pc := 107) 3 dX5_readHelped_107 rfl ?_
            refine wt_getR (pc := 108) dX5_readHelped_108 fl_X5_9 (fun _ _ _ => rfl) h (fun v108 h => ?_)
            refine wt_getI (pc := 111) dX5_readHelped_111 fl_X5_94 (fun _ _ _ => rfl) h (fun v111 h => ?_)
            refine wt_iastore (pc := 114) (kd := 21) dX5_readHelped_114 rfl rfl h (fun M114 h => ?_)
            refine wt_iconst (pc := 115) (v := 1) dX5_readHelped_115 (by decide) ?_
            cases h
            exact he 116 _ _ _ dX5_readHelped_116 (by decide) (by decide)
          · have h := ite_t q h
            refine wt_iconst (pc := 95) (v := 0) dX5_readHelped_95 (by decide) ?_
            cases h
            exact he 96 _ _ _ dX5_readHelped_96 (by decide) (by decide)
        · have h := ite_t q h
          refine wt_aload_n (pc := 72) 3 dX5_readHelped_72 rfl ?_
          refine wt_getR (pc := 73) dX5_readHelped_73 fl_X5_9 (fun _ _ _ => rfl) h (fun v73 h => ?_)
          refine wt_iconst (pc := 76) (v := 5) dX5_readHelped_76 (by decide) ?_
          refine wt_iload_n (pc := 77) 1 dX5_readHelped_77 rfl ?_
          refine wt_cVI (pc := 78) (J' := j_X6_failAt) (As := [.int 5, .int v43]) (st := []) (B' := b_X6_failAt) (u' := 0) (w' := 0) dX5_readHelped_78 ml_X5_159 mv_X6_failAt (fun v9 M9 e9 => c_X6_failAt e9) rfl (by decide) rfl rfl (by decide) (by decide) (by decide) rfl h (fun v78 M78 h => ?_)
          cases h
          exact he 81 _ _ _ dX5_readHelped_81 (by decide) (by decide)
      · have h := ite_t q h
        refine wt_iconst (pc := 65) (v := 0) dX5_readHelped_65 (by decide) ?_
        cases h
        exact he 66 _ _ _ dX5_readHelped_66 (by decide) (by decide)
    · have h := ite_t q h
      refine wt_iconst (pc := 37) (v := 0) dX5_readHelped_37 (by decide) ?_
      cases h
      exact he 38 _ _ _ dX5_readHelped_38 (by decide) (by decide)
set_option maxHeartbeats 4000000 in
set_option maxRecDepth 100000 in
theorem c_X5_readHelped {G : GG} {M : Mm} {l0 : Option Nat} {r : Int32 × Mm} (h : f_X5_readHelped M l0 = some r) (l : Launch) : Ct l G j_X5_readHelped b_X5_readHelped [rf G.1 l0] M (some (.int r.1)) r.2 := cf_Z h (by decide +kernel) (by simp [lg_sl, rf_cat, cat_i, cat_l, j_X5_readHelped]) rfl (by simp [lv_args, rf_cat, cat_i, cat_l]) (fun h X he => t_X5_readHelped_e he h)
def g_X5_readWind (M : Mm) (l0 : Option Nat) : Option (Int32 × Mm) := gfR M l0 5 1 fun v1 => gfI M v1 4 5 fun v4 => if v4 < 6 then (gfR M l0 5 1 fun v23 => gfR M v23 4 2 fun v26 => gfR M l0 5 1 fun v30 => gfI M v30 4 5 fun v33 => alR M v26 38 v33 fun v36 => gfR M l0 5 0 fun v39 => ck M v39 6 <| bv (f_X6_step M v39) fun M42 => ck M42 l0 5 <| bd (f_X5_readNewName M42 l0) fun v47 M47 => pfL M47 v36 8 0 v47 fun M50 => gfL M50 v36 8 0 fun v54 => if (lg_cmp v54 (-1)) = 0 then (some (0, M50)) else (gfR M50 l0 5 0 fun v65 => ck M50 v65 6 <| bd (f_X6_takeNumber M50 v65 0 99) fun v71 M71 => if v71 = 0 then (some (0, M71)) else (gfR M71 l0 5 0 fun v81 => gfI M71 v81 6 11 fun v84 => pfI M71 v36 8 1 v84 fun M87 => gfR M87 l0 5 0 fun v91 => ck M87 v91 6 <| bd (f_X6_takeWordAndNumber M87 v91 13 1 99) fun v99 M99 => if v99 = 0 then (some (0, M99)) else (gfR M99 l0 5 0 fun v109 => gfI M99 v109 6 11 fun v112 => pfI M99 v36 8 2 v112 fun M115 => gfR M115 l0 5 1 fun v119 => gfI M115 v119 4 5 fun v123 => pfI M115 v119 4 5 (v123 + 1) fun M128 => some (1, M128))))) else (gfR M l0 5 0 fun v13 => ck M v13 6 <| bd (f_X6_fail M v13 6) fun v18 M18 => some (v18, M18))
def f_X5_readWind (M : Mm) (l0 : Option Nat) : Option (Int32 × Mm) := zc (g_X5_readWind M l0)
set_option maxHeartbeats 4000000 in
set_option maxRecDepth 100000 in
theorem t_X5_readWind_e {G : GG} {X : CX} {ans : Int32 × Mm} (he : EndI G X j_X5_readWind b_X5_readWind ans) {M : Mm} {l0 : Option Nat} (h : g_X5_readWind M l0 = some ans) : Wt G X j_X5_readWind b_X5_readWind 0 [(0, rf G.1 l0)] [] M 0 0 := by
  unfold g_X5_readWind at h
  refine wt_aload_n (pc := 0) 0 dX5_readWind_0 rfl ?_
  refine wt_getR (pc := 1) dX5_readWind_1 fl_X5_15 (fun _ _ _ => rfl) h (fun v1 h => ?_)
  refine wt_getI (pc := 4) dX5_readWind_4 fl_X5_170 (fun _ _ _ => rfl) h (fun v4 h => ?_)
  refine wt_bipush (pc := 7) (v := 6) dX5_readWind_7 (by decide) ?_
  refine wt_icmp_lt (pc := 9) (tgt := 22) dX5_readWind_9 (by decide) (fun q => ?_) (fun q => ?_)
  · have h := ite_t q h
    refine wt_aload_n (pc := 22) 0 dX5_readWind_22 rfl ?_
    refine wt_getR (pc := 23) dX5_readWind_23 fl_X5_15 (fun _ _ _ => rfl) h (fun v23 h => ?_)
    refine wt_getR (pc := 26) dX5_readWind_26 fl_X5_173 (fun _ _ _ => rfl) h (fun v26 h => ?_)
    refine wt_aload_n (pc := 29) 0 dX5_readWind_29 rfl ?_
    refine wt_getR (pc := 30) dX5_readWind_30 fl_X5_15 (fun _ _ _ => rfl) h (fun v30 h => ?_)
    refine wt_getI (pc := 33) dX5_readWind_33 fl_X5_170 (fun _ _ _ => rfl) h (fun v33 h => ?_)
    refine wt_aaload (pc := 36) (kd := 38) dX5_readWind_36 rfl rfl (by decide) h (fun v36 h => ?_)
    refine wt_astore_n (pc := 37) (i := 1) (ls' := [(1, rf G.1 v36), (0, rf G.1 l0)]) rfl dX5_readWind_37 (by decide) (by simp [rf_cat, cat_i, cat_l, cat_r]) ?_
    refine wt_aload_n (pc := 38) 1 dX5_readWind_38 rfl ?_
    refine wt_getR (pc := 39) dX5_readWind_39 fl_X5_9 (fun _ _ _ => rfl) h (fun v39 h => ?_)
    refine wt_cVV (pc := 42) (J' := j_X6_step) (As := []) (st := []) (B' := b_X6_step) (u' := 0) (w' := 0) dX5_readWind_42 ml_X5_73 mv_X6_step (fun M9 e9 => c_X6_step e9) rfl (by decide) rfl rfl (by decide) (by decide) (by decide) rfl h (fun M42 h => ?_)
    refine wt_aload_n (pc := 45) 0 dX5_readWind_45 rfl ?_
    refine wt_aload_n (pc := 46) 1 dX5_readWind_46 rfl ?_
    refine wt_cVL (pc := 47) (J' := j_X5_readNewName) (As := []) (st := [rf G.1 v36]) (B' := b_X5_readNewName) (u' := 0) (w' := 0) dX5_readWind_47 ml_X5_83 mv_X5_readNewName (fun v9 M9 e9 => c_X5_readNewName e9) rfl (by decide) rfl rfl (by decide) (by decide) (by simp [rf_cat, cat_i, cat_l, cat_r]) rfl h (fun v47 M47 h => ?_)
    refine wt_putL (pc := 50) dX5_readWind_50 fl_X5_177 rfl rfl h (fun M50 h => ?_)
    refine wt_aload_n (pc := 53) 0 dX5_readWind_53 rfl ?_
    refine wt_getL (pc := 54) dX5_readWind_54 fl_X5_177 (fun _ _ _ => rfl) h (fun v54 h => ?_)
    refine wt_ldc2 (pc := 57) dX5_readWind_57 kc_X5_63 ?_
    refine wt_lcmp (pc := 60) dX5_readWind_60 ?_
    refine wt_if_eq (pc := 61) (tgt := 77) dX5_readWind_61 (by decide) (fun q => ?_) (fun q => ?_)
    · have h := ite_t q h
      refine wt_iconst (pc := 77) (v := 0) dX5_readWind_77 (by decide) ?_
      cases h
      exact he 78 _ _ _ dX5_readWind_78 (by decide) (by decide)
    · have h := ite_f q h
      refine wt_aload_n (pc := 64) 1 dX5_readWind_64 rfl ?_
      refine wt_getR (pc := 65) dX5_readWind_65 fl_X5_9 (fun _ _ _ => rfl) h (fun v65 h => ?_)
      refine wt_iconst (pc := 68) (v := 0) dX5_readWind_68 (by decide) ?_
      refine wt_bipush (pc := 69) (v := 99) dX5_readWind_69 (by decide) ?_
      refine wt_cVI (pc := 71) (J' := j_X6_takeNumber) (As := [.int 0, .int 99]) (st := []) (B' := b_X6_takeNumber) (u' := 0) (w' := 0) dX5_readWind_71 ml_X5_163 mv_X6_takeNumber (fun v9 M9 e9 => c_X6_takeNumber e9) rfl (by decide) rfl rfl (by decide) (by decide) (by decide) rfl h (fun v71 M71 h => ?_)
      refine wt_if_ne (pc := 74) (tgt := 79) dX5_readWind_74 (by decide) (fun q => ?_) (fun q => ?_)
      · have h := ite_f q h
        refine wt_aload_n (pc := 79) 0 dX5_readWind_79 rfl ?_
        refine wt_aload_n (pc := 80) 1 dX5_readWind_80 rfl ?_
        refine wt_getR (pc := 81) dX5_readWind_81 fl_X5_9 (fun _ _ _ => rfl) h (fun v81 h => ?_)
        refine wt_getI (pc := 84) dX5_readWind_84 fl_X5_94 (fun _ _ _ => rfl) h (fun v84 h => ?_)
        refine wt_putI (pc := 87) dX5_readWind_87 fl_X5_180 rfl rfl h (fun M87 h => ?_)
        refine wt_aload_n (pc := 90) 1 dX5_readWind_90 rfl ?_
        refine wt_getR (pc := 91) dX5_readWind_91 fl_X5_9 (fun _ _ _ => rfl) h (fun v91 h => ?_)
        refine wt_bipush (pc := 94) (v := 13) dX5_readWind_94 (by decide) ?_
        refine wt_iconst (pc := 96) (v := 1) dX5_readWind_96 (by decide) ?_
        refine wt_bipush (pc := 97) (v := 99) dX5_readWind_97 (by decide) ?_
        refine wt_cVI (pc := 99) (J' := j_X6_takeWordAndNumber) (As := [.int 13, .int 1, .int 99]) (st := []) (B' := b_X6_takeWordAndNumber) (u' := 0) (w' := 0) dX5_readWind_99 ml_X5_90 mv_X6_takeWordAndNumber (fun v9 M9 e9 => c_X6_takeWordAndNumber e9) rfl (by decide) rfl rfl (by decide) (by decide) (by decide) rfl h (fun v99 M99 h => ?_)
        refine wt_if_ne (pc := 102) (tgt := 107) dX5_readWind_102 (by decide) (fun q => ?_) (fun q => ?_)
        · have h := ite_f q h
          refine wt_aload_n (pc := 107) 0 dX5_readWind_107 rfl ?_
          refine wt_aload_n (pc := 108) 1 dX5_readWind_108 rfl ?_
          refine wt_getR (pc := 109) dX5_readWind_109 fl_X5_9 (fun _ _ _ => rfl) h (fun v109 h => ?_)
          refine wt_getI (pc := 112) dX5_readWind_112 fl_X5_94 (fun _ _ _ => rfl) h (fun v112 h => ?_)
          refine wt_putI (pc := 115) dX5_readWind_115 fl_X5_183 rfl rfl h (fun M115 h => ?_)
          refine wt_aload_n (pc := 118) 1 dX5_readWind_118 rfl ?_
          refine wt_getR (pc := 119) dX5_readWind_119 fl_X5_15 (fun _ _ _ => rfl) h (fun v119 h => ?_)
          refine wt_dup (pc := 122) dX5_readWind_122 (rf_cat _ _) ?_
          refine wt_getI (pc := 123) dX5_readWind_123 fl_X5_170 (fun _ _ _ => rfl) h (fun v123 h => ?_)
          refine wt_iconst (pc := 126) (v := 1) dX5_readWind_126 (by decide) ?_
          refine wt_iadd (pc := 127) dX5_readWind_127 ?_
          refine wt_putI (pc := 128) dX5_readWind_128 fl_X5_170 rfl rfl h (fun M128 h => ?_)
          refine wt_iconst (pc := 131) (v := 1) dX5_readWind_131 (by decide) ?_
          cases h
          exact he 132 _ _ _ dX5_readWind_132 (by decide) (by decide)
        · have h := ite_t q h
          refine wt_iconst (pc := 105) (v := 0) dX5_readWind_105 (by decide) ?_
          cases h
          exact he 106 _ _ _ dX5_readWind_106 (by decide) (by decide)
      · have h := ite_t q h
        refine wt_iconst (pc := 77) (v := 0) dX5_readWind_77 (by decide) ?_
        cases h
        exact he 78 _ _ _ dX5_readWind_78 (by decide) (by decide)
  · have h := ite_f q h
    refine wt_aload_n (pc := 12) 0 dX5_readWind_12 rfl ?_
    refine wt_getR (pc := 13) dX5_readWind_13 fl_X5_9 (fun _ _ _ => rfl) h (fun v13 h => ?_)
    refine wt_bipush (pc := 16) (v := 6) dX5_readWind_16 (by decide) ?_
    refine wt_cVI (pc := 18) (J' := j_X6_fail) (As := [.int 6]) (st := []) (B' := b_X6_fail) (u' := 0) (w' := 0) dX5_readWind_18 ml_X5_53 mv_X6_fail (fun v9 M9 e9 => c_X6_fail e9) rfl (by decide) rfl rfl (by decide) (by decide) (by decide) rfl h (fun v18 M18 h => ?_)
    cases h
    exact he 21 _ _ _ dX5_readWind_21 (by decide) (by decide)
set_option maxHeartbeats 4000000 in
set_option maxRecDepth 100000 in
theorem c_X5_readWind {G : GG} {M : Mm} {l0 : Option Nat} {r : Int32 × Mm} (h : f_X5_readWind M l0 = some r) (l : Launch) : Ct l G j_X5_readWind b_X5_readWind [rf G.1 l0] M (some (.int r.1)) r.2 := cf_Z h (by decide +kernel) (by simp [lg_sl, rf_cat, cat_i, cat_l, j_X5_readWind]) rfl (by simp [lv_args, rf_cat, cat_i, cat_l]) (fun h X he => t_X5_readWind_e he h)
def f_X5_readLaw_129 (M : Mm) (l0 : Option Nat) : Option (Int32 × Mm) := gfR M l0 5 0 fun v130 => ck M v130 6 <| bv (f_X6_step M v130) fun M133 => some (1, M133)
def g_X5_readLaw (M : Mm) (l0 : Option Nat) : Option (Int32 × Mm) := gfI M l0 5 2 fun v1 => if v1 = 0 then (pfZ M l0 5 2 1 fun M18 => gfR M18 l0 5 0 fun v22 => ck M18 v22 6 <| bv (f_X6_step M18 v22) fun M25 => gfR M25 l0 5 0 fun v29 => gfI M25 v29 6 7 fun v32 => if v32 = 2 then (gfR M25 l0 5 1 fun v77 => pfI M25 v77 4 7 0 fun M81 => f_X5_readLaw_129  M81 l0) else if v32 = 15 then (gfR M25 l0 5 1 fun v88 => pfI M25 v88 4 7 1 fun M92 => f_X5_readLaw_129  M92 l0) else if v32 = 16 then (gfR M25 l0 5 1 fun v99 => pfI M25 v99 4 7 2 fun M103 => f_X5_readLaw_129  M103 l0) else if v32 = 17 then (gfR M25 l0 5 1 fun v110 => pfI M25 v110 4 7 3 fun M114 => f_X5_readLaw_129  M114 l0) else (gfR M25 l0 5 0 fun v121 => ck M25 v121 6 <| bd (f_X6_fail M25 v121 2) fun v125 M125 => some (v125, M125))) else (gfR M l0 5 0 fun v8 => ck M v8 6 <| bd (f_X6_fail M v8 5) fun v12 M12 => some (v12, M12))
def f_X5_readLaw (M : Mm) (l0 : Option Nat) : Option (Int32 × Mm) := zc (g_X5_readLaw M l0)
set_option maxHeartbeats 4000000 in
set_option maxRecDepth 100000 in
theorem t_X5_readLaw_129 {G : GG} {X : CX} {ans : Int32 × Mm} (he : EndI G X j_X5_readLaw b_X5_readLaw ans) {M : Mm} {l0 : Option Nat} (h : f_X5_readLaw_129 M l0 = some ans) : Wt G X j_X5_readLaw b_X5_readLaw 129 [(0, rf G.1 l0)] [] M 0 0 := by
  unfold f_X5_readLaw_129 at h
  refine wt_aload_n (pc := 129) 0 dX5_readLaw_129 rfl ?_
  refine wt_getR (pc := 130) dX5_readLaw_130 fl_X5_9 (fun _ _ _ => rfl) h (fun v130 h => ?_)
  refine wt_cVV (pc := 133) (J' := j_X6_step) (As := []) (st := []) (B' := b_X6_step) (u' := 0) (w' := 0) dX5_readLaw_133 ml_X5_73 mv_X6_step (fun M9 e9 => c_X6_step e9) rfl (by decide) rfl rfl (by decide) (by decide) (by decide) rfl h (fun M133 h => ?_)
  refine wt_iconst (pc := 136) (v := 1) dX5_readLaw_136 (by decide) ?_
  cases h
  exact he 137 _ _ _ dX5_readLaw_137 (by decide) (by decide)
set_option maxHeartbeats 4000000 in
set_option maxRecDepth 100000 in
theorem t_X5_readLaw_e {G : GG} {X : CX} {ans : Int32 × Mm} (he : EndI G X j_X5_readLaw b_X5_readLaw ans) {M : Mm} {l0 : Option Nat} (h : g_X5_readLaw M l0 = some ans) : Wt G X j_X5_readLaw b_X5_readLaw 0 [(0, rf G.1 l0)] [] M 0 0 := by
  unfold g_X5_readLaw at h
  refine wt_aload_n (pc := 0) 0 dX5_readLaw_0 rfl ?_
  refine wt_getI (pc := 1) dX5_readLaw_1 fl_X5_186 (fun _ _ _ => rfl) h (fun v1 h => ?_)
  refine wt_if_eq (pc := 4) (tgt := 16) dX5_readLaw_4 (by decide) (fun q => ?_) (fun q => ?_)
  · have h := ite_t q h
    refine wt_aload_n (pc := 16) 0 dX5_readLaw_16 rfl ?_
    refine wt_iconst (pc := 17) (v := 1) dX5_readLaw_17 (by decide) ?_
    refine wt_putZ (pc := 18) dX5_readLaw_18 fl_X5_186 rfl rfl h (fun M18 h => ?_)
    refine wt_aload_n (pc := 21) 0 dX5_readLaw_21 rfl ?_
    refine wt_getR (pc := 22) dX5_readLaw_22 fl_X5_9 (fun _ _ _ => rfl) h (fun v22 h => ?_)
    refine wt_cVV (pc := 25) (J' := j_X6_step) (As := []) (st := []) (B' := b_X6_step) (u' := 0) (w' := 0) dX5_readLaw_25 ml_X5_73 mv_X6_step (fun M9 e9 => c_X6_step e9) rfl (by decide) rfl rfl (by decide) (by decide) (by decide) rfl h (fun M25 h => ?_)
    refine wt_aload_n (pc := 28) 0 dX5_readLaw_28 rfl ?_
    refine wt_getR (pc := 29) dX5_readLaw_29 fl_X5_9 (fun _ _ _ => rfl) h (fun v29 h => ?_)
    refine wt_getI (pc := 32) dX5_readLaw_32 fl_X5_34 (fun _ _ _ => rfl) h (fun v32 h => ?_)
    rcases Decidable.em (v32 = 2) with q35_0 | q35_0
    · have h := ite_t q35_0 h
      refine wt_lookup (pc := 35) (off := 41) (tgt := 76) dX5_readLaw_35 (by decide) (by rw [q35_0]; rfl) (by decide) ?_
      refine wt_aload_n (pc := 76) 0 dX5_readLaw_76 rfl ?_
      refine wt_getR (pc := 77) dX5_readLaw_77 fl_X5_15 (fun _ _ _ => rfl) h (fun v77 h => ?_)
      refine wt_iconst (pc := 80) (v := 0) dX5_readLaw_80 (by decide) ?_
      refine wt_putI (pc := 81) dX5_readLaw_81 fl_X5_189 rfl rfl h (fun M81 h => ?_)
      refine wt_goto (pc := 84) (tgt := 129) dX5_readLaw_84 (by decide) ?_
      exact t_X5_readLaw_129 he  h
    have h := ite_f q35_0 h
    rcases Decidable.em (v32 = 15) with q35_1 | q35_1
    · have h := ite_t q35_1 h
      refine wt_lookup (pc := 35) (off := 52) (tgt := 87) dX5_readLaw_35 (by decide) (by rw [q35_1]; rfl) (by decide) ?_
      refine wt_aload_n (pc := 87) 0 dX5_readLaw_87 rfl ?_
      refine wt_getR (pc := 88) dX5_readLaw_88 fl_X5_15 (fun _ _ _ => rfl) h (fun v88 h => ?_)
      refine wt_iconst (pc := 91) (v := 1) dX5_readLaw_91 (by decide) ?_
      refine wt_putI (pc := 92) dX5_readLaw_92 fl_X5_189 rfl rfl h (fun M92 h => ?_)
      refine wt_goto (pc := 95) (tgt := 129) dX5_readLaw_95 (by decide) ?_
      exact t_X5_readLaw_129 he  h
    have h := ite_f q35_1 h
    rcases Decidable.em (v32 = 16) with q35_2 | q35_2
    · have h := ite_t q35_2 h
      refine wt_lookup (pc := 35) (off := 63) (tgt := 98) dX5_readLaw_35 (by decide) (by rw [q35_2]; rfl) (by decide) ?_
      refine wt_aload_n (pc := 98) 0 dX5_readLaw_98 rfl ?_
      refine wt_getR (pc := 99) dX5_readLaw_99 fl_X5_15 (fun _ _ _ => rfl) h (fun v99 h => ?_)
      refine wt_iconst (pc := 102) (v := 2) dX5_readLaw_102 (by decide) ?_
      refine wt_putI (pc := 103) dX5_readLaw_103 fl_X5_189 rfl rfl h (fun M103 h => ?_)
      refine wt_goto (pc := 106) (tgt := 129) dX5_readLaw_106 (by decide) ?_
      exact t_X5_readLaw_129 he  h
    have h := ite_f q35_2 h
    rcases Decidable.em (v32 = 17) with q35_3 | q35_3
    · have h := ite_t q35_3 h
      refine wt_lookup (pc := 35) (off := 74) (tgt := 109) dX5_readLaw_35 (by decide) (by rw [q35_3]; rfl) (by decide) ?_
      refine wt_aload_n (pc := 109) 0 dX5_readLaw_109 rfl ?_
      refine wt_getR (pc := 110) dX5_readLaw_110 fl_X5_15 (fun _ _ _ => rfl) h (fun v110 h => ?_)
      refine wt_iconst (pc := 113) (v := 3) dX5_readLaw_113 (by decide) ?_
      refine wt_putI (pc := 114) dX5_readLaw_114 fl_X5_189 rfl rfl h (fun M114 h => ?_)
      refine wt_goto (pc := 117) (tgt := 129) dX5_readLaw_117 (by decide) ?_
      exact t_X5_readLaw_129 he  h
    have h := ite_f q35_3 h
    refine wt_lookup (pc := 35) (off := 85) (tgt := 120) dX5_readLaw_35 (by decide) ((lv_osw (a := 2) q35_0 (by decide)).trans ((lv_osw (a := 15) q35_1 (by decide)).trans ((lv_osw (a := 16) q35_2 (by decide)).trans ((lv_osw (a := 17) q35_3 (by decide)).trans rfl)))) (by decide) ?_
    refine wt_aload_n (pc := 120) 0 dX5_readLaw_120 rfl ?_
    refine wt_getR (pc := 121) dX5_readLaw_121 fl_X5_9 (fun _ _ _ => rfl) h (fun v121 h => ?_)
    refine wt_iconst (pc := 124) (v := 2) dX5_readLaw_124 (by decide) ?_
    refine wt_cVI (pc := 125) (J' := j_X6_fail) (As := [.int 2]) (st := []) (B' := b_X6_fail) (u' := 0) (w' := 0) dX5_readLaw_125 ml_X5_53 mv_X6_fail (fun v9 M9 e9 => c_X6_fail e9) rfl (by decide) rfl rfl (by decide) (by decide) (by decide) rfl h (fun v125 M125 h => ?_)
    cases h
    exact he 128 _ _ _ dX5_readLaw_128 (by decide) (by decide)
  · have h := ite_f q h
    refine wt_aload_n (pc := 7) 0 dX5_readLaw_7 rfl ?_
    refine wt_getR (pc := 8) dX5_readLaw_8 fl_X5_9 (fun _ _ _ => rfl) h (fun v8 h => ?_)
    refine wt_iconst (pc := 11) (v := 5) dX5_readLaw_11 (by decide) ?_
    refine wt_cVI (pc := 12) (J' := j_X6_fail) (As := [.int 5]) (st := []) (B' := b_X6_fail) (u' := 0) (w' := 0) dX5_readLaw_12 ml_X5_53 mv_X6_fail (fun v9 M9 e9 => c_X6_fail e9) rfl (by decide) rfl rfl (by decide) (by decide) (by decide) rfl h (fun v12 M12 h => ?_)
    cases h
    exact he 15 _ _ _ dX5_readLaw_15 (by decide) (by decide)
set_option maxHeartbeats 4000000 in
set_option maxRecDepth 100000 in
theorem c_X5_readLaw {G : GG} {M : Mm} {l0 : Option Nat} {r : Int32 × Mm} (h : f_X5_readLaw M l0 = some r) (l : Launch) : Ct l G j_X5_readLaw b_X5_readLaw [rf G.1 l0] M (some (.int r.1)) r.2 := cf_Z h (by decide +kernel) (by simp [lg_sl, rf_cat, cat_i, cat_l, j_X5_readLaw]) rfl (by simp [lv_args, rf_cat, cat_i, cat_l]) (fun h X he => t_X5_readLaw_e he h)
def f_X5_readAll_165 (k17 : Mm → Option Nat → Int32 → Option (Int32 × Mm)) (M : Mm) (l0 : Option Nat) (l2 : Int32) (l3 : Int32) : Option (Int32 × Mm) := if l3 = 0 then (some (0, M)) else (gfR M l0 5 0 fun v170 => ck M v170 6 <| bd (f_X6_takeSemicolon M v170) fun v173 M173 => if v173 = 0 then (some (0, M173)) else (k17 M173 l0 (l2 + 1)))
def f_X5_readAll_17 : Nat → Mm → Option Nat → Int32 → Option (Int32 × Mm)
  | 0, _, _, _ => none
  | n + 1, M, l0, l2 => if 900 ≤ l2 then (some (1, M)) else (gfR M l0 5 0 fun v25 => gfI M v25 6 5 fun v28 => if v28 = 0 then (some (1, M)) else (gfR M l0 5 0 fun v35 => gfI M v35 6 7 fun v38 => if v38 = 0 then (ck M l0 5 <| bd (f_X5_readHouse M l0) fun v117 M117 => f_X5_readAll_165 (f_X5_readAll_17 n) M117 l0 l2 v117) else if v38 = 1 then (gfR M l0 5 0 fun v157 => ck M v157 6 <| bd (f_X6_fail M v157 2) fun v161 M161 => f_X5_readAll_165 (f_X5_readAll_17 n) M161 l0 l2 v161) else if v38 = 2 then (gfR M l0 5 0 fun v157_1 => ck M v157_1 6 <| bd (f_X6_fail M v157_1 2) fun v161_1 M161_1 => f_X5_readAll_165 (f_X5_readAll_17 n) M161_1 l0 l2 v161_1) else if v38 = 3 then (gfR M l0 5 0 fun v157_2 => ck M v157_2 6 <| bd (f_X6_fail M v157_2 2) fun v161_2 M161_2 => f_X5_readAll_165 (f_X5_readAll_17 n) M161_2 l0 l2 v161_2) else if v38 = 4 then (gfR M l0 5 0 fun v157_3 => ck M v157_3 6 <| bd (f_X6_fail M v157_3 2) fun v161_3 M161_3 => f_X5_readAll_165 (f_X5_readAll_17 n) M161_3 l0 l2 v161_3) else if v38 = 5 then (gfR M l0 5 0 fun v157_4 => ck M v157_4 6 <| bd (f_X6_fail M v157_4 2) fun v161_4 M161_4 => f_X5_readAll_165 (f_X5_readAll_17 n) M161_4 l0 l2 v161_4) else if v38 = 6 then (gfR M l0 5 0 fun v157_5 => ck M v157_5 6 <| bd (f_X6_fail M v157_5 2) fun v161_5 M161_5 => f_X5_readAll_165 (f_X5_readAll_17 n) M161_5 l0 l2 v161_5) else if v38 = 7 then (ck M l0 5 <| bd (f_X5_readGang M l0) fun v125 M125 => f_X5_readAll_165 (f_X5_readAll_17 n) M125 l0 l2 v125) else if v38 = 8 then (gfR M l0 5 0 fun v157_6 => ck M v157_6 6 <| bd (f_X6_fail M v157_6 2) fun v161_6 M161_6 => f_X5_readAll_165 (f_X5_readAll_17 n) M161_6 l0 l2 v161_6) else if v38 = 9 then (gfR M l0 5 0 fun v157_7 => ck M v157_7 6 <| bd (f_X6_fail M v157_7 2) fun v161_7 M161_7 => f_X5_readAll_165 (f_X5_readAll_17 n) M161_7 l0 l2 v161_7) else if v38 = 10 then (ck M l0 5 <| bd (f_X5_readHelped M l0) fun v133 M133 => f_X5_readAll_165 (f_X5_readAll_17 n) M133 l0 l2 v133) else if v38 = 11 then (gfR M l0 5 0 fun v157_8 => ck M v157_8 6 <| bd (f_X6_fail M v157_8 2) fun v161_8 M161_8 => f_X5_readAll_165 (f_X5_readAll_17 n) M161_8 l0 l2 v161_8) else if v38 = 12 then (ck M l0 5 <| bd (f_X5_readWind M l0) fun v141 M141 => f_X5_readAll_165 (f_X5_readAll_17 n) M141 l0 l2 v141) else if v38 = 13 then (gfR M l0 5 0 fun v157_9 => ck M v157_9 6 <| bd (f_X6_fail M v157_9 2) fun v161_9 M161_9 => f_X5_readAll_165 (f_X5_readAll_17 n) M161_9 l0 l2 v161_9) else if v38 = 14 then (ck M l0 5 <| bd (f_X5_readLaw M l0) fun v149 M149 => f_X5_readAll_165 (f_X5_readAll_17 n) M149 l0 l2 v149) else (gfR M l0 5 0 fun v157_10 => ck M v157_10 6 <| bd (f_X6_fail M v157_10 2) fun v161_10 M161_10 => f_X5_readAll_165 (f_X5_readAll_17 n) M161_10 l0 l2 v161_10)))
def g_X5_readAll (M : Mm) (l0 : Option Nat) (l1 : Int32) : Option (Int32 × Mm) := gfR M l0 5 1 fun v1 => ck M v1 4 <| bv (f_X4_clear M v1) fun M4 => gfR M4 l0 5 0 fun v8 => ck M4 v8 6 <| bv (f_X6_open M4 v8 l1) fun M12 => f_X5_readAll_17  fu M12 l0 0
def f_X5_readAll (M : Mm) (l0 : Option Nat) (l1 : Int32) : Option (Int32 × Mm) := zc (g_X5_readAll M l0 l1)
set_option maxHeartbeats 4000000 in
set_option maxRecDepth 100000 in
theorem t_X5_readAll_165 {G : GG} {X : CX} {ans : Int32 × Mm} (he : EndI G X j_X5_readAll b_X5_readAll ans) {k17 : Mm → Option Nat → Int32 → Option (Int32 × Mm)} (hk17 : ∀ (M : Mm) (a0 : Option Nat) (a2 : Int32), k17 M a0 a2 = some ans → Wt G X j_X5_readAll b_X5_readAll 17 [(0, rf G.1 a0), (2, .int a2)] [] M 0 0) {M : Mm} {l0 : Option Nat} {l2 : Int32} {l3 : Int32} (h : f_X5_readAll_165 k17 M l0 l2 l3 = some ans) : Wt G X j_X5_readAll b_X5_readAll 165 [(0, rf G.1 l0), (2, .int l2), (3, .int l3)] [] M 0 0 := by
  unfold f_X5_readAll_165 at h
  refine wt_iload_n (pc := 165) 2 dX5_readAll_165 rfl ?_
  refine wt_if_eq (pc := 166) (tgt := 179) dX5_readAll_166 (by decide) (fun q => ?_) (fun q => ?_)
  · have h := ite_t q h
    refine wt_iconst (pc := 179) (v := 0) dX5_readAll_179 (by decide) ?_
    cases h
    exact he 180 _ _ _ dX5_readAll_180 (by decide) (by decide)
  · have h := ite_f q h
    refine wt_aload_n (pc := 169) 0 dX5_readAll_169 rfl ?_
    refine wt_getR (pc := 170) dX5_readAll_170 fl_X5_9 (fun _ _ _ => rfl) h (fun v170 h => ?_)
    refine wt_cVI (pc := 173) (J' := j_X6_takeSemicolon) (As := []) (st := []) (B' := b_X6_takeSemicolon) (u' := 0) (w' := 0) dX5_readAll_173 ml_X5_57 mv_X6_takeSemicolon (fun v9 M9 e9 => c_X6_takeSemicolon e9) rfl (by decide) rfl rfl (by decide) (by decide) (by decide) rfl h (fun v173 M173 h => ?_)
    refine wt_if_ne (pc := 176) (tgt := 181) dX5_readAll_176 (by decide) (fun q => ?_) (fun q => ?_)
    · have h := ite_f q h
      refine wt_iinc (pc := 181) (d := 1) (ls' := [(2, .int (l2 + 1)), (0, rf G.1 l0), (3, .int l3)]) 1 dX5_readAll_181 rfl (by decide) (by decide) rfl ?_
      refine wt_goto (pc := 184) (tgt := 17) dX5_readAll_184 (by decide) ?_
      refine wt_sub (ls' := [(0, rf G.1 l0), (2, .int (l2 + 1))]) [1, 0] rfl ?_
      exact hk17 _ _ _ h
    · have h := ite_t q h
      refine wt_iconst (pc := 179) (v := 0) dX5_readAll_179 (by decide) ?_
      cases h
      exact he 180 _ _ _ dX5_readAll_180 (by decide) (by decide)
set_option maxHeartbeats 4000000 in
set_option maxRecDepth 100000 in
theorem t_X5_readAll_17 {G : GG} {X : CX} {ans : Int32 × Mm} (he : EndI G X j_X5_readAll b_X5_readAll ans) : ∀ (n : Nat) {M : Mm} {l0 : Option Nat} {l2 : Int32}, f_X5_readAll_17 n M l0 l2 = some ans → Wt G X j_X5_readAll b_X5_readAll 17 [(0, rf G.1 l0), (2, .int l2)] [] M 0 0 := by
  intro n
  induction n with
  | zero =>
    intro M l0 l2 h
    rw [f_X5_readAll_17] at h
    cases h
  | succ n ih =>
    intro M l0 l2 h
    rw [f_X5_readAll_17] at h
    refine wt_iload_n (pc := 17) 1 dX5_readAll_17 rfl ?_
    refine wt_sipush (pc := 18) (v := 900) dX5_readAll_18 (by decide) ?_
    refine wt_icmp_ge (pc := 21) (tgt := 187) dX5_readAll_21 (by decide) (fun q => ?_) (fun q => ?_)
    · have h := ite_t q h
      refine wt_iconst (pc := 187) (v := 1) dX5_readAll_187 (by decide) ?_
      cases h
      exact he 188 _ _ _ dX5_readAll_188 (by decide) (by decide)
    · have h := ite_f q h
      refine wt_aload_n (pc := 24) 0 dX5_readAll_24 rfl ?_
      refine wt_getR (pc := 25) dX5_readAll_25 fl_X5_9 (fun _ _ _ => rfl) h (fun v25 h => ?_)
      refine wt_getI (pc := 28) dX5_readAll_28 fl_X5_30 (fun _ _ _ => rfl) h (fun v28 h => ?_)
      refine wt_if_eq (pc := 31) (tgt := 187) dX5_readAll_31 (by decide) (fun q => ?_) (fun q => ?_)
      · have h := ite_t q h
        refine wt_iconst (pc := 187) (v := 1) dX5_readAll_187 (by decide) ?_
        cases h
        exact he 188 _ _ _ dX5_readAll_188 (by decide) (by decide)
      · have h := ite_f q h
        refine wt_aload_n (pc := 34) 0 dX5_readAll_34 rfl ?_
        refine wt_getR (pc := 35) dX5_readAll_35 fl_X5_9 (fun _ _ _ => rfl) h (fun v35 h => ?_)
        refine wt_getI (pc := 38) dX5_readAll_38 fl_X5_34 (fun _ _ _ => rfl) h (fun v38 h => ?_)
        rcases Decidable.em (v38 = 0) with q41_0 | q41_0
        · have h := ite_t q41_0 h
          refine wt_tableIn (pc := 41) (off := 75) (tgt := 116) q41_0 dX5_readAll_41 (by decide) (by decide) (by decide) (by decide) ?_
          refine wt_aload_n (pc := 116) 0 dX5_readAll_116 rfl ?_
          refine wt_cVI (pc := 117) (J' := j_X5_readHouse) (As := []) (st := []) (B' := b_X5_readHouse) (u' := 0) (w' := 0) dX5_readAll_117 ml_X5_37 mv_X5_readHouse (fun v9 M9 e9 => c_X5_readHouse e9) rfl (by decide) rfl rfl (by decide) (by decide) (by decide) rfl h (fun v117 M117 h => ?_)
          refine wt_istore_n (pc := 120) (i := 3) (ls' := [(3, .int v117), (0, rf G.1 l0), (2, .int l2)]) rfl dX5_readAll_120 (by decide) rfl ?_
          refine wt_goto (pc := 121) (tgt := 165) dX5_readAll_121 (by decide) ?_
          refine wt_sub (ls' := [(0, rf G.1 l0), (2, .int l2), (3, .int v117)]) [1, 2, 0] rfl ?_
          exact t_X5_readAll_165 he (fun _ _ _ h => ih h) h
        have h := ite_f q41_0 h
        rcases Decidable.em (v38 = 1) with q41_1 | q41_1
        · have h := ite_t q41_1 h
          refine wt_tableIn (pc := 41) (off := 115) (tgt := 156) q41_1 dX5_readAll_41 (by decide) (by decide) (by decide) (by decide) ?_
          refine wt_aload_n (pc := 156) 0 dX5_readAll_156 rfl ?_
          refine wt_getR (pc := 157) dX5_readAll_157 fl_X5_9 (fun _ _ _ => rfl) h (fun v157 h => ?_)
          refine wt_iconst (pc := 160) (v := 2) dX5_readAll_160 (by decide) ?_
          refine wt_cVI (pc := 161) (J' := j_X6_fail) (As := [.int 2]) (st := []) (B' := b_X6_fail) (u' := 0) (w' := 0) dX5_readAll_161 ml_X5_53 mv_X6_fail (fun v9 M9 e9 => c_X6_fail e9) rfl (by decide) rfl rfl (by decide) (by decide) (by decide) rfl h (fun v161 M161 h => ?_)
          refine wt_istore_n (pc := 164) (i := 3) (ls' := [(3, .int v161), (0, rf G.1 l0), (2, .int l2)]) rfl dX5_readAll_164 (by decide) rfl ?_
          refine wt_sub (ls' := [(0, rf G.1 l0), (2, .int l2), (3, .int v161)]) [1, 2, 0] rfl ?_
          exact t_X5_readAll_165 he (fun _ _ _ h => ih h) h
        have h := ite_f q41_1 h
        rcases Decidable.em (v38 = 2) with q41_2 | q41_2
        · have h := ite_t q41_2 h
          refine wt_tableIn (pc := 41) (off := 115) (tgt := 156) q41_2 dX5_readAll_41 (by decide) (by decide) (by decide) (by decide) ?_
          refine wt_aload_n (pc := 156) 0 dX5_readAll_156 rfl ?_
          refine wt_getR (pc := 157) dX5_readAll_157 fl_X5_9 (fun _ _ _ => rfl) h (fun v157_1 h => ?_)
          refine wt_iconst (pc := 160) (v := 2) dX5_readAll_160 (by decide) ?_
          refine wt_cVI (pc := 161) (J' := j_X6_fail) (As := [.int 2]) (st := []) (B' := b_X6_fail) (u' := 0) (w' := 0) dX5_readAll_161 ml_X5_53 mv_X6_fail (fun v9 M9 e9 => c_X6_fail e9) rfl (by decide) rfl rfl (by decide) (by decide) (by decide) rfl h (fun v161_1 M161_1 h => ?_)
          refine wt_istore_n (pc := 164) (i := 3) (ls' := [(3, .int v161_1), (0, rf G.1 l0), (2, .int l2)]) rfl dX5_readAll_164 (by decide) rfl ?_
          refine wt_sub (ls' := [(0, rf G.1 l0), (2, .int l2), (3, .int v161_1)]) [1, 2, 0] rfl ?_
          exact t_X5_readAll_165 he (fun _ _ _ h => ih h) h
        have h := ite_f q41_2 h
        rcases Decidable.em (v38 = 3) with q41_3 | q41_3
        · have h := ite_t q41_3 h
          refine wt_tableIn (pc := 41) (off := 115) (tgt := 156) q41_3 dX5_readAll_41 (by decide) (by decide) (by decide) (by decide) ?_
          refine wt_aload_n (pc := 156) 0 dX5_readAll_156 rfl ?_
          refine wt_getR (pc := 157) dX5_readAll_157 fl_X5_9 (fun _ _ _ => rfl) h (fun v157_2 h => ?_)
          refine wt_iconst (pc := 160) (v := 2) dX5_readAll_160 (by decide) ?_
          refine wt_cVI (pc := 161) (J' := j_X6_fail) (As := [.int 2]) (st := []) (B' := b_X6_fail) (u' := 0) (w' := 0) dX5_readAll_161 ml_X5_53 mv_X6_fail (fun v9 M9 e9 => c_X6_fail e9) rfl (by decide) rfl rfl (by decide) (by decide) (by decide) rfl h (fun v161_2 M161_2 h => ?_)
          refine wt_istore_n (pc := 164) (i := 3) (ls' := [(3, .int v161_2), (0, rf G.1 l0), (2, .int l2)]) rfl dX5_readAll_164 (by decide) rfl ?_
          refine wt_sub (ls' := [(0, rf G.1 l0), (2, .int l2), (3, .int v161_2)]) [1, 2, 0] rfl ?_
          exact t_X5_readAll_165 he (fun _ _ _ h => ih h) h
        have h := ite_f q41_3 h
        rcases Decidable.em (v38 = 4) with q41_4 | q41_4
        · have h := ite_t q41_4 h
          refine wt_tableIn (pc := 41) (off := 115) (tgt := 156) q41_4 dX5_readAll_41 (by decide) (by decide) (by decide) (by decide) ?_
          refine wt_aload_n (pc := 156) 0 dX5_readAll_156 rfl ?_
          refine wt_getR (pc := 157) dX5_readAll_157 fl_X5_9 (fun _ _ _ => rfl) h (fun v157_3 h => ?_)
          refine wt_iconst (pc := 160) (v := 2) dX5_readAll_160 (by decide) ?_
          refine wt_cVI (pc := 161) (J' := j_X6_fail) (As := [.int 2]) (st := []) (B' := b_X6_fail) (u' := 0) (w' := 0) dX5_readAll_161 ml_X5_53 mv_X6_fail (fun v9 M9 e9 => c_X6_fail e9) rfl (by decide) rfl rfl (by decide) (by decide) (by decide) rfl h (fun v161_3 M161_3 h => ?_)
          refine wt_istore_n (pc := 164) (i := 3) (ls' := [(3, .int v161_3), (0, rf G.1 l0), (2, .int l2)]) rfl dX5_readAll_164 (by decide) rfl ?_
          refine wt_sub (ls' := [(0, rf G.1 l0), (2, .int l2), (3, .int v161_3)]) [1, 2, 0] rfl ?_
          exact t_X5_readAll_165 he (fun _ _ _ h => ih h) h
        have h := ite_f q41_4 h
        rcases Decidable.em (v38 = 5) with q41_5 | q41_5
        · have h := ite_t q41_5 h
          refine wt_tableIn (pc := 41) (off := 115) (tgt := 156) q41_5 dX5_readAll_41 (by decide) (by decide) (by decide) (by decide) ?_
          refine wt_aload_n (pc := 156) 0 dX5_readAll_156 rfl ?_
          refine wt_getR (pc := 157) dX5_readAll_157 fl_X5_9 (fun _ _ _ => rfl) h (fun v157_4 h => ?_)
          refine wt_iconst (pc := 160) (v := 2) dX5_readAll_160 (by decide) ?_
          refine wt_cVI (pc := 161) (J' := j_X6_fail) (As := [.int 2]) (st := []) (B' := b_X6_fail) (u' := 0) (w' := 0) dX5_readAll_161 ml_X5_53 mv_X6_fail (fun v9 M9 e9 => c_X6_fail e9) rfl (by decide) rfl rfl (by decide) (by decide) (by decide) rfl h (fun v161_4 M161_4 h => ?_)
          refine wt_istore_n (pc := 164) (i := 3) (ls' := [(3, .int v161_4), (0, rf G.1 l0), (2, .int l2)]) rfl dX5_readAll_164 (by decide) rfl ?_
          refine wt_sub (ls' := [(0, rf G.1 l0), (2, .int l2), (3, .int v161_4)]) [1, 2, 0] rfl ?_
          exact t_X5_readAll_165 he (fun _ _ _ h => ih h) h
        have h := ite_f q41_5 h
        rcases Decidable.em (v38 = 6) with q41_6 | q41_6
        · have h := ite_t q41_6 h
          refine wt_tableIn (pc := 41) (off := 115) (tgt := 156) q41_6 dX5_readAll_41 (by decide) (by decide) (by decide) (by decide) ?_
          refine wt_aload_n (pc := 156) 0 dX5_readAll_156 rfl ?_
          refine wt_getR (pc := 157) dX5_readAll_157 fl_X5_9 (fun _ _ _ => rfl) h (fun v157_5 h => ?_)
          refine wt_iconst (pc := 160) (v := 2) dX5_readAll_160 (by decide) ?_
          refine wt_cVI (pc := 161) (J' := j_X6_fail) (As := [.int 2]) (st := []) (B' := b_X6_fail) (u' := 0) (w' := 0) dX5_readAll_161 ml_X5_53 mv_X6_fail (fun v9 M9 e9 => c_X6_fail e9) rfl (by decide) rfl rfl (by decide) (by decide) (by decide) rfl h (fun v161_5 M161_5 h => ?_)
          refine wt_istore_n (pc := 164) (i := 3) (ls' := [(3, .int v161_5), (0, rf G.1 l0), (2, .int l2)]) rfl dX5_readAll_164 (by decide) rfl ?_
          refine wt_sub (ls' := [(0, rf G.1 l0), (2, .int l2), (3, .int v161_5)]) [1, 2, 0] rfl ?_
          exact t_X5_readAll_165 he (fun _ _ _ h => ih h) h
        have h := ite_f q41_6 h
        rcases Decidable.em (v38 = 7) with q41_7 | q41_7
        · have h := ite_t q41_7 h
          refine wt_tableIn (pc := 41) (off := 83) (tgt := 124) q41_7 dX5_readAll_41 (by decide) (by decide) (by decide) (by decide) ?_
          refine wt_aload_n (pc := 124) 0 dX5_readAll_124 rfl ?_
          refine wt_cVI (pc := 125) (J' := j_X5_readGang) (As := []) (st := []) (B' := b_X5_readGang) (u' := 0) (w' := 0) dX5_readAll_125 ml_X5_41 mv_X5_readGang (fun v9 M9 e9 => c_X5_readGang e9) rfl (by decide) rfl rfl (by decide) (by decide) (by decide) rfl h (fun v125 M125 h => ?_)
          refine wt_istore_n (pc := 128) (i := 3) (ls' := [(3, .int v125), (0, rf G.1 l0), (2, .int l2)]) rfl dX5_readAll_128 (by decide) rfl ?_
          refine wt_goto (pc := 129) (tgt := 165) dX5_readAll_129 (by decide) ?_
          refine wt_sub (ls' := [(0, rf G.1 l0), (2, .int l2), (3, .int v125)]) [1, 2, 0] rfl ?_
          exact t_X5_readAll_165 he (fun _ _ _ h => ih h) h
        have h := ite_f q41_7 h
        rcases Decidable.em (v38 = 8) with q41_8 | q41_8
        · have h := ite_t q41_8 h
          refine wt_tableIn (pc := 41) (off := 115) (tgt := 156) q41_8 dX5_readAll_41 (by decide) (by decide) (by decide) (by decide) ?_
          refine wt_aload_n (pc := 156) 0 dX5_readAll_156 rfl ?_
          refine wt_getR (pc := 157) dX5_readAll_157 fl_X5_9 (fun _ _ _ => rfl) h (fun v157_6 h => ?_)
          refine wt_iconst (pc := 160) (v := 2) dX5_readAll_160 (by decide) ?_
          refine wt_cVI (pc := 161) (J' := j_X6_fail) (As := [.int 2]) (st := []) (B' := b_X6_fail) (u' := 0) (w' := 0) dX5_readAll_161 ml_X5_53 mv_X6_fail (fun v9 M9 e9 => c_X6_fail e9) rfl (by decide) rfl rfl (by decide) (by decide) (by decide) rfl h (fun v161_6 M161_6 h => ?_)
          refine wt_istore_n (pc := 164) (i := 3) (ls' := [(3, .int v161_6), (0, rf G.1 l0), (2, .int l2)]) rfl dX5_readAll_164 (by decide) rfl ?_
          refine wt_sub (ls' := [(0, rf G.1 l0), (2, .int l2), (3, .int v161_6)]) [1, 2, 0] rfl ?_
          exact t_X5_readAll_165 he (fun _ _ _ h => ih h) h
        have h := ite_f q41_8 h
        rcases Decidable.em (v38 = 9) with q41_9 | q41_9
        · have h := ite_t q41_9 h
          refine wt_tableIn (pc := 41) (off := 115) (tgt := 156) q41_9 dX5_readAll_41 (by decide) (by decide) (by decide) (by decide) ?_
          refine wt_aload_n (pc := 156) 0 dX5_readAll_156 rfl ?_
          refine wt_getR (pc := 157) dX5_readAll_157 fl_X5_9 (fun _ _ _ => rfl) h (fun v157_7 h => ?_)
          refine wt_iconst (pc := 160) (v := 2) dX5_readAll_160 (by decide) ?_
          refine wt_cVI (pc := 161) (J' := j_X6_fail) (As := [.int 2]) (st := []) (B' := b_X6_fail) (u' := 0) (w' := 0) dX5_readAll_161 ml_X5_53 mv_X6_fail (fun v9 M9 e9 => c_X6_fail e9) rfl (by decide) rfl rfl (by decide) (by decide) (by decide) rfl h (fun v161_7 M161_7 h => ?_)
          refine wt_istore_n (pc := 164) (i := 3) (ls' := [(3, .int v161_7), (0, rf G.1 l0), (2, .int l2)]) rfl dX5_readAll_164 (by decide) rfl ?_
          refine wt_sub (ls' := [(0, rf G.1 l0), (2, .int l2), (3, .int v161_7)]) [1, 2, 0] rfl ?_
          exact t_X5_readAll_165 he (fun _ _ _ h => ih h) h
        have h := ite_f q41_9 h
        rcases Decidable.em (v38 = 10) with q41_10 | q41_10
        · have h := ite_t q41_10 h
          refine wt_tableIn (pc := 41) (off := 91) (tgt := 132) q41_10 dX5_readAll_41 (by decide) (by decide) (by decide) (by decide) ?_
          refine wt_aload_n (pc := 132) 0 dX5_readAll_132 rfl ?_
          refine wt_cVI (pc := 133) (J' := j_X5_readHelped) (As := []) (st := []) (B' := b_X5_readHelped) (u' := 0) (w' := 0) dX5_readAll_133 ml_X5_44 mv_X5_readHelped (fun v9 M9 e9 => c_X5_readHelped e9) rfl (by decide) rfl rfl (by decide) (by decide) (by decide) rfl h (fun v133 M133 h => ?_)
          refine wt_istore_n (pc := 136) (i := 3) (ls' := [(3, .int v133), (0, rf G.1 l0), (2, .int l2)]) rfl dX5_readAll_136 (by decide) rfl ?_
          refine wt_goto (pc := 137) (tgt := 165) dX5_readAll_137 (by decide) ?_
          refine wt_sub (ls' := [(0, rf G.1 l0), (2, .int l2), (3, .int v133)]) [1, 2, 0] rfl ?_
          exact t_X5_readAll_165 he (fun _ _ _ h => ih h) h
        have h := ite_f q41_10 h
        rcases Decidable.em (v38 = 11) with q41_11 | q41_11
        · have h := ite_t q41_11 h
          refine wt_tableIn (pc := 41) (off := 115) (tgt := 156) q41_11 dX5_readAll_41 (by decide) (by decide) (by decide) (by decide) ?_
          refine wt_aload_n (pc := 156) 0 dX5_readAll_156 rfl ?_
          refine wt_getR (pc := 157) dX5_readAll_157 fl_X5_9 (fun _ _ _ => rfl) h (fun v157_8 h => ?_)
          refine wt_iconst (pc := 160) (v := 2) dX5_readAll_160 (by decide) ?_
          refine wt_cVI (pc := 161) (J' := j_X6_fail) (As := [.int 2]) (st := []) (B' := b_X6_fail) (u' := 0) (w' := 0) dX5_readAll_161 ml_X5_53 mv_X6_fail (fun v9 M9 e9 => c_X6_fail e9) rfl (by decide) rfl rfl (by decide) (by decide) (by decide) rfl h (fun v161_8 M161_8 h => ?_)
          refine wt_istore_n (pc := 164) (i := 3) (ls' := [(3, .int v161_8), (0, rf G.1 l0), (2, .int l2)]) rfl dX5_readAll_164 (by decide) rfl ?_
          refine wt_sub (ls' := [(0, rf G.1 l0), (2, .int l2), (3, .int v161_8)]) [1, 2, 0] rfl ?_
          exact t_X5_readAll_165 he (fun _ _ _ h => ih h) h
        have h := ite_f q41_11 h
        rcases Decidable.em (v38 = 12) with q41_12 | q41_12
        · have h := ite_t q41_12 h
          refine wt_tableIn (pc := 41) (off := 99) (tgt := 140) q41_12 dX5_readAll_41 (by decide) (by decide) (by decide) (by decide) ?_
          refine wt_aload_n (pc := 140) 0 dX5_readAll_140 rfl ?_
          refine wt_cVI (pc := 141) (J' := j_X5_readWind) (As := []) (st := []) (B' := b_X5_readWind) (u' := 0) (w' := 0) dX5_readAll_141 ml_X5_47 mv_X5_readWind (fun v9 M9 e9 => c_X5_readWind e9) rfl (by decide) rfl rfl (by decide) (by decide) (by decide) rfl h (fun v141 M141 h => ?_)
          refine wt_istore_n (pc := 144) (i := 3) (ls' := [(3, .int v141), (0, rf G.1 l0), (2, .int l2)]) rfl dX5_readAll_144 (by decide) rfl ?_
          refine wt_goto (pc := 145) (tgt := 165) dX5_readAll_145 (by decide) ?_
          refine wt_sub (ls' := [(0, rf G.1 l0), (2, .int l2), (3, .int v141)]) [1, 2, 0] rfl ?_
          exact t_X5_readAll_165 he (fun _ _ _ h => ih h) h
        have h := ite_f q41_12 h
        rcases Decidable.em (v38 = 13) with q41_13 | q41_13
        · have h := ite_t q41_13 h
          refine wt_tableIn (pc := 41) (off := 115) (tgt := 156) q41_13 dX5_readAll_41 (by decide) (by decide) (by decide) (by decide) ?_
          refine wt_aload_n (pc := 156) 0 dX5_readAll_156 rfl ?_
          refine wt_getR (pc := 157) dX5_readAll_157 fl_X5_9 (fun _ _ _ => rfl) h (fun v157_9 h => ?_)
          refine wt_iconst (pc := 160) (v := 2) dX5_readAll_160 (by decide) ?_
          refine wt_cVI (pc := 161) (J' := j_X6_fail) (As := [.int 2]) (st := []) (B' := b_X6_fail) (u' := 0) (w' := 0) dX5_readAll_161 ml_X5_53 mv_X6_fail (fun v9 M9 e9 => c_X6_fail e9) rfl (by decide) rfl rfl (by decide) (by decide) (by decide) rfl h (fun v161_9 M161_9 h => ?_)
          refine wt_istore_n (pc := 164) (i := 3) (ls' := [(3, .int v161_9), (0, rf G.1 l0), (2, .int l2)]) rfl dX5_readAll_164 (by decide) rfl ?_
          refine wt_sub (ls' := [(0, rf G.1 l0), (2, .int l2), (3, .int v161_9)]) [1, 2, 0] rfl ?_
          exact t_X5_readAll_165 he (fun _ _ _ h => ih h) h
        have h := ite_f q41_13 h
        rcases Decidable.em (v38 = 14) with q41_14 | q41_14
        · have h := ite_t q41_14 h
          refine wt_tableIn (pc := 41) (off := 107) (tgt := 148) q41_14 dX5_readAll_41 (by decide) (by decide) (by decide) (by decide) ?_
          refine wt_aload_n (pc := 148) 0 dX5_readAll_148 rfl ?_
          refine wt_cVI (pc := 149) (J' := j_X5_readLaw) (As := []) (st := []) (B' := b_X5_readLaw) (u' := 0) (w' := 0) dX5_readAll_149 ml_X5_50 mv_X5_readLaw (fun v9 M9 e9 => c_X5_readLaw e9) rfl (by decide) rfl rfl (by decide) (by decide) (by decide) rfl h (fun v149 M149 h => ?_)
          refine wt_istore_n (pc := 152) (i := 3) (ls' := [(3, .int v149), (0, rf G.1 l0), (2, .int l2)]) rfl dX5_readAll_152 (by decide) rfl ?_
          refine wt_goto (pc := 153) (tgt := 165) dX5_readAll_153 (by decide) ?_
          refine wt_sub (ls' := [(0, rf G.1 l0), (2, .int l2), (3, .int v149)]) [1, 2, 0] rfl ?_
          exact t_X5_readAll_165 he (fun _ _ _ h => ih h) h
        have h := ite_f q41_14 h
        refine wt_tableOut (pc := 41) (tgt := 156) dX5_readAll_41 (by have h9 := ts_out (x := v38) 0 15 (fun i hi => by match i, hi with | 0, _ => exact ts_ne (by decide) q41_0 | 1, _ => exact ts_ne (by decide) q41_1 | 2, _ => exact ts_ne (by decide) q41_2 | 3, _ => exact ts_ne (by decide) q41_3 | 4, _ => exact ts_ne (by decide) q41_4 | 5, _ => exact ts_ne (by decide) q41_5 | 6, _ => exact ts_ne (by decide) q41_6 | 7, _ => exact ts_ne (by decide) q41_7 | 8, _ => exact ts_ne (by decide) q41_8 | 9, _ => exact ts_ne (by decide) q41_9 | 10, _ => exact ts_ne (by decide) q41_10 | 11, _ => exact ts_ne (by decide) q41_11 | 12, _ => exact ts_ne (by decide) q41_12 | 13, _ => exact ts_ne (by decide) q41_13 | 14, _ => exact ts_ne (by decide) q41_14 | i + 15, hi => omega); omega) (by decide) ?_
        refine wt_aload_n (pc := 156) 0 dX5_readAll_156 rfl ?_
        refine wt_getR (pc := 157) dX5_readAll_157 fl_X5_9 (fun _ _ _ => rfl) h (fun v157_10 h => ?_)
        refine wt_iconst (pc := 160) (v := 2) dX5_readAll_160 (by decide) ?_
        refine wt_cVI (pc := 161) (J' := j_X6_fail) (As := [.int 2]) (st := []) (B' := b_X6_fail) (u' := 0) (w' := 0) dX5_readAll_161 ml_X5_53 mv_X6_fail (fun v9 M9 e9 => c_X6_fail e9) rfl (by decide) rfl rfl (by decide) (by decide) (by decide) rfl h (fun v161_10 M161_10 h => ?_)
        refine wt_istore_n (pc := 164) (i := 3) (ls' := [(3, .int v161_10), (0, rf G.1 l0), (2, .int l2)]) rfl dX5_readAll_164 (by decide) rfl ?_
        refine wt_sub (ls' := [(0, rf G.1 l0), (2, .int l2), (3, .int v161_10)]) [1, 2, 0] rfl ?_
        exact t_X5_readAll_165 he (fun _ _ _ h => ih h) h
set_option maxHeartbeats 4000000 in
set_option maxRecDepth 100000 in
theorem t_X5_readAll_e {G : GG} {X : CX} {ans : Int32 × Mm} (he : EndI G X j_X5_readAll b_X5_readAll ans) {M : Mm} {l0 : Option Nat} {l1 : Int32} (h : g_X5_readAll M l0 l1 = some ans) : Wt G X j_X5_readAll b_X5_readAll 0 [(0, rf G.1 l0), (1, .int l1)] [] M 0 0 := by
  unfold g_X5_readAll at h
  refine wt_aload_n (pc := 0) 0 dX5_readAll_0 rfl ?_
  refine wt_getR (pc := 1) dX5_readAll_1 fl_X5_15 (fun _ _ _ => rfl) h (fun v1 h => ?_)
  refine wt_cVV (pc := 4) (J' := j_X4_clear) (As := []) (st := []) (B' := b_X4_clear) (u' := 0) (w' := 0) dX5_readAll_4 ml_X5_19 mv_X4_clear (fun M9 e9 => c_X4_clear e9) rfl (by decide) rfl rfl (by decide) (by decide) (by decide) rfl h (fun M4 h => ?_)
  refine wt_aload_n (pc := 7) 0 dX5_readAll_7 rfl ?_
  refine wt_getR (pc := 8) dX5_readAll_8 fl_X5_9 (fun _ _ _ => rfl) h (fun v8 h => ?_)
  refine wt_iload_n (pc := 11) 1 dX5_readAll_11 rfl ?_
  refine wt_cVV (pc := 12) (J' := j_X6_open) (As := [.int l1]) (st := []) (B' := b_X6_open) (u' := 0) (w' := 0) dX5_readAll_12 ml_X5_24 mv_X6_open (fun M9 e9 => c_X6_open e9) rfl (by decide) rfl rfl (by decide) (by decide) (by decide) rfl h (fun M12 h => ?_)
  refine wt_iconst (pc := 15) (v := 0) dX5_readAll_15 (by decide) ?_
  refine wt_istore_n (pc := 16) (i := 2) (ls' := [(2, .int 0), (0, rf G.1 l0), (1, .int l1)]) rfl dX5_readAll_16 (by decide) rfl ?_
  refine wt_sub (ls' := [(0, rf G.1 l0), (2, .int 0)]) [1, 0] rfl ?_
  exact t_X5_readAll_17 he  fu h
set_option maxHeartbeats 4000000 in
set_option maxRecDepth 100000 in
theorem c_X5_readAll {G : GG} {M : Mm} {l0 : Option Nat} {l1 : Int32} {r : Int32 × Mm} (h : f_X5_readAll M l0 l1 = some r) (l : Launch) : Ct l G j_X5_readAll b_X5_readAll [rf G.1 l0, .int l1] M (some (.int r.1)) r.2 := cf_Z h (by decide +kernel) (by simp [lg_sl, rf_cat, cat_i, cat_l, j_X5_readAll]) rfl (by simp [lv_args, rf_cat, cat_i, cat_l]) (fun h X he => t_X5_readAll_e he h)

theorem fl_X4_11 : FLk RX4 11 4 0 := ⟨_, rfl, by decide, Or.inl (gw_at 522 (by decide +kernel) rfl)⟩
theorem fl_X4_19 : FLk RX4 19 4 1 := ⟨_, rfl, by decide, Or.inl (gw_at 527 (by decide +kernel) rfl)⟩
theorem fl_X4_25 : FLk RX4 25 4 2 := ⟨_, rfl, by decide, Or.inl (gw_at 532 (by decide +kernel) rfl)⟩
theorem fl_X4_31 : FLk RX4 31 4 6 := ⟨_, rfl, by decide, Or.inl (gw_at 548 (by decide +kernel) rfl)⟩
theorem fl_X4_34 : FLk RX4 34 4 7 := ⟨_, rfl, by decide, Or.inl (gw_at 551 (by decide +kernel) rfl)⟩
theorem fl_X4_41 : FLk RX4 41 4 3 := ⟨_, rfl, by decide, Or.inl (gw_at 536 (by decide +kernel) rfl)⟩
theorem fl_X4_44 : FLk RX4 44 4 4 := ⟨_, rfl, by decide, Or.inl (gw_at 540 (by decide +kernel) rfl)⟩
theorem fl_X4_47 : FLk RX4 47 4 5 := ⟨_, rfl, by decide, Or.inl (gw_at 544 (by decide +kernel) rfl)⟩
theorem fl_X4_50 : FLk RX4 50 4 8 := ⟨_, rfl, by decide, Or.inl (gw_at 554 (by decide +kernel) rfl)⟩
theorem fl_X4_69 : FLk RX4 69 1 0 := ⟨_, rfl, by decide, Or.inr ⟨_, nw_at (w := Cond.fieldLinkNest RX4 69 "RoofGale$House" "name" "J" "RoofGale") 391 (by decide +kernel) rfl, rfl⟩⟩
theorem fl_X4_73 : FLk RX4 73 0 0 := ⟨_, rfl, by decide, Or.inr ⟨_, nw_at (w := Cond.fieldLinkNest RX4 73 "RoofGale$Gang" "name" "J" "RoofGale") 455 (by decide +kernel) rfl, rfl⟩⟩
theorem fl_X4_74 : FLk RX4 74 8 0 := ⟨_, rfl, by decide, Or.inr ⟨_, nw_at (w := Cond.fieldLinkNest RX4 74 "RoofGale$Wind" "name" "J" "RoofGale") 503 (by decide +kernel) rfl, rfl⟩⟩
theorem fl_X4_82 : FLk RX4 82 1 8 := ⟨_, rfl, by decide, Or.inr ⟨_, nw_at (w := Cond.fieldLinkNest RX4 82 "RoofGale$House" "stands" "Z" "RoofGale") 427 (by decide +kernel) rfl, rfl⟩⟩
theorem fl_X4_100 : FLk RX4 100 1 2 := ⟨_, rfl, by decide, Or.inr ⟨_, nw_at (w := Cond.fieldLinkNest RX4 100 "RoofGale$House" "worth" "I" "RoofGale") 401 (by decide +kernel) rfl, rfl⟩⟩
theorem fl_X4_103 : FLk RX4 103 8 2 := ⟨_, rfl, by decide, Or.inr ⟨_, nw_at (w := Cond.fieldLinkNest RX4 103 "RoofGale$Wind" "chances" "I" "RoofGale") 513 (by decide +kernel) rfl, rfl⟩⟩
theorem fl_X4_106 : FLk RX4 106 8 1 := ⟨_, rfl, by decide, Or.inr ⟨_, nw_at (w := Cond.fieldLinkNest RX4 106 "RoofGale$Wind" "strength" "I" "RoofGale") 508 (by decide +kernel) rfl, rfl⟩⟩
theorem fl_X4_113 : FLk RX4 113 0 5 := ⟨_, rfl, by decide, Or.inr ⟨_, nw_at (w := Cond.fieldLinkNest RX4 113 "RoofGale$Gang" "hand" "I" "RoofGale") 474 (by decide +kernel) rfl, rfl⟩⟩
theorem fl_X4_127 : FLk RX4 127 0 4 := ⟨_, rfl, by decide, Or.inr ⟨_, nw_at (w := Cond.fieldLinkNest RX4 127 "RoofGale$Gang" "at" "I" "RoofGale") 471 (by decide +kernel) rfl, rfl⟩⟩
theorem fl_X4_130 : FLk RX4 130 1 1 := ⟨_, rfl, by decide, Or.inr ⟨_, nw_at (w := Cond.fieldLinkNest RX4 130 "RoofGale$House" "at" "I" "RoofGale") 397 (by decide +kernel) rfl, rfl⟩⟩
theorem fl_X4_140 : FLk RX4 140 0 6 := ⟨_, rfl, by decide, Or.inr ⟨_, nw_at (w := Cond.fieldLinkNest RX4 140 "RoofGale$Gang" "way" "I" "RoofGale") 477 (by decide +kernel) rfl, rfl⟩⟩
theorem fl_X4_146 : FLk RX4 146 0 7 := ⟨_, rfl, by decide, Or.inr ⟨_, nw_at (w := Cond.fieldLinkNest RX4 146 "RoofGale$Gang" "piece" "I" "RoofGale") 479 (by decide +kernel) rfl, rfl⟩⟩
theorem fl_X4_177 : FLk RX4 177 1 7 := ⟨_, rfl, by decide, Or.inr ⟨_, nw_at (w := Cond.fieldLinkNest RX4 177 "RoofGale$House" "on" "I" "RoofGale") 424 (by decide +kernel) rfl, rfl⟩⟩
theorem fl_X4_180 : FLk RX4 180 0 1 := ⟨_, rfl, by decide, Or.inr ⟨_, nw_at (w := Cond.fieldLinkNest RX4 180 "RoofGale$Gang" "home" "I" "RoofGale") 460 (by decide +kernel) rfl, rfl⟩⟩
theorem fl_X4_194 : FLk RX4 194 1 3 := ⟨_, rfl, by decide, Or.inr ⟨_, nw_at (w := Cond.fieldLinkNest RX4 194 "RoofGale$House" "pieces" "I" "RoofGale") 406 (by decide +kernel) rfl, rfl⟩⟩
theorem ff_X4_11 : FFk RX4 11 4 0 := ⟨_, rfl, by decide, rfl, rfl, gw_at 522 (by decide +kernel) rfl⟩
theorem ff_X4_19 : FFk RX4 19 4 1 := ⟨_, rfl, by decide, rfl, rfl, gw_at 527 (by decide +kernel) rfl⟩
theorem ff_X4_25 : FFk RX4 25 4 2 := ⟨_, rfl, by decide, rfl, rfl, gw_at 532 (by decide +kernel) rfl⟩
theorem ff_X4_31 : FFk RX4 31 4 6 := ⟨_, rfl, by decide, rfl, rfl, gw_at 548 (by decide +kernel) rfl⟩
theorem oi_X4_3 : Cond.methodLink RX4 3 Lib.objectInit ∈ GW := gw_at 376 (by decide +kernel) rfl
theorem bi_X4_57 : Cond.methodLink RX4 57 arraycopyName ∈ GW := gw_at 1261 (by decide +kernel) rfl
theorem bi_X4_131 : Cond.methodLink RX4 131 Lib.Math.abs.name ∈ GW := gw_at 1138 (by decide +kernel) rfl
theorem bi_X4_162 : Cond.methodLink RX4 162 Lib.Math.max.name ∈ GW := gw_at 1185 (by decide +kernel) rfl
theorem bi_X4_165 : Cond.methodLink RX4 165 Lib.Math.min.name ∈ GW := gw_at 1179 (by decide +kernel) rfl
theorem cl_X4_9 : CLk RX4 9 1 := ⟨_, rfl, gw_at 377 (by decide +kernel) rfl, gw_at 385 (by decide +kernel) rfl, gw_at 215 (by decide +kernel) rfl⟩
theorem cl_X4_17 : CLk RX4 17 0 := ⟨_, rfl, gw_at 379 (by decide +kernel) rfl, gw_at 449 (by decide +kernel) rfl, gw_at 216 (by decide +kernel) rfl⟩
theorem cl_X4_23 : CLk RX4 23 8 := ⟨_, rfl, gw_at 381 (by decide +kernel) rfl, gw_at 497 (by decide +kernel) rfl, gw_at 217 (by decide +kernel) rfl⟩
theorem acl_X4_9 : Cond.classLink RX4 9 RX1 ∈ GW := gw_at 377 (by decide +kernel) rfl
theorem acl_X4_17 : Cond.classLink RX4 17 RX0 ∈ GW := gw_at 379 (by decide +kernel) rfl
theorem acl_X4_23 : Cond.classLink RX4 23 RX8 ∈ GW := gw_at 381 (by decide +kernel) rfl
theorem acl_X4_29 : Cond.classLink RX4 29 ("[" ++ (FieldType.array .int).toString) ∈ GW := gw_at 383 (by decide +kernel) rfl
theorem dX4_canTake_0 : decode cX4_canTake 0 = .ok (.aload_n 0, 1) := by decide +kernel
theorem dX4_canTake_1 : decode cX4_canTake 1 = .ok (.getfield 11, 3) := by decide +kernel
theorem dX4_canTake_4 : decode cX4_canTake 4 = .ok (.iload_n 2, 1) := by decide +kernel
theorem dX4_canTake_5 : decode cX4_canTake 5 = .ok (.aaload, 1) := by decide +kernel
theorem dX4_canTake_6 : decode cX4_canTake 6 = .ok (.invokevirtual 86, 3) := by decide +kernel
theorem dX4_canTake_9 : decode cX4_canTake 9 = .ok (.ifCond .ne 5, 3) := by decide +kernel
theorem dX4_canTake_12 : decode cX4_canTake 12 = .ok (.iconst 0, 1) := by decide +kernel
theorem dX4_canTake_13 : decode cX4_canTake 13 = .ok (.ireturn, 1) := by decide +kernel
theorem dX4_canTake_14 : decode cX4_canTake 14 = .ok (.iconst 0, 1) := by decide +kernel
theorem dX4_canTake_15 : decode cX4_canTake 15 = .ok (.istore_n 3, 1) := by decide +kernel
theorem dX4_canTake_16 : decode cX4_canTake 16 = .ok (.iload_n 3, 1) := by decide +kernel
theorem dX4_canTake_17 : decode cX4_canTake 17 = .ok (.aload_n 0, 1) := by decide +kernel
theorem dX4_canTake_18 : decode cX4_canTake 18 = .ok (.getfield 44, 3) := by decide +kernel
theorem dX4_canTake_21 : decode cX4_canTake 21 = .ok (.if_icmp .ge 29, 3) := by decide +kernel
theorem dX4_canTake_24 : decode cX4_canTake 24 = .ok (.iload_n 3, 1) := by decide +kernel
theorem dX4_canTake_25 : decode cX4_canTake 25 = .ok (.iload_n 1, 1) := by decide +kernel
theorem dX4_canTake_26 : decode cX4_canTake 26 = .ok (.if_icmp .eq 18, 3) := by decide +kernel
theorem dX4_canTake_29 : decode cX4_canTake 29 = .ok (.aload_n 0, 1) := by decide +kernel
theorem dX4_canTake_30 : decode cX4_canTake 30 = .ok (.getfield 19, 3) := by decide +kernel
theorem dX4_canTake_33 : decode cX4_canTake 33 = .ok (.iload_n 3, 1) := by decide +kernel
theorem dX4_canTake_34 : decode cX4_canTake 34 = .ok (.aaload, 1) := by decide +kernel
theorem dX4_canTake_35 : decode cX4_canTake 35 = .ok (.getfield 113, 3) := by decide +kernel
theorem dX4_canTake_38 : decode cX4_canTake 38 = .ok (.iload_n 2, 1) := by decide +kernel
theorem dX4_canTake_39 : decode cX4_canTake 39 = .ok (.if_icmp .ne 5, 3) := by decide +kernel
theorem dX4_canTake_42 : decode cX4_canTake 42 = .ok (.iconst 0, 1) := by decide +kernel
theorem dX4_canTake_43 : decode cX4_canTake 43 = .ok (.ireturn, 1) := by decide +kernel
theorem dX4_canTake_44 : decode cX4_canTake 44 = .ok (.iinc 3 1, 3) := by decide +kernel
theorem dX4_canTake_47 : decode cX4_canTake 47 = .ok (.goto (-31), 3) := by decide +kernel
theorem dX4_canTake_50 : decode cX4_canTake 50 = .ok (.iconst 1, 1) := by decide +kernel
theorem dX4_canTake_51 : decode cX4_canTake 51 = .ok (.ireturn, 1) := by decide +kernel
def j_X4_canTake : JD := (yX4_canTake, cX4_canTake, 4, (some .boolean))
def b_X4_canTake : BD := (1, 0, 0)
theorem dX4_dueOf_0 : decode cX4_dueOf 0 = .ok (.iconst 0, 1) := by decide +kernel
theorem dX4_dueOf_1 : decode cX4_dueOf 1 = .ok (.istore_n 2, 1) := by decide +kernel
theorem dX4_dueOf_2 : decode cX4_dueOf 2 = .ok (.iconst 0, 1) := by decide +kernel
theorem dX4_dueOf_3 : decode cX4_dueOf 3 = .ok (.istore_n 3, 1) := by decide +kernel
theorem dX4_dueOf_4 : decode cX4_dueOf 4 = .ok (.iload_n 3, 1) := by decide +kernel
theorem dX4_dueOf_5 : decode cX4_dueOf 5 = .ok (.aload_n 0, 1) := by decide +kernel
theorem dX4_dueOf_6 : decode cX4_dueOf 6 = .ok (.getfield 41, 3) := by decide +kernel
theorem dX4_dueOf_9 : decode cX4_dueOf 9 = .ok (.if_icmp .ge 29, 3) := by decide +kernel
theorem dX4_dueOf_12 : decode cX4_dueOf 12 = .ok (.iload_n 2, 1) := by decide +kernel
theorem dX4_dueOf_13 : decode cX4_dueOf 13 = .ok (.aload_n 0, 1) := by decide +kernel
theorem dX4_dueOf_14 : decode cX4_dueOf 14 = .ok (.getfield 31, 3) := by decide +kernel
theorem dX4_dueOf_17 : decode cX4_dueOf 17 = .ok (.iload_n 3, 1) := by decide +kernel
theorem dX4_dueOf_18 : decode cX4_dueOf 18 = .ok (.aaload, 1) := by decide +kernel
theorem dX4_dueOf_19 : decode cX4_dueOf 19 = .ok (.iload_n 1, 1) := by decide +kernel
theorem dX4_dueOf_20 : decode cX4_dueOf 20 = .ok (.iaload, 1) := by decide +kernel
theorem dX4_dueOf_21 : decode cX4_dueOf 21 = .ok (.aload_n 0, 1) := by decide +kernel
theorem dX4_dueOf_22 : decode cX4_dueOf 22 = .ok (.getfield 31, 3) := by decide +kernel
theorem dX4_dueOf_25 : decode cX4_dueOf 25 = .ok (.iload_n 1, 1) := by decide +kernel
theorem dX4_dueOf_26 : decode cX4_dueOf 26 = .ok (.aaload, 1) := by decide +kernel
theorem dX4_dueOf_27 : decode cX4_dueOf 27 = .ok (.iload_n 3, 1) := by decide +kernel
theorem dX4_dueOf_28 : decode cX4_dueOf 28 = .ok (.iaload, 1) := by decide +kernel
theorem dX4_dueOf_29 : decode cX4_dueOf 29 = .ok (.isub, 1) := by decide +kernel
theorem dX4_dueOf_30 : decode cX4_dueOf 30 = .ok (.iadd, 1) := by decide +kernel
theorem dX4_dueOf_31 : decode cX4_dueOf 31 = .ok (.istore_n 2, 1) := by decide +kernel
theorem dX4_dueOf_32 : decode cX4_dueOf 32 = .ok (.iinc 3 1, 3) := by decide +kernel
theorem dX4_dueOf_35 : decode cX4_dueOf 35 = .ok (.goto (-31), 3) := by decide +kernel
theorem dX4_dueOf_38 : decode cX4_dueOf 38 = .ok (.iload_n 2, 1) := by decide +kernel
theorem dX4_dueOf_39 : decode cX4_dueOf 39 = .ok (.ireturn, 1) := by decide +kernel
def j_X4_dueOf : JD := (yX4_dueOf, cX4_dueOf, 4, (some .int))
def b_X4_dueOf : BD := (0, 0, 0)
theorem dX4_rankByLaw_0 : decode cX4_rankByLaw 0 = .ok (.aload_n 0, 1) := by decide +kernel
theorem dX4_rankByLaw_1 : decode cX4_rankByLaw 1 = .ok (.getfield 34, 3) := by decide +kernel
theorem dX4_rankByLaw_4 : decode cX4_rankByLaw 4 = .ok (.tableswitch 68 0 2 #[28, 38, 44], 28) := by decide +kernel
theorem dX4_rankByLaw_32 : decode cX4_rankByLaw 32 = .ok (.aload_n 0, 1) := by decide +kernel
theorem dX4_rankByLaw_33 : decode cX4_rankByLaw 33 = .ok (.getfield 11, 3) := by decide +kernel
theorem dX4_rankByLaw_36 : decode cX4_rankByLaw 36 = .ok (.iload_n 2, 1) := by decide +kernel
theorem dX4_rankByLaw_37 : decode cX4_rankByLaw 37 = .ok (.aaload, 1) := by decide +kernel
theorem dX4_rankByLaw_38 : decode cX4_rankByLaw 38 = .ok (.getfield 100, 3) := by decide +kernel
theorem dX4_rankByLaw_41 : decode cX4_rankByLaw 41 = .ok (.ireturn, 1) := by decide +kernel
theorem dX4_rankByLaw_42 : decode cX4_rankByLaw 42 = .ok (.aload_n 0, 1) := by decide +kernel
theorem dX4_rankByLaw_43 : decode cX4_rankByLaw 43 = .ok (.iload_n 2, 1) := by decide +kernel
theorem dX4_rankByLaw_44 : decode cX4_rankByLaw 44 = .ok (.invokevirtual 124, 3) := by decide +kernel
theorem dX4_rankByLaw_47 : decode cX4_rankByLaw 47 = .ok (.ireturn, 1) := by decide +kernel
theorem dX4_rankByLaw_48 : decode cX4_rankByLaw 48 = .ok (.aload_n 0, 1) := by decide +kernel
theorem dX4_rankByLaw_49 : decode cX4_rankByLaw 49 = .ok (.getfield 19, 3) := by decide +kernel
theorem dX4_rankByLaw_52 : decode cX4_rankByLaw 52 = .ok (.iload_n 1, 1) := by decide +kernel
theorem dX4_rankByLaw_53 : decode cX4_rankByLaw 53 = .ok (.aaload, 1) := by decide +kernel
theorem dX4_rankByLaw_54 : decode cX4_rankByLaw 54 = .ok (.getfield 127, 3) := by decide +kernel
theorem dX4_rankByLaw_57 : decode cX4_rankByLaw 57 = .ok (.aload_n 0, 1) := by decide +kernel
theorem dX4_rankByLaw_58 : decode cX4_rankByLaw 58 = .ok (.getfield 11, 3) := by decide +kernel
theorem dX4_rankByLaw_61 : decode cX4_rankByLaw 61 = .ok (.iload_n 2, 1) := by decide +kernel
theorem dX4_rankByLaw_62 : decode cX4_rankByLaw 62 = .ok (.aaload, 1) := by decide +kernel
theorem dX4_rankByLaw_63 : decode cX4_rankByLaw 63 = .ok (.getfield 130, 3) := by decide +kernel
theorem dX4_rankByLaw_66 : decode cX4_rankByLaw 66 = .ok (.isub, 1) := by decide +kernel
theorem dX4_rankByLaw_67 : decode cX4_rankByLaw 67 = .ok (.invokestatic 131, 3) := by decide +kernel
theorem dX4_rankByLaw_70 : decode cX4_rankByLaw 70 = .ok (.ineg, 1) := by decide +kernel
theorem dX4_rankByLaw_71 : decode cX4_rankByLaw 71 = .ok (.ireturn, 1) := by decide +kernel
theorem dX4_rankByLaw_72 : decode cX4_rankByLaw 72 = .ok (.iconst 0, 1) := by decide +kernel
theorem dX4_rankByLaw_73 : decode cX4_rankByLaw 73 = .ok (.ireturn, 1) := by decide +kernel
def j_X4_rankByLaw : JD := (yX4_rankByLaw, cX4_rankByLaw, 3, (some .int))
def b_X4_rankByLaw : BD := (1, 0, 0)
theorem dX4_firstByLaw_0 : decode cX4_firstByLaw 0 = .ok (.iconst (-1), 1) := by decide +kernel
theorem dX4_firstByLaw_1 : decode cX4_firstByLaw 1 = .ok (.istore_n 2, 1) := by decide +kernel
theorem dX4_firstByLaw_2 : decode cX4_firstByLaw 2 = .ok (.iconst 0, 1) := by decide +kernel
theorem dX4_firstByLaw_3 : decode cX4_firstByLaw 3 = .ok (.istore_n 3, 1) := by decide +kernel
theorem dX4_firstByLaw_4 : decode cX4_firstByLaw 4 = .ok (.iconst 0, 1) := by decide +kernel
theorem dX4_firstByLaw_5 : decode cX4_firstByLaw 5 = .ok (.istore 4, 2) := by decide +kernel
theorem dX4_firstByLaw_7 : decode cX4_firstByLaw 7 = .ok (.iload 4, 2) := by decide +kernel
theorem dX4_firstByLaw_9 : decode cX4_firstByLaw 9 = .ok (.aload_n 0, 1) := by decide +kernel
theorem dX4_firstByLaw_10 : decode cX4_firstByLaw 10 = .ok (.getfield 41, 3) := by decide +kernel
theorem dX4_firstByLaw_13 : decode cX4_firstByLaw 13 = .ok (.if_icmp .ge 45, 3) := by decide +kernel
theorem dX4_firstByLaw_16 : decode cX4_firstByLaw 16 = .ok (.aload_n 0, 1) := by decide +kernel
theorem dX4_firstByLaw_17 : decode cX4_firstByLaw 17 = .ok (.iload_n 1, 1) := by decide +kernel
theorem dX4_firstByLaw_18 : decode cX4_firstByLaw 18 = .ok (.iload 4, 2) := by decide +kernel
theorem dX4_firstByLaw_20 : decode cX4_firstByLaw 20 = .ok (.invokevirtual 116, 3) := by decide +kernel
theorem dX4_firstByLaw_23 : decode cX4_firstByLaw 23 = .ok (.ifCond .eq 29, 3) := by decide +kernel
theorem dX4_firstByLaw_26 : decode cX4_firstByLaw 26 = .ok (.aload_n 0, 1) := by decide +kernel
theorem dX4_firstByLaw_27 : decode cX4_firstByLaw 27 = .ok (.iload_n 1, 1) := by decide +kernel
theorem dX4_firstByLaw_28 : decode cX4_firstByLaw 28 = .ok (.iload 4, 2) := by decide +kernel
theorem dX4_firstByLaw_30 : decode cX4_firstByLaw 30 = .ok (.invokevirtual 120, 3) := by decide +kernel
theorem dX4_firstByLaw_33 : decode cX4_firstByLaw 33 = .ok (.istore 5, 2) := by decide +kernel
theorem dX4_firstByLaw_35 : decode cX4_firstByLaw 35 = .ok (.iload_n 2, 1) := by decide +kernel
theorem dX4_firstByLaw_36 : decode cX4_firstByLaw 36 = .ok (.iconst (-1), 1) := by decide +kernel
theorem dX4_firstByLaw_37 : decode cX4_firstByLaw 37 = .ok (.if_icmp .eq 9, 3) := by decide +kernel
theorem dX4_firstByLaw_40 : decode cX4_firstByLaw 40 = .ok (.iload 5, 2) := by decide +kernel
theorem dX4_firstByLaw_42 : decode cX4_firstByLaw 42 = .ok (.iload_n 3, 1) := by decide +kernel
theorem dX4_firstByLaw_43 : decode cX4_firstByLaw 43 = .ok (.if_icmp .le 9, 3) := by decide +kernel
theorem dX4_firstByLaw_46 : decode cX4_firstByLaw 46 = .ok (.iload 5, 2) := by decide +kernel
theorem dX4_firstByLaw_48 : decode cX4_firstByLaw 48 = .ok (.istore_n 3, 1) := by decide +kernel
theorem dX4_firstByLaw_49 : decode cX4_firstByLaw 49 = .ok (.iload 4, 2) := by decide +kernel
theorem dX4_firstByLaw_51 : decode cX4_firstByLaw 51 = .ok (.istore_n 2, 1) := by decide +kernel
theorem dX4_firstByLaw_52 : decode cX4_firstByLaw 52 = .ok (.iinc 4 1, 3) := by decide +kernel
theorem dX4_firstByLaw_55 : decode cX4_firstByLaw 55 = .ok (.goto (-48), 3) := by decide +kernel
theorem dX4_firstByLaw_58 : decode cX4_firstByLaw 58 = .ok (.iload_n 2, 1) := by decide +kernel
theorem dX4_firstByLaw_59 : decode cX4_firstByLaw 59 = .ok (.ireturn, 1) := by decide +kernel
def j_X4_firstByLaw : JD := (yX4_firstByLaw, cX4_firstByLaw, 6, (some .int))
def b_X4_firstByLaw : BD := (2, 0, 0)
theorem dX4_take_0 : decode cX4_take 0 = .ok (.aload_n 0, 1) := by decide +kernel
theorem dX4_take_1 : decode cX4_take 1 = .ok (.getfield 19, 3) := by decide +kernel
theorem dX4_take_4 : decode cX4_take 4 = .ok (.iload_n 1, 1) := by decide +kernel
theorem dX4_take_5 : decode cX4_take 5 = .ok (.aaload, 1) := by decide +kernel
theorem dX4_take_6 : decode cX4_take 6 = .ok (.astore_n 3, 1) := by decide +kernel
theorem dX4_take_7 : decode cX4_take 7 = .ok (.aload_n 3, 1) := by decide +kernel
theorem dX4_take_8 : decode cX4_take 8 = .ok (.aload_n 3, 1) := by decide +kernel
theorem dX4_take_9 : decode cX4_take 9 = .ok (.aload_n 0, 1) := by decide +kernel
theorem dX4_take_10 : decode cX4_take 10 = .ok (.getfield 11, 3) := by decide +kernel
theorem dX4_take_13 : decode cX4_take 13 = .ok (.iload_n 2, 1) := by decide +kernel
theorem dX4_take_14 : decode cX4_take 14 = .ok (.aaload, 1) := by decide +kernel
theorem dX4_take_15 : decode cX4_take 15 = .ok (.invokevirtual 136, 3) := by decide +kernel
theorem dX4_take_18 : decode cX4_take 18 = .ok (.putfield 140, 3) := by decide +kernel
theorem dX4_take_21 : decode cX4_take 21 = .ok (.aload_n 3, 1) := by decide +kernel
theorem dX4_take_22 : decode cX4_take 22 = .ok (.aload_n 3, 1) := by decide +kernel
theorem dX4_take_23 : decode cX4_take 23 = .ok (.aload_n 0, 1) := by decide +kernel
theorem dX4_take_24 : decode cX4_take 24 = .ok (.getfield 11, 3) := by decide +kernel
theorem dX4_take_27 : decode cX4_take 27 = .ok (.iload_n 2, 1) := by decide +kernel
theorem dX4_take_28 : decode cX4_take 28 = .ok (.aaload, 1) := by decide +kernel
theorem dX4_take_29 : decode cX4_take 29 = .ok (.invokevirtual 143, 3) := by decide +kernel
theorem dX4_take_32 : decode cX4_take 32 = .ok (.putfield 146, 3) := by decide +kernel
theorem dX4_take_35 : decode cX4_take 35 = .ok (.aload_n 3, 1) := by decide +kernel
theorem dX4_take_36 : decode cX4_take 36 = .ok (.iload_n 2, 1) := by decide +kernel
theorem dX4_take_37 : decode cX4_take 37 = .ok (.putfield 113, 3) := by decide +kernel
theorem dX4_take_40 : decode cX4_take 40 = .ok (.aload_n 3, 1) := by decide +kernel
theorem dX4_take_41 : decode cX4_take 41 = .ok (.aload_n 0, 1) := by decide +kernel
theorem dX4_take_42 : decode cX4_take 42 = .ok (.getfield 11, 3) := by decide +kernel
theorem dX4_take_45 : decode cX4_take 45 = .ok (.iload_n 2, 1) := by decide +kernel
theorem dX4_take_46 : decode cX4_take 46 = .ok (.aaload, 1) := by decide +kernel
theorem dX4_take_47 : decode cX4_take 47 = .ok (.getfield 130, 3) := by decide +kernel
theorem dX4_take_50 : decode cX4_take 50 = .ok (.putfield 127, 3) := by decide +kernel
theorem dX4_take_53 : decode cX4_take 53 = .ok (.aload_n 3, 1) := by decide +kernel
theorem dX4_take_54 : decode cX4_take 54 = .ok (.getfield 140, 3) := by decide +kernel
theorem dX4_take_57 : decode cX4_take 57 = .ok (.ireturn, 1) := by decide +kernel
def j_X4_take : JD := (yX4_take, cX4_take, 4, (some .int))
def b_X4_take : BD := (2, 0, 0)
theorem dX4_pieceComesOff_0 : decode cX4_pieceComesOff 0 = .ok (.aload_n 0, 1) := by decide +kernel
theorem dX4_pieceComesOff_1 : decode cX4_pieceComesOff 1 = .ok (.getfield 19, 3) := by decide +kernel
theorem dX4_pieceComesOff_4 : decode cX4_pieceComesOff 4 = .ok (.iload_n 1, 1) := by decide +kernel
theorem dX4_pieceComesOff_5 : decode cX4_pieceComesOff 5 = .ok (.aaload, 1) := by decide +kernel
theorem dX4_pieceComesOff_6 : decode cX4_pieceComesOff 6 = .ok (.astore_n 3, 1) := by decide +kernel
theorem dX4_pieceComesOff_7 : decode cX4_pieceComesOff 7 = .ok (.aload_n 0, 1) := by decide +kernel
theorem dX4_pieceComesOff_8 : decode cX4_pieceComesOff 8 = .ok (.getfield 11, 3) := by decide +kernel
theorem dX4_pieceComesOff_11 : decode cX4_pieceComesOff 11 = .ok (.iload_n 2, 1) := by decide +kernel
theorem dX4_pieceComesOff_12 : decode cX4_pieceComesOff 12 = .ok (.aaload, 1) := by decide +kernel
theorem dX4_pieceComesOff_13 : decode cX4_pieceComesOff 13 = .ok (.dup, 1) := by decide +kernel
theorem dX4_pieceComesOff_14 : decode cX4_pieceComesOff 14 = .ok (.getfield 177, 3) := by decide +kernel
theorem dX4_pieceComesOff_17 : decode cX4_pieceComesOff 17 = .ok (.iconst 1, 1) := by decide +kernel
theorem dX4_pieceComesOff_18 : decode cX4_pieceComesOff 18 = .ok (.isub, 1) := by decide +kernel
theorem dX4_pieceComesOff_19 : decode cX4_pieceComesOff 19 = .ok (.putfield 177, 3) := by decide +kernel
theorem dX4_pieceComesOff_22 : decode cX4_pieceComesOff 22 = .ok (.aload_n 0, 1) := by decide +kernel
theorem dX4_pieceComesOff_23 : decode cX4_pieceComesOff 23 = .ok (.getfield 11, 3) := by decide +kernel
theorem dX4_pieceComesOff_26 : decode cX4_pieceComesOff 26 = .ok (.iload_n 2, 1) := by decide +kernel
theorem dX4_pieceComesOff_27 : decode cX4_pieceComesOff 27 = .ok (.aaload, 1) := by decide +kernel
theorem dX4_pieceComesOff_28 : decode cX4_pieceComesOff 28 = .ok (.getfield 177, 3) := by decide +kernel
theorem dX4_pieceComesOff_31 : decode cX4_pieceComesOff 31 = .ok (.ifCond .le 19, 3) := by decide +kernel
theorem dX4_pieceComesOff_34 : decode cX4_pieceComesOff 34 = .ok (.aload_n 3, 1) := by decide +kernel
theorem dX4_pieceComesOff_35 : decode cX4_pieceComesOff 35 = .ok (.aload_n 3, 1) := by decide +kernel
theorem dX4_pieceComesOff_36 : decode cX4_pieceComesOff 36 = .ok (.aload_n 0, 1) := by decide +kernel
theorem dX4_pieceComesOff_37 : decode cX4_pieceComesOff 37 = .ok (.getfield 11, 3) := by decide +kernel
theorem dX4_pieceComesOff_40 : decode cX4_pieceComesOff 40 = .ok (.iload_n 2, 1) := by decide +kernel
theorem dX4_pieceComesOff_41 : decode cX4_pieceComesOff 41 = .ok (.aaload, 1) := by decide +kernel
theorem dX4_pieceComesOff_42 : decode cX4_pieceComesOff 42 = .ok (.invokevirtual 143, 3) := by decide +kernel
theorem dX4_pieceComesOff_45 : decode cX4_pieceComesOff 45 = .ok (.putfield 146, 3) := by decide +kernel
theorem dX4_pieceComesOff_48 : decode cX4_pieceComesOff 48 = .ok (.iconst 0, 1) := by decide +kernel
theorem dX4_pieceComesOff_49 : decode cX4_pieceComesOff 49 = .ok (.ireturn, 1) := by decide +kernel
theorem dX4_pieceComesOff_50 : decode cX4_pieceComesOff 50 = .ok (.aload_n 3, 1) := by decide +kernel
theorem dX4_pieceComesOff_51 : decode cX4_pieceComesOff 51 = .ok (.getfield 180, 3) := by decide +kernel
theorem dX4_pieceComesOff_54 : decode cX4_pieceComesOff 54 = .ok (.iload_n 2, 1) := by decide +kernel
theorem dX4_pieceComesOff_55 : decode cX4_pieceComesOff 55 = .ok (.if_icmp .eq 33, 3) := by decide +kernel
theorem dX4_pieceComesOff_58 : decode cX4_pieceComesOff 58 = .ok (.aload_n 0, 1) := by decide +kernel
theorem dX4_pieceComesOff_59 : decode cX4_pieceComesOff 59 = .ok (.getfield 31, 3) := by decide +kernel
theorem dX4_pieceComesOff_62 : decode cX4_pieceComesOff 62 = .ok (.iload_n 2, 1) := by decide +kernel
theorem dX4_pieceComesOff_63 : decode cX4_pieceComesOff 63 = .ok (.aaload, 1) := by decide +kernel
theorem dX4_pieceComesOff_64 : decode cX4_pieceComesOff 64 = .ok (.aload_n 3, 1) := by decide +kernel
theorem dX4_pieceComesOff_65 : decode cX4_pieceComesOff 65 = .ok (.getfield 180, 3) := by decide +kernel
theorem dX4_pieceComesOff_68 : decode cX4_pieceComesOff 68 = .ok (.sipush 9999, 3) := by decide +kernel
theorem dX4_pieceComesOff_71 : decode cX4_pieceComesOff 71 = .ok (.aload_n 0, 1) := by decide +kernel
theorem dX4_pieceComesOff_72 : decode cX4_pieceComesOff 72 = .ok (.getfield 31, 3) := by decide +kernel
theorem dX4_pieceComesOff_75 : decode cX4_pieceComesOff 75 = .ok (.iload_n 2, 1) := by decide +kernel
theorem dX4_pieceComesOff_76 : decode cX4_pieceComesOff 76 = .ok (.aaload, 1) := by decide +kernel
theorem dX4_pieceComesOff_77 : decode cX4_pieceComesOff 77 = .ok (.aload_n 3, 1) := by decide +kernel
theorem dX4_pieceComesOff_78 : decode cX4_pieceComesOff 78 = .ok (.getfield 180, 3) := by decide +kernel
theorem dX4_pieceComesOff_81 : decode cX4_pieceComesOff 81 = .ok (.iaload, 1) := by decide +kernel
theorem dX4_pieceComesOff_82 : decode cX4_pieceComesOff 82 = .ok (.iconst 1, 1) := by decide +kernel
theorem dX4_pieceComesOff_83 : decode cX4_pieceComesOff 83 = .ok (.iadd, 1) := by decide +kernel
theorem dX4_pieceComesOff_84 : decode cX4_pieceComesOff 84 = .ok (.invokestatic 165, 3) := by decide +kernel
theorem dX4_pieceComesOff_87 : decode cX4_pieceComesOff 87 = .ok (.iastore, 1) := by decide +kernel
theorem dX4_pieceComesOff_88 : decode cX4_pieceComesOff 88 = .ok (.aload_n 3, 1) := by decide +kernel
theorem dX4_pieceComesOff_89 : decode cX4_pieceComesOff 89 = .ok (.invokevirtual 183, 3) := by decide +kernel
theorem dX4_pieceComesOff_92 : decode cX4_pieceComesOff 92 = .ok (.iconst 1, 1) := by decide +kernel
theorem dX4_pieceComesOff_93 : decode cX4_pieceComesOff 93 = .ok (.ireturn, 1) := by decide +kernel
def j_X4_pieceComesOff : JD := (yX4_pieceComesOff, cX4_pieceComesOff, 4, (some .int))
def b_X4_pieceComesOff : BD := (2, 0, 0)
theorem dX4_passMinute_0 : decode cX4_passMinute 0 = .ok (.aload_n 0, 1) := by decide +kernel
theorem dX4_passMinute_1 : decode cX4_passMinute 1 = .ok (.getfield 19, 3) := by decide +kernel
theorem dX4_passMinute_4 : decode cX4_passMinute 4 = .ok (.iload_n 1, 1) := by decide +kernel
theorem dX4_passMinute_5 : decode cX4_passMinute 5 = .ok (.aaload, 1) := by decide +kernel
theorem dX4_passMinute_6 : decode cX4_passMinute 6 = .ok (.astore_n 2, 1) := by decide +kernel
theorem dX4_passMinute_7 : decode cX4_passMinute 7 = .ok (.aload_n 2, 1) := by decide +kernel
theorem dX4_passMinute_8 : decode cX4_passMinute 8 = .ok (.getfield 113, 3) := by decide +kernel
theorem dX4_passMinute_11 : decode cX4_passMinute 11 = .ok (.iconst (-1), 1) := by decide +kernel
theorem dX4_passMinute_12 : decode cX4_passMinute 12 = .ok (.if_icmp .ne 23, 3) := by decide +kernel
theorem dX4_passMinute_15 : decode cX4_passMinute 15 = .ok (.aload_n 0, 1) := by decide +kernel
theorem dX4_passMinute_16 : decode cX4_passMinute 16 = .ok (.iload_n 1, 1) := by decide +kernel
theorem dX4_passMinute_17 : decode cX4_passMinute 17 = .ok (.invokevirtual 168, 3) := by decide +kernel
theorem dX4_passMinute_20 : decode cX4_passMinute 20 = .ok (.istore_n 3, 1) := by decide +kernel
theorem dX4_passMinute_21 : decode cX4_passMinute 21 = .ok (.iload_n 3, 1) := by decide +kernel
theorem dX4_passMinute_22 : decode cX4_passMinute 22 = .ok (.iconst (-1), 1) := by decide +kernel
theorem dX4_passMinute_23 : decode cX4_passMinute 23 = .ok (.if_icmp .ne 5, 3) := by decide +kernel
theorem dX4_passMinute_26 : decode cX4_passMinute 26 = .ok (.iconst 0, 1) := by decide +kernel
theorem dX4_passMinute_27 : decode cX4_passMinute 27 = .ok (.ireturn, 1) := by decide +kernel
theorem dX4_passMinute_28 : decode cX4_passMinute 28 = .ok (.aload_n 0, 1) := by decide +kernel
theorem dX4_passMinute_29 : decode cX4_passMinute 29 = .ok (.iload_n 1, 1) := by decide +kernel
theorem dX4_passMinute_30 : decode cX4_passMinute 30 = .ok (.iload_n 3, 1) := by decide +kernel
theorem dX4_passMinute_31 : decode cX4_passMinute 31 = .ok (.invokevirtual 171, 3) := by decide +kernel
theorem dX4_passMinute_34 : decode cX4_passMinute 34 = .ok (.pop, 1) := by decide +kernel
theorem dX4_passMinute_35 : decode cX4_passMinute 35 = .ok (.aload_n 2, 1) := by decide +kernel
theorem dX4_passMinute_36 : decode cX4_passMinute 36 = .ok (.iconst 1, 1) := by decide +kernel
theorem dX4_passMinute_37 : decode cX4_passMinute 37 = .ok (.invokevirtual 155, 3) := by decide +kernel
theorem dX4_passMinute_40 : decode cX4_passMinute 40 = .ok (.aload_n 2, 1) := by decide +kernel
theorem dX4_passMinute_41 : decode cX4_passMinute 41 = .ok (.invokevirtual 159, 3) := by decide +kernel
theorem dX4_passMinute_44 : decode cX4_passMinute 44 = .ok (.ifCond .le 7, 3) := by decide +kernel
theorem dX4_passMinute_47 : decode cX4_passMinute 47 = .ok (.iconst 0, 1) := by decide +kernel
theorem dX4_passMinute_48 : decode cX4_passMinute 48 = .ok (.goto 12, 3) := by decide +kernel
theorem dX4_passMinute_51 : decode cX4_passMinute 51 = .ok (.aload_n 0, 1) := by decide +kernel
theorem dX4_passMinute_52 : decode cX4_passMinute 52 = .ok (.iload_n 1, 1) := by decide +kernel
theorem dX4_passMinute_53 : decode cX4_passMinute 53 = .ok (.aload_n 2, 1) := by decide +kernel
theorem dX4_passMinute_54 : decode cX4_passMinute 54 = .ok (.getfield 113, 3) := by decide +kernel
theorem dX4_passMinute_57 : decode cX4_passMinute 57 = .ok (.invokevirtual 174, 3) := by decide +kernel
theorem dX4_passMinute_60 : decode cX4_passMinute 60 = .ok (.ireturn, 1) := by decide +kernel
def j_X4_passMinute : JD := (yX4_passMinute, cX4_passMinute, 4, (some .int))
def b_X4_passMinute : BD := (3, 0, 0)
theorem dX4_quietMinutes_0 : decode cX4_quietMinutes 0 = .ok (.iload_n 1, 1) := by decide +kernel
theorem dX4_quietMinutes_1 : decode cX4_quietMinutes 1 = .ok (.istore_n 2, 1) := by decide +kernel
theorem dX4_quietMinutes_2 : decode cX4_quietMinutes 2 = .ok (.iconst 0, 1) := by decide +kernel
theorem dX4_quietMinutes_3 : decode cX4_quietMinutes 3 = .ok (.istore_n 3, 1) := by decide +kernel
theorem dX4_quietMinutes_4 : decode cX4_quietMinutes 4 = .ok (.iload_n 3, 1) := by decide +kernel
theorem dX4_quietMinutes_5 : decode cX4_quietMinutes 5 = .ok (.aload_n 0, 1) := by decide +kernel
theorem dX4_quietMinutes_6 : decode cX4_quietMinutes 6 = .ok (.getfield 44, 3) := by decide +kernel
theorem dX4_quietMinutes_9 : decode cX4_quietMinutes 9 = .ok (.if_icmp .ge 56, 3) := by decide +kernel
theorem dX4_quietMinutes_12 : decode cX4_quietMinutes 12 = .ok (.aload_n 0, 1) := by decide +kernel
theorem dX4_quietMinutes_13 : decode cX4_quietMinutes 13 = .ok (.getfield 19, 3) := by decide +kernel
theorem dX4_quietMinutes_16 : decode cX4_quietMinutes 16 = .ok (.iload_n 3, 1) := by decide +kernel
theorem dX4_quietMinutes_17 : decode cX4_quietMinutes 17 = .ok (.aaload, 1) := by decide +kernel
theorem dX4_quietMinutes_18 : decode cX4_quietMinutes 18 = .ok (.getfield 113, 3) := by decide +kernel
theorem dX4_quietMinutes_21 : decode cX4_quietMinutes 21 = .ok (.iconst (-1), 1) := by decide +kernel
theorem dX4_quietMinutes_22 : decode cX4_quietMinutes 22 = .ok (.if_icmp .eq 26, 3) := by decide +kernel
theorem dX4_quietMinutes_25 : decode cX4_quietMinutes 25 = .ok (.iload_n 2, 1) := by decide +kernel
theorem dX4_quietMinutes_26 : decode cX4_quietMinutes 26 = .ok (.iconst 0, 1) := by decide +kernel
theorem dX4_quietMinutes_27 : decode cX4_quietMinutes 27 = .ok (.aload_n 0, 1) := by decide +kernel
theorem dX4_quietMinutes_28 : decode cX4_quietMinutes 28 = .ok (.getfield 19, 3) := by decide +kernel
theorem dX4_quietMinutes_31 : decode cX4_quietMinutes 31 = .ok (.iload_n 3, 1) := by decide +kernel
theorem dX4_quietMinutes_32 : decode cX4_quietMinutes 32 = .ok (.aaload, 1) := by decide +kernel
theorem dX4_quietMinutes_33 : decode cX4_quietMinutes 33 = .ok (.invokevirtual 159, 3) := by decide +kernel
theorem dX4_quietMinutes_36 : decode cX4_quietMinutes 36 = .ok (.iconst 1, 1) := by decide +kernel
theorem dX4_quietMinutes_37 : decode cX4_quietMinutes 37 = .ok (.isub, 1) := by decide +kernel
theorem dX4_quietMinutes_38 : decode cX4_quietMinutes 38 = .ok (.invokestatic 162, 3) := by decide +kernel
theorem dX4_quietMinutes_41 : decode cX4_quietMinutes 41 = .ok (.invokestatic 165, 3) := by decide +kernel
theorem dX4_quietMinutes_44 : decode cX4_quietMinutes 44 = .ok (.istore_n 2, 1) := by decide +kernel
theorem dX4_quietMinutes_45 : decode cX4_quietMinutes 45 = .ok (.goto 14, 3) := by decide +kernel
theorem dX4_quietMinutes_48 : decode cX4_quietMinutes 48 = .ok (.aload_n 0, 1) := by decide +kernel
theorem dX4_quietMinutes_49 : decode cX4_quietMinutes 49 = .ok (.iload_n 3, 1) := by decide +kernel
theorem dX4_quietMinutes_50 : decode cX4_quietMinutes 50 = .ok (.invokevirtual 168, 3) := by decide +kernel
theorem dX4_quietMinutes_53 : decode cX4_quietMinutes 53 = .ok (.iconst (-1), 1) := by decide +kernel
theorem dX4_quietMinutes_54 : decode cX4_quietMinutes 54 = .ok (.if_icmp .eq 5, 3) := by decide +kernel
theorem dX4_quietMinutes_57 : decode cX4_quietMinutes 57 = .ok (.iconst 0, 1) := by decide +kernel
theorem dX4_quietMinutes_58 : decode cX4_quietMinutes 58 = .ok (.istore_n 2, 1) := by decide +kernel
theorem dX4_quietMinutes_59 : decode cX4_quietMinutes 59 = .ok (.iinc 3 1, 3) := by decide +kernel
theorem dX4_quietMinutes_62 : decode cX4_quietMinutes 62 = .ok (.goto (-58), 3) := by decide +kernel
theorem dX4_quietMinutes_65 : decode cX4_quietMinutes 65 = .ok (.iload_n 2, 1) := by decide +kernel
theorem dX4_quietMinutes_66 : decode cX4_quietMinutes 66 = .ok (.ireturn, 1) := by decide +kernel
def j_X4_quietMinutes : JD := (yX4_quietMinutes, cX4_quietMinutes, 4, (some .int))
def b_X4_quietMinutes : BD := (3, 0, 0)
theorem dX4_passHour_0 : decode cX4_passHour 0 = .ok (.iconst 0, 1) := by decide +kernel
theorem dX4_passHour_1 : decode cX4_passHour 1 = .ok (.istore_n 2, 1) := by decide +kernel
theorem dX4_passHour_2 : decode cX4_passHour 2 = .ok (.iload_n 1, 1) := by decide +kernel
theorem dX4_passHour_3 : decode cX4_passHour 3 = .ok (.istore_n 3, 1) := by decide +kernel
theorem dX4_passHour_4 : decode cX4_passHour 4 = .ok (.iload_n 3, 1) := by decide +kernel
theorem dX4_passHour_5 : decode cX4_passHour 5 = .ok (.ifCond .le 94, 3) := by decide +kernel
theorem dX4_passHour_8 : decode cX4_passHour 8 = .ok (.iconst 0, 1) := by decide +kernel
theorem dX4_passHour_9 : decode cX4_passHour 9 = .ok (.istore 4, 2) := by decide +kernel
theorem dX4_passHour_11 : decode cX4_passHour 11 = .ok (.iload 4, 2) := by decide +kernel
theorem dX4_passHour_13 : decode cX4_passHour 13 = .ok (.aload_n 0, 1) := by decide +kernel
theorem dX4_passHour_14 : decode cX4_passHour 14 = .ok (.getfield 44, 3) := by decide +kernel
theorem dX4_passHour_17 : decode cX4_passHour 17 = .ok (.if_icmp .ge 18, 3) := by decide +kernel
theorem dX4_passHour_20 : decode cX4_passHour 20 = .ok (.iload_n 2, 1) := by decide +kernel
theorem dX4_passHour_21 : decode cX4_passHour 21 = .ok (.aload_n 0, 1) := by decide +kernel
theorem dX4_passHour_22 : decode cX4_passHour 22 = .ok (.iload 4, 2) := by decide +kernel
theorem dX4_passHour_24 : decode cX4_passHour 24 = .ok (.invokevirtual 149, 3) := by decide +kernel
theorem dX4_passHour_27 : decode cX4_passHour 27 = .ok (.iadd, 1) := by decide +kernel
theorem dX4_passHour_28 : decode cX4_passHour 28 = .ok (.istore_n 2, 1) := by decide +kernel
theorem dX4_passHour_29 : decode cX4_passHour 29 = .ok (.iinc 4 1, 3) := by decide +kernel
theorem dX4_passHour_32 : decode cX4_passHour 32 = .ok (.goto (-21), 3) := by decide +kernel
theorem dX4_passHour_35 : decode cX4_passHour 35 = .ok (.aload_n 0, 1) := by decide +kernel
theorem dX4_passHour_36 : decode cX4_passHour 36 = .ok (.iload_n 3, 1) := by decide +kernel
theorem dX4_passHour_37 : decode cX4_passHour 37 = .ok (.iconst 1, 1) := by decide +kernel
theorem dX4_passHour_38 : decode cX4_passHour 38 = .ok (.isub, 1) := by decide +kernel
theorem dX4_passHour_39 : decode cX4_passHour 39 = .ok (.invokevirtual 152, 3) := by decide +kernel
theorem dX4_passHour_42 : decode cX4_passHour 42 = .ok (.istore 4, 2) := by decide +kernel
theorem dX4_passHour_44 : decode cX4_passHour 44 = .ok (.iconst 0, 1) := by decide +kernel
theorem dX4_passHour_45 : decode cX4_passHour 45 = .ok (.istore 5, 2) := by decide +kernel
theorem dX4_passHour_47 : decode cX4_passHour 47 = .ok (.iload 5, 2) := by decide +kernel
theorem dX4_passHour_49 : decode cX4_passHour 49 = .ok (.aload_n 0, 1) := by decide +kernel
theorem dX4_passHour_50 : decode cX4_passHour 50 = .ok (.getfield 44, 3) := by decide +kernel
theorem dX4_passHour_53 : decode cX4_passHour 53 = .ok (.if_icmp .ge 35, 3) := by decide +kernel
theorem dX4_passHour_56 : decode cX4_passHour 56 = .ok (.aload_n 0, 1) := by decide +kernel
theorem dX4_passHour_57 : decode cX4_passHour 57 = .ok (.getfield 19, 3) := by decide +kernel
theorem dX4_passHour_60 : decode cX4_passHour 60 = .ok (.iload 5, 2) := by decide +kernel
theorem dX4_passHour_62 : decode cX4_passHour 62 = .ok (.aaload, 1) := by decide +kernel
theorem dX4_passHour_63 : decode cX4_passHour 63 = .ok (.getfield 113, 3) := by decide +kernel
theorem dX4_passHour_66 : decode cX4_passHour 66 = .ok (.iconst (-1), 1) := by decide +kernel
theorem dX4_passHour_67 : decode cX4_passHour 67 = .ok (.if_icmp .eq 15, 3) := by decide +kernel
theorem dX4_passHour_70 : decode cX4_passHour 70 = .ok (.aload_n 0, 1) := by decide +kernel
theorem dX4_passHour_71 : decode cX4_passHour 71 = .ok (.getfield 19, 3) := by decide +kernel
theorem dX4_passHour_74 : decode cX4_passHour 74 = .ok (.iload 5, 2) := by decide +kernel
theorem dX4_passHour_76 : decode cX4_passHour 76 = .ok (.aaload, 1) := by decide +kernel
theorem dX4_passHour_77 : decode cX4_passHour 77 = .ok (.iload 4, 2) := by decide +kernel
theorem dX4_passHour_79 : decode cX4_passHour 79 = .ok (.invokevirtual 155, 3) := by decide +kernel
theorem dX4_passHour_82 : decode cX4_passHour 82 = .ok (.iinc 5 1, 3) := by decide +kernel
theorem dX4_passHour_85 : decode cX4_passHour 85 = .ok (.goto (-38), 3) := by decide +kernel
theorem dX4_passHour_88 : decode cX4_passHour 88 = .ok (.iload_n 3, 1) := by decide +kernel
theorem dX4_passHour_89 : decode cX4_passHour 89 = .ok (.iload 4, 2) := by decide +kernel
theorem dX4_passHour_91 : decode cX4_passHour 91 = .ok (.isub, 1) := by decide +kernel
theorem dX4_passHour_92 : decode cX4_passHour 92 = .ok (.istore_n 3, 1) := by decide +kernel
theorem dX4_passHour_93 : decode cX4_passHour 93 = .ok (.iinc 3 (-1), 3) := by decide +kernel
theorem dX4_passHour_96 : decode cX4_passHour 96 = .ok (.goto (-92), 3) := by decide +kernel
theorem dX4_passHour_99 : decode cX4_passHour 99 = .ok (.aload_n 0, 1) := by decide +kernel
theorem dX4_passHour_100 : decode cX4_passHour 100 = .ok (.dup, 1) := by decide +kernel
theorem dX4_passHour_101 : decode cX4_passHour 101 = .ok (.getfield 50, 3) := by decide +kernel
theorem dX4_passHour_104 : decode cX4_passHour 104 = .ok (.iload_n 1, 1) := by decide +kernel
theorem dX4_passHour_105 : decode cX4_passHour 105 = .ok (.iadd, 1) := by decide +kernel
theorem dX4_passHour_106 : decode cX4_passHour 106 = .ok (.putfield 50, 3) := by decide +kernel
theorem dX4_passHour_109 : decode cX4_passHour 109 = .ok (.iload_n 2, 1) := by decide +kernel
theorem dX4_passHour_110 : decode cX4_passHour 110 = .ok (.ireturn, 1) := by decide +kernel
def j_X4_passHour : JD := (yX4_passHour, cX4_passHour, 6, (some .int))
def b_X4_passHour : BD := (4, 0, 0)
theorem dX4_allChances_0 : decode cX4_allChances 0 = .ok (.iconst 0, 1) := by decide +kernel
theorem dX4_allChances_1 : decode cX4_allChances 1 = .ok (.istore_n 1, 1) := by decide +kernel
theorem dX4_allChances_2 : decode cX4_allChances 2 = .ok (.iconst 0, 1) := by decide +kernel
theorem dX4_allChances_3 : decode cX4_allChances 3 = .ok (.istore_n 2, 1) := by decide +kernel
theorem dX4_allChances_4 : decode cX4_allChances 4 = .ok (.iload_n 2, 1) := by decide +kernel
theorem dX4_allChances_5 : decode cX4_allChances 5 = .ok (.aload_n 0, 1) := by decide +kernel
theorem dX4_allChances_6 : decode cX4_allChances 6 = .ok (.getfield 47, 3) := by decide +kernel
theorem dX4_allChances_9 : decode cX4_allChances 9 = .ok (.if_icmp .ge 21, 3) := by decide +kernel
theorem dX4_allChances_12 : decode cX4_allChances 12 = .ok (.iload_n 1, 1) := by decide +kernel
theorem dX4_allChances_13 : decode cX4_allChances 13 = .ok (.aload_n 0, 1) := by decide +kernel
theorem dX4_allChances_14 : decode cX4_allChances 14 = .ok (.getfield 25, 3) := by decide +kernel
theorem dX4_allChances_17 : decode cX4_allChances 17 = .ok (.iload_n 2, 1) := by decide +kernel
theorem dX4_allChances_18 : decode cX4_allChances 18 = .ok (.aaload, 1) := by decide +kernel
theorem dX4_allChances_19 : decode cX4_allChances 19 = .ok (.getfield 103, 3) := by decide +kernel
theorem dX4_allChances_22 : decode cX4_allChances 22 = .ok (.iadd, 1) := by decide +kernel
theorem dX4_allChances_23 : decode cX4_allChances 23 = .ok (.istore_n 1, 1) := by decide +kernel
theorem dX4_allChances_24 : decode cX4_allChances 24 = .ok (.iinc 2 1, 3) := by decide +kernel
theorem dX4_allChances_27 : decode cX4_allChances 27 = .ok (.goto (-23), 3) := by decide +kernel
theorem dX4_allChances_30 : decode cX4_allChances 30 = .ok (.iload_n 1, 1) := by decide +kernel
theorem dX4_allChances_31 : decode cX4_allChances 31 = .ok (.ireturn, 1) := by decide +kernel
def j_X4_allChances : JD := (yX4_allChances, cX4_allChances, 3, (some .int))
def b_X4_allChances : BD := (0, 0, 0)
theorem dX4_fallingSet_0 : decode cX4_fallingSet 0 = .ok (.iconst 0, 1) := by decide +kernel
theorem dX4_fallingSet_1 : decode cX4_fallingSet 1 = .ok (.istore_n 2, 1) := by decide +kernel
theorem dX4_fallingSet_2 : decode cX4_fallingSet 2 = .ok (.iconst 0, 1) := by decide +kernel
theorem dX4_fallingSet_3 : decode cX4_fallingSet 3 = .ok (.istore_n 3, 1) := by decide +kernel
theorem dX4_fallingSet_4 : decode cX4_fallingSet 4 = .ok (.iload_n 3, 1) := by decide +kernel
theorem dX4_fallingSet_5 : decode cX4_fallingSet 5 = .ok (.aload_n 0, 1) := by decide +kernel
theorem dX4_fallingSet_6 : decode cX4_fallingSet 6 = .ok (.getfield 41, 3) := by decide +kernel
theorem dX4_fallingSet_9 : decode cX4_fallingSet 9 = .ok (.if_icmp .ge 40, 3) := by decide +kernel
theorem dX4_fallingSet_12 : decode cX4_fallingSet 12 = .ok (.aload_n 0, 1) := by decide +kernel
theorem dX4_fallingSet_13 : decode cX4_fallingSet 13 = .ok (.getfield 11, 3) := by decide +kernel
theorem dX4_fallingSet_16 : decode cX4_fallingSet 16 = .ok (.iload_n 3, 1) := by decide +kernel
theorem dX4_fallingSet_17 : decode cX4_fallingSet 17 = .ok (.aaload, 1) := by decide +kernel
theorem dX4_fallingSet_18 : decode cX4_fallingSet 18 = .ok (.invokevirtual 86, 3) := by decide +kernel
theorem dX4_fallingSet_21 : decode cX4_fallingSet 21 = .ok (.ifCond .eq 22, 3) := by decide +kernel
theorem dX4_fallingSet_24 : decode cX4_fallingSet 24 = .ok (.iload_n 1, 1) := by decide +kernel
theorem dX4_fallingSet_25 : decode cX4_fallingSet 25 = .ok (.aload_n 0, 1) := by decide +kernel
theorem dX4_fallingSet_26 : decode cX4_fallingSet 26 = .ok (.getfield 11, 3) := by decide +kernel
theorem dX4_fallingSet_29 : decode cX4_fallingSet 29 = .ok (.iload_n 3, 1) := by decide +kernel
theorem dX4_fallingSet_30 : decode cX4_fallingSet 30 = .ok (.aaload, 1) := by decide +kernel
theorem dX4_fallingSet_31 : decode cX4_fallingSet 31 = .ok (.invokevirtual 97, 3) := by decide +kernel
theorem dX4_fallingSet_34 : decode cX4_fallingSet 34 = .ok (.if_icmp .lt 9, 3) := by decide +kernel
theorem dX4_fallingSet_37 : decode cX4_fallingSet 37 = .ok (.iload_n 2, 1) := by decide +kernel
theorem dX4_fallingSet_38 : decode cX4_fallingSet 38 = .ok (.iconst 1, 1) := by decide +kernel
theorem dX4_fallingSet_39 : decode cX4_fallingSet 39 = .ok (.iload_n 3, 1) := by decide +kernel
theorem dX4_fallingSet_40 : decode cX4_fallingSet 40 = .ok (.ishl, 1) := by decide +kernel
theorem dX4_fallingSet_41 : decode cX4_fallingSet 41 = .ok (.ior, 1) := by decide +kernel
theorem dX4_fallingSet_42 : decode cX4_fallingSet 42 = .ok (.istore_n 2, 1) := by decide +kernel
theorem dX4_fallingSet_43 : decode cX4_fallingSet 43 = .ok (.iinc 3 1, 3) := by decide +kernel
theorem dX4_fallingSet_46 : decode cX4_fallingSet 46 = .ok (.goto (-42), 3) := by decide +kernel
theorem dX4_fallingSet_49 : decode cX4_fallingSet 49 = .ok (.iload_n 2, 1) := by decide +kernel
theorem dX4_fallingSet_50 : decode cX4_fallingSet 50 = .ok (.ireturn, 1) := by decide +kernel
def j_X4_fallingSet : JD := (yX4_fallingSet, cX4_fallingSet, 4, (some .int))
def b_X4_fallingSet : BD := (1, 0, 0)
theorem dX4_blow_0 : decode cX4_blow 0 = .ok (.aload_n 0, 1) := by decide +kernel
theorem dX4_blow_1 : decode cX4_blow 1 = .ok (.iload_n 1, 1) := by decide +kernel
theorem dX4_blow_2 : decode cX4_blow 2 = .ok (.invokevirtual 186, 3) := by decide +kernel
theorem dX4_blow_5 : decode cX4_blow 5 = .ok (.istore_n 2, 1) := by decide +kernel
theorem dX4_blow_6 : decode cX4_blow 6 = .ok (.iconst 0, 1) := by decide +kernel
theorem dX4_blow_7 : decode cX4_blow 7 = .ok (.istore_n 3, 1) := by decide +kernel
theorem dX4_blow_8 : decode cX4_blow 8 = .ok (.iload_n 3, 1) := by decide +kernel
theorem dX4_blow_9 : decode cX4_blow 9 = .ok (.aload_n 0, 1) := by decide +kernel
theorem dX4_blow_10 : decode cX4_blow 10 = .ok (.getfield 41, 3) := by decide +kernel
theorem dX4_blow_13 : decode cX4_blow 13 = .ok (.if_icmp .ge 28, 3) := by decide +kernel
theorem dX4_blow_16 : decode cX4_blow 16 = .ok (.iload_n 2, 1) := by decide +kernel
theorem dX4_blow_17 : decode cX4_blow 17 = .ok (.iload_n 3, 1) := by decide +kernel
theorem dX4_blow_18 : decode cX4_blow 18 = .ok (.ishr, 1) := by decide +kernel
theorem dX4_blow_19 : decode cX4_blow 19 = .ok (.iconst 1, 1) := by decide +kernel
theorem dX4_blow_20 : decode cX4_blow 20 = .ok (.iand, 1) := by decide +kernel
theorem dX4_blow_21 : decode cX4_blow 21 = .ok (.iconst 1, 1) := by decide +kernel
theorem dX4_blow_22 : decode cX4_blow 22 = .ok (.if_icmp .ne 13, 3) := by decide +kernel
theorem dX4_blow_25 : decode cX4_blow 25 = .ok (.aload_n 0, 1) := by decide +kernel
theorem dX4_blow_26 : decode cX4_blow 26 = .ok (.getfield 11, 3) := by decide +kernel
theorem dX4_blow_29 : decode cX4_blow 29 = .ok (.iload_n 3, 1) := by decide +kernel
theorem dX4_blow_30 : decode cX4_blow 30 = .ok (.aaload, 1) := by decide +kernel
theorem dX4_blow_31 : decode cX4_blow 31 = .ok (.iconst 0, 1) := by decide +kernel
theorem dX4_blow_32 : decode cX4_blow 32 = .ok (.putfield 82, 3) := by decide +kernel
theorem dX4_blow_35 : decode cX4_blow 35 = .ok (.iinc 3 1, 3) := by decide +kernel
theorem dX4_blow_38 : decode cX4_blow 38 = .ok (.goto (-30), 3) := by decide +kernel
theorem dX4_blow_41 : decode cX4_blow 41 = .ok (.iconst 0, 1) := by decide +kernel
theorem dX4_blow_42 : decode cX4_blow 42 = .ok (.istore_n 3, 1) := by decide +kernel
theorem dX4_blow_43 : decode cX4_blow 43 = .ok (.iload_n 3, 1) := by decide +kernel
theorem dX4_blow_44 : decode cX4_blow 44 = .ok (.aload_n 0, 1) := by decide +kernel
theorem dX4_blow_45 : decode cX4_blow 45 = .ok (.getfield 44, 3) := by decide +kernel
theorem dX4_blow_48 : decode cX4_blow 48 = .ok (.if_icmp .ge 45, 3) := by decide +kernel
theorem dX4_blow_51 : decode cX4_blow 51 = .ok (.aload_n 0, 1) := by decide +kernel
theorem dX4_blow_52 : decode cX4_blow 52 = .ok (.getfield 19, 3) := by decide +kernel
theorem dX4_blow_55 : decode cX4_blow 55 = .ok (.iload_n 3, 1) := by decide +kernel
theorem dX4_blow_56 : decode cX4_blow 56 = .ok (.aaload, 1) := by decide +kernel
theorem dX4_blow_57 : decode cX4_blow 57 = .ok (.getfield 113, 3) := by decide +kernel
theorem dX4_blow_60 : decode cX4_blow 60 = .ok (.istore 4, 2) := by decide +kernel
theorem dX4_blow_62 : decode cX4_blow 62 = .ok (.iload 4, 2) := by decide +kernel
theorem dX4_blow_64 : decode cX4_blow 64 = .ok (.iconst (-1), 1) := by decide +kernel
theorem dX4_blow_65 : decode cX4_blow 65 = .ok (.if_icmp .eq 22, 3) := by decide +kernel
theorem dX4_blow_68 : decode cX4_blow 68 = .ok (.iload_n 2, 1) := by decide +kernel
theorem dX4_blow_69 : decode cX4_blow 69 = .ok (.iload 4, 2) := by decide +kernel
theorem dX4_blow_71 : decode cX4_blow 71 = .ok (.ishr, 1) := by decide +kernel
theorem dX4_blow_72 : decode cX4_blow 72 = .ok (.iconst 1, 1) := by decide +kernel
theorem dX4_blow_73 : decode cX4_blow 73 = .ok (.iand, 1) := by decide +kernel
theorem dX4_blow_74 : decode cX4_blow 74 = .ok (.iconst 1, 1) := by decide +kernel
theorem dX4_blow_75 : decode cX4_blow 75 = .ok (.if_icmp .ne 12, 3) := by decide +kernel
theorem dX4_blow_78 : decode cX4_blow 78 = .ok (.aload_n 0, 1) := by decide +kernel
theorem dX4_blow_79 : decode cX4_blow 79 = .ok (.getfield 19, 3) := by decide +kernel
theorem dX4_blow_82 : decode cX4_blow 82 = .ok (.iload_n 3, 1) := by decide +kernel
theorem dX4_blow_83 : decode cX4_blow 83 = .ok (.aaload, 1) := by decide +kernel
theorem dX4_blow_84 : decode cX4_blow 84 = .ok (.invokevirtual 183, 3) := by decide +kernel
theorem dX4_blow_87 : decode cX4_blow 87 = .ok (.iinc 3 1, 3) := by decide +kernel
theorem dX4_blow_90 : decode cX4_blow 90 = .ok (.goto (-47), 3) := by decide +kernel
theorem dX4_blow_93 : decode cX4_blow 93 = .ok (.iload_n 2, 1) := by decide +kernel
theorem dX4_blow_94 : decode cX4_blow 94 = .ok (.invokestatic 189, 3) := by decide +kernel
theorem dX4_blow_97 : decode cX4_blow 97 = .ok (.ireturn, 1) := by decide +kernel
def j_X4_blow : JD := (yX4_blow, cX4_blow, 5, (some .int))
def b_X4_blow : BD := (2, 0, 0)
theorem dX4_breakDay_0 : decode cX4_breakDay 0 = .ok (.iconst 0, 1) := by decide +kernel
theorem dX4_breakDay_1 : decode cX4_breakDay 1 = .ok (.istore_n 1, 1) := by decide +kernel
theorem dX4_breakDay_2 : decode cX4_breakDay 2 = .ok (.iconst 0, 1) := by decide +kernel
theorem dX4_breakDay_3 : decode cX4_breakDay 3 = .ok (.istore_n 2, 1) := by decide +kernel
theorem dX4_breakDay_4 : decode cX4_breakDay 4 = .ok (.iload_n 2, 1) := by decide +kernel
theorem dX4_breakDay_5 : decode cX4_breakDay 5 = .ok (.aload_n 0, 1) := by decide +kernel
theorem dX4_breakDay_6 : decode cX4_breakDay 6 = .ok (.getfield 41, 3) := by decide +kernel
theorem dX4_breakDay_9 : decode cX4_breakDay 9 = .ok (.if_icmp .ge 45, 3) := by decide +kernel
theorem dX4_breakDay_12 : decode cX4_breakDay 12 = .ok (.aload_n 0, 1) := by decide +kernel
theorem dX4_breakDay_13 : decode cX4_breakDay 13 = .ok (.getfield 11, 3) := by decide +kernel
theorem dX4_breakDay_16 : decode cX4_breakDay 16 = .ok (.iload_n 2, 1) := by decide +kernel
theorem dX4_breakDay_17 : decode cX4_breakDay 17 = .ok (.aaload, 1) := by decide +kernel
theorem dX4_breakDay_18 : decode cX4_breakDay 18 = .ok (.astore_n 3, 1) := by decide +kernel
theorem dX4_breakDay_19 : decode cX4_breakDay 19 = .ok (.aload_n 3, 1) := by decide +kernel
theorem dX4_breakDay_20 : decode cX4_breakDay 20 = .ok (.getfield 82, 3) := by decide +kernel
theorem dX4_breakDay_23 : decode cX4_breakDay 23 = .ok (.ifCond .eq 25, 3) := by decide +kernel
theorem dX4_breakDay_26 : decode cX4_breakDay 26 = .ok (.aload_n 3, 1) := by decide +kernel
theorem dX4_breakDay_27 : decode cX4_breakDay 27 = .ok (.getfield 177, 3) := by decide +kernel
theorem dX4_breakDay_30 : decode cX4_breakDay 30 = .ok (.aload_n 3, 1) := by decide +kernel
theorem dX4_breakDay_31 : decode cX4_breakDay 31 = .ok (.getfield 194, 3) := by decide +kernel
theorem dX4_breakDay_34 : decode cX4_breakDay 34 = .ok (.if_icmp .ge 14, 3) := by decide +kernel
theorem dX4_breakDay_37 : decode cX4_breakDay 37 = .ok (.aload_n 3, 1) := by decide +kernel
theorem dX4_breakDay_38 : decode cX4_breakDay 38 = .ok (.aload_n 3, 1) := by decide +kernel
theorem dX4_breakDay_39 : decode cX4_breakDay 39 = .ok (.getfield 194, 3) := by decide +kernel
theorem dX4_breakDay_42 : decode cX4_breakDay 42 = .ok (.putfield 177, 3) := by decide +kernel
theorem dX4_breakDay_45 : decode cX4_breakDay 45 = .ok (.iinc 1 1, 3) := by decide +kernel
theorem dX4_breakDay_48 : decode cX4_breakDay 48 = .ok (.iinc 2 1, 3) := by decide +kernel
theorem dX4_breakDay_51 : decode cX4_breakDay 51 = .ok (.goto (-47), 3) := by decide +kernel
theorem dX4_breakDay_54 : decode cX4_breakDay 54 = .ok (.iconst 0, 1) := by decide +kernel
theorem dX4_breakDay_55 : decode cX4_breakDay 55 = .ok (.istore_n 2, 1) := by decide +kernel
theorem dX4_breakDay_56 : decode cX4_breakDay 56 = .ok (.iload_n 2, 1) := by decide +kernel
theorem dX4_breakDay_57 : decode cX4_breakDay 57 = .ok (.aload_n 0, 1) := by decide +kernel
theorem dX4_breakDay_58 : decode cX4_breakDay 58 = .ok (.getfield 44, 3) := by decide +kernel
theorem dX4_breakDay_61 : decode cX4_breakDay 61 = .ok (.if_icmp .ge 18, 3) := by decide +kernel
theorem dX4_breakDay_64 : decode cX4_breakDay 64 = .ok (.aload_n 0, 1) := by decide +kernel
theorem dX4_breakDay_65 : decode cX4_breakDay 65 = .ok (.getfield 19, 3) := by decide +kernel
theorem dX4_breakDay_68 : decode cX4_breakDay 68 = .ok (.iload_n 2, 1) := by decide +kernel
theorem dX4_breakDay_69 : decode cX4_breakDay 69 = .ok (.aaload, 1) := by decide +kernel
theorem dX4_breakDay_70 : decode cX4_breakDay 70 = .ok (.invokevirtual 183, 3) := by decide +kernel
theorem dX4_breakDay_73 : decode cX4_breakDay 73 = .ok (.iinc 2 1, 3) := by decide +kernel
theorem dX4_breakDay_76 : decode cX4_breakDay 76 = .ok (.goto (-20), 3) := by decide +kernel
theorem dX4_breakDay_79 : decode cX4_breakDay 79 = .ok (.aload_n 0, 1) := by decide +kernel
theorem dX4_breakDay_80 : decode cX4_breakDay 80 = .ok (.iconst 0, 1) := by decide +kernel
theorem dX4_breakDay_81 : decode cX4_breakDay 81 = .ok (.putfield 50, 3) := by decide +kernel
theorem dX4_breakDay_84 : decode cX4_breakDay 84 = .ok (.iload_n 1, 1) := by decide +kernel
theorem dX4_breakDay_85 : decode cX4_breakDay 85 = .ok (.ireturn, 1) := by decide +kernel
def j_X4_breakDay : JD := (yX4_breakDay, cX4_breakDay, 4, (some .int))
def b_X4_breakDay : BD := (1, 0, 0)
theorem dX4_standingSet_0 : decode cX4_standingSet 0 = .ok (.iconst 0, 1) := by decide +kernel
theorem dX4_standingSet_1 : decode cX4_standingSet 1 = .ok (.istore_n 1, 1) := by decide +kernel
theorem dX4_standingSet_2 : decode cX4_standingSet 2 = .ok (.iconst 0, 1) := by decide +kernel
theorem dX4_standingSet_3 : decode cX4_standingSet 3 = .ok (.istore_n 2, 1) := by decide +kernel
theorem dX4_standingSet_4 : decode cX4_standingSet 4 = .ok (.iload_n 2, 1) := by decide +kernel
theorem dX4_standingSet_5 : decode cX4_standingSet 5 = .ok (.aload_n 0, 1) := by decide +kernel
theorem dX4_standingSet_6 : decode cX4_standingSet 6 = .ok (.getfield 41, 3) := by decide +kernel
theorem dX4_standingSet_9 : decode cX4_standingSet 9 = .ok (.if_icmp .ge 27, 3) := by decide +kernel
theorem dX4_standingSet_12 : decode cX4_standingSet 12 = .ok (.aload_n 0, 1) := by decide +kernel
theorem dX4_standingSet_13 : decode cX4_standingSet 13 = .ok (.getfield 11, 3) := by decide +kernel
theorem dX4_standingSet_16 : decode cX4_standingSet 16 = .ok (.iload_n 2, 1) := by decide +kernel
theorem dX4_standingSet_17 : decode cX4_standingSet 17 = .ok (.aaload, 1) := by decide +kernel
theorem dX4_standingSet_18 : decode cX4_standingSet 18 = .ok (.getfield 82, 3) := by decide +kernel
theorem dX4_standingSet_21 : decode cX4_standingSet 21 = .ok (.ifCond .eq 9, 3) := by decide +kernel
theorem dX4_standingSet_24 : decode cX4_standingSet 24 = .ok (.iload_n 1, 1) := by decide +kernel
theorem dX4_standingSet_25 : decode cX4_standingSet 25 = .ok (.iconst 1, 1) := by decide +kernel
theorem dX4_standingSet_26 : decode cX4_standingSet 26 = .ok (.iload_n 2, 1) := by decide +kernel
theorem dX4_standingSet_27 : decode cX4_standingSet 27 = .ok (.ishl, 1) := by decide +kernel
theorem dX4_standingSet_28 : decode cX4_standingSet 28 = .ok (.ior, 1) := by decide +kernel
theorem dX4_standingSet_29 : decode cX4_standingSet 29 = .ok (.istore_n 1, 1) := by decide +kernel
theorem dX4_standingSet_30 : decode cX4_standingSet 30 = .ok (.iinc 2 1, 3) := by decide +kernel
theorem dX4_standingSet_33 : decode cX4_standingSet 33 = .ok (.goto (-29), 3) := by decide +kernel
theorem dX4_standingSet_36 : decode cX4_standingSet 36 = .ok (.iload_n 1, 1) := by decide +kernel
theorem dX4_standingSet_37 : decode cX4_standingSet 37 = .ok (.ireturn, 1) := by decide +kernel
def j_X4_standingSet : JD := (yX4_standingSet, cX4_standingSet, 3, (some .int))
def b_X4_standingSet : BD := (0, 0, 0)
theorem dX4_worthOf_0 : decode cX4_worthOf 0 = .ok (.iconst 0, 1) := by decide +kernel
theorem dX4_worthOf_1 : decode cX4_worthOf 1 = .ok (.istore_n 2, 1) := by decide +kernel
theorem dX4_worthOf_2 : decode cX4_worthOf 2 = .ok (.iconst 0, 1) := by decide +kernel
theorem dX4_worthOf_3 : decode cX4_worthOf 3 = .ok (.istore_n 3, 1) := by decide +kernel
theorem dX4_worthOf_4 : decode cX4_worthOf 4 = .ok (.iload_n 3, 1) := by decide +kernel
theorem dX4_worthOf_5 : decode cX4_worthOf 5 = .ok (.aload_n 0, 1) := by decide +kernel
theorem dX4_worthOf_6 : decode cX4_worthOf 6 = .ok (.getfield 41, 3) := by decide +kernel
theorem dX4_worthOf_9 : decode cX4_worthOf 9 = .ok (.if_icmp .ge 30, 3) := by decide +kernel
theorem dX4_worthOf_12 : decode cX4_worthOf 12 = .ok (.iload_n 1, 1) := by decide +kernel
theorem dX4_worthOf_13 : decode cX4_worthOf 13 = .ok (.iload_n 3, 1) := by decide +kernel
theorem dX4_worthOf_14 : decode cX4_worthOf 14 = .ok (.ishr, 1) := by decide +kernel
theorem dX4_worthOf_15 : decode cX4_worthOf 15 = .ok (.iconst 1, 1) := by decide +kernel
theorem dX4_worthOf_16 : decode cX4_worthOf 16 = .ok (.iand, 1) := by decide +kernel
theorem dX4_worthOf_17 : decode cX4_worthOf 17 = .ok (.iconst 1, 1) := by decide +kernel
theorem dX4_worthOf_18 : decode cX4_worthOf 18 = .ok (.if_icmp .ne 15, 3) := by decide +kernel
theorem dX4_worthOf_21 : decode cX4_worthOf 21 = .ok (.iload_n 2, 1) := by decide +kernel
theorem dX4_worthOf_22 : decode cX4_worthOf 22 = .ok (.aload_n 0, 1) := by decide +kernel
theorem dX4_worthOf_23 : decode cX4_worthOf 23 = .ok (.getfield 11, 3) := by decide +kernel
theorem dX4_worthOf_26 : decode cX4_worthOf 26 = .ok (.iload_n 3, 1) := by decide +kernel
theorem dX4_worthOf_27 : decode cX4_worthOf 27 = .ok (.aaload, 1) := by decide +kernel
theorem dX4_worthOf_28 : decode cX4_worthOf 28 = .ok (.getfield 100, 3) := by decide +kernel
theorem dX4_worthOf_31 : decode cX4_worthOf 31 = .ok (.iadd, 1) := by decide +kernel
theorem dX4_worthOf_32 : decode cX4_worthOf 32 = .ok (.istore_n 2, 1) := by decide +kernel
theorem dX4_worthOf_33 : decode cX4_worthOf 33 = .ok (.iinc 3 1, 3) := by decide +kernel
theorem dX4_worthOf_36 : decode cX4_worthOf 36 = .ok (.goto (-32), 3) := by decide +kernel
theorem dX4_worthOf_39 : decode cX4_worthOf 39 = .ok (.iload_n 2, 1) := by decide +kernel
theorem dX4_worthOf_40 : decode cX4_worthOf 40 = .ok (.ireturn, 1) := by decide +kernel
def j_X4_worthOf : JD := (yX4_worthOf, cX4_worthOf, 4, (some .int))
def b_X4_worthOf : BD := (0, 0, 0)
theorem dX4_openSet_0 : decode cX4_openSet 0 = .ok (.iconst 0, 1) := by decide +kernel
theorem dX4_openSet_1 : decode cX4_openSet 1 = .ok (.istore_n 1, 1) := by decide +kernel
theorem dX4_openSet_2 : decode cX4_openSet 2 = .ok (.iconst 0, 1) := by decide +kernel
theorem dX4_openSet_3 : decode cX4_openSet 3 = .ok (.istore_n 2, 1) := by decide +kernel
theorem dX4_openSet_4 : decode cX4_openSet 4 = .ok (.iload_n 2, 1) := by decide +kernel
theorem dX4_openSet_5 : decode cX4_openSet 5 = .ok (.aload_n 0, 1) := by decide +kernel
theorem dX4_openSet_6 : decode cX4_openSet 6 = .ok (.getfield 41, 3) := by decide +kernel
theorem dX4_openSet_9 : decode cX4_openSet 9 = .ok (.if_icmp .ge 27, 3) := by decide +kernel
theorem dX4_openSet_12 : decode cX4_openSet 12 = .ok (.aload_n 0, 1) := by decide +kernel
theorem dX4_openSet_13 : decode cX4_openSet 13 = .ok (.getfield 11, 3) := by decide +kernel
theorem dX4_openSet_16 : decode cX4_openSet 16 = .ok (.iload_n 2, 1) := by decide +kernel
theorem dX4_openSet_17 : decode cX4_openSet 17 = .ok (.aaload, 1) := by decide +kernel
theorem dX4_openSet_18 : decode cX4_openSet 18 = .ok (.invokevirtual 86, 3) := by decide +kernel
theorem dX4_openSet_21 : decode cX4_openSet 21 = .ok (.ifCond .eq 9, 3) := by decide +kernel
theorem dX4_openSet_24 : decode cX4_openSet 24 = .ok (.iload_n 1, 1) := by decide +kernel
theorem dX4_openSet_25 : decode cX4_openSet 25 = .ok (.iconst 1, 1) := by decide +kernel
theorem dX4_openSet_26 : decode cX4_openSet 26 = .ok (.iload_n 2, 1) := by decide +kernel
theorem dX4_openSet_27 : decode cX4_openSet 27 = .ok (.ishl, 1) := by decide +kernel
theorem dX4_openSet_28 : decode cX4_openSet 28 = .ok (.ior, 1) := by decide +kernel
theorem dX4_openSet_29 : decode cX4_openSet 29 = .ok (.istore_n 1, 1) := by decide +kernel
theorem dX4_openSet_30 : decode cX4_openSet 30 = .ok (.iinc 2 1, 3) := by decide +kernel
theorem dX4_openSet_33 : decode cX4_openSet 33 = .ok (.goto (-29), 3) := by decide +kernel
theorem dX4_openSet_36 : decode cX4_openSet 36 = .ok (.iload_n 1, 1) := by decide +kernel
theorem dX4_openSet_37 : decode cX4_openSet 37 = .ok (.ireturn, 1) := by decide +kernel
def j_X4_openSet : JD := (yX4_openSet, cX4_openSet, 3, (some .int))
def b_X4_openSet : BD := (1, 0, 0)
theorem dX4_init_0 : decode cX4_init 0 = .ok (.aload_n 0, 1) := by decide +kernel
theorem dX4_init_1 : decode cX4_init 1 = .ok (.invokespecial 3, 3) := by decide +kernel
theorem dX4_init_4 : decode cX4_init 4 = .ok (.aload_n 0, 1) := by decide +kernel
theorem dX4_init_5 : decode cX4_init 5 = .ok (.bipush 8, 2) := by decide +kernel
theorem dX4_init_7 : decode cX4_init 7 = .ok (.anewarray 9, 3) := by decide +kernel
theorem dX4_init_10 : decode cX4_init 10 = .ok (.putfield 11, 3) := by decide +kernel
theorem dX4_init_13 : decode cX4_init 13 = .ok (.aload_n 0, 1) := by decide +kernel
theorem dX4_init_14 : decode cX4_init 14 = .ok (.iconst 4, 1) := by decide +kernel
theorem dX4_init_15 : decode cX4_init 15 = .ok (.anewarray 17, 3) := by decide +kernel
theorem dX4_init_18 : decode cX4_init 18 = .ok (.putfield 19, 3) := by decide +kernel
theorem dX4_init_21 : decode cX4_init 21 = .ok (.aload_n 0, 1) := by decide +kernel
theorem dX4_init_22 : decode cX4_init 22 = .ok (.bipush 6, 2) := by decide +kernel
theorem dX4_init_24 : decode cX4_init 24 = .ok (.anewarray 23, 3) := by decide +kernel
theorem dX4_init_27 : decode cX4_init 27 = .ok (.putfield 25, 3) := by decide +kernel
theorem dX4_init_30 : decode cX4_init 30 = .ok (.aload_n 0, 1) := by decide +kernel
theorem dX4_init_31 : decode cX4_init 31 = .ok (.bipush 8, 2) := by decide +kernel
theorem dX4_init_33 : decode cX4_init 33 = .ok (.bipush 8, 2) := by decide +kernel
theorem dX4_init_35 : decode cX4_init 35 = .ok (.multianewarray 29 2, 4) := by decide +kernel
theorem dX4_init_39 : decode cX4_init 39 = .ok (.putfield 31, 3) := by decide +kernel
theorem dX4_init_42 : decode cX4_init 42 = .ok (.aload_n 0, 1) := by decide +kernel
theorem dX4_init_43 : decode cX4_init 43 = .ok (.iconst 3, 1) := by decide +kernel
theorem dX4_init_44 : decode cX4_init 44 = .ok (.putfield 34, 3) := by decide +kernel
theorem dX4_init_47 : decode cX4_init 47 = .ok (.iconst 0, 1) := by decide +kernel
theorem dX4_init_48 : decode cX4_init 48 = .ok (.istore_n 1, 1) := by decide +kernel
theorem dX4_init_49 : decode cX4_init 49 = .ok (.iload_n 1, 1) := by decide +kernel
theorem dX4_init_50 : decode cX4_init 50 = .ok (.bipush 8, 2) := by decide +kernel
theorem dX4_init_52 : decode cX4_init 52 = .ok (.if_icmp .ge 22, 3) := by decide +kernel
theorem dX4_init_55 : decode cX4_init 55 = .ok (.aload_n 0, 1) := by decide +kernel
theorem dX4_init_56 : decode cX4_init 56 = .ok (.getfield 11, 3) := by decide +kernel
theorem dX4_init_59 : decode cX4_init 59 = .ok (.iload_n 1, 1) := by decide +kernel
theorem dX4_init_60 : decode cX4_init 60 = .ok (.new 9, 3) := by decide +kernel
theorem dX4_init_63 : decode cX4_init 63 = .ok (.dup, 1) := by decide +kernel
theorem dX4_init_64 : decode cX4_init 64 = .ok (.invokespecial 38, 3) := by decide +kernel
theorem dX4_init_67 : decode cX4_init 67 = .ok (.aastore, 1) := by decide +kernel
theorem dX4_init_68 : decode cX4_init 68 = .ok (.iinc 1 1, 3) := by decide +kernel
theorem dX4_init_71 : decode cX4_init 71 = .ok (.goto (-22), 3) := by decide +kernel
theorem dX4_init_74 : decode cX4_init 74 = .ok (.iconst 0, 1) := by decide +kernel
theorem dX4_init_75 : decode cX4_init 75 = .ok (.istore_n 1, 1) := by decide +kernel
theorem dX4_init_76 : decode cX4_init 76 = .ok (.iload_n 1, 1) := by decide +kernel
theorem dX4_init_77 : decode cX4_init 77 = .ok (.iconst 4, 1) := by decide +kernel
theorem dX4_init_78 : decode cX4_init 78 = .ok (.if_icmp .ge 22, 3) := by decide +kernel
theorem dX4_init_81 : decode cX4_init 81 = .ok (.aload_n 0, 1) := by decide +kernel
theorem dX4_init_82 : decode cX4_init 82 = .ok (.getfield 19, 3) := by decide +kernel
theorem dX4_init_85 : decode cX4_init 85 = .ok (.iload_n 1, 1) := by decide +kernel
theorem dX4_init_86 : decode cX4_init 86 = .ok (.new 17, 3) := by decide +kernel
theorem dX4_init_89 : decode cX4_init 89 = .ok (.dup, 1) := by decide +kernel
theorem dX4_init_90 : decode cX4_init 90 = .ok (.invokespecial 39, 3) := by decide +kernel
theorem dX4_init_93 : decode cX4_init 93 = .ok (.aastore, 1) := by decide +kernel
theorem dX4_init_94 : decode cX4_init 94 = .ok (.iinc 1 1, 3) := by decide +kernel
theorem dX4_init_97 : decode cX4_init 97 = .ok (.goto (-21), 3) := by decide +kernel
theorem dX4_init_100 : decode cX4_init 100 = .ok (.iconst 0, 1) := by decide +kernel
theorem dX4_init_101 : decode cX4_init 101 = .ok (.istore_n 1, 1) := by decide +kernel
theorem dX4_init_102 : decode cX4_init 102 = .ok (.iload_n 1, 1) := by decide +kernel
theorem dX4_init_103 : decode cX4_init 103 = .ok (.bipush 6, 2) := by decide +kernel
theorem dX4_init_105 : decode cX4_init 105 = .ok (.if_icmp .ge 22, 3) := by decide +kernel
theorem dX4_init_108 : decode cX4_init 108 = .ok (.aload_n 0, 1) := by decide +kernel
theorem dX4_init_109 : decode cX4_init 109 = .ok (.getfield 25, 3) := by decide +kernel
theorem dX4_init_112 : decode cX4_init 112 = .ok (.iload_n 1, 1) := by decide +kernel
theorem dX4_init_113 : decode cX4_init 113 = .ok (.new 23, 3) := by decide +kernel
theorem dX4_init_116 : decode cX4_init 116 = .ok (.dup, 1) := by decide +kernel
theorem dX4_init_117 : decode cX4_init 117 = .ok (.invokespecial 40, 3) := by decide +kernel
theorem dX4_init_120 : decode cX4_init 120 = .ok (.aastore, 1) := by decide +kernel
theorem dX4_init_121 : decode cX4_init 121 = .ok (.iinc 1 1, 3) := by decide +kernel
theorem dX4_init_124 : decode cX4_init 124 = .ok (.goto (-22), 3) := by decide +kernel
theorem dX4_init_127 : decode cX4_init 127 = .ok (.return_, 1) := by decide +kernel
def j_X4_init : JD := (yX4_init, cX4_init, 2, none)
def b_X4_init : BD := (2, 30, 212)
theorem dX4_clear_0 : decode cX4_clear 0 = .ok (.aload_n 0, 1) := by decide +kernel
theorem dX4_clear_1 : decode cX4_clear 1 = .ok (.iconst 0, 1) := by decide +kernel
theorem dX4_clear_2 : decode cX4_clear 2 = .ok (.putfield 41, 3) := by decide +kernel
theorem dX4_clear_5 : decode cX4_clear 5 = .ok (.aload_n 0, 1) := by decide +kernel
theorem dX4_clear_6 : decode cX4_clear 6 = .ok (.iconst 0, 1) := by decide +kernel
theorem dX4_clear_7 : decode cX4_clear 7 = .ok (.putfield 44, 3) := by decide +kernel
theorem dX4_clear_10 : decode cX4_clear 10 = .ok (.aload_n 0, 1) := by decide +kernel
theorem dX4_clear_11 : decode cX4_clear 11 = .ok (.iconst 0, 1) := by decide +kernel
theorem dX4_clear_12 : decode cX4_clear 12 = .ok (.putfield 47, 3) := by decide +kernel
theorem dX4_clear_15 : decode cX4_clear 15 = .ok (.aload_n 0, 1) := by decide +kernel
theorem dX4_clear_16 : decode cX4_clear 16 = .ok (.iconst 3, 1) := by decide +kernel
theorem dX4_clear_17 : decode cX4_clear 17 = .ok (.putfield 34, 3) := by decide +kernel
theorem dX4_clear_20 : decode cX4_clear 20 = .ok (.aload_n 0, 1) := by decide +kernel
theorem dX4_clear_21 : decode cX4_clear 21 = .ok (.iconst 0, 1) := by decide +kernel
theorem dX4_clear_22 : decode cX4_clear 22 = .ok (.putfield 50, 3) := by decide +kernel
theorem dX4_clear_25 : decode cX4_clear 25 = .ok (.iconst 0, 1) := by decide +kernel
theorem dX4_clear_26 : decode cX4_clear 26 = .ok (.istore_n 1, 1) := by decide +kernel
theorem dX4_clear_27 : decode cX4_clear 27 = .ok (.iload_n 1, 1) := by decide +kernel
theorem dX4_clear_28 : decode cX4_clear 28 = .ok (.bipush 8, 2) := by decide +kernel
theorem dX4_clear_30 : decode cX4_clear 30 = .ok (.if_icmp .ge 32, 3) := by decide +kernel
theorem dX4_clear_33 : decode cX4_clear 33 = .ok (.iconst 0, 1) := by decide +kernel
theorem dX4_clear_34 : decode cX4_clear 34 = .ok (.istore_n 2, 1) := by decide +kernel
theorem dX4_clear_35 : decode cX4_clear 35 = .ok (.iload_n 2, 1) := by decide +kernel
theorem dX4_clear_36 : decode cX4_clear 36 = .ok (.bipush 8, 2) := by decide +kernel
theorem dX4_clear_38 : decode cX4_clear 38 = .ok (.if_icmp .ge 18, 3) := by decide +kernel
theorem dX4_clear_41 : decode cX4_clear 41 = .ok (.aload_n 0, 1) := by decide +kernel
theorem dX4_clear_42 : decode cX4_clear 42 = .ok (.getfield 31, 3) := by decide +kernel
theorem dX4_clear_45 : decode cX4_clear 45 = .ok (.iload_n 1, 1) := by decide +kernel
theorem dX4_clear_46 : decode cX4_clear 46 = .ok (.aaload, 1) := by decide +kernel
theorem dX4_clear_47 : decode cX4_clear 47 = .ok (.iload_n 2, 1) := by decide +kernel
theorem dX4_clear_48 : decode cX4_clear 48 = .ok (.iconst 0, 1) := by decide +kernel
theorem dX4_clear_49 : decode cX4_clear 49 = .ok (.iastore, 1) := by decide +kernel
theorem dX4_clear_50 : decode cX4_clear 50 = .ok (.iinc 2 1, 3) := by decide +kernel
theorem dX4_clear_53 : decode cX4_clear 53 = .ok (.goto (-18), 3) := by decide +kernel
theorem dX4_clear_56 : decode cX4_clear 56 = .ok (.iinc 1 1, 3) := by decide +kernel
theorem dX4_clear_59 : decode cX4_clear 59 = .ok (.goto (-32), 3) := by decide +kernel
theorem dX4_clear_62 : decode cX4_clear 62 = .ok (.return_, 1) := by decide +kernel
def j_X4_clear : JD := (yX4_clear, cX4_clear, 3, none)
def b_X4_clear : BD := (0, 0, 0)
theorem dX4_copyFrom_0 : decode cX4_copyFrom 0 = .ok (.aload_n 0, 1) := by decide +kernel
theorem dX4_copyFrom_1 : decode cX4_copyFrom 1 = .ok (.aload_n 1, 1) := by decide +kernel
theorem dX4_copyFrom_2 : decode cX4_copyFrom 2 = .ok (.getfield 41, 3) := by decide +kernel
theorem dX4_copyFrom_5 : decode cX4_copyFrom 5 = .ok (.putfield 41, 3) := by decide +kernel
theorem dX4_copyFrom_8 : decode cX4_copyFrom 8 = .ok (.aload_n 0, 1) := by decide +kernel
theorem dX4_copyFrom_9 : decode cX4_copyFrom 9 = .ok (.aload_n 1, 1) := by decide +kernel
theorem dX4_copyFrom_10 : decode cX4_copyFrom 10 = .ok (.getfield 44, 3) := by decide +kernel
theorem dX4_copyFrom_13 : decode cX4_copyFrom 13 = .ok (.putfield 44, 3) := by decide +kernel
theorem dX4_copyFrom_16 : decode cX4_copyFrom 16 = .ok (.aload_n 0, 1) := by decide +kernel
theorem dX4_copyFrom_17 : decode cX4_copyFrom 17 = .ok (.aload_n 1, 1) := by decide +kernel
theorem dX4_copyFrom_18 : decode cX4_copyFrom 18 = .ok (.getfield 47, 3) := by decide +kernel
theorem dX4_copyFrom_21 : decode cX4_copyFrom 21 = .ok (.putfield 47, 3) := by decide +kernel
theorem dX4_copyFrom_24 : decode cX4_copyFrom 24 = .ok (.aload_n 0, 1) := by decide +kernel
theorem dX4_copyFrom_25 : decode cX4_copyFrom 25 = .ok (.aload_n 1, 1) := by decide +kernel
theorem dX4_copyFrom_26 : decode cX4_copyFrom 26 = .ok (.getfield 34, 3) := by decide +kernel
theorem dX4_copyFrom_29 : decode cX4_copyFrom 29 = .ok (.putfield 34, 3) := by decide +kernel
theorem dX4_copyFrom_32 : decode cX4_copyFrom 32 = .ok (.aload_n 0, 1) := by decide +kernel
theorem dX4_copyFrom_33 : decode cX4_copyFrom 33 = .ok (.aload_n 1, 1) := by decide +kernel
theorem dX4_copyFrom_34 : decode cX4_copyFrom 34 = .ok (.getfield 50, 3) := by decide +kernel
theorem dX4_copyFrom_37 : decode cX4_copyFrom 37 = .ok (.putfield 50, 3) := by decide +kernel
theorem dX4_copyFrom_40 : decode cX4_copyFrom 40 = .ok (.iconst 0, 1) := by decide +kernel
theorem dX4_copyFrom_41 : decode cX4_copyFrom 41 = .ok (.istore_n 2, 1) := by decide +kernel
theorem dX4_copyFrom_42 : decode cX4_copyFrom 42 = .ok (.iload_n 2, 1) := by decide +kernel
theorem dX4_copyFrom_43 : decode cX4_copyFrom 43 = .ok (.aload_n 0, 1) := by decide +kernel
theorem dX4_copyFrom_44 : decode cX4_copyFrom 44 = .ok (.getfield 41, 3) := by decide +kernel
theorem dX4_copyFrom_47 : decode cX4_copyFrom 47 = .ok (.if_icmp .ge 43, 3) := by decide +kernel
theorem dX4_copyFrom_50 : decode cX4_copyFrom 50 = .ok (.aload_n 0, 1) := by decide +kernel
theorem dX4_copyFrom_51 : decode cX4_copyFrom 51 = .ok (.getfield 11, 3) := by decide +kernel
theorem dX4_copyFrom_54 : decode cX4_copyFrom 54 = .ok (.iload_n 2, 1) := by decide +kernel
theorem dX4_copyFrom_55 : decode cX4_copyFrom 55 = .ok (.aaload, 1) := by decide +kernel
theorem dX4_copyFrom_56 : decode cX4_copyFrom 56 = .ok (.aload_n 1, 1) := by decide +kernel
theorem dX4_copyFrom_57 : decode cX4_copyFrom 57 = .ok (.getfield 11, 3) := by decide +kernel
theorem dX4_copyFrom_60 : decode cX4_copyFrom 60 = .ok (.iload_n 2, 1) := by decide +kernel
theorem dX4_copyFrom_61 : decode cX4_copyFrom 61 = .ok (.aaload, 1) := by decide +kernel
theorem dX4_copyFrom_62 : decode cX4_copyFrom 62 = .ok (.invokevirtual 53, 3) := by decide +kernel
theorem dX4_copyFrom_65 : decode cX4_copyFrom 65 = .ok (.aload_n 1, 1) := by decide +kernel
theorem dX4_copyFrom_66 : decode cX4_copyFrom 66 = .ok (.getfield 31, 3) := by decide +kernel
theorem dX4_copyFrom_69 : decode cX4_copyFrom 69 = .ok (.iload_n 2, 1) := by decide +kernel
theorem dX4_copyFrom_70 : decode cX4_copyFrom 70 = .ok (.aaload, 1) := by decide +kernel
theorem dX4_copyFrom_71 : decode cX4_copyFrom 71 = .ok (.iconst 0, 1) := by decide +kernel
theorem dX4_copyFrom_72 : decode cX4_copyFrom 72 = .ok (.aload_n 0, 1) := by decide +kernel
theorem dX4_copyFrom_73 : decode cX4_copyFrom 73 = .ok (.getfield 31, 3) := by decide +kernel
theorem dX4_copyFrom_76 : decode cX4_copyFrom 76 = .ok (.iload_n 2, 1) := by decide +kernel
theorem dX4_copyFrom_77 : decode cX4_copyFrom 77 = .ok (.aaload, 1) := by decide +kernel
theorem dX4_copyFrom_78 : decode cX4_copyFrom 78 = .ok (.iconst 0, 1) := by decide +kernel
theorem dX4_copyFrom_79 : decode cX4_copyFrom 79 = .ok (.bipush 8, 2) := by decide +kernel
theorem dX4_copyFrom_81 : decode cX4_copyFrom 81 = .ok (.invokestatic 57, 3) := by decide +kernel
theorem dX4_copyFrom_84 : decode cX4_copyFrom 84 = .ok (.iinc 2 1, 3) := by decide +kernel
theorem dX4_copyFrom_87 : decode cX4_copyFrom 87 = .ok (.goto (-45), 3) := by decide +kernel
theorem dX4_copyFrom_90 : decode cX4_copyFrom 90 = .ok (.iconst 0, 1) := by decide +kernel
theorem dX4_copyFrom_91 : decode cX4_copyFrom 91 = .ok (.istore_n 2, 1) := by decide +kernel
theorem dX4_copyFrom_92 : decode cX4_copyFrom 92 = .ok (.iload_n 2, 1) := by decide +kernel
theorem dX4_copyFrom_93 : decode cX4_copyFrom 93 = .ok (.aload_n 0, 1) := by decide +kernel
theorem dX4_copyFrom_94 : decode cX4_copyFrom 94 = .ok (.getfield 44, 3) := by decide +kernel
theorem dX4_copyFrom_97 : decode cX4_copyFrom 97 = .ok (.if_icmp .ge 24, 3) := by decide +kernel
theorem dX4_copyFrom_100 : decode cX4_copyFrom 100 = .ok (.aload_n 0, 1) := by decide +kernel
theorem dX4_copyFrom_101 : decode cX4_copyFrom 101 = .ok (.getfield 19, 3) := by decide +kernel
theorem dX4_copyFrom_104 : decode cX4_copyFrom 104 = .ok (.iload_n 2, 1) := by decide +kernel
theorem dX4_copyFrom_105 : decode cX4_copyFrom 105 = .ok (.aaload, 1) := by decide +kernel
theorem dX4_copyFrom_106 : decode cX4_copyFrom 106 = .ok (.aload_n 1, 1) := by decide +kernel
theorem dX4_copyFrom_107 : decode cX4_copyFrom 107 = .ok (.getfield 19, 3) := by decide +kernel
theorem dX4_copyFrom_110 : decode cX4_copyFrom 110 = .ok (.iload_n 2, 1) := by decide +kernel
theorem dX4_copyFrom_111 : decode cX4_copyFrom 111 = .ok (.aaload, 1) := by decide +kernel
theorem dX4_copyFrom_112 : decode cX4_copyFrom 112 = .ok (.invokevirtual 63, 3) := by decide +kernel
theorem dX4_copyFrom_115 : decode cX4_copyFrom 115 = .ok (.iinc 2 1, 3) := by decide +kernel
theorem dX4_copyFrom_118 : decode cX4_copyFrom 118 = .ok (.goto (-26), 3) := by decide +kernel
theorem dX4_copyFrom_121 : decode cX4_copyFrom 121 = .ok (.iconst 0, 1) := by decide +kernel
theorem dX4_copyFrom_122 : decode cX4_copyFrom 122 = .ok (.istore_n 2, 1) := by decide +kernel
theorem dX4_copyFrom_123 : decode cX4_copyFrom 123 = .ok (.iload_n 2, 1) := by decide +kernel
theorem dX4_copyFrom_124 : decode cX4_copyFrom 124 = .ok (.aload_n 0, 1) := by decide +kernel
theorem dX4_copyFrom_125 : decode cX4_copyFrom 125 = .ok (.getfield 47, 3) := by decide +kernel
theorem dX4_copyFrom_128 : decode cX4_copyFrom 128 = .ok (.if_icmp .ge 24, 3) := by decide +kernel
theorem dX4_copyFrom_131 : decode cX4_copyFrom 131 = .ok (.aload_n 0, 1) := by decide +kernel
theorem dX4_copyFrom_132 : decode cX4_copyFrom 132 = .ok (.getfield 25, 3) := by decide +kernel
theorem dX4_copyFrom_135 : decode cX4_copyFrom 135 = .ok (.iload_n 2, 1) := by decide +kernel
theorem dX4_copyFrom_136 : decode cX4_copyFrom 136 = .ok (.aaload, 1) := by decide +kernel
theorem dX4_copyFrom_137 : decode cX4_copyFrom 137 = .ok (.aload_n 1, 1) := by decide +kernel
theorem dX4_copyFrom_138 : decode cX4_copyFrom 138 = .ok (.getfield 25, 3) := by decide +kernel
theorem dX4_copyFrom_141 : decode cX4_copyFrom 141 = .ok (.iload_n 2, 1) := by decide +kernel
theorem dX4_copyFrom_142 : decode cX4_copyFrom 142 = .ok (.aaload, 1) := by decide +kernel
theorem dX4_copyFrom_143 : decode cX4_copyFrom 143 = .ok (.invokevirtual 66, 3) := by decide +kernel
theorem dX4_copyFrom_146 : decode cX4_copyFrom 146 = .ok (.iinc 2 1, 3) := by decide +kernel
theorem dX4_copyFrom_149 : decode cX4_copyFrom 149 = .ok (.goto (-26), 3) := by decide +kernel
theorem dX4_copyFrom_152 : decode cX4_copyFrom 152 = .ok (.return_, 1) := by decide +kernel
def j_X4_copyFrom : JD := (yX4_copyFrom, cX4_copyFrom, 3, none)
def b_X4_copyFrom : BD := (1, 0, 0)
theorem dX4_houseNamed_0 : decode cX4_houseNamed 0 = .ok (.iconst 0, 1) := by decide +kernel
theorem dX4_houseNamed_1 : decode cX4_houseNamed 1 = .ok (.istore_n 3, 1) := by decide +kernel
theorem dX4_houseNamed_2 : decode cX4_houseNamed 2 = .ok (.iload_n 3, 1) := by decide +kernel
theorem dX4_houseNamed_3 : decode cX4_houseNamed 3 = .ok (.aload_n 0, 1) := by decide +kernel
theorem dX4_houseNamed_4 : decode cX4_houseNamed 4 = .ok (.getfield 41, 3) := by decide +kernel
theorem dX4_houseNamed_7 : decode cX4_houseNamed 7 = .ok (.if_icmp .ge 25, 3) := by decide +kernel
theorem dX4_houseNamed_10 : decode cX4_houseNamed 10 = .ok (.aload_n 0, 1) := by decide +kernel
theorem dX4_houseNamed_11 : decode cX4_houseNamed 11 = .ok (.getfield 11, 3) := by decide +kernel
theorem dX4_houseNamed_14 : decode cX4_houseNamed 14 = .ok (.iload_n 3, 1) := by decide +kernel
theorem dX4_houseNamed_15 : decode cX4_houseNamed 15 = .ok (.aaload, 1) := by decide +kernel
theorem dX4_houseNamed_16 : decode cX4_houseNamed 16 = .ok (.getfield 69, 3) := by decide +kernel
theorem dX4_houseNamed_19 : decode cX4_houseNamed 19 = .ok (.lload_n 1, 1) := by decide +kernel
theorem dX4_houseNamed_20 : decode cX4_houseNamed 20 = .ok (.lcmp, 1) := by decide +kernel
theorem dX4_houseNamed_21 : decode cX4_houseNamed 21 = .ok (.ifCond .ne 5, 3) := by decide +kernel
theorem dX4_houseNamed_24 : decode cX4_houseNamed 24 = .ok (.iload_n 3, 1) := by decide +kernel
theorem dX4_houseNamed_25 : decode cX4_houseNamed 25 = .ok (.ireturn, 1) := by decide +kernel
theorem dX4_houseNamed_26 : decode cX4_houseNamed 26 = .ok (.iinc 3 1, 3) := by decide +kernel
theorem dX4_houseNamed_29 : decode cX4_houseNamed 29 = .ok (.goto (-27), 3) := by decide +kernel
theorem dX4_houseNamed_32 : decode cX4_houseNamed 32 = .ok (.iconst (-1), 1) := by decide +kernel
theorem dX4_houseNamed_33 : decode cX4_houseNamed 33 = .ok (.ireturn, 1) := by decide +kernel
def j_X4_houseNamed : JD := (yX4_houseNamed, cX4_houseNamed, 4, (some .int))
def b_X4_houseNamed : BD := (0, 0, 0)
theorem dX4_gangNamed_0 : decode cX4_gangNamed 0 = .ok (.iconst 0, 1) := by decide +kernel
theorem dX4_gangNamed_1 : decode cX4_gangNamed 1 = .ok (.istore_n 3, 1) := by decide +kernel
theorem dX4_gangNamed_2 : decode cX4_gangNamed 2 = .ok (.iload_n 3, 1) := by decide +kernel
theorem dX4_gangNamed_3 : decode cX4_gangNamed 3 = .ok (.aload_n 0, 1) := by decide +kernel
theorem dX4_gangNamed_4 : decode cX4_gangNamed 4 = .ok (.getfield 44, 3) := by decide +kernel
theorem dX4_gangNamed_7 : decode cX4_gangNamed 7 = .ok (.if_icmp .ge 25, 3) := by decide +kernel
theorem dX4_gangNamed_10 : decode cX4_gangNamed 10 = .ok (.aload_n 0, 1) := by decide +kernel
theorem dX4_gangNamed_11 : decode cX4_gangNamed 11 = .ok (.getfield 19, 3) := by decide +kernel
theorem dX4_gangNamed_14 : decode cX4_gangNamed 14 = .ok (.iload_n 3, 1) := by decide +kernel
theorem dX4_gangNamed_15 : decode cX4_gangNamed 15 = .ok (.aaload, 1) := by decide +kernel
theorem dX4_gangNamed_16 : decode cX4_gangNamed 16 = .ok (.getfield 73, 3) := by decide +kernel
theorem dX4_gangNamed_19 : decode cX4_gangNamed 19 = .ok (.lload_n 1, 1) := by decide +kernel
theorem dX4_gangNamed_20 : decode cX4_gangNamed 20 = .ok (.lcmp, 1) := by decide +kernel
theorem dX4_gangNamed_21 : decode cX4_gangNamed 21 = .ok (.ifCond .ne 5, 3) := by decide +kernel
theorem dX4_gangNamed_24 : decode cX4_gangNamed 24 = .ok (.iload_n 3, 1) := by decide +kernel
theorem dX4_gangNamed_25 : decode cX4_gangNamed 25 = .ok (.ireturn, 1) := by decide +kernel
theorem dX4_gangNamed_26 : decode cX4_gangNamed 26 = .ok (.iinc 3 1, 3) := by decide +kernel
theorem dX4_gangNamed_29 : decode cX4_gangNamed 29 = .ok (.goto (-27), 3) := by decide +kernel
theorem dX4_gangNamed_32 : decode cX4_gangNamed 32 = .ok (.iconst (-1), 1) := by decide +kernel
theorem dX4_gangNamed_33 : decode cX4_gangNamed 33 = .ok (.ireturn, 1) := by decide +kernel
def j_X4_gangNamed : JD := (yX4_gangNamed, cX4_gangNamed, 4, (some .int))
def b_X4_gangNamed : BD := (0, 0, 0)
theorem dX4_isTaken_0 : decode cX4_isTaken 0 = .ok (.iconst 0, 1) := by decide +kernel
theorem dX4_isTaken_1 : decode cX4_isTaken 1 = .ok (.istore_n 3, 1) := by decide +kernel
theorem dX4_isTaken_2 : decode cX4_isTaken 2 = .ok (.iload_n 3, 1) := by decide +kernel
theorem dX4_isTaken_3 : decode cX4_isTaken 3 = .ok (.aload_n 0, 1) := by decide +kernel
theorem dX4_isTaken_4 : decode cX4_isTaken 4 = .ok (.getfield 47, 3) := by decide +kernel
theorem dX4_isTaken_7 : decode cX4_isTaken 7 = .ok (.if_icmp .ge 25, 3) := by decide +kernel
theorem dX4_isTaken_10 : decode cX4_isTaken 10 = .ok (.aload_n 0, 1) := by decide +kernel
theorem dX4_isTaken_11 : decode cX4_isTaken 11 = .ok (.getfield 25, 3) := by decide +kernel
theorem dX4_isTaken_14 : decode cX4_isTaken 14 = .ok (.iload_n 3, 1) := by decide +kernel
theorem dX4_isTaken_15 : decode cX4_isTaken 15 = .ok (.aaload, 1) := by decide +kernel
theorem dX4_isTaken_16 : decode cX4_isTaken 16 = .ok (.getfield 74, 3) := by decide +kernel
theorem dX4_isTaken_19 : decode cX4_isTaken 19 = .ok (.lload_n 1, 1) := by decide +kernel
theorem dX4_isTaken_20 : decode cX4_isTaken 20 = .ok (.lcmp, 1) := by decide +kernel
theorem dX4_isTaken_21 : decode cX4_isTaken 21 = .ok (.ifCond .ne 5, 3) := by decide +kernel
theorem dX4_isTaken_24 : decode cX4_isTaken 24 = .ok (.iconst 1, 1) := by decide +kernel
theorem dX4_isTaken_25 : decode cX4_isTaken 25 = .ok (.ireturn, 1) := by decide +kernel
theorem dX4_isTaken_26 : decode cX4_isTaken 26 = .ok (.iinc 3 1, 3) := by decide +kernel
theorem dX4_isTaken_29 : decode cX4_isTaken 29 = .ok (.goto (-27), 3) := by decide +kernel
theorem dX4_isTaken_32 : decode cX4_isTaken 32 = .ok (.aload_n 0, 1) := by decide +kernel
theorem dX4_isTaken_33 : decode cX4_isTaken 33 = .ok (.lload_n 1, 1) := by decide +kernel
theorem dX4_isTaken_34 : decode cX4_isTaken 34 = .ok (.invokevirtual 75, 3) := by decide +kernel
theorem dX4_isTaken_37 : decode cX4_isTaken 37 = .ok (.iconst (-1), 1) := by decide +kernel
theorem dX4_isTaken_38 : decode cX4_isTaken 38 = .ok (.if_icmp .ne 12, 3) := by decide +kernel
theorem dX4_isTaken_41 : decode cX4_isTaken 41 = .ok (.aload_n 0, 1) := by decide +kernel
theorem dX4_isTaken_42 : decode cX4_isTaken 42 = .ok (.lload_n 1, 1) := by decide +kernel
theorem dX4_isTaken_43 : decode cX4_isTaken 43 = .ok (.invokevirtual 79, 3) := by decide +kernel
theorem dX4_isTaken_46 : decode cX4_isTaken 46 = .ok (.iconst (-1), 1) := by decide +kernel
theorem dX4_isTaken_47 : decode cX4_isTaken 47 = .ok (.if_icmp .eq 7, 3) := by decide +kernel
theorem dX4_isTaken_50 : decode cX4_isTaken 50 = .ok (.iconst 1, 1) := by decide +kernel
theorem dX4_isTaken_51 : decode cX4_isTaken 51 = .ok (.goto 4, 3) := by decide +kernel
theorem dX4_isTaken_54 : decode cX4_isTaken 54 = .ok (.iconst 0, 1) := by decide +kernel
theorem dX4_isTaken_55 : decode cX4_isTaken 55 = .ok (.ireturn, 1) := by decide +kernel
def j_X4_isTaken : JD := (yX4_isTaken, cX4_isTaken, 4, (some .boolean))
def b_X4_isTaken : BD := (1, 0, 0)
theorem dX4_offSet_0 : decode cX4_offSet 0 = .ok (.aload_n 0, 1) := by decide +kernel
theorem dX4_offSet_1 : decode cX4_offSet 1 = .ok (.invokevirtual 90, 3) := by decide +kernel
theorem dX4_offSet_4 : decode cX4_offSet 4 = .ok (.aload_n 0, 1) := by decide +kernel
theorem dX4_offSet_5 : decode cX4_offSet 5 = .ok (.invokevirtual 94, 3) := by decide +kernel
theorem dX4_offSet_8 : decode cX4_offSet 8 = .ok (.iconst (-1), 1) := by decide +kernel
theorem dX4_offSet_9 : decode cX4_offSet 9 = .ok (.ixor, 1) := by decide +kernel
theorem dX4_offSet_10 : decode cX4_offSet 10 = .ok (.iand, 1) := by decide +kernel
theorem dX4_offSet_11 : decode cX4_offSet 11 = .ok (.ireturn, 1) := by decide +kernel
def j_X4_offSet : JD := (yX4_offSet, cX4_offSet, 1, (some .int))
def b_X4_offSet : BD := (2, 0, 0)
theorem dX4_chancesToFall_0 : decode cX4_chancesToFall 0 = .ok (.iconst 0, 1) := by decide +kernel
theorem dX4_chancesToFall_1 : decode cX4_chancesToFall 1 = .ok (.istore_n 2, 1) := by decide +kernel
theorem dX4_chancesToFall_2 : decode cX4_chancesToFall 2 = .ok (.iconst 0, 1) := by decide +kernel
theorem dX4_chancesToFall_3 : decode cX4_chancesToFall 3 = .ok (.istore_n 3, 1) := by decide +kernel
theorem dX4_chancesToFall_4 : decode cX4_chancesToFall 4 = .ok (.iload_n 3, 1) := by decide +kernel
theorem dX4_chancesToFall_5 : decode cX4_chancesToFall 5 = .ok (.aload_n 0, 1) := by decide +kernel
theorem dX4_chancesToFall_6 : decode cX4_chancesToFall 6 = .ok (.getfield 47, 3) := by decide +kernel
theorem dX4_chancesToFall_9 : decode cX4_chancesToFall 9 = .ok (.if_icmp .ge 54, 3) := by decide +kernel
theorem dX4_chancesToFall_12 : decode cX4_chancesToFall 12 = .ok (.aload_n 0, 1) := by decide +kernel
theorem dX4_chancesToFall_13 : decode cX4_chancesToFall 13 = .ok (.getfield 11, 3) := by decide +kernel
theorem dX4_chancesToFall_16 : decode cX4_chancesToFall 16 = .ok (.iload_n 1, 1) := by decide +kernel
theorem dX4_chancesToFall_17 : decode cX4_chancesToFall 17 = .ok (.aaload, 1) := by decide +kernel
theorem dX4_chancesToFall_18 : decode cX4_chancesToFall 18 = .ok (.invokevirtual 86, 3) := by decide +kernel
theorem dX4_chancesToFall_21 : decode cX4_chancesToFall 21 = .ok (.ifCond .eq 36, 3) := by decide +kernel
theorem dX4_chancesToFall_24 : decode cX4_chancesToFall 24 = .ok (.aload_n 0, 1) := by decide +kernel
theorem dX4_chancesToFall_25 : decode cX4_chancesToFall 25 = .ok (.getfield 25, 3) := by decide +kernel
theorem dX4_chancesToFall_28 : decode cX4_chancesToFall 28 = .ok (.iload_n 3, 1) := by decide +kernel
theorem dX4_chancesToFall_29 : decode cX4_chancesToFall 29 = .ok (.aaload, 1) := by decide +kernel
theorem dX4_chancesToFall_30 : decode cX4_chancesToFall 30 = .ok (.getfield 106, 3) := by decide +kernel
theorem dX4_chancesToFall_33 : decode cX4_chancesToFall 33 = .ok (.aload_n 0, 1) := by decide +kernel
theorem dX4_chancesToFall_34 : decode cX4_chancesToFall 34 = .ok (.getfield 11, 3) := by decide +kernel
theorem dX4_chancesToFall_37 : decode cX4_chancesToFall 37 = .ok (.iload_n 1, 1) := by decide +kernel
theorem dX4_chancesToFall_38 : decode cX4_chancesToFall 38 = .ok (.aaload, 1) := by decide +kernel
theorem dX4_chancesToFall_39 : decode cX4_chancesToFall 39 = .ok (.invokevirtual 97, 3) := by decide +kernel
theorem dX4_chancesToFall_42 : decode cX4_chancesToFall 42 = .ok (.if_icmp .lt 15, 3) := by decide +kernel
theorem dX4_chancesToFall_45 : decode cX4_chancesToFall 45 = .ok (.iload_n 2, 1) := by decide +kernel
theorem dX4_chancesToFall_46 : decode cX4_chancesToFall 46 = .ok (.aload_n 0, 1) := by decide +kernel
theorem dX4_chancesToFall_47 : decode cX4_chancesToFall 47 = .ok (.getfield 25, 3) := by decide +kernel
theorem dX4_chancesToFall_50 : decode cX4_chancesToFall 50 = .ok (.iload_n 3, 1) := by decide +kernel
theorem dX4_chancesToFall_51 : decode cX4_chancesToFall 51 = .ok (.aaload, 1) := by decide +kernel
theorem dX4_chancesToFall_52 : decode cX4_chancesToFall 52 = .ok (.getfield 103, 3) := by decide +kernel
theorem dX4_chancesToFall_55 : decode cX4_chancesToFall 55 = .ok (.iadd, 1) := by decide +kernel
theorem dX4_chancesToFall_56 : decode cX4_chancesToFall 56 = .ok (.istore_n 2, 1) := by decide +kernel
theorem dX4_chancesToFall_57 : decode cX4_chancesToFall 57 = .ok (.iinc 3 1, 3) := by decide +kernel
theorem dX4_chancesToFall_60 : decode cX4_chancesToFall 60 = .ok (.goto (-56), 3) := by decide +kernel
theorem dX4_chancesToFall_63 : decode cX4_chancesToFall 63 = .ok (.iload_n 2, 1) := by decide +kernel
theorem dX4_chancesToFall_64 : decode cX4_chancesToFall 64 = .ok (.ireturn, 1) := by decide +kernel
def j_X4_chancesToFall : JD := (yX4_chancesToFall, cX4_chancesToFall, 4, (some .int))
def b_X4_chancesToFall : BD := (1, 0, 0)
theorem dX4_lossByChances_0 : decode cX4_lossByChances 0 = .ok (.iconst 0, 1) := by decide +kernel
theorem dX4_lossByChances_1 : decode cX4_lossByChances 1 = .ok (.istore_n 1, 1) := by decide +kernel
theorem dX4_lossByChances_2 : decode cX4_lossByChances 2 = .ok (.iconst 0, 1) := by decide +kernel
theorem dX4_lossByChances_3 : decode cX4_lossByChances 3 = .ok (.istore_n 2, 1) := by decide +kernel
theorem dX4_lossByChances_4 : decode cX4_lossByChances 4 = .ok (.iload_n 2, 1) := by decide +kernel
theorem dX4_lossByChances_5 : decode cX4_lossByChances 5 = .ok (.aload_n 0, 1) := by decide +kernel
theorem dX4_lossByChances_6 : decode cX4_lossByChances 6 = .ok (.getfield 41, 3) := by decide +kernel
theorem dX4_lossByChances_9 : decode cX4_lossByChances 9 = .ok (.if_icmp .ge 27, 3) := by decide +kernel
theorem dX4_lossByChances_12 : decode cX4_lossByChances 12 = .ok (.iload_n 1, 1) := by decide +kernel
theorem dX4_lossByChances_13 : decode cX4_lossByChances 13 = .ok (.aload_n 0, 1) := by decide +kernel
theorem dX4_lossByChances_14 : decode cX4_lossByChances 14 = .ok (.getfield 11, 3) := by decide +kernel
theorem dX4_lossByChances_17 : decode cX4_lossByChances 17 = .ok (.iload_n 2, 1) := by decide +kernel
theorem dX4_lossByChances_18 : decode cX4_lossByChances 18 = .ok (.aaload, 1) := by decide +kernel
theorem dX4_lossByChances_19 : decode cX4_lossByChances 19 = .ok (.getfield 100, 3) := by decide +kernel
theorem dX4_lossByChances_22 : decode cX4_lossByChances 22 = .ok (.aload_n 0, 1) := by decide +kernel
theorem dX4_lossByChances_23 : decode cX4_lossByChances 23 = .ok (.iload_n 2, 1) := by decide +kernel
theorem dX4_lossByChances_24 : decode cX4_lossByChances 24 = .ok (.invokevirtual 109, 3) := by decide +kernel
theorem dX4_lossByChances_27 : decode cX4_lossByChances 27 = .ok (.imul, 1) := by decide +kernel
theorem dX4_lossByChances_28 : decode cX4_lossByChances 28 = .ok (.iadd, 1) := by decide +kernel
theorem dX4_lossByChances_29 : decode cX4_lossByChances 29 = .ok (.istore_n 1, 1) := by decide +kernel
theorem dX4_lossByChances_30 : decode cX4_lossByChances 30 = .ok (.iinc 2 1, 3) := by decide +kernel
theorem dX4_lossByChances_33 : decode cX4_lossByChances 33 = .ok (.goto (-29), 3) := by decide +kernel
theorem dX4_lossByChances_36 : decode cX4_lossByChances 36 = .ok (.iload_n 1, 1) := by decide +kernel
theorem dX4_lossByChances_37 : decode cX4_lossByChances 37 = .ok (.ireturn, 1) := by decide +kernel
def j_X4_lossByChances : JD := (yX4_lossByChances, cX4_lossByChances, 3, (some .int))
def b_X4_lossByChances : BD := (2, 0, 0)
theorem dX4_timesHelped_0 : decode cX4_timesHelped 0 = .ok (.iconst 0, 1) := by decide +kernel
theorem dX4_timesHelped_1 : decode cX4_timesHelped 1 = .ok (.istore_n 2, 1) := by decide +kernel
theorem dX4_timesHelped_2 : decode cX4_timesHelped 2 = .ok (.iconst 0, 1) := by decide +kernel
theorem dX4_timesHelped_3 : decode cX4_timesHelped 3 = .ok (.istore_n 3, 1) := by decide +kernel
theorem dX4_timesHelped_4 : decode cX4_timesHelped 4 = .ok (.iload_n 3, 1) := by decide +kernel
theorem dX4_timesHelped_5 : decode cX4_timesHelped 5 = .ok (.aload_n 0, 1) := by decide +kernel
theorem dX4_timesHelped_6 : decode cX4_timesHelped 6 = .ok (.getfield 41, 3) := by decide +kernel
theorem dX4_timesHelped_9 : decode cX4_timesHelped 9 = .ok (.if_icmp .ge 20, 3) := by decide +kernel
theorem dX4_timesHelped_12 : decode cX4_timesHelped 12 = .ok (.iload_n 2, 1) := by decide +kernel
theorem dX4_timesHelped_13 : decode cX4_timesHelped 13 = .ok (.aload_n 0, 1) := by decide +kernel
theorem dX4_timesHelped_14 : decode cX4_timesHelped 14 = .ok (.getfield 31, 3) := by decide +kernel
theorem dX4_timesHelped_17 : decode cX4_timesHelped 17 = .ok (.iload_n 1, 1) := by decide +kernel
theorem dX4_timesHelped_18 : decode cX4_timesHelped 18 = .ok (.aaload, 1) := by decide +kernel
theorem dX4_timesHelped_19 : decode cX4_timesHelped 19 = .ok (.iload_n 3, 1) := by decide +kernel
theorem dX4_timesHelped_20 : decode cX4_timesHelped 20 = .ok (.iaload, 1) := by decide +kernel
theorem dX4_timesHelped_21 : decode cX4_timesHelped 21 = .ok (.iadd, 1) := by decide +kernel
theorem dX4_timesHelped_22 : decode cX4_timesHelped 22 = .ok (.istore_n 2, 1) := by decide +kernel
theorem dX4_timesHelped_23 : decode cX4_timesHelped 23 = .ok (.iinc 3 1, 3) := by decide +kernel
theorem dX4_timesHelped_26 : decode cX4_timesHelped 26 = .ok (.goto (-22), 3) := by decide +kernel
theorem dX4_timesHelped_29 : decode cX4_timesHelped 29 = .ok (.iload_n 2, 1) := by decide +kernel
theorem dX4_timesHelped_30 : decode cX4_timesHelped 30 = .ok (.ireturn, 1) := by decide +kernel
def j_X4_timesHelped : JD := (yX4_timesHelped, cX4_timesHelped, 4, (some .int))
def b_X4_timesHelped : BD := (0, 0, 0)
theorem dX4_timesHelping_0 : decode cX4_timesHelping 0 = .ok (.iconst 0, 1) := by decide +kernel
theorem dX4_timesHelping_1 : decode cX4_timesHelping 1 = .ok (.istore_n 2, 1) := by decide +kernel
theorem dX4_timesHelping_2 : decode cX4_timesHelping 2 = .ok (.iconst 0, 1) := by decide +kernel
theorem dX4_timesHelping_3 : decode cX4_timesHelping 3 = .ok (.istore_n 3, 1) := by decide +kernel
theorem dX4_timesHelping_4 : decode cX4_timesHelping 4 = .ok (.iload_n 3, 1) := by decide +kernel
theorem dX4_timesHelping_5 : decode cX4_timesHelping 5 = .ok (.aload_n 0, 1) := by decide +kernel
theorem dX4_timesHelping_6 : decode cX4_timesHelping 6 = .ok (.getfield 41, 3) := by decide +kernel
theorem dX4_timesHelping_9 : decode cX4_timesHelping 9 = .ok (.if_icmp .ge 20, 3) := by decide +kernel
theorem dX4_timesHelping_12 : decode cX4_timesHelping 12 = .ok (.iload_n 2, 1) := by decide +kernel
theorem dX4_timesHelping_13 : decode cX4_timesHelping 13 = .ok (.aload_n 0, 1) := by decide +kernel
theorem dX4_timesHelping_14 : decode cX4_timesHelping 14 = .ok (.getfield 31, 3) := by decide +kernel
theorem dX4_timesHelping_17 : decode cX4_timesHelping 17 = .ok (.iload_n 3, 1) := by decide +kernel
theorem dX4_timesHelping_18 : decode cX4_timesHelping 18 = .ok (.aaload, 1) := by decide +kernel
theorem dX4_timesHelping_19 : decode cX4_timesHelping 19 = .ok (.iload_n 1, 1) := by decide +kernel
theorem dX4_timesHelping_20 : decode cX4_timesHelping 20 = .ok (.iaload, 1) := by decide +kernel
theorem dX4_timesHelping_21 : decode cX4_timesHelping 21 = .ok (.iadd, 1) := by decide +kernel
theorem dX4_timesHelping_22 : decode cX4_timesHelping 22 = .ok (.istore_n 2, 1) := by decide +kernel
theorem dX4_timesHelping_23 : decode cX4_timesHelping 23 = .ok (.iinc 3 1, 3) := by decide +kernel
theorem dX4_timesHelping_26 : decode cX4_timesHelping 26 = .ok (.goto (-22), 3) := by decide +kernel
theorem dX4_timesHelping_29 : decode cX4_timesHelping 29 = .ok (.iload_n 2, 1) := by decide +kernel
theorem dX4_timesHelping_30 : decode cX4_timesHelping 30 = .ok (.ireturn, 1) := by decide +kernel
def j_X4_timesHelping : JD := (yX4_timesHelping, cX4_timesHelping, 4, (some .int))
def b_X4_timesHelping : BD := (0, 0, 0)
theorem dX4_chainFrom_0 : decode cX4_chainFrom 0 = .ok (.iconst 1, 1) := by decide +kernel
theorem dX4_chainFrom_1 : decode cX4_chainFrom 1 = .ok (.iload_n 1, 1) := by decide +kernel
theorem dX4_chainFrom_2 : decode cX4_chainFrom 2 = .ok (.ishl, 1) := by decide +kernel
theorem dX4_chainFrom_3 : decode cX4_chainFrom 3 = .ok (.istore_n 2, 1) := by decide +kernel
theorem dX4_chainFrom_4 : decode cX4_chainFrom 4 = .ok (.iconst 0, 1) := by decide +kernel
theorem dX4_chainFrom_5 : decode cX4_chainFrom 5 = .ok (.istore_n 3, 1) := by decide +kernel
theorem dX4_chainFrom_6 : decode cX4_chainFrom 6 = .ok (.iload_n 3, 1) := by decide +kernel
theorem dX4_chainFrom_7 : decode cX4_chainFrom 7 = .ok (.aload_n 0, 1) := by decide +kernel
theorem dX4_chainFrom_8 : decode cX4_chainFrom 8 = .ok (.getfield 41, 3) := by decide +kernel
theorem dX4_chainFrom_11 : decode cX4_chainFrom 11 = .ok (.if_icmp .ge 79, 3) := by decide +kernel
theorem dX4_chainFrom_14 : decode cX4_chainFrom 14 = .ok (.iload_n 2, 1) := by decide +kernel
theorem dX4_chainFrom_15 : decode cX4_chainFrom 15 = .ok (.istore 4, 2) := by decide +kernel
theorem dX4_chainFrom_17 : decode cX4_chainFrom 17 = .ok (.iconst 0, 1) := by decide +kernel
theorem dX4_chainFrom_18 : decode cX4_chainFrom 18 = .ok (.istore 5, 2) := by decide +kernel
theorem dX4_chainFrom_20 : decode cX4_chainFrom 20 = .ok (.iload 5, 2) := by decide +kernel
theorem dX4_chainFrom_22 : decode cX4_chainFrom 22 = .ok (.aload_n 0, 1) := by decide +kernel
theorem dX4_chainFrom_23 : decode cX4_chainFrom 23 = .ok (.getfield 41, 3) := by decide +kernel
theorem dX4_chainFrom_26 : decode cX4_chainFrom 26 = .ok (.if_icmp .ge 58, 3) := by decide +kernel
theorem dX4_chainFrom_29 : decode cX4_chainFrom 29 = .ok (.iconst 0, 1) := by decide +kernel
theorem dX4_chainFrom_30 : decode cX4_chainFrom 30 = .ok (.istore 6, 2) := by decide +kernel
theorem dX4_chainFrom_32 : decode cX4_chainFrom 32 = .ok (.iload 6, 2) := by decide +kernel
theorem dX4_chainFrom_34 : decode cX4_chainFrom 34 = .ok (.aload_n 0, 1) := by decide +kernel
theorem dX4_chainFrom_35 : decode cX4_chainFrom 35 = .ok (.getfield 41, 3) := by decide +kernel
theorem dX4_chainFrom_38 : decode cX4_chainFrom 38 = .ok (.if_icmp .ge 40, 3) := by decide +kernel
theorem dX4_chainFrom_41 : decode cX4_chainFrom 41 = .ok (.iload 4, 2) := by decide +kernel
theorem dX4_chainFrom_43 : decode cX4_chainFrom 43 = .ok (.iload 5, 2) := by decide +kernel
theorem dX4_chainFrom_45 : decode cX4_chainFrom 45 = .ok (.ishr, 1) := by decide +kernel
theorem dX4_chainFrom_46 : decode cX4_chainFrom 46 = .ok (.iconst 1, 1) := by decide +kernel
theorem dX4_chainFrom_47 : decode cX4_chainFrom 47 = .ok (.iand, 1) := by decide +kernel
theorem dX4_chainFrom_48 : decode cX4_chainFrom 48 = .ok (.iconst 1, 1) := by decide +kernel
theorem dX4_chainFrom_49 : decode cX4_chainFrom 49 = .ok (.if_icmp .ne 23, 3) := by decide +kernel
theorem dX4_chainFrom_52 : decode cX4_chainFrom 52 = .ok (.aload_n 0, 1) := by decide +kernel
theorem dX4_chainFrom_53 : decode cX4_chainFrom 53 = .ok (.getfield 31, 3) := by decide +kernel
theorem dX4_chainFrom_56 : decode cX4_chainFrom 56 = .ok (.iload 6, 2) := by decide +kernel
theorem dX4_chainFrom_58 : decode cX4_chainFrom 58 = .ok (.aaload, 1) := by decide +kernel
theorem dX4_chainFrom_59 : decode cX4_chainFrom 59 = .ok (.iload 5, 2) := by decide +kernel
theorem dX4_chainFrom_61 : decode cX4_chainFrom 61 = .ok (.iaload, 1) := by decide +kernel
theorem dX4_chainFrom_62 : decode cX4_chainFrom 62 = .ok (.ifCond .le 10, 3) := by decide +kernel
theorem dX4_chainFrom_65 : decode cX4_chainFrom 65 = .ok (.iload_n 2, 1) := by decide +kernel
theorem dX4_chainFrom_66 : decode cX4_chainFrom 66 = .ok (.iconst 1, 1) := by decide +kernel
theorem dX4_chainFrom_67 : decode cX4_chainFrom 67 = .ok (.iload 6, 2) := by decide +kernel
theorem dX4_chainFrom_69 : decode cX4_chainFrom 69 = .ok (.ishl, 1) := by decide +kernel
theorem dX4_chainFrom_70 : decode cX4_chainFrom 70 = .ok (.ior, 1) := by decide +kernel
theorem dX4_chainFrom_71 : decode cX4_chainFrom 71 = .ok (.istore_n 2, 1) := by decide +kernel
theorem dX4_chainFrom_72 : decode cX4_chainFrom 72 = .ok (.iinc 6 1, 3) := by decide +kernel
theorem dX4_chainFrom_75 : decode cX4_chainFrom 75 = .ok (.goto (-43), 3) := by decide +kernel
theorem dX4_chainFrom_78 : decode cX4_chainFrom 78 = .ok (.iinc 5 1, 3) := by decide +kernel
theorem dX4_chainFrom_81 : decode cX4_chainFrom 81 = .ok (.goto (-61), 3) := by decide +kernel
theorem dX4_chainFrom_84 : decode cX4_chainFrom 84 = .ok (.iinc 3 1, 3) := by decide +kernel
theorem dX4_chainFrom_87 : decode cX4_chainFrom 87 = .ok (.goto (-81), 3) := by decide +kernel
theorem dX4_chainFrom_90 : decode cX4_chainFrom 90 = .ok (.iload_n 2, 1) := by decide +kernel
theorem dX4_chainFrom_91 : decode cX4_chainFrom 91 = .ok (.ireturn, 1) := by decide +kernel
def j_X4_chainFrom : JD := (yX4_chainFrom, cX4_chainFrom, 7, (some .int))
def b_X4_chainFrom : BD := (0, 0, 0)
theorem mv_X4_canTake : MV j_X4_canTake 4 2 := ⟨⟨gw_at 1132 (by decide +kernel) rfl, gw_at 214 (by decide +kernel) rfl, ⟨by decide +kernel, by decide +kernel⟩, by decide +kernel, by decide, by decide +kernel⟩, ⟨_, rfl, rfl⟩, gw_at 1131 (by decide +kernel) rfl, gw_at 59 (by decide +kernel) rfl⟩
theorem mv_X4_dueOf : MV j_X4_dueOf 4 1 := ⟨⟨gw_at 1078 (by decide +kernel) rfl, gw_at 214 (by decide +kernel) rfl, ⟨by decide +kernel, by decide +kernel⟩, by decide +kernel, by decide, by decide +kernel⟩, ⟨_, rfl, rfl⟩, gw_at 1077 (by decide +kernel) rfl, gw_at 53 (by decide +kernel) rfl⟩
theorem mv_X4_rankByLaw : MV j_X4_rankByLaw 4 2 := ⟨⟨gw_at 1136 (by decide +kernel) rfl, gw_at 214 (by decide +kernel) rfl, ⟨by decide +kernel, by decide +kernel⟩, by decide +kernel, by decide, by decide +kernel⟩, ⟨_, rfl, rfl⟩, gw_at 1135 (by decide +kernel) rfl, gw_at 60 (by decide +kernel) rfl⟩
theorem mv_X4_firstByLaw : MV j_X4_firstByLaw 4 1 := ⟨⟨gw_at 1128 (by decide +kernel) rfl, gw_at 214 (by decide +kernel) rfl, ⟨by decide +kernel, by decide +kernel⟩, by decide +kernel, by decide, by decide +kernel⟩, ⟨_, rfl, rfl⟩, gw_at 1127 (by decide +kernel) rfl, gw_at 58 (by decide +kernel) rfl⟩
theorem mv_X4_take : MV j_X4_take 4 2 := ⟨⟨gw_at 1147 (by decide +kernel) rfl, gw_at 214 (by decide +kernel) rfl, ⟨by decide +kernel, by decide +kernel⟩, by decide +kernel, by decide, by decide +kernel⟩, ⟨_, rfl, rfl⟩, gw_at 1146 (by decide +kernel) rfl, gw_at 61 (by decide +kernel) rfl⟩
theorem mv_X4_pieceComesOff : MV j_X4_pieceComesOff 4 2 := ⟨⟨gw_at 1178 (by decide +kernel) rfl, gw_at 214 (by decide +kernel) rfl, ⟨by decide +kernel, by decide +kernel⟩, by decide +kernel, by decide, by decide +kernel⟩, ⟨_, rfl, rfl⟩, gw_at 1177 (by decide +kernel) rfl, gw_at 65 (by decide +kernel) rfl⟩
theorem mv_X4_passMinute : MV j_X4_passMinute 4 1 := ⟨⟨gw_at 1166 (by decide +kernel) rfl, gw_at 214 (by decide +kernel) rfl, ⟨by decide +kernel, by decide +kernel⟩, by decide +kernel, by decide, by decide +kernel⟩, ⟨_, rfl, rfl⟩, gw_at 1165 (by decide +kernel) rfl, gw_at 63 (by decide +kernel) rfl⟩
theorem mv_X4_quietMinutes : MV j_X4_quietMinutes 4 1 := ⟨⟨gw_at 1184 (by decide +kernel) rfl, gw_at 214 (by decide +kernel) rfl, ⟨by decide +kernel, by decide +kernel⟩, by decide +kernel, by decide, by decide +kernel⟩, ⟨_, rfl, rfl⟩, gw_at 1183 (by decide +kernel) rfl, gw_at 66 (by decide +kernel) rfl⟩
theorem mv_X4_passHour : MV j_X4_passHour 4 1 := ⟨⟨gw_at 1162 (by decide +kernel) rfl, gw_at 214 (by decide +kernel) rfl, ⟨by decide +kernel, by decide +kernel⟩, by decide +kernel, by decide, by decide +kernel⟩, ⟨_, rfl, rfl⟩, gw_at 1161 (by decide +kernel) rfl, gw_at 62 (by decide +kernel) rfl⟩
theorem mv_X4_allChances : MV j_X4_allChances 4 0 := ⟨⟨gw_at 1062 (by decide +kernel) rfl, gw_at 214 (by decide +kernel) rfl, ⟨by decide +kernel, by decide +kernel⟩, by decide +kernel, by decide, by decide +kernel⟩, ⟨_, rfl, rfl⟩, gw_at 1061 (by decide +kernel) rfl, gw_at 50 (by decide +kernel) rfl⟩
theorem mv_X4_fallingSet : MV j_X4_fallingSet 4 1 := ⟨⟨gw_at 1197 (by decide +kernel) rfl, gw_at 214 (by decide +kernel) rfl, ⟨by decide +kernel, by decide +kernel⟩, by decide +kernel, by decide, by decide +kernel⟩, ⟨_, rfl, rfl⟩, gw_at 1196 (by decide +kernel) rfl, gw_at 68 (by decide +kernel) rfl⟩
theorem mv_X4_blow : MV j_X4_blow 4 1 := ⟨⟨gw_at 1193 (by decide +kernel) rfl, gw_at 214 (by decide +kernel) rfl, ⟨by decide +kernel, by decide +kernel⟩, by decide +kernel, by decide, by decide +kernel⟩, ⟨_, rfl, rfl⟩, gw_at 1192 (by decide +kernel) rfl, gw_at 67 (by decide +kernel) rfl⟩
theorem mv_X4_breakDay : MV j_X4_breakDay 4 0 := ⟨⟨gw_at 1212 (by decide +kernel) rfl, gw_at 214 (by decide +kernel) rfl, ⟨by decide +kernel, by decide +kernel⟩, by decide +kernel, by decide, by decide +kernel⟩, ⟨_, rfl, rfl⟩, gw_at 1211 (by decide +kernel) rfl, gw_at 69 (by decide +kernel) rfl⟩
theorem mv_X4_standingSet : MV j_X4_standingSet 4 0 := ⟨⟨gw_at 1041 (by decide +kernel) rfl, gw_at 214 (by decide +kernel) rfl, ⟨by decide +kernel, by decide +kernel⟩, by decide +kernel, by decide, by decide +kernel⟩, ⟨_, rfl, rfl⟩, gw_at 1040 (by decide +kernel) rfl, gw_at 45 (by decide +kernel) rfl⟩
theorem mv_X4_worthOf : MV j_X4_worthOf 4 1 := ⟨⟨gw_at 1058 (by decide +kernel) rfl, gw_at 214 (by decide +kernel) rfl, ⟨by decide +kernel, by decide +kernel⟩, by decide +kernel, by decide, by decide +kernel⟩, ⟨_, rfl, rfl⟩, gw_at 1057 (by decide +kernel) rfl, gw_at 49 (by decide +kernel) rfl⟩
theorem mv_X4_openSet : MV j_X4_openSet 4 0 := ⟨⟨gw_at 1050 (by decide +kernel) rfl, gw_at 214 (by decide +kernel) rfl, ⟨by decide +kernel, by decide +kernel⟩, by decide +kernel, by decide, by decide +kernel⟩, ⟨_, rfl, rfl⟩, gw_at 1049 (by decide +kernel) rfl, gw_at 47 (by decide +kernel) rfl⟩
theorem mi_X4_init : MI j_X4_init 0 := ⟨⟨gw_at 375 (by decide +kernel) rfl, gw_at 214 (by decide +kernel) rfl, ⟨by decide +kernel, by decide +kernel⟩, by decide +kernel, by decide, by decide +kernel⟩, rfl, rfl, gw_at 374 (by decide +kernel) rfl⟩
theorem mv_X4_clear : MV j_X4_clear 4 0 := ⟨⟨gw_at 850 (by decide +kernel) rfl, gw_at 214 (by decide +kernel) rfl, ⟨by decide +kernel, by decide +kernel⟩, by decide +kernel, by decide, by decide +kernel⟩, ⟨_, rfl, rfl⟩, gw_at 849 (by decide +kernel) rfl, gw_at 11 (by decide +kernel) rfl⟩
theorem mv_X4_copyFrom : MV j_X4_copyFrom 4 1 := ⟨⟨gw_at 1256 (by decide +kernel) rfl, gw_at 214 (by decide +kernel) rfl, ⟨by decide +kernel, by decide +kernel⟩, by decide +kernel, by decide, by decide +kernel⟩, ⟨_, rfl, rfl⟩, gw_at 1255 (by decide +kernel) rfl, gw_at 73 (by decide +kernel) rfl⟩
theorem mv_X4_houseNamed : MV j_X4_houseNamed 4 1 := ⟨⟨gw_at 901 (by decide +kernel) rfl, gw_at 214 (by decide +kernel) rfl, ⟨by decide +kernel, by decide +kernel⟩, by decide +kernel, by decide, by decide +kernel⟩, ⟨_, rfl, rfl⟩, gw_at 900 (by decide +kernel) rfl, gw_at 23 (by decide +kernel) rfl⟩
theorem mv_X4_gangNamed : MV j_X4_gangNamed 4 1 := ⟨⟨gw_at 905 (by decide +kernel) rfl, gw_at 214 (by decide +kernel) rfl, ⟨by decide +kernel, by decide +kernel⟩, by decide +kernel, by decide, by decide +kernel⟩, ⟨_, rfl, rfl⟩, gw_at 904 (by decide +kernel) rfl, gw_at 24 (by decide +kernel) rfl⟩
theorem mv_X4_isTaken : MV j_X4_isTaken 4 1 := ⟨⟨gw_at 897 (by decide +kernel) rfl, gw_at 214 (by decide +kernel) rfl, ⟨by decide +kernel, by decide +kernel⟩, by decide +kernel, by decide, by decide +kernel⟩, ⟨_, rfl, rfl⟩, gw_at 896 (by decide +kernel) rfl, gw_at 22 (by decide +kernel) rfl⟩
theorem mv_X4_offSet : MV j_X4_offSet 4 0 := ⟨⟨gw_at 1045 (by decide +kernel) rfl, gw_at 214 (by decide +kernel) rfl, ⟨by decide +kernel, by decide +kernel⟩, by decide +kernel, by decide, by decide +kernel⟩, ⟨_, rfl, rfl⟩, gw_at 1044 (by decide +kernel) rfl, gw_at 46 (by decide +kernel) rfl⟩
theorem mv_X4_chancesToFall : MV j_X4_chancesToFall 4 1 := ⟨⟨gw_at 1229 (by decide +kernel) rfl, gw_at 214 (by decide +kernel) rfl, ⟨by decide +kernel, by decide +kernel⟩, by decide +kernel, by decide, by decide +kernel⟩, ⟨_, rfl, rfl⟩, gw_at 1228 (by decide +kernel) rfl, gw_at 70 (by decide +kernel) rfl⟩
theorem mv_X4_lossByChances : MV j_X4_lossByChances 4 0 := ⟨⟨gw_at 1247 (by decide +kernel) rfl, gw_at 214 (by decide +kernel) rfl, ⟨by decide +kernel, by decide +kernel⟩, by decide +kernel, by decide, by decide +kernel⟩, ⟨_, rfl, rfl⟩, gw_at 1246 (by decide +kernel) rfl, gw_at 72 (by decide +kernel) rfl⟩
theorem mv_X4_timesHelped : MV j_X4_timesHelped 4 1 := ⟨⟨gw_at 1386 (by decide +kernel) rfl, gw_at 214 (by decide +kernel) rfl, ⟨by decide +kernel, by decide +kernel⟩, by decide +kernel, by decide, by decide +kernel⟩, ⟨_, rfl, rfl⟩, gw_at 1385 (by decide +kernel) rfl, gw_at 90 (by decide +kernel) rfl⟩
theorem mv_X4_timesHelping : MV j_X4_timesHelping 4 1 := ⟨⟨gw_at 1390 (by decide +kernel) rfl, gw_at 214 (by decide +kernel) rfl, ⟨by decide +kernel, by decide +kernel⟩, by decide +kernel, by decide, by decide +kernel⟩, ⟨_, rfl, rfl⟩, gw_at 1389 (by decide +kernel) rfl, gw_at 91 (by decide +kernel) rfl⟩
theorem mv_X4_chainFrom : MV j_X4_chainFrom 4 1 := ⟨⟨gw_at 1398 (by decide +kernel) rfl, gw_at 214 (by decide +kernel) rfl, ⟨by decide +kernel, by decide +kernel⟩, by decide +kernel, by decide, by decide +kernel⟩, ⟨_, rfl, rfl⟩, gw_at 1397 (by decide +kernel) rfl, gw_at 92 (by decide +kernel) rfl⟩
theorem ml_X4_38 : MLk RX4 38 j_X1_init.1 := Or.inr ⟨_, nw_at (w := Cond.methodLinkNest RX4 38 yX1_init "RoofGale") 386 (by decide +kernel) rfl⟩
theorem ml_X4_39 : MLk RX4 39 j_X0_init.1 := Or.inr ⟨_, nw_at (w := Cond.methodLinkNest RX4 39 yX0_init "RoofGale") 450 (by decide +kernel) rfl⟩
theorem ml_X4_40 : MLk RX4 40 j_X8_init.1 := Or.inr ⟨_, nw_at (w := Cond.methodLinkNest RX4 40 yX8_init "RoofGale") 498 (by decide +kernel) rfl⟩
theorem ml_X4_53 : MLk RX4 53 j_X1_copyFrom.1 := Or.inr ⟨_, nw_at (w := Cond.methodLinkNest RX4 53 yX1_copyFrom "RoofGale") 1257 (by decide +kernel) rfl⟩
theorem ml_X4_63 : MLk RX4 63 j_X0_copyFrom.1 := Or.inr ⟨_, nw_at (w := Cond.methodLinkNest RX4 63 yX0_copyFrom "RoofGale") 1262 (by decide +kernel) rfl⟩
theorem ml_X4_66 : MLk RX4 66 j_X8_copyFrom.1 := Or.inr ⟨_, nw_at (w := Cond.methodLinkNest RX4 66 yX8_copyFrom "RoofGale") 1266 (by decide +kernel) rfl⟩
theorem ml_X4_75 : MLk RX4 75 j_X4_houseNamed.1 := Or.inl (gw_at 898 (by decide +kernel) rfl)
theorem ml_X4_79 : MLk RX4 79 j_X4_gangNamed.1 := Or.inl (gw_at 902 (by decide +kernel) rfl)
theorem ml_X4_86 : MLk RX4 86 j_X1_isOpen.1 := Or.inr ⟨_, nw_at (w := Cond.methodLinkNest RX4 86 yX1_isOpen "RoofGale") 1051 (by decide +kernel) rfl⟩
theorem ml_X4_90 : MLk RX4 90 j_X4_standingSet.1 := Or.inl (gw_at 1046 (by decide +kernel) rfl)
theorem ml_X4_94 : MLk RX4 94 j_X4_openSet.1 := Or.inl (gw_at 1047 (by decide +kernel) rfl)
theorem ml_X4_97 : MLk RX4 97 j_X1_leastStrength.1 := Or.inr ⟨_, nw_at (w := Cond.methodLinkNest RX4 97 yX1_leastStrength "RoofGale") 1198 (by decide +kernel) rfl⟩
theorem ml_X4_109 : MLk RX4 109 j_X4_chancesToFall.1 := Or.inl (gw_at 1248 (by decide +kernel) rfl)
theorem ml_X4_116 : MLk RX4 116 j_X4_canTake.1 := Or.inl (gw_at 1129 (by decide +kernel) rfl)
theorem ml_X4_120 : MLk RX4 120 j_X4_rankByLaw.1 := Or.inl (gw_at 1133 (by decide +kernel) rfl)
theorem ml_X4_124 : MLk RX4 124 j_X4_dueOf.1 := Or.inl (gw_at 1137 (by decide +kernel) rfl)
theorem ml_X4_136 : MLk RX4 136 j_X0_wayMinutes.1 := Or.inr ⟨_, nw_at (w := Cond.methodLinkNest RX4 136 yX0_wayMinutes "RoofGale") 1148 (by decide +kernel) rfl⟩
theorem ml_X4_143 : MLk RX4 143 j_X0_pieceMinutes.1 := Or.inr ⟨_, nw_at (w := Cond.methodLinkNest RX4 143 yX0_pieceMinutes "RoofGale") 1149 (by decide +kernel) rfl⟩
theorem ml_X4_149 : MLk RX4 149 j_X4_passMinute.1 := Or.inl (gw_at 1163 (by decide +kernel) rfl)
theorem ml_X4_152 : MLk RX4 152 j_X4_quietMinutes.1 := Or.inl (gw_at 1181 (by decide +kernel) rfl)
theorem ml_X4_155 : MLk RX4 155 j_X0_work.1 := Or.inr ⟨_, nw_at (w := Cond.methodLinkNest RX4 155 yX0_work "RoofGale") 1169 (by decide +kernel) rfl⟩
theorem ml_X4_159 : MLk RX4 159 j_X0_minutesLeft.1 := Or.inr ⟨_, nw_at (w := Cond.methodLinkNest RX4 159 yX0_minutesLeft "RoofGale") 1174 (by decide +kernel) rfl⟩
theorem ml_X4_168 : MLk RX4 168 j_X4_firstByLaw.1 := Or.inl (gw_at 1167 (by decide +kernel) rfl)
theorem ml_X4_171 : MLk RX4 171 j_X4_take.1 := Or.inl (gw_at 1168 (by decide +kernel) rfl)
theorem ml_X4_174 : MLk RX4 174 j_X4_pieceComesOff.1 := Or.inl (gw_at 1175 (by decide +kernel) rfl)
theorem ml_X4_183 : MLk RX4 183 j_X0_putDown.1 := Or.inr ⟨_, nw_at (w := Cond.methodLinkNest RX4 183 yX0_putDown "RoofGale") 1180 (by decide +kernel) rfl⟩
theorem ml_X4_186 : MLk RX4 186 j_X4_fallingSet.1 := Or.inl (gw_at 1194 (by decide +kernel) rfl)
theorem ml_X4_189 : MLk RX4 189 j_J6_bitCount_0f7a4.1 := Or.inl (gw_at 1199 (by decide +kernel) rfl)
def f_X4_canTake_44 (k16 : Mm → Option Nat → Int32 → Int32 → Int32 → Option (Int32 × Mm)) (M : Mm) (l0 : Option Nat) (l1 : Int32) (l2 : Int32) (l3 : Int32) : Option (Int32 × Mm) := k16 M l0 l1 l2 (l3 + 1)
def f_X4_canTake_16 : Nat → Mm → Option Nat → Int32 → Int32 → Int32 → Option (Int32 × Mm)
  | 0, _, _, _, _, _ => none
  | n + 1, M, l0, l1, l2, l3 => gfI M l0 4 4 fun v18 => if v18 ≤ l3 then (some (1, M)) else (if l3 = l1 then (f_X4_canTake_44 (f_X4_canTake_16 n) M l0 l1 l2 l3) else (gfR M l0 4 1 fun v30 => alR M v30 30 l3 fun v34 => gfI M v34 0 5 fun v35 => if v35 = l2 then (some (0, M)) else (f_X4_canTake_44 (f_X4_canTake_16 n) M l0 l1 l2 l3)))
def g_X4_canTake (M : Mm) (l0 : Option Nat) (l1 : Int32) (l2 : Int32) : Option (Int32 × Mm) := gfR M l0 4 0 fun v1 => alR M v1 31 l2 fun v5 => ck M v5 1 <| bd (f_X1_isOpen M v5) fun v6 M6 => if v6 = 0 then (some (0, M6)) else (f_X4_canTake_16  fu M6 l0 l1 l2 0)
def f_X4_canTake (M : Mm) (l0 : Option Nat) (l1 : Int32) (l2 : Int32) : Option (Int32 × Mm) := zc (g_X4_canTake M l0 l1 l2)
set_option maxHeartbeats 4000000 in
set_option maxRecDepth 100000 in
theorem t_X4_canTake_44 {G : GG} {X : CX} {ans : Int32 × Mm} (he : EndI G X j_X4_canTake b_X4_canTake ans) {k16 : Mm → Option Nat → Int32 → Int32 → Int32 → Option (Int32 × Mm)} (hk16 : ∀ (M : Mm) (a0 : Option Nat) (a1 : Int32) (a2 : Int32) (a3 : Int32), k16 M a0 a1 a2 a3 = some ans → Wt G X j_X4_canTake b_X4_canTake 16 [(0, rf G.1 a0), (1, .int a1), (2, .int a2), (3, .int a3)] [] M 0 0) {M : Mm} {l0 : Option Nat} {l1 : Int32} {l2 : Int32} {l3 : Int32} (h : f_X4_canTake_44 k16 M l0 l1 l2 l3 = some ans) : Wt G X j_X4_canTake b_X4_canTake 44 [(0, rf G.1 l0), (1, .int l1), (2, .int l2), (3, .int l3)] [] M 0 0 := by
  unfold f_X4_canTake_44 at h
  refine wt_iinc (pc := 44) (d := 1) (ls' := [(3, .int (l3 + 1)), (0, rf G.1 l0), (1, .int l1), (2, .int l2)]) 3 dX4_canTake_44 rfl (by decide) (by decide) rfl ?_
  refine wt_goto (pc := 47) (tgt := 16) dX4_canTake_47 (by decide) ?_
  refine wt_sub (ls' := [(0, rf G.1 l0), (1, .int l1), (2, .int l2), (3, .int (l3 + 1))]) [1, 2, 3, 0] rfl ?_
  exact hk16 _ _ _ _ _ h
set_option maxHeartbeats 4000000 in
set_option maxRecDepth 100000 in
theorem t_X4_canTake_16 {G : GG} {X : CX} {ans : Int32 × Mm} (he : EndI G X j_X4_canTake b_X4_canTake ans) : ∀ (n : Nat) {M : Mm} {l0 : Option Nat} {l1 : Int32} {l2 : Int32} {l3 : Int32}, f_X4_canTake_16 n M l0 l1 l2 l3 = some ans → Wt G X j_X4_canTake b_X4_canTake 16 [(0, rf G.1 l0), (1, .int l1), (2, .int l2), (3, .int l3)] [] M 0 0 := by
  intro n
  induction n with
  | zero =>
    intro M l0 l1 l2 l3 h
    rw [f_X4_canTake_16] at h
    cases h
  | succ n ih =>
    intro M l0 l1 l2 l3 h
    rw [f_X4_canTake_16] at h
    refine wt_iload_n (pc := 16) 3 dX4_canTake_16 rfl ?_
    refine wt_aload_n (pc := 17) 0 dX4_canTake_17 rfl ?_
    refine wt_getI (pc := 18) dX4_canTake_18 fl_X4_44 (fun _ _ _ => rfl) h (fun v18 h => ?_)
    refine wt_icmp_ge (pc := 21) (tgt := 50) dX4_canTake_21 (by decide) (fun q => ?_) (fun q => ?_)
    · have h := ite_t q h
      refine wt_iconst (pc := 50) (v := 1) dX4_canTake_50 (by decide) ?_
      cases h
      exact he 51 _ _ _ dX4_canTake_51 (by decide) (by decide)
    · have h := ite_f q h
      refine wt_iload_n (pc := 24) 3 dX4_canTake_24 rfl ?_
      refine wt_iload_n (pc := 25) 1 dX4_canTake_25 rfl ?_
      refine wt_icmp_eq (pc := 26) (tgt := 44) dX4_canTake_26 (by decide) (fun q => ?_) (fun q => ?_)
      · have h := ite_t q h
        exact t_X4_canTake_44 he (fun _ _ _ _ _ h => ih h) h
      · have h := ite_f q h
        refine wt_aload_n (pc := 29) 0 dX4_canTake_29 rfl ?_
        refine wt_getR (pc := 30) dX4_canTake_30 fl_X4_19 (fun _ _ _ => rfl) h (fun v30 h => ?_)
        refine wt_iload_n (pc := 33) 3 dX4_canTake_33 rfl ?_
        refine wt_aaload (pc := 34) (kd := 30) dX4_canTake_34 rfl rfl (by decide) h (fun v34 h => ?_)
        refine wt_getI (pc := 35) dX4_canTake_35 fl_X4_113 (fun _ _ _ => rfl) h (fun v35 h => ?_)
        refine wt_iload_n (pc := 38) 2 dX4_canTake_38 rfl ?_
        refine wt_icmp_ne (pc := 39) (tgt := 44) dX4_canTake_39 (by decide) (fun q => ?_) (fun q => ?_)
        · have h := ite_f q h
          exact t_X4_canTake_44 he (fun _ _ _ _ _ h => ih h) h
        · have h := ite_t q h
          refine wt_iconst (pc := 42) (v := 0) dX4_canTake_42 (by decide) ?_
          cases h
          exact he 43 _ _ _ dX4_canTake_43 (by decide) (by decide)
set_option maxHeartbeats 4000000 in
set_option maxRecDepth 100000 in
theorem t_X4_canTake_e {G : GG} {X : CX} {ans : Int32 × Mm} (he : EndI G X j_X4_canTake b_X4_canTake ans) {M : Mm} {l0 : Option Nat} {l1 : Int32} {l2 : Int32} (h : g_X4_canTake M l0 l1 l2 = some ans) : Wt G X j_X4_canTake b_X4_canTake 0 [(0, rf G.1 l0), (1, .int l1), (2, .int l2)] [] M 0 0 := by
  unfold g_X4_canTake at h
  refine wt_aload_n (pc := 0) 0 dX4_canTake_0 rfl ?_
  refine wt_getR (pc := 1) dX4_canTake_1 fl_X4_11 (fun _ _ _ => rfl) h (fun v1 h => ?_)
  refine wt_iload_n (pc := 4) 2 dX4_canTake_4 rfl ?_
  refine wt_aaload (pc := 5) (kd := 31) dX4_canTake_5 rfl rfl (by decide) h (fun v5 h => ?_)
  refine wt_cVI (pc := 6) (J' := j_X1_isOpen) (As := []) (st := []) (B' := b_X1_isOpen) (u' := 0) (w' := 0) dX4_canTake_6 ml_X4_86 mv_X1_isOpen (fun v9 M9 e9 => c_X1_isOpen e9) rfl (by decide) rfl rfl (by decide) (by decide) (by decide) rfl h (fun v6 M6 h => ?_)
  refine wt_if_ne (pc := 9) (tgt := 14) dX4_canTake_9 (by decide) (fun q => ?_) (fun q => ?_)
  · have h := ite_f q h
    refine wt_iconst (pc := 14) (v := 0) dX4_canTake_14 (by decide) ?_
    refine wt_istore_n (pc := 15) (i := 3) (ls' := [(3, .int 0), (0, rf G.1 l0), (1, .int l1), (2, .int l2)]) rfl dX4_canTake_15 (by decide) rfl ?_
    refine wt_sub (ls' := [(0, rf G.1 l0), (1, .int l1), (2, .int l2), (3, .int 0)]) [1, 2, 3, 0] rfl ?_
    exact t_X4_canTake_16 he  fu h
  · have h := ite_t q h
    refine wt_iconst (pc := 12) (v := 0) dX4_canTake_12 (by decide) ?_
    cases h
    exact he 13 _ _ _ dX4_canTake_13 (by decide) (by decide)
set_option maxHeartbeats 4000000 in
set_option maxRecDepth 100000 in
theorem c_X4_canTake {G : GG} {M : Mm} {l0 : Option Nat} {l1 : Int32} {l2 : Int32} {r : Int32 × Mm} (h : f_X4_canTake M l0 l1 l2 = some r) (l : Launch) : Ct l G j_X4_canTake b_X4_canTake [rf G.1 l0, .int l1, .int l2] M (some (.int r.1)) r.2 := cf_Z h (by decide +kernel) (by simp [lg_sl, rf_cat, cat_i, cat_l, j_X4_canTake]) rfl (by simp [lv_args, rf_cat, cat_i, cat_l]) (fun h X he => t_X4_canTake_e he h)
def f_X4_dueOf_4 : Nat → Mm → Option Nat → Int32 → Int32 → Int32 → Option (Int32 × Mm)
  | 0, _, _, _, _, _ => none
  | n + 1, M, l0, l1, l2, l3 => gfI M l0 4 3 fun v6 => if v6 ≤ l3 then (some (l2, M)) else (gfR M l0 4 6 fun v14 => alR M v14 50 l3 fun v18 => alI M v18 21 l1 fun v20 => gfR M l0 4 6 fun v22 => alR M v22 50 l1 fun v26 => alI M v26 21 l3 fun v28 => nmI (l2 + (v20 - v28)) fun x31 => f_X4_dueOf_4 n M l0 l1 x31 (l3 + 1))
def f_X4_dueOf (M : Mm) (l0 : Option Nat) (l1 : Int32) : Option (Int32 × Mm) := f_X4_dueOf_4  fu M l0 l1 0 0
set_option maxHeartbeats 4000000 in
set_option maxRecDepth 100000 in
theorem t_X4_dueOf_4 {G : GG} {X : CX} {ans : Int32 × Mm} (he : EndI G X j_X4_dueOf b_X4_dueOf ans) : ∀ (n : Nat) {M : Mm} {l0 : Option Nat} {l1 : Int32} {l2 : Int32} {l3 : Int32}, f_X4_dueOf_4 n M l0 l1 l2 l3 = some ans → Wt G X j_X4_dueOf b_X4_dueOf 4 [(0, rf G.1 l0), (1, .int l1), (2, .int l2), (3, .int l3)] [] M 0 0 := by
  intro n
  induction n with
  | zero =>
    intro M l0 l1 l2 l3 h
    rw [f_X4_dueOf_4] at h
    cases h
  | succ n ih =>
    intro M l0 l1 l2 l3 h
    rw [f_X4_dueOf_4] at h
    refine wt_iload_n (pc := 4) 3 dX4_dueOf_4 rfl ?_
    refine wt_aload_n (pc := 5) 0 dX4_dueOf_5 rfl ?_
    refine wt_getI (pc := 6) dX4_dueOf_6 fl_X4_41 (fun _ _ _ => rfl) h (fun v6 h => ?_)
    refine wt_icmp_ge (pc := 9) (tgt := 38) dX4_dueOf_9 (by decide) (fun q => ?_) (fun q => ?_)
    · have h := ite_t q h
      refine wt_iload_n (pc := 38) 2 dX4_dueOf_38 rfl ?_
      cases h
      exact he 39 _ _ _ dX4_dueOf_39 (by decide) (by decide)
    · have h := ite_f q h
      refine wt_iload_n (pc := 12) 2 dX4_dueOf_12 rfl ?_
      refine wt_aload_n (pc := 13) 0 dX4_dueOf_13 rfl ?_
      refine wt_getR (pc := 14) dX4_dueOf_14 fl_X4_31 (fun _ _ _ => rfl) h (fun v14 h => ?_)
      refine wt_iload_n (pc := 17) 3 dX4_dueOf_17 rfl ?_
      refine wt_aaload (pc := 18) (kd := 50) dX4_dueOf_18 rfl rfl (by decide) h (fun v18 h => ?_)
      refine wt_iload_n (pc := 19) 1 dX4_dueOf_19 rfl ?_
      refine wt_iaload (pc := 20) (kd := 21) dX4_dueOf_20 rfl rfl h (fun v20 h => ?_)
      refine wt_aload_n (pc := 21) 0 dX4_dueOf_21 rfl ?_
      refine wt_getR (pc := 22) dX4_dueOf_22 fl_X4_31 (fun _ _ _ => rfl) h (fun v22 h => ?_)
      refine wt_iload_n (pc := 25) 1 dX4_dueOf_25 rfl ?_
      refine wt_aaload (pc := 26) (kd := 50) dX4_dueOf_26 rfl rfl (by decide) h (fun v26 h => ?_)
      refine wt_iload_n (pc := 27) 3 dX4_dueOf_27 rfl ?_
      refine wt_iaload (pc := 28) (kd := 21) dX4_dueOf_28 rfl rfl h (fun v28 h => ?_)
      refine wt_isub (pc := 29) dX4_dueOf_29 ?_
      refine wt_iadd (pc := 30) dX4_dueOf_30 ?_
      refine wt_nmI h (fun x31 h => ?_)
      refine wt_istore_n (pc := 31) (i := 2) (ls' := [(2, .int x31), (0, rf G.1 l0), (1, .int l1), (3, .int l3)]) rfl dX4_dueOf_31 (by decide) rfl ?_
      refine wt_iinc (pc := 32) (d := 1) (ls' := [(3, .int (l3 + 1)), (2, .int x31), (0, rf G.1 l0), (1, .int l1)]) 3 dX4_dueOf_32 rfl (by decide) (by decide) rfl ?_
      refine wt_goto (pc := 35) (tgt := 4) dX4_dueOf_35 (by decide) ?_
      refine wt_sub (ls' := [(0, rf G.1 l0), (1, .int l1), (2, .int x31), (3, .int (l3 + 1))]) [2, 3, 1, 0] rfl ?_
      exact ih h
set_option maxHeartbeats 4000000 in
set_option maxRecDepth 100000 in
theorem t_X4_dueOf_e {G : GG} {X : CX} {ans : Int32 × Mm} (he : EndI G X j_X4_dueOf b_X4_dueOf ans) {M : Mm} {l0 : Option Nat} {l1 : Int32} (h : f_X4_dueOf M l0 l1 = some ans) : Wt G X j_X4_dueOf b_X4_dueOf 0 [(0, rf G.1 l0), (1, .int l1)] [] M 0 0 := by
  unfold f_X4_dueOf at h
  refine wt_iconst (pc := 0) (v := 0) dX4_dueOf_0 (by decide) ?_
  refine wt_istore_n (pc := 1) (i := 2) (ls' := [(2, .int 0), (0, rf G.1 l0), (1, .int l1)]) rfl dX4_dueOf_1 (by decide) rfl ?_
  refine wt_iconst (pc := 2) (v := 0) dX4_dueOf_2 (by decide) ?_
  refine wt_istore_n (pc := 3) (i := 3) (ls' := [(3, .int 0), (2, .int 0), (0, rf G.1 l0), (1, .int l1)]) rfl dX4_dueOf_3 (by decide) rfl ?_
  refine wt_sub (ls' := [(0, rf G.1 l0), (1, .int l1), (2, .int 0), (3, .int 0)]) [2, 3, 1, 0] rfl ?_
  exact t_X4_dueOf_4 he  fu h
set_option maxHeartbeats 4000000 in
set_option maxRecDepth 100000 in
theorem c_X4_dueOf {G : GG} {M : Mm} {l0 : Option Nat} {l1 : Int32} {r : Int32 × Mm} (h : f_X4_dueOf M l0 l1 = some r) (l : Launch) : Ct l G j_X4_dueOf b_X4_dueOf [rf G.1 l0, .int l1] M (some (.int r.1)) r.2 := cf_I (by decide +kernel) (by simp [lg_sl, rf_cat, cat_i, cat_l, j_X4_dueOf]) rfl (by simp [lv_args, rf_cat, cat_i, cat_l]) (fun X he => t_X4_dueOf_e he h)
def f_X4_rankByLaw (M : Mm) (l0 : Option Nat) (l1 : Int32) (l2 : Int32) : Option (Int32 × Mm) := gfI M l0 4 7 fun v1 => if v1 = 0 then (gfR M l0 4 0 fun v33 => alR M v33 31 l2 fun v37 => gfI M v37 1 2 fun v38 => some (v38, M)) else if v1 = 1 then (ck M l0 4 <| bd (f_X4_dueOf M l0 l2) fun v44 M44 => some (v44, M44)) else if v1 = 2 then (gfR M l0 4 1 fun v49 => alR M v49 30 l1 fun v53 => gfI M v53 0 4 fun v54 => gfR M l0 4 0 fun v58 => alR M v58 31 l2 fun v62 => gfI M v62 1 1 fun v63 => some ((-(abI (v54 - v63))), M)) else (some (0, M))
set_option maxHeartbeats 4000000 in
set_option maxRecDepth 100000 in
theorem t_X4_rankByLaw_e {G : GG} {X : CX} {ans : Int32 × Mm} (he : EndI G X j_X4_rankByLaw b_X4_rankByLaw ans) {M : Mm} {l0 : Option Nat} {l1 : Int32} {l2 : Int32} (h : f_X4_rankByLaw M l0 l1 l2 = some ans) : Wt G X j_X4_rankByLaw b_X4_rankByLaw 0 [(0, rf G.1 l0), (1, .int l1), (2, .int l2)] [] M 0 0 := by
  unfold f_X4_rankByLaw at h
  refine wt_aload_n (pc := 0) 0 dX4_rankByLaw_0 rfl ?_
  refine wt_getI (pc := 1) dX4_rankByLaw_1 fl_X4_34 (fun _ _ _ => rfl) h (fun v1 h => ?_)
  rcases Decidable.em (v1 = 0) with q4_0 | q4_0
  · have h := ite_t q4_0 h
    refine wt_tableIn (pc := 4) (off := 28) (tgt := 32) q4_0 dX4_rankByLaw_4 (by decide) (by decide) (by decide) (by decide) ?_
    refine wt_aload_n (pc := 32) 0 dX4_rankByLaw_32 rfl ?_
    refine wt_getR (pc := 33) dX4_rankByLaw_33 fl_X4_11 (fun _ _ _ => rfl) h (fun v33 h => ?_)
    refine wt_iload_n (pc := 36) 2 dX4_rankByLaw_36 rfl ?_
    refine wt_aaload (pc := 37) (kd := 31) dX4_rankByLaw_37 rfl rfl (by decide) h (fun v37 h => ?_)
    refine wt_getI (pc := 38) dX4_rankByLaw_38 fl_X4_100 (fun _ _ _ => rfl) h (fun v38 h => ?_)
    cases h
    exact he 41 _ _ _ dX4_rankByLaw_41 (by decide) (by decide)
  have h := ite_f q4_0 h
  rcases Decidable.em (v1 = 1) with q4_1 | q4_1
  · have h := ite_t q4_1 h
    refine wt_tableIn (pc := 4) (off := 38) (tgt := 42) q4_1 dX4_rankByLaw_4 (by decide) (by decide) (by decide) (by decide) ?_
    refine wt_aload_n (pc := 42) 0 dX4_rankByLaw_42 rfl ?_
    refine wt_iload_n (pc := 43) 2 dX4_rankByLaw_43 rfl ?_
    refine wt_cVI (pc := 44) (J' := j_X4_dueOf) (As := [.int l2]) (st := []) (B' := b_X4_dueOf) (u' := 0) (w' := 0) dX4_rankByLaw_44 ml_X4_124 mv_X4_dueOf (fun v9 M9 e9 => c_X4_dueOf e9) rfl (by decide) rfl rfl (by decide) (by decide) (by decide) rfl h (fun v44 M44 h => ?_)
    cases h
    exact he 47 _ _ _ dX4_rankByLaw_47 (by decide) (by decide)
  have h := ite_f q4_1 h
  rcases Decidable.em (v1 = 2) with q4_2 | q4_2
  · have h := ite_t q4_2 h
    refine wt_tableIn (pc := 4) (off := 44) (tgt := 48) q4_2 dX4_rankByLaw_4 (by decide) (by decide) (by decide) (by decide) ?_
    refine wt_aload_n (pc := 48) 0 dX4_rankByLaw_48 rfl ?_
    refine wt_getR (pc := 49) dX4_rankByLaw_49 fl_X4_19 (fun _ _ _ => rfl) h (fun v49 h => ?_)
    refine wt_iload_n (pc := 52) 1 dX4_rankByLaw_52 rfl ?_
    refine wt_aaload (pc := 53) (kd := 30) dX4_rankByLaw_53 rfl rfl (by decide) h (fun v53 h => ?_)
    refine wt_getI (pc := 54) dX4_rankByLaw_54 fl_X4_127 (fun _ _ _ => rfl) h (fun v54 h => ?_)
    refine wt_aload_n (pc := 57) 0 dX4_rankByLaw_57 rfl ?_
    refine wt_getR (pc := 58) dX4_rankByLaw_58 fl_X4_11 (fun _ _ _ => rfl) h (fun v58 h => ?_)
    refine wt_iload_n (pc := 61) 2 dX4_rankByLaw_61 rfl ?_
    refine wt_aaload (pc := 62) (kd := 31) dX4_rankByLaw_62 rfl rfl (by decide) h (fun v62 h => ?_)
    refine wt_getI (pc := 63) dX4_rankByLaw_63 fl_X4_130 (fun _ _ _ => rfl) h (fun v63 h => ?_)
    refine wt_isub (pc := 66) dX4_rankByLaw_66 ?_
    refine wt_mabs (pc := 67) dX4_rankByLaw_67 bi_X4_131 mw_abs.1 mw_abs.2.1 mw_abs.2.2 (by decide) (by decide) (by decide) (by decide) ?_
    refine wt_ineg (pc := 70) dX4_rankByLaw_70 ?_
    cases h
    exact he 71 _ _ _ dX4_rankByLaw_71 (by decide) (by decide)
  have h := ite_f q4_2 h
  refine wt_tableOut (pc := 4) (tgt := 72) dX4_rankByLaw_4 (by have h9 := ts_out (x := v1) 0 3 (fun i hi => by match i, hi with | 0, _ => exact ts_ne (by decide) q4_0 | 1, _ => exact ts_ne (by decide) q4_1 | 2, _ => exact ts_ne (by decide) q4_2 | i + 3, hi => omega); omega) (by decide) ?_
  refine wt_iconst (pc := 72) (v := 0) dX4_rankByLaw_72 (by decide) ?_
  cases h
  exact he 73 _ _ _ dX4_rankByLaw_73 (by decide) (by decide)
set_option maxHeartbeats 4000000 in
set_option maxRecDepth 100000 in
theorem c_X4_rankByLaw {G : GG} {M : Mm} {l0 : Option Nat} {l1 : Int32} {l2 : Int32} {r : Int32 × Mm} (h : f_X4_rankByLaw M l0 l1 l2 = some r) (l : Launch) : Ct l G j_X4_rankByLaw b_X4_rankByLaw [rf G.1 l0, .int l1, .int l2] M (some (.int r.1)) r.2 := cf_I (by decide +kernel) (by simp [lg_sl, rf_cat, cat_i, cat_l, j_X4_rankByLaw]) rfl (by simp [lv_args, rf_cat, cat_i, cat_l]) (fun X he => t_X4_rankByLaw_e he h)
def f_X4_firstByLaw_52 (k7 : Mm → Option Nat → Int32 → Int32 → Int32 → Int32 → Option (Int32 × Mm)) (M : Mm) (l0 : Option Nat) (l1 : Int32) (l2 : Int32) (l3 : Int32) (l4 : Int32) : Option (Int32 × Mm) := k7 M l0 l1 l2 l3 (l4 + 1)
def f_X4_firstByLaw_46 (k7 : Mm → Option Nat → Int32 → Int32 → Int32 → Int32 → Option (Int32 × Mm)) (M : Mm) (l0 : Option Nat) (l1 : Int32) (l4 : Int32) (l5 : Int32) : Option (Int32 × Mm) := f_X4_firstByLaw_52 k7 M l0 l1 l4 l5 l4
def f_X4_firstByLaw_7 : Nat → Mm → Option Nat → Int32 → Int32 → Int32 → Int32 → Option (Int32 × Mm)
  | 0, _, _, _, _, _, _ => none
  | n + 1, M, l0, l1, l2, l3, l4 => gfI M l0 4 3 fun v10 => if v10 ≤ l4 then (some (l2, M)) else (ck M l0 4 <| bd (f_X4_canTake M l0 l1 l4) fun v20 M20 => if v20 = 0 then (f_X4_firstByLaw_52 (f_X4_firstByLaw_7 n) M20 l0 l1 l2 l3 l4) else (ck M20 l0 4 <| bd (f_X4_rankByLaw M20 l0 l1 l4) fun v30 M30 => if l2 = (-1) then (f_X4_firstByLaw_46 (f_X4_firstByLaw_7 n) M30 l0 l1 l4 v30) else (if v30 ≤ l3 then (f_X4_firstByLaw_52 (f_X4_firstByLaw_7 n) M30 l0 l1 l2 l3 l4) else (f_X4_firstByLaw_46 (f_X4_firstByLaw_7 n) M30 l0 l1 l4 v30))))
def f_X4_firstByLaw (M : Mm) (l0 : Option Nat) (l1 : Int32) : Option (Int32 × Mm) := f_X4_firstByLaw_7  fu M l0 l1 (-1) 0 0
set_option maxHeartbeats 4000000 in
set_option maxRecDepth 100000 in
theorem t_X4_firstByLaw_52 {G : GG} {X : CX} {ans : Int32 × Mm} (he : EndI G X j_X4_firstByLaw b_X4_firstByLaw ans) {k7 : Mm → Option Nat → Int32 → Int32 → Int32 → Int32 → Option (Int32 × Mm)} (hk7 : ∀ (M : Mm) (a0 : Option Nat) (a1 : Int32) (a2 : Int32) (a3 : Int32) (a4 : Int32), k7 M a0 a1 a2 a3 a4 = some ans → Wt G X j_X4_firstByLaw b_X4_firstByLaw 7 [(0, rf G.1 a0), (1, .int a1), (2, .int a2), (3, .int a3), (4, .int a4)] [] M 0 0) {M : Mm} {l0 : Option Nat} {l1 : Int32} {l2 : Int32} {l3 : Int32} {l4 : Int32} (h : f_X4_firstByLaw_52 k7 M l0 l1 l2 l3 l4 = some ans) : Wt G X j_X4_firstByLaw b_X4_firstByLaw 52 [(0, rf G.1 l0), (1, .int l1), (2, .int l2), (3, .int l3), (4, .int l4)] [] M 0 0 := by
  unfold f_X4_firstByLaw_52 at h
  refine wt_iinc (pc := 52) (d := 1) (ls' := [(4, .int (l4 + 1)), (0, rf G.1 l0), (1, .int l1), (2, .int l2), (3, .int l3)]) 4 dX4_firstByLaw_52 rfl (by decide) (by decide) rfl ?_
  refine wt_goto (pc := 55) (tgt := 7) dX4_firstByLaw_55 (by decide) ?_
  refine wt_sub (ls' := [(0, rf G.1 l0), (1, .int l1), (2, .int l2), (3, .int l3), (4, .int (l4 + 1))]) [1, 2, 3, 4, 0] rfl ?_
  exact hk7 _ _ _ _ _ _ h
set_option maxHeartbeats 4000000 in
set_option maxRecDepth 100000 in
theorem t_X4_firstByLaw_46 {G : GG} {X : CX} {ans : Int32 × Mm} (he : EndI G X j_X4_firstByLaw b_X4_firstByLaw ans) {k7 : Mm → Option Nat → Int32 → Int32 → Int32 → Int32 → Option (Int32 × Mm)} (hk7 : ∀ (M : Mm) (a0 : Option Nat) (a1 : Int32) (a2 : Int32) (a3 : Int32) (a4 : Int32), k7 M a0 a1 a2 a3 a4 = some ans → Wt G X j_X4_firstByLaw b_X4_firstByLaw 7 [(0, rf G.1 a0), (1, .int a1), (2, .int a2), (3, .int a3), (4, .int a4)] [] M 0 0) {M : Mm} {l0 : Option Nat} {l1 : Int32} {l4 : Int32} {l5 : Int32} (h : f_X4_firstByLaw_46 k7 M l0 l1 l4 l5 = some ans) : Wt G X j_X4_firstByLaw b_X4_firstByLaw 46 [(0, rf G.1 l0), (1, .int l1), (4, .int l4), (5, .int l5)] [] M 0 0 := by
  unfold f_X4_firstByLaw_46 at h
  refine wt_iload (pc := 46) 3 dX4_firstByLaw_46 rfl ?_
  refine wt_istore_n (pc := 48) (i := 3) (ls' := [(3, .int l5), (0, rf G.1 l0), (1, .int l1), (4, .int l4), (5, .int l5)]) rfl dX4_firstByLaw_48 (by decide) rfl ?_
  refine wt_iload (pc := 49) 3 dX4_firstByLaw_49 rfl ?_
  refine wt_istore_n (pc := 51) (i := 2) (ls' := [(2, .int l4), (3, .int l5), (0, rf G.1 l0), (1, .int l1), (4, .int l4), (5, .int l5)]) rfl dX4_firstByLaw_51 (by decide) rfl ?_
  refine wt_sub (ls' := [(0, rf G.1 l0), (1, .int l1), (2, .int l4), (3, .int l5), (4, .int l4)]) [2, 3, 0, 1, 4] rfl ?_
  exact t_X4_firstByLaw_52 he (fun _ _ _ _ _ _ h => hk7 _ _ _ _ _ _ h) h
set_option maxHeartbeats 4000000 in
set_option maxRecDepth 100000 in
theorem t_X4_firstByLaw_7 {G : GG} {X : CX} {ans : Int32 × Mm} (he : EndI G X j_X4_firstByLaw b_X4_firstByLaw ans) : ∀ (n : Nat) {M : Mm} {l0 : Option Nat} {l1 : Int32} {l2 : Int32} {l3 : Int32} {l4 : Int32}, f_X4_firstByLaw_7 n M l0 l1 l2 l3 l4 = some ans → Wt G X j_X4_firstByLaw b_X4_firstByLaw 7 [(0, rf G.1 l0), (1, .int l1), (2, .int l2), (3, .int l3), (4, .int l4)] [] M 0 0 := by
  intro n
  induction n with
  | zero =>
    intro M l0 l1 l2 l3 l4 h
    rw [f_X4_firstByLaw_7] at h
    cases h
  | succ n ih =>
    intro M l0 l1 l2 l3 l4 h
    rw [f_X4_firstByLaw_7] at h
    refine wt_iload (pc := 7) 4 dX4_firstByLaw_7 rfl ?_
    refine wt_aload_n (pc := 9) 0 dX4_firstByLaw_9 rfl ?_
    refine wt_getI (pc := 10) dX4_firstByLaw_10 fl_X4_41 (fun _ _ _ => rfl) h (fun v10 h => ?_)
    refine wt_icmp_ge (pc := 13) (tgt := 58) dX4_firstByLaw_13 (by decide) (fun q => ?_) (fun q => ?_)
    · have h := ite_t q h
      refine wt_iload_n (pc := 58) 2 dX4_firstByLaw_58 rfl ?_
      cases h
      exact he 59 _ _ _ dX4_firstByLaw_59 (by decide) (by decide)
    · have h := ite_f q h
      refine wt_aload_n (pc := 16) 0 dX4_firstByLaw_16 rfl ?_
      refine wt_iload_n (pc := 17) 1 dX4_firstByLaw_17 rfl ?_
      refine wt_iload (pc := 18) 4 dX4_firstByLaw_18 rfl ?_
      refine wt_cVI (pc := 20) (J' := j_X4_canTake) (As := [.int l1, .int l4]) (st := []) (B' := b_X4_canTake) (u' := 0) (w' := 0) dX4_firstByLaw_20 ml_X4_116 mv_X4_canTake (fun v9 M9 e9 => c_X4_canTake e9) rfl (by decide) rfl rfl (by decide) (by decide) (by decide) rfl h (fun v20 M20 h => ?_)
      refine wt_if_eq (pc := 23) (tgt := 52) dX4_firstByLaw_23 (by decide) (fun q => ?_) (fun q => ?_)
      · have h := ite_t q h
        exact t_X4_firstByLaw_52 he (fun _ _ _ _ _ _ h => ih h) h
      · have h := ite_f q h
        refine wt_aload_n (pc := 26) 0 dX4_firstByLaw_26 rfl ?_
        refine wt_iload_n (pc := 27) 1 dX4_firstByLaw_27 rfl ?_
        refine wt_iload (pc := 28) 4 dX4_firstByLaw_28 rfl ?_
        refine wt_cVI (pc := 30) (J' := j_X4_rankByLaw) (As := [.int l1, .int l4]) (st := []) (B' := b_X4_rankByLaw) (u' := 0) (w' := 0) dX4_firstByLaw_30 ml_X4_120 mv_X4_rankByLaw (fun v9 M9 e9 => c_X4_rankByLaw e9) rfl (by decide) rfl rfl (by decide) (by decide) (by decide) rfl h (fun v30 M30 h => ?_)
        refine wt_istore (pc := 33) (i := 5) (ls' := [(5, .int v30), (0, rf G.1 l0), (1, .int l1), (2, .int l2), (3, .int l3), (4, .int l4)]) dX4_firstByLaw_33 (by decide) rfl ?_
        refine wt_iload_n (pc := 35) 3 dX4_firstByLaw_35 rfl ?_
        refine wt_iconst (pc := 36) (v := (-1)) dX4_firstByLaw_36 (by decide) ?_
        refine wt_icmp_eq (pc := 37) (tgt := 46) dX4_firstByLaw_37 (by decide) (fun q => ?_) (fun q => ?_)
        · have h := ite_t q h
          refine wt_sub (ls' := [(0, rf G.1 l0), (1, .int l1), (4, .int l4), (5, .int v30)]) [1, 2, 5, 0] rfl ?_
          exact t_X4_firstByLaw_46 he (fun _ _ _ _ _ _ h => ih h) h
        · have h := ite_f q h
          refine wt_iload (pc := 40) 0 dX4_firstByLaw_40 rfl ?_
          refine wt_iload_n (pc := 42) 4 dX4_firstByLaw_42 rfl ?_
          refine wt_icmp_le (pc := 43) (tgt := 52) dX4_firstByLaw_43 (by decide) (fun q => ?_) (fun q => ?_)
          · have h := ite_t q h
            refine wt_sub (ls' := [(0, rf G.1 l0), (1, .int l1), (2, .int l2), (3, .int l3), (4, .int l4)]) [1, 2, 3, 4, 5] rfl ?_
            exact t_X4_firstByLaw_52 he (fun _ _ _ _ _ _ h => ih h) h
          · have h := ite_f q h
            refine wt_sub (ls' := [(0, rf G.1 l0), (1, .int l1), (4, .int l4), (5, .int v30)]) [1, 2, 5, 0] rfl ?_
            exact t_X4_firstByLaw_46 he (fun _ _ _ _ _ _ h => ih h) h
set_option maxHeartbeats 4000000 in
set_option maxRecDepth 100000 in
theorem t_X4_firstByLaw_e {G : GG} {X : CX} {ans : Int32 × Mm} (he : EndI G X j_X4_firstByLaw b_X4_firstByLaw ans) {M : Mm} {l0 : Option Nat} {l1 : Int32} (h : f_X4_firstByLaw M l0 l1 = some ans) : Wt G X j_X4_firstByLaw b_X4_firstByLaw 0 [(0, rf G.1 l0), (1, .int l1)] [] M 0 0 := by
  unfold f_X4_firstByLaw at h
  refine wt_iconst (pc := 0) (v := (-1)) dX4_firstByLaw_0 (by decide) ?_
  refine wt_istore_n (pc := 1) (i := 2) (ls' := [(2, .int (-1)), (0, rf G.1 l0), (1, .int l1)]) rfl dX4_firstByLaw_1 (by decide) rfl ?_
  refine wt_iconst (pc := 2) (v := 0) dX4_firstByLaw_2 (by decide) ?_
  refine wt_istore_n (pc := 3) (i := 3) (ls' := [(3, .int 0), (2, .int (-1)), (0, rf G.1 l0), (1, .int l1)]) rfl dX4_firstByLaw_3 (by decide) rfl ?_
  refine wt_iconst (pc := 4) (v := 0) dX4_firstByLaw_4 (by decide) ?_
  refine wt_istore (pc := 5) (i := 4) (ls' := [(4, .int 0), (3, .int 0), (2, .int (-1)), (0, rf G.1 l0), (1, .int l1)]) dX4_firstByLaw_5 (by decide) rfl ?_
  refine wt_sub (ls' := [(0, rf G.1 l0), (1, .int l1), (2, .int (-1)), (3, .int 0), (4, .int 0)]) [3, 4, 2, 1, 0] rfl ?_
  exact t_X4_firstByLaw_7 he  fu h
set_option maxHeartbeats 4000000 in
set_option maxRecDepth 100000 in
theorem c_X4_firstByLaw {G : GG} {M : Mm} {l0 : Option Nat} {l1 : Int32} {r : Int32 × Mm} (h : f_X4_firstByLaw M l0 l1 = some r) (l : Launch) : Ct l G j_X4_firstByLaw b_X4_firstByLaw [rf G.1 l0, .int l1] M (some (.int r.1)) r.2 := cf_I (by decide +kernel) (by simp [lg_sl, rf_cat, cat_i, cat_l, j_X4_firstByLaw]) rfl (by simp [lv_args, rf_cat, cat_i, cat_l]) (fun X he => t_X4_firstByLaw_e he h)
def f_X4_take (M : Mm) (l0 : Option Nat) (l1 : Int32) (l2 : Int32) : Option (Int32 × Mm) := gfR M l0 4 1 fun v1 => alR M v1 30 l1 fun v5 => gfR M l0 4 0 fun v10 => alR M v10 31 l2 fun v14 => ck M v5 0 <| bd (f_X0_wayMinutes M v5 v14) fun v15 M15 => pfI M15 v5 0 6 v15 fun M18 => gfR M18 l0 4 0 fun v24 => alR M18 v24 31 l2 fun v28 => ck M18 v5 0 <| bd (f_X0_pieceMinutes M18 v5 v28) fun v29 M29 => pfI M29 v5 0 7 v29 fun M32 => pfI M32 v5 0 5 l2 fun M37 => gfR M37 l0 4 0 fun v42 => alR M37 v42 31 l2 fun v46 => gfI M37 v46 1 1 fun v47 => pfI M37 v5 0 4 v47 fun M50 => gfI M50 v5 0 6 fun v54 => some (v54, M50)
set_option maxHeartbeats 4000000 in
set_option maxRecDepth 100000 in
theorem t_X4_take_e {G : GG} {X : CX} {ans : Int32 × Mm} (he : EndI G X j_X4_take b_X4_take ans) {M : Mm} {l0 : Option Nat} {l1 : Int32} {l2 : Int32} (h : f_X4_take M l0 l1 l2 = some ans) : Wt G X j_X4_take b_X4_take 0 [(0, rf G.1 l0), (1, .int l1), (2, .int l2)] [] M 0 0 := by
  unfold f_X4_take at h
  refine wt_aload_n (pc := 0) 0 dX4_take_0 rfl ?_
  refine wt_getR (pc := 1) dX4_take_1 fl_X4_19 (fun _ _ _ => rfl) h (fun v1 h => ?_)
  refine wt_iload_n (pc := 4) 1 dX4_take_4 rfl ?_
  refine wt_aaload (pc := 5) (kd := 30) dX4_take_5 rfl rfl (by decide) h (fun v5 h => ?_)
  refine wt_astore_n (pc := 6) (i := 3) (ls' := [(3, rf G.1 v5), (0, rf G.1 l0), (1, .int l1), (2, .int l2)]) rfl dX4_take_6 (by decide) rfl ?_
  refine wt_aload_n (pc := 7) 0 dX4_take_7 rfl ?_
  refine wt_aload_n (pc := 8) 0 dX4_take_8 rfl ?_
  refine wt_aload_n (pc := 9) 1 dX4_take_9 rfl ?_
  refine wt_getR (pc := 10) dX4_take_10 fl_X4_11 (fun _ _ _ => rfl) h (fun v10 h => ?_)
  refine wt_iload_n (pc := 13) 3 dX4_take_13 rfl ?_
  refine wt_aaload (pc := 14) (kd := 31) dX4_take_14 rfl rfl (by decide) h (fun v14 h => ?_)
  refine wt_cVI (pc := 15) (J' := j_X0_wayMinutes) (As := [rf G.1 v14]) (st := [rf G.1 v5]) (B' := b_X0_wayMinutes) (u' := 0) (w' := 0) dX4_take_15 ml_X4_136 mv_X0_wayMinutes (fun v9 M9 e9 => c_X0_wayMinutes e9) rfl (by decide) rfl rfl (by decide) (by decide) (by simp [rf_cat, cat_i, cat_l, cat_r]) rfl h (fun v15 M15 h => ?_)
  refine wt_putI (pc := 18) dX4_take_18 fl_X4_140 rfl rfl h (fun M18 h => ?_)
  refine wt_aload_n (pc := 21) 0 dX4_take_21 rfl ?_
  refine wt_aload_n (pc := 22) 0 dX4_take_22 rfl ?_
  refine wt_aload_n (pc := 23) 1 dX4_take_23 rfl ?_
  refine wt_getR (pc := 24) dX4_take_24 fl_X4_11 (fun _ _ _ => rfl) h (fun v24 h => ?_)
  refine wt_iload_n (pc := 27) 3 dX4_take_27 rfl ?_
  refine wt_aaload (pc := 28) (kd := 31) dX4_take_28 rfl rfl (by decide) h (fun v28 h => ?_)
  refine wt_cVI (pc := 29) (J' := j_X0_pieceMinutes) (As := [rf G.1 v28]) (st := [rf G.1 v5]) (B' := b_X0_pieceMinutes) (u' := 0) (w' := 0) dX4_take_29 ml_X4_143 mv_X0_pieceMinutes (fun v9 M9 e9 => c_X0_pieceMinutes e9) rfl (by decide) rfl rfl (by decide) (by decide) (by simp [rf_cat, cat_i, cat_l, cat_r]) rfl h (fun v29 M29 h => ?_)
  refine wt_putI (pc := 32) dX4_take_32 fl_X4_146 rfl rfl h (fun M32 h => ?_)
  refine wt_aload_n (pc := 35) 0 dX4_take_35 rfl ?_
  refine wt_iload_n (pc := 36) 3 dX4_take_36 rfl ?_
  refine wt_putI (pc := 37) dX4_take_37 fl_X4_113 rfl rfl h (fun M37 h => ?_)
  refine wt_aload_n (pc := 40) 0 dX4_take_40 rfl ?_
  refine wt_aload_n (pc := 41) 1 dX4_take_41 rfl ?_
  refine wt_getR (pc := 42) dX4_take_42 fl_X4_11 (fun _ _ _ => rfl) h (fun v42 h => ?_)
  refine wt_iload_n (pc := 45) 3 dX4_take_45 rfl ?_
  refine wt_aaload (pc := 46) (kd := 31) dX4_take_46 rfl rfl (by decide) h (fun v46 h => ?_)
  refine wt_getI (pc := 47) dX4_take_47 fl_X4_130 (fun _ _ _ => rfl) h (fun v47 h => ?_)
  refine wt_putI (pc := 50) dX4_take_50 fl_X4_127 rfl rfl h (fun M50 h => ?_)
  refine wt_aload_n (pc := 53) 0 dX4_take_53 rfl ?_
  refine wt_getI (pc := 54) dX4_take_54 fl_X4_140 (fun _ _ _ => rfl) h (fun v54 h => ?_)
  cases h
  exact he 57 _ _ _ dX4_take_57 (by decide) (by decide)
set_option maxHeartbeats 4000000 in
set_option maxRecDepth 100000 in
theorem c_X4_take {G : GG} {M : Mm} {l0 : Option Nat} {l1 : Int32} {l2 : Int32} {r : Int32 × Mm} (h : f_X4_take M l0 l1 l2 = some r) (l : Launch) : Ct l G j_X4_take b_X4_take [rf G.1 l0, .int l1, .int l2] M (some (.int r.1)) r.2 := cf_I (by decide +kernel) (by simp [lg_sl, rf_cat, cat_i, cat_l, j_X4_take]) rfl (by simp [lv_args, rf_cat, cat_i, cat_l]) (fun X he => t_X4_take_e he h)
def f_X4_pieceComesOff_88 (M : Mm) (l3 : Option Nat) : Option (Int32 × Mm) := ck M l3 0 <| bv (f_X0_putDown M l3) fun M89 => some (1, M89)
def f_X4_pieceComesOff (M : Mm) (l0 : Option Nat) (l1 : Int32) (l2 : Int32) : Option (Int32 × Mm) := gfR M l0 4 1 fun v1 => alR M v1 30 l1 fun v5 => gfR M l0 4 0 fun v8 => alR M v8 31 l2 fun v12 => gfI M v12 1 7 fun v14 => pfI M v12 1 7 (v14 - 1) fun M19 => gfR M19 l0 4 0 fun v23 => alR M19 v23 31 l2 fun v27 => gfI M19 v27 1 7 fun v28 => if v28 ≤ 0 then (gfI M19 v5 0 1 fun v51 => if v51 = l2 then (f_X4_pieceComesOff_88  M19 v5) else (gfR M19 l0 4 6 fun v59 => alR M19 v59 50 l2 fun v63 => gfI M19 v5 0 1 fun v65 => gfR M19 l0 4 6 fun v72 => alR M19 v72 50 l2 fun v76 => gfI M19 v5 0 1 fun v78 => alI M19 v76 21 v78 fun v81 => asI M19 v63 21 v65 (mnI 9999 (v81 + 1)) fun M87 => f_X4_pieceComesOff_88  M87 v5)) else (gfR M19 l0 4 0 fun v37 => alR M19 v37 31 l2 fun v41 => ck M19 v5 0 <| bd (f_X0_pieceMinutes M19 v5 v41) fun v42 M42 => pfI M42 v5 0 7 v42 fun M45 => some (0, M45))
set_option maxHeartbeats 4000000 in
set_option maxRecDepth 100000 in
theorem t_X4_pieceComesOff_88 {G : GG} {X : CX} {ans : Int32 × Mm} (he : EndI G X j_X4_pieceComesOff b_X4_pieceComesOff ans) {M : Mm} {l3 : Option Nat} (h : f_X4_pieceComesOff_88 M l3 = some ans) : Wt G X j_X4_pieceComesOff b_X4_pieceComesOff 88 [(3, rf G.1 l3)] [] M 0 0 := by
  unfold f_X4_pieceComesOff_88 at h
  refine wt_aload_n (pc := 88) 0 dX4_pieceComesOff_88 rfl ?_
  refine wt_cVV (pc := 89) (J' := j_X0_putDown) (As := []) (st := []) (B' := b_X0_putDown) (u' := 0) (w' := 0) dX4_pieceComesOff_89 ml_X4_183 mv_X0_putDown (fun M9 e9 => c_X0_putDown e9) rfl (by decide) rfl rfl (by decide) (by decide) (by decide) rfl h (fun M89 h => ?_)
  refine wt_iconst (pc := 92) (v := 1) dX4_pieceComesOff_92 (by decide) ?_
  cases h
  exact he 93 _ _ _ dX4_pieceComesOff_93 (by decide) (by decide)
set_option maxHeartbeats 4000000 in
set_option maxRecDepth 100000 in
theorem t_X4_pieceComesOff_e {G : GG} {X : CX} {ans : Int32 × Mm} (he : EndI G X j_X4_pieceComesOff b_X4_pieceComesOff ans) {M : Mm} {l0 : Option Nat} {l1 : Int32} {l2 : Int32} (h : f_X4_pieceComesOff M l0 l1 l2 = some ans) : Wt G X j_X4_pieceComesOff b_X4_pieceComesOff 0 [(0, rf G.1 l0), (1, .int l1), (2, .int l2)] [] M 0 0 := by
  unfold f_X4_pieceComesOff at h
  refine wt_aload_n (pc := 0) 0 dX4_pieceComesOff_0 rfl ?_
  refine wt_getR (pc := 1) dX4_pieceComesOff_1 fl_X4_19 (fun _ _ _ => rfl) h (fun v1 h => ?_)
  refine wt_iload_n (pc := 4) 1 dX4_pieceComesOff_4 rfl ?_
  refine wt_aaload (pc := 5) (kd := 30) dX4_pieceComesOff_5 rfl rfl (by decide) h (fun v5 h => ?_)
  refine wt_astore_n (pc := 6) (i := 3) (ls' := [(3, rf G.1 v5), (0, rf G.1 l0), (1, .int l1), (2, .int l2)]) rfl dX4_pieceComesOff_6 (by decide) rfl ?_
  refine wt_aload_n (pc := 7) 1 dX4_pieceComesOff_7 rfl ?_
  refine wt_getR (pc := 8) dX4_pieceComesOff_8 fl_X4_11 (fun _ _ _ => rfl) h (fun v8 h => ?_)
  refine wt_iload_n (pc := 11) 3 dX4_pieceComesOff_11 rfl ?_
  refine wt_aaload (pc := 12) (kd := 31) dX4_pieceComesOff_12 rfl rfl (by decide) h (fun v12 h => ?_)
  refine wt_dup (pc := 13) dX4_pieceComesOff_13 (rf_cat _ _) ?_
  refine wt_getI (pc := 14) dX4_pieceComesOff_14 fl_X4_177 (fun _ _ _ => rfl) h (fun v14 h => ?_)
  refine wt_iconst (pc := 17) (v := 1) dX4_pieceComesOff_17 (by decide) ?_
  refine wt_isub (pc := 18) dX4_pieceComesOff_18 ?_
  refine wt_putI (pc := 19) dX4_pieceComesOff_19 fl_X4_177 rfl rfl h (fun M19 h => ?_)
  refine wt_aload_n (pc := 22) 1 dX4_pieceComesOff_22 rfl ?_
  refine wt_getR (pc := 23) dX4_pieceComesOff_23 fl_X4_11 (fun _ _ _ => rfl) h (fun v23 h => ?_)
  refine wt_iload_n (pc := 26) 3 dX4_pieceComesOff_26 rfl ?_
  refine wt_aaload (pc := 27) (kd := 31) dX4_pieceComesOff_27 rfl rfl (by decide) h (fun v27 h => ?_)
  refine wt_getI (pc := 28) dX4_pieceComesOff_28 fl_X4_177 (fun _ _ _ => rfl) h (fun v28 h => ?_)
  refine wt_if_le (pc := 31) (tgt := 50) dX4_pieceComesOff_31 (by decide) (fun q => ?_) (fun q => ?_)
  · have h := ite_t q h
    refine wt_aload_n (pc := 50) 0 dX4_pieceComesOff_50 rfl ?_
    refine wt_getI (pc := 51) dX4_pieceComesOff_51 fl_X4_180 (fun _ _ _ => rfl) h (fun v51 h => ?_)
    refine wt_iload_n (pc := 54) 3 dX4_pieceComesOff_54 rfl ?_
    refine wt_icmp_eq (pc := 55) (tgt := 88) dX4_pieceComesOff_55 (by decide) (fun q => ?_) (fun q => ?_)
    · have h := ite_t q h
      refine wt_sub (ls' := [(3, rf G.1 v5)]) [0] rfl ?_
      exact t_X4_pieceComesOff_88 he  h
    · have h := ite_f q h
      refine wt_aload_n (pc := 58) 1 dX4_pieceComesOff_58 rfl ?_
      refine wt_getR (pc := 59) dX4_pieceComesOff_59 fl_X4_31 (fun _ _ _ => rfl) h (fun v59 h => ?_)
      refine wt_iload_n (pc := 62) 3 dX4_pieceComesOff_62 rfl ?_
      refine wt_aaload (pc := 63) (kd := 50) dX4_pieceComesOff_63 rfl rfl (by decide) h (fun v63 h => ?_)
      refine wt_aload_n (pc := 64) 0 dX4_pieceComesOff_64 rfl ?_
      refine wt_getI (pc := 65) dX4_pieceComesOff_65 fl_X4_180 (fun _ _ _ => rfl) h (fun v65 h => ?_)
      refine wt_sipush (pc := 68) (v := 9999) dX4_pieceComesOff_68 (by decide) ?_
      refine wt_aload_n (pc := 71) 1 dX4_pieceComesOff_71 rfl ?_
      refine wt_getR (pc := 72) dX4_pieceComesOff_72 fl_X4_31 (fun _ _ _ => rfl) h (fun v72 h => ?_)
      refine wt_iload_n (pc := 75) 3 dX4_pieceComesOff_75 rfl ?_
      refine wt_aaload (pc := 76) (kd := 50) dX4_pieceComesOff_76 rfl rfl (by decide) h (fun v76 h => ?_)
      refine wt_aload_n (pc := 77) 0 dX4_pieceComesOff_77 rfl ?_
      refine wt_getI (pc := 78) dX4_pieceComesOff_78 fl_X4_180 (fun _ _ _ => rfl) h (fun v78 h => ?_)
      refine wt_iaload (pc := 81) (kd := 21) dX4_pieceComesOff_81 rfl rfl h (fun v81 h => ?_)
      refine wt_iconst (pc := 82) (v := 1) dX4_pieceComesOff_82 (by decide) ?_
      refine wt_iadd (pc := 83) dX4_pieceComesOff_83 ?_
      refine wt_mmin (pc := 84) dX4_pieceComesOff_84 bi_X4_165 mw_min.1 mw_min.2.1 mw_min.2.2 (by decide) (by decide) (by decide) (by simp [rf_cat, cat_i, cat_l, cat_r]) ?_
      refine wt_iastore (pc := 87) (kd := 21) dX4_pieceComesOff_87 rfl rfl h (fun M87 h => ?_)
      refine wt_sub (ls' := [(3, rf G.1 v5)]) [0] rfl ?_
      exact t_X4_pieceComesOff_88 he  h
  · have h := ite_f q h
    refine wt_aload_n (pc := 34) 0 dX4_pieceComesOff_34 rfl ?_
    refine wt_aload_n (pc := 35) 0 dX4_pieceComesOff_35 rfl ?_
    refine wt_aload_n (pc := 36) 1 dX4_pieceComesOff_36 rfl ?_
    refine wt_getR (pc := 37) dX4_pieceComesOff_37 fl_X4_11 (fun _ _ _ => rfl) h (fun v37 h => ?_)
    refine wt_iload_n (pc := 40) 3 dX4_pieceComesOff_40 rfl ?_
    refine wt_aaload (pc := 41) (kd := 31) dX4_pieceComesOff_41 rfl rfl (by decide) h (fun v41 h => ?_)
    refine wt_cVI (pc := 42) (J' := j_X0_pieceMinutes) (As := [rf G.1 v41]) (st := [rf G.1 v5]) (B' := b_X0_pieceMinutes) (u' := 0) (w' := 0) dX4_pieceComesOff_42 ml_X4_143 mv_X0_pieceMinutes (fun v9 M9 e9 => c_X0_pieceMinutes e9) rfl (by decide) rfl rfl (by decide) (by decide) (by simp [rf_cat, cat_i, cat_l, cat_r]) rfl h (fun v42 M42 h => ?_)
    refine wt_putI (pc := 45) dX4_pieceComesOff_45 fl_X4_146 rfl rfl h (fun M45 h => ?_)
    refine wt_iconst (pc := 48) (v := 0) dX4_pieceComesOff_48 (by decide) ?_
    cases h
    exact he 49 _ _ _ dX4_pieceComesOff_49 (by decide) (by decide)
set_option maxHeartbeats 4000000 in
set_option maxRecDepth 100000 in
theorem c_X4_pieceComesOff {G : GG} {M : Mm} {l0 : Option Nat} {l1 : Int32} {l2 : Int32} {r : Int32 × Mm} (h : f_X4_pieceComesOff M l0 l1 l2 = some r) (l : Launch) : Ct l G j_X4_pieceComesOff b_X4_pieceComesOff [rf G.1 l0, .int l1, .int l2] M (some (.int r.1)) r.2 := cf_I (by decide +kernel) (by simp [lg_sl, rf_cat, cat_i, cat_l, j_X4_pieceComesOff]) rfl (by simp [lv_args, rf_cat, cat_i, cat_l]) (fun X he => t_X4_pieceComesOff_e he h)
def f_X4_passMinute_35 (M : Mm) (l0 : Option Nat) (l1 : Int32) (l2 : Option Nat) : Option (Int32 × Mm) := ck M l2 0 <| bv (f_X0_work M l2 1) fun M37 => ck M37 l2 0 <| bd (f_X0_minutesLeft M37 l2) fun v41 M41 => if v41 ≤ 0 then (gfI M41 l2 0 5 fun v54 => ck M41 l0 4 <| bd (f_X4_pieceComesOff M41 l0 l1 v54) fun v57 M57 => some (v57, M57)) else (some (0, M41))
def f_X4_passMinute (M : Mm) (l0 : Option Nat) (l1 : Int32) : Option (Int32 × Mm) := gfR M l0 4 1 fun v1 => alR M v1 30 l1 fun v5 => gfI M v5 0 5 fun v8 => if v8 = (-1) then (ck M l0 4 <| bd (f_X4_firstByLaw M l0 l1) fun v17 M17 => if v17 = (-1) then (some (0, M17)) else (ck M17 l0 4 <| bd (f_X4_take M17 l0 l1 v17) fun v31 M31 => f_X4_passMinute_35  M31 l0 l1 v5)) else (f_X4_passMinute_35  M l0 l1 v5)
set_option maxHeartbeats 4000000 in
set_option maxRecDepth 100000 in
theorem t_X4_passMinute_35 {G : GG} {X : CX} {ans : Int32 × Mm} (he : EndI G X j_X4_passMinute b_X4_passMinute ans) {M : Mm} {l0 : Option Nat} {l1 : Int32} {l2 : Option Nat} (h : f_X4_passMinute_35 M l0 l1 l2 = some ans) : Wt G X j_X4_passMinute b_X4_passMinute 35 [(0, rf G.1 l0), (1, .int l1), (2, rf G.1 l2)] [] M 0 0 := by
  unfold f_X4_passMinute_35 at h
  refine wt_aload_n (pc := 35) 2 dX4_passMinute_35 rfl ?_
  refine wt_iconst (pc := 36) (v := 1) dX4_passMinute_36 (by decide) ?_
  refine wt_cVV (pc := 37) (J' := j_X0_work) (As := [.int 1]) (st := []) (B' := b_X0_work) (u' := 0) (w' := 0) dX4_passMinute_37 ml_X4_155 mv_X0_work (fun M9 e9 => c_X0_work e9) rfl (by decide) rfl rfl (by decide) (by decide) (by decide) rfl h (fun M37 h => ?_)
  refine wt_aload_n (pc := 40) 2 dX4_passMinute_40 rfl ?_
  refine wt_cVI (pc := 41) (J' := j_X0_minutesLeft) (As := []) (st := []) (B' := b_X0_minutesLeft) (u' := 0) (w' := 0) dX4_passMinute_41 ml_X4_159 mv_X0_minutesLeft (fun v9 M9 e9 => c_X0_minutesLeft e9) rfl (by decide) rfl rfl (by decide) (by decide) (by decide) rfl h (fun v41 M41 h => ?_)
  refine wt_if_le (pc := 44) (tgt := 51) dX4_passMinute_44 (by decide) (fun q => ?_) (fun q => ?_)
  · have h := ite_t q h
    refine wt_aload_n (pc := 51) 0 dX4_passMinute_51 rfl ?_
    refine wt_iload_n (pc := 52) 1 dX4_passMinute_52 rfl ?_
    refine wt_aload_n (pc := 53) 2 dX4_passMinute_53 rfl ?_
    refine wt_getI (pc := 54) dX4_passMinute_54 fl_X4_113 (fun _ _ _ => rfl) h (fun v54 h => ?_)
    refine wt_cVI (pc := 57) (J' := j_X4_pieceComesOff) (As := [.int l1, .int v54]) (st := []) (B' := b_X4_pieceComesOff) (u' := 0) (w' := 0) dX4_passMinute_57 ml_X4_174 mv_X4_pieceComesOff (fun v9 M9 e9 => c_X4_pieceComesOff e9) rfl (by decide) rfl rfl (by decide) (by decide) (by decide) rfl h (fun v57 M57 h => ?_)
    cases h
    exact he 60 _ _ _ dX4_passMinute_60 (by decide) (by decide)
  · have h := ite_f q h
    refine wt_iconst (pc := 47) (v := 0) dX4_passMinute_47 (by decide) ?_
    refine wt_goto (pc := 48) (tgt := 60) dX4_passMinute_48 (by decide) ?_
    cases h
    exact he 60 _ _ _ dX4_passMinute_60 (by decide) (by decide)
set_option maxHeartbeats 4000000 in
set_option maxRecDepth 100000 in
theorem t_X4_passMinute_e {G : GG} {X : CX} {ans : Int32 × Mm} (he : EndI G X j_X4_passMinute b_X4_passMinute ans) {M : Mm} {l0 : Option Nat} {l1 : Int32} (h : f_X4_passMinute M l0 l1 = some ans) : Wt G X j_X4_passMinute b_X4_passMinute 0 [(0, rf G.1 l0), (1, .int l1)] [] M 0 0 := by
  unfold f_X4_passMinute at h
  refine wt_aload_n (pc := 0) 0 dX4_passMinute_0 rfl ?_
  refine wt_getR (pc := 1) dX4_passMinute_1 fl_X4_19 (fun _ _ _ => rfl) h (fun v1 h => ?_)
  refine wt_iload_n (pc := 4) 1 dX4_passMinute_4 rfl ?_
  refine wt_aaload (pc := 5) (kd := 30) dX4_passMinute_5 rfl rfl (by decide) h (fun v5 h => ?_)
  refine wt_astore_n (pc := 6) (i := 2) (ls' := [(2, rf G.1 v5), (0, rf G.1 l0), (1, .int l1)]) rfl dX4_passMinute_6 (by decide) rfl ?_
  refine wt_aload_n (pc := 7) 0 dX4_passMinute_7 rfl ?_
  refine wt_getI (pc := 8) dX4_passMinute_8 fl_X4_113 (fun _ _ _ => rfl) h (fun v8 h => ?_)
  refine wt_iconst (pc := 11) (v := (-1)) dX4_passMinute_11 (by decide) ?_
  refine wt_icmp_ne (pc := 12) (tgt := 35) dX4_passMinute_12 (by decide) (fun q => ?_) (fun q => ?_)
  · have h := ite_f q h
    refine wt_sub (ls' := [(0, rf G.1 l0), (1, .int l1), (2, rf G.1 v5)]) [1, 2, 0] rfl ?_
    exact t_X4_passMinute_35 he  h
  · have h := ite_t q h
    refine wt_aload_n (pc := 15) 1 dX4_passMinute_15 rfl ?_
    refine wt_iload_n (pc := 16) 2 dX4_passMinute_16 rfl ?_
    refine wt_cVI (pc := 17) (J' := j_X4_firstByLaw) (As := [.int l1]) (st := []) (B' := b_X4_firstByLaw) (u' := 0) (w' := 0) dX4_passMinute_17 ml_X4_168 mv_X4_firstByLaw (fun v9 M9 e9 => c_X4_firstByLaw e9) rfl (by decide) rfl rfl (by decide) (by decide) (by decide) rfl h (fun v17 M17 h => ?_)
    refine wt_istore_n (pc := 20) (i := 3) (ls' := [(3, .int v17), (2, rf G.1 v5), (0, rf G.1 l0), (1, .int l1)]) rfl dX4_passMinute_20 (by decide) (by simp [rf_cat, cat_i, cat_l, cat_r]) ?_
    refine wt_iload_n (pc := 21) 0 dX4_passMinute_21 rfl ?_
    refine wt_iconst (pc := 22) (v := (-1)) dX4_passMinute_22 (by decide) ?_
    refine wt_icmp_ne (pc := 23) (tgt := 28) dX4_passMinute_23 (by decide) (fun q => ?_) (fun q => ?_)
    · have h := ite_f q h
      refine wt_aload_n (pc := 28) 2 dX4_passMinute_28 rfl ?_
      refine wt_iload_n (pc := 29) 3 dX4_passMinute_29 rfl ?_
      refine wt_iload_n (pc := 30) 0 dX4_passMinute_30 rfl ?_
      refine wt_cVI (pc := 31) (J' := j_X4_take) (As := [.int l1, .int v17]) (st := []) (B' := b_X4_take) (u' := 0) (w' := 0) dX4_passMinute_31 ml_X4_171 mv_X4_take (fun v9 M9 e9 => c_X4_take e9) rfl (by decide) rfl rfl (by decide) (by decide) (by decide) rfl h (fun v31 M31 h => ?_)
      refine wt_pop (pc := 34) dX4_passMinute_34 rfl ?_
      refine wt_sub (ls' := [(0, rf G.1 l0), (1, .int l1), (2, rf G.1 v5)]) [2, 3, 1] rfl ?_
      exact t_X4_passMinute_35 he  h
    · have h := ite_t q h
      refine wt_iconst (pc := 26) (v := 0) dX4_passMinute_26 (by decide) ?_
      cases h
      exact he 27 _ _ _ dX4_passMinute_27 (by decide) (by decide)
set_option maxHeartbeats 4000000 in
set_option maxRecDepth 100000 in
theorem c_X4_passMinute {G : GG} {M : Mm} {l0 : Option Nat} {l1 : Int32} {r : Int32 × Mm} (h : f_X4_passMinute M l0 l1 = some r) (l : Launch) : Ct l G j_X4_passMinute b_X4_passMinute [rf G.1 l0, .int l1] M (some (.int r.1)) r.2 := cf_I (by decide +kernel) (by simp [lg_sl, rf_cat, cat_i, cat_l, j_X4_passMinute]) rfl (by simp [lv_args, rf_cat, cat_i, cat_l]) (fun X he => t_X4_passMinute_e he h)
def f_X4_quietMinutes_59 (k4 : Mm → Option Nat → Int32 → Int32 → Option (Int32 × Mm)) (M : Mm) (l0 : Option Nat) (l2 : Int32) (l3 : Int32) : Option (Int32 × Mm) := k4 M l0 l2 (l3 + 1)
def f_X4_quietMinutes_4 : Nat → Mm → Option Nat → Int32 → Int32 → Option (Int32 × Mm)
  | 0, _, _, _, _ => none
  | n + 1, M, l0, l2, l3 => gfI M l0 4 4 fun v6 => if v6 ≤ l3 then (some (l2, M)) else (gfR M l0 4 1 fun v13 => alR M v13 30 l3 fun v17 => gfI M v17 0 5 fun v18 => if v18 = (-1) then (ck M l0 4 <| bd (f_X4_firstByLaw M l0 l3) fun v50 M50 => if v50 = (-1) then (f_X4_quietMinutes_59 (f_X4_quietMinutes_4 n) M50 l0 l2 l3) else (f_X4_quietMinutes_59 (f_X4_quietMinutes_4 n) M50 l0 0 l3)) else (gfR M l0 4 1 fun v28 => alR M v28 30 l3 fun v32 => ck M v32 0 <| bd (f_X0_minutesLeft M v32) fun v33 M33 => nmI (mnI l2 (mxI 0 (v33 - 1))) fun x44 => f_X4_quietMinutes_59 (f_X4_quietMinutes_4 n) M33 l0 x44 l3))
def f_X4_quietMinutes (M : Mm) (l0 : Option Nat) (l1 : Int32) : Option (Int32 × Mm) := f_X4_quietMinutes_4  fu M l0 l1 0
set_option maxHeartbeats 4000000 in
set_option maxRecDepth 100000 in
theorem t_X4_quietMinutes_59 {G : GG} {X : CX} {ans : Int32 × Mm} (he : EndI G X j_X4_quietMinutes b_X4_quietMinutes ans) {k4 : Mm → Option Nat → Int32 → Int32 → Option (Int32 × Mm)} (hk4 : ∀ (M : Mm) (a0 : Option Nat) (a2 : Int32) (a3 : Int32), k4 M a0 a2 a3 = some ans → Wt G X j_X4_quietMinutes b_X4_quietMinutes 4 [(0, rf G.1 a0), (2, .int a2), (3, .int a3)] [] M 0 0) {M : Mm} {l0 : Option Nat} {l2 : Int32} {l3 : Int32} (h : f_X4_quietMinutes_59 k4 M l0 l2 l3 = some ans) : Wt G X j_X4_quietMinutes b_X4_quietMinutes 59 [(0, rf G.1 l0), (2, .int l2), (3, .int l3)] [] M 0 0 := by
  unfold f_X4_quietMinutes_59 at h
  refine wt_iinc (pc := 59) (d := 1) (ls' := [(3, .int (l3 + 1)), (0, rf G.1 l0), (2, .int l2)]) 2 dX4_quietMinutes_59 rfl (by decide) (by decide) rfl ?_
  refine wt_goto (pc := 62) (tgt := 4) dX4_quietMinutes_62 (by decide) ?_
  refine wt_sub (ls' := [(0, rf G.1 l0), (2, .int l2), (3, .int (l3 + 1))]) [1, 2, 0] rfl ?_
  exact hk4 _ _ _ _ h
set_option maxHeartbeats 4000000 in
set_option maxRecDepth 100000 in
theorem t_X4_quietMinutes_4 {G : GG} {X : CX} {ans : Int32 × Mm} (he : EndI G X j_X4_quietMinutes b_X4_quietMinutes ans) : ∀ (n : Nat) {M : Mm} {l0 : Option Nat} {l2 : Int32} {l3 : Int32}, f_X4_quietMinutes_4 n M l0 l2 l3 = some ans → Wt G X j_X4_quietMinutes b_X4_quietMinutes 4 [(0, rf G.1 l0), (2, .int l2), (3, .int l3)] [] M 0 0 := by
  intro n
  induction n with
  | zero =>
    intro M l0 l2 l3 h
    rw [f_X4_quietMinutes_4] at h
    cases h
  | succ n ih =>
    intro M l0 l2 l3 h
    rw [f_X4_quietMinutes_4] at h
    refine wt_iload_n (pc := 4) 2 dX4_quietMinutes_4 rfl ?_
    refine wt_aload_n (pc := 5) 0 dX4_quietMinutes_5 rfl ?_
    refine wt_getI (pc := 6) dX4_quietMinutes_6 fl_X4_44 (fun _ _ _ => rfl) h (fun v6 h => ?_)
    refine wt_icmp_ge (pc := 9) (tgt := 65) dX4_quietMinutes_9 (by decide) (fun q => ?_) (fun q => ?_)
    · have h := ite_t q h
      refine wt_iload_n (pc := 65) 1 dX4_quietMinutes_65 rfl ?_
      cases h
      exact he 66 _ _ _ dX4_quietMinutes_66 (by decide) (by decide)
    · have h := ite_f q h
      refine wt_aload_n (pc := 12) 0 dX4_quietMinutes_12 rfl ?_
      refine wt_getR (pc := 13) dX4_quietMinutes_13 fl_X4_19 (fun _ _ _ => rfl) h (fun v13 h => ?_)
      refine wt_iload_n (pc := 16) 2 dX4_quietMinutes_16 rfl ?_
      refine wt_aaload (pc := 17) (kd := 30) dX4_quietMinutes_17 rfl rfl (by decide) h (fun v17 h => ?_)
      refine wt_getI (pc := 18) dX4_quietMinutes_18 fl_X4_113 (fun _ _ _ => rfl) h (fun v18 h => ?_)
      refine wt_iconst (pc := 21) (v := (-1)) dX4_quietMinutes_21 (by decide) ?_
      refine wt_icmp_eq (pc := 22) (tgt := 48) dX4_quietMinutes_22 (by decide) (fun q => ?_) (fun q => ?_)
      · have h := ite_t q h
        refine wt_aload_n (pc := 48) 0 dX4_quietMinutes_48 rfl ?_
        refine wt_iload_n (pc := 49) 2 dX4_quietMinutes_49 rfl ?_
        refine wt_cVI (pc := 50) (J' := j_X4_firstByLaw) (As := [.int l3]) (st := []) (B' := b_X4_firstByLaw) (u' := 0) (w' := 0) dX4_quietMinutes_50 ml_X4_168 mv_X4_firstByLaw (fun v9 M9 e9 => c_X4_firstByLaw e9) rfl (by decide) rfl rfl (by decide) (by decide) (by decide) rfl h (fun v50 M50 h => ?_)
        refine wt_iconst (pc := 53) (v := (-1)) dX4_quietMinutes_53 (by decide) ?_
        refine wt_icmp_eq (pc := 54) (tgt := 59) dX4_quietMinutes_54 (by decide) (fun q => ?_) (fun q => ?_)
        · have h := ite_t q h
          exact t_X4_quietMinutes_59 he (fun _ _ _ _ h => ih h) h
        · have h := ite_f q h
          refine wt_iconst (pc := 57) (v := 0) dX4_quietMinutes_57 (by decide) ?_
          refine wt_istore_n (pc := 58) (i := 2) (ls' := [(2, .int 0), (0, rf G.1 l0), (3, .int l3)]) rfl dX4_quietMinutes_58 (by decide) rfl ?_
          refine wt_sub (ls' := [(0, rf G.1 l0), (2, .int 0), (3, .int l3)]) [1, 0, 2] rfl ?_
          exact t_X4_quietMinutes_59 he (fun _ _ _ _ h => ih h) h
      · have h := ite_f q h
        refine wt_iload_n (pc := 25) 1 dX4_quietMinutes_25 rfl ?_
        refine wt_iconst (pc := 26) (v := 0) dX4_quietMinutes_26 (by decide) ?_
        refine wt_aload_n (pc := 27) 0 dX4_quietMinutes_27 rfl ?_
        refine wt_getR (pc := 28) dX4_quietMinutes_28 fl_X4_19 (fun _ _ _ => rfl) h (fun v28 h => ?_)
        refine wt_iload_n (pc := 31) 2 dX4_quietMinutes_31 rfl ?_
        refine wt_aaload (pc := 32) (kd := 30) dX4_quietMinutes_32 rfl rfl (by decide) h (fun v32 h => ?_)
        refine wt_cVI (pc := 33) (J' := j_X0_minutesLeft) (As := []) (st := [.int 0, .int l2]) (B' := b_X0_minutesLeft) (u' := 0) (w' := 0) dX4_quietMinutes_33 ml_X4_159 mv_X0_minutesLeft (fun v9 M9 e9 => c_X0_minutesLeft e9) rfl (by decide) rfl rfl (by decide) (by decide) (by simp [rf_cat, cat_i, cat_l, cat_r]) rfl h (fun v33 M33 h => ?_)
        refine wt_iconst (pc := 36) (v := 1) dX4_quietMinutes_36 (by decide) ?_
        refine wt_isub (pc := 37) dX4_quietMinutes_37 ?_
        refine wt_mmax (pc := 38) dX4_quietMinutes_38 bi_X4_162 mw_max.1 mw_max.2.1 mw_max.2.2 (by decide) (by decide) (by decide) (by simp [rf_cat, cat_i, cat_l, cat_r]) ?_
        refine wt_mmin (pc := 41) dX4_quietMinutes_41 bi_X4_165 mw_min.1 mw_min.2.1 mw_min.2.2 (by decide) (by decide) (by decide) (by decide) ?_
        refine wt_nmI h (fun x44 h => ?_)
        refine wt_istore_n (pc := 44) (i := 2) (ls' := [(2, .int x44), (0, rf G.1 l0), (3, .int l3)]) rfl dX4_quietMinutes_44 (by decide) rfl ?_
        refine wt_goto (pc := 45) (tgt := 59) dX4_quietMinutes_45 (by decide) ?_
        refine wt_sub (ls' := [(0, rf G.1 l0), (2, .int x44), (3, .int l3)]) [1, 0, 2] rfl ?_
        exact t_X4_quietMinutes_59 he (fun _ _ _ _ h => ih h) h
set_option maxHeartbeats 4000000 in
set_option maxRecDepth 100000 in
theorem t_X4_quietMinutes_e {G : GG} {X : CX} {ans : Int32 × Mm} (he : EndI G X j_X4_quietMinutes b_X4_quietMinutes ans) {M : Mm} {l0 : Option Nat} {l1 : Int32} (h : f_X4_quietMinutes M l0 l1 = some ans) : Wt G X j_X4_quietMinutes b_X4_quietMinutes 0 [(0, rf G.1 l0), (1, .int l1)] [] M 0 0 := by
  unfold f_X4_quietMinutes at h
  refine wt_iload_n (pc := 0) 1 dX4_quietMinutes_0 rfl ?_
  refine wt_istore_n (pc := 1) (i := 2) (ls' := [(2, .int l1), (0, rf G.1 l0), (1, .int l1)]) rfl dX4_quietMinutes_1 (by decide) rfl ?_
  refine wt_iconst (pc := 2) (v := 0) dX4_quietMinutes_2 (by decide) ?_
  refine wt_istore_n (pc := 3) (i := 3) (ls' := [(3, .int 0), (2, .int l1), (0, rf G.1 l0), (1, .int l1)]) rfl dX4_quietMinutes_3 (by decide) rfl ?_
  refine wt_sub (ls' := [(0, rf G.1 l0), (2, .int l1), (3, .int 0)]) [2, 1, 0] rfl ?_
  exact t_X4_quietMinutes_4 he  fu h
set_option maxHeartbeats 4000000 in
set_option maxRecDepth 100000 in
theorem c_X4_quietMinutes {G : GG} {M : Mm} {l0 : Option Nat} {l1 : Int32} {r : Int32 × Mm} (h : f_X4_quietMinutes M l0 l1 = some r) (l : Launch) : Ct l G j_X4_quietMinutes b_X4_quietMinutes [rf G.1 l0, .int l1] M (some (.int r.1)) r.2 := cf_I (by decide +kernel) (by simp [lg_sl, rf_cat, cat_i, cat_l, j_X4_quietMinutes]) rfl (by simp [lv_args, rf_cat, cat_i, cat_l]) (fun X he => t_X4_quietMinutes_e he h)
def f_X4_passHour_82 (k4 : Mm → Option Nat → Int32 → Int32 → Int32 → Option (Int32 × Mm)) (k47 : Mm → Option Nat → Int32 → Int32 → Int32 → Int32 → Int32 → Option (Int32 × Mm)) (M : Mm) (l0 : Option Nat) (l1 : Int32) (l2 : Int32) (l3 : Int32) (l4 : Int32) (l5 : Int32) : Option (Int32 × Mm) := k47 M l0 l1 l2 l3 l4 (l5 + 1)
def f_X4_passHour_47 (k4 : Mm → Option Nat → Int32 → Int32 → Int32 → Option (Int32 × Mm)) : Nat → Mm → Option Nat → Int32 → Int32 → Int32 → Int32 → Int32 → Option (Int32 × Mm)
  | 0, _, _, _, _, _, _, _ => none
  | n + 1, M, l0, l1, l2, l3, l4, l5 => gfI M l0 4 4 fun v50 => if v50 ≤ l5 then (nmI (l3 - l4) fun x92 => k4 M l0 l1 l2 (x92 + (-1))) else (gfR M l0 4 1 fun v57 => alR M v57 30 l5 fun v62 => gfI M v62 0 5 fun v63 => if v63 = (-1) then (f_X4_passHour_82 k4 (f_X4_passHour_47 k4 n) M l0 l1 l2 l3 l4 l5) else (gfR M l0 4 1 fun v71 => alR M v71 30 l5 fun v76 => ck M v76 0 <| bv (f_X0_work M v76 l4) fun M79 => f_X4_passHour_82 k4 (f_X4_passHour_47 k4 n) M79 l0 l1 l2 l3 l4 l5))
def f_X4_passHour_11 (k4 : Mm → Option Nat → Int32 → Int32 → Int32 → Option (Int32 × Mm)) : Nat → Mm → Option Nat → Int32 → Int32 → Int32 → Int32 → Option (Int32 × Mm)
  | 0, _, _, _, _, _, _ => none
  | n + 1, M, l0, l1, l2, l3, l4 => gfI M l0 4 4 fun v14 => if v14 ≤ l4 then (ck M l0 4 <| bd (f_X4_quietMinutes M l0 (l3 - 1)) fun v39 M39 => f_X4_passHour_47 k4 fu M39 l0 l1 l2 l3 v39 0) else (ck M l0 4 <| bd (f_X4_passMinute M l0 l4) fun v24 M24 => nmI (l2 + v24) fun x28 => f_X4_passHour_11 k4 n M24 l0 l1 x28 l3 (l4 + 1))
def f_X4_passHour_4 : Nat → Mm → Option Nat → Int32 → Int32 → Int32 → Option (Int32 × Mm)
  | 0, _, _, _, _, _ => none
  | n + 1, M, l0, l1, l2, l3 => if l3 ≤ 0 then (gfI M l0 4 8 fun v101 => pfI M l0 4 8 (v101 + l1) fun M106 => some (l2, M106)) else (f_X4_passHour_11 (f_X4_passHour_4 n) fu M l0 l1 l2 l3 0)
def f_X4_passHour (M : Mm) (l0 : Option Nat) (l1 : Int32) : Option (Int32 × Mm) := f_X4_passHour_4  fu M l0 l1 0 l1
set_option maxHeartbeats 4000000 in
set_option maxRecDepth 100000 in
theorem t_X4_passHour_82 {G : GG} {X : CX} {ans : Int32 × Mm} (he : EndI G X j_X4_passHour b_X4_passHour ans) {k4 : Mm → Option Nat → Int32 → Int32 → Int32 → Option (Int32 × Mm)} {k47 : Mm → Option Nat → Int32 → Int32 → Int32 → Int32 → Int32 → Option (Int32 × Mm)} (hk4 : ∀ (M : Mm) (a0 : Option Nat) (a1 : Int32) (a2 : Int32) (a3 : Int32), k4 M a0 a1 a2 a3 = some ans → Wt G X j_X4_passHour b_X4_passHour 4 [(0, rf G.1 a0), (1, .int a1), (2, .int a2), (3, .int a3)] [] M 0 0) (hk47 : ∀ (M : Mm) (a0 : Option Nat) (a1 : Int32) (a2 : Int32) (a3 : Int32) (a4 : Int32) (a5 : Int32), k47 M a0 a1 a2 a3 a4 a5 = some ans → Wt G X j_X4_passHour b_X4_passHour 47 [(0, rf G.1 a0), (1, .int a1), (2, .int a2), (3, .int a3), (4, .int a4), (5, .int a5)] [] M 0 0) {M : Mm} {l0 : Option Nat} {l1 : Int32} {l2 : Int32} {l3 : Int32} {l4 : Int32} {l5 : Int32} (h : f_X4_passHour_82 k4 k47 M l0 l1 l2 l3 l4 l5 = some ans) : Wt G X j_X4_passHour b_X4_passHour 82 [(0, rf G.1 l0), (1, .int l1), (2, .int l2), (3, .int l3), (4, .int l4), (5, .int l5)] [] M 0 0 := by
  unfold f_X4_passHour_82 at h
  refine wt_iinc (pc := 82) (d := 1) (ls' := [(5, .int (l5 + 1)), (0, rf G.1 l0), (1, .int l1), (2, .int l2), (3, .int l3), (4, .int l4)]) 5 dX4_passHour_82 rfl (by decide) (by decide) rfl ?_
  refine wt_goto (pc := 85) (tgt := 47) dX4_passHour_85 (by decide) ?_
  refine wt_sub (ls' := [(0, rf G.1 l0), (1, .int l1), (2, .int l2), (3, .int l3), (4, .int l4), (5, .int (l5 + 1))]) [1, 2, 3, 4, 5, 0] rfl ?_
  exact hk47 _ _ _ _ _ _ _ h
set_option maxHeartbeats 4000000 in
set_option maxRecDepth 100000 in
theorem t_X4_passHour_47 {G : GG} {X : CX} {ans : Int32 × Mm} (he : EndI G X j_X4_passHour b_X4_passHour ans) {k4 : Mm → Option Nat → Int32 → Int32 → Int32 → Option (Int32 × Mm)} (hk4 : ∀ (M : Mm) (a0 : Option Nat) (a1 : Int32) (a2 : Int32) (a3 : Int32), k4 M a0 a1 a2 a3 = some ans → Wt G X j_X4_passHour b_X4_passHour 4 [(0, rf G.1 a0), (1, .int a1), (2, .int a2), (3, .int a3)] [] M 0 0) : ∀ (n : Nat) {M : Mm} {l0 : Option Nat} {l1 : Int32} {l2 : Int32} {l3 : Int32} {l4 : Int32} {l5 : Int32}, f_X4_passHour_47 k4 n M l0 l1 l2 l3 l4 l5 = some ans → Wt G X j_X4_passHour b_X4_passHour 47 [(0, rf G.1 l0), (1, .int l1), (2, .int l2), (3, .int l3), (4, .int l4), (5, .int l5)] [] M 0 0 := by
  intro n
  induction n with
  | zero =>
    intro M l0 l1 l2 l3 l4 l5 h
    rw [f_X4_passHour_47] at h
    cases h
  | succ n ih =>
    intro M l0 l1 l2 l3 l4 l5 h
    rw [f_X4_passHour_47] at h
    refine wt_iload (pc := 47) 5 dX4_passHour_47 rfl ?_
    refine wt_aload_n (pc := 49) 0 dX4_passHour_49 rfl ?_
    refine wt_getI (pc := 50) dX4_passHour_50 fl_X4_44 (fun _ _ _ => rfl) h (fun v50 h => ?_)
    refine wt_icmp_ge (pc := 53) (tgt := 88) dX4_passHour_53 (by decide) (fun q => ?_) (fun q => ?_)
    · have h := ite_t q h
      refine wt_iload_n (pc := 88) 3 dX4_passHour_88 rfl ?_
      refine wt_iload (pc := 89) 4 dX4_passHour_89 rfl ?_
      refine wt_isub (pc := 91) dX4_passHour_91 ?_
      refine wt_nmI h (fun x92 h => ?_)
      refine wt_istore_n (pc := 92) (i := 3) (ls' := [(3, .int x92), (0, rf G.1 l0), (1, .int l1), (2, .int l2), (4, .int l4), (5, .int l5)]) rfl dX4_passHour_92 (by decide) rfl ?_
      refine wt_iinc (pc := 93) (d := (-1)) (ls' := [(3, .int (x92 + (-1))), (0, rf G.1 l0), (1, .int l1), (2, .int l2), (4, .int l4), (5, .int l5)]) 0 dX4_passHour_93 rfl (by decide) (by decide) rfl ?_
      refine wt_goto (pc := 96) (tgt := 4) dX4_passHour_96 (by decide) ?_
      refine wt_sub (ls' := [(0, rf G.1 l0), (1, .int l1), (2, .int l2), (3, .int (x92 + (-1)))]) [1, 2, 3, 0] rfl ?_
      exact hk4 _ _ _ _ _ h
    · have h := ite_f q h
      refine wt_aload_n (pc := 56) 0 dX4_passHour_56 rfl ?_
      refine wt_getR (pc := 57) dX4_passHour_57 fl_X4_19 (fun _ _ _ => rfl) h (fun v57 h => ?_)
      refine wt_iload (pc := 60) 5 dX4_passHour_60 rfl ?_
      refine wt_aaload (pc := 62) (kd := 30) dX4_passHour_62 rfl rfl (by decide) h (fun v62 h => ?_)
      refine wt_getI (pc := 63) dX4_passHour_63 fl_X4_113 (fun _ _ _ => rfl) h (fun v63 h => ?_)
      refine wt_iconst (pc := 66) (v := (-1)) dX4_passHour_66 (by decide) ?_
      refine wt_icmp_eq (pc := 67) (tgt := 82) dX4_passHour_67 (by decide) (fun q => ?_) (fun q => ?_)
      · have h := ite_t q h
        exact t_X4_passHour_82 he (fun _ _ _ _ _ h => hk4 _ _ _ _ _ h) (fun _ _ _ _ _ _ _ h => ih h) h
      · have h := ite_f q h
        refine wt_aload_n (pc := 70) 0 dX4_passHour_70 rfl ?_
        refine wt_getR (pc := 71) dX4_passHour_71 fl_X4_19 (fun _ _ _ => rfl) h (fun v71 h => ?_)
        refine wt_iload (pc := 74) 5 dX4_passHour_74 rfl ?_
        refine wt_aaload (pc := 76) (kd := 30) dX4_passHour_76 rfl rfl (by decide) h (fun v76 h => ?_)
        refine wt_iload (pc := 77) 4 dX4_passHour_77 rfl ?_
        refine wt_cVV (pc := 79) (J' := j_X0_work) (As := [.int l4]) (st := []) (B' := b_X0_work) (u' := 0) (w' := 0) dX4_passHour_79 ml_X4_155 mv_X0_work (fun M9 e9 => c_X0_work e9) rfl (by decide) rfl rfl (by decide) (by decide) (by decide) rfl h (fun M79 h => ?_)
        exact t_X4_passHour_82 he (fun _ _ _ _ _ h => hk4 _ _ _ _ _ h) (fun _ _ _ _ _ _ _ h => ih h) h
set_option maxHeartbeats 4000000 in
set_option maxRecDepth 100000 in
theorem t_X4_passHour_11 {G : GG} {X : CX} {ans : Int32 × Mm} (he : EndI G X j_X4_passHour b_X4_passHour ans) {k4 : Mm → Option Nat → Int32 → Int32 → Int32 → Option (Int32 × Mm)} (hk4 : ∀ (M : Mm) (a0 : Option Nat) (a1 : Int32) (a2 : Int32) (a3 : Int32), k4 M a0 a1 a2 a3 = some ans → Wt G X j_X4_passHour b_X4_passHour 4 [(0, rf G.1 a0), (1, .int a1), (2, .int a2), (3, .int a3)] [] M 0 0) : ∀ (n : Nat) {M : Mm} {l0 : Option Nat} {l1 : Int32} {l2 : Int32} {l3 : Int32} {l4 : Int32}, f_X4_passHour_11 k4 n M l0 l1 l2 l3 l4 = some ans → Wt G X j_X4_passHour b_X4_passHour 11 [(0, rf G.1 l0), (1, .int l1), (2, .int l2), (3, .int l3), (4, .int l4)] [] M 0 0 := by
  intro n
  induction n with
  | zero =>
    intro M l0 l1 l2 l3 l4 h
    rw [f_X4_passHour_11] at h
    cases h
  | succ n ih =>
    intro M l0 l1 l2 l3 l4 h
    rw [f_X4_passHour_11] at h
    refine wt_iload (pc := 11) 4 dX4_passHour_11 rfl ?_
    refine wt_aload_n (pc := 13) 0 dX4_passHour_13 rfl ?_
    refine wt_getI (pc := 14) dX4_passHour_14 fl_X4_44 (fun _ _ _ => rfl) h (fun v14 h => ?_)
    refine wt_icmp_ge (pc := 17) (tgt := 35) dX4_passHour_17 (by decide) (fun q => ?_) (fun q => ?_)
    · have h := ite_t q h
      refine wt_aload_n (pc := 35) 0 dX4_passHour_35 rfl ?_
      refine wt_iload_n (pc := 36) 3 dX4_passHour_36 rfl ?_
      refine wt_iconst (pc := 37) (v := 1) dX4_passHour_37 (by decide) ?_
      refine wt_isub (pc := 38) dX4_passHour_38 ?_
      refine wt_cVI (pc := 39) (J' := j_X4_quietMinutes) (As := [.int (l3 - 1)]) (st := []) (B' := b_X4_quietMinutes) (u' := 0) (w' := 0) dX4_passHour_39 ml_X4_152 mv_X4_quietMinutes (fun v9 M9 e9 => c_X4_quietMinutes e9) rfl (by decide) rfl rfl (by decide) (by decide) (by decide) rfl h (fun v39 M39 h => ?_)
      refine wt_istore (pc := 42) (i := 4) (ls' := [(4, .int v39), (0, rf G.1 l0), (1, .int l1), (2, .int l2), (3, .int l3)]) dX4_passHour_42 (by decide) rfl ?_
      refine wt_iconst (pc := 44) (v := 0) dX4_passHour_44 (by decide) ?_
      refine wt_istore (pc := 45) (i := 5) (ls' := [(5, .int 0), (4, .int v39), (0, rf G.1 l0), (1, .int l1), (2, .int l2), (3, .int l3)]) dX4_passHour_45 (by decide) rfl ?_
      refine wt_sub (ls' := [(0, rf G.1 l0), (1, .int l1), (2, .int l2), (3, .int l3), (4, .int v39), (5, .int 0)]) [2, 3, 4, 5, 1, 0] rfl ?_
      exact t_X4_passHour_47 he (fun _ _ _ _ _ h => hk4 _ _ _ _ _ h) fu h
    · have h := ite_f q h
      refine wt_iload_n (pc := 20) 2 dX4_passHour_20 rfl ?_
      refine wt_aload_n (pc := 21) 0 dX4_passHour_21 rfl ?_
      refine wt_iload (pc := 22) 4 dX4_passHour_22 rfl ?_
      refine wt_cVI (pc := 24) (J' := j_X4_passMinute) (As := [.int l4]) (st := [.int l2]) (B' := b_X4_passMinute) (u' := 0) (w' := 0) dX4_passHour_24 ml_X4_149 mv_X4_passMinute (fun v9 M9 e9 => c_X4_passMinute e9) rfl (by decide) rfl rfl (by decide) (by decide) (by simp [rf_cat, cat_i, cat_l, cat_r]) rfl h (fun v24 M24 h => ?_)
      refine wt_iadd (pc := 27) dX4_passHour_27 ?_
      refine wt_nmI h (fun x28 h => ?_)
      refine wt_istore_n (pc := 28) (i := 2) (ls' := [(2, .int x28), (0, rf G.1 l0), (1, .int l1), (3, .int l3), (4, .int l4)]) rfl dX4_passHour_28 (by decide) rfl ?_
      refine wt_iinc (pc := 29) (d := 1) (ls' := [(4, .int (l4 + 1)), (2, .int x28), (0, rf G.1 l0), (1, .int l1), (3, .int l3)]) 4 dX4_passHour_29 rfl (by decide) (by decide) rfl ?_
      refine wt_goto (pc := 32) (tgt := 11) dX4_passHour_32 (by decide) ?_
      refine wt_sub (ls' := [(0, rf G.1 l0), (1, .int l1), (2, .int x28), (3, .int l3), (4, .int (l4 + 1))]) [2, 3, 1, 4, 0] rfl ?_
      exact ih h
set_option maxHeartbeats 4000000 in
set_option maxRecDepth 100000 in
theorem t_X4_passHour_4 {G : GG} {X : CX} {ans : Int32 × Mm} (he : EndI G X j_X4_passHour b_X4_passHour ans) : ∀ (n : Nat) {M : Mm} {l0 : Option Nat} {l1 : Int32} {l2 : Int32} {l3 : Int32}, f_X4_passHour_4 n M l0 l1 l2 l3 = some ans → Wt G X j_X4_passHour b_X4_passHour 4 [(0, rf G.1 l0), (1, .int l1), (2, .int l2), (3, .int l3)] [] M 0 0 := by
  intro n
  induction n with
  | zero =>
    intro M l0 l1 l2 l3 h
    rw [f_X4_passHour_4] at h
    cases h
  | succ n ih =>
    intro M l0 l1 l2 l3 h
    rw [f_X4_passHour_4] at h
    refine wt_iload_n (pc := 4) 3 dX4_passHour_4 rfl ?_
    refine wt_if_le (pc := 5) (tgt := 99) dX4_passHour_5 (by decide) (fun q => ?_) (fun q => ?_)
    · have h := ite_t q h
      refine wt_aload_n (pc := 99) 0 dX4_passHour_99 rfl ?_
      refine wt_dup (pc := 100) dX4_passHour_100 (rf_cat _ _) ?_
      refine wt_getI (pc := 101) dX4_passHour_101 fl_X4_50 (fun _ _ _ => rfl) h (fun v101 h => ?_)
      refine wt_iload_n (pc := 104) 1 dX4_passHour_104 rfl ?_
      refine wt_iadd (pc := 105) dX4_passHour_105 ?_
      refine wt_putI (pc := 106) dX4_passHour_106 fl_X4_50 rfl rfl h (fun M106 h => ?_)
      refine wt_iload_n (pc := 109) 2 dX4_passHour_109 rfl ?_
      cases h
      exact he 110 _ _ _ dX4_passHour_110 (by decide) (by decide)
    · have h := ite_f q h
      refine wt_iconst (pc := 8) (v := 0) dX4_passHour_8 (by decide) ?_
      refine wt_istore (pc := 9) (i := 4) (ls' := [(4, .int 0), (0, rf G.1 l0), (1, .int l1), (2, .int l2), (3, .int l3)]) dX4_passHour_9 (by decide) rfl ?_
      refine wt_sub (ls' := [(0, rf G.1 l0), (1, .int l1), (2, .int l2), (3, .int l3), (4, .int 0)]) [1, 2, 3, 4, 0] rfl ?_
      exact t_X4_passHour_11 he (fun _ _ _ _ _ h => ih h) fu h
set_option maxHeartbeats 4000000 in
set_option maxRecDepth 100000 in
theorem t_X4_passHour_e {G : GG} {X : CX} {ans : Int32 × Mm} (he : EndI G X j_X4_passHour b_X4_passHour ans) {M : Mm} {l0 : Option Nat} {l1 : Int32} (h : f_X4_passHour M l0 l1 = some ans) : Wt G X j_X4_passHour b_X4_passHour 0 [(0, rf G.1 l0), (1, .int l1)] [] M 0 0 := by
  unfold f_X4_passHour at h
  refine wt_iconst (pc := 0) (v := 0) dX4_passHour_0 (by decide) ?_
  refine wt_istore_n (pc := 1) (i := 2) (ls' := [(2, .int 0), (0, rf G.1 l0), (1, .int l1)]) rfl dX4_passHour_1 (by decide) rfl ?_
  refine wt_iload_n (pc := 2) 2 dX4_passHour_2 rfl ?_
  refine wt_istore_n (pc := 3) (i := 3) (ls' := [(3, .int l1), (2, .int 0), (0, rf G.1 l0), (1, .int l1)]) rfl dX4_passHour_3 (by decide) rfl ?_
  refine wt_sub (ls' := [(0, rf G.1 l0), (1, .int l1), (2, .int 0), (3, .int l1)]) [2, 3, 1, 0] rfl ?_
  exact t_X4_passHour_4 he  fu h
set_option maxHeartbeats 4000000 in
set_option maxRecDepth 100000 in
theorem c_X4_passHour {G : GG} {M : Mm} {l0 : Option Nat} {l1 : Int32} {r : Int32 × Mm} (h : f_X4_passHour M l0 l1 = some r) (l : Launch) : Ct l G j_X4_passHour b_X4_passHour [rf G.1 l0, .int l1] M (some (.int r.1)) r.2 := cf_I (by decide +kernel) (by simp [lg_sl, rf_cat, cat_i, cat_l, j_X4_passHour]) rfl (by simp [lv_args, rf_cat, cat_i, cat_l]) (fun X he => t_X4_passHour_e he h)
def f_X4_allChances_4 : Nat → Mm → Option Nat → Int32 → Int32 → Option (Int32 × Mm)
  | 0, _, _, _, _ => none
  | n + 1, M, l0, l1, l2 => gfI M l0 4 5 fun v6 => if v6 ≤ l2 then (some (l1, M)) else (gfR M l0 4 2 fun v14 => alR M v14 38 l2 fun v18 => gfI M v18 8 2 fun v19 => nmI (l1 + v19) fun x23 => f_X4_allChances_4 n M l0 x23 (l2 + 1))
def f_X4_allChances (M : Mm) (l0 : Option Nat) : Option (Int32 × Mm) := f_X4_allChances_4  fu M l0 0 0
set_option maxHeartbeats 4000000 in
set_option maxRecDepth 100000 in
theorem t_X4_allChances_4 {G : GG} {X : CX} {ans : Int32 × Mm} (he : EndI G X j_X4_allChances b_X4_allChances ans) : ∀ (n : Nat) {M : Mm} {l0 : Option Nat} {l1 : Int32} {l2 : Int32}, f_X4_allChances_4 n M l0 l1 l2 = some ans → Wt G X j_X4_allChances b_X4_allChances 4 [(0, rf G.1 l0), (1, .int l1), (2, .int l2)] [] M 0 0 := by
  intro n
  induction n with
  | zero =>
    intro M l0 l1 l2 h
    rw [f_X4_allChances_4] at h
    cases h
  | succ n ih =>
    intro M l0 l1 l2 h
    rw [f_X4_allChances_4] at h
    refine wt_iload_n (pc := 4) 2 dX4_allChances_4 rfl ?_
    refine wt_aload_n (pc := 5) 0 dX4_allChances_5 rfl ?_
    refine wt_getI (pc := 6) dX4_allChances_6 fl_X4_47 (fun _ _ _ => rfl) h (fun v6 h => ?_)
    refine wt_icmp_ge (pc := 9) (tgt := 30) dX4_allChances_9 (by decide) (fun q => ?_) (fun q => ?_)
    · have h := ite_t q h
      refine wt_iload_n (pc := 30) 1 dX4_allChances_30 rfl ?_
      cases h
      exact he 31 _ _ _ dX4_allChances_31 (by decide) (by decide)
    · have h := ite_f q h
      refine wt_iload_n (pc := 12) 1 dX4_allChances_12 rfl ?_
      refine wt_aload_n (pc := 13) 0 dX4_allChances_13 rfl ?_
      refine wt_getR (pc := 14) dX4_allChances_14 fl_X4_25 (fun _ _ _ => rfl) h (fun v14 h => ?_)
      refine wt_iload_n (pc := 17) 2 dX4_allChances_17 rfl ?_
      refine wt_aaload (pc := 18) (kd := 38) dX4_allChances_18 rfl rfl (by decide) h (fun v18 h => ?_)
      refine wt_getI (pc := 19) dX4_allChances_19 fl_X4_103 (fun _ _ _ => rfl) h (fun v19 h => ?_)
      refine wt_iadd (pc := 22) dX4_allChances_22 ?_
      refine wt_nmI h (fun x23 h => ?_)
      refine wt_istore_n (pc := 23) (i := 1) (ls' := [(1, .int x23), (0, rf G.1 l0), (2, .int l2)]) rfl dX4_allChances_23 (by decide) (by simp [rf_cat, cat_i, cat_l, cat_r]) ?_
      refine wt_iinc (pc := 24) (d := 1) (ls' := [(2, .int (l2 + 1)), (1, .int x23), (0, rf G.1 l0)]) 2 dX4_allChances_24 rfl (by decide) (by decide) rfl ?_
      refine wt_goto (pc := 27) (tgt := 4) dX4_allChances_27 (by decide) ?_
      refine wt_sub (ls' := [(0, rf G.1 l0), (1, .int x23), (2, .int (l2 + 1))]) [2, 1, 0] rfl ?_
      exact ih h
set_option maxHeartbeats 4000000 in
set_option maxRecDepth 100000 in
theorem t_X4_allChances_e {G : GG} {X : CX} {ans : Int32 × Mm} (he : EndI G X j_X4_allChances b_X4_allChances ans) {M : Mm} {l0 : Option Nat} (h : f_X4_allChances M l0 = some ans) : Wt G X j_X4_allChances b_X4_allChances 0 [(0, rf G.1 l0)] [] M 0 0 := by
  unfold f_X4_allChances at h
  refine wt_iconst (pc := 0) (v := 0) dX4_allChances_0 (by decide) ?_
  refine wt_istore_n (pc := 1) (i := 1) (ls' := [(1, .int 0), (0, rf G.1 l0)]) rfl dX4_allChances_1 (by decide) (by simp [rf_cat, cat_i, cat_l, cat_r]) ?_
  refine wt_iconst (pc := 2) (v := 0) dX4_allChances_2 (by decide) ?_
  refine wt_istore_n (pc := 3) (i := 2) (ls' := [(2, .int 0), (1, .int 0), (0, rf G.1 l0)]) rfl dX4_allChances_3 (by decide) rfl ?_
  refine wt_sub (ls' := [(0, rf G.1 l0), (1, .int 0), (2, .int 0)]) [2, 1, 0] rfl ?_
  exact t_X4_allChances_4 he  fu h
set_option maxHeartbeats 4000000 in
set_option maxRecDepth 100000 in
theorem c_X4_allChances {G : GG} {M : Mm} {l0 : Option Nat} {r : Int32 × Mm} (h : f_X4_allChances M l0 = some r) (l : Launch) : Ct l G j_X4_allChances b_X4_allChances [rf G.1 l0] M (some (.int r.1)) r.2 := cf_I (by decide +kernel) (by simp [lg_sl, rf_cat, cat_i, cat_l, j_X4_allChances]) rfl (by simp [lv_args, rf_cat, cat_i, cat_l]) (fun X he => t_X4_allChances_e he h)
def f_X4_fallingSet_43 (k4 : Mm → Option Nat → Int32 → Int32 → Int32 → Option (Int32 × Mm)) (M : Mm) (l0 : Option Nat) (l1 : Int32) (l2 : Int32) (l3 : Int32) : Option (Int32 × Mm) := k4 M l0 l1 l2 (l3 + 1)
def f_X4_fallingSet_4 : Nat → Mm → Option Nat → Int32 → Int32 → Int32 → Option (Int32 × Mm)
  | 0, _, _, _, _, _ => none
  | n + 1, M, l0, l1, l2, l3 => gfI M l0 4 3 fun v6 => if v6 ≤ l3 then (some (l2, M)) else (gfR M l0 4 0 fun v13 => alR M v13 31 l3 fun v17 => ck M v17 1 <| bd (f_X1_isOpen M v17) fun v18 M18 => if v18 = 0 then (f_X4_fallingSet_43 (f_X4_fallingSet_4 n) M18 l0 l1 l2 l3) else (gfR M18 l0 4 0 fun v26 => alR M18 v26 31 l3 fun v30 => ck M18 v30 1 <| bd (f_X1_leastStrength M18 v30) fun v31 M31 => if l1 < v31 then (f_X4_fallingSet_43 (f_X4_fallingSet_4 n) M31 l0 l1 l2 l3) else (nmI (l2 ||| (1 <<< (l3 &&& 31))) fun x42 => f_X4_fallingSet_43 (f_X4_fallingSet_4 n) M31 l0 l1 x42 l3)))
def f_X4_fallingSet (M : Mm) (l0 : Option Nat) (l1 : Int32) : Option (Int32 × Mm) := f_X4_fallingSet_4  fu M l0 l1 0 0
set_option maxHeartbeats 4000000 in
set_option maxRecDepth 100000 in
theorem t_X4_fallingSet_43 {G : GG} {X : CX} {ans : Int32 × Mm} (he : EndI G X j_X4_fallingSet b_X4_fallingSet ans) {k4 : Mm → Option Nat → Int32 → Int32 → Int32 → Option (Int32 × Mm)} (hk4 : ∀ (M : Mm) (a0 : Option Nat) (a1 : Int32) (a2 : Int32) (a3 : Int32), k4 M a0 a1 a2 a3 = some ans → Wt G X j_X4_fallingSet b_X4_fallingSet 4 [(0, rf G.1 a0), (1, .int a1), (2, .int a2), (3, .int a3)] [] M 0 0) {M : Mm} {l0 : Option Nat} {l1 : Int32} {l2 : Int32} {l3 : Int32} (h : f_X4_fallingSet_43 k4 M l0 l1 l2 l3 = some ans) : Wt G X j_X4_fallingSet b_X4_fallingSet 43 [(0, rf G.1 l0), (1, .int l1), (2, .int l2), (3, .int l3)] [] M 0 0 := by
  unfold f_X4_fallingSet_43 at h
  refine wt_iinc (pc := 43) (d := 1) (ls' := [(3, .int (l3 + 1)), (0, rf G.1 l0), (1, .int l1), (2, .int l2)]) 3 dX4_fallingSet_43 rfl (by decide) (by decide) rfl ?_
  refine wt_goto (pc := 46) (tgt := 4) dX4_fallingSet_46 (by decide) ?_
  refine wt_sub (ls' := [(0, rf G.1 l0), (1, .int l1), (2, .int l2), (3, .int (l3 + 1))]) [1, 2, 3, 0] rfl ?_
  exact hk4 _ _ _ _ _ h
set_option maxHeartbeats 4000000 in
set_option maxRecDepth 100000 in
theorem t_X4_fallingSet_4 {G : GG} {X : CX} {ans : Int32 × Mm} (he : EndI G X j_X4_fallingSet b_X4_fallingSet ans) : ∀ (n : Nat) {M : Mm} {l0 : Option Nat} {l1 : Int32} {l2 : Int32} {l3 : Int32}, f_X4_fallingSet_4 n M l0 l1 l2 l3 = some ans → Wt G X j_X4_fallingSet b_X4_fallingSet 4 [(0, rf G.1 l0), (1, .int l1), (2, .int l2), (3, .int l3)] [] M 0 0 := by
  intro n
  induction n with
  | zero =>
    intro M l0 l1 l2 l3 h
    rw [f_X4_fallingSet_4] at h
    cases h
  | succ n ih =>
    intro M l0 l1 l2 l3 h
    rw [f_X4_fallingSet_4] at h
    refine wt_iload_n (pc := 4) 3 dX4_fallingSet_4 rfl ?_
    refine wt_aload_n (pc := 5) 0 dX4_fallingSet_5 rfl ?_
    refine wt_getI (pc := 6) dX4_fallingSet_6 fl_X4_41 (fun _ _ _ => rfl) h (fun v6 h => ?_)
    refine wt_icmp_ge (pc := 9) (tgt := 49) dX4_fallingSet_9 (by decide) (fun q => ?_) (fun q => ?_)
    · have h := ite_t q h
      refine wt_iload_n (pc := 49) 2 dX4_fallingSet_49 rfl ?_
      cases h
      exact he 50 _ _ _ dX4_fallingSet_50 (by decide) (by decide)
    · have h := ite_f q h
      refine wt_aload_n (pc := 12) 0 dX4_fallingSet_12 rfl ?_
      refine wt_getR (pc := 13) dX4_fallingSet_13 fl_X4_11 (fun _ _ _ => rfl) h (fun v13 h => ?_)
      refine wt_iload_n (pc := 16) 3 dX4_fallingSet_16 rfl ?_
      refine wt_aaload (pc := 17) (kd := 31) dX4_fallingSet_17 rfl rfl (by decide) h (fun v17 h => ?_)
      refine wt_cVI (pc := 18) (J' := j_X1_isOpen) (As := []) (st := []) (B' := b_X1_isOpen) (u' := 0) (w' := 0) dX4_fallingSet_18 ml_X4_86 mv_X1_isOpen (fun v9 M9 e9 => c_X1_isOpen e9) rfl (by decide) rfl rfl (by decide) (by decide) (by decide) rfl h (fun v18 M18 h => ?_)
      refine wt_if_eq (pc := 21) (tgt := 43) dX4_fallingSet_21 (by decide) (fun q => ?_) (fun q => ?_)
      · have h := ite_t q h
        exact t_X4_fallingSet_43 he (fun _ _ _ _ _ h => ih h) h
      · have h := ite_f q h
        refine wt_iload_n (pc := 24) 1 dX4_fallingSet_24 rfl ?_
        refine wt_aload_n (pc := 25) 0 dX4_fallingSet_25 rfl ?_
        refine wt_getR (pc := 26) dX4_fallingSet_26 fl_X4_11 (fun _ _ _ => rfl) h (fun v26 h => ?_)
        refine wt_iload_n (pc := 29) 3 dX4_fallingSet_29 rfl ?_
        refine wt_aaload (pc := 30) (kd := 31) dX4_fallingSet_30 rfl rfl (by decide) h (fun v30 h => ?_)
        refine wt_cVI (pc := 31) (J' := j_X1_leastStrength) (As := []) (st := [.int l1]) (B' := b_X1_leastStrength) (u' := 0) (w' := 0) dX4_fallingSet_31 ml_X4_97 mv_X1_leastStrength (fun v9 M9 e9 => c_X1_leastStrength e9) rfl (by decide) rfl rfl (by decide) (by decide) (by simp [rf_cat, cat_i, cat_l, cat_r]) rfl h (fun v31 M31 h => ?_)
        refine wt_icmp_lt (pc := 34) (tgt := 43) dX4_fallingSet_34 (by decide) (fun q => ?_) (fun q => ?_)
        · have h := ite_t q h
          exact t_X4_fallingSet_43 he (fun _ _ _ _ _ h => ih h) h
        · have h := ite_f q h
          refine wt_iload_n (pc := 37) 2 dX4_fallingSet_37 rfl ?_
          refine wt_iconst (pc := 38) (v := 1) dX4_fallingSet_38 (by decide) ?_
          refine wt_iload_n (pc := 39) 3 dX4_fallingSet_39 rfl ?_
          refine wt_ishl (pc := 40) dX4_fallingSet_40 ?_
          refine wt_ior (pc := 41) dX4_fallingSet_41 ?_
          refine wt_nmI h (fun x42 h => ?_)
          refine wt_istore_n (pc := 42) (i := 2) (ls' := [(2, .int x42), (0, rf G.1 l0), (1, .int l1), (3, .int l3)]) rfl dX4_fallingSet_42 (by decide) rfl ?_
          refine wt_sub (ls' := [(0, rf G.1 l0), (1, .int l1), (2, .int x42), (3, .int l3)]) [1, 2, 0, 3] rfl ?_
          exact t_X4_fallingSet_43 he (fun _ _ _ _ _ h => ih h) h
set_option maxHeartbeats 4000000 in
set_option maxRecDepth 100000 in
theorem t_X4_fallingSet_e {G : GG} {X : CX} {ans : Int32 × Mm} (he : EndI G X j_X4_fallingSet b_X4_fallingSet ans) {M : Mm} {l0 : Option Nat} {l1 : Int32} (h : f_X4_fallingSet M l0 l1 = some ans) : Wt G X j_X4_fallingSet b_X4_fallingSet 0 [(0, rf G.1 l0), (1, .int l1)] [] M 0 0 := by
  unfold f_X4_fallingSet at h
  refine wt_iconst (pc := 0) (v := 0) dX4_fallingSet_0 (by decide) ?_
  refine wt_istore_n (pc := 1) (i := 2) (ls' := [(2, .int 0), (0, rf G.1 l0), (1, .int l1)]) rfl dX4_fallingSet_1 (by decide) rfl ?_
  refine wt_iconst (pc := 2) (v := 0) dX4_fallingSet_2 (by decide) ?_
  refine wt_istore_n (pc := 3) (i := 3) (ls' := [(3, .int 0), (2, .int 0), (0, rf G.1 l0), (1, .int l1)]) rfl dX4_fallingSet_3 (by decide) rfl ?_
  refine wt_sub (ls' := [(0, rf G.1 l0), (1, .int l1), (2, .int 0), (3, .int 0)]) [2, 3, 1, 0] rfl ?_
  exact t_X4_fallingSet_4 he  fu h
set_option maxHeartbeats 4000000 in
set_option maxRecDepth 100000 in
theorem c_X4_fallingSet {G : GG} {M : Mm} {l0 : Option Nat} {l1 : Int32} {r : Int32 × Mm} (h : f_X4_fallingSet M l0 l1 = some r) (l : Launch) : Ct l G j_X4_fallingSet b_X4_fallingSet [rf G.1 l0, .int l1] M (some (.int r.1)) r.2 := cf_I (by decide +kernel) (by simp [lg_sl, rf_cat, cat_i, cat_l, j_X4_fallingSet]) rfl (by simp [lv_args, rf_cat, cat_i, cat_l]) (fun X he => t_X4_fallingSet_e he h)
def f_X4_blow_87 (k43 : Mm → Option Nat → Int32 → Int32 → Option (Int32 × Mm)) (M : Mm) (l0 : Option Nat) (l2 : Int32) (l3 : Int32) : Option (Int32 × Mm) := k43 M l0 l2 (l3 + 1)
def f_X4_blow_43 : Nat → Mm → Option Nat → Int32 → Int32 → Option (Int32 × Mm)
  | 0, _, _, _, _ => none
  | n + 1, M, l0, l2, l3 => gfI M l0 4 4 fun v45 => if v45 ≤ l3 then (bd (f_J6_bitCount_0f7a4 M l2) fun v94 M94 => some (v94, M94)) else (gfR M l0 4 1 fun v52 => alR M v52 30 l3 fun v56 => gfI M v56 0 5 fun v57 => if v57 = (-1) then (f_X4_blow_87 (f_X4_blow_43 n) M l0 l2 l3) else (if ((l2 >>> (v57 &&& 31)) &&& 1) = 1 then (gfR M l0 4 1 fun v79 => alR M v79 30 l3 fun v83 => ck M v83 0 <| bv (f_X0_putDown M v83) fun M84 => f_X4_blow_87 (f_X4_blow_43 n) M84 l0 l2 l3) else (f_X4_blow_87 (f_X4_blow_43 n) M l0 l2 l3)))
def f_X4_blow_35 (k8 : Mm → Option Nat → Int32 → Int32 → Option (Int32 × Mm)) (M : Mm) (l0 : Option Nat) (l2 : Int32) (l3 : Int32) : Option (Int32 × Mm) := k8 M l0 l2 (l3 + 1)
def f_X4_blow_8 : Nat → Mm → Option Nat → Int32 → Int32 → Option (Int32 × Mm)
  | 0, _, _, _, _ => none
  | n + 1, M, l0, l2, l3 => gfI M l0 4 3 fun v10 => if v10 ≤ l3 then (f_X4_blow_43  fu M l0 l2 0) else (if ((l2 >>> (l3 &&& 31)) &&& 1) = 1 then (gfR M l0 4 0 fun v26 => alR M v26 31 l3 fun v30 => pfZ M v30 1 8 0 fun M32 => f_X4_blow_35 (f_X4_blow_8 n) M32 l0 l2 l3) else (f_X4_blow_35 (f_X4_blow_8 n) M l0 l2 l3))
def f_X4_blow (M : Mm) (l0 : Option Nat) (l1 : Int32) : Option (Int32 × Mm) := ck M l0 4 <| bd (f_X4_fallingSet M l0 l1) fun v2 M2 => f_X4_blow_8  fu M2 l0 v2 0
set_option maxHeartbeats 4000000 in
set_option maxRecDepth 100000 in
theorem t_X4_blow_87 {G : GG} {X : CX} {ans : Int32 × Mm} (he : EndI G X j_X4_blow b_X4_blow ans) {k43 : Mm → Option Nat → Int32 → Int32 → Option (Int32 × Mm)} (hk43 : ∀ (M : Mm) (a0 : Option Nat) (a2 : Int32) (a3 : Int32), k43 M a0 a2 a3 = some ans → Wt G X j_X4_blow b_X4_blow 43 [(0, rf G.1 a0), (2, .int a2), (3, .int a3)] [] M 0 0) {M : Mm} {l0 : Option Nat} {l2 : Int32} {l3 : Int32} (h : f_X4_blow_87 k43 M l0 l2 l3 = some ans) : Wt G X j_X4_blow b_X4_blow 87 [(0, rf G.1 l0), (2, .int l2), (3, .int l3)] [] M 0 0 := by
  unfold f_X4_blow_87 at h
  refine wt_iinc (pc := 87) (d := 1) (ls' := [(3, .int (l3 + 1)), (0, rf G.1 l0), (2, .int l2)]) 2 dX4_blow_87 rfl (by decide) (by decide) rfl ?_
  refine wt_goto (pc := 90) (tgt := 43) dX4_blow_90 (by decide) ?_
  refine wt_sub (ls' := [(0, rf G.1 l0), (2, .int l2), (3, .int (l3 + 1))]) [1, 2, 0] rfl ?_
  exact hk43 _ _ _ _ h
set_option maxHeartbeats 4000000 in
set_option maxRecDepth 100000 in
theorem t_X4_blow_43 {G : GG} {X : CX} {ans : Int32 × Mm} (he : EndI G X j_X4_blow b_X4_blow ans) : ∀ (n : Nat) {M : Mm} {l0 : Option Nat} {l2 : Int32} {l3 : Int32}, f_X4_blow_43 n M l0 l2 l3 = some ans → Wt G X j_X4_blow b_X4_blow 43 [(0, rf G.1 l0), (2, .int l2), (3, .int l3)] [] M 0 0 := by
  intro n
  induction n with
  | zero =>
    intro M l0 l2 l3 h
    rw [f_X4_blow_43] at h
    cases h
  | succ n ih =>
    intro M l0 l2 l3 h
    rw [f_X4_blow_43] at h
    refine wt_iload_n (pc := 43) 2 dX4_blow_43 rfl ?_
    refine wt_aload_n (pc := 44) 0 dX4_blow_44 rfl ?_
    refine wt_getI (pc := 45) dX4_blow_45 fl_X4_44 (fun _ _ _ => rfl) h (fun v45 h => ?_)
    refine wt_icmp_ge (pc := 48) (tgt := 93) dX4_blow_48 (by decide) (fun q => ?_) (fun q => ?_)
    · have h := ite_t q h
      refine wt_iload_n (pc := 93) 1 dX4_blow_93 rfl ?_
      refine wt_cSI (pc := 94) (J' := j_J6_bitCount_0f7a4) (As := [.int l2]) (st := []) (B' := b_J6_bitCount_0f7a4) (u' := 0) (w' := 0) dX4_blow_94 ml_X4_189 ms_J6_bitCount_0f7a4 (fun v9 M9 e9 => c_J6_bitCount_0f7a4 e9) rfl (by decide) rfl rfl (by decide) (by decide) (by decide) rfl h (fun v94 M94 h => ?_)
      cases h
      exact he 97 _ _ _ dX4_blow_97 (by decide) (by decide)
    · have h := ite_f q h
      refine wt_aload_n (pc := 51) 0 dX4_blow_51 rfl ?_
      refine wt_getR (pc := 52) dX4_blow_52 fl_X4_19 (fun _ _ _ => rfl) h (fun v52 h => ?_)
      refine wt_iload_n (pc := 55) 2 dX4_blow_55 rfl ?_
      refine wt_aaload (pc := 56) (kd := 30) dX4_blow_56 rfl rfl (by decide) h (fun v56 h => ?_)
      refine wt_getI (pc := 57) dX4_blow_57 fl_X4_113 (fun _ _ _ => rfl) h (fun v57 h => ?_)
      refine wt_istore (pc := 60) (i := 4) (ls' := [(4, .int v57), (0, rf G.1 l0), (2, .int l2), (3, .int l3)]) dX4_blow_60 (by decide) rfl ?_
      refine wt_iload (pc := 62) 0 dX4_blow_62 rfl ?_
      refine wt_iconst (pc := 64) (v := (-1)) dX4_blow_64 (by decide) ?_
      refine wt_icmp_eq (pc := 65) (tgt := 87) dX4_blow_65 (by decide) (fun q => ?_) (fun q => ?_)
      · have h := ite_t q h
        refine wt_sub (ls' := [(0, rf G.1 l0), (2, .int l2), (3, .int l3)]) [1, 2, 3] rfl ?_
        exact t_X4_blow_87 he (fun _ _ _ _ h => ih h) h
      · have h := ite_f q h
        refine wt_iload_n (pc := 68) 2 dX4_blow_68 rfl ?_
        refine wt_iload (pc := 69) 0 dX4_blow_69 rfl ?_
        refine wt_ishr (pc := 71) dX4_blow_71 ?_
        refine wt_iconst (pc := 72) (v := 1) dX4_blow_72 (by decide) ?_
        refine wt_iand (pc := 73) dX4_blow_73 ?_
        refine wt_iconst (pc := 74) (v := 1) dX4_blow_74 (by decide) ?_
        refine wt_icmp_ne (pc := 75) (tgt := 87) dX4_blow_75 (by decide) (fun q => ?_) (fun q => ?_)
        · have h := ite_f q h
          refine wt_sub (ls' := [(0, rf G.1 l0), (2, .int l2), (3, .int l3)]) [1, 2, 3] rfl ?_
          exact t_X4_blow_87 he (fun _ _ _ _ h => ih h) h
        · have h := ite_t q h
          refine wt_aload_n (pc := 78) 1 dX4_blow_78 rfl ?_
          refine wt_getR (pc := 79) dX4_blow_79 fl_X4_19 (fun _ _ _ => rfl) h (fun v79 h => ?_)
          refine wt_iload_n (pc := 82) 3 dX4_blow_82 rfl ?_
          refine wt_aaload (pc := 83) (kd := 30) dX4_blow_83 rfl rfl (by decide) h (fun v83 h => ?_)
          refine wt_cVV (pc := 84) (J' := j_X0_putDown) (As := []) (st := []) (B' := b_X0_putDown) (u' := 0) (w' := 0) dX4_blow_84 ml_X4_183 mv_X0_putDown (fun M9 e9 => c_X0_putDown e9) rfl (by decide) rfl rfl (by decide) (by decide) (by decide) rfl h (fun M84 h => ?_)
          refine wt_sub (ls' := [(0, rf G.1 l0), (2, .int l2), (3, .int l3)]) [1, 2, 3] rfl ?_
          exact t_X4_blow_87 he (fun _ _ _ _ h => ih h) h
set_option maxHeartbeats 4000000 in
set_option maxRecDepth 100000 in
theorem t_X4_blow_35 {G : GG} {X : CX} {ans : Int32 × Mm} (he : EndI G X j_X4_blow b_X4_blow ans) {k8 : Mm → Option Nat → Int32 → Int32 → Option (Int32 × Mm)} (hk8 : ∀ (M : Mm) (a0 : Option Nat) (a2 : Int32) (a3 : Int32), k8 M a0 a2 a3 = some ans → Wt G X j_X4_blow b_X4_blow 8 [(0, rf G.1 a0), (2, .int a2), (3, .int a3)] [] M 0 0) {M : Mm} {l0 : Option Nat} {l2 : Int32} {l3 : Int32} (h : f_X4_blow_35 k8 M l0 l2 l3 = some ans) : Wt G X j_X4_blow b_X4_blow 35 [(0, rf G.1 l0), (2, .int l2), (3, .int l3)] [] M 0 0 := by
  unfold f_X4_blow_35 at h
  refine wt_iinc (pc := 35) (d := 1) (ls' := [(3, .int (l3 + 1)), (0, rf G.1 l0), (2, .int l2)]) 2 dX4_blow_35 rfl (by decide) (by decide) rfl ?_
  refine wt_goto (pc := 38) (tgt := 8) dX4_blow_38 (by decide) ?_
  refine wt_sub (ls' := [(0, rf G.1 l0), (2, .int l2), (3, .int (l3 + 1))]) [1, 2, 0] rfl ?_
  exact hk8 _ _ _ _ h
set_option maxHeartbeats 4000000 in
set_option maxRecDepth 100000 in
theorem t_X4_blow_8 {G : GG} {X : CX} {ans : Int32 × Mm} (he : EndI G X j_X4_blow b_X4_blow ans) : ∀ (n : Nat) {M : Mm} {l0 : Option Nat} {l2 : Int32} {l3 : Int32}, f_X4_blow_8 n M l0 l2 l3 = some ans → Wt G X j_X4_blow b_X4_blow 8 [(0, rf G.1 l0), (2, .int l2), (3, .int l3)] [] M 0 0 := by
  intro n
  induction n with
  | zero =>
    intro M l0 l2 l3 h
    rw [f_X4_blow_8] at h
    cases h
  | succ n ih =>
    intro M l0 l2 l3 h
    rw [f_X4_blow_8] at h
    refine wt_iload_n (pc := 8) 2 dX4_blow_8 rfl ?_
    refine wt_aload_n (pc := 9) 0 dX4_blow_9 rfl ?_
    refine wt_getI (pc := 10) dX4_blow_10 fl_X4_41 (fun _ _ _ => rfl) h (fun v10 h => ?_)
    refine wt_icmp_ge (pc := 13) (tgt := 41) dX4_blow_13 (by decide) (fun q => ?_) (fun q => ?_)
    · have h := ite_t q h
      refine wt_iconst (pc := 41) (v := 0) dX4_blow_41 (by decide) ?_
      refine wt_istore_n (pc := 42) (i := 3) (ls' := [(3, .int 0), (0, rf G.1 l0), (2, .int l2)]) rfl dX4_blow_42 (by decide) rfl ?_
      refine wt_sub (ls' := [(0, rf G.1 l0), (2, .int l2), (3, .int 0)]) [1, 2, 0] rfl ?_
      exact t_X4_blow_43 he  fu h
    · have h := ite_f q h
      refine wt_iload_n (pc := 16) 1 dX4_blow_16 rfl ?_
      refine wt_iload_n (pc := 17) 2 dX4_blow_17 rfl ?_
      refine wt_ishr (pc := 18) dX4_blow_18 ?_
      refine wt_iconst (pc := 19) (v := 1) dX4_blow_19 (by decide) ?_
      refine wt_iand (pc := 20) dX4_blow_20 ?_
      refine wt_iconst (pc := 21) (v := 1) dX4_blow_21 (by decide) ?_
      refine wt_icmp_ne (pc := 22) (tgt := 35) dX4_blow_22 (by decide) (fun q => ?_) (fun q => ?_)
      · have h := ite_f q h
        exact t_X4_blow_35 he (fun _ _ _ _ h => ih h) h
      · have h := ite_t q h
        refine wt_aload_n (pc := 25) 0 dX4_blow_25 rfl ?_
        refine wt_getR (pc := 26) dX4_blow_26 fl_X4_11 (fun _ _ _ => rfl) h (fun v26 h => ?_)
        refine wt_iload_n (pc := 29) 2 dX4_blow_29 rfl ?_
        refine wt_aaload (pc := 30) (kd := 31) dX4_blow_30 rfl rfl (by decide) h (fun v30 h => ?_)
        refine wt_iconst (pc := 31) (v := 0) dX4_blow_31 (by decide) ?_
        refine wt_putZ (pc := 32) dX4_blow_32 fl_X4_82 rfl rfl h (fun M32 h => ?_)
        exact t_X4_blow_35 he (fun _ _ _ _ h => ih h) h
set_option maxHeartbeats 4000000 in
set_option maxRecDepth 100000 in
theorem t_X4_blow_e {G : GG} {X : CX} {ans : Int32 × Mm} (he : EndI G X j_X4_blow b_X4_blow ans) {M : Mm} {l0 : Option Nat} {l1 : Int32} (h : f_X4_blow M l0 l1 = some ans) : Wt G X j_X4_blow b_X4_blow 0 [(0, rf G.1 l0), (1, .int l1)] [] M 0 0 := by
  unfold f_X4_blow at h
  refine wt_aload_n (pc := 0) 0 dX4_blow_0 rfl ?_
  refine wt_iload_n (pc := 1) 1 dX4_blow_1 rfl ?_
  refine wt_cVI (pc := 2) (J' := j_X4_fallingSet) (As := [.int l1]) (st := []) (B' := b_X4_fallingSet) (u' := 0) (w' := 0) dX4_blow_2 ml_X4_186 mv_X4_fallingSet (fun v9 M9 e9 => c_X4_fallingSet e9) rfl (by decide) rfl rfl (by decide) (by decide) (by decide) rfl h (fun v2 M2 h => ?_)
  refine wt_istore_n (pc := 5) (i := 2) (ls' := [(2, .int v2), (0, rf G.1 l0), (1, .int l1)]) rfl dX4_blow_5 (by decide) rfl ?_
  refine wt_iconst (pc := 6) (v := 0) dX4_blow_6 (by decide) ?_
  refine wt_istore_n (pc := 7) (i := 3) (ls' := [(3, .int 0), (2, .int v2), (0, rf G.1 l0), (1, .int l1)]) rfl dX4_blow_7 (by decide) rfl ?_
  refine wt_sub (ls' := [(0, rf G.1 l0), (2, .int v2), (3, .int 0)]) [2, 1, 0] rfl ?_
  exact t_X4_blow_8 he  fu h
set_option maxHeartbeats 4000000 in
set_option maxRecDepth 100000 in
theorem c_X4_blow {G : GG} {M : Mm} {l0 : Option Nat} {l1 : Int32} {r : Int32 × Mm} (h : f_X4_blow M l0 l1 = some r) (l : Launch) : Ct l G j_X4_blow b_X4_blow [rf G.1 l0, .int l1] M (some (.int r.1)) r.2 := cf_I (by decide +kernel) (by simp [lg_sl, rf_cat, cat_i, cat_l, j_X4_blow]) rfl (by simp [lv_args, rf_cat, cat_i, cat_l]) (fun X he => t_X4_blow_e he h)
def f_X4_breakDay_56 : Nat → Mm → Option Nat → Int32 → Int32 → Option (Int32 × Mm)
  | 0, _, _, _, _ => none
  | n + 1, M, l0, l1, l2 => gfI M l0 4 4 fun v58 => if v58 ≤ l2 then (pfI M l0 4 8 0 fun M81 => some (l1, M81)) else (gfR M l0 4 1 fun v65 => alR M v65 30 l2 fun v69 => ck M v69 0 <| bv (f_X0_putDown M v69) fun M70 => f_X4_breakDay_56 n M70 l0 l1 (l2 + 1))
def f_X4_breakDay_48 (k4 : Mm → Option Nat → Int32 → Int32 → Option (Int32 × Mm)) (M : Mm) (l0 : Option Nat) (l1 : Int32) (l2 : Int32) : Option (Int32 × Mm) := k4 M l0 l1 (l2 + 1)
def f_X4_breakDay_4 : Nat → Mm → Option Nat → Int32 → Int32 → Option (Int32 × Mm)
  | 0, _, _, _, _ => none
  | n + 1, M, l0, l1, l2 => gfI M l0 4 3 fun v6 => if v6 ≤ l2 then (f_X4_breakDay_56  fu M l0 l1 0) else (gfR M l0 4 0 fun v13 => alR M v13 31 l2 fun v17 => gfI M v17 1 8 fun v20 => if v20 = 0 then (f_X4_breakDay_48 (f_X4_breakDay_4 n) M l0 l1 l2) else (gfI M v17 1 7 fun v27 => gfI M v17 1 3 fun v31 => if v31 ≤ v27 then (f_X4_breakDay_48 (f_X4_breakDay_4 n) M l0 l1 l2) else (gfI M v17 1 3 fun v39 => pfI M v17 1 7 v39 fun M42 => f_X4_breakDay_48 (f_X4_breakDay_4 n) M42 l0 (l1 + 1) l2)))
def f_X4_breakDay (M : Mm) (l0 : Option Nat) : Option (Int32 × Mm) := f_X4_breakDay_4  fu M l0 0 0
set_option maxHeartbeats 4000000 in
set_option maxRecDepth 100000 in
theorem t_X4_breakDay_56 {G : GG} {X : CX} {ans : Int32 × Mm} (he : EndI G X j_X4_breakDay b_X4_breakDay ans) : ∀ (n : Nat) {M : Mm} {l0 : Option Nat} {l1 : Int32} {l2 : Int32}, f_X4_breakDay_56 n M l0 l1 l2 = some ans → Wt G X j_X4_breakDay b_X4_breakDay 56 [(0, rf G.1 l0), (1, .int l1), (2, .int l2)] [] M 0 0 := by
  intro n
  induction n with
  | zero =>
    intro M l0 l1 l2 h
    rw [f_X4_breakDay_56] at h
    cases h
  | succ n ih =>
    intro M l0 l1 l2 h
    rw [f_X4_breakDay_56] at h
    refine wt_iload_n (pc := 56) 2 dX4_breakDay_56 rfl ?_
    refine wt_aload_n (pc := 57) 0 dX4_breakDay_57 rfl ?_
    refine wt_getI (pc := 58) dX4_breakDay_58 fl_X4_44 (fun _ _ _ => rfl) h (fun v58 h => ?_)
    refine wt_icmp_ge (pc := 61) (tgt := 79) dX4_breakDay_61 (by decide) (fun q => ?_) (fun q => ?_)
    · have h := ite_t q h
      refine wt_aload_n (pc := 79) 0 dX4_breakDay_79 rfl ?_
      refine wt_iconst (pc := 80) (v := 0) dX4_breakDay_80 (by decide) ?_
      refine wt_putI (pc := 81) dX4_breakDay_81 fl_X4_50 rfl rfl h (fun M81 h => ?_)
      refine wt_iload_n (pc := 84) 1 dX4_breakDay_84 rfl ?_
      cases h
      exact he 85 _ _ _ dX4_breakDay_85 (by decide) (by decide)
    · have h := ite_f q h
      refine wt_aload_n (pc := 64) 0 dX4_breakDay_64 rfl ?_
      refine wt_getR (pc := 65) dX4_breakDay_65 fl_X4_19 (fun _ _ _ => rfl) h (fun v65 h => ?_)
      refine wt_iload_n (pc := 68) 2 dX4_breakDay_68 rfl ?_
      refine wt_aaload (pc := 69) (kd := 30) dX4_breakDay_69 rfl rfl (by decide) h (fun v69 h => ?_)
      refine wt_cVV (pc := 70) (J' := j_X0_putDown) (As := []) (st := []) (B' := b_X0_putDown) (u' := 0) (w' := 0) dX4_breakDay_70 ml_X4_183 mv_X0_putDown (fun M9 e9 => c_X0_putDown e9) rfl (by decide) rfl rfl (by decide) (by decide) (by decide) rfl h (fun M70 h => ?_)
      refine wt_iinc (pc := 73) (d := 1) (ls' := [(2, .int (l2 + 1)), (0, rf G.1 l0), (1, .int l1)]) 2 dX4_breakDay_73 rfl (by decide) (by decide) rfl ?_
      refine wt_goto (pc := 76) (tgt := 56) dX4_breakDay_76 (by decide) ?_
      refine wt_sub (ls' := [(0, rf G.1 l0), (1, .int l1), (2, .int (l2 + 1))]) [1, 2, 0] rfl ?_
      exact ih h
set_option maxHeartbeats 4000000 in
set_option maxRecDepth 100000 in
theorem t_X4_breakDay_48 {G : GG} {X : CX} {ans : Int32 × Mm} (he : EndI G X j_X4_breakDay b_X4_breakDay ans) {k4 : Mm → Option Nat → Int32 → Int32 → Option (Int32 × Mm)} (hk4 : ∀ (M : Mm) (a0 : Option Nat) (a1 : Int32) (a2 : Int32), k4 M a0 a1 a2 = some ans → Wt G X j_X4_breakDay b_X4_breakDay 4 [(0, rf G.1 a0), (1, .int a1), (2, .int a2)] [] M 0 0) {M : Mm} {l0 : Option Nat} {l1 : Int32} {l2 : Int32} (h : f_X4_breakDay_48 k4 M l0 l1 l2 = some ans) : Wt G X j_X4_breakDay b_X4_breakDay 48 [(0, rf G.1 l0), (1, .int l1), (2, .int l2)] [] M 0 0 := by
  unfold f_X4_breakDay_48 at h
  refine wt_iinc (pc := 48) (d := 1) (ls' := [(2, .int (l2 + 1)), (0, rf G.1 l0), (1, .int l1)]) 2 dX4_breakDay_48 rfl (by decide) (by decide) rfl ?_
  refine wt_goto (pc := 51) (tgt := 4) dX4_breakDay_51 (by decide) ?_
  refine wt_sub (ls' := [(0, rf G.1 l0), (1, .int l1), (2, .int (l2 + 1))]) [1, 2, 0] rfl ?_
  exact hk4 _ _ _ _ h
set_option maxHeartbeats 4000000 in
set_option maxRecDepth 100000 in
theorem t_X4_breakDay_4 {G : GG} {X : CX} {ans : Int32 × Mm} (he : EndI G X j_X4_breakDay b_X4_breakDay ans) : ∀ (n : Nat) {M : Mm} {l0 : Option Nat} {l1 : Int32} {l2 : Int32}, f_X4_breakDay_4 n M l0 l1 l2 = some ans → Wt G X j_X4_breakDay b_X4_breakDay 4 [(0, rf G.1 l0), (1, .int l1), (2, .int l2)] [] M 0 0 := by
  intro n
  induction n with
  | zero =>
    intro M l0 l1 l2 h
    rw [f_X4_breakDay_4] at h
    cases h
  | succ n ih =>
    intro M l0 l1 l2 h
    rw [f_X4_breakDay_4] at h
    refine wt_iload_n (pc := 4) 2 dX4_breakDay_4 rfl ?_
    refine wt_aload_n (pc := 5) 0 dX4_breakDay_5 rfl ?_
    refine wt_getI (pc := 6) dX4_breakDay_6 fl_X4_41 (fun _ _ _ => rfl) h (fun v6 h => ?_)
    refine wt_icmp_ge (pc := 9) (tgt := 54) dX4_breakDay_9 (by decide) (fun q => ?_) (fun q => ?_)
    · have h := ite_t q h
      refine wt_iconst (pc := 54) (v := 0) dX4_breakDay_54 (by decide) ?_
      refine wt_istore_n (pc := 55) (i := 2) (ls' := [(2, .int 0), (0, rf G.1 l0), (1, .int l1)]) rfl dX4_breakDay_55 (by decide) rfl ?_
      refine wt_sub (ls' := [(0, rf G.1 l0), (1, .int l1), (2, .int 0)]) [1, 2, 0] rfl ?_
      exact t_X4_breakDay_56 he  fu h
    · have h := ite_f q h
      refine wt_aload_n (pc := 12) 0 dX4_breakDay_12 rfl ?_
      refine wt_getR (pc := 13) dX4_breakDay_13 fl_X4_11 (fun _ _ _ => rfl) h (fun v13 h => ?_)
      refine wt_iload_n (pc := 16) 2 dX4_breakDay_16 rfl ?_
      refine wt_aaload (pc := 17) (kd := 31) dX4_breakDay_17 rfl rfl (by decide) h (fun v17 h => ?_)
      refine wt_astore_n (pc := 18) (i := 3) (ls' := [(3, rf G.1 v17), (0, rf G.1 l0), (1, .int l1), (2, .int l2)]) rfl dX4_breakDay_18 (by decide) rfl ?_
      refine wt_aload_n (pc := 19) 0 dX4_breakDay_19 rfl ?_
      refine wt_getI (pc := 20) dX4_breakDay_20 fl_X4_82 (fun _ _ _ => rfl) h (fun v20 h => ?_)
      refine wt_if_eq (pc := 23) (tgt := 48) dX4_breakDay_23 (by decide) (fun q => ?_) (fun q => ?_)
      · have h := ite_t q h
        refine wt_sub (ls' := [(0, rf G.1 l0), (1, .int l1), (2, .int l2)]) [1, 2, 3] rfl ?_
        exact t_X4_breakDay_48 he (fun _ _ _ _ h => ih h) h
      · have h := ite_f q h
        refine wt_aload_n (pc := 26) 0 dX4_breakDay_26 rfl ?_
        refine wt_getI (pc := 27) dX4_breakDay_27 fl_X4_177 (fun _ _ _ => rfl) h (fun v27 h => ?_)
        refine wt_aload_n (pc := 30) 0 dX4_breakDay_30 rfl ?_
        refine wt_getI (pc := 31) dX4_breakDay_31 fl_X4_194 (fun _ _ _ => rfl) h (fun v31 h => ?_)
        refine wt_icmp_ge (pc := 34) (tgt := 48) dX4_breakDay_34 (by decide) (fun q => ?_) (fun q => ?_)
        · have h := ite_t q h
          refine wt_sub (ls' := [(0, rf G.1 l0), (1, .int l1), (2, .int l2)]) [1, 2, 3] rfl ?_
          exact t_X4_breakDay_48 he (fun _ _ _ _ h => ih h) h
        · have h := ite_f q h
          refine wt_aload_n (pc := 37) 0 dX4_breakDay_37 rfl ?_
          refine wt_aload_n (pc := 38) 0 dX4_breakDay_38 rfl ?_
          refine wt_getI (pc := 39) dX4_breakDay_39 fl_X4_194 (fun _ _ _ => rfl) h (fun v39 h => ?_)
          refine wt_putI (pc := 42) dX4_breakDay_42 fl_X4_177 rfl rfl h (fun M42 h => ?_)
          refine wt_iinc (pc := 45) (d := 1) (ls' := [(1, .int (l1 + 1)), (3, rf G.1 v17), (0, rf G.1 l0), (2, .int l2)]) 2 dX4_breakDay_45 rfl (by decide) (by decide) (by simp [rf_cat, cat_i, cat_l, cat_r]) ?_
          refine wt_sub (ls' := [(0, rf G.1 l0), (1, .int (l1 + 1)), (2, .int l2)]) [2, 0, 3] rfl ?_
          exact t_X4_breakDay_48 he (fun _ _ _ _ h => ih h) h
set_option maxHeartbeats 4000000 in
set_option maxRecDepth 100000 in
theorem t_X4_breakDay_e {G : GG} {X : CX} {ans : Int32 × Mm} (he : EndI G X j_X4_breakDay b_X4_breakDay ans) {M : Mm} {l0 : Option Nat} (h : f_X4_breakDay M l0 = some ans) : Wt G X j_X4_breakDay b_X4_breakDay 0 [(0, rf G.1 l0)] [] M 0 0 := by
  unfold f_X4_breakDay at h
  refine wt_iconst (pc := 0) (v := 0) dX4_breakDay_0 (by decide) ?_
  refine wt_istore_n (pc := 1) (i := 1) (ls' := [(1, .int 0), (0, rf G.1 l0)]) rfl dX4_breakDay_1 (by decide) (by simp [rf_cat, cat_i, cat_l, cat_r]) ?_
  refine wt_iconst (pc := 2) (v := 0) dX4_breakDay_2 (by decide) ?_
  refine wt_istore_n (pc := 3) (i := 2) (ls' := [(2, .int 0), (1, .int 0), (0, rf G.1 l0)]) rfl dX4_breakDay_3 (by decide) rfl ?_
  refine wt_sub (ls' := [(0, rf G.1 l0), (1, .int 0), (2, .int 0)]) [2, 1, 0] rfl ?_
  exact t_X4_breakDay_4 he  fu h
set_option maxHeartbeats 4000000 in
set_option maxRecDepth 100000 in
theorem c_X4_breakDay {G : GG} {M : Mm} {l0 : Option Nat} {r : Int32 × Mm} (h : f_X4_breakDay M l0 = some r) (l : Launch) : Ct l G j_X4_breakDay b_X4_breakDay [rf G.1 l0] M (some (.int r.1)) r.2 := cf_I (by decide +kernel) (by simp [lg_sl, rf_cat, cat_i, cat_l, j_X4_breakDay]) rfl (by simp [lv_args, rf_cat, cat_i, cat_l]) (fun X he => t_X4_breakDay_e he h)
def f_X4_standingSet_30 (k4 : Mm → Option Nat → Int32 → Int32 → Option (Int32 × Mm)) (M : Mm) (l0 : Option Nat) (l1 : Int32) (l2 : Int32) : Option (Int32 × Mm) := k4 M l0 l1 (l2 + 1)
def f_X4_standingSet_4 : Nat → Mm → Option Nat → Int32 → Int32 → Option (Int32 × Mm)
  | 0, _, _, _, _ => none
  | n + 1, M, l0, l1, l2 => gfI M l0 4 3 fun v6 => if v6 ≤ l2 then (some (l1, M)) else (gfR M l0 4 0 fun v13 => alR M v13 31 l2 fun v17 => gfI M v17 1 8 fun v18 => if v18 = 0 then (f_X4_standingSet_30 (f_X4_standingSet_4 n) M l0 l1 l2) else (nmI (l1 ||| (1 <<< (l2 &&& 31))) fun x29 => f_X4_standingSet_30 (f_X4_standingSet_4 n) M l0 x29 l2))
def f_X4_standingSet (M : Mm) (l0 : Option Nat) : Option (Int32 × Mm) := f_X4_standingSet_4  fu M l0 0 0
set_option maxHeartbeats 4000000 in
set_option maxRecDepth 100000 in
theorem t_X4_standingSet_30 {G : GG} {X : CX} {ans : Int32 × Mm} (he : EndI G X j_X4_standingSet b_X4_standingSet ans) {k4 : Mm → Option Nat → Int32 → Int32 → Option (Int32 × Mm)} (hk4 : ∀ (M : Mm) (a0 : Option Nat) (a1 : Int32) (a2 : Int32), k4 M a0 a1 a2 = some ans → Wt G X j_X4_standingSet b_X4_standingSet 4 [(0, rf G.1 a0), (1, .int a1), (2, .int a2)] [] M 0 0) {M : Mm} {l0 : Option Nat} {l1 : Int32} {l2 : Int32} (h : f_X4_standingSet_30 k4 M l0 l1 l2 = some ans) : Wt G X j_X4_standingSet b_X4_standingSet 30 [(0, rf G.1 l0), (1, .int l1), (2, .int l2)] [] M 0 0 := by
  unfold f_X4_standingSet_30 at h
  refine wt_iinc (pc := 30) (d := 1) (ls' := [(2, .int (l2 + 1)), (0, rf G.1 l0), (1, .int l1)]) 2 dX4_standingSet_30 rfl (by decide) (by decide) rfl ?_
  refine wt_goto (pc := 33) (tgt := 4) dX4_standingSet_33 (by decide) ?_
  refine wt_sub (ls' := [(0, rf G.1 l0), (1, .int l1), (2, .int (l2 + 1))]) [1, 2, 0] rfl ?_
  exact hk4 _ _ _ _ h
set_option maxHeartbeats 4000000 in
set_option maxRecDepth 100000 in
theorem t_X4_standingSet_4 {G : GG} {X : CX} {ans : Int32 × Mm} (he : EndI G X j_X4_standingSet b_X4_standingSet ans) : ∀ (n : Nat) {M : Mm} {l0 : Option Nat} {l1 : Int32} {l2 : Int32}, f_X4_standingSet_4 n M l0 l1 l2 = some ans → Wt G X j_X4_standingSet b_X4_standingSet 4 [(0, rf G.1 l0), (1, .int l1), (2, .int l2)] [] M 0 0 := by
  intro n
  induction n with
  | zero =>
    intro M l0 l1 l2 h
    rw [f_X4_standingSet_4] at h
    cases h
  | succ n ih =>
    intro M l0 l1 l2 h
    rw [f_X4_standingSet_4] at h
    refine wt_iload_n (pc := 4) 2 dX4_standingSet_4 rfl ?_
    refine wt_aload_n (pc := 5) 0 dX4_standingSet_5 rfl ?_
    refine wt_getI (pc := 6) dX4_standingSet_6 fl_X4_41 (fun _ _ _ => rfl) h (fun v6 h => ?_)
    refine wt_icmp_ge (pc := 9) (tgt := 36) dX4_standingSet_9 (by decide) (fun q => ?_) (fun q => ?_)
    · have h := ite_t q h
      refine wt_iload_n (pc := 36) 1 dX4_standingSet_36 rfl ?_
      cases h
      exact he 37 _ _ _ dX4_standingSet_37 (by decide) (by decide)
    · have h := ite_f q h
      refine wt_aload_n (pc := 12) 0 dX4_standingSet_12 rfl ?_
      refine wt_getR (pc := 13) dX4_standingSet_13 fl_X4_11 (fun _ _ _ => rfl) h (fun v13 h => ?_)
      refine wt_iload_n (pc := 16) 2 dX4_standingSet_16 rfl ?_
      refine wt_aaload (pc := 17) (kd := 31) dX4_standingSet_17 rfl rfl (by decide) h (fun v17 h => ?_)
      refine wt_getI (pc := 18) dX4_standingSet_18 fl_X4_82 (fun _ _ _ => rfl) h (fun v18 h => ?_)
      refine wt_if_eq (pc := 21) (tgt := 30) dX4_standingSet_21 (by decide) (fun q => ?_) (fun q => ?_)
      · have h := ite_t q h
        exact t_X4_standingSet_30 he (fun _ _ _ _ h => ih h) h
      · have h := ite_f q h
        refine wt_iload_n (pc := 24) 1 dX4_standingSet_24 rfl ?_
        refine wt_iconst (pc := 25) (v := 1) dX4_standingSet_25 (by decide) ?_
        refine wt_iload_n (pc := 26) 2 dX4_standingSet_26 rfl ?_
        refine wt_ishl (pc := 27) dX4_standingSet_27 ?_
        refine wt_ior (pc := 28) dX4_standingSet_28 ?_
        refine wt_nmI h (fun x29 h => ?_)
        refine wt_istore_n (pc := 29) (i := 1) (ls' := [(1, .int x29), (0, rf G.1 l0), (2, .int l2)]) rfl dX4_standingSet_29 (by decide) (by simp [rf_cat, cat_i, cat_l, cat_r]) ?_
        refine wt_sub (ls' := [(0, rf G.1 l0), (1, .int x29), (2, .int l2)]) [1, 0, 2] rfl ?_
        exact t_X4_standingSet_30 he (fun _ _ _ _ h => ih h) h
set_option maxHeartbeats 4000000 in
set_option maxRecDepth 100000 in
theorem t_X4_standingSet_e {G : GG} {X : CX} {ans : Int32 × Mm} (he : EndI G X j_X4_standingSet b_X4_standingSet ans) {M : Mm} {l0 : Option Nat} (h : f_X4_standingSet M l0 = some ans) : Wt G X j_X4_standingSet b_X4_standingSet 0 [(0, rf G.1 l0)] [] M 0 0 := by
  unfold f_X4_standingSet at h
  refine wt_iconst (pc := 0) (v := 0) dX4_standingSet_0 (by decide) ?_
  refine wt_istore_n (pc := 1) (i := 1) (ls' := [(1, .int 0), (0, rf G.1 l0)]) rfl dX4_standingSet_1 (by decide) (by simp [rf_cat, cat_i, cat_l, cat_r]) ?_
  refine wt_iconst (pc := 2) (v := 0) dX4_standingSet_2 (by decide) ?_
  refine wt_istore_n (pc := 3) (i := 2) (ls' := [(2, .int 0), (1, .int 0), (0, rf G.1 l0)]) rfl dX4_standingSet_3 (by decide) rfl ?_
  refine wt_sub (ls' := [(0, rf G.1 l0), (1, .int 0), (2, .int 0)]) [2, 1, 0] rfl ?_
  exact t_X4_standingSet_4 he  fu h
set_option maxHeartbeats 4000000 in
set_option maxRecDepth 100000 in
theorem c_X4_standingSet {G : GG} {M : Mm} {l0 : Option Nat} {r : Int32 × Mm} (h : f_X4_standingSet M l0 = some r) (l : Launch) : Ct l G j_X4_standingSet b_X4_standingSet [rf G.1 l0] M (some (.int r.1)) r.2 := cf_I (by decide +kernel) (by simp [lg_sl, rf_cat, cat_i, cat_l, j_X4_standingSet]) rfl (by simp [lv_args, rf_cat, cat_i, cat_l]) (fun X he => t_X4_standingSet_e he h)
def f_X4_worthOf_33 (k4 : Mm → Option Nat → Int32 → Int32 → Int32 → Option (Int32 × Mm)) (M : Mm) (l0 : Option Nat) (l1 : Int32) (l2 : Int32) (l3 : Int32) : Option (Int32 × Mm) := k4 M l0 l1 l2 (l3 + 1)
def f_X4_worthOf_4 : Nat → Mm → Option Nat → Int32 → Int32 → Int32 → Option (Int32 × Mm)
  | 0, _, _, _, _, _ => none
  | n + 1, M, l0, l1, l2, l3 => gfI M l0 4 3 fun v6 => if v6 ≤ l3 then (some (l2, M)) else (if ((l1 >>> (l3 &&& 31)) &&& 1) = 1 then (gfR M l0 4 0 fun v23 => alR M v23 31 l3 fun v27 => gfI M v27 1 2 fun v28 => nmI (l2 + v28) fun x32 => f_X4_worthOf_33 (f_X4_worthOf_4 n) M l0 l1 x32 l3) else (f_X4_worthOf_33 (f_X4_worthOf_4 n) M l0 l1 l2 l3))
def f_X4_worthOf (M : Mm) (l0 : Option Nat) (l1 : Int32) : Option (Int32 × Mm) := f_X4_worthOf_4  fu M l0 l1 0 0
set_option maxHeartbeats 4000000 in
set_option maxRecDepth 100000 in
theorem t_X4_worthOf_33 {G : GG} {X : CX} {ans : Int32 × Mm} (he : EndI G X j_X4_worthOf b_X4_worthOf ans) {k4 : Mm → Option Nat → Int32 → Int32 → Int32 → Option (Int32 × Mm)} (hk4 : ∀ (M : Mm) (a0 : Option Nat) (a1 : Int32) (a2 : Int32) (a3 : Int32), k4 M a0 a1 a2 a3 = some ans → Wt G X j_X4_worthOf b_X4_worthOf 4 [(0, rf G.1 a0), (1, .int a1), (2, .int a2), (3, .int a3)] [] M 0 0) {M : Mm} {l0 : Option Nat} {l1 : Int32} {l2 : Int32} {l3 : Int32} (h : f_X4_worthOf_33 k4 M l0 l1 l2 l3 = some ans) : Wt G X j_X4_worthOf b_X4_worthOf 33 [(0, rf G.1 l0), (1, .int l1), (2, .int l2), (3, .int l3)] [] M 0 0 := by
  unfold f_X4_worthOf_33 at h
  refine wt_iinc (pc := 33) (d := 1) (ls' := [(3, .int (l3 + 1)), (0, rf G.1 l0), (1, .int l1), (2, .int l2)]) 3 dX4_worthOf_33 rfl (by decide) (by decide) rfl ?_
  refine wt_goto (pc := 36) (tgt := 4) dX4_worthOf_36 (by decide) ?_
  refine wt_sub (ls' := [(0, rf G.1 l0), (1, .int l1), (2, .int l2), (3, .int (l3 + 1))]) [1, 2, 3, 0] rfl ?_
  exact hk4 _ _ _ _ _ h
set_option maxHeartbeats 4000000 in
set_option maxRecDepth 100000 in
theorem t_X4_worthOf_4 {G : GG} {X : CX} {ans : Int32 × Mm} (he : EndI G X j_X4_worthOf b_X4_worthOf ans) : ∀ (n : Nat) {M : Mm} {l0 : Option Nat} {l1 : Int32} {l2 : Int32} {l3 : Int32}, f_X4_worthOf_4 n M l0 l1 l2 l3 = some ans → Wt G X j_X4_worthOf b_X4_worthOf 4 [(0, rf G.1 l0), (1, .int l1), (2, .int l2), (3, .int l3)] [] M 0 0 := by
  intro n
  induction n with
  | zero =>
    intro M l0 l1 l2 l3 h
    rw [f_X4_worthOf_4] at h
    cases h
  | succ n ih =>
    intro M l0 l1 l2 l3 h
    rw [f_X4_worthOf_4] at h
    refine wt_iload_n (pc := 4) 3 dX4_worthOf_4 rfl ?_
    refine wt_aload_n (pc := 5) 0 dX4_worthOf_5 rfl ?_
    refine wt_getI (pc := 6) dX4_worthOf_6 fl_X4_41 (fun _ _ _ => rfl) h (fun v6 h => ?_)
    refine wt_icmp_ge (pc := 9) (tgt := 39) dX4_worthOf_9 (by decide) (fun q => ?_) (fun q => ?_)
    · have h := ite_t q h
      refine wt_iload_n (pc := 39) 2 dX4_worthOf_39 rfl ?_
      cases h
      exact he 40 _ _ _ dX4_worthOf_40 (by decide) (by decide)
    · have h := ite_f q h
      refine wt_iload_n (pc := 12) 1 dX4_worthOf_12 rfl ?_
      refine wt_iload_n (pc := 13) 3 dX4_worthOf_13 rfl ?_
      refine wt_ishr (pc := 14) dX4_worthOf_14 ?_
      refine wt_iconst (pc := 15) (v := 1) dX4_worthOf_15 (by decide) ?_
      refine wt_iand (pc := 16) dX4_worthOf_16 ?_
      refine wt_iconst (pc := 17) (v := 1) dX4_worthOf_17 (by decide) ?_
      refine wt_icmp_ne (pc := 18) (tgt := 33) dX4_worthOf_18 (by decide) (fun q => ?_) (fun q => ?_)
      · have h := ite_f q h
        exact t_X4_worthOf_33 he (fun _ _ _ _ _ h => ih h) h
      · have h := ite_t q h
        refine wt_iload_n (pc := 21) 2 dX4_worthOf_21 rfl ?_
        refine wt_aload_n (pc := 22) 0 dX4_worthOf_22 rfl ?_
        refine wt_getR (pc := 23) dX4_worthOf_23 fl_X4_11 (fun _ _ _ => rfl) h (fun v23 h => ?_)
        refine wt_iload_n (pc := 26) 3 dX4_worthOf_26 rfl ?_
        refine wt_aaload (pc := 27) (kd := 31) dX4_worthOf_27 rfl rfl (by decide) h (fun v27 h => ?_)
        refine wt_getI (pc := 28) dX4_worthOf_28 fl_X4_100 (fun _ _ _ => rfl) h (fun v28 h => ?_)
        refine wt_iadd (pc := 31) dX4_worthOf_31 ?_
        refine wt_nmI h (fun x32 h => ?_)
        refine wt_istore_n (pc := 32) (i := 2) (ls' := [(2, .int x32), (0, rf G.1 l0), (1, .int l1), (3, .int l3)]) rfl dX4_worthOf_32 (by decide) rfl ?_
        refine wt_sub (ls' := [(0, rf G.1 l0), (1, .int l1), (2, .int x32), (3, .int l3)]) [1, 2, 0, 3] rfl ?_
        exact t_X4_worthOf_33 he (fun _ _ _ _ _ h => ih h) h
set_option maxHeartbeats 4000000 in
set_option maxRecDepth 100000 in
theorem t_X4_worthOf_e {G : GG} {X : CX} {ans : Int32 × Mm} (he : EndI G X j_X4_worthOf b_X4_worthOf ans) {M : Mm} {l0 : Option Nat} {l1 : Int32} (h : f_X4_worthOf M l0 l1 = some ans) : Wt G X j_X4_worthOf b_X4_worthOf 0 [(0, rf G.1 l0), (1, .int l1)] [] M 0 0 := by
  unfold f_X4_worthOf at h
  refine wt_iconst (pc := 0) (v := 0) dX4_worthOf_0 (by decide) ?_
  refine wt_istore_n (pc := 1) (i := 2) (ls' := [(2, .int 0), (0, rf G.1 l0), (1, .int l1)]) rfl dX4_worthOf_1 (by decide) rfl ?_
  refine wt_iconst (pc := 2) (v := 0) dX4_worthOf_2 (by decide) ?_
  refine wt_istore_n (pc := 3) (i := 3) (ls' := [(3, .int 0), (2, .int 0), (0, rf G.1 l0), (1, .int l1)]) rfl dX4_worthOf_3 (by decide) rfl ?_
  refine wt_sub (ls' := [(0, rf G.1 l0), (1, .int l1), (2, .int 0), (3, .int 0)]) [2, 3, 1, 0] rfl ?_
  exact t_X4_worthOf_4 he  fu h
set_option maxHeartbeats 4000000 in
set_option maxRecDepth 100000 in
theorem c_X4_worthOf {G : GG} {M : Mm} {l0 : Option Nat} {l1 : Int32} {r : Int32 × Mm} (h : f_X4_worthOf M l0 l1 = some r) (l : Launch) : Ct l G j_X4_worthOf b_X4_worthOf [rf G.1 l0, .int l1] M (some (.int r.1)) r.2 := cf_I (by decide +kernel) (by simp [lg_sl, rf_cat, cat_i, cat_l, j_X4_worthOf]) rfl (by simp [lv_args, rf_cat, cat_i, cat_l]) (fun X he => t_X4_worthOf_e he h)
def f_X4_openSet_30 (k4 : Mm → Option Nat → Int32 → Int32 → Option (Int32 × Mm)) (M : Mm) (l0 : Option Nat) (l1 : Int32) (l2 : Int32) : Option (Int32 × Mm) := k4 M l0 l1 (l2 + 1)
def f_X4_openSet_4 : Nat → Mm → Option Nat → Int32 → Int32 → Option (Int32 × Mm)
  | 0, _, _, _, _ => none
  | n + 1, M, l0, l1, l2 => gfI M l0 4 3 fun v6 => if v6 ≤ l2 then (some (l1, M)) else (gfR M l0 4 0 fun v13 => alR M v13 31 l2 fun v17 => ck M v17 1 <| bd (f_X1_isOpen M v17) fun v18 M18 => if v18 = 0 then (f_X4_openSet_30 (f_X4_openSet_4 n) M18 l0 l1 l2) else (nmI (l1 ||| (1 <<< (l2 &&& 31))) fun x29 => f_X4_openSet_30 (f_X4_openSet_4 n) M18 l0 x29 l2))
def f_X4_openSet (M : Mm) (l0 : Option Nat) : Option (Int32 × Mm) := f_X4_openSet_4  fu M l0 0 0
set_option maxHeartbeats 4000000 in
set_option maxRecDepth 100000 in
theorem t_X4_openSet_30 {G : GG} {X : CX} {ans : Int32 × Mm} (he : EndI G X j_X4_openSet b_X4_openSet ans) {k4 : Mm → Option Nat → Int32 → Int32 → Option (Int32 × Mm)} (hk4 : ∀ (M : Mm) (a0 : Option Nat) (a1 : Int32) (a2 : Int32), k4 M a0 a1 a2 = some ans → Wt G X j_X4_openSet b_X4_openSet 4 [(0, rf G.1 a0), (1, .int a1), (2, .int a2)] [] M 0 0) {M : Mm} {l0 : Option Nat} {l1 : Int32} {l2 : Int32} (h : f_X4_openSet_30 k4 M l0 l1 l2 = some ans) : Wt G X j_X4_openSet b_X4_openSet 30 [(0, rf G.1 l0), (1, .int l1), (2, .int l2)] [] M 0 0 := by
  unfold f_X4_openSet_30 at h
  refine wt_iinc (pc := 30) (d := 1) (ls' := [(2, .int (l2 + 1)), (0, rf G.1 l0), (1, .int l1)]) 2 dX4_openSet_30 rfl (by decide) (by decide) rfl ?_
  refine wt_goto (pc := 33) (tgt := 4) dX4_openSet_33 (by decide) ?_
  refine wt_sub (ls' := [(0, rf G.1 l0), (1, .int l1), (2, .int (l2 + 1))]) [1, 2, 0] rfl ?_
  exact hk4 _ _ _ _ h
set_option maxHeartbeats 4000000 in
set_option maxRecDepth 100000 in
theorem t_X4_openSet_4 {G : GG} {X : CX} {ans : Int32 × Mm} (he : EndI G X j_X4_openSet b_X4_openSet ans) : ∀ (n : Nat) {M : Mm} {l0 : Option Nat} {l1 : Int32} {l2 : Int32}, f_X4_openSet_4 n M l0 l1 l2 = some ans → Wt G X j_X4_openSet b_X4_openSet 4 [(0, rf G.1 l0), (1, .int l1), (2, .int l2)] [] M 0 0 := by
  intro n
  induction n with
  | zero =>
    intro M l0 l1 l2 h
    rw [f_X4_openSet_4] at h
    cases h
  | succ n ih =>
    intro M l0 l1 l2 h
    rw [f_X4_openSet_4] at h
    refine wt_iload_n (pc := 4) 2 dX4_openSet_4 rfl ?_
    refine wt_aload_n (pc := 5) 0 dX4_openSet_5 rfl ?_
    refine wt_getI (pc := 6) dX4_openSet_6 fl_X4_41 (fun _ _ _ => rfl) h (fun v6 h => ?_)
    refine wt_icmp_ge (pc := 9) (tgt := 36) dX4_openSet_9 (by decide) (fun q => ?_) (fun q => ?_)
    · have h := ite_t q h
      refine wt_iload_n (pc := 36) 1 dX4_openSet_36 rfl ?_
      cases h
      exact he 37 _ _ _ dX4_openSet_37 (by decide) (by decide)
    · have h := ite_f q h
      refine wt_aload_n (pc := 12) 0 dX4_openSet_12 rfl ?_
      refine wt_getR (pc := 13) dX4_openSet_13 fl_X4_11 (fun _ _ _ => rfl) h (fun v13 h => ?_)
      refine wt_iload_n (pc := 16) 2 dX4_openSet_16 rfl ?_
      refine wt_aaload (pc := 17) (kd := 31) dX4_openSet_17 rfl rfl (by decide) h (fun v17 h => ?_)
      refine wt_cVI (pc := 18) (J' := j_X1_isOpen) (As := []) (st := []) (B' := b_X1_isOpen) (u' := 0) (w' := 0) dX4_openSet_18 ml_X4_86 mv_X1_isOpen (fun v9 M9 e9 => c_X1_isOpen e9) rfl (by decide) rfl rfl (by decide) (by decide) (by decide) rfl h (fun v18 M18 h => ?_)
      refine wt_if_eq (pc := 21) (tgt := 30) dX4_openSet_21 (by decide) (fun q => ?_) (fun q => ?_)
      · have h := ite_t q h
        exact t_X4_openSet_30 he (fun _ _ _ _ h => ih h) h
      · have h := ite_f q h
        refine wt_iload_n (pc := 24) 1 dX4_openSet_24 rfl ?_
        refine wt_iconst (pc := 25) (v := 1) dX4_openSet_25 (by decide) ?_
        refine wt_iload_n (pc := 26) 2 dX4_openSet_26 rfl ?_
        refine wt_ishl (pc := 27) dX4_openSet_27 ?_
        refine wt_ior (pc := 28) dX4_openSet_28 ?_
        refine wt_nmI h (fun x29 h => ?_)
        refine wt_istore_n (pc := 29) (i := 1) (ls' := [(1, .int x29), (0, rf G.1 l0), (2, .int l2)]) rfl dX4_openSet_29 (by decide) (by simp [rf_cat, cat_i, cat_l, cat_r]) ?_
        refine wt_sub (ls' := [(0, rf G.1 l0), (1, .int x29), (2, .int l2)]) [1, 0, 2] rfl ?_
        exact t_X4_openSet_30 he (fun _ _ _ _ h => ih h) h
set_option maxHeartbeats 4000000 in
set_option maxRecDepth 100000 in
theorem t_X4_openSet_e {G : GG} {X : CX} {ans : Int32 × Mm} (he : EndI G X j_X4_openSet b_X4_openSet ans) {M : Mm} {l0 : Option Nat} (h : f_X4_openSet M l0 = some ans) : Wt G X j_X4_openSet b_X4_openSet 0 [(0, rf G.1 l0)] [] M 0 0 := by
  unfold f_X4_openSet at h
  refine wt_iconst (pc := 0) (v := 0) dX4_openSet_0 (by decide) ?_
  refine wt_istore_n (pc := 1) (i := 1) (ls' := [(1, .int 0), (0, rf G.1 l0)]) rfl dX4_openSet_1 (by decide) (by simp [rf_cat, cat_i, cat_l, cat_r]) ?_
  refine wt_iconst (pc := 2) (v := 0) dX4_openSet_2 (by decide) ?_
  refine wt_istore_n (pc := 3) (i := 2) (ls' := [(2, .int 0), (1, .int 0), (0, rf G.1 l0)]) rfl dX4_openSet_3 (by decide) rfl ?_
  refine wt_sub (ls' := [(0, rf G.1 l0), (1, .int 0), (2, .int 0)]) [2, 1, 0] rfl ?_
  exact t_X4_openSet_4 he  fu h
set_option maxHeartbeats 4000000 in
set_option maxRecDepth 100000 in
theorem c_X4_openSet {G : GG} {M : Mm} {l0 : Option Nat} {r : Int32 × Mm} (h : f_X4_openSet M l0 = some r) (l : Launch) : Ct l G j_X4_openSet b_X4_openSet [rf G.1 l0] M (some (.int r.1)) r.2 := cf_I (by decide +kernel) (by simp [lg_sl, rf_cat, cat_i, cat_l, j_X4_openSet]) rfl (by simp [lv_args, rf_cat, cat_i, cat_l]) (fun X he => t_X4_openSet_e he h)
def f_X4_init (M : Mm) (l0 : Option Nat) : Option (Mm) := nz l0 <| nwa M 31 8 fun q7 M7 => pfR M7 l0 4 0 q7 fun M10 => nwa M10 30 4 fun q15 M15 => pfR M15 l0 4 1 q15 fun M18 => nwa M18 38 6 fun q24 M24 => pfR M24 l0 4 2 q24 fun M27 => nwm M27 50 21 8 8 fun q35 M35 => pfR M35 l0 4 6 q35 fun M39 => pfI M39 l0 4 7 3 fun M44 => gfR M44 l0 4 0 fun v56 => nwc M44 1 9 fun q60 M60 => nz q60 <| bv (f_X1_init M60 q60) fun M64 => asR M64 v56 31 1 0 q60 fun M67 => gfR M67 l0 4 0 fun v56_1 => nwc M67 1 9 fun q60_1 M60_1 => nz q60_1 <| bv (f_X1_init M60_1 q60_1) fun M64_1 => asR M64_1 v56_1 31 1 (0 + 1) q60_1 fun M67_1 => gfR M67_1 l0 4 0 fun v56_2 => nwc M67_1 1 9 fun q60_2 M60_2 => nz q60_2 <| bv (f_X1_init M60_2 q60_2) fun M64_2 => asR M64_2 v56_2 31 1 ((0 + 1) + 1) q60_2 fun M67_2 => gfR M67_2 l0 4 0 fun v56_3 => nwc M67_2 1 9 fun q60_3 M60_3 => nz q60_3 <| bv (f_X1_init M60_3 q60_3) fun M64_3 => asR M64_3 v56_3 31 1 (((0 + 1) + 1) + 1) q60_3 fun M67_3 => gfR M67_3 l0 4 0 fun v56_4 => nwc M67_3 1 9 fun q60_4 M60_4 => nz q60_4 <| bv (f_X1_init M60_4 q60_4) fun M64_4 => asR M64_4 v56_4 31 1 ((((0 + 1) + 1) + 1) + 1) q60_4 fun M67_4 => gfR M67_4 l0 4 0 fun v56_5 => nwc M67_4 1 9 fun q60_5 M60_5 => nz q60_5 <| bv (f_X1_init M60_5 q60_5) fun M64_5 => asR M64_5 v56_5 31 1 (((((0 + 1) + 1) + 1) + 1) + 1) q60_5 fun M67_5 => gfR M67_5 l0 4 0 fun v56_6 => nwc M67_5 1 9 fun q60_6 M60_6 => nz q60_6 <| bv (f_X1_init M60_6 q60_6) fun M64_6 => asR M64_6 v56_6 31 1 ((((((0 + 1) + 1) + 1) + 1) + 1) + 1) q60_6 fun M67_6 => gfR M67_6 l0 4 0 fun v56_7 => nwc M67_6 1 9 fun q60_7 M60_7 => nz q60_7 <| bv (f_X1_init M60_7 q60_7) fun M64_7 => asR M64_7 v56_7 31 1 (((((((0 + 1) + 1) + 1) + 1) + 1) + 1) + 1) q60_7 fun M67_7 => gfR M67_7 l0 4 1 fun v82 => nwc M67_7 0 8 fun q86 M86 => nz q86 <| bv (f_X0_init M86 q86) fun M90 => asR M90 v82 30 0 0 q86 fun M93 => gfR M93 l0 4 1 fun v82_1 => nwc M93 0 8 fun q86_1 M86_1 => nz q86_1 <| bv (f_X0_init M86_1 q86_1) fun M90_1 => asR M90_1 v82_1 30 0 (0 + 1) q86_1 fun M93_1 => gfR M93_1 l0 4 1 fun v82_2 => nwc M93_1 0 8 fun q86_2 M86_2 => nz q86_2 <| bv (f_X0_init M86_2 q86_2) fun M90_2 => asR M90_2 v82_2 30 0 ((0 + 1) + 1) q86_2 fun M93_2 => gfR M93_2 l0 4 1 fun v82_3 => nwc M93_2 0 8 fun q86_3 M86_3 => nz q86_3 <| bv (f_X0_init M86_3 q86_3) fun M90_3 => asR M90_3 v82_3 30 0 (((0 + 1) + 1) + 1) q86_3 fun M93_3 => gfR M93_3 l0 4 2 fun v109 => nwc M93_3 8 3 fun q113 M113 => nz q113 <| bv (f_X8_init M113 q113) fun M117 => asR M117 v109 38 8 0 q113 fun M120 => gfR M120 l0 4 2 fun v109_1 => nwc M120 8 3 fun q113_1 M113_1 => nz q113_1 <| bv (f_X8_init M113_1 q113_1) fun M117_1 => asR M117_1 v109_1 38 8 (0 + 1) q113_1 fun M120_1 => gfR M120_1 l0 4 2 fun v109_2 => nwc M120_1 8 3 fun q113_2 M113_2 => nz q113_2 <| bv (f_X8_init M113_2 q113_2) fun M117_2 => asR M117_2 v109_2 38 8 ((0 + 1) + 1) q113_2 fun M120_2 => gfR M120_2 l0 4 2 fun v109_3 => nwc M120_2 8 3 fun q113_3 M113_3 => nz q113_3 <| bv (f_X8_init M113_3 q113_3) fun M117_3 => asR M117_3 v109_3 38 8 (((0 + 1) + 1) + 1) q113_3 fun M120_3 => gfR M120_3 l0 4 2 fun v109_4 => nwc M120_3 8 3 fun q113_4 M113_4 => nz q113_4 <| bv (f_X8_init M113_4 q113_4) fun M117_4 => asR M117_4 v109_4 38 8 ((((0 + 1) + 1) + 1) + 1) q113_4 fun M120_4 => gfR M120_4 l0 4 2 fun v109_5 => nwc M120_4 8 3 fun q113_5 M113_5 => nz q113_5 <| bv (f_X8_init M113_5 q113_5) fun M117_5 => asR M117_5 v109_5 38 8 (((((0 + 1) + 1) + 1) + 1) + 1) q113_5 fun M120_5 => some M120_5
set_option maxHeartbeats 4000000 in
set_option maxRecDepth 100000 in
theorem t_X4_init_e {G : GG} {X : CX} {ans : Mm} (he : EndV G X j_X4_init b_X4_init ans) {M : Mm} {l0 : Option Nat} (h : f_X4_init M l0 = some ans) : Wt G X j_X4_init b_X4_init 0 [(0, rf G.1 l0)] [] M 0 0 := by
  unfold f_X4_init at h
  refine wt_aload_n (pc := 0) 0 dX4_init_0 rfl ?_
  refine wt_oI (pc := 1) dX4_init_1 oi_X4_3 oiM oiC (by decide) (by decide) h (fun h => ?_)
  refine wt_aload_n (pc := 4) 0 dX4_init_4 rfl ?_
  refine wt_bipush (pc := 5) (v := 8) dX4_init_5 (by decide) ?_
  refine wt_anewarray (pc := 7) (kd := 31) (n' := 8) dX4_init_7 rfl acl_X4_9 (by decide) (by decide) (by decide) (by decide) h (fun q7 M7 h => ?_)
  refine wt_putFA (pc := 10) dX4_init_10 ff_X4_11 rfl rfl h (fun M10 h => ?_)
  refine wt_aload_n (pc := 13) 0 dX4_init_13 rfl ?_
  refine wt_iconst (pc := 14) (v := 4) dX4_init_14 (by decide) ?_
  refine wt_anewarray (pc := 15) (kd := 30) (n' := 4) dX4_init_15 rfl acl_X4_17 (by decide) (by decide) (by decide) (by decide) h (fun q15 M15 h => ?_)
  refine wt_putFA (pc := 18) dX4_init_18 ff_X4_19 rfl rfl h (fun M18 h => ?_)
  refine wt_aload_n (pc := 21) 0 dX4_init_21 rfl ?_
  refine wt_bipush (pc := 22) (v := 6) dX4_init_22 (by decide) ?_
  refine wt_anewarray (pc := 24) (kd := 38) (n' := 6) dX4_init_24 rfl acl_X4_23 (by decide) (by decide) (by decide) (by decide) h (fun q24 M24 h => ?_)
  refine wt_putFA (pc := 27) dX4_init_27 ff_X4_25 rfl rfl h (fun M27 h => ?_)
  refine wt_aload_n (pc := 30) 0 dX4_init_30 rfl ?_
  refine wt_bipush (pc := 31) (v := 8) dX4_init_31 (by decide) ?_
  refine wt_bipush (pc := 33) (v := 8) dX4_init_33 (by decide) ?_
  refine wt_multi (pc := 35) (kd := 50) (kr := 21) (ty := .int) (N' := 8) (K' := 8) dX4_init_35 acl_X4_29 ac_int (fun U hU => hU.2.2.2.1.2.1) rfl rfl (by decide) (by decide) (fun _ _ h => h) (fun _ _ h => h) (by decide) (by decide) (by decide) (by decide) (by decide) (by decide) (by decide) (by decide) (by decide) h (fun q35 M35 h => ?_)
  refine wt_putFA (pc := 39) dX4_init_39 ff_X4_31 rfl rfl h (fun M39 h => ?_)
  refine wt_aload_n (pc := 42) 0 dX4_init_42 rfl ?_
  refine wt_iconst (pc := 43) (v := 3) dX4_init_43 (by decide) ?_
  refine wt_putI (pc := 44) dX4_init_44 fl_X4_34 rfl rfl h (fun M44 h => ?_)
  refine wt_iconst (pc := 47) (v := 0) dX4_init_47 (by decide) ?_
  refine wt_istore_n (pc := 48) (i := 1) (ls' := [(1, .int 0), (0, rf G.1 l0)]) rfl dX4_init_48 (by decide) (by simp [rf_cat, cat_i, cat_l, cat_r]) ?_
  refine wt_iload_n (pc := 49) 0 dX4_init_49 rfl ?_
  refine wt_bipush (pc := 50) (v := 8) dX4_init_50 (by decide) ?_
  refine wt_icmp_ge (pc := 52) (tgt := 74) dX4_init_52 (by decide) (fun q => absurd q (by decide)) (fun q => ?_)
  refine wt_aload_n (pc := 55) 1 dX4_init_55 rfl ?_
  refine wt_getR (pc := 56) dX4_init_56 fl_X4_11 (fun _ _ _ => rfl) h (fun v56 h => ?_)
  refine wt_iload_n (pc := 59) 0 dX4_init_59 rfl ?_
  refine wt_new (pc := 60) (n := 9) dX4_init_60 cl_X4_9 rfl (by decide) (by decide) h (fun q60 M60 h => ?_)
  refine wt_dup (pc := 63) dX4_init_63 (rf_cat _ _) ?_
  refine wt_cI (pc := 64) (J' := j_X1_init) (As := []) (st := [rf G.1 q60, .int 0, rf G.1 v56]) (B' := b_X1_init) (u' := 13) (w' := 99) dX4_init_64 ml_X4_38 mi_X1_init (fun M9 e9 => c_X1_init e9) rfl (by decide) rfl rfl (by decide) (by decide) (by simp [rf_cat, cat_i, cat_l, cat_r]) rfl h (fun M64 h => ?_)
  refine wt_aastore (pc := 67) (kd := 31) (ci := 1) (q := (RX1, TX1, 9)) dX4_init_67 rfl rfl (by decide) h (fun M67 h => ?_)
  refine wt_iinc (pc := 68) (d := 1) (ls' := [(1, .int (0 + 1)), (0, rf G.1 l0)]) 0 dX4_init_68 rfl (by decide) (by decide) (by simp [rf_cat, cat_i, cat_l, cat_r]) ?_
  refine wt_goto (pc := 71) (tgt := 49) dX4_init_71 (by decide) ?_
  refine wt_iload_n (pc := 49) 0 dX4_init_49 rfl ?_
  refine wt_bipush (pc := 50) (v := 8) dX4_init_50 (by decide) ?_
  refine wt_icmp_ge (pc := 52) (tgt := 74) dX4_init_52 (by decide) (fun q => absurd q (by decide)) (fun q => ?_)
  refine wt_aload_n (pc := 55) 1 dX4_init_55 rfl ?_
  refine wt_getR (pc := 56) dX4_init_56 fl_X4_11 (fun _ _ _ => rfl) h (fun v56_1 h => ?_)
  refine wt_iload_n (pc := 59) 0 dX4_init_59 rfl ?_
  refine wt_new (pc := 60) (n := 9) dX4_init_60 cl_X4_9 rfl (by decide) (by decide) h (fun q60_1 M60_1 h => ?_)
  refine wt_dup (pc := 63) dX4_init_63 (rf_cat _ _) ?_
  refine wt_cI (pc := 64) (J' := j_X1_init) (As := []) (st := [rf G.1 q60_1, .int (0 + 1), rf G.1 v56_1]) (B' := b_X1_init) (u' := 14) (w' := 108) dX4_init_64 ml_X4_38 mi_X1_init (fun M9 e9 => c_X1_init e9) rfl (by decide) rfl rfl (by decide) (by decide) (by simp [rf_cat, cat_i, cat_l, cat_r]) rfl h (fun M64_1 h => ?_)
  refine wt_aastore (pc := 67) (kd := 31) (ci := 1) (q := (RX1, TX1, 9)) dX4_init_67 rfl rfl (by decide) h (fun M67_1 h => ?_)
  refine wt_iinc (pc := 68) (d := 1) (ls' := [(1, .int ((0 + 1) + 1)), (0, rf G.1 l0)]) 0 dX4_init_68 rfl (by decide) (by decide) (by simp [rf_cat, cat_i, cat_l, cat_r]) ?_
  refine wt_goto (pc := 71) (tgt := 49) dX4_init_71 (by decide) ?_
  refine wt_iload_n (pc := 49) 0 dX4_init_49 rfl ?_
  refine wt_bipush (pc := 50) (v := 8) dX4_init_50 (by decide) ?_
  refine wt_icmp_ge (pc := 52) (tgt := 74) dX4_init_52 (by decide) (fun q => absurd q (by decide)) (fun q => ?_)
  refine wt_aload_n (pc := 55) 1 dX4_init_55 rfl ?_
  refine wt_getR (pc := 56) dX4_init_56 fl_X4_11 (fun _ _ _ => rfl) h (fun v56_2 h => ?_)
  refine wt_iload_n (pc := 59) 0 dX4_init_59 rfl ?_
  refine wt_new (pc := 60) (n := 9) dX4_init_60 cl_X4_9 rfl (by decide) (by decide) h (fun q60_2 M60_2 h => ?_)
  refine wt_dup (pc := 63) dX4_init_63 (rf_cat _ _) ?_
  refine wt_cI (pc := 64) (J' := j_X1_init) (As := []) (st := [rf G.1 q60_2, .int ((0 + 1) + 1), rf G.1 v56_2]) (B' := b_X1_init) (u' := 15) (w' := 117) dX4_init_64 ml_X4_38 mi_X1_init (fun M9 e9 => c_X1_init e9) rfl (by decide) rfl rfl (by decide) (by decide) (by simp [rf_cat, cat_i, cat_l, cat_r]) rfl h (fun M64_2 h => ?_)
  refine wt_aastore (pc := 67) (kd := 31) (ci := 1) (q := (RX1, TX1, 9)) dX4_init_67 rfl rfl (by decide) h (fun M67_2 h => ?_)
  refine wt_iinc (pc := 68) (d := 1) (ls' := [(1, .int (((0 + 1) + 1) + 1)), (0, rf G.1 l0)]) 0 dX4_init_68 rfl (by decide) (by decide) (by simp [rf_cat, cat_i, cat_l, cat_r]) ?_
  refine wt_goto (pc := 71) (tgt := 49) dX4_init_71 (by decide) ?_
  refine wt_iload_n (pc := 49) 0 dX4_init_49 rfl ?_
  refine wt_bipush (pc := 50) (v := 8) dX4_init_50 (by decide) ?_
  refine wt_icmp_ge (pc := 52) (tgt := 74) dX4_init_52 (by decide) (fun q => absurd q (by decide)) (fun q => ?_)
  refine wt_aload_n (pc := 55) 1 dX4_init_55 rfl ?_
  refine wt_getR (pc := 56) dX4_init_56 fl_X4_11 (fun _ _ _ => rfl) h (fun v56_3 h => ?_)
  refine wt_iload_n (pc := 59) 0 dX4_init_59 rfl ?_
  refine wt_new (pc := 60) (n := 9) dX4_init_60 cl_X4_9 rfl (by decide) (by decide) h (fun q60_3 M60_3 h => ?_)
  refine wt_dup (pc := 63) dX4_init_63 (rf_cat _ _) ?_
  refine wt_cI (pc := 64) (J' := j_X1_init) (As := []) (st := [rf G.1 q60_3, .int (((0 + 1) + 1) + 1), rf G.1 v56_3]) (B' := b_X1_init) (u' := 16) (w' := 126) dX4_init_64 ml_X4_38 mi_X1_init (fun M9 e9 => c_X1_init e9) rfl (by decide) rfl rfl (by decide) (by decide) (by simp [rf_cat, cat_i, cat_l, cat_r]) rfl h (fun M64_3 h => ?_)
  refine wt_aastore (pc := 67) (kd := 31) (ci := 1) (q := (RX1, TX1, 9)) dX4_init_67 rfl rfl (by decide) h (fun M67_3 h => ?_)
  refine wt_iinc (pc := 68) (d := 1) (ls' := [(1, .int ((((0 + 1) + 1) + 1) + 1)), (0, rf G.1 l0)]) 0 dX4_init_68 rfl (by decide) (by decide) (by simp [rf_cat, cat_i, cat_l, cat_r]) ?_
  refine wt_goto (pc := 71) (tgt := 49) dX4_init_71 (by decide) ?_
  refine wt_iload_n (pc := 49) 0 dX4_init_49 rfl ?_
  refine wt_bipush (pc := 50) (v := 8) dX4_init_50 (by decide) ?_
  refine wt_icmp_ge (pc := 52) (tgt := 74) dX4_init_52 (by decide) (fun q => absurd q (by decide)) (fun q => ?_)
  refine wt_aload_n (pc := 55) 1 dX4_init_55 rfl ?_
  refine wt_getR (pc := 56) dX4_init_56 fl_X4_11 (fun _ _ _ => rfl) h (fun v56_4 h => ?_)
  refine wt_iload_n (pc := 59) 0 dX4_init_59 rfl ?_
  refine wt_new (pc := 60) (n := 9) dX4_init_60 cl_X4_9 rfl (by decide) (by decide) h (fun q60_4 M60_4 h => ?_)
  refine wt_dup (pc := 63) dX4_init_63 (rf_cat _ _) ?_
  refine wt_cI (pc := 64) (J' := j_X1_init) (As := []) (st := [rf G.1 q60_4, .int ((((0 + 1) + 1) + 1) + 1), rf G.1 v56_4]) (B' := b_X1_init) (u' := 17) (w' := 135) dX4_init_64 ml_X4_38 mi_X1_init (fun M9 e9 => c_X1_init e9) rfl (by decide) rfl rfl (by decide) (by decide) (by simp [rf_cat, cat_i, cat_l, cat_r]) rfl h (fun M64_4 h => ?_)
  refine wt_aastore (pc := 67) (kd := 31) (ci := 1) (q := (RX1, TX1, 9)) dX4_init_67 rfl rfl (by decide) h (fun M67_4 h => ?_)
  refine wt_iinc (pc := 68) (d := 1) (ls' := [(1, .int (((((0 + 1) + 1) + 1) + 1) + 1)), (0, rf G.1 l0)]) 0 dX4_init_68 rfl (by decide) (by decide) (by simp [rf_cat, cat_i, cat_l, cat_r]) ?_
  refine wt_goto (pc := 71) (tgt := 49) dX4_init_71 (by decide) ?_
  refine wt_iload_n (pc := 49) 0 dX4_init_49 rfl ?_
  refine wt_bipush (pc := 50) (v := 8) dX4_init_50 (by decide) ?_
  refine wt_icmp_ge (pc := 52) (tgt := 74) dX4_init_52 (by decide) (fun q => absurd q (by decide)) (fun q => ?_)
  refine wt_aload_n (pc := 55) 1 dX4_init_55 rfl ?_
  refine wt_getR (pc := 56) dX4_init_56 fl_X4_11 (fun _ _ _ => rfl) h (fun v56_5 h => ?_)
  refine wt_iload_n (pc := 59) 0 dX4_init_59 rfl ?_
  refine wt_new (pc := 60) (n := 9) dX4_init_60 cl_X4_9 rfl (by decide) (by decide) h (fun q60_5 M60_5 h => ?_)
  refine wt_dup (pc := 63) dX4_init_63 (rf_cat _ _) ?_
  refine wt_cI (pc := 64) (J' := j_X1_init) (As := []) (st := [rf G.1 q60_5, .int (((((0 + 1) + 1) + 1) + 1) + 1), rf G.1 v56_5]) (B' := b_X1_init) (u' := 18) (w' := 144) dX4_init_64 ml_X4_38 mi_X1_init (fun M9 e9 => c_X1_init e9) rfl (by decide) rfl rfl (by decide) (by decide) (by simp [rf_cat, cat_i, cat_l, cat_r]) rfl h (fun M64_5 h => ?_)
  refine wt_aastore (pc := 67) (kd := 31) (ci := 1) (q := (RX1, TX1, 9)) dX4_init_67 rfl rfl (by decide) h (fun M67_5 h => ?_)
  refine wt_iinc (pc := 68) (d := 1) (ls' := [(1, .int ((((((0 + 1) + 1) + 1) + 1) + 1) + 1)), (0, rf G.1 l0)]) 0 dX4_init_68 rfl (by decide) (by decide) (by simp [rf_cat, cat_i, cat_l, cat_r]) ?_
  refine wt_goto (pc := 71) (tgt := 49) dX4_init_71 (by decide) ?_
  refine wt_iload_n (pc := 49) 0 dX4_init_49 rfl ?_
  refine wt_bipush (pc := 50) (v := 8) dX4_init_50 (by decide) ?_
  refine wt_icmp_ge (pc := 52) (tgt := 74) dX4_init_52 (by decide) (fun q => absurd q (by decide)) (fun q => ?_)
  refine wt_aload_n (pc := 55) 1 dX4_init_55 rfl ?_
  refine wt_getR (pc := 56) dX4_init_56 fl_X4_11 (fun _ _ _ => rfl) h (fun v56_6 h => ?_)
  refine wt_iload_n (pc := 59) 0 dX4_init_59 rfl ?_
  refine wt_new (pc := 60) (n := 9) dX4_init_60 cl_X4_9 rfl (by decide) (by decide) h (fun q60_6 M60_6 h => ?_)
  refine wt_dup (pc := 63) dX4_init_63 (rf_cat _ _) ?_
  refine wt_cI (pc := 64) (J' := j_X1_init) (As := []) (st := [rf G.1 q60_6, .int ((((((0 + 1) + 1) + 1) + 1) + 1) + 1), rf G.1 v56_6]) (B' := b_X1_init) (u' := 19) (w' := 153) dX4_init_64 ml_X4_38 mi_X1_init (fun M9 e9 => c_X1_init e9) rfl (by decide) rfl rfl (by decide) (by decide) (by simp [rf_cat, cat_i, cat_l, cat_r]) rfl h (fun M64_6 h => ?_)
  refine wt_aastore (pc := 67) (kd := 31) (ci := 1) (q := (RX1, TX1, 9)) dX4_init_67 rfl rfl (by decide) h (fun M67_6 h => ?_)
  refine wt_iinc (pc := 68) (d := 1) (ls' := [(1, .int (((((((0 + 1) + 1) + 1) + 1) + 1) + 1) + 1)), (0, rf G.1 l0)]) 0 dX4_init_68 rfl (by decide) (by decide) (by simp [rf_cat, cat_i, cat_l, cat_r]) ?_
  refine wt_goto (pc := 71) (tgt := 49) dX4_init_71 (by decide) ?_
  refine wt_iload_n (pc := 49) 0 dX4_init_49 rfl ?_
  refine wt_bipush (pc := 50) (v := 8) dX4_init_50 (by decide) ?_
  refine wt_icmp_ge (pc := 52) (tgt := 74) dX4_init_52 (by decide) (fun q => absurd q (by decide)) (fun q => ?_)
  refine wt_aload_n (pc := 55) 1 dX4_init_55 rfl ?_
  refine wt_getR (pc := 56) dX4_init_56 fl_X4_11 (fun _ _ _ => rfl) h (fun v56_7 h => ?_)
  refine wt_iload_n (pc := 59) 0 dX4_init_59 rfl ?_
  refine wt_new (pc := 60) (n := 9) dX4_init_60 cl_X4_9 rfl (by decide) (by decide) h (fun q60_7 M60_7 h => ?_)
  refine wt_dup (pc := 63) dX4_init_63 (rf_cat _ _) ?_
  refine wt_cI (pc := 64) (J' := j_X1_init) (As := []) (st := [rf G.1 q60_7, .int (((((((0 + 1) + 1) + 1) + 1) + 1) + 1) + 1), rf G.1 v56_7]) (B' := b_X1_init) (u' := 20) (w' := 162) dX4_init_64 ml_X4_38 mi_X1_init (fun M9 e9 => c_X1_init e9) rfl (by decide) rfl rfl (by decide) (by decide) (by simp [rf_cat, cat_i, cat_l, cat_r]) rfl h (fun M64_7 h => ?_)
  refine wt_aastore (pc := 67) (kd := 31) (ci := 1) (q := (RX1, TX1, 9)) dX4_init_67 rfl rfl (by decide) h (fun M67_7 h => ?_)
  refine wt_iinc (pc := 68) (d := 1) (ls' := [(1, .int ((((((((0 + 1) + 1) + 1) + 1) + 1) + 1) + 1) + 1)), (0, rf G.1 l0)]) 0 dX4_init_68 rfl (by decide) (by decide) (by simp [rf_cat, cat_i, cat_l, cat_r]) ?_
  refine wt_goto (pc := 71) (tgt := 49) dX4_init_71 (by decide) ?_
  refine wt_iload_n (pc := 49) 0 dX4_init_49 rfl ?_
  refine wt_bipush (pc := 50) (v := 8) dX4_init_50 (by decide) ?_
  refine wt_icmp_ge (pc := 52) (tgt := 74) dX4_init_52 (by decide) (fun q => ?_) (fun q => absurd (by decide) q)
  refine wt_iconst (pc := 74) (v := 0) dX4_init_74 (by decide) ?_
  refine wt_istore_n (pc := 75) (i := 1) (ls' := [(1, .int 0), (0, rf G.1 l0)]) rfl dX4_init_75 (by decide) (by simp [rf_cat, cat_i, cat_l, cat_r]) ?_
  refine wt_iload_n (pc := 76) 0 dX4_init_76 rfl ?_
  refine wt_iconst (pc := 77) (v := 4) dX4_init_77 (by decide) ?_
  refine wt_icmp_ge (pc := 78) (tgt := 100) dX4_init_78 (by decide) (fun q => absurd q (by decide)) (fun q => ?_)
  refine wt_aload_n (pc := 81) 1 dX4_init_81 rfl ?_
  refine wt_getR (pc := 82) dX4_init_82 fl_X4_19 (fun _ _ _ => rfl) h (fun v82 h => ?_)
  refine wt_iload_n (pc := 85) 0 dX4_init_85 rfl ?_
  refine wt_new (pc := 86) (n := 8) dX4_init_86 cl_X4_17 rfl (by decide) (by decide) h (fun q86 M86 h => ?_)
  refine wt_dup (pc := 89) dX4_init_89 (rf_cat _ _) ?_
  refine wt_cI (pc := 90) (J' := j_X0_init) (As := []) (st := [rf G.1 q86, .int 0, rf G.1 v82]) (B' := b_X0_init) (u' := 21) (w' := 170) dX4_init_90 ml_X4_39 mi_X0_init (fun M9 e9 => c_X0_init e9) rfl (by decide) rfl rfl (by decide) (by decide) (by simp [rf_cat, cat_i, cat_l, cat_r]) rfl h (fun M90 h => ?_)
  refine wt_aastore (pc := 93) (kd := 30) (ci := 0) (q := (RX0, TX0, 8)) dX4_init_93 rfl rfl (by decide) h (fun M93 h => ?_)
  refine wt_iinc (pc := 94) (d := 1) (ls' := [(1, .int (0 + 1)), (0, rf G.1 l0)]) 0 dX4_init_94 rfl (by decide) (by decide) (by simp [rf_cat, cat_i, cat_l, cat_r]) ?_
  refine wt_goto (pc := 97) (tgt := 76) dX4_init_97 (by decide) ?_
  refine wt_iload_n (pc := 76) 0 dX4_init_76 rfl ?_
  refine wt_iconst (pc := 77) (v := 4) dX4_init_77 (by decide) ?_
  refine wt_icmp_ge (pc := 78) (tgt := 100) dX4_init_78 (by decide) (fun q => absurd q (by decide)) (fun q => ?_)
  refine wt_aload_n (pc := 81) 1 dX4_init_81 rfl ?_
  refine wt_getR (pc := 82) dX4_init_82 fl_X4_19 (fun _ _ _ => rfl) h (fun v82_1 h => ?_)
  refine wt_iload_n (pc := 85) 0 dX4_init_85 rfl ?_
  refine wt_new (pc := 86) (n := 8) dX4_init_86 cl_X4_17 rfl (by decide) (by decide) h (fun q86_1 M86_1 h => ?_)
  refine wt_dup (pc := 89) dX4_init_89 (rf_cat _ _) ?_
  refine wt_cI (pc := 90) (J' := j_X0_init) (As := []) (st := [rf G.1 q86_1, .int (0 + 1), rf G.1 v82_1]) (B' := b_X0_init) (u' := 22) (w' := 178) dX4_init_90 ml_X4_39 mi_X0_init (fun M9 e9 => c_X0_init e9) rfl (by decide) rfl rfl (by decide) (by decide) (by simp [rf_cat, cat_i, cat_l, cat_r]) rfl h (fun M90_1 h => ?_)
  refine wt_aastore (pc := 93) (kd := 30) (ci := 0) (q := (RX0, TX0, 8)) dX4_init_93 rfl rfl (by decide) h (fun M93_1 h => ?_)
  refine wt_iinc (pc := 94) (d := 1) (ls' := [(1, .int ((0 + 1) + 1)), (0, rf G.1 l0)]) 0 dX4_init_94 rfl (by decide) (by decide) (by simp [rf_cat, cat_i, cat_l, cat_r]) ?_
  refine wt_goto (pc := 97) (tgt := 76) dX4_init_97 (by decide) ?_
  refine wt_iload_n (pc := 76) 0 dX4_init_76 rfl ?_
  refine wt_iconst (pc := 77) (v := 4) dX4_init_77 (by decide) ?_
  refine wt_icmp_ge (pc := 78) (tgt := 100) dX4_init_78 (by decide) (fun q => absurd q (by decide)) (fun q => ?_)
  refine wt_aload_n (pc := 81) 1 dX4_init_81 rfl ?_
  refine wt_getR (pc := 82) dX4_init_82 fl_X4_19 (fun _ _ _ => rfl) h (fun v82_2 h => ?_)
  refine wt_iload_n (pc := 85) 0 dX4_init_85 rfl ?_
  refine wt_new (pc := 86) (n := 8) dX4_init_86 cl_X4_17 rfl (by decide) (by decide) h (fun q86_2 M86_2 h => ?_)
  refine wt_dup (pc := 89) dX4_init_89 (rf_cat _ _) ?_
  refine wt_cI (pc := 90) (J' := j_X0_init) (As := []) (st := [rf G.1 q86_2, .int ((0 + 1) + 1), rf G.1 v82_2]) (B' := b_X0_init) (u' := 23) (w' := 186) dX4_init_90 ml_X4_39 mi_X0_init (fun M9 e9 => c_X0_init e9) rfl (by decide) rfl rfl (by decide) (by decide) (by simp [rf_cat, cat_i, cat_l, cat_r]) rfl h (fun M90_2 h => ?_)
  refine wt_aastore (pc := 93) (kd := 30) (ci := 0) (q := (RX0, TX0, 8)) dX4_init_93 rfl rfl (by decide) h (fun M93_2 h => ?_)
  refine wt_iinc (pc := 94) (d := 1) (ls' := [(1, .int (((0 + 1) + 1) + 1)), (0, rf G.1 l0)]) 0 dX4_init_94 rfl (by decide) (by decide) (by simp [rf_cat, cat_i, cat_l, cat_r]) ?_
  refine wt_goto (pc := 97) (tgt := 76) dX4_init_97 (by decide) ?_
  refine wt_iload_n (pc := 76) 0 dX4_init_76 rfl ?_
  refine wt_iconst (pc := 77) (v := 4) dX4_init_77 (by decide) ?_
  refine wt_icmp_ge (pc := 78) (tgt := 100) dX4_init_78 (by decide) (fun q => absurd q (by decide)) (fun q => ?_)
  refine wt_aload_n (pc := 81) 1 dX4_init_81 rfl ?_
  refine wt_getR (pc := 82) dX4_init_82 fl_X4_19 (fun _ _ _ => rfl) h (fun v82_3 h => ?_)
  refine wt_iload_n (pc := 85) 0 dX4_init_85 rfl ?_
  refine wt_new (pc := 86) (n := 8) dX4_init_86 cl_X4_17 rfl (by decide) (by decide) h (fun q86_3 M86_3 h => ?_)
  refine wt_dup (pc := 89) dX4_init_89 (rf_cat _ _) ?_
  refine wt_cI (pc := 90) (J' := j_X0_init) (As := []) (st := [rf G.1 q86_3, .int (((0 + 1) + 1) + 1), rf G.1 v82_3]) (B' := b_X0_init) (u' := 24) (w' := 194) dX4_init_90 ml_X4_39 mi_X0_init (fun M9 e9 => c_X0_init e9) rfl (by decide) rfl rfl (by decide) (by decide) (by simp [rf_cat, cat_i, cat_l, cat_r]) rfl h (fun M90_3 h => ?_)
  refine wt_aastore (pc := 93) (kd := 30) (ci := 0) (q := (RX0, TX0, 8)) dX4_init_93 rfl rfl (by decide) h (fun M93_3 h => ?_)
  refine wt_iinc (pc := 94) (d := 1) (ls' := [(1, .int ((((0 + 1) + 1) + 1) + 1)), (0, rf G.1 l0)]) 0 dX4_init_94 rfl (by decide) (by decide) (by simp [rf_cat, cat_i, cat_l, cat_r]) ?_
  refine wt_goto (pc := 97) (tgt := 76) dX4_init_97 (by decide) ?_
  refine wt_iload_n (pc := 76) 0 dX4_init_76 rfl ?_
  refine wt_iconst (pc := 77) (v := 4) dX4_init_77 (by decide) ?_
  refine wt_icmp_ge (pc := 78) (tgt := 100) dX4_init_78 (by decide) (fun q => ?_) (fun q => absurd (by decide) q)
  refine wt_iconst (pc := 100) (v := 0) dX4_init_100 (by decide) ?_
  refine wt_istore_n (pc := 101) (i := 1) (ls' := [(1, .int 0), (0, rf G.1 l0)]) rfl dX4_init_101 (by decide) (by simp [rf_cat, cat_i, cat_l, cat_r]) ?_
  refine wt_iload_n (pc := 102) 0 dX4_init_102 rfl ?_
  refine wt_bipush (pc := 103) (v := 6) dX4_init_103 (by decide) ?_
  refine wt_icmp_ge (pc := 105) (tgt := 127) dX4_init_105 (by decide) (fun q => absurd q (by decide)) (fun q => ?_)
  refine wt_aload_n (pc := 108) 1 dX4_init_108 rfl ?_
  refine wt_getR (pc := 109) dX4_init_109 fl_X4_25 (fun _ _ _ => rfl) h (fun v109 h => ?_)
  refine wt_iload_n (pc := 112) 0 dX4_init_112 rfl ?_
  refine wt_new (pc := 113) (n := 3) dX4_init_113 cl_X4_23 rfl (by decide) (by decide) h (fun q113 M113 h => ?_)
  refine wt_dup (pc := 116) dX4_init_116 (rf_cat _ _) ?_
  refine wt_cI (pc := 117) (J' := j_X8_init) (As := []) (st := [rf G.1 q113, .int 0, rf G.1 v109]) (B' := b_X8_init) (u' := 25) (w' := 197) dX4_init_117 ml_X4_40 mi_X8_init (fun M9 e9 => c_X8_init e9) rfl (by decide) rfl rfl (by decide) (by decide) (by simp [rf_cat, cat_i, cat_l, cat_r]) rfl h (fun M117 h => ?_)
  refine wt_aastore (pc := 120) (kd := 38) (ci := 8) (q := (RX8, TX8, 3)) dX4_init_120 rfl rfl (by decide) h (fun M120 h => ?_)
  refine wt_iinc (pc := 121) (d := 1) (ls' := [(1, .int (0 + 1)), (0, rf G.1 l0)]) 0 dX4_init_121 rfl (by decide) (by decide) (by simp [rf_cat, cat_i, cat_l, cat_r]) ?_
  refine wt_goto (pc := 124) (tgt := 102) dX4_init_124 (by decide) ?_
  refine wt_iload_n (pc := 102) 0 dX4_init_102 rfl ?_
  refine wt_bipush (pc := 103) (v := 6) dX4_init_103 (by decide) ?_
  refine wt_icmp_ge (pc := 105) (tgt := 127) dX4_init_105 (by decide) (fun q => absurd q (by decide)) (fun q => ?_)
  refine wt_aload_n (pc := 108) 1 dX4_init_108 rfl ?_
  refine wt_getR (pc := 109) dX4_init_109 fl_X4_25 (fun _ _ _ => rfl) h (fun v109_1 h => ?_)
  refine wt_iload_n (pc := 112) 0 dX4_init_112 rfl ?_
  refine wt_new (pc := 113) (n := 3) dX4_init_113 cl_X4_23 rfl (by decide) (by decide) h (fun q113_1 M113_1 h => ?_)
  refine wt_dup (pc := 116) dX4_init_116 (rf_cat _ _) ?_
  refine wt_cI (pc := 117) (J' := j_X8_init) (As := []) (st := [rf G.1 q113_1, .int (0 + 1), rf G.1 v109_1]) (B' := b_X8_init) (u' := 26) (w' := 200) dX4_init_117 ml_X4_40 mi_X8_init (fun M9 e9 => c_X8_init e9) rfl (by decide) rfl rfl (by decide) (by decide) (by simp [rf_cat, cat_i, cat_l, cat_r]) rfl h (fun M117_1 h => ?_)
  refine wt_aastore (pc := 120) (kd := 38) (ci := 8) (q := (RX8, TX8, 3)) dX4_init_120 rfl rfl (by decide) h (fun M120_1 h => ?_)
  refine wt_iinc (pc := 121) (d := 1) (ls' := [(1, .int ((0 + 1) + 1)), (0, rf G.1 l0)]) 0 dX4_init_121 rfl (by decide) (by decide) (by simp [rf_cat, cat_i, cat_l, cat_r]) ?_
  refine wt_goto (pc := 124) (tgt := 102) dX4_init_124 (by decide) ?_
  refine wt_iload_n (pc := 102) 0 dX4_init_102 rfl ?_
  refine wt_bipush (pc := 103) (v := 6) dX4_init_103 (by decide) ?_
  refine wt_icmp_ge (pc := 105) (tgt := 127) dX4_init_105 (by decide) (fun q => absurd q (by decide)) (fun q => ?_)
  refine wt_aload_n (pc := 108) 1 dX4_init_108 rfl ?_
  refine wt_getR (pc := 109) dX4_init_109 fl_X4_25 (fun _ _ _ => rfl) h (fun v109_2 h => ?_)
  refine wt_iload_n (pc := 112) 0 dX4_init_112 rfl ?_
  refine wt_new (pc := 113) (n := 3) dX4_init_113 cl_X4_23 rfl (by decide) (by decide) h (fun q113_2 M113_2 h => ?_)
  refine wt_dup (pc := 116) dX4_init_116 (rf_cat _ _) ?_
  refine wt_cI (pc := 117) (J' := j_X8_init) (As := []) (st := [rf G.1 q113_2, .int ((0 + 1) + 1), rf G.1 v109_2]) (B' := b_X8_init) (u' := 27) (w' := 203) dX4_init_117 ml_X4_40 mi_X8_init (fun M9 e9 => c_X8_init e9) rfl (by decide) rfl rfl (by decide) (by decide) (by simp [rf_cat, cat_i, cat_l, cat_r]) rfl h (fun M117_2 h => ?_)
  refine wt_aastore (pc := 120) (kd := 38) (ci := 8) (q := (RX8, TX8, 3)) dX4_init_120 rfl rfl (by decide) h (fun M120_2 h => ?_)
  refine wt_iinc (pc := 121) (d := 1) (ls' := [(1, .int (((0 + 1) + 1) + 1)), (0, rf G.1 l0)]) 0 dX4_init_121 rfl (by decide) (by decide) (by simp [rf_cat, cat_i, cat_l, cat_r]) ?_
  refine wt_goto (pc := 124) (tgt := 102) dX4_init_124 (by decide) ?_
  refine wt_iload_n (pc := 102) 0 dX4_init_102 rfl ?_
  refine wt_bipush (pc := 103) (v := 6) dX4_init_103 (by decide) ?_
  refine wt_icmp_ge (pc := 105) (tgt := 127) dX4_init_105 (by decide) (fun q => absurd q (by decide)) (fun q => ?_)
  refine wt_aload_n (pc := 108) 1 dX4_init_108 rfl ?_
  refine wt_getR (pc := 109) dX4_init_109 fl_X4_25 (fun _ _ _ => rfl) h (fun v109_3 h => ?_)
  refine wt_iload_n (pc := 112) 0 dX4_init_112 rfl ?_
  refine wt_new (pc := 113) (n := 3) dX4_init_113 cl_X4_23 rfl (by decide) (by decide) h (fun q113_3 M113_3 h => ?_)
  refine wt_dup (pc := 116) dX4_init_116 (rf_cat _ _) ?_
  refine wt_cI (pc := 117) (J' := j_X8_init) (As := []) (st := [rf G.1 q113_3, .int (((0 + 1) + 1) + 1), rf G.1 v109_3]) (B' := b_X8_init) (u' := 28) (w' := 206) dX4_init_117 ml_X4_40 mi_X8_init (fun M9 e9 => c_X8_init e9) rfl (by decide) rfl rfl (by decide) (by decide) (by simp [rf_cat, cat_i, cat_l, cat_r]) rfl h (fun M117_3 h => ?_)
  refine wt_aastore (pc := 120) (kd := 38) (ci := 8) (q := (RX8, TX8, 3)) dX4_init_120 rfl rfl (by decide) h (fun M120_3 h => ?_)
  refine wt_iinc (pc := 121) (d := 1) (ls' := [(1, .int ((((0 + 1) + 1) + 1) + 1)), (0, rf G.1 l0)]) 0 dX4_init_121 rfl (by decide) (by decide) (by simp [rf_cat, cat_i, cat_l, cat_r]) ?_
  refine wt_goto (pc := 124) (tgt := 102) dX4_init_124 (by decide) ?_
  refine wt_iload_n (pc := 102) 0 dX4_init_102 rfl ?_
  refine wt_bipush (pc := 103) (v := 6) dX4_init_103 (by decide) ?_
  refine wt_icmp_ge (pc := 105) (tgt := 127) dX4_init_105 (by decide) (fun q => absurd q (by decide)) (fun q => ?_)
  refine wt_aload_n (pc := 108) 1 dX4_init_108 rfl ?_
  refine wt_getR (pc := 109) dX4_init_109 fl_X4_25 (fun _ _ _ => rfl) h (fun v109_4 h => ?_)
  refine wt_iload_n (pc := 112) 0 dX4_init_112 rfl ?_
  refine wt_new (pc := 113) (n := 3) dX4_init_113 cl_X4_23 rfl (by decide) (by decide) h (fun q113_4 M113_4 h => ?_)
  refine wt_dup (pc := 116) dX4_init_116 (rf_cat _ _) ?_
  refine wt_cI (pc := 117) (J' := j_X8_init) (As := []) (st := [rf G.1 q113_4, .int ((((0 + 1) + 1) + 1) + 1), rf G.1 v109_4]) (B' := b_X8_init) (u' := 29) (w' := 209) dX4_init_117 ml_X4_40 mi_X8_init (fun M9 e9 => c_X8_init e9) rfl (by decide) rfl rfl (by decide) (by decide) (by simp [rf_cat, cat_i, cat_l, cat_r]) rfl h (fun M117_4 h => ?_)
  refine wt_aastore (pc := 120) (kd := 38) (ci := 8) (q := (RX8, TX8, 3)) dX4_init_120 rfl rfl (by decide) h (fun M120_4 h => ?_)
  refine wt_iinc (pc := 121) (d := 1) (ls' := [(1, .int (((((0 + 1) + 1) + 1) + 1) + 1)), (0, rf G.1 l0)]) 0 dX4_init_121 rfl (by decide) (by decide) (by simp [rf_cat, cat_i, cat_l, cat_r]) ?_
  refine wt_goto (pc := 124) (tgt := 102) dX4_init_124 (by decide) ?_
  refine wt_iload_n (pc := 102) 0 dX4_init_102 rfl ?_
  refine wt_bipush (pc := 103) (v := 6) dX4_init_103 (by decide) ?_
  refine wt_icmp_ge (pc := 105) (tgt := 127) dX4_init_105 (by decide) (fun q => absurd q (by decide)) (fun q => ?_)
  refine wt_aload_n (pc := 108) 1 dX4_init_108 rfl ?_
  refine wt_getR (pc := 109) dX4_init_109 fl_X4_25 (fun _ _ _ => rfl) h (fun v109_5 h => ?_)
  refine wt_iload_n (pc := 112) 0 dX4_init_112 rfl ?_
  refine wt_new (pc := 113) (n := 3) dX4_init_113 cl_X4_23 rfl (by decide) (by decide) h (fun q113_5 M113_5 h => ?_)
  refine wt_dup (pc := 116) dX4_init_116 (rf_cat _ _) ?_
  refine wt_cI (pc := 117) (J' := j_X8_init) (As := []) (st := [rf G.1 q113_5, .int (((((0 + 1) + 1) + 1) + 1) + 1), rf G.1 v109_5]) (B' := b_X8_init) (u' := 30) (w' := 212) dX4_init_117 ml_X4_40 mi_X8_init (fun M9 e9 => c_X8_init e9) rfl (by decide) rfl rfl (by decide) (by decide) (by simp [rf_cat, cat_i, cat_l, cat_r]) rfl h (fun M117_5 h => ?_)
  refine wt_aastore (pc := 120) (kd := 38) (ci := 8) (q := (RX8, TX8, 3)) dX4_init_120 rfl rfl (by decide) h (fun M120_5 h => ?_)
  refine wt_iinc (pc := 121) (d := 1) (ls' := [(1, .int ((((((0 + 1) + 1) + 1) + 1) + 1) + 1)), (0, rf G.1 l0)]) 0 dX4_init_121 rfl (by decide) (by decide) (by simp [rf_cat, cat_i, cat_l, cat_r]) ?_
  refine wt_goto (pc := 124) (tgt := 102) dX4_init_124 (by decide) ?_
  refine wt_iload_n (pc := 102) 0 dX4_init_102 rfl ?_
  refine wt_bipush (pc := 103) (v := 6) dX4_init_103 (by decide) ?_
  refine wt_icmp_ge (pc := 105) (tgt := 127) dX4_init_105 (by decide) (fun q => ?_) (fun q => absurd (by decide) q)
  cases h
  exact he 127 _ _ _ dX4_init_127 (by decide) (by decide)
set_option maxHeartbeats 4000000 in
set_option maxRecDepth 100000 in
theorem c_X4_init {G : GG} {M : Mm} {l0 : Option Nat} {r : Mm} (h : f_X4_init M l0 = some r) (l : Launch) : Ct l G j_X4_init b_X4_init [rf G.1 l0] M none r := cf_V (by decide +kernel) (by simp [lg_sl, rf_cat, cat_i, cat_l, j_X4_init]) rfl (by simp [lv_args, rf_cat, cat_i, cat_l]) (fun X he => t_X4_init_e he h)
def f_X4_clear_35 (k27 : Mm → Option Nat → Int32 → Option (Mm)) : Nat → Mm → Option Nat → Int32 → Int32 → Option (Mm)
  | 0, _, _, _, _ => none
  | n + 1, M, l0, l1, l2 => if 8 ≤ l2 then (k27 M l0 (l1 + 1)) else (gfR M l0 4 6 fun v42 => alR M v42 50 l1 fun v46 => asI M v46 21 l2 0 fun M49 => f_X4_clear_35 k27 n M49 l0 l1 (l2 + 1))
def f_X4_clear_27 : Nat → Mm → Option Nat → Int32 → Option (Mm)
  | 0, _, _, _ => none
  | n + 1, M, l0, l1 => if 8 ≤ l1 then (some M) else (f_X4_clear_35 (f_X4_clear_27 n) fu M l0 l1 0)
def f_X4_clear (M : Mm) (l0 : Option Nat) : Option (Mm) := pfI M l0 4 3 0 fun M2 => pfI M2 l0 4 4 0 fun M7 => pfI M7 l0 4 5 0 fun M12 => pfI M12 l0 4 7 3 fun M17 => pfI M17 l0 4 8 0 fun M22 => f_X4_clear_27  fu M22 l0 0
set_option maxHeartbeats 4000000 in
set_option maxRecDepth 100000 in
theorem t_X4_clear_35 {G : GG} {X : CX} {ans : Mm} (he : EndV G X j_X4_clear b_X4_clear ans) {k27 : Mm → Option Nat → Int32 → Option (Mm)} (hk27 : ∀ (M : Mm) (a0 : Option Nat) (a1 : Int32), k27 M a0 a1 = some ans → Wt G X j_X4_clear b_X4_clear 27 [(0, rf G.1 a0), (1, .int a1)] [] M 0 0) : ∀ (n : Nat) {M : Mm} {l0 : Option Nat} {l1 : Int32} {l2 : Int32}, f_X4_clear_35 k27 n M l0 l1 l2 = some ans → Wt G X j_X4_clear b_X4_clear 35 [(0, rf G.1 l0), (1, .int l1), (2, .int l2)] [] M 0 0 := by
  intro n
  induction n with
  | zero =>
    intro M l0 l1 l2 h
    rw [f_X4_clear_35] at h
    cases h
  | succ n ih =>
    intro M l0 l1 l2 h
    rw [f_X4_clear_35] at h
    refine wt_iload_n (pc := 35) 2 dX4_clear_35 rfl ?_
    refine wt_bipush (pc := 36) (v := 8) dX4_clear_36 (by decide) ?_
    refine wt_icmp_ge (pc := 38) (tgt := 56) dX4_clear_38 (by decide) (fun q => ?_) (fun q => ?_)
    · have h := ite_t q h
      refine wt_iinc (pc := 56) (d := 1) (ls' := [(1, .int (l1 + 1)), (0, rf G.1 l0), (2, .int l2)]) 1 dX4_clear_56 rfl (by decide) (by decide) (by simp [rf_cat, cat_i, cat_l, cat_r]) ?_
      refine wt_goto (pc := 59) (tgt := 27) dX4_clear_59 (by decide) ?_
      refine wt_sub (ls' := [(0, rf G.1 l0), (1, .int (l1 + 1))]) [1, 0] rfl ?_
      exact hk27 _ _ _ h
    · have h := ite_f q h
      refine wt_aload_n (pc := 41) 0 dX4_clear_41 rfl ?_
      refine wt_getR (pc := 42) dX4_clear_42 fl_X4_31 (fun _ _ _ => rfl) h (fun v42 h => ?_)
      refine wt_iload_n (pc := 45) 1 dX4_clear_45 rfl ?_
      refine wt_aaload (pc := 46) (kd := 50) dX4_clear_46 rfl rfl (by decide) h (fun v46 h => ?_)
      refine wt_iload_n (pc := 47) 2 dX4_clear_47 rfl ?_
      refine wt_iconst (pc := 48) (v := 0) dX4_clear_48 (by decide) ?_
      refine wt_iastore (pc := 49) (kd := 21) dX4_clear_49 rfl rfl h (fun M49 h => ?_)
      refine wt_iinc (pc := 50) (d := 1) (ls' := [(2, .int (l2 + 1)), (0, rf G.1 l0), (1, .int l1)]) 2 dX4_clear_50 rfl (by decide) (by decide) rfl ?_
      refine wt_goto (pc := 53) (tgt := 35) dX4_clear_53 (by decide) ?_
      refine wt_sub (ls' := [(0, rf G.1 l0), (1, .int l1), (2, .int (l2 + 1))]) [1, 2, 0] rfl ?_
      exact ih h
set_option maxHeartbeats 4000000 in
set_option maxRecDepth 100000 in
theorem t_X4_clear_27 {G : GG} {X : CX} {ans : Mm} (he : EndV G X j_X4_clear b_X4_clear ans) : ∀ (n : Nat) {M : Mm} {l0 : Option Nat} {l1 : Int32}, f_X4_clear_27 n M l0 l1 = some ans → Wt G X j_X4_clear b_X4_clear 27 [(0, rf G.1 l0), (1, .int l1)] [] M 0 0 := by
  intro n
  induction n with
  | zero =>
    intro M l0 l1 h
    rw [f_X4_clear_27] at h
    cases h
  | succ n ih =>
    intro M l0 l1 h
    rw [f_X4_clear_27] at h
    refine wt_iload_n (pc := 27) 1 dX4_clear_27 rfl ?_
    refine wt_bipush (pc := 28) (v := 8) dX4_clear_28 (by decide) ?_
    refine wt_icmp_ge (pc := 30) (tgt := 62) dX4_clear_30 (by decide) (fun q => ?_) (fun q => ?_)
    · have h := ite_t q h
      cases h
      exact he 62 _ _ _ dX4_clear_62 (by decide) (by decide)
    · have h := ite_f q h
      refine wt_iconst (pc := 33) (v := 0) dX4_clear_33 (by decide) ?_
      refine wt_istore_n (pc := 34) (i := 2) (ls' := [(2, .int 0), (0, rf G.1 l0), (1, .int l1)]) rfl dX4_clear_34 (by decide) rfl ?_
      refine wt_sub (ls' := [(0, rf G.1 l0), (1, .int l1), (2, .int 0)]) [1, 2, 0] rfl ?_
      exact t_X4_clear_35 he (fun _ _ _ h => ih h) fu h
set_option maxHeartbeats 4000000 in
set_option maxRecDepth 100000 in
theorem t_X4_clear_e {G : GG} {X : CX} {ans : Mm} (he : EndV G X j_X4_clear b_X4_clear ans) {M : Mm} {l0 : Option Nat} (h : f_X4_clear M l0 = some ans) : Wt G X j_X4_clear b_X4_clear 0 [(0, rf G.1 l0)] [] M 0 0 := by
  unfold f_X4_clear at h
  refine wt_aload_n (pc := 0) 0 dX4_clear_0 rfl ?_
  refine wt_iconst (pc := 1) (v := 0) dX4_clear_1 (by decide) ?_
  refine wt_putI (pc := 2) dX4_clear_2 fl_X4_41 rfl rfl h (fun M2 h => ?_)
  refine wt_aload_n (pc := 5) 0 dX4_clear_5 rfl ?_
  refine wt_iconst (pc := 6) (v := 0) dX4_clear_6 (by decide) ?_
  refine wt_putI (pc := 7) dX4_clear_7 fl_X4_44 rfl rfl h (fun M7 h => ?_)
  refine wt_aload_n (pc := 10) 0 dX4_clear_10 rfl ?_
  refine wt_iconst (pc := 11) (v := 0) dX4_clear_11 (by decide) ?_
  refine wt_putI (pc := 12) dX4_clear_12 fl_X4_47 rfl rfl h (fun M12 h => ?_)
  refine wt_aload_n (pc := 15) 0 dX4_clear_15 rfl ?_
  refine wt_iconst (pc := 16) (v := 3) dX4_clear_16 (by decide) ?_
  refine wt_putI (pc := 17) dX4_clear_17 fl_X4_34 rfl rfl h (fun M17 h => ?_)
  refine wt_aload_n (pc := 20) 0 dX4_clear_20 rfl ?_
  refine wt_iconst (pc := 21) (v := 0) dX4_clear_21 (by decide) ?_
  refine wt_putI (pc := 22) dX4_clear_22 fl_X4_50 rfl rfl h (fun M22 h => ?_)
  refine wt_iconst (pc := 25) (v := 0) dX4_clear_25 (by decide) ?_
  refine wt_istore_n (pc := 26) (i := 1) (ls' := [(1, .int 0), (0, rf G.1 l0)]) rfl dX4_clear_26 (by decide) (by simp [rf_cat, cat_i, cat_l, cat_r]) ?_
  refine wt_sub (ls' := [(0, rf G.1 l0), (1, .int 0)]) [1, 0] rfl ?_
  exact t_X4_clear_27 he  fu h
set_option maxHeartbeats 4000000 in
set_option maxRecDepth 100000 in
theorem c_X4_clear {G : GG} {M : Mm} {l0 : Option Nat} {r : Mm} (h : f_X4_clear M l0 = some r) (l : Launch) : Ct l G j_X4_clear b_X4_clear [rf G.1 l0] M none r := cf_V (by decide +kernel) (by simp [lg_sl, rf_cat, cat_i, cat_l, j_X4_clear]) rfl (by simp [lv_args, rf_cat, cat_i, cat_l]) (fun X he => t_X4_clear_e he h)
def f_X4_copyFrom_123 : Nat → Mm → Option Nat → Option Nat → Int32 → Option (Mm)
  | 0, _, _, _, _ => none
  | n + 1, M, l0, l1, l2 => gfI M l0 4 5 fun v125 => if v125 ≤ l2 then (some M) else (gfR M l0 4 2 fun v132 => alR M v132 38 l2 fun v136 => gfR M l1 4 2 fun v138 => alR M v138 38 l2 fun v142 => ck M v136 8 <| bv (f_X8_copyFrom M v136 v142) fun M143 => f_X4_copyFrom_123 n M143 l0 l1 (l2 + 1))
def f_X4_copyFrom_92 : Nat → Mm → Option Nat → Option Nat → Int32 → Option (Mm)
  | 0, _, _, _, _ => none
  | n + 1, M, l0, l1, l2 => gfI M l0 4 4 fun v94 => if v94 ≤ l2 then (f_X4_copyFrom_123  fu M l0 l1 0) else (gfR M l0 4 1 fun v101 => alR M v101 30 l2 fun v105 => gfR M l1 4 1 fun v107 => alR M v107 30 l2 fun v111 => ck M v105 0 <| bv (f_X0_copyFrom M v105 v111) fun M112 => f_X4_copyFrom_92 n M112 l0 l1 (l2 + 1))
def f_X4_copyFrom_42 : Nat → Mm → Option Nat → Option Nat → Int32 → Option (Mm)
  | 0, _, _, _, _ => none
  | n + 1, M, l0, l1, l2 => gfI M l0 4 3 fun v44 => if v44 ≤ l2 then (f_X4_copyFrom_92  fu M l0 l1 0) else (gfR M l0 4 0 fun v51 => alR M v51 31 l2 fun v55 => gfR M l1 4 0 fun v57 => alR M v57 31 l2 fun v61 => ck M v55 1 <| bv (f_X1_copyFrom M v55 v61) fun M62 => gfR M62 l1 4 6 fun v66 => alR M62 v66 50 l2 fun v70 => gfR M62 l0 4 6 fun v73 => alR M62 v73 50 l2 fun v77 => acI M62 v70 0 v77 0 8 fun M81 => f_X4_copyFrom_42 n M81 l0 l1 (l2 + 1))
def f_X4_copyFrom (M : Mm) (l0 : Option Nat) (l1 : Option Nat) : Option (Mm) := gfI M l1 4 3 fun v2 => pfI M l0 4 3 v2 fun M5 => gfI M5 l1 4 4 fun v10 => pfI M5 l0 4 4 v10 fun M13 => gfI M13 l1 4 5 fun v18 => pfI M13 l0 4 5 v18 fun M21 => gfI M21 l1 4 7 fun v26 => pfI M21 l0 4 7 v26 fun M29 => gfI M29 l1 4 8 fun v34 => pfI M29 l0 4 8 v34 fun M37 => f_X4_copyFrom_42  fu M37 l0 l1 0
set_option maxHeartbeats 4000000 in
set_option maxRecDepth 100000 in
theorem t_X4_copyFrom_123 {G : GG} {X : CX} {ans : Mm} (he : EndV G X j_X4_copyFrom b_X4_copyFrom ans) : ∀ (n : Nat) {M : Mm} {l0 : Option Nat} {l1 : Option Nat} {l2 : Int32}, f_X4_copyFrom_123 n M l0 l1 l2 = some ans → Wt G X j_X4_copyFrom b_X4_copyFrom 123 [(0, rf G.1 l0), (1, rf G.1 l1), (2, .int l2)] [] M 0 0 := by
  intro n
  induction n with
  | zero =>
    intro M l0 l1 l2 h
    rw [f_X4_copyFrom_123] at h
    cases h
  | succ n ih =>
    intro M l0 l1 l2 h
    rw [f_X4_copyFrom_123] at h
    refine wt_iload_n (pc := 123) 2 dX4_copyFrom_123 rfl ?_
    refine wt_aload_n (pc := 124) 0 dX4_copyFrom_124 rfl ?_
    refine wt_getI (pc := 125) dX4_copyFrom_125 fl_X4_47 (fun _ _ _ => rfl) h (fun v125 h => ?_)
    refine wt_icmp_ge (pc := 128) (tgt := 152) dX4_copyFrom_128 (by decide) (fun q => ?_) (fun q => ?_)
    · have h := ite_t q h
      cases h
      exact he 152 _ _ _ dX4_copyFrom_152 (by decide) (by decide)
    · have h := ite_f q h
      refine wt_aload_n (pc := 131) 0 dX4_copyFrom_131 rfl ?_
      refine wt_getR (pc := 132) dX4_copyFrom_132 fl_X4_25 (fun _ _ _ => rfl) h (fun v132 h => ?_)
      refine wt_iload_n (pc := 135) 2 dX4_copyFrom_135 rfl ?_
      refine wt_aaload (pc := 136) (kd := 38) dX4_copyFrom_136 rfl rfl (by decide) h (fun v136 h => ?_)
      refine wt_aload_n (pc := 137) 1 dX4_copyFrom_137 rfl ?_
      refine wt_getR (pc := 138) dX4_copyFrom_138 fl_X4_25 (fun _ _ _ => rfl) h (fun v138 h => ?_)
      refine wt_iload_n (pc := 141) 2 dX4_copyFrom_141 rfl ?_
      refine wt_aaload (pc := 142) (kd := 38) dX4_copyFrom_142 rfl rfl (by decide) h (fun v142 h => ?_)
      refine wt_cVV (pc := 143) (J' := j_X8_copyFrom) (As := [rf G.1 v142]) (st := []) (B' := b_X8_copyFrom) (u' := 0) (w' := 0) dX4_copyFrom_143 ml_X4_66 mv_X8_copyFrom (fun M9 e9 => c_X8_copyFrom e9) rfl (by decide) rfl rfl (by decide) (by decide) (by decide) rfl h (fun M143 h => ?_)
      refine wt_iinc (pc := 146) (d := 1) (ls' := [(2, .int (l2 + 1)), (0, rf G.1 l0), (1, rf G.1 l1)]) 2 dX4_copyFrom_146 rfl (by decide) (by decide) (by simp [rf_cat, cat_i, cat_l, cat_r]) ?_
      refine wt_goto (pc := 149) (tgt := 123) dX4_copyFrom_149 (by decide) ?_
      refine wt_sub (ls' := [(0, rf G.1 l0), (1, rf G.1 l1), (2, .int (l2 + 1))]) [1, 2, 0] rfl ?_
      exact ih h
set_option maxHeartbeats 4000000 in
set_option maxRecDepth 100000 in
theorem t_X4_copyFrom_92 {G : GG} {X : CX} {ans : Mm} (he : EndV G X j_X4_copyFrom b_X4_copyFrom ans) : ∀ (n : Nat) {M : Mm} {l0 : Option Nat} {l1 : Option Nat} {l2 : Int32}, f_X4_copyFrom_92 n M l0 l1 l2 = some ans → Wt G X j_X4_copyFrom b_X4_copyFrom 92 [(0, rf G.1 l0), (1, rf G.1 l1), (2, .int l2)] [] M 0 0 := by
  intro n
  induction n with
  | zero =>
    intro M l0 l1 l2 h
    rw [f_X4_copyFrom_92] at h
    cases h
  | succ n ih =>
    intro M l0 l1 l2 h
    rw [f_X4_copyFrom_92] at h
    refine wt_iload_n (pc := 92) 2 dX4_copyFrom_92 rfl ?_
    refine wt_aload_n (pc := 93) 0 dX4_copyFrom_93 rfl ?_
    refine wt_getI (pc := 94) dX4_copyFrom_94 fl_X4_44 (fun _ _ _ => rfl) h (fun v94 h => ?_)
    refine wt_icmp_ge (pc := 97) (tgt := 121) dX4_copyFrom_97 (by decide) (fun q => ?_) (fun q => ?_)
    · have h := ite_t q h
      refine wt_iconst (pc := 121) (v := 0) dX4_copyFrom_121 (by decide) ?_
      refine wt_istore_n (pc := 122) (i := 2) (ls' := [(2, .int 0), (0, rf G.1 l0), (1, rf G.1 l1)]) rfl dX4_copyFrom_122 (by decide) (by simp [rf_cat, cat_i, cat_l, cat_r]) ?_
      refine wt_sub (ls' := [(0, rf G.1 l0), (1, rf G.1 l1), (2, .int 0)]) [1, 2, 0] rfl ?_
      exact t_X4_copyFrom_123 he  fu h
    · have h := ite_f q h
      refine wt_aload_n (pc := 100) 0 dX4_copyFrom_100 rfl ?_
      refine wt_getR (pc := 101) dX4_copyFrom_101 fl_X4_19 (fun _ _ _ => rfl) h (fun v101 h => ?_)
      refine wt_iload_n (pc := 104) 2 dX4_copyFrom_104 rfl ?_
      refine wt_aaload (pc := 105) (kd := 30) dX4_copyFrom_105 rfl rfl (by decide) h (fun v105 h => ?_)
      refine wt_aload_n (pc := 106) 1 dX4_copyFrom_106 rfl ?_
      refine wt_getR (pc := 107) dX4_copyFrom_107 fl_X4_19 (fun _ _ _ => rfl) h (fun v107 h => ?_)
      refine wt_iload_n (pc := 110) 2 dX4_copyFrom_110 rfl ?_
      refine wt_aaload (pc := 111) (kd := 30) dX4_copyFrom_111 rfl rfl (by decide) h (fun v111 h => ?_)
      refine wt_cVV (pc := 112) (J' := j_X0_copyFrom) (As := [rf G.1 v111]) (st := []) (B' := b_X0_copyFrom) (u' := 0) (w' := 0) dX4_copyFrom_112 ml_X4_63 mv_X0_copyFrom (fun M9 e9 => c_X0_copyFrom e9) rfl (by decide) rfl rfl (by decide) (by decide) (by decide) rfl h (fun M112 h => ?_)
      refine wt_iinc (pc := 115) (d := 1) (ls' := [(2, .int (l2 + 1)), (0, rf G.1 l0), (1, rf G.1 l1)]) 2 dX4_copyFrom_115 rfl (by decide) (by decide) (by simp [rf_cat, cat_i, cat_l, cat_r]) ?_
      refine wt_goto (pc := 118) (tgt := 92) dX4_copyFrom_118 (by decide) ?_
      refine wt_sub (ls' := [(0, rf G.1 l0), (1, rf G.1 l1), (2, .int (l2 + 1))]) [1, 2, 0] rfl ?_
      exact ih h
set_option maxHeartbeats 4000000 in
set_option maxRecDepth 100000 in
theorem t_X4_copyFrom_42 {G : GG} {X : CX} {ans : Mm} (he : EndV G X j_X4_copyFrom b_X4_copyFrom ans) : ∀ (n : Nat) {M : Mm} {l0 : Option Nat} {l1 : Option Nat} {l2 : Int32}, f_X4_copyFrom_42 n M l0 l1 l2 = some ans → Wt G X j_X4_copyFrom b_X4_copyFrom 42 [(0, rf G.1 l0), (1, rf G.1 l1), (2, .int l2)] [] M 0 0 := by
  intro n
  induction n with
  | zero =>
    intro M l0 l1 l2 h
    rw [f_X4_copyFrom_42] at h
    cases h
  | succ n ih =>
    intro M l0 l1 l2 h
    rw [f_X4_copyFrom_42] at h
    refine wt_iload_n (pc := 42) 2 dX4_copyFrom_42 rfl ?_
    refine wt_aload_n (pc := 43) 0 dX4_copyFrom_43 rfl ?_
    refine wt_getI (pc := 44) dX4_copyFrom_44 fl_X4_41 (fun _ _ _ => rfl) h (fun v44 h => ?_)
    refine wt_icmp_ge (pc := 47) (tgt := 90) dX4_copyFrom_47 (by decide) (fun q => ?_) (fun q => ?_)
    · have h := ite_t q h
      refine wt_iconst (pc := 90) (v := 0) dX4_copyFrom_90 (by decide) ?_
      refine wt_istore_n (pc := 91) (i := 2) (ls' := [(2, .int 0), (0, rf G.1 l0), (1, rf G.1 l1)]) rfl dX4_copyFrom_91 (by decide) (by simp [rf_cat, cat_i, cat_l, cat_r]) ?_
      refine wt_sub (ls' := [(0, rf G.1 l0), (1, rf G.1 l1), (2, .int 0)]) [1, 2, 0] rfl ?_
      exact t_X4_copyFrom_92 he  fu h
    · have h := ite_f q h
      refine wt_aload_n (pc := 50) 0 dX4_copyFrom_50 rfl ?_
      refine wt_getR (pc := 51) dX4_copyFrom_51 fl_X4_11 (fun _ _ _ => rfl) h (fun v51 h => ?_)
      refine wt_iload_n (pc := 54) 2 dX4_copyFrom_54 rfl ?_
      refine wt_aaload (pc := 55) (kd := 31) dX4_copyFrom_55 rfl rfl (by decide) h (fun v55 h => ?_)
      refine wt_aload_n (pc := 56) 1 dX4_copyFrom_56 rfl ?_
      refine wt_getR (pc := 57) dX4_copyFrom_57 fl_X4_11 (fun _ _ _ => rfl) h (fun v57 h => ?_)
      refine wt_iload_n (pc := 60) 2 dX4_copyFrom_60 rfl ?_
      refine wt_aaload (pc := 61) (kd := 31) dX4_copyFrom_61 rfl rfl (by decide) h (fun v61 h => ?_)
      refine wt_cVV (pc := 62) (J' := j_X1_copyFrom) (As := [rf G.1 v61]) (st := []) (B' := b_X1_copyFrom) (u' := 0) (w' := 0) dX4_copyFrom_62 ml_X4_53 mv_X1_copyFrom (fun M9 e9 => c_X1_copyFrom e9) rfl (by decide) rfl rfl (by decide) (by decide) (by decide) rfl h (fun M62 h => ?_)
      refine wt_aload_n (pc := 65) 1 dX4_copyFrom_65 rfl ?_
      refine wt_getR (pc := 66) dX4_copyFrom_66 fl_X4_31 (fun _ _ _ => rfl) h (fun v66 h => ?_)
      refine wt_iload_n (pc := 69) 2 dX4_copyFrom_69 rfl ?_
      refine wt_aaload (pc := 70) (kd := 50) dX4_copyFrom_70 rfl rfl (by decide) h (fun v70 h => ?_)
      refine wt_iconst (pc := 71) (v := 0) dX4_copyFrom_71 (by decide) ?_
      refine wt_aload_n (pc := 72) 0 dX4_copyFrom_72 rfl ?_
      refine wt_getR (pc := 73) dX4_copyFrom_73 fl_X4_31 (fun _ _ _ => rfl) h (fun v73 h => ?_)
      refine wt_iload_n (pc := 76) 2 dX4_copyFrom_76 rfl ?_
      refine wt_aaload (pc := 77) (kd := 50) dX4_copyFrom_77 rfl rfl (by decide) h (fun v77 h => ?_)
      refine wt_iconst (pc := 78) (v := 0) dX4_copyFrom_78 (by decide) ?_
      refine wt_bipush (pc := 79) (v := 8) dX4_copyFrom_79 (by decide) ?_
      refine wt_copyI (pc := 81) dX4_copyFrom_81 bi_X4_57 mw_copy.1 mw_copy.2.1 mw_copy.2.2 (by decide) (by decide) h (fun M81 h => ?_)
      refine wt_iinc (pc := 84) (d := 1) (ls' := [(2, .int (l2 + 1)), (0, rf G.1 l0), (1, rf G.1 l1)]) 2 dX4_copyFrom_84 rfl (by decide) (by decide) (by simp [rf_cat, cat_i, cat_l, cat_r]) ?_
      refine wt_goto (pc := 87) (tgt := 42) dX4_copyFrom_87 (by decide) ?_
      refine wt_sub (ls' := [(0, rf G.1 l0), (1, rf G.1 l1), (2, .int (l2 + 1))]) [1, 2, 0] rfl ?_
      exact ih h
set_option maxHeartbeats 4000000 in
set_option maxRecDepth 100000 in
theorem t_X4_copyFrom_e {G : GG} {X : CX} {ans : Mm} (he : EndV G X j_X4_copyFrom b_X4_copyFrom ans) {M : Mm} {l0 : Option Nat} {l1 : Option Nat} (h : f_X4_copyFrom M l0 l1 = some ans) : Wt G X j_X4_copyFrom b_X4_copyFrom 0 [(0, rf G.1 l0), (1, rf G.1 l1)] [] M 0 0 := by
  unfold f_X4_copyFrom at h
  refine wt_aload_n (pc := 0) 0 dX4_copyFrom_0 rfl ?_
  refine wt_aload_n (pc := 1) 1 dX4_copyFrom_1 rfl ?_
  refine wt_getI (pc := 2) dX4_copyFrom_2 fl_X4_41 (fun _ _ _ => rfl) h (fun v2 h => ?_)
  refine wt_putI (pc := 5) dX4_copyFrom_5 fl_X4_41 rfl rfl h (fun M5 h => ?_)
  refine wt_aload_n (pc := 8) 0 dX4_copyFrom_8 rfl ?_
  refine wt_aload_n (pc := 9) 1 dX4_copyFrom_9 rfl ?_
  refine wt_getI (pc := 10) dX4_copyFrom_10 fl_X4_44 (fun _ _ _ => rfl) h (fun v10 h => ?_)
  refine wt_putI (pc := 13) dX4_copyFrom_13 fl_X4_44 rfl rfl h (fun M13 h => ?_)
  refine wt_aload_n (pc := 16) 0 dX4_copyFrom_16 rfl ?_
  refine wt_aload_n (pc := 17) 1 dX4_copyFrom_17 rfl ?_
  refine wt_getI (pc := 18) dX4_copyFrom_18 fl_X4_47 (fun _ _ _ => rfl) h (fun v18 h => ?_)
  refine wt_putI (pc := 21) dX4_copyFrom_21 fl_X4_47 rfl rfl h (fun M21 h => ?_)
  refine wt_aload_n (pc := 24) 0 dX4_copyFrom_24 rfl ?_
  refine wt_aload_n (pc := 25) 1 dX4_copyFrom_25 rfl ?_
  refine wt_getI (pc := 26) dX4_copyFrom_26 fl_X4_34 (fun _ _ _ => rfl) h (fun v26 h => ?_)
  refine wt_putI (pc := 29) dX4_copyFrom_29 fl_X4_34 rfl rfl h (fun M29 h => ?_)
  refine wt_aload_n (pc := 32) 0 dX4_copyFrom_32 rfl ?_
  refine wt_aload_n (pc := 33) 1 dX4_copyFrom_33 rfl ?_
  refine wt_getI (pc := 34) dX4_copyFrom_34 fl_X4_50 (fun _ _ _ => rfl) h (fun v34 h => ?_)
  refine wt_putI (pc := 37) dX4_copyFrom_37 fl_X4_50 rfl rfl h (fun M37 h => ?_)
  refine wt_iconst (pc := 40) (v := 0) dX4_copyFrom_40 (by decide) ?_
  refine wt_istore_n (pc := 41) (i := 2) (ls' := [(2, .int 0), (0, rf G.1 l0), (1, rf G.1 l1)]) rfl dX4_copyFrom_41 (by decide) (by simp [rf_cat, cat_i, cat_l, cat_r]) ?_
  refine wt_sub (ls' := [(0, rf G.1 l0), (1, rf G.1 l1), (2, .int 0)]) [1, 2, 0] rfl ?_
  exact t_X4_copyFrom_42 he  fu h
set_option maxHeartbeats 4000000 in
set_option maxRecDepth 100000 in
theorem c_X4_copyFrom {G : GG} {M : Mm} {l0 : Option Nat} {l1 : Option Nat} {r : Mm} (h : f_X4_copyFrom M l0 l1 = some r) (l : Launch) : Ct l G j_X4_copyFrom b_X4_copyFrom [rf G.1 l0, rf G.1 l1] M none r := cf_V (by decide +kernel) (by simp [lg_sl, rf_cat, cat_i, cat_l, j_X4_copyFrom]) rfl (by simp [lv_args, rf_cat, cat_i, cat_l]) (fun X he => t_X4_copyFrom_e he h)
def f_X4_houseNamed_2 : Nat → Mm → Option Nat → Int64 → Int32 → Option (Int32 × Mm)
  | 0, _, _, _, _ => none
  | n + 1, M, l0, l1, l3 => gfI M l0 4 3 fun v4 => if v4 ≤ l3 then (some ((-1), M)) else (gfR M l0 4 0 fun v11 => alR M v11 31 l3 fun v15 => gfL M v15 1 0 fun v16 => if (lg_cmp v16 l1) = 0 then (some (l3, M)) else (f_X4_houseNamed_2 n M l0 l1 (l3 + 1)))
def f_X4_houseNamed (M : Mm) (l0 : Option Nat) (l1 : Int64) : Option (Int32 × Mm) := f_X4_houseNamed_2  fu M l0 l1 0
set_option maxHeartbeats 4000000 in
set_option maxRecDepth 100000 in
theorem t_X4_houseNamed_2 {G : GG} {X : CX} {ans : Int32 × Mm} (he : EndI G X j_X4_houseNamed b_X4_houseNamed ans) : ∀ (n : Nat) {M : Mm} {l0 : Option Nat} {l1 : Int64} {l3 : Int32}, f_X4_houseNamed_2 n M l0 l1 l3 = some ans → Wt G X j_X4_houseNamed b_X4_houseNamed 2 [(0, rf G.1 l0), (1, .long l1), (3, .int l3)] [] M 0 0 := by
  intro n
  induction n with
  | zero =>
    intro M l0 l1 l3 h
    rw [f_X4_houseNamed_2] at h
    cases h
  | succ n ih =>
    intro M l0 l1 l3 h
    rw [f_X4_houseNamed_2] at h
    refine wt_iload_n (pc := 2) 2 dX4_houseNamed_2 rfl ?_
    refine wt_aload_n (pc := 3) 0 dX4_houseNamed_3 rfl ?_
    refine wt_getI (pc := 4) dX4_houseNamed_4 fl_X4_41 (fun _ _ _ => rfl) h (fun v4 h => ?_)
    refine wt_icmp_ge (pc := 7) (tgt := 32) dX4_houseNamed_7 (by decide) (fun q => ?_) (fun q => ?_)
    · have h := ite_t q h
      refine wt_iconst (pc := 32) (v := (-1)) dX4_houseNamed_32 (by decide) ?_
      cases h
      exact he 33 _ _ _ dX4_houseNamed_33 (by decide) (by decide)
    · have h := ite_f q h
      refine wt_aload_n (pc := 10) 0 dX4_houseNamed_10 rfl ?_
      refine wt_getR (pc := 11) dX4_houseNamed_11 fl_X4_11 (fun _ _ _ => rfl) h (fun v11 h => ?_)
      refine wt_iload_n (pc := 14) 2 dX4_houseNamed_14 rfl ?_
      refine wt_aaload (pc := 15) (kd := 31) dX4_houseNamed_15 rfl rfl (by decide) h (fun v15 h => ?_)
      refine wt_getL (pc := 16) dX4_houseNamed_16 fl_X4_69 (fun _ _ _ => rfl) h (fun v16 h => ?_)
      refine wt_lload_n (pc := 19) 1 dX4_houseNamed_19 rfl ?_
      refine wt_lcmp (pc := 20) dX4_houseNamed_20 ?_
      refine wt_if_ne (pc := 21) (tgt := 26) dX4_houseNamed_21 (by decide) (fun q => ?_) (fun q => ?_)
      · have h := ite_f q h
        refine wt_iinc (pc := 26) (d := 1) (ls' := [(3, .int (l3 + 1)), (0, rf G.1 l0), (1, .long l1)]) 2 dX4_houseNamed_26 rfl (by decide) (by decide) rfl ?_
        refine wt_goto (pc := 29) (tgt := 2) dX4_houseNamed_29 (by decide) ?_
        refine wt_sub (ls' := [(0, rf G.1 l0), (1, .long l1), (3, .int (l3 + 1))]) [1, 2, 0] rfl ?_
        exact ih h
      · have h := ite_t q h
        refine wt_iload_n (pc := 24) 2 dX4_houseNamed_24 rfl ?_
        cases h
        exact he 25 _ _ _ dX4_houseNamed_25 (by decide) (by decide)
set_option maxHeartbeats 4000000 in
set_option maxRecDepth 100000 in
theorem t_X4_houseNamed_e {G : GG} {X : CX} {ans : Int32 × Mm} (he : EndI G X j_X4_houseNamed b_X4_houseNamed ans) {M : Mm} {l0 : Option Nat} {l1 : Int64} (h : f_X4_houseNamed M l0 l1 = some ans) : Wt G X j_X4_houseNamed b_X4_houseNamed 0 [(0, rf G.1 l0), (1, .long l1)] [] M 0 0 := by
  unfold f_X4_houseNamed at h
  refine wt_iconst (pc := 0) (v := 0) dX4_houseNamed_0 (by decide) ?_
  refine wt_istore_n (pc := 1) (i := 3) (ls' := [(3, .int 0), (0, rf G.1 l0), (1, .long l1)]) rfl dX4_houseNamed_1 (by decide) rfl ?_
  refine wt_sub (ls' := [(0, rf G.1 l0), (1, .long l1), (3, .int 0)]) [1, 2, 0] rfl ?_
  exact t_X4_houseNamed_2 he  fu h
set_option maxHeartbeats 4000000 in
set_option maxRecDepth 100000 in
theorem c_X4_houseNamed {G : GG} {M : Mm} {l0 : Option Nat} {l1 : Int64} {r : Int32 × Mm} (h : f_X4_houseNamed M l0 l1 = some r) (l : Launch) : Ct l G j_X4_houseNamed b_X4_houseNamed [rf G.1 l0, .long l1] M (some (.int r.1)) r.2 := cf_I (by decide +kernel) (by simp [lg_sl, rf_cat, cat_i, cat_l, j_X4_houseNamed]) rfl (by simp [lv_args, rf_cat, cat_i, cat_l]) (fun X he => t_X4_houseNamed_e he h)
def f_X4_gangNamed_2 : Nat → Mm → Option Nat → Int64 → Int32 → Option (Int32 × Mm)
  | 0, _, _, _, _ => none
  | n + 1, M, l0, l1, l3 => gfI M l0 4 4 fun v4 => if v4 ≤ l3 then (some ((-1), M)) else (gfR M l0 4 1 fun v11 => alR M v11 30 l3 fun v15 => gfL M v15 0 0 fun v16 => if (lg_cmp v16 l1) = 0 then (some (l3, M)) else (f_X4_gangNamed_2 n M l0 l1 (l3 + 1)))
def f_X4_gangNamed (M : Mm) (l0 : Option Nat) (l1 : Int64) : Option (Int32 × Mm) := f_X4_gangNamed_2  fu M l0 l1 0
set_option maxHeartbeats 4000000 in
set_option maxRecDepth 100000 in
theorem t_X4_gangNamed_2 {G : GG} {X : CX} {ans : Int32 × Mm} (he : EndI G X j_X4_gangNamed b_X4_gangNamed ans) : ∀ (n : Nat) {M : Mm} {l0 : Option Nat} {l1 : Int64} {l3 : Int32}, f_X4_gangNamed_2 n M l0 l1 l3 = some ans → Wt G X j_X4_gangNamed b_X4_gangNamed 2 [(0, rf G.1 l0), (1, .long l1), (3, .int l3)] [] M 0 0 := by
  intro n
  induction n with
  | zero =>
    intro M l0 l1 l3 h
    rw [f_X4_gangNamed_2] at h
    cases h
  | succ n ih =>
    intro M l0 l1 l3 h
    rw [f_X4_gangNamed_2] at h
    refine wt_iload_n (pc := 2) 2 dX4_gangNamed_2 rfl ?_
    refine wt_aload_n (pc := 3) 0 dX4_gangNamed_3 rfl ?_
    refine wt_getI (pc := 4) dX4_gangNamed_4 fl_X4_44 (fun _ _ _ => rfl) h (fun v4 h => ?_)
    refine wt_icmp_ge (pc := 7) (tgt := 32) dX4_gangNamed_7 (by decide) (fun q => ?_) (fun q => ?_)
    · have h := ite_t q h
      refine wt_iconst (pc := 32) (v := (-1)) dX4_gangNamed_32 (by decide) ?_
      cases h
      exact he 33 _ _ _ dX4_gangNamed_33 (by decide) (by decide)
    · have h := ite_f q h
      refine wt_aload_n (pc := 10) 0 dX4_gangNamed_10 rfl ?_
      refine wt_getR (pc := 11) dX4_gangNamed_11 fl_X4_19 (fun _ _ _ => rfl) h (fun v11 h => ?_)
      refine wt_iload_n (pc := 14) 2 dX4_gangNamed_14 rfl ?_
      refine wt_aaload (pc := 15) (kd := 30) dX4_gangNamed_15 rfl rfl (by decide) h (fun v15 h => ?_)
      refine wt_getL (pc := 16) dX4_gangNamed_16 fl_X4_73 (fun _ _ _ => rfl) h (fun v16 h => ?_)
      refine wt_lload_n (pc := 19) 1 dX4_gangNamed_19 rfl ?_
      refine wt_lcmp (pc := 20) dX4_gangNamed_20 ?_
      refine wt_if_ne (pc := 21) (tgt := 26) dX4_gangNamed_21 (by decide) (fun q => ?_) (fun q => ?_)
      · have h := ite_f q h
        refine wt_iinc (pc := 26) (d := 1) (ls' := [(3, .int (l3 + 1)), (0, rf G.1 l0), (1, .long l1)]) 2 dX4_gangNamed_26 rfl (by decide) (by decide) rfl ?_
        refine wt_goto (pc := 29) (tgt := 2) dX4_gangNamed_29 (by decide) ?_
        refine wt_sub (ls' := [(0, rf G.1 l0), (1, .long l1), (3, .int (l3 + 1))]) [1, 2, 0] rfl ?_
        exact ih h
      · have h := ite_t q h
        refine wt_iload_n (pc := 24) 2 dX4_gangNamed_24 rfl ?_
        cases h
        exact he 25 _ _ _ dX4_gangNamed_25 (by decide) (by decide)
set_option maxHeartbeats 4000000 in
set_option maxRecDepth 100000 in
theorem t_X4_gangNamed_e {G : GG} {X : CX} {ans : Int32 × Mm} (he : EndI G X j_X4_gangNamed b_X4_gangNamed ans) {M : Mm} {l0 : Option Nat} {l1 : Int64} (h : f_X4_gangNamed M l0 l1 = some ans) : Wt G X j_X4_gangNamed b_X4_gangNamed 0 [(0, rf G.1 l0), (1, .long l1)] [] M 0 0 := by
  unfold f_X4_gangNamed at h
  refine wt_iconst (pc := 0) (v := 0) dX4_gangNamed_0 (by decide) ?_
  refine wt_istore_n (pc := 1) (i := 3) (ls' := [(3, .int 0), (0, rf G.1 l0), (1, .long l1)]) rfl dX4_gangNamed_1 (by decide) rfl ?_
  refine wt_sub (ls' := [(0, rf G.1 l0), (1, .long l1), (3, .int 0)]) [1, 2, 0] rfl ?_
  exact t_X4_gangNamed_2 he  fu h
set_option maxHeartbeats 4000000 in
set_option maxRecDepth 100000 in
theorem c_X4_gangNamed {G : GG} {M : Mm} {l0 : Option Nat} {l1 : Int64} {r : Int32 × Mm} (h : f_X4_gangNamed M l0 l1 = some r) (l : Launch) : Ct l G j_X4_gangNamed b_X4_gangNamed [rf G.1 l0, .long l1] M (some (.int r.1)) r.2 := cf_I (by decide +kernel) (by simp [lg_sl, rf_cat, cat_i, cat_l, j_X4_gangNamed]) rfl (by simp [lv_args, rf_cat, cat_i, cat_l]) (fun X he => t_X4_gangNamed_e he h)
def f_X4_isTaken_50 (M : Mm)  : Option (Int32 × Mm) := some (1, M)
def f_X4_isTaken_2 : Nat → Mm → Option Nat → Int64 → Int32 → Option (Int32 × Mm)
  | 0, _, _, _, _ => none
  | n + 1, M, l0, l1, l3 => gfI M l0 4 5 fun v4 => if v4 ≤ l3 then (ck M l0 4 <| bd (f_X4_houseNamed M l0 l1) fun v34 M34 => if v34 = (-1) then (ck M34 l0 4 <| bd (f_X4_gangNamed M34 l0 l1) fun v43 M43 => if v43 = (-1) then (some (0, M43)) else (f_X4_isTaken_50  M43)) else (f_X4_isTaken_50  M34)) else (gfR M l0 4 2 fun v11 => alR M v11 38 l3 fun v15 => gfL M v15 8 0 fun v16 => if (lg_cmp v16 l1) = 0 then (some (1, M)) else (f_X4_isTaken_2 n M l0 l1 (l3 + 1)))
def g_X4_isTaken (M : Mm) (l0 : Option Nat) (l1 : Int64) : Option (Int32 × Mm) := f_X4_isTaken_2  fu M l0 l1 0
def f_X4_isTaken (M : Mm) (l0 : Option Nat) (l1 : Int64) : Option (Int32 × Mm) := zc (g_X4_isTaken M l0 l1)
set_option maxHeartbeats 4000000 in
set_option maxRecDepth 100000 in
theorem t_X4_isTaken_50 {G : GG} {X : CX} {ans : Int32 × Mm} (he : EndI G X j_X4_isTaken b_X4_isTaken ans) {M : Mm}  (h : f_X4_isTaken_50 M = some ans) : Wt G X j_X4_isTaken b_X4_isTaken 50 [] [] M 0 0 := by
  unfold f_X4_isTaken_50 at h
  refine wt_iconst (pc := 50) (v := 1) dX4_isTaken_50 (by decide) ?_
  refine wt_goto (pc := 51) (tgt := 55) dX4_isTaken_51 (by decide) ?_
  cases h
  exact he 55 _ _ _ dX4_isTaken_55 (by decide) (by decide)
set_option maxHeartbeats 4000000 in
set_option maxRecDepth 100000 in
theorem t_X4_isTaken_2 {G : GG} {X : CX} {ans : Int32 × Mm} (he : EndI G X j_X4_isTaken b_X4_isTaken ans) : ∀ (n : Nat) {M : Mm} {l0 : Option Nat} {l1 : Int64} {l3 : Int32}, f_X4_isTaken_2 n M l0 l1 l3 = some ans → Wt G X j_X4_isTaken b_X4_isTaken 2 [(0, rf G.1 l0), (1, .long l1), (3, .int l3)] [] M 0 0 := by
  intro n
  induction n with
  | zero =>
    intro M l0 l1 l3 h
    rw [f_X4_isTaken_2] at h
    cases h
  | succ n ih =>
    intro M l0 l1 l3 h
    rw [f_X4_isTaken_2] at h
    refine wt_iload_n (pc := 2) 2 dX4_isTaken_2 rfl ?_
    refine wt_aload_n (pc := 3) 0 dX4_isTaken_3 rfl ?_
    refine wt_getI (pc := 4) dX4_isTaken_4 fl_X4_47 (fun _ _ _ => rfl) h (fun v4 h => ?_)
    refine wt_icmp_ge (pc := 7) (tgt := 32) dX4_isTaken_7 (by decide) (fun q => ?_) (fun q => ?_)
    · have h := ite_t q h
      refine wt_aload_n (pc := 32) 0 dX4_isTaken_32 rfl ?_
      refine wt_lload_n (pc := 33) 1 dX4_isTaken_33 rfl ?_
      refine wt_cVI (pc := 34) (J' := j_X4_houseNamed) (As := [.long l1]) (st := []) (B' := b_X4_houseNamed) (u' := 0) (w' := 0) dX4_isTaken_34 ml_X4_75 mv_X4_houseNamed (fun v9 M9 e9 => c_X4_houseNamed e9) rfl (by decide) rfl rfl (by decide) (by decide) (by decide) rfl h (fun v34 M34 h => ?_)
      refine wt_iconst (pc := 37) (v := (-1)) dX4_isTaken_37 (by decide) ?_
      refine wt_icmp_ne (pc := 38) (tgt := 50) dX4_isTaken_38 (by decide) (fun q => ?_) (fun q => ?_)
      · have h := ite_f q h
        refine wt_sub (ls' := []) [] rfl ?_
        exact t_X4_isTaken_50 he  h
      · have h := ite_t q h
        refine wt_aload_n (pc := 41) 0 dX4_isTaken_41 rfl ?_
        refine wt_lload_n (pc := 42) 1 dX4_isTaken_42 rfl ?_
        refine wt_cVI (pc := 43) (J' := j_X4_gangNamed) (As := [.long l1]) (st := []) (B' := b_X4_gangNamed) (u' := 0) (w' := 0) dX4_isTaken_43 ml_X4_79 mv_X4_gangNamed (fun v9 M9 e9 => c_X4_gangNamed e9) rfl (by decide) rfl rfl (by decide) (by decide) (by decide) rfl h (fun v43 M43 h => ?_)
        refine wt_iconst (pc := 46) (v := (-1)) dX4_isTaken_46 (by decide) ?_
        refine wt_icmp_eq (pc := 47) (tgt := 54) dX4_isTaken_47 (by decide) (fun q => ?_) (fun q => ?_)
        · have h := ite_t q h
          refine wt_iconst (pc := 54) (v := 0) dX4_isTaken_54 (by decide) ?_
          cases h
          exact he 55 _ _ _ dX4_isTaken_55 (by decide) (by decide)
        · have h := ite_f q h
          refine wt_sub (ls' := []) [] rfl ?_
          exact t_X4_isTaken_50 he  h
    · have h := ite_f q h
      refine wt_aload_n (pc := 10) 0 dX4_isTaken_10 rfl ?_
      refine wt_getR (pc := 11) dX4_isTaken_11 fl_X4_25 (fun _ _ _ => rfl) h (fun v11 h => ?_)
      refine wt_iload_n (pc := 14) 2 dX4_isTaken_14 rfl ?_
      refine wt_aaload (pc := 15) (kd := 38) dX4_isTaken_15 rfl rfl (by decide) h (fun v15 h => ?_)
      refine wt_getL (pc := 16) dX4_isTaken_16 fl_X4_74 (fun _ _ _ => rfl) h (fun v16 h => ?_)
      refine wt_lload_n (pc := 19) 1 dX4_isTaken_19 rfl ?_
      refine wt_lcmp (pc := 20) dX4_isTaken_20 ?_
      refine wt_if_ne (pc := 21) (tgt := 26) dX4_isTaken_21 (by decide) (fun q => ?_) (fun q => ?_)
      · have h := ite_f q h
        refine wt_iinc (pc := 26) (d := 1) (ls' := [(3, .int (l3 + 1)), (0, rf G.1 l0), (1, .long l1)]) 2 dX4_isTaken_26 rfl (by decide) (by decide) rfl ?_
        refine wt_goto (pc := 29) (tgt := 2) dX4_isTaken_29 (by decide) ?_
        refine wt_sub (ls' := [(0, rf G.1 l0), (1, .long l1), (3, .int (l3 + 1))]) [1, 2, 0] rfl ?_
        exact ih h
      · have h := ite_t q h
        refine wt_iconst (pc := 24) (v := 1) dX4_isTaken_24 (by decide) ?_
        cases h
        exact he 25 _ _ _ dX4_isTaken_25 (by decide) (by decide)
set_option maxHeartbeats 4000000 in
set_option maxRecDepth 100000 in
theorem t_X4_isTaken_e {G : GG} {X : CX} {ans : Int32 × Mm} (he : EndI G X j_X4_isTaken b_X4_isTaken ans) {M : Mm} {l0 : Option Nat} {l1 : Int64} (h : g_X4_isTaken M l0 l1 = some ans) : Wt G X j_X4_isTaken b_X4_isTaken 0 [(0, rf G.1 l0), (1, .long l1)] [] M 0 0 := by
  unfold g_X4_isTaken at h
  refine wt_iconst (pc := 0) (v := 0) dX4_isTaken_0 (by decide) ?_
  refine wt_istore_n (pc := 1) (i := 3) (ls' := [(3, .int 0), (0, rf G.1 l0), (1, .long l1)]) rfl dX4_isTaken_1 (by decide) rfl ?_
  refine wt_sub (ls' := [(0, rf G.1 l0), (1, .long l1), (3, .int 0)]) [1, 2, 0] rfl ?_
  exact t_X4_isTaken_2 he  fu h
set_option maxHeartbeats 4000000 in
set_option maxRecDepth 100000 in
theorem c_X4_isTaken {G : GG} {M : Mm} {l0 : Option Nat} {l1 : Int64} {r : Int32 × Mm} (h : f_X4_isTaken M l0 l1 = some r) (l : Launch) : Ct l G j_X4_isTaken b_X4_isTaken [rf G.1 l0, .long l1] M (some (.int r.1)) r.2 := cf_Z h (by decide +kernel) (by simp [lg_sl, rf_cat, cat_i, cat_l, j_X4_isTaken]) rfl (by simp [lv_args, rf_cat, cat_i, cat_l]) (fun h X he => t_X4_isTaken_e he h)
def f_X4_offSet (M : Mm) (l0 : Option Nat) : Option (Int32 × Mm) := ck M l0 4 <| bd (f_X4_standingSet M l0) fun v1 M1 => ck M1 l0 4 <| bd (f_X4_openSet M1 l0) fun v5 M5 => some ((v1 &&& (v5 ^^^ (-1))), M5)
set_option maxHeartbeats 4000000 in
set_option maxRecDepth 100000 in
theorem t_X4_offSet_e {G : GG} {X : CX} {ans : Int32 × Mm} (he : EndI G X j_X4_offSet b_X4_offSet ans) {M : Mm} {l0 : Option Nat} (h : f_X4_offSet M l0 = some ans) : Wt G X j_X4_offSet b_X4_offSet 0 [(0, rf G.1 l0)] [] M 0 0 := by
  unfold f_X4_offSet at h
  refine wt_aload_n (pc := 0) 0 dX4_offSet_0 rfl ?_
  refine wt_cVI (pc := 1) (J' := j_X4_standingSet) (As := []) (st := []) (B' := b_X4_standingSet) (u' := 0) (w' := 0) dX4_offSet_1 ml_X4_90 mv_X4_standingSet (fun v9 M9 e9 => c_X4_standingSet e9) rfl (by decide) rfl rfl (by decide) (by decide) (by decide) rfl h (fun v1 M1 h => ?_)
  refine wt_aload_n (pc := 4) 0 dX4_offSet_4 rfl ?_
  refine wt_cVI (pc := 5) (J' := j_X4_openSet) (As := []) (st := [.int v1]) (B' := b_X4_openSet) (u' := 0) (w' := 0) dX4_offSet_5 ml_X4_94 mv_X4_openSet (fun v9 M9 e9 => c_X4_openSet e9) rfl (by decide) rfl rfl (by decide) (by decide) (by simp [rf_cat, cat_i, cat_l, cat_r]) rfl h (fun v5 M5 h => ?_)
  refine wt_iconst (pc := 8) (v := (-1)) dX4_offSet_8 (by decide) ?_
  refine wt_ixor (pc := 9) dX4_offSet_9 ?_
  refine wt_iand (pc := 10) dX4_offSet_10 ?_
  cases h
  exact he 11 _ _ _ dX4_offSet_11 (by decide) (by decide)
set_option maxHeartbeats 4000000 in
set_option maxRecDepth 100000 in
theorem c_X4_offSet {G : GG} {M : Mm} {l0 : Option Nat} {r : Int32 × Mm} (h : f_X4_offSet M l0 = some r) (l : Launch) : Ct l G j_X4_offSet b_X4_offSet [rf G.1 l0] M (some (.int r.1)) r.2 := cf_I (by decide +kernel) (by simp [lg_sl, rf_cat, cat_i, cat_l, j_X4_offSet]) rfl (by simp [lv_args, rf_cat, cat_i, cat_l]) (fun X he => t_X4_offSet_e he h)
def f_X4_chancesToFall_57 (k4 : Mm → Option Nat → Int32 → Int32 → Int32 → Option (Int32 × Mm)) (M : Mm) (l0 : Option Nat) (l1 : Int32) (l2 : Int32) (l3 : Int32) : Option (Int32 × Mm) := k4 M l0 l1 l2 (l3 + 1)
def f_X4_chancesToFall_4 : Nat → Mm → Option Nat → Int32 → Int32 → Int32 → Option (Int32 × Mm)
  | 0, _, _, _, _, _ => none
  | n + 1, M, l0, l1, l2, l3 => gfI M l0 4 5 fun v6 => if v6 ≤ l3 then (some (l2, M)) else (gfR M l0 4 0 fun v13 => alR M v13 31 l1 fun v17 => ck M v17 1 <| bd (f_X1_isOpen M v17) fun v18 M18 => if v18 = 0 then (f_X4_chancesToFall_57 (f_X4_chancesToFall_4 n) M18 l0 l1 l2 l3) else (gfR M18 l0 4 2 fun v25 => alR M18 v25 38 l3 fun v29 => gfI M18 v29 8 1 fun v30 => gfR M18 l0 4 0 fun v34 => alR M18 v34 31 l1 fun v38 => ck M18 v38 1 <| bd (f_X1_leastStrength M18 v38) fun v39 M39 => if v30 < v39 then (f_X4_chancesToFall_57 (f_X4_chancesToFall_4 n) M39 l0 l1 l2 l3) else (gfR M39 l0 4 2 fun v47 => alR M39 v47 38 l3 fun v51 => gfI M39 v51 8 2 fun v52 => nmI (l2 + v52) fun x56 => f_X4_chancesToFall_57 (f_X4_chancesToFall_4 n) M39 l0 l1 x56 l3)))
def f_X4_chancesToFall (M : Mm) (l0 : Option Nat) (l1 : Int32) : Option (Int32 × Mm) := f_X4_chancesToFall_4  fu M l0 l1 0 0
set_option maxHeartbeats 4000000 in
set_option maxRecDepth 100000 in
theorem t_X4_chancesToFall_57 {G : GG} {X : CX} {ans : Int32 × Mm} (he : EndI G X j_X4_chancesToFall b_X4_chancesToFall ans) {k4 : Mm → Option Nat → Int32 → Int32 → Int32 → Option (Int32 × Mm)} (hk4 : ∀ (M : Mm) (a0 : Option Nat) (a1 : Int32) (a2 : Int32) (a3 : Int32), k4 M a0 a1 a2 a3 = some ans → Wt G X j_X4_chancesToFall b_X4_chancesToFall 4 [(0, rf G.1 a0), (1, .int a1), (2, .int a2), (3, .int a3)] [] M 0 0) {M : Mm} {l0 : Option Nat} {l1 : Int32} {l2 : Int32} {l3 : Int32} (h : f_X4_chancesToFall_57 k4 M l0 l1 l2 l3 = some ans) : Wt G X j_X4_chancesToFall b_X4_chancesToFall 57 [(0, rf G.1 l0), (1, .int l1), (2, .int l2), (3, .int l3)] [] M 0 0 := by
  unfold f_X4_chancesToFall_57 at h
  refine wt_iinc (pc := 57) (d := 1) (ls' := [(3, .int (l3 + 1)), (0, rf G.1 l0), (1, .int l1), (2, .int l2)]) 3 dX4_chancesToFall_57 rfl (by decide) (by decide) rfl ?_
  refine wt_goto (pc := 60) (tgt := 4) dX4_chancesToFall_60 (by decide) ?_
  refine wt_sub (ls' := [(0, rf G.1 l0), (1, .int l1), (2, .int l2), (3, .int (l3 + 1))]) [1, 2, 3, 0] rfl ?_
  exact hk4 _ _ _ _ _ h
set_option maxHeartbeats 4000000 in
set_option maxRecDepth 100000 in
theorem t_X4_chancesToFall_4 {G : GG} {X : CX} {ans : Int32 × Mm} (he : EndI G X j_X4_chancesToFall b_X4_chancesToFall ans) : ∀ (n : Nat) {M : Mm} {l0 : Option Nat} {l1 : Int32} {l2 : Int32} {l3 : Int32}, f_X4_chancesToFall_4 n M l0 l1 l2 l3 = some ans → Wt G X j_X4_chancesToFall b_X4_chancesToFall 4 [(0, rf G.1 l0), (1, .int l1), (2, .int l2), (3, .int l3)] [] M 0 0 := by
  intro n
  induction n with
  | zero =>
    intro M l0 l1 l2 l3 h
    rw [f_X4_chancesToFall_4] at h
    cases h
  | succ n ih =>
    intro M l0 l1 l2 l3 h
    rw [f_X4_chancesToFall_4] at h
    refine wt_iload_n (pc := 4) 3 dX4_chancesToFall_4 rfl ?_
    refine wt_aload_n (pc := 5) 0 dX4_chancesToFall_5 rfl ?_
    refine wt_getI (pc := 6) dX4_chancesToFall_6 fl_X4_47 (fun _ _ _ => rfl) h (fun v6 h => ?_)
    refine wt_icmp_ge (pc := 9) (tgt := 63) dX4_chancesToFall_9 (by decide) (fun q => ?_) (fun q => ?_)
    · have h := ite_t q h
      refine wt_iload_n (pc := 63) 2 dX4_chancesToFall_63 rfl ?_
      cases h
      exact he 64 _ _ _ dX4_chancesToFall_64 (by decide) (by decide)
    · have h := ite_f q h
      refine wt_aload_n (pc := 12) 0 dX4_chancesToFall_12 rfl ?_
      refine wt_getR (pc := 13) dX4_chancesToFall_13 fl_X4_11 (fun _ _ _ => rfl) h (fun v13 h => ?_)
      refine wt_iload_n (pc := 16) 1 dX4_chancesToFall_16 rfl ?_
      refine wt_aaload (pc := 17) (kd := 31) dX4_chancesToFall_17 rfl rfl (by decide) h (fun v17 h => ?_)
      refine wt_cVI (pc := 18) (J' := j_X1_isOpen) (As := []) (st := []) (B' := b_X1_isOpen) (u' := 0) (w' := 0) dX4_chancesToFall_18 ml_X4_86 mv_X1_isOpen (fun v9 M9 e9 => c_X1_isOpen e9) rfl (by decide) rfl rfl (by decide) (by decide) (by decide) rfl h (fun v18 M18 h => ?_)
      refine wt_if_eq (pc := 21) (tgt := 57) dX4_chancesToFall_21 (by decide) (fun q => ?_) (fun q => ?_)
      · have h := ite_t q h
        exact t_X4_chancesToFall_57 he (fun _ _ _ _ _ h => ih h) h
      · have h := ite_f q h
        refine wt_aload_n (pc := 24) 0 dX4_chancesToFall_24 rfl ?_
        refine wt_getR (pc := 25) dX4_chancesToFall_25 fl_X4_25 (fun _ _ _ => rfl) h (fun v25 h => ?_)
        refine wt_iload_n (pc := 28) 3 dX4_chancesToFall_28 rfl ?_
        refine wt_aaload (pc := 29) (kd := 38) dX4_chancesToFall_29 rfl rfl (by decide) h (fun v29 h => ?_)
        refine wt_getI (pc := 30) dX4_chancesToFall_30 fl_X4_106 (fun _ _ _ => rfl) h (fun v30 h => ?_)
        refine wt_aload_n (pc := 33) 0 dX4_chancesToFall_33 rfl ?_
        refine wt_getR (pc := 34) dX4_chancesToFall_34 fl_X4_11 (fun _ _ _ => rfl) h (fun v34 h => ?_)
        refine wt_iload_n (pc := 37) 1 dX4_chancesToFall_37 rfl ?_
        refine wt_aaload (pc := 38) (kd := 31) dX4_chancesToFall_38 rfl rfl (by decide) h (fun v38 h => ?_)
        refine wt_cVI (pc := 39) (J' := j_X1_leastStrength) (As := []) (st := [.int v30]) (B' := b_X1_leastStrength) (u' := 0) (w' := 0) dX4_chancesToFall_39 ml_X4_97 mv_X1_leastStrength (fun v9 M9 e9 => c_X1_leastStrength e9) rfl (by decide) rfl rfl (by decide) (by decide) (by simp [rf_cat, cat_i, cat_l, cat_r]) rfl h (fun v39 M39 h => ?_)
        refine wt_icmp_lt (pc := 42) (tgt := 57) dX4_chancesToFall_42 (by decide) (fun q => ?_) (fun q => ?_)
        · have h := ite_t q h
          exact t_X4_chancesToFall_57 he (fun _ _ _ _ _ h => ih h) h
        · have h := ite_f q h
          refine wt_iload_n (pc := 45) 2 dX4_chancesToFall_45 rfl ?_
          refine wt_aload_n (pc := 46) 0 dX4_chancesToFall_46 rfl ?_
          refine wt_getR (pc := 47) dX4_chancesToFall_47 fl_X4_25 (fun _ _ _ => rfl) h (fun v47 h => ?_)
          refine wt_iload_n (pc := 50) 3 dX4_chancesToFall_50 rfl ?_
          refine wt_aaload (pc := 51) (kd := 38) dX4_chancesToFall_51 rfl rfl (by decide) h (fun v51 h => ?_)
          refine wt_getI (pc := 52) dX4_chancesToFall_52 fl_X4_103 (fun _ _ _ => rfl) h (fun v52 h => ?_)
          refine wt_iadd (pc := 55) dX4_chancesToFall_55 ?_
          refine wt_nmI h (fun x56 h => ?_)
          refine wt_istore_n (pc := 56) (i := 2) (ls' := [(2, .int x56), (0, rf G.1 l0), (1, .int l1), (3, .int l3)]) rfl dX4_chancesToFall_56 (by decide) rfl ?_
          refine wt_sub (ls' := [(0, rf G.1 l0), (1, .int l1), (2, .int x56), (3, .int l3)]) [1, 2, 0, 3] rfl ?_
          exact t_X4_chancesToFall_57 he (fun _ _ _ _ _ h => ih h) h
set_option maxHeartbeats 4000000 in
set_option maxRecDepth 100000 in
theorem t_X4_chancesToFall_e {G : GG} {X : CX} {ans : Int32 × Mm} (he : EndI G X j_X4_chancesToFall b_X4_chancesToFall ans) {M : Mm} {l0 : Option Nat} {l1 : Int32} (h : f_X4_chancesToFall M l0 l1 = some ans) : Wt G X j_X4_chancesToFall b_X4_chancesToFall 0 [(0, rf G.1 l0), (1, .int l1)] [] M 0 0 := by
  unfold f_X4_chancesToFall at h
  refine wt_iconst (pc := 0) (v := 0) dX4_chancesToFall_0 (by decide) ?_
  refine wt_istore_n (pc := 1) (i := 2) (ls' := [(2, .int 0), (0, rf G.1 l0), (1, .int l1)]) rfl dX4_chancesToFall_1 (by decide) rfl ?_
  refine wt_iconst (pc := 2) (v := 0) dX4_chancesToFall_2 (by decide) ?_
  refine wt_istore_n (pc := 3) (i := 3) (ls' := [(3, .int 0), (2, .int 0), (0, rf G.1 l0), (1, .int l1)]) rfl dX4_chancesToFall_3 (by decide) rfl ?_
  refine wt_sub (ls' := [(0, rf G.1 l0), (1, .int l1), (2, .int 0), (3, .int 0)]) [2, 3, 1, 0] rfl ?_
  exact t_X4_chancesToFall_4 he  fu h
set_option maxHeartbeats 4000000 in
set_option maxRecDepth 100000 in
theorem c_X4_chancesToFall {G : GG} {M : Mm} {l0 : Option Nat} {l1 : Int32} {r : Int32 × Mm} (h : f_X4_chancesToFall M l0 l1 = some r) (l : Launch) : Ct l G j_X4_chancesToFall b_X4_chancesToFall [rf G.1 l0, .int l1] M (some (.int r.1)) r.2 := cf_I (by decide +kernel) (by simp [lg_sl, rf_cat, cat_i, cat_l, j_X4_chancesToFall]) rfl (by simp [lv_args, rf_cat, cat_i, cat_l]) (fun X he => t_X4_chancesToFall_e he h)
def f_X4_lossByChances_4 : Nat → Mm → Option Nat → Int32 → Int32 → Option (Int32 × Mm)
  | 0, _, _, _, _ => none
  | n + 1, M, l0, l1, l2 => gfI M l0 4 3 fun v6 => if v6 ≤ l2 then (some (l1, M)) else (gfR M l0 4 0 fun v14 => alR M v14 31 l2 fun v18 => gfI M v18 1 2 fun v19 => ck M l0 4 <| bd (f_X4_chancesToFall M l0 l2) fun v24 M24 => nmI (l1 + (v19 * v24)) fun x29 => f_X4_lossByChances_4 n M24 l0 x29 (l2 + 1))
def f_X4_lossByChances (M : Mm) (l0 : Option Nat) : Option (Int32 × Mm) := f_X4_lossByChances_4  fu M l0 0 0
set_option maxHeartbeats 4000000 in
set_option maxRecDepth 100000 in
theorem t_X4_lossByChances_4 {G : GG} {X : CX} {ans : Int32 × Mm} (he : EndI G X j_X4_lossByChances b_X4_lossByChances ans) : ∀ (n : Nat) {M : Mm} {l0 : Option Nat} {l1 : Int32} {l2 : Int32}, f_X4_lossByChances_4 n M l0 l1 l2 = some ans → Wt G X j_X4_lossByChances b_X4_lossByChances 4 [(0, rf G.1 l0), (1, .int l1), (2, .int l2)] [] M 0 0 := by
  intro n
  induction n with
  | zero =>
    intro M l0 l1 l2 h
    rw [f_X4_lossByChances_4] at h
    cases h
  | succ n ih =>
    intro M l0 l1 l2 h
    rw [f_X4_lossByChances_4] at h
    refine wt_iload_n (pc := 4) 2 dX4_lossByChances_4 rfl ?_
    refine wt_aload_n (pc := 5) 0 dX4_lossByChances_5 rfl ?_
    refine wt_getI (pc := 6) dX4_lossByChances_6 fl_X4_41 (fun _ _ _ => rfl) h (fun v6 h => ?_)
    refine wt_icmp_ge (pc := 9) (tgt := 36) dX4_lossByChances_9 (by decide) (fun q => ?_) (fun q => ?_)
    · have h := ite_t q h
      refine wt_iload_n (pc := 36) 1 dX4_lossByChances_36 rfl ?_
      cases h
      exact he 37 _ _ _ dX4_lossByChances_37 (by decide) (by decide)
    · have h := ite_f q h
      refine wt_iload_n (pc := 12) 1 dX4_lossByChances_12 rfl ?_
      refine wt_aload_n (pc := 13) 0 dX4_lossByChances_13 rfl ?_
      refine wt_getR (pc := 14) dX4_lossByChances_14 fl_X4_11 (fun _ _ _ => rfl) h (fun v14 h => ?_)
      refine wt_iload_n (pc := 17) 2 dX4_lossByChances_17 rfl ?_
      refine wt_aaload (pc := 18) (kd := 31) dX4_lossByChances_18 rfl rfl (by decide) h (fun v18 h => ?_)
      refine wt_getI (pc := 19) dX4_lossByChances_19 fl_X4_100 (fun _ _ _ => rfl) h (fun v19 h => ?_)
      refine wt_aload_n (pc := 22) 0 dX4_lossByChances_22 rfl ?_
      refine wt_iload_n (pc := 23) 2 dX4_lossByChances_23 rfl ?_
      refine wt_cVI (pc := 24) (J' := j_X4_chancesToFall) (As := [.int l2]) (st := [.int v19, .int l1]) (B' := b_X4_chancesToFall) (u' := 0) (w' := 0) dX4_lossByChances_24 ml_X4_109 mv_X4_chancesToFall (fun v9 M9 e9 => c_X4_chancesToFall e9) rfl (by decide) rfl rfl (by decide) (by decide) (by simp [rf_cat, cat_i, cat_l, cat_r]) rfl h (fun v24 M24 h => ?_)
      refine wt_imul (pc := 27) dX4_lossByChances_27 ?_
      refine wt_iadd (pc := 28) dX4_lossByChances_28 ?_
      refine wt_nmI h (fun x29 h => ?_)
      refine wt_istore_n (pc := 29) (i := 1) (ls' := [(1, .int x29), (0, rf G.1 l0), (2, .int l2)]) rfl dX4_lossByChances_29 (by decide) (by simp [rf_cat, cat_i, cat_l, cat_r]) ?_
      refine wt_iinc (pc := 30) (d := 1) (ls' := [(2, .int (l2 + 1)), (1, .int x29), (0, rf G.1 l0)]) 2 dX4_lossByChances_30 rfl (by decide) (by decide) rfl ?_
      refine wt_goto (pc := 33) (tgt := 4) dX4_lossByChances_33 (by decide) ?_
      refine wt_sub (ls' := [(0, rf G.1 l0), (1, .int x29), (2, .int (l2 + 1))]) [2, 1, 0] rfl ?_
      exact ih h
set_option maxHeartbeats 4000000 in
set_option maxRecDepth 100000 in
theorem t_X4_lossByChances_e {G : GG} {X : CX} {ans : Int32 × Mm} (he : EndI G X j_X4_lossByChances b_X4_lossByChances ans) {M : Mm} {l0 : Option Nat} (h : f_X4_lossByChances M l0 = some ans) : Wt G X j_X4_lossByChances b_X4_lossByChances 0 [(0, rf G.1 l0)] [] M 0 0 := by
  unfold f_X4_lossByChances at h
  refine wt_iconst (pc := 0) (v := 0) dX4_lossByChances_0 (by decide) ?_
  refine wt_istore_n (pc := 1) (i := 1) (ls' := [(1, .int 0), (0, rf G.1 l0)]) rfl dX4_lossByChances_1 (by decide) (by simp [rf_cat, cat_i, cat_l, cat_r]) ?_
  refine wt_iconst (pc := 2) (v := 0) dX4_lossByChances_2 (by decide) ?_
  refine wt_istore_n (pc := 3) (i := 2) (ls' := [(2, .int 0), (1, .int 0), (0, rf G.1 l0)]) rfl dX4_lossByChances_3 (by decide) rfl ?_
  refine wt_sub (ls' := [(0, rf G.1 l0), (1, .int 0), (2, .int 0)]) [2, 1, 0] rfl ?_
  exact t_X4_lossByChances_4 he  fu h
set_option maxHeartbeats 4000000 in
set_option maxRecDepth 100000 in
theorem c_X4_lossByChances {G : GG} {M : Mm} {l0 : Option Nat} {r : Int32 × Mm} (h : f_X4_lossByChances M l0 = some r) (l : Launch) : Ct l G j_X4_lossByChances b_X4_lossByChances [rf G.1 l0] M (some (.int r.1)) r.2 := cf_I (by decide +kernel) (by simp [lg_sl, rf_cat, cat_i, cat_l, j_X4_lossByChances]) rfl (by simp [lv_args, rf_cat, cat_i, cat_l]) (fun X he => t_X4_lossByChances_e he h)
def f_X4_timesHelped_4 : Nat → Mm → Option Nat → Int32 → Int32 → Int32 → Option (Int32 × Mm)
  | 0, _, _, _, _, _ => none
  | n + 1, M, l0, l1, l2, l3 => gfI M l0 4 3 fun v6 => if v6 ≤ l3 then (some (l2, M)) else (gfR M l0 4 6 fun v14 => alR M v14 50 l1 fun v18 => alI M v18 21 l3 fun v20 => nmI (l2 + v20) fun x22 => f_X4_timesHelped_4 n M l0 l1 x22 (l3 + 1))
def f_X4_timesHelped (M : Mm) (l0 : Option Nat) (l1 : Int32) : Option (Int32 × Mm) := f_X4_timesHelped_4  fu M l0 l1 0 0
set_option maxHeartbeats 4000000 in
set_option maxRecDepth 100000 in
theorem t_X4_timesHelped_4 {G : GG} {X : CX} {ans : Int32 × Mm} (he : EndI G X j_X4_timesHelped b_X4_timesHelped ans) : ∀ (n : Nat) {M : Mm} {l0 : Option Nat} {l1 : Int32} {l2 : Int32} {l3 : Int32}, f_X4_timesHelped_4 n M l0 l1 l2 l3 = some ans → Wt G X j_X4_timesHelped b_X4_timesHelped 4 [(0, rf G.1 l0), (1, .int l1), (2, .int l2), (3, .int l3)] [] M 0 0 := by
  intro n
  induction n with
  | zero =>
    intro M l0 l1 l2 l3 h
    rw [f_X4_timesHelped_4] at h
    cases h
  | succ n ih =>
    intro M l0 l1 l2 l3 h
    rw [f_X4_timesHelped_4] at h
    refine wt_iload_n (pc := 4) 3 dX4_timesHelped_4 rfl ?_
    refine wt_aload_n (pc := 5) 0 dX4_timesHelped_5 rfl ?_
    refine wt_getI (pc := 6) dX4_timesHelped_6 fl_X4_41 (fun _ _ _ => rfl) h (fun v6 h => ?_)
    refine wt_icmp_ge (pc := 9) (tgt := 29) dX4_timesHelped_9 (by decide) (fun q => ?_) (fun q => ?_)
    · have h := ite_t q h
      refine wt_iload_n (pc := 29) 2 dX4_timesHelped_29 rfl ?_
      cases h
      exact he 30 _ _ _ dX4_timesHelped_30 (by decide) (by decide)
    · have h := ite_f q h
      refine wt_iload_n (pc := 12) 2 dX4_timesHelped_12 rfl ?_
      refine wt_aload_n (pc := 13) 0 dX4_timesHelped_13 rfl ?_
      refine wt_getR (pc := 14) dX4_timesHelped_14 fl_X4_31 (fun _ _ _ => rfl) h (fun v14 h => ?_)
      refine wt_iload_n (pc := 17) 1 dX4_timesHelped_17 rfl ?_
      refine wt_aaload (pc := 18) (kd := 50) dX4_timesHelped_18 rfl rfl (by decide) h (fun v18 h => ?_)
      refine wt_iload_n (pc := 19) 3 dX4_timesHelped_19 rfl ?_
      refine wt_iaload (pc := 20) (kd := 21) dX4_timesHelped_20 rfl rfl h (fun v20 h => ?_)
      refine wt_iadd (pc := 21) dX4_timesHelped_21 ?_
      refine wt_nmI h (fun x22 h => ?_)
      refine wt_istore_n (pc := 22) (i := 2) (ls' := [(2, .int x22), (0, rf G.1 l0), (1, .int l1), (3, .int l3)]) rfl dX4_timesHelped_22 (by decide) rfl ?_
      refine wt_iinc (pc := 23) (d := 1) (ls' := [(3, .int (l3 + 1)), (2, .int x22), (0, rf G.1 l0), (1, .int l1)]) 3 dX4_timesHelped_23 rfl (by decide) (by decide) rfl ?_
      refine wt_goto (pc := 26) (tgt := 4) dX4_timesHelped_26 (by decide) ?_
      refine wt_sub (ls' := [(0, rf G.1 l0), (1, .int l1), (2, .int x22), (3, .int (l3 + 1))]) [2, 3, 1, 0] rfl ?_
      exact ih h
set_option maxHeartbeats 4000000 in
set_option maxRecDepth 100000 in
theorem t_X4_timesHelped_e {G : GG} {X : CX} {ans : Int32 × Mm} (he : EndI G X j_X4_timesHelped b_X4_timesHelped ans) {M : Mm} {l0 : Option Nat} {l1 : Int32} (h : f_X4_timesHelped M l0 l1 = some ans) : Wt G X j_X4_timesHelped b_X4_timesHelped 0 [(0, rf G.1 l0), (1, .int l1)] [] M 0 0 := by
  unfold f_X4_timesHelped at h
  refine wt_iconst (pc := 0) (v := 0) dX4_timesHelped_0 (by decide) ?_
  refine wt_istore_n (pc := 1) (i := 2) (ls' := [(2, .int 0), (0, rf G.1 l0), (1, .int l1)]) rfl dX4_timesHelped_1 (by decide) rfl ?_
  refine wt_iconst (pc := 2) (v := 0) dX4_timesHelped_2 (by decide) ?_
  refine wt_istore_n (pc := 3) (i := 3) (ls' := [(3, .int 0), (2, .int 0), (0, rf G.1 l0), (1, .int l1)]) rfl dX4_timesHelped_3 (by decide) rfl ?_
  refine wt_sub (ls' := [(0, rf G.1 l0), (1, .int l1), (2, .int 0), (3, .int 0)]) [2, 3, 1, 0] rfl ?_
  exact t_X4_timesHelped_4 he  fu h
set_option maxHeartbeats 4000000 in
set_option maxRecDepth 100000 in
theorem c_X4_timesHelped {G : GG} {M : Mm} {l0 : Option Nat} {l1 : Int32} {r : Int32 × Mm} (h : f_X4_timesHelped M l0 l1 = some r) (l : Launch) : Ct l G j_X4_timesHelped b_X4_timesHelped [rf G.1 l0, .int l1] M (some (.int r.1)) r.2 := cf_I (by decide +kernel) (by simp [lg_sl, rf_cat, cat_i, cat_l, j_X4_timesHelped]) rfl (by simp [lv_args, rf_cat, cat_i, cat_l]) (fun X he => t_X4_timesHelped_e he h)
def f_X4_timesHelping_4 : Nat → Mm → Option Nat → Int32 → Int32 → Int32 → Option (Int32 × Mm)
  | 0, _, _, _, _, _ => none
  | n + 1, M, l0, l1, l2, l3 => gfI M l0 4 3 fun v6 => if v6 ≤ l3 then (some (l2, M)) else (gfR M l0 4 6 fun v14 => alR M v14 50 l3 fun v18 => alI M v18 21 l1 fun v20 => nmI (l2 + v20) fun x22 => f_X4_timesHelping_4 n M l0 l1 x22 (l3 + 1))
def f_X4_timesHelping (M : Mm) (l0 : Option Nat) (l1 : Int32) : Option (Int32 × Mm) := f_X4_timesHelping_4  fu M l0 l1 0 0
set_option maxHeartbeats 4000000 in
set_option maxRecDepth 100000 in
theorem t_X4_timesHelping_4 {G : GG} {X : CX} {ans : Int32 × Mm} (he : EndI G X j_X4_timesHelping b_X4_timesHelping ans) : ∀ (n : Nat) {M : Mm} {l0 : Option Nat} {l1 : Int32} {l2 : Int32} {l3 : Int32}, f_X4_timesHelping_4 n M l0 l1 l2 l3 = some ans → Wt G X j_X4_timesHelping b_X4_timesHelping 4 [(0, rf G.1 l0), (1, .int l1), (2, .int l2), (3, .int l3)] [] M 0 0 := by
  intro n
  induction n with
  | zero =>
    intro M l0 l1 l2 l3 h
    rw [f_X4_timesHelping_4] at h
    cases h
  | succ n ih =>
    intro M l0 l1 l2 l3 h
    rw [f_X4_timesHelping_4] at h
    refine wt_iload_n (pc := 4) 3 dX4_timesHelping_4 rfl ?_
    refine wt_aload_n (pc := 5) 0 dX4_timesHelping_5 rfl ?_
    refine wt_getI (pc := 6) dX4_timesHelping_6 fl_X4_41 (fun _ _ _ => rfl) h (fun v6 h => ?_)
    refine wt_icmp_ge (pc := 9) (tgt := 29) dX4_timesHelping_9 (by decide) (fun q => ?_) (fun q => ?_)
    · have h := ite_t q h
      refine wt_iload_n (pc := 29) 2 dX4_timesHelping_29 rfl ?_
      cases h
      exact he 30 _ _ _ dX4_timesHelping_30 (by decide) (by decide)
    · have h := ite_f q h
      refine wt_iload_n (pc := 12) 2 dX4_timesHelping_12 rfl ?_
      refine wt_aload_n (pc := 13) 0 dX4_timesHelping_13 rfl ?_
      refine wt_getR (pc := 14) dX4_timesHelping_14 fl_X4_31 (fun _ _ _ => rfl) h (fun v14 h => ?_)
      refine wt_iload_n (pc := 17) 3 dX4_timesHelping_17 rfl ?_
      refine wt_aaload (pc := 18) (kd := 50) dX4_timesHelping_18 rfl rfl (by decide) h (fun v18 h => ?_)
      refine wt_iload_n (pc := 19) 1 dX4_timesHelping_19 rfl ?_
      refine wt_iaload (pc := 20) (kd := 21) dX4_timesHelping_20 rfl rfl h (fun v20 h => ?_)
      refine wt_iadd (pc := 21) dX4_timesHelping_21 ?_
      refine wt_nmI h (fun x22 h => ?_)
      refine wt_istore_n (pc := 22) (i := 2) (ls' := [(2, .int x22), (0, rf G.1 l0), (1, .int l1), (3, .int l3)]) rfl dX4_timesHelping_22 (by decide) rfl ?_
      refine wt_iinc (pc := 23) (d := 1) (ls' := [(3, .int (l3 + 1)), (2, .int x22), (0, rf G.1 l0), (1, .int l1)]) 3 dX4_timesHelping_23 rfl (by decide) (by decide) rfl ?_
      refine wt_goto (pc := 26) (tgt := 4) dX4_timesHelping_26 (by decide) ?_
      refine wt_sub (ls' := [(0, rf G.1 l0), (1, .int l1), (2, .int x22), (3, .int (l3 + 1))]) [2, 3, 1, 0] rfl ?_
      exact ih h
set_option maxHeartbeats 4000000 in
set_option maxRecDepth 100000 in
theorem t_X4_timesHelping_e {G : GG} {X : CX} {ans : Int32 × Mm} (he : EndI G X j_X4_timesHelping b_X4_timesHelping ans) {M : Mm} {l0 : Option Nat} {l1 : Int32} (h : f_X4_timesHelping M l0 l1 = some ans) : Wt G X j_X4_timesHelping b_X4_timesHelping 0 [(0, rf G.1 l0), (1, .int l1)] [] M 0 0 := by
  unfold f_X4_timesHelping at h
  refine wt_iconst (pc := 0) (v := 0) dX4_timesHelping_0 (by decide) ?_
  refine wt_istore_n (pc := 1) (i := 2) (ls' := [(2, .int 0), (0, rf G.1 l0), (1, .int l1)]) rfl dX4_timesHelping_1 (by decide) rfl ?_
  refine wt_iconst (pc := 2) (v := 0) dX4_timesHelping_2 (by decide) ?_
  refine wt_istore_n (pc := 3) (i := 3) (ls' := [(3, .int 0), (2, .int 0), (0, rf G.1 l0), (1, .int l1)]) rfl dX4_timesHelping_3 (by decide) rfl ?_
  refine wt_sub (ls' := [(0, rf G.1 l0), (1, .int l1), (2, .int 0), (3, .int 0)]) [2, 3, 1, 0] rfl ?_
  exact t_X4_timesHelping_4 he  fu h
set_option maxHeartbeats 4000000 in
set_option maxRecDepth 100000 in
theorem c_X4_timesHelping {G : GG} {M : Mm} {l0 : Option Nat} {l1 : Int32} {r : Int32 × Mm} (h : f_X4_timesHelping M l0 l1 = some r) (l : Launch) : Ct l G j_X4_timesHelping b_X4_timesHelping [rf G.1 l0, .int l1] M (some (.int r.1)) r.2 := cf_I (by decide +kernel) (by simp [lg_sl, rf_cat, cat_i, cat_l, j_X4_timesHelping]) rfl (by simp [lv_args, rf_cat, cat_i, cat_l]) (fun X he => t_X4_timesHelping_e he h)
def f_X4_chainFrom_72 (k6 : Mm → Option Nat → Int32 → Int32 → Option (Int32 × Mm)) (k20 : Mm → Option Nat → Int32 → Int32 → Int32 → Int32 → Option (Int32 × Mm)) (k32 : Mm → Option Nat → Int32 → Int32 → Int32 → Int32 → Int32 → Option (Int32 × Mm)) (M : Mm) (l0 : Option Nat) (l2 : Int32) (l3 : Int32) (l4 : Int32) (l5 : Int32) (l6 : Int32) : Option (Int32 × Mm) := k32 M l0 l2 l3 l4 l5 (l6 + 1)
def f_X4_chainFrom_32 (k6 : Mm → Option Nat → Int32 → Int32 → Option (Int32 × Mm)) (k20 : Mm → Option Nat → Int32 → Int32 → Int32 → Int32 → Option (Int32 × Mm)) : Nat → Mm → Option Nat → Int32 → Int32 → Int32 → Int32 → Int32 → Option (Int32 × Mm)
  | 0, _, _, _, _, _, _, _ => none
  | n + 1, M, l0, l2, l3, l4, l5, l6 => gfI M l0 4 3 fun v35 => if v35 ≤ l6 then (k20 M l0 l2 l3 l4 (l5 + 1)) else (if ((l4 >>> (l5 &&& 31)) &&& 1) = 1 then (gfR M l0 4 6 fun v53 => alR M v53 50 l6 fun v58 => alI M v58 21 l5 fun v61 => if v61 ≤ 0 then (f_X4_chainFrom_72 k6 k20 (f_X4_chainFrom_32 k6 k20 n) M l0 l2 l3 l4 l5 l6) else (nmI (l2 ||| (1 <<< (l6 &&& 31))) fun x71 => f_X4_chainFrom_72 k6 k20 (f_X4_chainFrom_32 k6 k20 n) M l0 x71 l3 l4 l5 l6)) else (f_X4_chainFrom_72 k6 k20 (f_X4_chainFrom_32 k6 k20 n) M l0 l2 l3 l4 l5 l6))
def f_X4_chainFrom_20 (k6 : Mm → Option Nat → Int32 → Int32 → Option (Int32 × Mm)) : Nat → Mm → Option Nat → Int32 → Int32 → Int32 → Int32 → Option (Int32 × Mm)
  | 0, _, _, _, _, _, _ => none
  | n + 1, M, l0, l2, l3, l4, l5 => gfI M l0 4 3 fun v23 => if v23 ≤ l5 then (k6 M l0 l2 (l3 + 1)) else (f_X4_chainFrom_32 k6 (f_X4_chainFrom_20 k6 n) fu M l0 l2 l3 l4 l5 0)
def f_X4_chainFrom_6 : Nat → Mm → Option Nat → Int32 → Int32 → Option (Int32 × Mm)
  | 0, _, _, _, _ => none
  | n + 1, M, l0, l2, l3 => gfI M l0 4 3 fun v8 => if v8 ≤ l3 then (some (l2, M)) else (f_X4_chainFrom_20 (f_X4_chainFrom_6 n) fu M l0 l2 l3 l2 0)
def f_X4_chainFrom (M : Mm) (l0 : Option Nat) (l1 : Int32) : Option (Int32 × Mm) := nmI (1 <<< (l1 &&& 31)) fun x3 => f_X4_chainFrom_6  fu M l0 x3 0
set_option maxHeartbeats 4000000 in
set_option maxRecDepth 100000 in
theorem t_X4_chainFrom_72 {G : GG} {X : CX} {ans : Int32 × Mm} (he : EndI G X j_X4_chainFrom b_X4_chainFrom ans) {k6 : Mm → Option Nat → Int32 → Int32 → Option (Int32 × Mm)} {k20 : Mm → Option Nat → Int32 → Int32 → Int32 → Int32 → Option (Int32 × Mm)} {k32 : Mm → Option Nat → Int32 → Int32 → Int32 → Int32 → Int32 → Option (Int32 × Mm)} (hk6 : ∀ (M : Mm) (a0 : Option Nat) (a2 : Int32) (a3 : Int32), k6 M a0 a2 a3 = some ans → Wt G X j_X4_chainFrom b_X4_chainFrom 6 [(0, rf G.1 a0), (2, .int a2), (3, .int a3)] [] M 0 0) (hk20 : ∀ (M : Mm) (a0 : Option Nat) (a2 : Int32) (a3 : Int32) (a4 : Int32) (a5 : Int32), k20 M a0 a2 a3 a4 a5 = some ans → Wt G X j_X4_chainFrom b_X4_chainFrom 20 [(0, rf G.1 a0), (2, .int a2), (3, .int a3), (4, .int a4), (5, .int a5)] [] M 0 0) (hk32 : ∀ (M : Mm) (a0 : Option Nat) (a2 : Int32) (a3 : Int32) (a4 : Int32) (a5 : Int32) (a6 : Int32), k32 M a0 a2 a3 a4 a5 a6 = some ans → Wt G X j_X4_chainFrom b_X4_chainFrom 32 [(0, rf G.1 a0), (2, .int a2), (3, .int a3), (4, .int a4), (5, .int a5), (6, .int a6)] [] M 0 0) {M : Mm} {l0 : Option Nat} {l2 : Int32} {l3 : Int32} {l4 : Int32} {l5 : Int32} {l6 : Int32} (h : f_X4_chainFrom_72 k6 k20 k32 M l0 l2 l3 l4 l5 l6 = some ans) : Wt G X j_X4_chainFrom b_X4_chainFrom 72 [(0, rf G.1 l0), (2, .int l2), (3, .int l3), (4, .int l4), (5, .int l5), (6, .int l6)] [] M 0 0 := by
  unfold f_X4_chainFrom_72 at h
  refine wt_iinc (pc := 72) (d := 1) (ls' := [(6, .int (l6 + 1)), (0, rf G.1 l0), (2, .int l2), (3, .int l3), (4, .int l4), (5, .int l5)]) 5 dX4_chainFrom_72 rfl (by decide) (by decide) rfl ?_
  refine wt_goto (pc := 75) (tgt := 32) dX4_chainFrom_75 (by decide) ?_
  refine wt_sub (ls' := [(0, rf G.1 l0), (2, .int l2), (3, .int l3), (4, .int l4), (5, .int l5), (6, .int (l6 + 1))]) [1, 2, 3, 4, 5, 0] rfl ?_
  exact hk32 _ _ _ _ _ _ _ h
set_option maxHeartbeats 4000000 in
set_option maxRecDepth 100000 in
theorem t_X4_chainFrom_32 {G : GG} {X : CX} {ans : Int32 × Mm} (he : EndI G X j_X4_chainFrom b_X4_chainFrom ans) {k6 : Mm → Option Nat → Int32 → Int32 → Option (Int32 × Mm)} {k20 : Mm → Option Nat → Int32 → Int32 → Int32 → Int32 → Option (Int32 × Mm)} (hk6 : ∀ (M : Mm) (a0 : Option Nat) (a2 : Int32) (a3 : Int32), k6 M a0 a2 a3 = some ans → Wt G X j_X4_chainFrom b_X4_chainFrom 6 [(0, rf G.1 a0), (2, .int a2), (3, .int a3)] [] M 0 0) (hk20 : ∀ (M : Mm) (a0 : Option Nat) (a2 : Int32) (a3 : Int32) (a4 : Int32) (a5 : Int32), k20 M a0 a2 a3 a4 a5 = some ans → Wt G X j_X4_chainFrom b_X4_chainFrom 20 [(0, rf G.1 a0), (2, .int a2), (3, .int a3), (4, .int a4), (5, .int a5)] [] M 0 0) : ∀ (n : Nat) {M : Mm} {l0 : Option Nat} {l2 : Int32} {l3 : Int32} {l4 : Int32} {l5 : Int32} {l6 : Int32}, f_X4_chainFrom_32 k6 k20 n M l0 l2 l3 l4 l5 l6 = some ans → Wt G X j_X4_chainFrom b_X4_chainFrom 32 [(0, rf G.1 l0), (2, .int l2), (3, .int l3), (4, .int l4), (5, .int l5), (6, .int l6)] [] M 0 0 := by
  intro n
  induction n with
  | zero =>
    intro M l0 l2 l3 l4 l5 l6 h
    rw [f_X4_chainFrom_32] at h
    cases h
  | succ n ih =>
    intro M l0 l2 l3 l4 l5 l6 h
    rw [f_X4_chainFrom_32] at h
    refine wt_iload (pc := 32) 5 dX4_chainFrom_32 rfl ?_
    refine wt_aload_n (pc := 34) 0 dX4_chainFrom_34 rfl ?_
    refine wt_getI (pc := 35) dX4_chainFrom_35 fl_X4_41 (fun _ _ _ => rfl) h (fun v35 h => ?_)
    refine wt_icmp_ge (pc := 38) (tgt := 78) dX4_chainFrom_38 (by decide) (fun q => ?_) (fun q => ?_)
    · have h := ite_t q h
      refine wt_iinc (pc := 78) (d := 1) (ls' := [(5, .int (l5 + 1)), (0, rf G.1 l0), (2, .int l2), (3, .int l3), (4, .int l4), (6, .int l6)]) 4 dX4_chainFrom_78 rfl (by decide) (by decide) rfl ?_
      refine wt_goto (pc := 81) (tgt := 20) dX4_chainFrom_81 (by decide) ?_
      refine wt_sub (ls' := [(0, rf G.1 l0), (2, .int l2), (3, .int l3), (4, .int l4), (5, .int (l5 + 1))]) [1, 2, 3, 4, 0] rfl ?_
      exact hk20 _ _ _ _ _ _ h
    · have h := ite_f q h
      refine wt_iload (pc := 41) 3 dX4_chainFrom_41 rfl ?_
      refine wt_iload (pc := 43) 4 dX4_chainFrom_43 rfl ?_
      refine wt_ishr (pc := 45) dX4_chainFrom_45 ?_
      refine wt_iconst (pc := 46) (v := 1) dX4_chainFrom_46 (by decide) ?_
      refine wt_iand (pc := 47) dX4_chainFrom_47 ?_
      refine wt_iconst (pc := 48) (v := 1) dX4_chainFrom_48 (by decide) ?_
      refine wt_icmp_ne (pc := 49) (tgt := 72) dX4_chainFrom_49 (by decide) (fun q => ?_) (fun q => ?_)
      · have h := ite_f q h
        exact t_X4_chainFrom_72 he (fun _ _ _ _ h => hk6 _ _ _ _ h) (fun _ _ _ _ _ _ h => hk20 _ _ _ _ _ _ h) (fun _ _ _ _ _ _ _ h => ih h) h
      · have h := ite_t q h
        refine wt_aload_n (pc := 52) 0 dX4_chainFrom_52 rfl ?_
        refine wt_getR (pc := 53) dX4_chainFrom_53 fl_X4_31 (fun _ _ _ => rfl) h (fun v53 h => ?_)
        refine wt_iload (pc := 56) 5 dX4_chainFrom_56 rfl ?_
        refine wt_aaload (pc := 58) (kd := 50) dX4_chainFrom_58 rfl rfl (by decide) h (fun v58 h => ?_)
        refine wt_iload (pc := 59) 4 dX4_chainFrom_59 rfl ?_
        refine wt_iaload (pc := 61) (kd := 21) dX4_chainFrom_61 rfl rfl h (fun v61 h => ?_)
        refine wt_if_le (pc := 62) (tgt := 72) dX4_chainFrom_62 (by decide) (fun q => ?_) (fun q => ?_)
        · have h := ite_t q h
          exact t_X4_chainFrom_72 he (fun _ _ _ _ h => hk6 _ _ _ _ h) (fun _ _ _ _ _ _ h => hk20 _ _ _ _ _ _ h) (fun _ _ _ _ _ _ _ h => ih h) h
        · have h := ite_f q h
          refine wt_iload_n (pc := 65) 1 dX4_chainFrom_65 rfl ?_
          refine wt_iconst (pc := 66) (v := 1) dX4_chainFrom_66 (by decide) ?_
          refine wt_iload (pc := 67) 5 dX4_chainFrom_67 rfl ?_
          refine wt_ishl (pc := 69) dX4_chainFrom_69 ?_
          refine wt_ior (pc := 70) dX4_chainFrom_70 ?_
          refine wt_nmI h (fun x71 h => ?_)
          refine wt_istore_n (pc := 71) (i := 2) (ls' := [(2, .int x71), (0, rf G.1 l0), (3, .int l3), (4, .int l4), (5, .int l5), (6, .int l6)]) rfl dX4_chainFrom_71 (by decide) rfl ?_
          refine wt_sub (ls' := [(0, rf G.1 l0), (2, .int x71), (3, .int l3), (4, .int l4), (5, .int l5), (6, .int l6)]) [1, 0, 2, 3, 4, 5] rfl ?_
          exact t_X4_chainFrom_72 he (fun _ _ _ _ h => hk6 _ _ _ _ h) (fun _ _ _ _ _ _ h => hk20 _ _ _ _ _ _ h) (fun _ _ _ _ _ _ _ h => ih h) h
set_option maxHeartbeats 4000000 in
set_option maxRecDepth 100000 in
theorem t_X4_chainFrom_20 {G : GG} {X : CX} {ans : Int32 × Mm} (he : EndI G X j_X4_chainFrom b_X4_chainFrom ans) {k6 : Mm → Option Nat → Int32 → Int32 → Option (Int32 × Mm)} (hk6 : ∀ (M : Mm) (a0 : Option Nat) (a2 : Int32) (a3 : Int32), k6 M a0 a2 a3 = some ans → Wt G X j_X4_chainFrom b_X4_chainFrom 6 [(0, rf G.1 a0), (2, .int a2), (3, .int a3)] [] M 0 0) : ∀ (n : Nat) {M : Mm} {l0 : Option Nat} {l2 : Int32} {l3 : Int32} {l4 : Int32} {l5 : Int32}, f_X4_chainFrom_20 k6 n M l0 l2 l3 l4 l5 = some ans → Wt G X j_X4_chainFrom b_X4_chainFrom 20 [(0, rf G.1 l0), (2, .int l2), (3, .int l3), (4, .int l4), (5, .int l5)] [] M 0 0 := by
  intro n
  induction n with
  | zero =>
    intro M l0 l2 l3 l4 l5 h
    rw [f_X4_chainFrom_20] at h
    cases h
  | succ n ih =>
    intro M l0 l2 l3 l4 l5 h
    rw [f_X4_chainFrom_20] at h
    refine wt_iload (pc := 20) 4 dX4_chainFrom_20 rfl ?_
    refine wt_aload_n (pc := 22) 0 dX4_chainFrom_22 rfl ?_
    refine wt_getI (pc := 23) dX4_chainFrom_23 fl_X4_41 (fun _ _ _ => rfl) h (fun v23 h => ?_)
    refine wt_icmp_ge (pc := 26) (tgt := 84) dX4_chainFrom_26 (by decide) (fun q => ?_) (fun q => ?_)
    · have h := ite_t q h
      refine wt_iinc (pc := 84) (d := 1) (ls' := [(3, .int (l3 + 1)), (0, rf G.1 l0), (2, .int l2), (4, .int l4), (5, .int l5)]) 2 dX4_chainFrom_84 rfl (by decide) (by decide) rfl ?_
      refine wt_goto (pc := 87) (tgt := 6) dX4_chainFrom_87 (by decide) ?_
      refine wt_sub (ls' := [(0, rf G.1 l0), (2, .int l2), (3, .int (l3 + 1))]) [1, 2, 0] rfl ?_
      exact hk6 _ _ _ _ h
    · have h := ite_f q h
      refine wt_iconst (pc := 29) (v := 0) dX4_chainFrom_29 (by decide) ?_
      refine wt_istore (pc := 30) (i := 6) (ls' := [(6, .int 0), (0, rf G.1 l0), (2, .int l2), (3, .int l3), (4, .int l4), (5, .int l5)]) dX4_chainFrom_30 (by decide) rfl ?_
      refine wt_sub (ls' := [(0, rf G.1 l0), (2, .int l2), (3, .int l3), (4, .int l4), (5, .int l5), (6, .int 0)]) [1, 2, 3, 4, 5, 0] rfl ?_
      exact t_X4_chainFrom_32 he (fun _ _ _ _ h => hk6 _ _ _ _ h) (fun _ _ _ _ _ _ h => ih h) fu h
set_option maxHeartbeats 4000000 in
set_option maxRecDepth 100000 in
theorem t_X4_chainFrom_6 {G : GG} {X : CX} {ans : Int32 × Mm} (he : EndI G X j_X4_chainFrom b_X4_chainFrom ans) : ∀ (n : Nat) {M : Mm} {l0 : Option Nat} {l2 : Int32} {l3 : Int32}, f_X4_chainFrom_6 n M l0 l2 l3 = some ans → Wt G X j_X4_chainFrom b_X4_chainFrom 6 [(0, rf G.1 l0), (2, .int l2), (3, .int l3)] [] M 0 0 := by
  intro n
  induction n with
  | zero =>
    intro M l0 l2 l3 h
    rw [f_X4_chainFrom_6] at h
    cases h
  | succ n ih =>
    intro M l0 l2 l3 h
    rw [f_X4_chainFrom_6] at h
    refine wt_iload_n (pc := 6) 2 dX4_chainFrom_6 rfl ?_
    refine wt_aload_n (pc := 7) 0 dX4_chainFrom_7 rfl ?_
    refine wt_getI (pc := 8) dX4_chainFrom_8 fl_X4_41 (fun _ _ _ => rfl) h (fun v8 h => ?_)
    refine wt_icmp_ge (pc := 11) (tgt := 90) dX4_chainFrom_11 (by decide) (fun q => ?_) (fun q => ?_)
    · have h := ite_t q h
      refine wt_iload_n (pc := 90) 1 dX4_chainFrom_90 rfl ?_
      cases h
      exact he 91 _ _ _ dX4_chainFrom_91 (by decide) (by decide)
    · have h := ite_f q h
      refine wt_iload_n (pc := 14) 1 dX4_chainFrom_14 rfl ?_
      refine wt_istore (pc := 15) (i := 4) (ls' := [(4, .int l2), (0, rf G.1 l0), (2, .int l2), (3, .int l3)]) dX4_chainFrom_15 (by decide) rfl ?_
      refine wt_iconst (pc := 17) (v := 0) dX4_chainFrom_17 (by decide) ?_
      refine wt_istore (pc := 18) (i := 5) (ls' := [(5, .int 0), (4, .int l2), (0, rf G.1 l0), (2, .int l2), (3, .int l3)]) dX4_chainFrom_18 (by decide) rfl ?_
      refine wt_sub (ls' := [(0, rf G.1 l0), (2, .int l2), (3, .int l3), (4, .int l2), (5, .int 0)]) [2, 3, 4, 1, 0] rfl ?_
      exact t_X4_chainFrom_20 he (fun _ _ _ _ h => ih h) fu h
set_option maxHeartbeats 4000000 in
set_option maxRecDepth 100000 in
theorem t_X4_chainFrom_e {G : GG} {X : CX} {ans : Int32 × Mm} (he : EndI G X j_X4_chainFrom b_X4_chainFrom ans) {M : Mm} {l0 : Option Nat} {l1 : Int32} (h : f_X4_chainFrom M l0 l1 = some ans) : Wt G X j_X4_chainFrom b_X4_chainFrom 0 [(0, rf G.1 l0), (1, .int l1)] [] M 0 0 := by
  unfold f_X4_chainFrom at h
  refine wt_iconst (pc := 0) (v := 1) dX4_chainFrom_0 (by decide) ?_
  refine wt_iload_n (pc := 1) 1 dX4_chainFrom_1 rfl ?_
  refine wt_ishl (pc := 2) dX4_chainFrom_2 ?_
  refine wt_nmI h (fun x3 h => ?_)
  refine wt_istore_n (pc := 3) (i := 2) (ls' := [(2, .int x3), (0, rf G.1 l0), (1, .int l1)]) rfl dX4_chainFrom_3 (by decide) rfl ?_
  refine wt_iconst (pc := 4) (v := 0) dX4_chainFrom_4 (by decide) ?_
  refine wt_istore_n (pc := 5) (i := 3) (ls' := [(3, .int 0), (2, .int x3), (0, rf G.1 l0), (1, .int l1)]) rfl dX4_chainFrom_5 (by decide) rfl ?_
  refine wt_sub (ls' := [(0, rf G.1 l0), (2, .int x3), (3, .int 0)]) [2, 1, 0] rfl ?_
  exact t_X4_chainFrom_6 he  fu h
set_option maxHeartbeats 4000000 in
set_option maxRecDepth 100000 in
theorem c_X4_chainFrom {G : GG} {M : Mm} {l0 : Option Nat} {l1 : Int32} {r : Int32 × Mm} (h : f_X4_chainFrom M l0 l1 = some r) (l : Launch) : Ct l G j_X4_chainFrom b_X4_chainFrom [rf G.1 l0, .int l1] M (some (.int r.1)) r.2 := cf_I (by decide +kernel) (by simp [lg_sl, rf_cat, cat_i, cat_l, j_X4_chainFrom]) rfl (by simp [lv_args, rf_cat, cat_i, cat_l]) (fun X he => t_X4_chainFrom_e he h)

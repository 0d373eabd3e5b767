theorem fl_X3_9 : FLk RX3 9 3 0 := ⟨_, rfl, by decide, Or.inl (gw_at 631 (by decide +kernel) rfl)⟩
theorem fl_X3_15 : FLk RX3 15 3 2 := ⟨_, rfl, by decide, Or.inl (gw_at 635 (by decide +kernel) rfl)⟩
theorem fl_X3_18 : FLk RX3 18 3 3 := ⟨_, rfl, by decide, Or.inl (gw_at 636 (by decide +kernel) rfl)⟩
theorem fl_X3_21 : FLk RX3 21 4 3 := ⟨_, rfl, by decide, Or.inr ⟨_, nw_at (w := Cond.fieldLinkNest RX3 21 "RoofGale$Shore" "houseCount" "I" "RoofGale") 537 (by decide +kernel) rfl, rfl⟩⟩
theorem fl_X3_27 : FLk RX3 27 4 0 := ⟨_, rfl, by decide, Or.inr ⟨_, nw_at (w := Cond.fieldLinkNest RX3 27 "RoofGale$Shore" "houses" "[LRoofGale$House;" "RoofGale") 523 (by decide +kernel) rfl, rfl⟩⟩
theorem fl_X3_31 : FLk RX3 31 1 1 := ⟨_, rfl, by decide, Or.inr ⟨_, nw_at (w := Cond.fieldLinkNest RX3 31 "RoofGale$House" "at" "I" "RoofGale") 394 (by decide +kernel) rfl, rfl⟩⟩
theorem fl_X3_45 : FLk RX3 45 4 1 := ⟨_, rfl, by decide, Or.inr ⟨_, nw_at (w := Cond.fieldLinkNest RX3 45 "RoofGale$Shore" "gangs" "[LRoofGale$Gang;" "RoofGale") 528 (by decide +kernel) rfl, rfl⟩⟩
theorem fl_X3_49 : FLk RX3 49 0 3 := ⟨_, rfl, by decide, Or.inr ⟨_, nw_at (w := Cond.fieldLinkNest RX3 49 "RoofGale$Gang" "pace" "I" "RoofGale") 465 (by decide +kernel) rfl, rfl⟩⟩
theorem fl_X3_54 : FLk RX3 54 0 4 := ⟨_, rfl, by decide, Or.inr ⟨_, nw_at (w := Cond.fieldLinkNest RX3 54 "RoofGale$Gang" "at" "I" "RoofGale") 469 (by decide +kernel) rfl, rfl⟩⟩
theorem fl_X3_59 : FLk RX3 59 1 7 := ⟨_, rfl, by decide, Or.inr ⟨_, nw_at (w := Cond.fieldLinkNest RX3 59 "RoofGale$House" "on" "I" "RoofGale") 420 (by decide +kernel) rfl, rfl⟩⟩
theorem fl_X3_82 : FLk RX3 82 3 1 := ⟨_, rfl, by decide, Or.inl (gw_at 633 (by decide +kernel) rfl)⟩
theorem fl_X3_97 : FLk RX3 97 4 4 := ⟨_, rfl, by decide, Or.inr ⟨_, nw_at (w := Cond.fieldLinkNest RX3 97 "RoofGale$Shore" "gangCount" "I" "RoofGale") 542 (by decide +kernel) rfl, rfl⟩⟩
theorem fl_X3_104 : FLk RX3 104 1 5 := ⟨_, rfl, by decide, Or.inr ⟨_, nw_at (w := Cond.fieldLinkNest RX3 104 "RoofGale$House" "length" "I" "RoofGale") 413 (by decide +kernel) rfl, rfl⟩⟩
theorem ff_X3_9 : FFk RX3 9 3 0 := ⟨_, rfl, by decide, rfl, rfl, gw_at 631 (by decide +kernel) rfl⟩
theorem ff_X3_15 : FFk RX3 15 3 2 := ⟨_, rfl, by decide, rfl, rfl, gw_at 635 (by decide +kernel) rfl⟩
theorem ff_X3_18 : FFk RX3 18 3 3 := ⟨_, rfl, by decide, rfl, rfl, gw_at 636 (by decide +kernel) rfl⟩
theorem kc_X3_96 : Cond.constant RX3 96 1000000 ∈ GW := gw_at 1336 (by decide +kernel) rfl
theorem oi_X3_3 : Cond.methodLink RX3 3 Lib.objectInit ∈ GW := gw_at 630 (by decide +kernel) rfl
theorem bi_X3_36 : Cond.methodLink RX3 36 Lib.Math.min.name ∈ GW := gw_at 1298 (by decide +kernel) rfl
theorem bi_X3_42 : Cond.methodLink RX3 42 Lib.Math.max.name ∈ GW := gw_at 1299 (by decide +kernel) rfl
theorem bi_X3_93 : Cond.methodLink RX3 93 Lib.Math.abs.name ∈ GW := gw_at 1322 (by decide +kernel) rfl
theorem dX3_init_0 : decode cX3_init 0 = .ok (.aload_n 0, 1) := by decide +kernel
theorem dX3_init_1 : decode cX3_init 1 = .ok (.invokespecial 3, 3) := by decide +kernel
theorem dX3_init_4 : decode cX3_init 4 = .ok (.aload_n 0, 1) := by decide +kernel
theorem dX3_init_5 : decode cX3_init 5 = .ok (.bipush 8, 2) := by decide +kernel
theorem dX3_init_7 : decode cX3_init 7 = .ok (.newarray .int, 2) := by decide +kernel
theorem dX3_init_9 : decode cX3_init 9 = .ok (.putfield 9, 3) := by decide +kernel
theorem dX3_init_12 : decode cX3_init 12 = .ok (.aload_n 0, 1) := by decide +kernel
theorem dX3_init_13 : decode cX3_init 13 = .ok (.sipush 256, 3) := by decide +kernel
theorem dX3_init_16 : decode cX3_init 16 = .ok (.newarray .int, 2) := by decide +kernel
theorem dX3_init_18 : decode cX3_init 18 = .ok (.putfield 15, 3) := by decide +kernel
theorem dX3_init_21 : decode cX3_init 21 = .ok (.aload_n 0, 1) := by decide +kernel
theorem dX3_init_22 : decode cX3_init 22 = .ok (.sipush 256, 3) := by decide +kernel
theorem dX3_init_25 : decode cX3_init 25 = .ok (.newarray .int, 2) := by decide +kernel
theorem dX3_init_27 : decode cX3_init 27 = .ok (.putfield 18, 3) := by decide +kernel
theorem dX3_init_30 : decode cX3_init 30 = .ok (.return_, 1) := by decide +kernel
def j_X3_init : JD := (yX3_init, cX3_init, 1, none)
def b_X3_init : BD := (1, 3, 520)
theorem dX3_shortestWay_0 : decode cX3_shortestWay 0 = .ok (.iload_n 2, 1) := by decide +kernel
theorem dX3_shortestWay_1 : decode cX3_shortestWay 1 = .ok (.istore 4, 2) := by decide +kernel
theorem dX3_shortestWay_3 : decode cX3_shortestWay 3 = .ok (.iload_n 2, 1) := by decide +kernel
theorem dX3_shortestWay_4 : decode cX3_shortestWay 4 = .ok (.istore 5, 2) := by decide +kernel
theorem dX3_shortestWay_6 : decode cX3_shortestWay 6 = .ok (.iconst 0, 1) := by decide +kernel
theorem dX3_shortestWay_7 : decode cX3_shortestWay 7 = .ok (.istore 6, 2) := by decide +kernel
theorem dX3_shortestWay_9 : decode cX3_shortestWay 9 = .ok (.iload 6, 2) := by decide +kernel
theorem dX3_shortestWay_11 : decode cX3_shortestWay 11 = .ok (.aload_n 1, 1) := by decide +kernel
theorem dX3_shortestWay_12 : decode cX3_shortestWay 12 = .ok (.getfield 21, 3) := by decide +kernel
theorem dX3_shortestWay_15 : decode cX3_shortestWay 15 = .ok (.if_icmp .ge 53, 3) := by decide +kernel
theorem dX3_shortestWay_18 : decode cX3_shortestWay 18 = .ok (.iload_n 3, 1) := by decide +kernel
theorem dX3_shortestWay_19 : decode cX3_shortestWay 19 = .ok (.iload 6, 2) := by decide +kernel
theorem dX3_shortestWay_21 : decode cX3_shortestWay 21 = .ok (.ishr, 1) := by decide +kernel
theorem dX3_shortestWay_22 : decode cX3_shortestWay 22 = .ok (.iconst 1, 1) := by decide +kernel
theorem dX3_shortestWay_23 : decode cX3_shortestWay 23 = .ok (.iand, 1) := by decide +kernel
theorem dX3_shortestWay_24 : decode cX3_shortestWay 24 = .ok (.iconst 1, 1) := by decide +kernel
theorem dX3_shortestWay_25 : decode cX3_shortestWay 25 = .ok (.if_icmp .ne 37, 3) := by decide +kernel
theorem dX3_shortestWay_28 : decode cX3_shortestWay 28 = .ok (.iload 4, 2) := by decide +kernel
theorem dX3_shortestWay_30 : decode cX3_shortestWay 30 = .ok (.aload_n 1, 1) := by decide +kernel
theorem dX3_shortestWay_31 : decode cX3_shortestWay 31 = .ok (.getfield 27, 3) := by decide +kernel
theorem dX3_shortestWay_34 : decode cX3_shortestWay 34 = .ok (.iload 6, 2) := by decide +kernel
theorem dX3_shortestWay_36 : decode cX3_shortestWay 36 = .ok (.aaload, 1) := by decide +kernel
theorem dX3_shortestWay_37 : decode cX3_shortestWay 37 = .ok (.getfield 31, 3) := by decide +kernel
theorem dX3_shortestWay_40 : decode cX3_shortestWay 40 = .ok (.invokestatic 36, 3) := by decide +kernel
theorem dX3_shortestWay_43 : decode cX3_shortestWay 43 = .ok (.istore 4, 2) := by decide +kernel
theorem dX3_shortestWay_45 : decode cX3_shortestWay 45 = .ok (.iload 5, 2) := by decide +kernel
theorem dX3_shortestWay_47 : decode cX3_shortestWay 47 = .ok (.aload_n 1, 1) := by decide +kernel
theorem dX3_shortestWay_48 : decode cX3_shortestWay 48 = .ok (.getfield 27, 3) := by decide +kernel
theorem dX3_shortestWay_51 : decode cX3_shortestWay 51 = .ok (.iload 6, 2) := by decide +kernel
theorem dX3_shortestWay_53 : decode cX3_shortestWay 53 = .ok (.aaload, 1) := by decide +kernel
theorem dX3_shortestWay_54 : decode cX3_shortestWay 54 = .ok (.getfield 31, 3) := by decide +kernel
theorem dX3_shortestWay_57 : decode cX3_shortestWay 57 = .ok (.invokestatic 42, 3) := by decide +kernel
theorem dX3_shortestWay_60 : decode cX3_shortestWay 60 = .ok (.istore 5, 2) := by decide +kernel
theorem dX3_shortestWay_62 : decode cX3_shortestWay 62 = .ok (.iinc 6 1, 3) := by decide +kernel
theorem dX3_shortestWay_65 : decode cX3_shortestWay 65 = .ok (.goto (-56), 3) := by decide +kernel
theorem dX3_shortestWay_68 : decode cX3_shortestWay 68 = .ok (.iload 5, 2) := by decide +kernel
theorem dX3_shortestWay_70 : decode cX3_shortestWay 70 = .ok (.iload 4, 2) := by decide +kernel
theorem dX3_shortestWay_72 : decode cX3_shortestWay 72 = .ok (.isub, 1) := by decide +kernel
theorem dX3_shortestWay_73 : decode cX3_shortestWay 73 = .ok (.iload_n 2, 1) := by decide +kernel
theorem dX3_shortestWay_74 : decode cX3_shortestWay 74 = .ok (.iload 4, 2) := by decide +kernel
theorem dX3_shortestWay_76 : decode cX3_shortestWay 76 = .ok (.isub, 1) := by decide +kernel
theorem dX3_shortestWay_77 : decode cX3_shortestWay 77 = .ok (.iload 5, 2) := by decide +kernel
theorem dX3_shortestWay_79 : decode cX3_shortestWay 79 = .ok (.iload_n 2, 1) := by decide +kernel
theorem dX3_shortestWay_80 : decode cX3_shortestWay 80 = .ok (.isub, 1) := by decide +kernel
theorem dX3_shortestWay_81 : decode cX3_shortestWay 81 = .ok (.invokestatic 36, 3) := by decide +kernel
theorem dX3_shortestWay_84 : decode cX3_shortestWay 84 = .ok (.iadd, 1) := by decide +kernel
theorem dX3_shortestWay_85 : decode cX3_shortestWay 85 = .ok (.ireturn, 1) := by decide +kernel
def j_X3_shortestWay : JD := (yX3_shortestWay, cX3_shortestWay, 7, (some .int))
def b_X3_shortestWay : BD := (1, 0, 0)
theorem dX3_minutesFor_0 : decode cX3_minutesFor 0 = .ok (.aload_n 1, 1) := by decide +kernel
theorem dX3_minutesFor_1 : decode cX3_minutesFor 1 = .ok (.getfield 45, 3) := by decide +kernel
theorem dX3_minutesFor_4 : decode cX3_minutesFor 4 = .ok (.iload_n 2, 1) := by decide +kernel
theorem dX3_minutesFor_5 : decode cX3_minutesFor 5 = .ok (.aaload, 1) := by decide +kernel
theorem dX3_minutesFor_6 : decode cX3_minutesFor 6 = .ok (.astore 4, 2) := by decide +kernel
theorem dX3_minutesFor_8 : decode cX3_minutesFor 8 = .ok (.aload 4, 2) := by decide +kernel
theorem dX3_minutesFor_10 : decode cX3_minutesFor 10 = .ok (.getfield 49, 3) := by decide +kernel
theorem dX3_minutesFor_13 : decode cX3_minutesFor 13 = .ok (.aload_n 0, 1) := by decide +kernel
theorem dX3_minutesFor_14 : decode cX3_minutesFor 14 = .ok (.aload_n 1, 1) := by decide +kernel
theorem dX3_minutesFor_15 : decode cX3_minutesFor 15 = .ok (.aload 4, 2) := by decide +kernel
theorem dX3_minutesFor_17 : decode cX3_minutesFor 17 = .ok (.getfield 54, 3) := by decide +kernel
theorem dX3_minutesFor_20 : decode cX3_minutesFor 20 = .ok (.iload_n 3, 1) := by decide +kernel
theorem dX3_minutesFor_21 : decode cX3_minutesFor 21 = .ok (.invokevirtual 55, 3) := by decide +kernel
theorem dX3_minutesFor_24 : decode cX3_minutesFor 24 = .ok (.imul, 1) := by decide +kernel
theorem dX3_minutesFor_25 : decode cX3_minutesFor 25 = .ok (.istore 5, 2) := by decide +kernel
theorem dX3_minutesFor_27 : decode cX3_minutesFor 27 = .ok (.iconst 0, 1) := by decide +kernel
theorem dX3_minutesFor_28 : decode cX3_minutesFor 28 = .ok (.istore 6, 2) := by decide +kernel
theorem dX3_minutesFor_30 : decode cX3_minutesFor 30 = .ok (.iload 6, 2) := by decide +kernel
theorem dX3_minutesFor_32 : decode cX3_minutesFor 32 = .ok (.aload_n 1, 1) := by decide +kernel
theorem dX3_minutesFor_33 : decode cX3_minutesFor 33 = .ok (.getfield 21, 3) := by decide +kernel
theorem dX3_minutesFor_36 : decode cX3_minutesFor 36 = .ok (.if_icmp .ge 47, 3) := by decide +kernel
theorem dX3_minutesFor_39 : decode cX3_minutesFor 39 = .ok (.iload_n 3, 1) := by decide +kernel
theorem dX3_minutesFor_40 : decode cX3_minutesFor 40 = .ok (.iload 6, 2) := by decide +kernel
theorem dX3_minutesFor_42 : decode cX3_minutesFor 42 = .ok (.ishr, 1) := by decide +kernel
theorem dX3_minutesFor_43 : decode cX3_minutesFor 43 = .ok (.iconst 1, 1) := by decide +kernel
theorem dX3_minutesFor_44 : decode cX3_minutesFor 44 = .ok (.iand, 1) := by decide +kernel
theorem dX3_minutesFor_45 : decode cX3_minutesFor 45 = .ok (.iconst 1, 1) := by decide +kernel
theorem dX3_minutesFor_46 : decode cX3_minutesFor 46 = .ok (.if_icmp .ne 31, 3) := by decide +kernel
theorem dX3_minutesFor_49 : decode cX3_minutesFor 49 = .ok (.iload 5, 2) := by decide +kernel
theorem dX3_minutesFor_51 : decode cX3_minutesFor 51 = .ok (.aload_n 1, 1) := by decide +kernel
theorem dX3_minutesFor_52 : decode cX3_minutesFor 52 = .ok (.getfield 27, 3) := by decide +kernel
theorem dX3_minutesFor_55 : decode cX3_minutesFor 55 = .ok (.iload 6, 2) := by decide +kernel
theorem dX3_minutesFor_57 : decode cX3_minutesFor 57 = .ok (.aaload, 1) := by decide +kernel
theorem dX3_minutesFor_58 : decode cX3_minutesFor 58 = .ok (.getfield 59, 3) := by decide +kernel
theorem dX3_minutesFor_61 : decode cX3_minutesFor 61 = .ok (.aload 4, 2) := by decide +kernel
theorem dX3_minutesFor_63 : decode cX3_minutesFor 63 = .ok (.aload_n 1, 1) := by decide +kernel
theorem dX3_minutesFor_64 : decode cX3_minutesFor 64 = .ok (.getfield 27, 3) := by decide +kernel
theorem dX3_minutesFor_67 : decode cX3_minutesFor 67 = .ok (.iload 6, 2) := by decide +kernel
theorem dX3_minutesFor_69 : decode cX3_minutesFor 69 = .ok (.aaload, 1) := by decide +kernel
theorem dX3_minutesFor_70 : decode cX3_minutesFor 70 = .ok (.invokevirtual 62, 3) := by decide +kernel
theorem dX3_minutesFor_73 : decode cX3_minutesFor 73 = .ok (.imul, 1) := by decide +kernel
theorem dX3_minutesFor_74 : decode cX3_minutesFor 74 = .ok (.iadd, 1) := by decide +kernel
theorem dX3_minutesFor_75 : decode cX3_minutesFor 75 = .ok (.istore 5, 2) := by decide +kernel
theorem dX3_minutesFor_77 : decode cX3_minutesFor 77 = .ok (.iinc 6 1, 3) := by decide +kernel
theorem dX3_minutesFor_80 : decode cX3_minutesFor 80 = .ok (.goto (-50), 3) := by decide +kernel
theorem dX3_minutesFor_83 : decode cX3_minutesFor 83 = .ok (.iload 5, 2) := by decide +kernel
theorem dX3_minutesFor_85 : decode cX3_minutesFor 85 = .ok (.ireturn, 1) := by decide +kernel
def j_X3_minutesFor : JD := (yX3_minutesFor, cX3_minutesFor, 7, (some .int))
def b_X3_minutesFor : BD := (2, 0, 0)
theorem dX3_worthiestSet_0 : decode cX3_worthiestSet 0 = .ok (.aload_n 1, 1) := by decide +kernel
theorem dX3_worthiestSet_1 : decode cX3_worthiestSet 1 = .ok (.invokevirtual 66, 3) := by decide +kernel
theorem dX3_worthiestSet_4 : decode cX3_worthiestSet 4 = .ok (.istore 4, 2) := by decide +kernel
theorem dX3_worthiestSet_6 : decode cX3_worthiestSet 6 = .ok (.iconst 0, 1) := by decide +kernel
theorem dX3_worthiestSet_7 : decode cX3_worthiestSet 7 = .ok (.istore 5, 2) := by decide +kernel
theorem dX3_worthiestSet_9 : decode cX3_worthiestSet 9 = .ok (.iconst 0, 1) := by decide +kernel
theorem dX3_worthiestSet_10 : decode cX3_worthiestSet 10 = .ok (.istore 6, 2) := by decide +kernel
theorem dX3_worthiestSet_12 : decode cX3_worthiestSet 12 = .ok (.iconst 1, 1) := by decide +kernel
theorem dX3_worthiestSet_13 : decode cX3_worthiestSet 13 = .ok (.istore 7, 2) := by decide +kernel
theorem dX3_worthiestSet_15 : decode cX3_worthiestSet 15 = .ok (.iload 7, 2) := by decide +kernel
theorem dX3_worthiestSet_17 : decode cX3_worthiestSet 17 = .ok (.iload 4, 2) := by decide +kernel
theorem dX3_worthiestSet_19 : decode cX3_worthiestSet 19 = .ok (.if_icmp .gt 89, 3) := by decide +kernel
theorem dX3_worthiestSet_22 : decode cX3_worthiestSet 22 = .ok (.iload 7, 2) := by decide +kernel
theorem dX3_worthiestSet_24 : decode cX3_worthiestSet 24 = .ok (.iload 4, 2) := by decide +kernel
theorem dX3_worthiestSet_26 : decode cX3_worthiestSet 26 = .ok (.iconst (-1), 1) := by decide +kernel
theorem dX3_worthiestSet_27 : decode cX3_worthiestSet 27 = .ok (.ixor, 1) := by decide +kernel
theorem dX3_worthiestSet_28 : decode cX3_worthiestSet 28 = .ok (.iand, 1) := by decide +kernel
theorem dX3_worthiestSet_29 : decode cX3_worthiestSet 29 = .ok (.ifCond .eq 6, 3) := by decide +kernel
theorem dX3_worthiestSet_32 : decode cX3_worthiestSet 32 = .ok (.goto 70, 3) := by decide +kernel
theorem dX3_worthiestSet_35 : decode cX3_worthiestSet 35 = .ok (.aload_n 1, 1) := by decide +kernel
theorem dX3_worthiestSet_36 : decode cX3_worthiestSet 36 = .ok (.iload 7, 2) := by decide +kernel
theorem dX3_worthiestSet_38 : decode cX3_worthiestSet 38 = .ok (.invokevirtual 70, 3) := by decide +kernel
theorem dX3_worthiestSet_41 : decode cX3_worthiestSet 41 = .ok (.istore 8, 2) := by decide +kernel
theorem dX3_worthiestSet_43 : decode cX3_worthiestSet 43 = .ok (.iload 8, 2) := by decide +kernel
theorem dX3_worthiestSet_45 : decode cX3_worthiestSet 45 = .ok (.iload 6, 2) := by decide +kernel
theorem dX3_worthiestSet_47 : decode cX3_worthiestSet 47 = .ok (.if_icmp .gt 23, 3) := by decide +kernel
theorem dX3_worthiestSet_50 : decode cX3_worthiestSet 50 = .ok (.iload 8, 2) := by decide +kernel
theorem dX3_worthiestSet_52 : decode cX3_worthiestSet 52 = .ok (.iload 6, 2) := by decide +kernel
theorem dX3_worthiestSet_54 : decode cX3_worthiestSet 54 = .ok (.if_icmp .ne 20, 3) := by decide +kernel
theorem dX3_worthiestSet_57 : decode cX3_worthiestSet 57 = .ok (.iload 7, 2) := by decide +kernel
theorem dX3_worthiestSet_59 : decode cX3_worthiestSet 59 = .ok (.invokestatic 74, 3) := by decide +kernel
theorem dX3_worthiestSet_62 : decode cX3_worthiestSet 62 = .ok (.iload 5, 2) := by decide +kernel
theorem dX3_worthiestSet_64 : decode cX3_worthiestSet 64 = .ok (.invokestatic 74, 3) := by decide +kernel
theorem dX3_worthiestSet_67 : decode cX3_worthiestSet 67 = .ok (.if_icmp .ge 7, 3) := by decide +kernel
theorem dX3_worthiestSet_70 : decode cX3_worthiestSet 70 = .ok (.iconst 1, 1) := by decide +kernel
theorem dX3_worthiestSet_71 : decode cX3_worthiestSet 71 = .ok (.goto 4, 3) := by decide +kernel
theorem dX3_worthiestSet_74 : decode cX3_worthiestSet 74 = .ok (.iconst 0, 1) := by decide +kernel
theorem dX3_worthiestSet_75 : decode cX3_worthiestSet 75 = .ok (.istore 9, 2) := by decide +kernel
theorem dX3_worthiestSet_77 : decode cX3_worthiestSet 77 = .ok (.iload 9, 2) := by decide +kernel
theorem dX3_worthiestSet_79 : decode cX3_worthiestSet 79 = .ok (.ifCond .eq 23, 3) := by decide +kernel
theorem dX3_worthiestSet_82 : decode cX3_worthiestSet 82 = .ok (.aload_n 0, 1) := by decide +kernel
theorem dX3_worthiestSet_83 : decode cX3_worthiestSet 83 = .ok (.aload_n 1, 1) := by decide +kernel
theorem dX3_worthiestSet_84 : decode cX3_worthiestSet 84 = .ok (.iload_n 2, 1) := by decide +kernel
theorem dX3_worthiestSet_85 : decode cX3_worthiestSet 85 = .ok (.iload 7, 2) := by decide +kernel
theorem dX3_worthiestSet_87 : decode cX3_worthiestSet 87 = .ok (.invokevirtual 79, 3) := by decide +kernel
theorem dX3_worthiestSet_90 : decode cX3_worthiestSet 90 = .ok (.iload_n 3, 1) := by decide +kernel
theorem dX3_worthiestSet_91 : decode cX3_worthiestSet 91 = .ok (.if_icmp .gt 11, 3) := by decide +kernel
theorem dX3_worthiestSet_94 : decode cX3_worthiestSet 94 = .ok (.iload 7, 2) := by decide +kernel
theorem dX3_worthiestSet_96 : decode cX3_worthiestSet 96 = .ok (.istore 5, 2) := by decide +kernel
theorem dX3_worthiestSet_98 : decode cX3_worthiestSet 98 = .ok (.iload 8, 2) := by decide +kernel
theorem dX3_worthiestSet_100 : decode cX3_worthiestSet 100 = .ok (.istore 6, 2) := by decide +kernel
theorem dX3_worthiestSet_102 : decode cX3_worthiestSet 102 = .ok (.iinc 7 1, 3) := by decide +kernel
theorem dX3_worthiestSet_105 : decode cX3_worthiestSet 105 = .ok (.goto (-90), 3) := by decide +kernel
theorem dX3_worthiestSet_108 : decode cX3_worthiestSet 108 = .ok (.iload 5, 2) := by decide +kernel
theorem dX3_worthiestSet_110 : decode cX3_worthiestSet 110 = .ok (.ireturn, 1) := by decide +kernel
def j_X3_worthiestSet : JD := (yX3_worthiestSet, cX3_worthiestSet, 10, (some .int))
def b_X3_worthiestSet : BD := (3, 0, 0)
theorem dX3_beginsShortest_0 : decode cX3_beginsShortest 0 = .ok (.iload 5, 2) := by decide +kernel
theorem dX3_beginsShortest_2 : decode cX3_beginsShortest 2 = .ok (.iload_n 2, 1) := by decide +kernel
theorem dX3_beginsShortest_3 : decode cX3_beginsShortest 3 = .ok (.ishr, 1) := by decide +kernel
theorem dX3_beginsShortest_4 : decode cX3_beginsShortest 4 = .ok (.iconst 1, 1) := by decide +kernel
theorem dX3_beginsShortest_5 : decode cX3_beginsShortest 5 = .ok (.iand, 1) := by decide +kernel
theorem dX3_beginsShortest_6 : decode cX3_beginsShortest 6 = .ok (.ifCond .ne 5, 3) := by decide +kernel
theorem dX3_beginsShortest_9 : decode cX3_beginsShortest 9 = .ok (.iconst 0, 1) := by decide +kernel
theorem dX3_beginsShortest_10 : decode cX3_beginsShortest 10 = .ok (.ireturn, 1) := by decide +kernel
theorem dX3_beginsShortest_11 : decode cX3_beginsShortest 11 = .ok (.aload_n 1, 1) := by decide +kernel
theorem dX3_beginsShortest_12 : decode cX3_beginsShortest 12 = .ok (.getfield 27, 3) := by decide +kernel
theorem dX3_beginsShortest_15 : decode cX3_beginsShortest 15 = .ok (.iload_n 2, 1) := by decide +kernel
theorem dX3_beginsShortest_16 : decode cX3_beginsShortest 16 = .ok (.aaload, 1) := by decide +kernel
theorem dX3_beginsShortest_17 : decode cX3_beginsShortest 17 = .ok (.getfield 31, 3) := by decide +kernel
theorem dX3_beginsShortest_20 : decode cX3_beginsShortest 20 = .ok (.istore 7, 2) := by decide +kernel
theorem dX3_beginsShortest_22 : decode cX3_beginsShortest 22 = .ok (.iload 4, 2) := by decide +kernel
theorem dX3_beginsShortest_24 : decode cX3_beginsShortest 24 = .ok (.iload 7, 2) := by decide +kernel
theorem dX3_beginsShortest_26 : decode cX3_beginsShortest 26 = .ok (.isub, 1) := by decide +kernel
theorem dX3_beginsShortest_27 : decode cX3_beginsShortest 27 = .ok (.invokestatic 93, 3) := by decide +kernel
theorem dX3_beginsShortest_30 : decode cX3_beginsShortest 30 = .ok (.aload_n 0, 1) := by decide +kernel
theorem dX3_beginsShortest_31 : decode cX3_beginsShortest 31 = .ok (.aload_n 1, 1) := by decide +kernel
theorem dX3_beginsShortest_32 : decode cX3_beginsShortest 32 = .ok (.iload 7, 2) := by decide +kernel
theorem dX3_beginsShortest_34 : decode cX3_beginsShortest 34 = .ok (.iload 5, 2) := by decide +kernel
theorem dX3_beginsShortest_36 : decode cX3_beginsShortest 36 = .ok (.iconst 1, 1) := by decide +kernel
theorem dX3_beginsShortest_37 : decode cX3_beginsShortest 37 = .ok (.iload_n 2, 1) := by decide +kernel
theorem dX3_beginsShortest_38 : decode cX3_beginsShortest 38 = .ok (.ishl, 1) := by decide +kernel
theorem dX3_beginsShortest_39 : decode cX3_beginsShortest 39 = .ok (.iconst (-1), 1) := by decide +kernel
theorem dX3_beginsShortest_40 : decode cX3_beginsShortest 40 = .ok (.ixor, 1) := by decide +kernel
theorem dX3_beginsShortest_41 : decode cX3_beginsShortest 41 = .ok (.iand, 1) := by decide +kernel
theorem dX3_beginsShortest_42 : decode cX3_beginsShortest 42 = .ok (.invokevirtual 55, 3) := by decide +kernel
theorem dX3_beginsShortest_45 : decode cX3_beginsShortest 45 = .ok (.iadd, 1) := by decide +kernel
theorem dX3_beginsShortest_46 : decode cX3_beginsShortest 46 = .ok (.istore 8, 2) := by decide +kernel
theorem dX3_beginsShortest_48 : decode cX3_beginsShortest 48 = .ok (.iload_n 3, 1) := by decide +kernel
theorem dX3_beginsShortest_49 : decode cX3_beginsShortest 49 = .ok (.iload 8, 2) := by decide +kernel
theorem dX3_beginsShortest_51 : decode cX3_beginsShortest 51 = .ok (.imul, 1) := by decide +kernel
theorem dX3_beginsShortest_52 : decode cX3_beginsShortest 52 = .ok (.iload_n 3, 1) := by decide +kernel
theorem dX3_beginsShortest_53 : decode cX3_beginsShortest 53 = .ok (.iload 6, 2) := by decide +kernel
theorem dX3_beginsShortest_55 : decode cX3_beginsShortest 55 = .ok (.imul, 1) := by decide +kernel
theorem dX3_beginsShortest_56 : decode cX3_beginsShortest 56 = .ok (.if_icmp .ne 7, 3) := by decide +kernel
theorem dX3_beginsShortest_59 : decode cX3_beginsShortest 59 = .ok (.iconst 1, 1) := by decide +kernel
theorem dX3_beginsShortest_60 : decode cX3_beginsShortest 60 = .ok (.goto 4, 3) := by decide +kernel
theorem dX3_beginsShortest_63 : decode cX3_beginsShortest 63 = .ok (.iconst 0, 1) := by decide +kernel
theorem dX3_beginsShortest_64 : decode cX3_beginsShortest 64 = .ok (.ireturn, 1) := by decide +kernel
def j_X3_beginsShortest : JD := (yX3_beginsShortest, cX3_beginsShortest, 9, (some .boolean))
def b_X3_beginsShortest : BD := (2, 0, 0)
theorem dX3_firstOnShortestWay_0 : decode cX3_firstOnShortestWay 0 = .ok (.aload_n 0, 1) := by decide +kernel
theorem dX3_firstOnShortestWay_1 : decode cX3_firstOnShortestWay 1 = .ok (.aload_n 1, 1) := by decide +kernel
theorem dX3_firstOnShortestWay_2 : decode cX3_firstOnShortestWay 2 = .ok (.iload_n 3, 1) := by decide +kernel
theorem dX3_firstOnShortestWay_3 : decode cX3_firstOnShortestWay 3 = .ok (.iload 4, 2) := by decide +kernel
theorem dX3_firstOnShortestWay_5 : decode cX3_firstOnShortestWay 5 = .ok (.invokevirtual 55, 3) := by decide +kernel
theorem dX3_firstOnShortestWay_8 : decode cX3_firstOnShortestWay 8 = .ok (.istore 5, 2) := by decide +kernel
theorem dX3_firstOnShortestWay_10 : decode cX3_firstOnShortestWay 10 = .ok (.iconst 0, 1) := by decide +kernel
theorem dX3_firstOnShortestWay_11 : decode cX3_firstOnShortestWay 11 = .ok (.istore 6, 2) := by decide +kernel
theorem dX3_firstOnShortestWay_13 : decode cX3_firstOnShortestWay 13 = .ok (.iload 6, 2) := by decide +kernel
theorem dX3_firstOnShortestWay_15 : decode cX3_firstOnShortestWay 15 = .ok (.aload_n 1, 1) := by decide +kernel
theorem dX3_firstOnShortestWay_16 : decode cX3_firstOnShortestWay 16 = .ok (.getfield 21, 3) := by decide +kernel
theorem dX3_firstOnShortestWay_19 : decode cX3_firstOnShortestWay 19 = .ok (.iconst 1, 1) := by decide +kernel
theorem dX3_firstOnShortestWay_20 : decode cX3_firstOnShortestWay 20 = .ok (.isub, 1) := by decide +kernel
theorem dX3_firstOnShortestWay_21 : decode cX3_firstOnShortestWay 21 = .ok (.if_icmp .ge 25, 3) := by decide +kernel
theorem dX3_firstOnShortestWay_24 : decode cX3_firstOnShortestWay 24 = .ok (.aload_n 0, 1) := by decide +kernel
theorem dX3_firstOnShortestWay_25 : decode cX3_firstOnShortestWay 25 = .ok (.aload_n 1, 1) := by decide +kernel
theorem dX3_firstOnShortestWay_26 : decode cX3_firstOnShortestWay 26 = .ok (.iload 6, 2) := by decide +kernel
theorem dX3_firstOnShortestWay_28 : decode cX3_firstOnShortestWay 28 = .ok (.iload_n 2, 1) := by decide +kernel
theorem dX3_firstOnShortestWay_29 : decode cX3_firstOnShortestWay 29 = .ok (.iload_n 3, 1) := by decide +kernel
theorem dX3_firstOnShortestWay_30 : decode cX3_firstOnShortestWay 30 = .ok (.iload 4, 2) := by decide +kernel
theorem dX3_firstOnShortestWay_32 : decode cX3_firstOnShortestWay 32 = .ok (.iload 5, 2) := by decide +kernel
theorem dX3_firstOnShortestWay_34 : decode cX3_firstOnShortestWay 34 = .ok (.invokevirtual 89, 3) := by decide +kernel
theorem dX3_firstOnShortestWay_37 : decode cX3_firstOnShortestWay 37 = .ok (.ifCond .ne 9, 3) := by decide +kernel
theorem dX3_firstOnShortestWay_40 : decode cX3_firstOnShortestWay 40 = .ok (.iinc 6 1, 3) := by decide +kernel
theorem dX3_firstOnShortestWay_43 : decode cX3_firstOnShortestWay 43 = .ok (.goto (-30), 3) := by decide +kernel
theorem dX3_firstOnShortestWay_46 : decode cX3_firstOnShortestWay 46 = .ok (.iload 6, 2) := by decide +kernel
theorem dX3_firstOnShortestWay_48 : decode cX3_firstOnShortestWay 48 = .ok (.ireturn, 1) := by decide +kernel
def j_X3_firstOnShortestWay : JD := (yX3_firstOnShortestWay, cX3_firstOnShortestWay, 7, (some .int))
def b_X3_firstOnShortestWay : BD := (3, 0, 0)
theorem dX3_findOrder_0 : decode cX3_findOrder 0 = .ok (.aload_n 1, 1) := by decide +kernel
theorem dX3_findOrder_1 : decode cX3_findOrder 1 = .ok (.getfield 45, 3) := by decide +kernel
theorem dX3_findOrder_4 : decode cX3_findOrder 4 = .ok (.iload_n 2, 1) := by decide +kernel
theorem dX3_findOrder_5 : decode cX3_findOrder 5 = .ok (.aaload, 1) := by decide +kernel
theorem dX3_findOrder_6 : decode cX3_findOrder 6 = .ok (.getfield 49, 3) := by decide +kernel
theorem dX3_findOrder_9 : decode cX3_findOrder 9 = .ok (.istore 4, 2) := by decide +kernel
theorem dX3_findOrder_11 : decode cX3_findOrder 11 = .ok (.aload_n 1, 1) := by decide +kernel
theorem dX3_findOrder_12 : decode cX3_findOrder 12 = .ok (.getfield 45, 3) := by decide +kernel
theorem dX3_findOrder_15 : decode cX3_findOrder 15 = .ok (.iload_n 2, 1) := by decide +kernel
theorem dX3_findOrder_16 : decode cX3_findOrder 16 = .ok (.aaload, 1) := by decide +kernel
theorem dX3_findOrder_17 : decode cX3_findOrder 17 = .ok (.getfield 54, 3) := by decide +kernel
theorem dX3_findOrder_20 : decode cX3_findOrder 20 = .ok (.istore 5, 2) := by decide +kernel
theorem dX3_findOrder_22 : decode cX3_findOrder 22 = .ok (.iload_n 3, 1) := by decide +kernel
theorem dX3_findOrder_23 : decode cX3_findOrder 23 = .ok (.istore 6, 2) := by decide +kernel
theorem dX3_findOrder_25 : decode cX3_findOrder 25 = .ok (.aload_n 0, 1) := by decide +kernel
theorem dX3_findOrder_26 : decode cX3_findOrder 26 = .ok (.iconst 0, 1) := by decide +kernel
theorem dX3_findOrder_27 : decode cX3_findOrder 27 = .ok (.putfield 82, 3) := by decide +kernel
theorem dX3_findOrder_30 : decode cX3_findOrder 30 = .ok (.iconst 0, 1) := by decide +kernel
theorem dX3_findOrder_31 : decode cX3_findOrder 31 = .ok (.istore 7, 2) := by decide +kernel
theorem dX3_findOrder_33 : decode cX3_findOrder 33 = .ok (.iload 7, 2) := by decide +kernel
theorem dX3_findOrder_35 : decode cX3_findOrder 35 = .ok (.bipush 8, 2) := by decide +kernel
theorem dX3_findOrder_37 : decode cX3_findOrder 37 = .ok (.if_icmp .ge 69, 3) := by decide +kernel
theorem dX3_findOrder_40 : decode cX3_findOrder 40 = .ok (.iload 6, 2) := by decide +kernel
theorem dX3_findOrder_42 : decode cX3_findOrder 42 = .ok (.ifCond .eq 64, 3) := by decide +kernel
theorem dX3_findOrder_45 : decode cX3_findOrder 45 = .ok (.aload_n 0, 1) := by decide +kernel
theorem dX3_findOrder_46 : decode cX3_findOrder 46 = .ok (.aload_n 1, 1) := by decide +kernel
theorem dX3_findOrder_47 : decode cX3_findOrder 47 = .ok (.iload 4, 2) := by decide +kernel
theorem dX3_findOrder_49 : decode cX3_findOrder 49 = .ok (.iload 5, 2) := by decide +kernel
theorem dX3_findOrder_51 : decode cX3_findOrder 51 = .ok (.iload 6, 2) := by decide +kernel
theorem dX3_findOrder_53 : decode cX3_findOrder 53 = .ok (.invokevirtual 85, 3) := by decide +kernel
theorem dX3_findOrder_56 : decode cX3_findOrder 56 = .ok (.istore 8, 2) := by decide +kernel
theorem dX3_findOrder_58 : decode cX3_findOrder 58 = .ok (.aload_n 0, 1) := by decide +kernel
theorem dX3_findOrder_59 : decode cX3_findOrder 59 = .ok (.getfield 9, 3) := by decide +kernel
theorem dX3_findOrder_62 : decode cX3_findOrder 62 = .ok (.iload 7, 2) := by decide +kernel
theorem dX3_findOrder_64 : decode cX3_findOrder 64 = .ok (.iload 8, 2) := by decide +kernel
theorem dX3_findOrder_66 : decode cX3_findOrder 66 = .ok (.iastore, 1) := by decide +kernel
theorem dX3_findOrder_67 : decode cX3_findOrder 67 = .ok (.aload_n 0, 1) := by decide +kernel
theorem dX3_findOrder_68 : decode cX3_findOrder 68 = .ok (.dup, 1) := by decide +kernel
theorem dX3_findOrder_69 : decode cX3_findOrder 69 = .ok (.getfield 82, 3) := by decide +kernel
theorem dX3_findOrder_72 : decode cX3_findOrder 72 = .ok (.iconst 1, 1) := by decide +kernel
theorem dX3_findOrder_73 : decode cX3_findOrder 73 = .ok (.iadd, 1) := by decide +kernel
theorem dX3_findOrder_74 : decode cX3_findOrder 74 = .ok (.putfield 82, 3) := by decide +kernel
theorem dX3_findOrder_77 : decode cX3_findOrder 77 = .ok (.aload_n 1, 1) := by decide +kernel
theorem dX3_findOrder_78 : decode cX3_findOrder 78 = .ok (.getfield 27, 3) := by decide +kernel
theorem dX3_findOrder_81 : decode cX3_findOrder 81 = .ok (.iload 8, 2) := by decide +kernel
theorem dX3_findOrder_83 : decode cX3_findOrder 83 = .ok (.aaload, 1) := by decide +kernel
theorem dX3_findOrder_84 : decode cX3_findOrder 84 = .ok (.getfield 31, 3) := by decide +kernel
theorem dX3_findOrder_87 : decode cX3_findOrder 87 = .ok (.istore 5, 2) := by decide +kernel
theorem dX3_findOrder_89 : decode cX3_findOrder 89 = .ok (.iload 6, 2) := by decide +kernel
theorem dX3_findOrder_91 : decode cX3_findOrder 91 = .ok (.iconst 1, 1) := by decide +kernel
theorem dX3_findOrder_92 : decode cX3_findOrder 92 = .ok (.iload 8, 2) := by decide +kernel
theorem dX3_findOrder_94 : decode cX3_findOrder 94 = .ok (.ishl, 1) := by decide +kernel
theorem dX3_findOrder_95 : decode cX3_findOrder 95 = .ok (.iconst (-1), 1) := by decide +kernel
theorem dX3_findOrder_96 : decode cX3_findOrder 96 = .ok (.ixor, 1) := by decide +kernel
theorem dX3_findOrder_97 : decode cX3_findOrder 97 = .ok (.iand, 1) := by decide +kernel
theorem dX3_findOrder_98 : decode cX3_findOrder 98 = .ok (.istore 6, 2) := by decide +kernel
theorem dX3_findOrder_100 : decode cX3_findOrder 100 = .ok (.iinc 7 1, 3) := by decide +kernel
theorem dX3_findOrder_103 : decode cX3_findOrder 103 = .ok (.goto (-70), 3) := by decide +kernel
theorem dX3_findOrder_106 : decode cX3_findOrder 106 = .ok (.return_, 1) := by decide +kernel
def j_X3_findOrder : JD := (yX3_findOrder, cX3_findOrder, 9, none)
def b_X3_findOrder : BD := (4, 0, 0)
theorem dX3_addGang_0 : decode cX3_addGang 0 = .ok (.iload_n 1, 1) := by decide +kernel
theorem dX3_addGang_1 : decode cX3_addGang 1 = .ok (.istore_n 2, 1) := by decide +kernel
theorem dX3_addGang_2 : decode cX3_addGang 2 = .ok (.iload_n 2, 1) := by decide +kernel
theorem dX3_addGang_3 : decode cX3_addGang 3 = .ok (.ifCond .le 79, 3) := by decide +kernel
theorem dX3_addGang_6 : decode cX3_addGang 6 = .ok (.iload_n 2, 1) := by decide +kernel
theorem dX3_addGang_7 : decode cX3_addGang 7 = .ok (.iload_n 1, 1) := by decide +kernel
theorem dX3_addGang_8 : decode cX3_addGang 8 = .ok (.iconst (-1), 1) := by decide +kernel
theorem dX3_addGang_9 : decode cX3_addGang 9 = .ok (.ixor, 1) := by decide +kernel
theorem dX3_addGang_10 : decode cX3_addGang 10 = .ok (.iand, 1) := by decide +kernel
theorem dX3_addGang_11 : decode cX3_addGang 11 = .ok (.ifCond .eq 6, 3) := by decide +kernel
theorem dX3_addGang_14 : decode cX3_addGang 14 = .ok (.goto 62, 3) := by decide +kernel
theorem dX3_addGang_17 : decode cX3_addGang 17 = .ok (.aload_n 0, 1) := by decide +kernel
theorem dX3_addGang_18 : decode cX3_addGang 18 = .ok (.getfield 18, 3) := by decide +kernel
theorem dX3_addGang_21 : decode cX3_addGang 21 = .ok (.iload_n 2, 1) := by decide +kernel
theorem dX3_addGang_22 : decode cX3_addGang 22 = .ok (.iaload, 1) := by decide +kernel
theorem dX3_addGang_23 : decode cX3_addGang 23 = .ok (.istore_n 3, 1) := by decide +kernel
theorem dX3_addGang_24 : decode cX3_addGang 24 = .ok (.iload_n 2, 1) := by decide +kernel
theorem dX3_addGang_25 : decode cX3_addGang 25 = .ok (.istore 4, 2) := by decide +kernel
theorem dX3_addGang_27 : decode cX3_addGang 27 = .ok (.iload 4, 2) := by decide +kernel
theorem dX3_addGang_29 : decode cX3_addGang 29 = .ok (.ifCond .le 40, 3) := by decide +kernel
theorem dX3_addGang_32 : decode cX3_addGang 32 = .ok (.iload_n 3, 1) := by decide +kernel
theorem dX3_addGang_33 : decode cX3_addGang 33 = .ok (.aload_n 0, 1) := by decide +kernel
theorem dX3_addGang_34 : decode cX3_addGang 34 = .ok (.getfield 15, 3) := by decide +kernel
theorem dX3_addGang_37 : decode cX3_addGang 37 = .ok (.iload 4, 2) := by decide +kernel
theorem dX3_addGang_39 : decode cX3_addGang 39 = .ok (.iaload, 1) := by decide +kernel
theorem dX3_addGang_40 : decode cX3_addGang 40 = .ok (.aload_n 0, 1) := by decide +kernel
theorem dX3_addGang_41 : decode cX3_addGang 41 = .ok (.getfield 18, 3) := by decide +kernel
theorem dX3_addGang_44 : decode cX3_addGang 44 = .ok (.iload_n 2, 1) := by decide +kernel
theorem dX3_addGang_45 : decode cX3_addGang 45 = .ok (.iload 4, 2) := by decide +kernel
theorem dX3_addGang_47 : decode cX3_addGang 47 = .ok (.iconst (-1), 1) := by decide +kernel
theorem dX3_addGang_48 : decode cX3_addGang 48 = .ok (.ixor, 1) := by decide +kernel
theorem dX3_addGang_49 : decode cX3_addGang 49 = .ok (.iand, 1) := by decide +kernel
theorem dX3_addGang_50 : decode cX3_addGang 50 = .ok (.iaload, 1) := by decide +kernel
theorem dX3_addGang_51 : decode cX3_addGang 51 = .ok (.invokestatic 42, 3) := by decide +kernel
theorem dX3_addGang_54 : decode cX3_addGang 54 = .ok (.invokestatic 36, 3) := by decide +kernel
theorem dX3_addGang_57 : decode cX3_addGang 57 = .ok (.istore_n 3, 1) := by decide +kernel
theorem dX3_addGang_58 : decode cX3_addGang 58 = .ok (.iload 4, 2) := by decide +kernel
theorem dX3_addGang_60 : decode cX3_addGang 60 = .ok (.iconst 1, 1) := by decide +kernel
theorem dX3_addGang_61 : decode cX3_addGang 61 = .ok (.isub, 1) := by decide +kernel
theorem dX3_addGang_62 : decode cX3_addGang 62 = .ok (.iload_n 2, 1) := by decide +kernel
theorem dX3_addGang_63 : decode cX3_addGang 63 = .ok (.iand, 1) := by decide +kernel
theorem dX3_addGang_64 : decode cX3_addGang 64 = .ok (.istore 4, 2) := by decide +kernel
theorem dX3_addGang_66 : decode cX3_addGang 66 = .ok (.goto (-39), 3) := by decide +kernel
theorem dX3_addGang_69 : decode cX3_addGang 69 = .ok (.aload_n 0, 1) := by decide +kernel
theorem dX3_addGang_70 : decode cX3_addGang 70 = .ok (.getfield 18, 3) := by decide +kernel
theorem dX3_addGang_73 : decode cX3_addGang 73 = .ok (.iload_n 2, 1) := by decide +kernel
theorem dX3_addGang_74 : decode cX3_addGang 74 = .ok (.iload_n 3, 1) := by decide +kernel
theorem dX3_addGang_75 : decode cX3_addGang 75 = .ok (.iastore, 1) := by decide +kernel
theorem dX3_addGang_76 : decode cX3_addGang 76 = .ok (.iinc 2 (-1), 3) := by decide +kernel
theorem dX3_addGang_79 : decode cX3_addGang 79 = .ok (.goto (-77), 3) := by decide +kernel
theorem dX3_addGang_82 : decode cX3_addGang 82 = .ok (.return_, 1) := by decide +kernel
def j_X3_addGang : JD := (yX3_addGang, cX3_addGang, 5, none)
def b_X3_addGang : BD := (1, 0, 0)
theorem dX3_shareOut_0 : decode cX3_shareOut 0 = .ok (.aload_n 1, 1) := by decide +kernel
theorem dX3_shareOut_1 : decode cX3_shareOut 1 = .ok (.invokevirtual 66, 3) := by decide +kernel
theorem dX3_shareOut_4 : decode cX3_shareOut 4 = .ok (.istore_n 2, 1) := by decide +kernel
theorem dX3_shareOut_5 : decode cX3_shareOut 5 = .ok (.iconst 1, 1) := by decide +kernel
theorem dX3_shareOut_6 : decode cX3_shareOut 6 = .ok (.istore_n 3, 1) := by decide +kernel
theorem dX3_shareOut_7 : decode cX3_shareOut 7 = .ok (.iload_n 3, 1) := by decide +kernel
theorem dX3_shareOut_8 : decode cX3_shareOut 8 = .ok (.iload_n 2, 1) := by decide +kernel
theorem dX3_shareOut_9 : decode cX3_shareOut 9 = .ok (.if_icmp .gt 17, 3) := by decide +kernel
theorem dX3_shareOut_12 : decode cX3_shareOut 12 = .ok (.aload_n 0, 1) := by decide +kernel
theorem dX3_shareOut_13 : decode cX3_shareOut 13 = .ok (.getfield 18, 3) := by decide +kernel
theorem dX3_shareOut_16 : decode cX3_shareOut 16 = .ok (.iload_n 3, 1) := by decide +kernel
theorem dX3_shareOut_17 : decode cX3_shareOut 17 = .ok (.ldc 96, 2) := by decide +kernel
theorem dX3_shareOut_19 : decode cX3_shareOut 19 = .ok (.iastore, 1) := by decide +kernel
theorem dX3_shareOut_20 : decode cX3_shareOut 20 = .ok (.iinc 3 1, 3) := by decide +kernel
theorem dX3_shareOut_23 : decode cX3_shareOut 23 = .ok (.goto (-16), 3) := by decide +kernel
theorem dX3_shareOut_26 : decode cX3_shareOut 26 = .ok (.aload_n 0, 1) := by decide +kernel
theorem dX3_shareOut_27 : decode cX3_shareOut 27 = .ok (.getfield 18, 3) := by decide +kernel
theorem dX3_shareOut_30 : decode cX3_shareOut 30 = .ok (.iconst 0, 1) := by decide +kernel
theorem dX3_shareOut_31 : decode cX3_shareOut 31 = .ok (.iconst 0, 1) := by decide +kernel
theorem dX3_shareOut_32 : decode cX3_shareOut 32 = .ok (.iastore, 1) := by decide +kernel
theorem dX3_shareOut_33 : decode cX3_shareOut 33 = .ok (.iconst 0, 1) := by decide +kernel
theorem dX3_shareOut_34 : decode cX3_shareOut 34 = .ok (.istore_n 3, 1) := by decide +kernel
theorem dX3_shareOut_35 : decode cX3_shareOut 35 = .ok (.iload_n 3, 1) := by decide +kernel
theorem dX3_shareOut_36 : decode cX3_shareOut 36 = .ok (.aload_n 1, 1) := by decide +kernel
theorem dX3_shareOut_37 : decode cX3_shareOut 37 = .ok (.getfield 97, 3) := by decide +kernel
theorem dX3_shareOut_40 : decode cX3_shareOut 40 = .ok (.if_icmp .ge 58, 3) := by decide +kernel
theorem dX3_shareOut_43 : decode cX3_shareOut 43 = .ok (.iconst 0, 1) := by decide +kernel
theorem dX3_shareOut_44 : decode cX3_shareOut 44 = .ok (.istore 4, 2) := by decide +kernel
theorem dX3_shareOut_46 : decode cX3_shareOut 46 = .ok (.iload 4, 2) := by decide +kernel
theorem dX3_shareOut_48 : decode cX3_shareOut 48 = .ok (.iload_n 2, 1) := by decide +kernel
theorem dX3_shareOut_49 : decode cX3_shareOut 49 = .ok (.if_icmp .gt 38, 3) := by decide +kernel
theorem dX3_shareOut_52 : decode cX3_shareOut 52 = .ok (.aload_n 0, 1) := by decide +kernel
theorem dX3_shareOut_53 : decode cX3_shareOut 53 = .ok (.getfield 15, 3) := by decide +kernel
theorem dX3_shareOut_56 : decode cX3_shareOut 56 = .ok (.iload 4, 2) := by decide +kernel
theorem dX3_shareOut_58 : decode cX3_shareOut 58 = .ok (.iload 4, 2) := by decide +kernel
theorem dX3_shareOut_60 : decode cX3_shareOut 60 = .ok (.iload_n 2, 1) := by decide +kernel
theorem dX3_shareOut_61 : decode cX3_shareOut 61 = .ok (.iconst (-1), 1) := by decide +kernel
theorem dX3_shareOut_62 : decode cX3_shareOut 62 = .ok (.ixor, 1) := by decide +kernel
theorem dX3_shareOut_63 : decode cX3_shareOut 63 = .ok (.iand, 1) := by decide +kernel
theorem dX3_shareOut_64 : decode cX3_shareOut 64 = .ok (.ifCond .ne 14, 3) := by decide +kernel
theorem dX3_shareOut_67 : decode cX3_shareOut 67 = .ok (.aload_n 0, 1) := by decide +kernel
theorem dX3_shareOut_68 : decode cX3_shareOut 68 = .ok (.aload_n 1, 1) := by decide +kernel
theorem dX3_shareOut_69 : decode cX3_shareOut 69 = .ok (.iload_n 3, 1) := by decide +kernel
theorem dX3_shareOut_70 : decode cX3_shareOut 70 = .ok (.iload 4, 2) := by decide +kernel
theorem dX3_shareOut_72 : decode cX3_shareOut 72 = .ok (.invokevirtual 79, 3) := by decide +kernel
theorem dX3_shareOut_75 : decode cX3_shareOut 75 = .ok (.goto 5, 3) := by decide +kernel
theorem dX3_shareOut_78 : decode cX3_shareOut 78 = .ok (.ldc 96, 2) := by decide +kernel
theorem dX3_shareOut_80 : decode cX3_shareOut 80 = .ok (.iastore, 1) := by decide +kernel
theorem dX3_shareOut_81 : decode cX3_shareOut 81 = .ok (.iinc 4 1, 3) := by decide +kernel
theorem dX3_shareOut_84 : decode cX3_shareOut 84 = .ok (.goto (-38), 3) := by decide +kernel
theorem dX3_shareOut_87 : decode cX3_shareOut 87 = .ok (.aload_n 0, 1) := by decide +kernel
theorem dX3_shareOut_88 : decode cX3_shareOut 88 = .ok (.iload_n 2, 1) := by decide +kernel
theorem dX3_shareOut_89 : decode cX3_shareOut 89 = .ok (.invokevirtual 100, 3) := by decide +kernel
theorem dX3_shareOut_92 : decode cX3_shareOut 92 = .ok (.iinc 3 1, 3) := by decide +kernel
theorem dX3_shareOut_95 : decode cX3_shareOut 95 = .ok (.goto (-60), 3) := by decide +kernel
theorem dX3_shareOut_98 : decode cX3_shareOut 98 = .ok (.return_, 1) := by decide +kernel
def j_X3_shareOut : JD := (yX3_shareOut, cX3_shareOut, 5, none)
def b_X3_shareOut : BD := (3, 0, 0)
theorem dX3_mostShared_0 : decode cX3_mostShared 0 = .ok (.iconst 0, 1) := by decide +kernel
theorem dX3_mostShared_1 : decode cX3_mostShared 1 = .ok (.istore_n 3, 1) := by decide +kernel
theorem dX3_mostShared_2 : decode cX3_mostShared 2 = .ok (.aload_n 1, 1) := by decide +kernel
theorem dX3_mostShared_3 : decode cX3_mostShared 3 = .ok (.invokevirtual 66, 3) := by decide +kernel
theorem dX3_mostShared_6 : decode cX3_mostShared 6 = .ok (.istore 4, 2) := by decide +kernel
theorem dX3_mostShared_8 : decode cX3_mostShared 8 = .ok (.iconst 0, 1) := by decide +kernel
theorem dX3_mostShared_9 : decode cX3_mostShared 9 = .ok (.istore 5, 2) := by decide +kernel
theorem dX3_mostShared_11 : decode cX3_mostShared 11 = .ok (.iload 5, 2) := by decide +kernel
theorem dX3_mostShared_13 : decode cX3_mostShared 13 = .ok (.iload 4, 2) := by decide +kernel
theorem dX3_mostShared_15 : decode cX3_mostShared 15 = .ok (.if_icmp .gt 41, 3) := by decide +kernel
theorem dX3_mostShared_18 : decode cX3_mostShared 18 = .ok (.iload 5, 2) := by decide +kernel
theorem dX3_mostShared_20 : decode cX3_mostShared 20 = .ok (.iload 4, 2) := by decide +kernel
theorem dX3_mostShared_22 : decode cX3_mostShared 22 = .ok (.iconst (-1), 1) := by decide +kernel
theorem dX3_mostShared_23 : decode cX3_mostShared 23 = .ok (.ixor, 1) := by decide +kernel
theorem dX3_mostShared_24 : decode cX3_mostShared 24 = .ok (.iand, 1) := by decide +kernel
theorem dX3_mostShared_25 : decode cX3_mostShared 25 = .ok (.ifCond .ne 25, 3) := by decide +kernel
theorem dX3_mostShared_28 : decode cX3_mostShared 28 = .ok (.aload_n 0, 1) := by decide +kernel
theorem dX3_mostShared_29 : decode cX3_mostShared 29 = .ok (.getfield 18, 3) := by decide +kernel
theorem dX3_mostShared_32 : decode cX3_mostShared 32 = .ok (.iload 5, 2) := by decide +kernel
theorem dX3_mostShared_34 : decode cX3_mostShared 34 = .ok (.iaload, 1) := by decide +kernel
theorem dX3_mostShared_35 : decode cX3_mostShared 35 = .ok (.iload_n 2, 1) := by decide +kernel
theorem dX3_mostShared_36 : decode cX3_mostShared 36 = .ok (.if_icmp .gt 14, 3) := by decide +kernel
theorem dX3_mostShared_39 : decode cX3_mostShared 39 = .ok (.iload_n 3, 1) := by decide +kernel
theorem dX3_mostShared_40 : decode cX3_mostShared 40 = .ok (.aload_n 1, 1) := by decide +kernel
theorem dX3_mostShared_41 : decode cX3_mostShared 41 = .ok (.iload 5, 2) := by decide +kernel
theorem dX3_mostShared_43 : decode cX3_mostShared 43 = .ok (.invokevirtual 70, 3) := by decide +kernel
theorem dX3_mostShared_46 : decode cX3_mostShared 46 = .ok (.invokestatic 42, 3) := by decide +kernel
theorem dX3_mostShared_49 : decode cX3_mostShared 49 = .ok (.istore_n 3, 1) := by decide +kernel
theorem dX3_mostShared_50 : decode cX3_mostShared 50 = .ok (.iinc 5 1, 3) := by decide +kernel
theorem dX3_mostShared_53 : decode cX3_mostShared 53 = .ok (.goto (-42), 3) := by decide +kernel
theorem dX3_mostShared_56 : decode cX3_mostShared 56 = .ok (.iload_n 3, 1) := by decide +kernel
theorem dX3_mostShared_57 : decode cX3_mostShared 57 = .ok (.ireturn, 1) := by decide +kernel
def j_X3_mostShared : JD := (yX3_mostShared, cX3_mostShared, 6, (some .int))
def b_X3_mostShared : BD := (2, 0, 0)
theorem dX3_laid_0 : decode cX3_laid 0 = .ok (.iload_n 0, 1) := by decide +kernel
theorem dX3_laid_1 : decode cX3_laid 1 = .ok (.bipush 100, 2) := by decide +kernel
theorem dX3_laid_3 : decode cX3_laid 3 = .ok (.irem, 1) := by decide +kernel
theorem dX3_laid_4 : decode cX3_laid 4 = .ok (.iload_n 1, 1) := by decide +kernel
theorem dX3_laid_5 : decode cX3_laid 5 = .ok (.iadd, 1) := by decide +kernel
theorem dX3_laid_6 : decode cX3_laid 6 = .ok (.iload_n 2, 1) := by decide +kernel
theorem dX3_laid_7 : decode cX3_laid 7 = .ok (.if_icmp .gt 7, 3) := by decide +kernel
theorem dX3_laid_10 : decode cX3_laid 10 = .ok (.iload_n 0, 1) := by decide +kernel
theorem dX3_laid_11 : decode cX3_laid 11 = .ok (.iload_n 1, 1) := by decide +kernel
theorem dX3_laid_12 : decode cX3_laid 12 = .ok (.iadd, 1) := by decide +kernel
theorem dX3_laid_13 : decode cX3_laid 13 = .ok (.ireturn, 1) := by decide +kernel
theorem dX3_laid_14 : decode cX3_laid 14 = .ok (.iload_n 0, 1) := by decide +kernel
theorem dX3_laid_15 : decode cX3_laid 15 = .ok (.bipush 100, 2) := by decide +kernel
theorem dX3_laid_17 : decode cX3_laid 17 = .ok (.idiv, 1) := by decide +kernel
theorem dX3_laid_18 : decode cX3_laid 18 = .ok (.iconst 1, 1) := by decide +kernel
theorem dX3_laid_19 : decode cX3_laid 19 = .ok (.iadd, 1) := by decide +kernel
theorem dX3_laid_20 : decode cX3_laid 20 = .ok (.bipush 100, 2) := by decide +kernel
theorem dX3_laid_22 : decode cX3_laid 22 = .ok (.imul, 1) := by decide +kernel
theorem dX3_laid_23 : decode cX3_laid 23 = .ok (.iload_n 1, 1) := by decide +kernel
theorem dX3_laid_24 : decode cX3_laid 24 = .ok (.iadd, 1) := by decide +kernel
theorem dX3_laid_25 : decode cX3_laid 25 = .ok (.ireturn, 1) := by decide +kernel
def j_X3_laid : JD := (yX3_laid, cX3_laid, 3, (some .int))
def b_X3_laid : BD := (0, 0, 0)
theorem dX3_fewestRows_0 : decode cX3_fewestRows 0 = .ok (.aload_n 0, 1) := by decide +kernel
theorem dX3_fewestRows_1 : decode cX3_fewestRows 1 = .ok (.getfield 18, 3) := by decide +kernel
theorem dX3_fewestRows_4 : decode cX3_fewestRows 4 = .ok (.iconst 0, 1) := by decide +kernel
theorem dX3_fewestRows_5 : decode cX3_fewestRows 5 = .ok (.iload_n 3, 1) := by decide +kernel
theorem dX3_fewestRows_6 : decode cX3_fewestRows 6 = .ok (.iastore, 1) := by decide +kernel
theorem dX3_fewestRows_7 : decode cX3_fewestRows 7 = .ok (.iconst 1, 1) := by decide +kernel
theorem dX3_fewestRows_8 : decode cX3_fewestRows 8 = .ok (.istore 4, 2) := by decide +kernel
theorem dX3_fewestRows_10 : decode cX3_fewestRows 10 = .ok (.iload 4, 2) := by decide +kernel
theorem dX3_fewestRows_12 : decode cX3_fewestRows 12 = .ok (.iload_n 2, 1) := by decide +kernel
theorem dX3_fewestRows_13 : decode cX3_fewestRows 13 = .ok (.if_icmp .gt 105, 3) := by decide +kernel
theorem dX3_fewestRows_16 : decode cX3_fewestRows 16 = .ok (.aload_n 0, 1) := by decide +kernel
theorem dX3_fewestRows_17 : decode cX3_fewestRows 17 = .ok (.getfield 18, 3) := by decide +kernel
theorem dX3_fewestRows_20 : decode cX3_fewestRows 20 = .ok (.iload 4, 2) := by decide +kernel
theorem dX3_fewestRows_22 : decode cX3_fewestRows 22 = .ok (.ldc 96, 2) := by decide +kernel
theorem dX3_fewestRows_24 : decode cX3_fewestRows 24 = .ok (.iastore, 1) := by decide +kernel
theorem dX3_fewestRows_25 : decode cX3_fewestRows 25 = .ok (.iconst 0, 1) := by decide +kernel
theorem dX3_fewestRows_26 : decode cX3_fewestRows 26 = .ok (.istore 5, 2) := by decide +kernel
theorem dX3_fewestRows_28 : decode cX3_fewestRows 28 = .ok (.iload 5, 2) := by decide +kernel
theorem dX3_fewestRows_30 : decode cX3_fewestRows 30 = .ok (.aload_n 1, 1) := by decide +kernel
theorem dX3_fewestRows_31 : decode cX3_fewestRows 31 = .ok (.getfield 21, 3) := by decide +kernel
theorem dX3_fewestRows_34 : decode cX3_fewestRows 34 = .ok (.if_icmp .ge 78, 3) := by decide +kernel
theorem dX3_fewestRows_37 : decode cX3_fewestRows 37 = .ok (.iload 4, 2) := by decide +kernel
theorem dX3_fewestRows_39 : decode cX3_fewestRows 39 = .ok (.iload_n 2, 1) := by decide +kernel
theorem dX3_fewestRows_40 : decode cX3_fewestRows 40 = .ok (.iconst (-1), 1) := by decide +kernel
theorem dX3_fewestRows_41 : decode cX3_fewestRows 41 = .ok (.ixor, 1) := by decide +kernel
theorem dX3_fewestRows_42 : decode cX3_fewestRows 42 = .ok (.iand, 1) := by decide +kernel
theorem dX3_fewestRows_43 : decode cX3_fewestRows 43 = .ok (.ifCond .ne 63, 3) := by decide +kernel
theorem dX3_fewestRows_46 : decode cX3_fewestRows 46 = .ok (.iload 4, 2) := by decide +kernel
theorem dX3_fewestRows_48 : decode cX3_fewestRows 48 = .ok (.iload 5, 2) := by decide +kernel
theorem dX3_fewestRows_50 : decode cX3_fewestRows 50 = .ok (.ishr, 1) := by decide +kernel
theorem dX3_fewestRows_51 : decode cX3_fewestRows 51 = .ok (.iconst 1, 1) := by decide +kernel
theorem dX3_fewestRows_52 : decode cX3_fewestRows 52 = .ok (.iand, 1) := by decide +kernel
theorem dX3_fewestRows_53 : decode cX3_fewestRows 53 = .ok (.iconst 1, 1) := by decide +kernel
theorem dX3_fewestRows_54 : decode cX3_fewestRows 54 = .ok (.if_icmp .ne 52, 3) := by decide +kernel
theorem dX3_fewestRows_57 : decode cX3_fewestRows 57 = .ok (.aload_n 0, 1) := by decide +kernel
theorem dX3_fewestRows_58 : decode cX3_fewestRows 58 = .ok (.getfield 18, 3) := by decide +kernel
theorem dX3_fewestRows_61 : decode cX3_fewestRows 61 = .ok (.iload 4, 2) := by decide +kernel
theorem dX3_fewestRows_63 : decode cX3_fewestRows 63 = .ok (.iconst 1, 1) := by decide +kernel
theorem dX3_fewestRows_64 : decode cX3_fewestRows 64 = .ok (.iload 5, 2) := by decide +kernel
theorem dX3_fewestRows_66 : decode cX3_fewestRows 66 = .ok (.ishl, 1) := by decide +kernel
theorem dX3_fewestRows_67 : decode cX3_fewestRows 67 = .ok (.iconst (-1), 1) := by decide +kernel
theorem dX3_fewestRows_68 : decode cX3_fewestRows 68 = .ok (.ixor, 1) := by decide +kernel
theorem dX3_fewestRows_69 : decode cX3_fewestRows 69 = .ok (.iand, 1) := by decide +kernel
theorem dX3_fewestRows_70 : decode cX3_fewestRows 70 = .ok (.iaload, 1) := by decide +kernel
theorem dX3_fewestRows_71 : decode cX3_fewestRows 71 = .ok (.aload_n 1, 1) := by decide +kernel
theorem dX3_fewestRows_72 : decode cX3_fewestRows 72 = .ok (.getfield 27, 3) := by decide +kernel
theorem dX3_fewestRows_75 : decode cX3_fewestRows 75 = .ok (.iload 5, 2) := by decide +kernel
theorem dX3_fewestRows_77 : decode cX3_fewestRows 77 = .ok (.aaload, 1) := by decide +kernel
theorem dX3_fewestRows_78 : decode cX3_fewestRows 78 = .ok (.getfield 104, 3) := by decide +kernel
theorem dX3_fewestRows_81 : decode cX3_fewestRows 81 = .ok (.iload_n 3, 1) := by decide +kernel
theorem dX3_fewestRows_82 : decode cX3_fewestRows 82 = .ok (.invokestatic 107, 3) := by decide +kernel
theorem dX3_fewestRows_85 : decode cX3_fewestRows 85 = .ok (.istore 6, 2) := by decide +kernel
theorem dX3_fewestRows_87 : decode cX3_fewestRows 87 = .ok (.aload_n 0, 1) := by decide +kernel
theorem dX3_fewestRows_88 : decode cX3_fewestRows 88 = .ok (.getfield 18, 3) := by decide +kernel
theorem dX3_fewestRows_91 : decode cX3_fewestRows 91 = .ok (.iload 4, 2) := by decide +kernel
theorem dX3_fewestRows_93 : decode cX3_fewestRows 93 = .ok (.aload_n 0, 1) := by decide +kernel
theorem dX3_fewestRows_94 : decode cX3_fewestRows 94 = .ok (.getfield 18, 3) := by decide +kernel
theorem dX3_fewestRows_97 : decode cX3_fewestRows 97 = .ok (.iload 4, 2) := by decide +kernel
theorem dX3_fewestRows_99 : decode cX3_fewestRows 99 = .ok (.iaload, 1) := by decide +kernel
theorem dX3_fewestRows_100 : decode cX3_fewestRows 100 = .ok (.iload 6, 2) := by decide +kernel
theorem dX3_fewestRows_102 : decode cX3_fewestRows 102 = .ok (.invokestatic 36, 3) := by decide +kernel
theorem dX3_fewestRows_105 : decode cX3_fewestRows 105 = .ok (.iastore, 1) := by decide +kernel
theorem dX3_fewestRows_106 : decode cX3_fewestRows 106 = .ok (.iinc 5 1, 3) := by decide +kernel
theorem dX3_fewestRows_109 : decode cX3_fewestRows 109 = .ok (.goto (-81), 3) := by decide +kernel
theorem dX3_fewestRows_112 : decode cX3_fewestRows 112 = .ok (.iinc 4 1, 3) := by decide +kernel
theorem dX3_fewestRows_115 : decode cX3_fewestRows 115 = .ok (.goto (-105), 3) := by decide +kernel
theorem dX3_fewestRows_118 : decode cX3_fewestRows 118 = .ok (.aload_n 0, 1) := by decide +kernel
theorem dX3_fewestRows_119 : decode cX3_fewestRows 119 = .ok (.getfield 18, 3) := by decide +kernel
theorem dX3_fewestRows_122 : decode cX3_fewestRows 122 = .ok (.iload_n 2, 1) := by decide +kernel
theorem dX3_fewestRows_123 : decode cX3_fewestRows 123 = .ok (.iaload, 1) := by decide +kernel
theorem dX3_fewestRows_124 : decode cX3_fewestRows 124 = .ok (.bipush 100, 2) := by decide +kernel
theorem dX3_fewestRows_126 : decode cX3_fewestRows 126 = .ok (.idiv, 1) := by decide +kernel
theorem dX3_fewestRows_127 : decode cX3_fewestRows 127 = .ok (.ireturn, 1) := by decide +kernel
def j_X3_fewestRows : JD := (yX3_fewestRows, cX3_fewestRows, 7, (some .int))
def b_X3_fewestRows : BD := (1, 0, 0)
theorem mi_X3_init : MI j_X3_init 0 := ⟨⟨gw_at 629 (by decide +kernel) rfl, gw_at 219 (by decide +kernel) rfl, ⟨by decide +kernel, by decide +kernel⟩, by decide +kernel, by decide, by decide +kernel⟩, rfl, rfl, gw_at 628 (by decide +kernel) rfl⟩
theorem mv_X3_shortestWay : MV j_X3_shortestWay 3 3 := ⟨⟨gw_at 1297 (by decide +kernel) rfl, gw_at 219 (by decide +kernel) rfl, ⟨by decide +kernel, by decide +kernel⟩, by decide +kernel, by decide, by decide +kernel⟩, ⟨_, rfl, rfl⟩, gw_at 1296 (by decide +kernel) rfl, gw_at 79 (by decide +kernel) rfl⟩
theorem mv_X3_minutesFor : MV j_X3_minutesFor 3 3 := ⟨⟨gw_at 1293 (by decide +kernel) rfl, gw_at 219 (by decide +kernel) rfl, ⟨by decide +kernel, by decide +kernel⟩, by decide +kernel, by decide, by decide +kernel⟩, ⟨_, rfl, rfl⟩, gw_at 1292 (by decide +kernel) rfl, gw_at 78 (by decide +kernel) rfl⟩
theorem mv_X3_worthiestSet : MV j_X3_worthiestSet 3 3 := ⟨⟨gw_at 1286 (by decide +kernel) rfl, gw_at 219 (by decide +kernel) rfl, ⟨by decide +kernel, by decide +kernel⟩, by decide +kernel, by decide, by decide +kernel⟩, ⟨_, rfl, rfl⟩, gw_at 1285 (by decide +kernel) rfl, gw_at 77 (by decide +kernel) rfl⟩
theorem mv_X3_beginsShortest : MV j_X3_beginsShortest 3 6 := ⟨⟨gw_at 1321 (by decide +kernel) rfl, gw_at 219 (by decide +kernel) rfl, ⟨by decide +kernel, by decide +kernel⟩, by decide +kernel, by decide, by decide +kernel⟩, ⟨_, rfl, rfl⟩, gw_at 1320 (by decide +kernel) rfl, gw_at 82 (by decide +kernel) rfl⟩
theorem mv_X3_firstOnShortestWay : MV j_X3_firstOnShortestWay 3 4 := ⟨⟨gw_at 1317 (by decide +kernel) rfl, gw_at 219 (by decide +kernel) rfl, ⟨by decide +kernel, by decide +kernel⟩, by decide +kernel, by decide, by decide +kernel⟩, ⟨_, rfl, rfl⟩, gw_at 1316 (by decide +kernel) rfl, gw_at 81 (by decide +kernel) rfl⟩
theorem mv_X3_findOrder : MV j_X3_findOrder 3 3 := ⟨⟨gw_at 1313 (by decide +kernel) rfl, gw_at 219 (by decide +kernel) rfl, ⟨by decide +kernel, by decide +kernel⟩, by decide +kernel, by decide, by decide +kernel⟩, ⟨_, rfl, rfl⟩, gw_at 1312 (by decide +kernel) rfl, gw_at 80 (by decide +kernel) rfl⟩
theorem mv_X3_addGang : MV j_X3_addGang 3 1 := ⟨⟨gw_at 1340 (by decide +kernel) rfl, gw_at 219 (by decide +kernel) rfl, ⟨by decide +kernel, by decide +kernel⟩, by decide +kernel, by decide, by decide +kernel⟩, ⟨_, rfl, rfl⟩, gw_at 1339 (by decide +kernel) rfl, gw_at 84 (by decide +kernel) rfl⟩
theorem mv_X3_shareOut : MV j_X3_shareOut 3 1 := ⟨⟨gw_at 1335 (by decide +kernel) rfl, gw_at 219 (by decide +kernel) rfl, ⟨by decide +kernel, by decide +kernel⟩, by decide +kernel, by decide, by decide +kernel⟩, ⟨_, rfl, rfl⟩, gw_at 1334 (by decide +kernel) rfl, gw_at 83 (by decide +kernel) rfl⟩
theorem mv_X3_mostShared : MV j_X3_mostShared 3 2 := ⟨⟨gw_at 1344 (by decide +kernel) rfl, gw_at 219 (by decide +kernel) rfl, ⟨by decide +kernel, by decide +kernel⟩, by decide +kernel, by decide, by decide +kernel⟩, ⟨_, rfl, rfl⟩, gw_at 1343 (by decide +kernel) rfl, gw_at 85 (by decide +kernel) rfl⟩
theorem ms_X3_laid : MS j_X3_laid 3 := ⟨⟨gw_at 1413 (by decide +kernel) rfl, gw_at 219 (by decide +kernel) rfl, ⟨by decide +kernel, by decide +kernel⟩, by decide +kernel, by decide, by decide +kernel⟩, gw_at 1412 (by decide +kernel) rfl⟩
theorem mv_X3_fewestRows : MV j_X3_fewestRows 3 3 := ⟨⟨gw_at 1410 (by decide +kernel) rfl, gw_at 219 (by decide +kernel) rfl, ⟨by decide +kernel, by decide +kernel⟩, by decide +kernel, by decide, by decide +kernel⟩, ⟨_, rfl, rfl⟩, gw_at 1409 (by decide +kernel) rfl, gw_at 93 (by decide +kernel) rfl⟩
theorem ml_X3_55 : MLk RX3 55 j_X3_shortestWay.1 := Or.inl (gw_at 1294 (by decide +kernel) rfl)
theorem ml_X3_62 : MLk RX3 62 j_X0_pieceMinutes.1 := Or.inr ⟨_, nw_at (w := Cond.methodLinkNest RX3 62 yX0_pieceMinutes "RoofGale") 1300 (by decide +kernel) rfl⟩
theorem ml_X3_66 : MLk RX3 66 j_X4_openSet.1 := Or.inr ⟨_, nw_at (w := Cond.methodLinkNest RX3 66 yX4_openSet "RoofGale") 1287 (by decide +kernel) rfl⟩
theorem ml_X3_70 : MLk RX3 70 j_X4_worthOf.1 := Or.inr ⟨_, nw_at (w := Cond.methodLinkNest RX3 70 yX4_worthOf "RoofGale") 1288 (by decide +kernel) rfl⟩
theorem ml_X3_74 : MLk RX3 74 j_J6_bitCount_0f7a4.1 := Or.inl (gw_at 1289 (by decide +kernel) rfl)
theorem ml_X3_79 : MLk RX3 79 j_X3_minutesFor.1 := Or.inl (gw_at 1290 (by decide +kernel) rfl)
theorem ml_X3_85 : MLk RX3 85 j_X3_firstOnShortestWay.1 := Or.inl (gw_at 1314 (by decide +kernel) rfl)
theorem ml_X3_89 : MLk RX3 89 j_X3_beginsShortest.1 := Or.inl (gw_at 1318 (by decide +kernel) rfl)
theorem ml_X3_100 : MLk RX3 100 j_X3_addGang.1 := Or.inl (gw_at 1337 (by decide +kernel) rfl)
theorem ml_X3_107 : MLk RX3 107 j_X3_laid.1 := Or.inl (gw_at 1411 (by decide +kernel) rfl)
def f_X3_init (M : Mm) (l0 : Option Nat) : Option (Mm) := nz l0 <| nwa M 21 8 fun q7 M7 => pfR M7 l0 3 0 q7 fun M9 => nwa M9 21 256 fun q16 M16 => pfR M16 l0 3 2 q16 fun M18 => nwa M18 21 256 fun q25 M25 => pfR M25 l0 3 3 q25 fun M27 => some M27
set_option maxHeartbeats 4000000 in
set_option maxRecDepth 100000 in
theorem t_X3_init_e {G : GG} {X : CX} {ans : Mm} (he : EndV G X j_X3_init b_X3_init ans) {M : Mm} {l0 : Option Nat} (h : f_X3_init M l0 = some ans) : Wt G X j_X3_init b_X3_init 0 [(0, rf G.1 l0)] [] M 0 0 := by
  unfold f_X3_init at h
  refine wt_aload_n (pc := 0) 0 dX3_init_0 rfl ?_
  refine wt_oI (pc := 1) dX3_init_1 oi_X3_3 oiM oiC (by decide) (by decide) h (fun h => ?_)
  refine wt_aload_n (pc := 4) 0 dX3_init_4 rfl ?_
  refine wt_bipush (pc := 5) (v := 8) dX3_init_5 (by decide) ?_
  refine wt_newarray (pc := 7) (kd := 21) (ty := .int) (n' := 8) dX3_init_7 rfl rfl ac_int (fun _ _ h => h) (by decide) (by decide) (by decide) (by decide) h (fun q7 M7 h => ?_)
  refine wt_putFA (pc := 9) dX3_init_9 ff_X3_9 rfl rfl h (fun M9 h => ?_)
  refine wt_aload_n (pc := 12) 0 dX3_init_12 rfl ?_
  refine wt_sipush (pc := 13) (v := 256) dX3_init_13 (by decide) ?_
  refine wt_newarray (pc := 16) (kd := 21) (ty := .int) (n' := 256) dX3_init_16 rfl rfl ac_int (fun _ _ h => h) (by decide) (by decide) (by decide) (by decide) h (fun q16 M16 h => ?_)
  refine wt_putFA (pc := 18) dX3_init_18 ff_X3_15 rfl rfl h (fun M18 h => ?_)
  refine wt_aload_n (pc := 21) 0 dX3_init_21 rfl ?_
  refine wt_sipush (pc := 22) (v := 256) dX3_init_22 (by decide) ?_
  refine wt_newarray (pc := 25) (kd := 21) (ty := .int) (n' := 256) dX3_init_25 rfl rfl ac_int (fun _ _ h => h) (by decide) (by decide) (by decide) (by decide) h (fun q25 M25 h => ?_)
  refine wt_putFA (pc := 27) dX3_init_27 ff_X3_18 rfl rfl h (fun M27 h => ?_)
  cases h
  exact he 30 _ _ _ dX3_init_30 (by decide) (by decide)
set_option maxHeartbeats 4000000 in
set_option maxRecDepth 100000 in
theorem c_X3_init {G : GG} {M : Mm} {l0 : Option Nat} {r : Mm} (h : f_X3_init M l0 = some r) (l : Launch) : Ct l G j_X3_init b_X3_init [rf G.1 l0] M none r := cf_V (by decide +kernel) (by simp [lg_sl, rf_cat, cat_i, cat_l, j_X3_init]) rfl (by simp [lv_args, rf_cat, cat_i, cat_l]) (fun X he => t_X3_init_e he h)
def f_X3_shortestWay_62 (k9 : Mm → Option Nat → Int32 → Int32 → Int32 → Int32 → Int32 → Option (Int32 × Mm)) (M : Mm) (l1 : Option Nat) (l2 : Int32) (l3 : Int32) (l4 : Int32) (l5 : Int32) (l6 : Int32) : Option (Int32 × Mm) := k9 M l1 l2 l3 l4 l5 (l6 + 1)
def f_X3_shortestWay_9 : Nat → Mm → Option Nat → Int32 → Int32 → Int32 → Int32 → Int32 → Option (Int32 × Mm)
  | 0, _, _, _, _, _, _, _ => none
  | n + 1, M, l1, l2, l3, l4, l5, l6 => gfI M l1 4 3 fun v12 => if v12 ≤ l6 then (some (((l5 - l4) + (mnI (l2 - l4) (l5 - l2))), M)) else (if ((l3 >>> (l6 &&& 31)) &&& 1) = 1 then (gfR M l1 4 0 fun v31 => alR M v31 31 l6 fun v36 => gfI M v36 1 1 fun v37 => nmI (mnI l4 v37) fun x43 => gfR M l1 4 0 fun v48 => alR M v48 31 l6 fun v53 => gfI M v53 1 1 fun v54 => nmI (mxI l5 v54) fun x60 => f_X3_shortestWay_62 (f_X3_shortestWay_9 n) M l1 l2 l3 x43 x60 l6) else (f_X3_shortestWay_62 (f_X3_shortestWay_9 n) M l1 l2 l3 l4 l5 l6))
def f_X3_shortestWay (M : Mm) (l0 : Option Nat) (l1 : Option Nat) (l2 : Int32) (l3 : Int32) : Option (Int32 × Mm) := f_X3_shortestWay_9  fu M l1 l2 l3 l2 l2 0
set_option maxHeartbeats 4000000 in
set_option maxRecDepth 100000 in
theorem t_X3_shortestWay_62 {G : GG} {X : CX} {ans : Int32 × Mm} (he : EndI G X j_X3_shortestWay b_X3_shortestWay ans) {k9 : Mm → Option Nat → Int32 → Int32 → Int32 → Int32 → Int32 → Option (Int32 × Mm)} (hk9 : ∀ (M : Mm) (a1 : Option Nat) (a2 : Int32) (a3 : Int32) (a4 : Int32) (a5 : Int32) (a6 : Int32), k9 M a1 a2 a3 a4 a5 a6 = some ans → Wt G X j_X3_shortestWay b_X3_shortestWay 9 [(1, rf G.1 a1), (2, .int a2), (3, .int a3), (4, .int a4), (5, .int a5), (6, .int a6)] [] M 0 0) {M : Mm} {l1 : Option Nat} {l2 : Int32} {l3 : Int32} {l4 : Int32} {l5 : Int32} {l6 : Int32} (h : f_X3_shortestWay_62 k9 M l1 l2 l3 l4 l5 l6 = some ans) : Wt G X j_X3_shortestWay b_X3_shortestWay 62 [(1, rf G.1 l1), (2, .int l2), (3, .int l3), (4, .int l4), (5, .int l5), (6, .int l6)] [] M 0 0 := by
  unfold f_X3_shortestWay_62 at h
  refine wt_iinc (pc := 62) (d := 1) (ls' := [(6, .int (l6 + 1)), (1, rf G.1 l1), (2, .int l2), (3, .int l3), (4, .int l4), (5, .int l5)]) 5 dX3_shortestWay_62 rfl (by decide) (by decide) rfl ?_
  refine wt_goto (pc := 65) (tgt := 9) dX3_shortestWay_65 (by decide) ?_
  refine wt_sub (ls' := [(1, rf G.1 l1), (2, .int l2), (3, .int l3), (4, .int l4), (5, .int l5), (6, .int (l6 + 1))]) [1, 2, 3, 4, 5, 0] rfl ?_
  exact hk9 _ _ _ _ _ _ _ h
set_option maxHeartbeats 4000000 in
set_option maxRecDepth 100000 in
theorem t_X3_shortestWay_9 {G : GG} {X : CX} {ans : Int32 × Mm} (he : EndI G X j_X3_shortestWay b_X3_shortestWay ans) : ∀ (n : Nat) {M : Mm} {l1 : Option Nat} {l2 : Int32} {l3 : Int32} {l4 : Int32} {l5 : Int32} {l6 : Int32}, f_X3_shortestWay_9 n M l1 l2 l3 l4 l5 l6 = some ans → Wt G X j_X3_shortestWay b_X3_shortestWay 9 [(1, rf G.1 l1), (2, .int l2), (3, .int l3), (4, .int l4), (5, .int l5), (6, .int l6)] [] M 0 0 := by
  intro n
  induction n with
  | zero =>
    intro M l1 l2 l3 l4 l5 l6 h
    rw [f_X3_shortestWay_9] at h
    cases h
  | succ n ih =>
    intro M l1 l2 l3 l4 l5 l6 h
    rw [f_X3_shortestWay_9] at h
    refine wt_iload (pc := 9) 5 dX3_shortestWay_9 rfl ?_
    refine wt_aload_n (pc := 11) 0 dX3_shortestWay_11 rfl ?_
    refine wt_getI (pc := 12) dX3_shortestWay_12 fl_X3_21 (fun _ _ _ => rfl) h (fun v12 h => ?_)
    refine wt_icmp_ge (pc := 15) (tgt := 68) dX3_shortestWay_15 (by decide) (fun q => ?_) (fun q => ?_)
    · have h := ite_t q h
      refine wt_iload (pc := 68) 4 dX3_shortestWay_68 rfl ?_
      refine wt_iload (pc := 70) 3 dX3_shortestWay_70 rfl ?_
      refine wt_isub (pc := 72) dX3_shortestWay_72 ?_
      refine wt_iload_n (pc := 73) 1 dX3_shortestWay_73 rfl ?_
      refine wt_iload (pc := 74) 3 dX3_shortestWay_74 rfl ?_
      refine wt_isub (pc := 76) dX3_shortestWay_76 ?_
      refine wt_iload (pc := 77) 4 dX3_shortestWay_77 rfl ?_
      refine wt_iload_n (pc := 79) 1 dX3_shortestWay_79 rfl ?_
      refine wt_isub (pc := 80) dX3_shortestWay_80 ?_
      refine wt_mmin (pc := 81) dX3_shortestWay_81 bi_X3_36 mw_min.1 mw_min.2.1 mw_min.2.2 (by decide) (by decide) (by decide) (by simp [rf_cat, cat_i, cat_l, cat_r]) ?_
      refine wt_iadd (pc := 84) dX3_shortestWay_84 ?_
      cases h
      exact he 85 _ _ _ dX3_shortestWay_85 (by decide) (by decide)
    · have h := ite_f q h
      refine wt_iload_n (pc := 18) 2 dX3_shortestWay_18 rfl ?_
      refine wt_iload (pc := 19) 5 dX3_shortestWay_19 rfl ?_
      refine wt_ishr (pc := 21) dX3_shortestWay_21 ?_
      refine wt_iconst (pc := 22) (v := 1) dX3_shortestWay_22 (by decide) ?_
      refine wt_iand (pc := 23) dX3_shortestWay_23 ?_
      refine wt_iconst (pc := 24) (v := 1) dX3_shortestWay_24 (by decide) ?_
      refine wt_icmp_ne (pc := 25) (tgt := 62) dX3_shortestWay_25 (by decide) (fun q => ?_) (fun q => ?_)
      · have h := ite_f q h
        exact t_X3_shortestWay_62 he (fun _ _ _ _ _ _ _ h => ih h) h
      · have h := ite_t q h
        refine wt_iload (pc := 28) 3 dX3_shortestWay_28 rfl ?_
        refine wt_aload_n (pc := 30) 0 dX3_shortestWay_30 rfl ?_
        refine wt_getR (pc := 31) dX3_shortestWay_31 fl_X3_27 (fun _ _ _ => rfl) h (fun v31 h => ?_)
        refine wt_iload (pc := 34) 5 dX3_shortestWay_34 rfl ?_
        refine wt_aaload (pc := 36) (kd := 31) dX3_shortestWay_36 rfl rfl (by decide) h (fun v36 h => ?_)
        refine wt_getI (pc := 37) dX3_shortestWay_37 fl_X3_31 (fun _ _ _ => rfl) h (fun v37 h => ?_)
        refine wt_mmin (pc := 40) dX3_shortestWay_40 bi_X3_36 mw_min.1 mw_min.2.1 mw_min.2.2 (by decide) (by decide) (by decide) (by decide) ?_
        refine wt_nmI h (fun x43 h => ?_)
        refine wt_istore (pc := 43) (i := 4) (ls' := [(4, .int x43), (1, rf G.1 l1), (2, .int l2), (3, .int l3), (5, .int l5), (6, .int l6)]) dX3_shortestWay_43 (by decide) rfl ?_
        refine wt_iload (pc := 45) 4 dX3_shortestWay_45 rfl ?_
        refine wt_aload_n (pc := 47) 1 dX3_shortestWay_47 rfl ?_
        refine wt_getR (pc := 48) dX3_shortestWay_48 fl_X3_27 (fun _ _ _ => rfl) h (fun v48 h => ?_)
        refine wt_iload (pc := 51) 5 dX3_shortestWay_51 rfl ?_
        refine wt_aaload (pc := 53) (kd := 31) dX3_shortestWay_53 rfl rfl (by decide) h (fun v53 h => ?_)
        refine wt_getI (pc := 54) dX3_shortestWay_54 fl_X3_31 (fun _ _ _ => rfl) h (fun v54 h => ?_)
        refine wt_mmax (pc := 57) dX3_shortestWay_57 bi_X3_42 mw_max.1 mw_max.2.1 mw_max.2.2 (by decide) (by decide) (by decide) (by decide) ?_
        refine wt_nmI h (fun x60 h => ?_)
        refine wt_istore (pc := 60) (i := 5) (ls' := [(5, .int x60), (4, .int x43), (1, rf G.1 l1), (2, .int l2), (3, .int l3), (6, .int l6)]) dX3_shortestWay_60 (by decide) rfl ?_
        refine wt_sub (ls' := [(1, rf G.1 l1), (2, .int l2), (3, .int l3), (4, .int x43), (5, .int x60), (6, .int l6)]) [2, 3, 4, 1, 0, 5] rfl ?_
        exact t_X3_shortestWay_62 he (fun _ _ _ _ _ _ _ h => ih h) h
set_option maxHeartbeats 4000000 in
set_option maxRecDepth 100000 in
theorem t_X3_shortestWay_e {G : GG} {X : CX} {ans : Int32 × Mm} (he : EndI G X j_X3_shortestWay b_X3_shortestWay ans) {M : Mm} {l0 : Option Nat} {l1 : Option Nat} {l2 : Int32} {l3 : Int32} (h : f_X3_shortestWay M l0 l1 l2 l3 = some ans) : Wt G X j_X3_shortestWay b_X3_shortestWay 0 [(0, rf G.1 l0), (1, rf G.1 l1), (2, .int l2), (3, .int l3)] [] M 0 0 := by
  unfold f_X3_shortestWay at h
  refine wt_iload_n (pc := 0) 2 dX3_shortestWay_0 rfl ?_
  refine wt_istore (pc := 1) (i := 4) (ls' := [(4, .int l2), (0, rf G.1 l0), (1, rf G.1 l1), (2, .int l2), (3, .int l3)]) dX3_shortestWay_1 (by decide) rfl ?_
  refine wt_iload_n (pc := 3) 3 dX3_shortestWay_3 rfl ?_
  refine wt_istore (pc := 4) (i := 5) (ls' := [(5, .int l2), (4, .int l2), (0, rf G.1 l0), (1, rf G.1 l1), (2, .int l2), (3, .int l3)]) dX3_shortestWay_4 (by decide) rfl ?_
  refine wt_iconst (pc := 6) (v := 0) dX3_shortestWay_6 (by decide) ?_
  refine wt_istore (pc := 7) (i := 6) (ls' := [(6, .int 0), (5, .int l2), (4, .int l2), (0, rf G.1 l0), (1, rf G.1 l1), (2, .int l2), (3, .int l3)]) dX3_shortestWay_7 (by decide) rfl ?_
  refine wt_sub (ls' := [(1, rf G.1 l1), (2, .int l2), (3, .int l3), (4, .int l2), (5, .int l2), (6, .int 0)]) [4, 5, 6, 2, 1, 0] rfl ?_
  exact t_X3_shortestWay_9 he  fu h
set_option maxHeartbeats 4000000 in
set_option maxRecDepth 100000 in
theorem c_X3_shortestWay {G : GG} {M : Mm} {l0 : Option Nat} {l1 : Option Nat} {l2 : Int32} {l3 : Int32} {r : Int32 × Mm} (h : f_X3_shortestWay M l0 l1 l2 l3 = some r) (l : Launch) : Ct l G j_X3_shortestWay b_X3_shortestWay [rf G.1 l0, rf G.1 l1, .int l2, .int l3] M (some (.int r.1)) r.2 := cf_I (by decide +kernel) (by simp [lg_sl, rf_cat, cat_i, cat_l, j_X3_shortestWay]) rfl (by simp [lv_args, rf_cat, cat_i, cat_l]) (fun X he => t_X3_shortestWay_e he h)
def f_X3_minutesFor_77 (k30 : Mm → Option Nat → Int32 → Option Nat → Int32 → Int32 → Option (Int32 × Mm)) (M : Mm) (l1 : Option Nat) (l3 : Int32) (l4 : Option Nat) (l5 : Int32) (l6 : Int32) : Option (Int32 × Mm) := k30 M l1 l3 l4 l5 (l6 + 1)
def f_X3_minutesFor_30 : Nat → Mm → Option Nat → Int32 → Option Nat → Int32 → Int32 → Option (Int32 × Mm)
  | 0, _, _, _, _, _, _ => none
  | n + 1, M, l1, l3, l4, l5, l6 => gfI M l1 4 3 fun v33 => if v33 ≤ l6 then (some (l5, M)) else (if ((l3 >>> (l6 &&& 31)) &&& 1) = 1 then (gfR M l1 4 0 fun v52 => alR M v52 31 l6 fun v57 => gfI M v57 1 7 fun v58 => gfR M l1 4 0 fun v64 => alR M v64 31 l6 fun v69 => ck M l4 0 <| bd (f_X0_pieceMinutes M l4 v69) fun v70 M70 => nmI (l5 + (v58 * v70)) fun x75 => f_X3_minutesFor_77 (f_X3_minutesFor_30 n) M70 l1 l3 l4 x75 l6) else (f_X3_minutesFor_77 (f_X3_minutesFor_30 n) M l1 l3 l4 l5 l6))
def f_X3_minutesFor (M : Mm) (l0 : Option Nat) (l1 : Option Nat) (l2 : Int32) (l3 : Int32) : Option (Int32 × Mm) := gfR M l1 4 1 fun v1 => alR M v1 30 l2 fun v5 => gfI M v5 0 3 fun v10 => gfI M v5 0 4 fun v17 => ck M l0 3 <| bd (f_X3_shortestWay M l0 l1 v17 l3) fun v21 M21 => nmI (v10 * v21) fun x25 => f_X3_minutesFor_30  fu M21 l1 l3 v5 x25 0
set_option maxHeartbeats 4000000 in
set_option maxRecDepth 100000 in
theorem t_X3_minutesFor_77 {G : GG} {X : CX} {ans : Int32 × Mm} (he : EndI G X j_X3_minutesFor b_X3_minutesFor ans) {k30 : Mm → Option Nat → Int32 → Option Nat → Int32 → Int32 → Option (Int32 × Mm)} (hk30 : ∀ (M : Mm) (a1 : Option Nat) (a3 : Int32) (a4 : Option Nat) (a5 : Int32) (a6 : Int32), k30 M a1 a3 a4 a5 a6 = some ans → Wt G X j_X3_minutesFor b_X3_minutesFor 30 [(1, rf G.1 a1), (3, .int a3), (4, rf G.1 a4), (5, .int a5), (6, .int a6)] [] M 0 0) {M : Mm} {l1 : Option Nat} {l3 : Int32} {l4 : Option Nat} {l5 : Int32} {l6 : Int32} (h : f_X3_minutesFor_77 k30 M l1 l3 l4 l5 l6 = some ans) : Wt G X j_X3_minutesFor b_X3_minutesFor 77 [(1, rf G.1 l1), (3, .int l3), (4, rf G.1 l4), (5, .int l5), (6, .int l6)] [] M 0 0 := by
  unfold f_X3_minutesFor_77 at h
  refine wt_iinc (pc := 77) (d := 1) (ls' := [(6, .int (l6 + 1)), (1, rf G.1 l1), (3, .int l3), (4, rf G.1 l4), (5, .int l5)]) 4 dX3_minutesFor_77 rfl (by decide) (by decide) rfl ?_
  refine wt_goto (pc := 80) (tgt := 30) dX3_minutesFor_80 (by decide) ?_
  refine wt_sub (ls' := [(1, rf G.1 l1), (3, .int l3), (4, rf G.1 l4), (5, .int l5), (6, .int (l6 + 1))]) [1, 2, 3, 4, 0] rfl ?_
  exact hk30 _ _ _ _ _ _ h
set_option maxHeartbeats 4000000 in
set_option maxRecDepth 100000 in
theorem t_X3_minutesFor_30 {G : GG} {X : CX} {ans : Int32 × Mm} (he : EndI G X j_X3_minutesFor b_X3_minutesFor ans) : ∀ (n : Nat) {M : Mm} {l1 : Option Nat} {l3 : Int32} {l4 : Option Nat} {l5 : Int32} {l6 : Int32}, f_X3_minutesFor_30 n M l1 l3 l4 l5 l6 = some ans → Wt G X j_X3_minutesFor b_X3_minutesFor 30 [(1, rf G.1 l1), (3, .int l3), (4, rf G.1 l4), (5, .int l5), (6, .int l6)] [] M 0 0 := by
  intro n
  induction n with
  | zero =>
    intro M l1 l3 l4 l5 l6 h
    rw [f_X3_minutesFor_30] at h
    cases h
  | succ n ih =>
    intro M l1 l3 l4 l5 l6 h
    rw [f_X3_minutesFor_30] at h
    refine wt_iload (pc := 30) 4 dX3_minutesFor_30 rfl ?_
    refine wt_aload_n (pc := 32) 0 dX3_minutesFor_32 rfl ?_
    refine wt_getI (pc := 33) dX3_minutesFor_33 fl_X3_21 (fun _ _ _ => rfl) h (fun v33 h => ?_)
    refine wt_icmp_ge (pc := 36) (tgt := 83) dX3_minutesFor_36 (by decide) (fun q => ?_) (fun q => ?_)
    · have h := ite_t q h
      refine wt_iload (pc := 83) 3 dX3_minutesFor_83 rfl ?_
      cases h
      exact he 85 _ _ _ dX3_minutesFor_85 (by decide) (by decide)
    · have h := ite_f q h
      refine wt_iload_n (pc := 39) 1 dX3_minutesFor_39 rfl ?_
      refine wt_iload (pc := 40) 4 dX3_minutesFor_40 rfl ?_
      refine wt_ishr (pc := 42) dX3_minutesFor_42 ?_
      refine wt_iconst (pc := 43) (v := 1) dX3_minutesFor_43 (by decide) ?_
      refine wt_iand (pc := 44) dX3_minutesFor_44 ?_
      refine wt_iconst (pc := 45) (v := 1) dX3_minutesFor_45 (by decide) ?_
      refine wt_icmp_ne (pc := 46) (tgt := 77) dX3_minutesFor_46 (by decide) (fun q => ?_) (fun q => ?_)
      · have h := ite_f q h
        exact t_X3_minutesFor_77 he (fun _ _ _ _ _ _ h => ih h) h
      · have h := ite_t q h
        refine wt_iload (pc := 49) 3 dX3_minutesFor_49 rfl ?_
        refine wt_aload_n (pc := 51) 0 dX3_minutesFor_51 rfl ?_
        refine wt_getR (pc := 52) dX3_minutesFor_52 fl_X3_27 (fun _ _ _ => rfl) h (fun v52 h => ?_)
        refine wt_iload (pc := 55) 4 dX3_minutesFor_55 rfl ?_
        refine wt_aaload (pc := 57) (kd := 31) dX3_minutesFor_57 rfl rfl (by decide) h (fun v57 h => ?_)
        refine wt_getI (pc := 58) dX3_minutesFor_58 fl_X3_59 (fun _ _ _ => rfl) h (fun v58 h => ?_)
        refine wt_aload (pc := 61) 2 dX3_minutesFor_61 rfl ?_
        refine wt_aload_n (pc := 63) 0 dX3_minutesFor_63 rfl ?_
        refine wt_getR (pc := 64) dX3_minutesFor_64 fl_X3_27 (fun _ _ _ => rfl) h (fun v64 h => ?_)
        refine wt_iload (pc := 67) 4 dX3_minutesFor_67 rfl ?_
        refine wt_aaload (pc := 69) (kd := 31) dX3_minutesFor_69 rfl rfl (by decide) h (fun v69 h => ?_)
        refine wt_cVI (pc := 70) (J' := j_X0_pieceMinutes) (As := [rf G.1 v69]) (st := [.int v58, .int l5]) (B' := b_X0_pieceMinutes) (u' := 0) (w' := 0) dX3_minutesFor_70 ml_X3_62 mv_X0_pieceMinutes (fun v9 M9 e9 => c_X0_pieceMinutes e9) rfl (by decide) rfl rfl (by decide) (by decide) (by simp [rf_cat, cat_i, cat_l, cat_r]) rfl h (fun v70 M70 h => ?_)
        refine wt_imul (pc := 73) dX3_minutesFor_73 ?_
        refine wt_iadd (pc := 74) dX3_minutesFor_74 ?_
        refine wt_nmI h (fun x75 h => ?_)
        refine wt_istore (pc := 75) (i := 5) (ls' := [(5, .int x75), (1, rf G.1 l1), (3, .int l3), (4, rf G.1 l4), (6, .int l6)]) dX3_minutesFor_75 (by decide) (by simp [rf_cat, cat_i, cat_l, cat_r]) ?_
        refine wt_sub (ls' := [(1, rf G.1 l1), (3, .int l3), (4, rf G.1 l4), (5, .int x75), (6, .int l6)]) [1, 2, 3, 0, 4] rfl ?_
        exact t_X3_minutesFor_77 he (fun _ _ _ _ _ _ h => ih h) h
set_option maxHeartbeats 4000000 in
set_option maxRecDepth 100000 in
theorem t_X3_minutesFor_e {G : GG} {X : CX} {ans : Int32 × Mm} (he : EndI G X j_X3_minutesFor b_X3_minutesFor ans) {M : Mm} {l0 : Option Nat} {l1 : Option Nat} {l2 : Int32} {l3 : Int32} (h : f_X3_minutesFor M l0 l1 l2 l3 = some ans) : Wt G X j_X3_minutesFor b_X3_minutesFor 0 [(0, rf G.1 l0), (1, rf G.1 l1), (2, .int l2), (3, .int l3)] [] M 0 0 := by
  unfold f_X3_minutesFor at h
  refine wt_aload_n (pc := 0) 1 dX3_minutesFor_0 rfl ?_
  refine wt_getR (pc := 1) dX3_minutesFor_1 fl_X3_45 (fun _ _ _ => rfl) h (fun v1 h => ?_)
  refine wt_iload_n (pc := 4) 2 dX3_minutesFor_4 rfl ?_
  refine wt_aaload (pc := 5) (kd := 30) dX3_minutesFor_5 rfl rfl (by decide) h (fun v5 h => ?_)
  refine wt_astore (pc := 6) (i := 4) (ls' := [(4, rf G.1 v5), (0, rf G.1 l0), (1, rf G.1 l1), (2, .int l2), (3, .int l3)]) dX3_minutesFor_6 (by decide) rfl ?_
  refine wt_aload (pc := 8) 0 dX3_minutesFor_8 rfl ?_
  refine wt_getI (pc := 10) dX3_minutesFor_10 fl_X3_49 (fun _ _ _ => rfl) h (fun v10 h => ?_)
  refine wt_aload_n (pc := 13) 1 dX3_minutesFor_13 rfl ?_
  refine wt_aload_n (pc := 14) 2 dX3_minutesFor_14 rfl ?_
  refine wt_aload (pc := 15) 0 dX3_minutesFor_15 rfl ?_
  refine wt_getI (pc := 17) dX3_minutesFor_17 fl_X3_54 (fun _ _ _ => rfl) h (fun v17 h => ?_)
  refine wt_iload_n (pc := 20) 4 dX3_minutesFor_20 rfl ?_
  refine wt_cVI (pc := 21) (J' := j_X3_shortestWay) (As := [rf G.1 l1, .int v17, .int l3]) (st := [.int v10]) (B' := b_X3_shortestWay) (u' := 0) (w' := 0) dX3_minutesFor_21 ml_X3_55 mv_X3_shortestWay (fun v9 M9 e9 => c_X3_shortestWay e9) rfl (by decide) rfl rfl (by decide) (by decide) (by simp [rf_cat, cat_i, cat_l, cat_r]) rfl h (fun v21 M21 h => ?_)
  refine wt_imul (pc := 24) dX3_minutesFor_24 ?_
  refine wt_nmI h (fun x25 h => ?_)
  refine wt_istore (pc := 25) (i := 5) (ls' := [(5, .int x25), (4, rf G.1 v5), (0, rf G.1 l0), (1, rf G.1 l1), (2, .int l2), (3, .int l3)]) dX3_minutesFor_25 (by decide) (by simp [rf_cat, cat_i, cat_l, cat_r]) ?_
  refine wt_iconst (pc := 27) (v := 0) dX3_minutesFor_27 (by decide) ?_
  refine wt_istore (pc := 28) (i := 6) (ls' := [(6, .int 0), (5, .int x25), (4, rf G.1 v5), (0, rf G.1 l0), (1, rf G.1 l1), (2, .int l2), (3, .int l3)]) dX3_minutesFor_28 (by decide) rfl ?_
  refine wt_sub (ls' := [(1, rf G.1 l1), (3, .int l3), (4, rf G.1 v5), (5, .int x25), (6, .int 0)]) [4, 6, 2, 1, 0] rfl ?_
  exact t_X3_minutesFor_30 he  fu h
set_option maxHeartbeats 4000000 in
set_option maxRecDepth 100000 in
theorem c_X3_minutesFor {G : GG} {M : Mm} {l0 : Option Nat} {l1 : Option Nat} {l2 : Int32} {l3 : Int32} {r : Int32 × Mm} (h : f_X3_minutesFor M l0 l1 l2 l3 = some r) (l : Launch) : Ct l G j_X3_minutesFor b_X3_minutesFor [rf G.1 l0, rf G.1 l1, .int l2, .int l3] M (some (.int r.1)) r.2 := cf_I (by decide +kernel) (by simp [lg_sl, rf_cat, cat_i, cat_l, j_X3_minutesFor]) rfl (by simp [lv_args, rf_cat, cat_i, cat_l]) (fun X he => t_X3_minutesFor_e he h)
def f_X3_worthiestSet_102 (k15 : Mm → Option Nat → Option Nat → Int32 → Int32 → Int32 → Int32 → Int32 → Int32 → Option (Int32 × Mm)) (M : Mm) (l0 : Option Nat) (l1 : Option Nat) (l2 : Int32) (l3 : Int32) (l4 : Int32) (l5 : Int32) (l6 : Int32) (l7 : Int32) : Option (Int32 × Mm) := k15 M l0 l1 l2 l3 l4 l5 l6 (l7 + 1)
def f_X3_worthiestSet_75 (k15 : Mm → Option Nat → Option Nat → Int32 → Int32 → Int32 → Int32 → Int32 → Int32 → Option (Int32 × Mm)) (M : Mm) (l0 : Option Nat) (l1 : Option Nat) (l2 : Int32) (l3 : Int32) (l4 : Int32) (l5 : Int32) (l6 : Int32) (l7 : Int32) (l8 : Int32) (s0 : Int32) : Option (Int32 × Mm) := if s0 = 0 then (f_X3_worthiestSet_102 k15 M l0 l1 l2 l3 l4 l5 l6 l7) else (ck M l0 3 <| bd (f_X3_minutesFor M l0 l1 l2 l7) fun v87 M87 => if l3 < v87 then (f_X3_worthiestSet_102 k15 M87 l0 l1 l2 l3 l4 l5 l6 l7) else (f_X3_worthiestSet_102 k15 M87 l0 l1 l2 l3 l4 l7 l8 l7))
def f_X3_worthiestSet_70 (k15 : Mm → Option Nat → Option Nat → Int32 → Int32 → Int32 → Int32 → Int32 → Int32 → Option (Int32 × Mm)) (M : Mm) (l0 : Option Nat) (l1 : Option Nat) (l2 : Int32) (l3 : Int32) (l4 : Int32) (l5 : Int32) (l6 : Int32) (l7 : Int32) (l8 : Int32) : Option (Int32 × Mm) := f_X3_worthiestSet_75 k15 M l0 l1 l2 l3 l4 l5 l6 l7 l8 1
def f_X3_worthiestSet_74 (k15 : Mm → Option Nat → Option Nat → Int32 → Int32 → Int32 → Int32 → Int32 → Int32 → Option (Int32 × Mm)) (M : Mm) (l0 : Option Nat) (l1 : Option Nat) (l2 : Int32) (l3 : Int32) (l4 : Int32) (l5 : Int32) (l6 : Int32) (l7 : Int32) (l8 : Int32) : Option (Int32 × Mm) := f_X3_worthiestSet_75 k15 M l0 l1 l2 l3 l4 l5 l6 l7 l8 0
def f_X3_worthiestSet_15 : Nat → Mm → Option Nat → Option Nat → Int32 → Int32 → Int32 → Int32 → Int32 → Int32 → Option (Int32 × Mm)
  | 0, _, _, _, _, _, _, _, _, _ => none
  | n + 1, M, l0, l1, l2, l3, l4, l5, l6, l7 => if l4 < l7 then (some (l5, M)) else (if (l7 &&& (l4 ^^^ (-1))) = 0 then (ck M l1 4 <| bd (f_X4_worthOf M l1 l7) fun v38 M38 => if l6 < v38 then (f_X3_worthiestSet_70 (f_X3_worthiestSet_15 n) M38 l0 l1 l2 l3 l4 l5 l6 l7 v38) else (if v38 = l6 then (bd (f_J6_bitCount_0f7a4 M38 l7) fun v59 M59 => bd (f_J6_bitCount_0f7a4 M59 l5) fun v64 M64 => if v64 ≤ v59 then (f_X3_worthiestSet_74 (f_X3_worthiestSet_15 n) M64 l0 l1 l2 l3 l4 l5 l6 l7 v38) else (f_X3_worthiestSet_70 (f_X3_worthiestSet_15 n) M64 l0 l1 l2 l3 l4 l5 l6 l7 v38)) else (f_X3_worthiestSet_74 (f_X3_worthiestSet_15 n) M38 l0 l1 l2 l3 l4 l5 l6 l7 v38))) else (f_X3_worthiestSet_102 (f_X3_worthiestSet_15 n) M l0 l1 l2 l3 l4 l5 l6 l7))
def f_X3_worthiestSet (M : Mm) (l0 : Option Nat) (l1 : Option Nat) (l2 : Int32) (l3 : Int32) : Option (Int32 × Mm) := ck M l1 4 <| bd (f_X4_openSet M l1) fun v1 M1 => f_X3_worthiestSet_15  fu M1 l0 l1 l2 l3 v1 0 0 1
set_option maxHeartbeats 4000000 in
set_option maxRecDepth 100000 in
theorem t_X3_worthiestSet_102 {G : GG} {X : CX} {ans : Int32 × Mm} (he : EndI G X j_X3_worthiestSet b_X3_worthiestSet ans) {k15 : Mm → Option Nat → Option Nat → Int32 → Int32 → Int32 → Int32 → Int32 → Int32 → Option (Int32 × Mm)} (hk15 : ∀ (M : Mm) (a0 : Option Nat) (a1 : Option Nat) (a2 : Int32) (a3 : Int32) (a4 : Int32) (a5 : Int32) (a6 : Int32) (a7 : Int32), k15 M a0 a1 a2 a3 a4 a5 a6 a7 = some ans → Wt G X j_X3_worthiestSet b_X3_worthiestSet 15 [(0, rf G.1 a0), (1, rf G.1 a1), (2, .int a2), (3, .int a3), (4, .int a4), (5, .int a5), (6, .int a6), (7, .int a7)] [] M 0 0) {M : Mm} {l0 : Option Nat} {l1 : Option Nat} {l2 : Int32} {l3 : Int32} {l4 : Int32} {l5 : Int32} {l6 : Int32} {l7 : Int32} (h : f_X3_worthiestSet_102 k15 M l0 l1 l2 l3 l4 l5 l6 l7 = some ans) : Wt G X j_X3_worthiestSet b_X3_worthiestSet 102 [(0, rf G.1 l0), (1, rf G.1 l1), (2, .int l2), (3, .int l3), (4, .int l4), (5, .int l5), (6, .int l6), (7, .int l7)] [] M 0 0 := by
  unfold f_X3_worthiestSet_102 at h
  refine wt_iinc (pc := 102) (d := 1) (ls' := [(7, .int (l7 + 1)), (0, rf G.1 l0), (1, rf G.1 l1), (2, .int l2), (3, .int l3), (4, .int l4), (5, .int l5), (6, .int l6)]) 7 dX3_worthiestSet_102 rfl (by decide) (by decide) rfl ?_
  refine wt_goto (pc := 105) (tgt := 15) dX3_worthiestSet_105 (by decide) ?_
  refine wt_sub (ls' := [(0, rf G.1 l0), (1, rf G.1 l1), (2, .int l2), (3, .int l3), (4, .int l4), (5, .int l5), (6, .int l6), (7, .int (l7 + 1))]) [1, 2, 3, 4, 5, 6, 7, 0] rfl ?_
  exact hk15 _ _ _ _ _ _ _ _ _ h
set_option maxHeartbeats 4000000 in
set_option maxRecDepth 100000 in
theorem t_X3_worthiestSet_75 {G : GG} {X : CX} {ans : Int32 × Mm} (he : EndI G X j_X3_worthiestSet b_X3_worthiestSet ans) {k15 : Mm → Option Nat → Option Nat → Int32 → Int32 → Int32 → Int32 → Int32 → Int32 → Option (Int32 × Mm)} (hk15 : ∀ (M : Mm) (a0 : Option Nat) (a1 : Option Nat) (a2 : Int32) (a3 : Int32) (a4 : Int32) (a5 : Int32) (a6 : Int32) (a7 : Int32), k15 M a0 a1 a2 a3 a4 a5 a6 a7 = some ans → Wt G X j_X3_worthiestSet b_X3_worthiestSet 15 [(0, rf G.1 a0), (1, rf G.1 a1), (2, .int a2), (3, .int a3), (4, .int a4), (5, .int a5), (6, .int a6), (7, .int a7)] [] M 0 0) {M : Mm} {l0 : Option Nat} {l1 : Option Nat} {l2 : Int32} {l3 : Int32} {l4 : Int32} {l5 : Int32} {l6 : Int32} {l7 : Int32} {l8 : Int32} {s0 : Int32} (h : f_X3_worthiestSet_75 k15 M l0 l1 l2 l3 l4 l5 l6 l7 l8 s0 = some ans) : Wt G X j_X3_worthiestSet b_X3_worthiestSet 75 [(0, rf G.1 l0), (1, rf G.1 l1), (2, .int l2), (3, .int l3), (4, .int l4), (5, .int l5), (6, .int l6), (7, .int l7), (8, .int l8)] [.int s0] M 0 0 := by
  unfold f_X3_worthiestSet_75 at h
  refine wt_istore (pc := 75) (i := 9) (ls' := [(9, .int s0), (0, rf G.1 l0), (1, rf G.1 l1), (2, .int l2), (3, .int l3), (4, .int l4), (5, .int l5), (6, .int l6), (7, .int l7), (8, .int l8)]) dX3_worthiestSet_75 (by decide) rfl ?_
  refine wt_iload (pc := 77) 0 dX3_worthiestSet_77 rfl ?_
  refine wt_if_eq (pc := 79) (tgt := 102) dX3_worthiestSet_79 (by decide) (fun q => ?_) (fun q => ?_)
  · have h := ite_t q h
    refine wt_sub (ls' := [(0, rf G.1 l0), (1, rf G.1 l1), (2, .int l2), (3, .int l3), (4, .int l4), (5, .int l5), (6, .int l6), (7, .int l7)]) [1, 2, 3, 4, 5, 6, 7, 8] rfl ?_
    exact t_X3_worthiestSet_102 he (fun _ _ _ _ _ _ _ _ _ h => hk15 _ _ _ _ _ _ _ _ _ h) h
  · have h := ite_f q h
    refine wt_aload_n (pc := 82) 1 dX3_worthiestSet_82 rfl ?_
    refine wt_aload_n (pc := 83) 2 dX3_worthiestSet_83 rfl ?_
    refine wt_iload_n (pc := 84) 3 dX3_worthiestSet_84 rfl ?_
    refine wt_iload (pc := 85) 8 dX3_worthiestSet_85 rfl ?_
    refine wt_cVI (pc := 87) (J' := j_X3_minutesFor) (As := [rf G.1 l1, .int l2, .int l7]) (st := []) (B' := b_X3_minutesFor) (u' := 0) (w' := 0) dX3_worthiestSet_87 ml_X3_79 mv_X3_minutesFor (fun v9 M9 e9 => c_X3_minutesFor e9) rfl (by decide) rfl rfl (by decide) (by decide) (by decide) rfl h (fun v87 M87 h => ?_)
    refine wt_iload_n (pc := 90) 4 dX3_worthiestSet_90 rfl ?_
    refine wt_icmp_gt (pc := 91) (tgt := 102) dX3_worthiestSet_91 (by decide) (fun q => ?_) (fun q => ?_)
    · have h := ite_t q h
      refine wt_sub (ls' := [(0, rf G.1 l0), (1, rf G.1 l1), (2, .int l2), (3, .int l3), (4, .int l4), (5, .int l5), (6, .int l6), (7, .int l7)]) [1, 2, 3, 4, 5, 6, 7, 8] rfl ?_
      exact t_X3_worthiestSet_102 he (fun _ _ _ _ _ _ _ _ _ h => hk15 _ _ _ _ _ _ _ _ _ h) h
    · have h := ite_f q h
      refine wt_iload (pc := 94) 8 dX3_worthiestSet_94 rfl ?_
      refine wt_istore (pc := 96) (i := 5) (ls' := [(5, .int l7), (9, .int s0), (0, rf G.1 l0), (1, rf G.1 l1), (2, .int l2), (3, .int l3), (4, .int l4), (6, .int l6), (7, .int l7), (8, .int l8)]) dX3_worthiestSet_96 (by decide) rfl ?_
      refine wt_iload (pc := 98) 9 dX3_worthiestSet_98 rfl ?_
      refine wt_istore (pc := 100) (i := 6) (ls' := [(6, .int l8), (5, .int l7), (9, .int s0), (0, rf G.1 l0), (1, rf G.1 l1), (2, .int l2), (3, .int l3), (4, .int l4), (7, .int l7), (8, .int l8)]) dX3_worthiestSet_100 (by decide) rfl ?_
      refine wt_sub (ls' := [(0, rf G.1 l0), (1, rf G.1 l1), (2, .int l2), (3, .int l3), (4, .int l4), (5, .int l7), (6, .int l8), (7, .int l7)]) [3, 4, 5, 6, 7, 1, 0, 8] rfl ?_
      exact t_X3_worthiestSet_102 he (fun _ _ _ _ _ _ _ _ _ h => hk15 _ _ _ _ _ _ _ _ _ h) h
set_option maxHeartbeats 4000000 in
set_option maxRecDepth 100000 in
theorem t_X3_worthiestSet_70 {G : GG} {X : CX} {ans : Int32 × Mm} (he : EndI G X j_X3_worthiestSet b_X3_worthiestSet ans) {k15 : Mm → Option Nat → Option Nat → Int32 → Int32 → Int32 → Int32 → Int32 → Int32 → Option (Int32 × Mm)} (hk15 : ∀ (M : Mm) (a0 : Option Nat) (a1 : Option Nat) (a2 : Int32) (a3 : Int32) (a4 : Int32) (a5 : Int32) (a6 : Int32) (a7 : Int32), k15 M a0 a1 a2 a3 a4 a5 a6 a7 = some ans → Wt G X j_X3_worthiestSet b_X3_worthiestSet 15 [(0, rf G.1 a0), (1, rf G.1 a1), (2, .int a2), (3, .int a3), (4, .int a4), (5, .int a5), (6, .int a6), (7, .int a7)] [] M 0 0) {M : Mm} {l0 : Option Nat} {l1 : Option Nat} {l2 : Int32} {l3 : Int32} {l4 : Int32} {l5 : Int32} {l6 : Int32} {l7 : Int32} {l8 : Int32} (h : f_X3_worthiestSet_70 k15 M l0 l1 l2 l3 l4 l5 l6 l7 l8 = some ans) : Wt G X j_X3_worthiestSet b_X3_worthiestSet 70 [(0, rf G.1 l0), (1, rf G.1 l1), (2, .int l2), (3, .int l3), (4, .int l4), (5, .int l5), (6, .int l6), (7, .int l7), (8, .int l8)] [] M 0 0 := by
  unfold f_X3_worthiestSet_70 at h
  refine wt_iconst (pc := 70) (v := 1) dX3_worthiestSet_70 (by decide) ?_
  refine wt_goto (pc := 71) (tgt := 75) dX3_worthiestSet_71 (by decide) ?_
  exact t_X3_worthiestSet_75 he (fun _ _ _ _ _ _ _ _ _ h => hk15 _ _ _ _ _ _ _ _ _ h) h
set_option maxHeartbeats 4000000 in
set_option maxRecDepth 100000 in
theorem t_X3_worthiestSet_74 {G : GG} {X : CX} {ans : Int32 × Mm} (he : EndI G X j_X3_worthiestSet b_X3_worthiestSet ans) {k15 : Mm → Option Nat → Option Nat → Int32 → Int32 → Int32 → Int32 → Int32 → Int32 → Option (Int32 × Mm)} (hk15 : ∀ (M : Mm) (a0 : Option Nat) (a1 : Option Nat) (a2 : Int32) (a3 : Int32) (a4 : Int32) (a5 : Int32) (a6 : Int32) (a7 : Int32), k15 M a0 a1 a2 a3 a4 a5 a6 a7 = some ans → Wt G X j_X3_worthiestSet b_X3_worthiestSet 15 [(0, rf G.1 a0), (1, rf G.1 a1), (2, .int a2), (3, .int a3), (4, .int a4), (5, .int a5), (6, .int a6), (7, .int a7)] [] M 0 0) {M : Mm} {l0 : Option Nat} {l1 : Option Nat} {l2 : Int32} {l3 : Int32} {l4 : Int32} {l5 : Int32} {l6 : Int32} {l7 : Int32} {l8 : Int32} (h : f_X3_worthiestSet_74 k15 M l0 l1 l2 l3 l4 l5 l6 l7 l8 = some ans) : Wt G X j_X3_worthiestSet b_X3_worthiestSet 74 [(0, rf G.1 l0), (1, rf G.1 l1), (2, .int l2), (3, .int l3), (4, .int l4), (5, .int l5), (6, .int l6), (7, .int l7), (8, .int l8)] [] M 0 0 := by
  unfold f_X3_worthiestSet_74 at h
  refine wt_iconst (pc := 74) (v := 0) dX3_worthiestSet_74 (by decide) ?_
  exact t_X3_worthiestSet_75 he (fun _ _ _ _ _ _ _ _ _ h => hk15 _ _ _ _ _ _ _ _ _ h) h
set_option maxHeartbeats 4000000 in
set_option maxRecDepth 100000 in
theorem t_X3_worthiestSet_15 {G : GG} {X : CX} {ans : Int32 × Mm} (he : EndI G X j_X3_worthiestSet b_X3_worthiestSet ans) : ∀ (n : Nat) {M : Mm} {l0 : Option Nat} {l1 : Option Nat} {l2 : Int32} {l3 : Int32} {l4 : Int32} {l5 : Int32} {l6 : Int32} {l7 : Int32}, f_X3_worthiestSet_15 n M l0 l1 l2 l3 l4 l5 l6 l7 = some ans → Wt G X j_X3_worthiestSet b_X3_worthiestSet 15 [(0, rf G.1 l0), (1, rf G.1 l1), (2, .int l2), (3, .int l3), (4, .int l4), (5, .int l5), (6, .int l6), (7, .int l7)] [] M 0 0 := by
  intro n
  induction n with
  | zero =>
    intro M l0 l1 l2 l3 l4 l5 l6 l7 h
    rw [f_X3_worthiestSet_15] at h
    cases h
  | succ n ih =>
    intro M l0 l1 l2 l3 l4 l5 l6 l7 h
    rw [f_X3_worthiestSet_15] at h
    refine wt_iload (pc := 15) 7 dX3_worthiestSet_15 rfl ?_
    refine wt_iload (pc := 17) 4 dX3_worthiestSet_17 rfl ?_
    refine wt_icmp_gt (pc := 19) (tgt := 108) dX3_worthiestSet_19 (by decide) (fun q => ?_) (fun q => ?_)
    · have h := ite_t q h
      refine wt_iload (pc := 108) 5 dX3_worthiestSet_108 rfl ?_
      cases h
      exact he 110 _ _ _ dX3_worthiestSet_110 (by decide) (by decide)
    · have h := ite_f q h
      refine wt_iload (pc := 22) 7 dX3_worthiestSet_22 rfl ?_
      refine wt_iload (pc := 24) 4 dX3_worthiestSet_24 rfl ?_
      refine wt_iconst (pc := 26) (v := (-1)) dX3_worthiestSet_26 (by decide) ?_
      refine wt_ixor (pc := 27) dX3_worthiestSet_27 ?_
      refine wt_iand (pc := 28) dX3_worthiestSet_28 ?_
      refine wt_if_eq (pc := 29) (tgt := 35) dX3_worthiestSet_29 (by decide) (fun q => ?_) (fun q => ?_)
      · have h := ite_t q h
        refine wt_aload_n (pc := 35) 1 dX3_worthiestSet_35 rfl ?_
        refine wt_iload (pc := 36) 7 dX3_worthiestSet_36 rfl ?_
        refine wt_cVI (pc := 38) (J' := j_X4_worthOf) (As := [.int l7]) (st := []) (B' := b_X4_worthOf) (u' := 0) (w' := 0) dX3_worthiestSet_38 ml_X3_70 mv_X4_worthOf (fun v9 M9 e9 => c_X4_worthOf e9) rfl (by decide) rfl rfl (by decide) (by decide) (by decide) rfl h (fun v38 M38 h => ?_)
        refine wt_istore (pc := 41) (i := 8) (ls' := [(8, .int v38), (0, rf G.1 l0), (1, rf G.1 l1), (2, .int l2), (3, .int l3), (4, .int l4), (5, .int l5), (6, .int l6), (7, .int l7)]) dX3_worthiestSet_41 (by decide) rfl ?_
        refine wt_iload (pc := 43) 0 dX3_worthiestSet_43 rfl ?_
        refine wt_iload (pc := 45) 7 dX3_worthiestSet_45 rfl ?_
        refine wt_icmp_gt (pc := 47) (tgt := 70) dX3_worthiestSet_47 (by decide) (fun q => ?_) (fun q => ?_)
        · have h := ite_t q h
          refine wt_sub (ls' := [(0, rf G.1 l0), (1, rf G.1 l1), (2, .int l2), (3, .int l3), (4, .int l4), (5, .int l5), (6, .int l6), (7, .int l7), (8, .int v38)]) [1, 2, 3, 4, 5, 6, 7, 8, 0] rfl ?_
          exact t_X3_worthiestSet_70 he (fun _ _ _ _ _ _ _ _ _ h => ih h) h
        · have h := ite_f q h
          refine wt_iload (pc := 50) 0 dX3_worthiestSet_50 rfl ?_
          refine wt_iload (pc := 52) 7 dX3_worthiestSet_52 rfl ?_
          refine wt_icmp_ne (pc := 54) (tgt := 74) dX3_worthiestSet_54 (by decide) (fun q => ?_) (fun q => ?_)
          · have h := ite_f q h
            refine wt_sub (ls' := [(0, rf G.1 l0), (1, rf G.1 l1), (2, .int l2), (3, .int l3), (4, .int l4), (5, .int l5), (6, .int l6), (7, .int l7), (8, .int v38)]) [1, 2, 3, 4, 5, 6, 7, 8, 0] rfl ?_
            exact t_X3_worthiestSet_74 he (fun _ _ _ _ _ _ _ _ _ h => ih h) h
          · have h := ite_t q h
            refine wt_iload (pc := 57) 8 dX3_worthiestSet_57 rfl ?_
            refine wt_cSI (pc := 59) (J' := j_J6_bitCount_0f7a4) (As := [.int l7]) (st := []) (B' := b_J6_bitCount_0f7a4) (u' := 0) (w' := 0) dX3_worthiestSet_59 ml_X3_74 ms_J6_bitCount_0f7a4 (fun v9 M9 e9 => c_J6_bitCount_0f7a4 e9) rfl (by decide) rfl rfl (by decide) (by decide) (by decide) rfl h (fun v59 M59 h => ?_)
            refine wt_iload (pc := 62) 6 dX3_worthiestSet_62 rfl ?_
            refine wt_cSI (pc := 64) (J' := j_J6_bitCount_0f7a4) (As := [.int l5]) (st := [.int v59]) (B' := b_J6_bitCount_0f7a4) (u' := 0) (w' := 0) dX3_worthiestSet_64 ml_X3_74 ms_J6_bitCount_0f7a4 (fun v9 M9 e9 => c_J6_bitCount_0f7a4 e9) rfl (by decide) rfl rfl (by decide) (by decide) (by simp [rf_cat, cat_i, cat_l, cat_r]) rfl h (fun v64 M64 h => ?_)
            refine wt_icmp_ge (pc := 67) (tgt := 74) dX3_worthiestSet_67 (by decide) (fun q => ?_) (fun q => ?_)
            · have h := ite_t q h
              refine wt_sub (ls' := [(0, rf G.1 l0), (1, rf G.1 l1), (2, .int l2), (3, .int l3), (4, .int l4), (5, .int l5), (6, .int l6), (7, .int l7), (8, .int v38)]) [1, 2, 3, 4, 5, 6, 7, 8, 0] rfl ?_
              exact t_X3_worthiestSet_74 he (fun _ _ _ _ _ _ _ _ _ h => ih h) h
            · have h := ite_f q h
              refine wt_sub (ls' := [(0, rf G.1 l0), (1, rf G.1 l1), (2, .int l2), (3, .int l3), (4, .int l4), (5, .int l5), (6, .int l6), (7, .int l7), (8, .int v38)]) [1, 2, 3, 4, 5, 6, 7, 8, 0] rfl ?_
              exact t_X3_worthiestSet_70 he (fun _ _ _ _ _ _ _ _ _ h => ih h) h
      · have h := ite_f q h
        refine wt_goto (pc := 32) (tgt := 102) dX3_worthiestSet_32 (by decide) ?_
        exact t_X3_worthiestSet_102 he (fun _ _ _ _ _ _ _ _ _ h => ih h) h
set_option maxHeartbeats 4000000 in
set_option maxRecDepth 100000 in
theorem t_X3_worthiestSet_e {G : GG} {X : CX} {ans : Int32 × Mm} (he : EndI G X j_X3_worthiestSet b_X3_worthiestSet ans) {M : Mm} {l0 : Option Nat} {l1 : Option Nat} {l2 : Int32} {l3 : Int32} (h : f_X3_worthiestSet M l0 l1 l2 l3 = some ans) : Wt G X j_X3_worthiestSet b_X3_worthiestSet 0 [(0, rf G.1 l0), (1, rf G.1 l1), (2, .int l2), (3, .int l3)] [] M 0 0 := by
  unfold f_X3_worthiestSet at h
  refine wt_aload_n (pc := 0) 1 dX3_worthiestSet_0 rfl ?_
  refine wt_cVI (pc := 1) (J' := j_X4_openSet) (As := []) (st := []) (B' := b_X4_openSet) (u' := 0) (w' := 0) dX3_worthiestSet_1 ml_X3_66 mv_X4_openSet (fun v9 M9 e9 => c_X4_openSet e9) rfl (by decide) rfl rfl (by decide) (by decide) (by decide) rfl h (fun v1 M1 h => ?_)
  refine wt_istore (pc := 4) (i := 4) (ls' := [(4, .int v1), (0, rf G.1 l0), (1, rf G.1 l1), (2, .int l2), (3, .int l3)]) dX3_worthiestSet_4 (by decide) rfl ?_
  refine wt_iconst (pc := 6) (v := 0) dX3_worthiestSet_6 (by decide) ?_
  refine wt_istore (pc := 7) (i := 5) (ls' := [(5, .int 0), (4, .int v1), (0, rf G.1 l0), (1, rf G.1 l1), (2, .int l2), (3, .int l3)]) dX3_worthiestSet_7 (by decide) rfl ?_
  refine wt_iconst (pc := 9) (v := 0) dX3_worthiestSet_9 (by decide) ?_
  refine wt_istore (pc := 10) (i := 6) (ls' := [(6, .int 0), (5, .int 0), (4, .int v1), (0, rf G.1 l0), (1, rf G.1 l1), (2, .int l2), (3, .int l3)]) dX3_worthiestSet_10 (by decide) rfl ?_
  refine wt_iconst (pc := 12) (v := 1) dX3_worthiestSet_12 (by decide) ?_
  refine wt_istore (pc := 13) (i := 7) (ls' := [(7, .int 1), (6, .int 0), (5, .int 0), (4, .int v1), (0, rf G.1 l0), (1, rf G.1 l1), (2, .int l2), (3, .int l3)]) dX3_worthiestSet_13 (by decide) rfl ?_
  refine wt_sub (ls' := [(0, rf G.1 l0), (1, rf G.1 l1), (2, .int l2), (3, .int l3), (4, .int v1), (5, .int 0), (6, .int 0), (7, .int 1)]) [4, 5, 6, 7, 3, 2, 1, 0] rfl ?_
  exact t_X3_worthiestSet_15 he  fu h
set_option maxHeartbeats 4000000 in
set_option maxRecDepth 100000 in
theorem c_X3_worthiestSet {G : GG} {M : Mm} {l0 : Option Nat} {l1 : Option Nat} {l2 : Int32} {l3 : Int32} {r : Int32 × Mm} (h : f_X3_worthiestSet M l0 l1 l2 l3 = some r) (l : Launch) : Ct l G j_X3_worthiestSet b_X3_worthiestSet [rf G.1 l0, rf G.1 l1, .int l2, .int l3] M (some (.int r.1)) r.2 := cf_I (by decide +kernel) (by simp [lg_sl, rf_cat, cat_i, cat_l, j_X3_worthiestSet]) rfl (by simp [lv_args, rf_cat, cat_i, cat_l]) (fun X he => t_X3_worthiestSet_e he h)
def g_X3_beginsShortest (M : Mm) (l0 : Option Nat) (l1 : Option Nat) (l2 : Int32) (l3 : Int32) (l4 : Int32) (l5 : Int32) (l6 : Int32) : Option (Int32 × Mm) := if ((l5 >>> (l2 &&& 31)) &&& 1) = 0 then (some (0, M)) else (gfR M l1 4 0 fun v12 => alR M v12 31 l2 fun v16 => gfI M v16 1 1 fun v17 => ck M l0 3 <| bd (f_X3_shortestWay M l0 l1 v17 (l5 &&& ((1 <<< (l2 &&& 31)) ^^^ (-1)))) fun v42 M42 => nmI ((abI (l4 - v17)) + v42) fun x46 => if (l3 * x46) = (l3 * l6) then (some (1, M42)) else (some (0, M42)))
def f_X3_beginsShortest (M : Mm) (l0 : Option Nat) (l1 : Option Nat) (l2 : Int32) (l3 : Int32) (l4 : Int32) (l5 : Int32) (l6 : Int32) : Option (Int32 × Mm) := zc (g_X3_beginsShortest M l0 l1 l2 l3 l4 l5 l6)
set_option maxHeartbeats 4000000 in
set_option maxRecDepth 100000 in
theorem t_X3_beginsShortest_e {G : GG} {X : CX} {ans : Int32 × Mm} (he : EndI G X j_X3_beginsShortest b_X3_beginsShortest ans) {M : Mm} {l0 : Option Nat} {l1 : Option Nat} {l2 : Int32} {l3 : Int32} {l4 : Int32} {l5 : Int32} {l6 : Int32} (h : g_X3_beginsShortest M l0 l1 l2 l3 l4 l5 l6 = some ans) : Wt G X j_X3_beginsShortest b_X3_beginsShortest 0 [(0, rf G.1 l0), (1, rf G.1 l1), (2, .int l2), (3, .int l3), (4, .int l4), (5, .int l5), (6, .int l6)] [] M 0 0 := by
  unfold g_X3_beginsShortest at h
  refine wt_iload (pc := 0) 5 dX3_beginsShortest_0 rfl ?_
  refine wt_iload_n (pc := 2) 2 dX3_beginsShortest_2 rfl ?_
  refine wt_ishr (pc := 3) dX3_beginsShortest_3 ?_
  refine wt_iconst (pc := 4) (v := 1) dX3_beginsShortest_4 (by decide) ?_
  refine wt_iand (pc := 5) dX3_beginsShortest_5 ?_
  refine wt_if_ne (pc := 6) (tgt := 11) dX3_beginsShortest_6 (by decide) (fun q => ?_) (fun q => ?_)
  · have h := ite_f q h
    refine wt_aload_n (pc := 11) 1 dX3_beginsShortest_11 rfl ?_
    refine wt_getR (pc := 12) dX3_beginsShortest_12 fl_X3_27 (fun _ _ _ => rfl) h (fun v12 h => ?_)
    refine wt_iload_n (pc := 15) 2 dX3_beginsShortest_15 rfl ?_
    refine wt_aaload (pc := 16) (kd := 31) dX3_beginsShortest_16 rfl rfl (by decide) h (fun v16 h => ?_)
    refine wt_getI (pc := 17) dX3_beginsShortest_17 fl_X3_31 (fun _ _ _ => rfl) h (fun v17 h => ?_)
    refine wt_istore (pc := 20) (i := 7) (ls' := [(7, .int v17), (0, rf G.1 l0), (1, rf G.1 l1), (2, .int l2), (3, .int l3), (4, .int l4), (5, .int l5), (6, .int l6)]) dX3_beginsShortest_20 (by decide) rfl ?_
    refine wt_iload (pc := 22) 5 dX3_beginsShortest_22 rfl ?_
    refine wt_iload (pc := 24) 0 dX3_beginsShortest_24 rfl ?_
    refine wt_isub (pc := 26) dX3_beginsShortest_26 ?_
    refine wt_mabs (pc := 27) dX3_beginsShortest_27 bi_X3_93 mw_abs.1 mw_abs.2.1 mw_abs.2.2 (by decide) (by decide) (by decide) (by decide) ?_
    refine wt_aload_n (pc := 30) 1 dX3_beginsShortest_30 rfl ?_
    refine wt_aload_n (pc := 31) 2 dX3_beginsShortest_31 rfl ?_
    refine wt_iload (pc := 32) 0 dX3_beginsShortest_32 rfl ?_
    refine wt_iload (pc := 34) 6 dX3_beginsShortest_34 rfl ?_
    refine wt_iconst (pc := 36) (v := 1) dX3_beginsShortest_36 (by decide) ?_
    refine wt_iload_n (pc := 37) 3 dX3_beginsShortest_37 rfl ?_
    refine wt_ishl (pc := 38) dX3_beginsShortest_38 ?_
    refine wt_iconst (pc := 39) (v := (-1)) dX3_beginsShortest_39 (by decide) ?_
    refine wt_ixor (pc := 40) dX3_beginsShortest_40 ?_
    refine wt_iand (pc := 41) dX3_beginsShortest_41 ?_
    refine wt_cVI (pc := 42) (J' := j_X3_shortestWay) (As := [rf G.1 l1, .int v17, .int (l5 &&& ((1 <<< (l2 &&& 31)) ^^^ (-1)))]) (st := [.int (abI (l4 - v17))]) (B' := b_X3_shortestWay) (u' := 0) (w' := 0) dX3_beginsShortest_42 ml_X3_55 mv_X3_shortestWay (fun v9 M9 e9 => c_X3_shortestWay e9) rfl (by decide) rfl rfl (by decide) (by decide) (by simp [rf_cat, cat_i, cat_l, cat_r]) rfl h (fun v42 M42 h => ?_)
    refine wt_iadd (pc := 45) dX3_beginsShortest_45 ?_
    refine wt_nmI h (fun x46 h => ?_)
    refine wt_istore (pc := 46) (i := 8) (ls' := [(8, .int x46), (7, .int v17), (0, rf G.1 l0), (1, rf G.1 l1), (2, .int l2), (3, .int l3), (4, .int l4), (5, .int l5), (6, .int l6)]) dX3_beginsShortest_46 (by decide) rfl ?_
    refine wt_iload_n (pc := 48) 5 dX3_beginsShortest_48 rfl ?_
    refine wt_iload (pc := 49) 0 dX3_beginsShortest_49 rfl ?_
    refine wt_imul (pc := 51) dX3_beginsShortest_51 ?_
    refine wt_iload_n (pc := 52) 5 dX3_beginsShortest_52 rfl ?_
    refine wt_iload (pc := 53) 8 dX3_beginsShortest_53 rfl ?_
    refine wt_imul (pc := 55) dX3_beginsShortest_55 ?_
    refine wt_icmp_ne (pc := 56) (tgt := 63) dX3_beginsShortest_56 (by decide) (fun q => ?_) (fun q => ?_)
    · have h := ite_f q h
      refine wt_iconst (pc := 63) (v := 0) dX3_beginsShortest_63 (by decide) ?_
      cases h
      exact he 64 _ _ _ dX3_beginsShortest_64 (by decide) (by decide)
    · have h := ite_t q h
      refine wt_iconst (pc := 59) (v := 1) dX3_beginsShortest_59 (by decide) ?_
      refine wt_goto (pc := 60) (tgt := 64) dX3_beginsShortest_60 (by decide) ?_
      cases h
      exact he 64 _ _ _ dX3_beginsShortest_64 (by decide) (by decide)
  · have h := ite_t q h
    refine wt_iconst (pc := 9) (v := 0) dX3_beginsShortest_9 (by decide) ?_
    cases h
    exact he 10 _ _ _ dX3_beginsShortest_10 (by decide) (by decide)
set_option maxHeartbeats 4000000 in
set_option maxRecDepth 100000 in
theorem c_X3_beginsShortest {G : GG} {M : Mm} {l0 : Option Nat} {l1 : Option Nat} {l2 : Int32} {l3 : Int32} {l4 : Int32} {l5 : Int32} {l6 : Int32} {r : Int32 × Mm} (h : f_X3_beginsShortest M l0 l1 l2 l3 l4 l5 l6 = some r) (l : Launch) : Ct l G j_X3_beginsShortest b_X3_beginsShortest [rf G.1 l0, rf G.1 l1, .int l2, .int l3, .int l4, .int l5, .int l6] M (some (.int r.1)) r.2 := cf_Z h (by decide +kernel) (by simp [lg_sl, rf_cat, cat_i, cat_l, j_X3_beginsShortest]) rfl (by simp [lv_args, rf_cat, cat_i, cat_l]) (fun h X he => t_X3_beginsShortest_e he h)
def f_X3_firstOnShortestWay_13 : Nat → Mm → Option Nat → Option Nat → Int32 → Int32 → Int32 → Int32 → Int32 → Option (Int32 × Mm)
  | 0, _, _, _, _, _, _, _, _ => none
  | n + 1, M, l0, l1, l2, l3, l4, l5, l6 => gfI M l1 4 3 fun v16 => if (v16 - 1) ≤ l6 then (some (l6, M)) else (ck M l0 3 <| bd (f_X3_beginsShortest M l0 l1 l6 l2 l3 l4 l5) fun v34 M34 => if v34 = 0 then (f_X3_firstOnShortestWay_13 n M34 l0 l1 l2 l3 l4 l5 (l6 + 1)) else (some (l6, M34)))
def f_X3_firstOnShortestWay (M : Mm) (l0 : Option Nat) (l1 : Option Nat) (l2 : Int32) (l3 : Int32) (l4 : Int32) : Option (Int32 × Mm) := ck M l0 3 <| bd (f_X3_shortestWay M l0 l1 l3 l4) fun v5 M5 => f_X3_firstOnShortestWay_13  fu M5 l0 l1 l2 l3 l4 v5 0
set_option maxHeartbeats 4000000 in
set_option maxRecDepth 100000 in
theorem t_X3_firstOnShortestWay_13 {G : GG} {X : CX} {ans : Int32 × Mm} (he : EndI G X j_X3_firstOnShortestWay b_X3_firstOnShortestWay ans) : ∀ (n : Nat) {M : Mm} {l0 : Option Nat} {l1 : Option Nat} {l2 : Int32} {l3 : Int32} {l4 : Int32} {l5 : Int32} {l6 : Int32}, f_X3_firstOnShortestWay_13 n M l0 l1 l2 l3 l4 l5 l6 = some ans → Wt G X j_X3_firstOnShortestWay b_X3_firstOnShortestWay 13 [(0, rf G.1 l0), (1, rf G.1 l1), (2, .int l2), (3, .int l3), (4, .int l4), (5, .int l5), (6, .int l6)] [] M 0 0 := by
  intro n
  induction n with
  | zero =>
    intro M l0 l1 l2 l3 l4 l5 l6 h
    rw [f_X3_firstOnShortestWay_13] at h
    cases h
  | succ n ih =>
    intro M l0 l1 l2 l3 l4 l5 l6 h
    rw [f_X3_firstOnShortestWay_13] at h
    refine wt_iload (pc := 13) 6 dX3_firstOnShortestWay_13 rfl ?_
    refine wt_aload_n (pc := 15) 1 dX3_firstOnShortestWay_15 rfl ?_
    refine wt_getI (pc := 16) dX3_firstOnShortestWay_16 fl_X3_21 (fun _ _ _ => rfl) h (fun v16 h => ?_)
    refine wt_iconst (pc := 19) (v := 1) dX3_firstOnShortestWay_19 (by decide) ?_
    refine wt_isub (pc := 20) dX3_firstOnShortestWay_20 ?_
    refine wt_icmp_ge (pc := 21) (tgt := 46) dX3_firstOnShortestWay_21 (by decide) (fun q => ?_) (fun q => ?_)
    · have h := ite_t q h
      refine wt_iload (pc := 46) 6 dX3_firstOnShortestWay_46 rfl ?_
      cases h
      exact he 48 _ _ _ dX3_firstOnShortestWay_48 (by decide) (by decide)
    · have h := ite_f q h
      refine wt_aload_n (pc := 24) 0 dX3_firstOnShortestWay_24 rfl ?_
      refine wt_aload_n (pc := 25) 1 dX3_firstOnShortestWay_25 rfl ?_
      refine wt_iload (pc := 26) 6 dX3_firstOnShortestWay_26 rfl ?_
      refine wt_iload_n (pc := 28) 2 dX3_firstOnShortestWay_28 rfl ?_
      refine wt_iload_n (pc := 29) 3 dX3_firstOnShortestWay_29 rfl ?_
      refine wt_iload (pc := 30) 4 dX3_firstOnShortestWay_30 rfl ?_
      refine wt_iload (pc := 32) 5 dX3_firstOnShortestWay_32 rfl ?_
      refine wt_cVI (pc := 34) (J' := j_X3_beginsShortest) (As := [rf G.1 l1, .int l6, .int l2, .int l3, .int l4, .int l5]) (st := []) (B' := b_X3_beginsShortest) (u' := 0) (w' := 0) dX3_firstOnShortestWay_34 ml_X3_89 mv_X3_beginsShortest (fun v9 M9 e9 => c_X3_beginsShortest e9) rfl (by decide) rfl rfl (by decide) (by decide) (by decide) rfl h (fun v34 M34 h => ?_)
      refine wt_if_ne (pc := 37) (tgt := 46) dX3_firstOnShortestWay_37 (by decide) (fun q => ?_) (fun q => ?_)
      · have h := ite_f q h
        refine wt_iload (pc := 46) 6 dX3_firstOnShortestWay_46 rfl ?_
        cases h
        exact he 48 _ _ _ dX3_firstOnShortestWay_48 (by decide) (by decide)
      · have h := ite_t q h
        refine wt_iinc (pc := 40) (d := 1) (ls' := [(6, .int (l6 + 1)), (0, rf G.1 l0), (1, rf G.1 l1), (2, .int l2), (3, .int l3), (4, .int l4), (5, .int l5)]) 6 dX3_firstOnShortestWay_40 rfl (by decide) (by decide) rfl ?_
        refine wt_goto (pc := 43) (tgt := 13) dX3_firstOnShortestWay_43 (by decide) ?_
        refine wt_sub (ls' := [(0, rf G.1 l0), (1, rf G.1 l1), (2, .int l2), (3, .int l3), (4, .int l4), (5, .int l5), (6, .int (l6 + 1))]) [1, 2, 3, 4, 5, 6, 0] rfl ?_
        exact ih h
set_option maxHeartbeats 4000000 in
set_option maxRecDepth 100000 in
theorem t_X3_firstOnShortestWay_e {G : GG} {X : CX} {ans : Int32 × Mm} (he : EndI G X j_X3_firstOnShortestWay b_X3_firstOnShortestWay ans) {M : Mm} {l0 : Option Nat} {l1 : Option Nat} {l2 : Int32} {l3 : Int32} {l4 : Int32} (h : f_X3_firstOnShortestWay M l0 l1 l2 l3 l4 = some ans) : Wt G X j_X3_firstOnShortestWay b_X3_firstOnShortestWay 0 [(0, rf G.1 l0), (1, rf G.1 l1), (2, .int l2), (3, .int l3), (4, .int l4)] [] M 0 0 := by
  unfold f_X3_firstOnShortestWay at h
  refine wt_aload_n (pc := 0) 0 dX3_firstOnShortestWay_0 rfl ?_
  refine wt_aload_n (pc := 1) 1 dX3_firstOnShortestWay_1 rfl ?_
  refine wt_iload_n (pc := 2) 3 dX3_firstOnShortestWay_2 rfl ?_
  refine wt_iload (pc := 3) 4 dX3_firstOnShortestWay_3 rfl ?_
  refine wt_cVI (pc := 5) (J' := j_X3_shortestWay) (As := [rf G.1 l1, .int l3, .int l4]) (st := []) (B' := b_X3_shortestWay) (u' := 0) (w' := 0) dX3_firstOnShortestWay_5 ml_X3_55 mv_X3_shortestWay (fun v9 M9 e9 => c_X3_shortestWay e9) rfl (by decide) rfl rfl (by decide) (by decide) (by decide) rfl h (fun v5 M5 h => ?_)
  refine wt_istore (pc := 8) (i := 5) (ls' := [(5, .int v5), (0, rf G.1 l0), (1, rf G.1 l1), (2, .int l2), (3, .int l3), (4, .int l4)]) dX3_firstOnShortestWay_8 (by decide) rfl ?_
  refine wt_iconst (pc := 10) (v := 0) dX3_firstOnShortestWay_10 (by decide) ?_
  refine wt_istore (pc := 11) (i := 6) (ls' := [(6, .int 0), (5, .int v5), (0, rf G.1 l0), (1, rf G.1 l1), (2, .int l2), (3, .int l3), (4, .int l4)]) dX3_firstOnShortestWay_11 (by decide) rfl ?_
  refine wt_sub (ls' := [(0, rf G.1 l0), (1, rf G.1 l1), (2, .int l2), (3, .int l3), (4, .int l4), (5, .int v5), (6, .int 0)]) [2, 3, 4, 5, 6, 1, 0] rfl ?_
  exact t_X3_firstOnShortestWay_13 he  fu h
set_option maxHeartbeats 4000000 in
set_option maxRecDepth 100000 in
theorem c_X3_firstOnShortestWay {G : GG} {M : Mm} {l0 : Option Nat} {l1 : Option Nat} {l2 : Int32} {l3 : Int32} {l4 : Int32} {r : Int32 × Mm} (h : f_X3_firstOnShortestWay M l0 l1 l2 l3 l4 = some r) (l : Launch) : Ct l G j_X3_firstOnShortestWay b_X3_firstOnShortestWay [rf G.1 l0, rf G.1 l1, .int l2, .int l3, .int l4] M (some (.int r.1)) r.2 := cf_I (by decide +kernel) (by simp [lg_sl, rf_cat, cat_i, cat_l, j_X3_firstOnShortestWay]) rfl (by simp [lv_args, rf_cat, cat_i, cat_l]) (fun X he => t_X3_firstOnShortestWay_e he h)
def f_X3_findOrder_33 : Nat → Mm → Option Nat → Option Nat → Int32 → Int32 → Int32 → Int32 → Option (Mm)
  | 0, _, _, _, _, _, _, _ => none
  | n + 1, M, l0, l1, l4, l5, l6, l7 => if 8 ≤ l7 then (some M) else (if l6 = 0 then (some M) else (ck M l0 3 <| bd (f_X3_firstOnShortestWay M l0 l1 l4 l5 l6) fun v53 M53 => gfR M53 l0 3 0 fun v59 => asI M53 v59 21 l7 v53 fun M66 => gfI M66 l0 3 1 fun v69 => pfI M66 l0 3 1 (v69 + 1) fun M74 => gfR M74 l1 4 0 fun v78 => alR M74 v78 31 v53 fun v83 => gfI M74 v83 1 1 fun v84 => nmI (l6 &&& ((1 <<< (v53 &&& 31)) ^^^ (-1))) fun x98 => f_X3_findOrder_33 n M74 l0 l1 l4 v84 x98 (l7 + 1)))
def f_X3_findOrder (M : Mm) (l0 : Option Nat) (l1 : Option Nat) (l2 : Int32) (l3 : Int32) : Option (Mm) := gfR M l1 4 1 fun v1 => alR M v1 30 l2 fun v5 => gfI M v5 0 3 fun v6 => gfR M l1 4 1 fun v12 => alR M v12 30 l2 fun v16 => gfI M v16 0 4 fun v17 => pfI M l0 3 1 0 fun M27 => f_X3_findOrder_33  fu M27 l0 l1 v6 v17 l3 0
set_option maxHeartbeats 4000000 in
set_option maxRecDepth 100000 in
theorem t_X3_findOrder_33 {G : GG} {X : CX} {ans : Mm} (he : EndV G X j_X3_findOrder b_X3_findOrder ans) : ∀ (n : Nat) {M : Mm} {l0 : Option Nat} {l1 : Option Nat} {l4 : Int32} {l5 : Int32} {l6 : Int32} {l7 : Int32}, f_X3_findOrder_33 n M l0 l1 l4 l5 l6 l7 = some ans → Wt G X j_X3_findOrder b_X3_findOrder 33 [(0, rf G.1 l0), (1, rf G.1 l1), (4, .int l4), (5, .int l5), (6, .int l6), (7, .int l7)] [] M 0 0 := by
  intro n
  induction n with
  | zero =>
    intro M l0 l1 l4 l5 l6 l7 h
    rw [f_X3_findOrder_33] at h
    cases h
  | succ n ih =>
    intro M l0 l1 l4 l5 l6 l7 h
    rw [f_X3_findOrder_33] at h
    refine wt_iload (pc := 33) 5 dX3_findOrder_33 rfl ?_
    refine wt_bipush (pc := 35) (v := 8) dX3_findOrder_35 (by decide) ?_
    refine wt_icmp_ge (pc := 37) (tgt := 106) dX3_findOrder_37 (by decide) (fun q => ?_) (fun q => ?_)
    · have h := ite_t q h
      cases h
      exact he 106 _ _ _ dX3_findOrder_106 (by decide) (by decide)
    · have h := ite_f q h
      refine wt_iload (pc := 40) 4 dX3_findOrder_40 rfl ?_
      refine wt_if_eq (pc := 42) (tgt := 106) dX3_findOrder_42 (by decide) (fun q => ?_) (fun q => ?_)
      · have h := ite_t q h
        cases h
        exact he 106 _ _ _ dX3_findOrder_106 (by decide) (by decide)
      · have h := ite_f q h
        refine wt_aload_n (pc := 45) 0 dX3_findOrder_45 rfl ?_
        refine wt_aload_n (pc := 46) 1 dX3_findOrder_46 rfl ?_
        refine wt_iload (pc := 47) 2 dX3_findOrder_47 rfl ?_
        refine wt_iload (pc := 49) 3 dX3_findOrder_49 rfl ?_
        refine wt_iload (pc := 51) 4 dX3_findOrder_51 rfl ?_
        refine wt_cVI (pc := 53) (J' := j_X3_firstOnShortestWay) (As := [rf G.1 l1, .int l4, .int l5, .int l6]) (st := []) (B' := b_X3_firstOnShortestWay) (u' := 0) (w' := 0) dX3_findOrder_53 ml_X3_85 mv_X3_firstOnShortestWay (fun v9 M9 e9 => c_X3_firstOnShortestWay e9) rfl (by decide) rfl rfl (by decide) (by decide) (by decide) rfl h (fun v53 M53 h => ?_)
        refine wt_istore (pc := 56) (i := 8) (ls' := [(8, .int v53), (0, rf G.1 l0), (1, rf G.1 l1), (4, .int l4), (5, .int l5), (6, .int l6), (7, .int l7)]) dX3_findOrder_56 (by decide) rfl ?_
        refine wt_aload_n (pc := 58) 1 dX3_findOrder_58 rfl ?_
        refine wt_getR (pc := 59) dX3_findOrder_59 fl_X3_9 (fun _ _ _ => rfl) h (fun v59 h => ?_)
        refine wt_iload (pc := 62) 6 dX3_findOrder_62 rfl ?_
        refine wt_iload (pc := 64) 0 dX3_findOrder_64 rfl ?_
        refine wt_iastore (pc := 66) (kd := 21) dX3_findOrder_66 rfl rfl h (fun M66 h => ?_)
        refine wt_aload_n (pc := 67) 1 dX3_findOrder_67 rfl ?_
        refine wt_dup (pc := 68) dX3_findOrder_68 (rf_cat _ _) ?_
        refine wt_getI (pc := 69) dX3_findOrder_69 fl_X3_82 (fun _ _ _ => rfl) h (fun v69 h => ?_)
        refine wt_iconst (pc := 72) (v := 1) dX3_findOrder_72 (by decide) ?_
        refine wt_iadd (pc := 73) dX3_findOrder_73 ?_
        refine wt_putI (pc := 74) dX3_findOrder_74 fl_X3_82 rfl rfl h (fun M74 h => ?_)
        refine wt_aload_n (pc := 77) 2 dX3_findOrder_77 rfl ?_
        refine wt_getR (pc := 78) dX3_findOrder_78 fl_X3_27 (fun _ _ _ => rfl) h (fun v78 h => ?_)
        refine wt_iload (pc := 81) 0 dX3_findOrder_81 rfl ?_
        refine wt_aaload (pc := 83) (kd := 31) dX3_findOrder_83 rfl rfl (by decide) h (fun v83 h => ?_)
        refine wt_getI (pc := 84) dX3_findOrder_84 fl_X3_31 (fun _ _ _ => rfl) h (fun v84 h => ?_)
        refine wt_istore (pc := 87) (i := 5) (ls' := [(5, .int v84), (8, .int v53), (0, rf G.1 l0), (1, rf G.1 l1), (4, .int l4), (6, .int l6), (7, .int l7)]) dX3_findOrder_87 (by decide) rfl ?_
        refine wt_iload (pc := 89) 5 dX3_findOrder_89 rfl ?_
        refine wt_iconst (pc := 91) (v := 1) dX3_findOrder_91 (by decide) ?_
        refine wt_iload (pc := 92) 1 dX3_findOrder_92 rfl ?_
        refine wt_ishl (pc := 94) dX3_findOrder_94 ?_
        refine wt_iconst (pc := 95) (v := (-1)) dX3_findOrder_95 (by decide) ?_
        refine wt_ixor (pc := 96) dX3_findOrder_96 ?_
        refine wt_iand (pc := 97) dX3_findOrder_97 ?_
        refine wt_nmI h (fun x98 h => ?_)
        refine wt_istore (pc := 98) (i := 6) (ls' := [(6, .int x98), (5, .int v84), (8, .int v53), (0, rf G.1 l0), (1, rf G.1 l1), (4, .int l4), (7, .int l7)]) dX3_findOrder_98 (by decide) rfl ?_
        refine wt_iinc (pc := 100) (d := 1) (ls' := [(7, .int (l7 + 1)), (6, .int x98), (5, .int v84), (8, .int v53), (0, rf G.1 l0), (1, rf G.1 l1), (4, .int l4)]) 6 dX3_findOrder_100 rfl (by decide) (by decide) rfl ?_
        refine wt_goto (pc := 103) (tgt := 33) dX3_findOrder_103 (by decide) ?_
        refine wt_sub (ls' := [(0, rf G.1 l0), (1, rf G.1 l1), (4, .int l4), (5, .int v84), (6, .int x98), (7, .int (l7 + 1))]) [4, 5, 6, 2, 1, 0] rfl ?_
        exact ih h
set_option maxHeartbeats 4000000 in
set_option maxRecDepth 100000 in
theorem t_X3_findOrder_e {G : GG} {X : CX} {ans : Mm} (he : EndV G X j_X3_findOrder b_X3_findOrder ans) {M : Mm} {l0 : Option Nat} {l1 : Option Nat} {l2 : Int32} {l3 : Int32} (h : f_X3_findOrder M l0 l1 l2 l3 = some ans) : Wt G X j_X3_findOrder b_X3_findOrder 0 [(0, rf G.1 l0), (1, rf G.1 l1), (2, .int l2), (3, .int l3)] [] M 0 0 := by
  unfold f_X3_findOrder at h
  refine wt_aload_n (pc := 0) 1 dX3_findOrder_0 rfl ?_
  refine wt_getR (pc := 1) dX3_findOrder_1 fl_X3_45 (fun _ _ _ => rfl) h (fun v1 h => ?_)
  refine wt_iload_n (pc := 4) 2 dX3_findOrder_4 rfl ?_
  refine wt_aaload (pc := 5) (kd := 30) dX3_findOrder_5 rfl rfl (by decide) h (fun v5 h => ?_)
  refine wt_getI (pc := 6) dX3_findOrder_6 fl_X3_49 (fun _ _ _ => rfl) h (fun v6 h => ?_)
  refine wt_istore (pc := 9) (i := 4) (ls' := [(4, .int v6), (0, rf G.1 l0), (1, rf G.1 l1), (2, .int l2), (3, .int l3)]) dX3_findOrder_9 (by decide) rfl ?_
  refine wt_aload_n (pc := 11) 2 dX3_findOrder_11 rfl ?_
  refine wt_getR (pc := 12) dX3_findOrder_12 fl_X3_45 (fun _ _ _ => rfl) h (fun v12 h => ?_)
  refine wt_iload_n (pc := 15) 3 dX3_findOrder_15 rfl ?_
  refine wt_aaload (pc := 16) (kd := 30) dX3_findOrder_16 rfl rfl (by decide) h (fun v16 h => ?_)
  refine wt_getI (pc := 17) dX3_findOrder_17 fl_X3_54 (fun _ _ _ => rfl) h (fun v17 h => ?_)
  refine wt_istore (pc := 20) (i := 5) (ls' := [(5, .int v17), (4, .int v6), (0, rf G.1 l0), (1, rf G.1 l1), (2, .int l2), (3, .int l3)]) dX3_findOrder_20 (by decide) rfl ?_
  refine wt_iload_n (pc := 22) 5 dX3_findOrder_22 rfl ?_
  refine wt_istore (pc := 23) (i := 6) (ls' := [(6, .int l3), (5, .int v17), (4, .int v6), (0, rf G.1 l0), (1, rf G.1 l1), (2, .int l2), (3, .int l3)]) dX3_findOrder_23 (by decide) rfl ?_
  refine wt_aload_n (pc := 25) 3 dX3_findOrder_25 rfl ?_
  refine wt_iconst (pc := 26) (v := 0) dX3_findOrder_26 (by decide) ?_
  refine wt_putI (pc := 27) dX3_findOrder_27 fl_X3_82 rfl rfl h (fun M27 h => ?_)
  refine wt_iconst (pc := 30) (v := 0) dX3_findOrder_30 (by decide) ?_
  refine wt_istore (pc := 31) (i := 7) (ls' := [(7, .int 0), (6, .int l3), (5, .int v17), (4, .int v6), (0, rf G.1 l0), (1, rf G.1 l1), (2, .int l2), (3, .int l3)]) dX3_findOrder_31 (by decide) rfl ?_
  refine wt_sub (ls' := [(0, rf G.1 l0), (1, rf G.1 l1), (4, .int v6), (5, .int v17), (6, .int l3), (7, .int 0)]) [4, 5, 3, 2, 1, 0] rfl ?_
  exact t_X3_findOrder_33 he  fu h
set_option maxHeartbeats 4000000 in
set_option maxRecDepth 100000 in
theorem c_X3_findOrder {G : GG} {M : Mm} {l0 : Option Nat} {l1 : Option Nat} {l2 : Int32} {l3 : Int32} {r : Mm} (h : f_X3_findOrder M l0 l1 l2 l3 = some r) (l : Launch) : Ct l G j_X3_findOrder b_X3_findOrder [rf G.1 l0, rf G.1 l1, .int l2, .int l3] M none r := cf_V (by decide +kernel) (by simp [lg_sl, rf_cat, cat_i, cat_l, j_X3_findOrder]) rfl (by simp [lv_args, rf_cat, cat_i, cat_l]) (fun X he => t_X3_findOrder_e he h)
def f_X3_addGang_76 (k2 : Mm → Option Nat → Int32 → Int32 → Option (Mm)) (M : Mm) (l0 : Option Nat) (l1 : Int32) (l2 : Int32) : Option (Mm) := k2 M l0 l1 (l2 + (-1))
def f_X3_addGang_27 (k2 : Mm → Option Nat → Int32 → Int32 → Option (Mm)) : Nat → Mm → Option Nat → Int32 → Int32 → Int32 → Int32 → Option (Mm)
  | 0, _, _, _, _, _, _ => none
  | n + 1, M, l0, l1, l2, l3, l4 => if l4 ≤ 0 then (gfR M l0 3 3 fun v70 => asI M v70 21 l2 l3 fun M75 => f_X3_addGang_76 k2 M75 l0 l1 l2) else (gfR M l0 3 2 fun v34 => alI M v34 21 l4 fun v39 => gfR M l0 3 3 fun v41 => alI M v41 21 (l2 &&& (l4 ^^^ (-1))) fun v50 => nmI (mnI l3 (mxI v39 v50)) fun x57 => nmI ((l4 - 1) &&& l2) fun x64 => f_X3_addGang_27 k2 n M l0 l1 l2 x57 x64)
def f_X3_addGang_2 : Nat → Mm → Option Nat → Int32 → Int32 → Option (Mm)
  | 0, _, _, _, _ => none
  | n + 1, M, l0, l1, l2 => if l2 ≤ 0 then (some M) else (if (l2 &&& (l1 ^^^ (-1))) = 0 then (gfR M l0 3 3 fun v18 => alI M v18 21 l2 fun v22 => f_X3_addGang_27 (f_X3_addGang_2 n) fu M l0 l1 l2 v22 l2) else (f_X3_addGang_76 (f_X3_addGang_2 n) M l0 l1 l2))
def f_X3_addGang (M : Mm) (l0 : Option Nat) (l1 : Int32) : Option (Mm) := f_X3_addGang_2  fu M l0 l1 l1
set_option maxHeartbeats 4000000 in
set_option maxRecDepth 100000 in
theorem t_X3_addGang_76 {G : GG} {X : CX} {ans : Mm} (he : EndV G X j_X3_addGang b_X3_addGang ans) {k2 : Mm → Option Nat → Int32 → Int32 → Option (Mm)} (hk2 : ∀ (M : Mm) (a0 : Option Nat) (a1 : Int32) (a2 : Int32), k2 M a0 a1 a2 = some ans → Wt G X j_X3_addGang b_X3_addGang 2 [(0, rf G.1 a0), (1, .int a1), (2, .int a2)] [] M 0 0) {M : Mm} {l0 : Option Nat} {l1 : Int32} {l2 : Int32} (h : f_X3_addGang_76 k2 M l0 l1 l2 = some ans) : Wt G X j_X3_addGang b_X3_addGang 76 [(0, rf G.1 l0), (1, .int l1), (2, .int l2)] [] M 0 0 := by
  unfold f_X3_addGang_76 at h
  refine wt_iinc (pc := 76) (d := (-1)) (ls' := [(2, .int (l2 + (-1))), (0, rf G.1 l0), (1, .int l1)]) 2 dX3_addGang_76 rfl (by decide) (by decide) rfl ?_
  refine wt_goto (pc := 79) (tgt := 2) dX3_addGang_79 (by decide) ?_
  refine wt_sub (ls' := [(0, rf G.1 l0), (1, .int l1), (2, .int (l2 + (-1)))]) [1, 2, 0] rfl ?_
  exact hk2 _ _ _ _ h
set_option maxHeartbeats 4000000 in
set_option maxRecDepth 100000 in
theorem t_X3_addGang_27 {G : GG} {X : CX} {ans : Mm} (he : EndV G X j_X3_addGang b_X3_addGang ans) {k2 : Mm → Option Nat → Int32 → Int32 → Option (Mm)} (hk2 : ∀ (M : Mm) (a0 : Option Nat) (a1 : Int32) (a2 : Int32), k2 M a0 a1 a2 = some ans → Wt G X j_X3_addGang b_X3_addGang 2 [(0, rf G.1 a0), (1, .int a1), (2, .int a2)] [] M 0 0) : ∀ (n : Nat) {M : Mm} {l0 : Option Nat} {l1 : Int32} {l2 : Int32} {l3 : Int32} {l4 : Int32}, f_X3_addGang_27 k2 n M l0 l1 l2 l3 l4 = some ans → Wt G X j_X3_addGang b_X3_addGang 27 [(0, rf G.1 l0), (1, .int l1), (2, .int l2), (3, .int l3), (4, .int l4)] [] M 0 0 := by
  intro n
  induction n with
  | zero =>
    intro M l0 l1 l2 l3 l4 h
    rw [f_X3_addGang_27] at h
    cases h
  | succ n ih =>
    intro M l0 l1 l2 l3 l4 h
    rw [f_X3_addGang_27] at h
    refine wt_iload (pc := 27) 4 dX3_addGang_27 rfl ?_
    refine wt_if_le (pc := 29) (tgt := 69) dX3_addGang_29 (by decide) (fun q => ?_) (fun q => ?_)
    · have h := ite_t q h
      refine wt_aload_n (pc := 69) 0 dX3_addGang_69 rfl ?_
      refine wt_getR (pc := 70) dX3_addGang_70 fl_X3_18 (fun _ _ _ => rfl) h (fun v70 h => ?_)
      refine wt_iload_n (pc := 73) 2 dX3_addGang_73 rfl ?_
      refine wt_iload_n (pc := 74) 3 dX3_addGang_74 rfl ?_
      refine wt_iastore (pc := 75) (kd := 21) dX3_addGang_75 rfl rfl h (fun M75 h => ?_)
      refine wt_sub (ls' := [(0, rf G.1 l0), (1, .int l1), (2, .int l2)]) [0, 1, 2] rfl ?_
      exact t_X3_addGang_76 he (fun _ _ _ _ h => hk2 _ _ _ _ h) h
    · have h := ite_f q h
      refine wt_iload_n (pc := 32) 3 dX3_addGang_32 rfl ?_
      refine wt_aload_n (pc := 33) 0 dX3_addGang_33 rfl ?_
      refine wt_getR (pc := 34) dX3_addGang_34 fl_X3_15 (fun _ _ _ => rfl) h (fun v34 h => ?_)
      refine wt_iload (pc := 37) 4 dX3_addGang_37 rfl ?_
      refine wt_iaload (pc := 39) (kd := 21) dX3_addGang_39 rfl rfl h (fun v39 h => ?_)
      refine wt_aload_n (pc := 40) 0 dX3_addGang_40 rfl ?_
      refine wt_getR (pc := 41) dX3_addGang_41 fl_X3_18 (fun _ _ _ => rfl) h (fun v41 h => ?_)
      refine wt_iload_n (pc := 44) 2 dX3_addGang_44 rfl ?_
      refine wt_iload (pc := 45) 4 dX3_addGang_45 rfl ?_
      refine wt_iconst (pc := 47) (v := (-1)) dX3_addGang_47 (by decide) ?_
      refine wt_ixor (pc := 48) dX3_addGang_48 ?_
      refine wt_iand (pc := 49) dX3_addGang_49 ?_
      refine wt_iaload (pc := 50) (kd := 21) dX3_addGang_50 rfl rfl h (fun v50 h => ?_)
      refine wt_mmax (pc := 51) dX3_addGang_51 bi_X3_42 mw_max.1 mw_max.2.1 mw_max.2.2 (by decide) (by decide) (by decide) (by simp [rf_cat, cat_i, cat_l, cat_r]) ?_
      refine wt_mmin (pc := 54) dX3_addGang_54 bi_X3_36 mw_min.1 mw_min.2.1 mw_min.2.2 (by decide) (by decide) (by decide) (by decide) ?_
      refine wt_nmI h (fun x57 h => ?_)
      refine wt_istore_n (pc := 57) (i := 3) (ls' := [(3, .int x57), (0, rf G.1 l0), (1, .int l1), (2, .int l2), (4, .int l4)]) rfl dX3_addGang_57 (by decide) rfl ?_
      refine wt_iload (pc := 58) 4 dX3_addGang_58 rfl ?_
      refine wt_iconst (pc := 60) (v := 1) dX3_addGang_60 (by decide) ?_
      refine wt_isub (pc := 61) dX3_addGang_61 ?_
      refine wt_iload_n (pc := 62) 3 dX3_addGang_62 rfl ?_
      refine wt_iand (pc := 63) dX3_addGang_63 ?_
      refine wt_nmI h (fun x64 h => ?_)
      refine wt_istore (pc := 64) (i := 4) (ls' := [(4, .int x64), (3, .int x57), (0, rf G.1 l0), (1, .int l1), (2, .int l2)]) dX3_addGang_64 (by decide) rfl ?_
      refine wt_goto (pc := 66) (tgt := 27) dX3_addGang_66 (by decide) ?_
      refine wt_sub (ls' := [(0, rf G.1 l0), (1, .int l1), (2, .int l2), (3, .int x57), (4, .int x64)]) [2, 3, 4, 1, 0] rfl ?_
      exact ih h
set_option maxHeartbeats 4000000 in
set_option maxRecDepth 100000 in
theorem t_X3_addGang_2 {G : GG} {X : CX} {ans : Mm} (he : EndV G X j_X3_addGang b_X3_addGang ans) : ∀ (n : Nat) {M : Mm} {l0 : Option Nat} {l1 : Int32} {l2 : Int32}, f_X3_addGang_2 n M l0 l1 l2 = some ans → Wt G X j_X3_addGang b_X3_addGang 2 [(0, rf G.1 l0), (1, .int l1), (2, .int l2)] [] M 0 0 := by
  intro n
  induction n with
  | zero =>
    intro M l0 l1 l2 h
    rw [f_X3_addGang_2] at h
    cases h
  | succ n ih =>
    intro M l0 l1 l2 h
    rw [f_X3_addGang_2] at h
    refine wt_iload_n (pc := 2) 2 dX3_addGang_2 rfl ?_
    refine wt_if_le (pc := 3) (tgt := 82) dX3_addGang_3 (by decide) (fun q => ?_) (fun q => ?_)
    · have h := ite_t q h
      cases h
      exact he 82 _ _ _ dX3_addGang_82 (by decide) (by decide)
    · have h := ite_f q h
      refine wt_iload_n (pc := 6) 2 dX3_addGang_6 rfl ?_
      refine wt_iload_n (pc := 7) 1 dX3_addGang_7 rfl ?_
      refine wt_iconst (pc := 8) (v := (-1)) dX3_addGang_8 (by decide) ?_
      refine wt_ixor (pc := 9) dX3_addGang_9 ?_
      refine wt_iand (pc := 10) dX3_addGang_10 ?_
      refine wt_if_eq (pc := 11) (tgt := 17) dX3_addGang_11 (by decide) (fun q => ?_) (fun q => ?_)
      · have h := ite_t q h
        refine wt_aload_n (pc := 17) 0 dX3_addGang_17 rfl ?_
        refine wt_getR (pc := 18) dX3_addGang_18 fl_X3_18 (fun _ _ _ => rfl) h (fun v18 h => ?_)
        refine wt_iload_n (pc := 21) 2 dX3_addGang_21 rfl ?_
        refine wt_iaload (pc := 22) (kd := 21) dX3_addGang_22 rfl rfl h (fun v22 h => ?_)
        refine wt_istore_n (pc := 23) (i := 3) (ls' := [(3, .int v22), (0, rf G.1 l0), (1, .int l1), (2, .int l2)]) rfl dX3_addGang_23 (by decide) rfl ?_
        refine wt_iload_n (pc := 24) 3 dX3_addGang_24 rfl ?_
        refine wt_istore (pc := 25) (i := 4) (ls' := [(4, .int l2), (3, .int v22), (0, rf G.1 l0), (1, .int l1), (2, .int l2)]) dX3_addGang_25 (by decide) rfl ?_
        refine wt_sub (ls' := [(0, rf G.1 l0), (1, .int l1), (2, .int l2), (3, .int v22), (4, .int l2)]) [2, 3, 4, 1, 0] rfl ?_
        exact t_X3_addGang_27 he (fun _ _ _ _ h => ih h) fu h
      · have h := ite_f q h
        refine wt_goto (pc := 14) (tgt := 76) dX3_addGang_14 (by decide) ?_
        exact t_X3_addGang_76 he (fun _ _ _ _ h => ih h) h
set_option maxHeartbeats 4000000 in
set_option maxRecDepth 100000 in
theorem t_X3_addGang_e {G : GG} {X : CX} {ans : Mm} (he : EndV G X j_X3_addGang b_X3_addGang ans) {M : Mm} {l0 : Option Nat} {l1 : Int32} (h : f_X3_addGang M l0 l1 = some ans) : Wt G X j_X3_addGang b_X3_addGang 0 [(0, rf G.1 l0), (1, .int l1)] [] M 0 0 := by
  unfold f_X3_addGang at h
  refine wt_iload_n (pc := 0) 1 dX3_addGang_0 rfl ?_
  refine wt_istore_n (pc := 1) (i := 2) (ls' := [(2, .int l1), (0, rf G.1 l0), (1, .int l1)]) rfl dX3_addGang_1 (by decide) rfl ?_
  refine wt_sub (ls' := [(0, rf G.1 l0), (1, .int l1), (2, .int l1)]) [1, 2, 0] rfl ?_
  exact t_X3_addGang_2 he  fu h
set_option maxHeartbeats 4000000 in
set_option maxRecDepth 100000 in
theorem c_X3_addGang {G : GG} {M : Mm} {l0 : Option Nat} {l1 : Int32} {r : Mm} (h : f_X3_addGang M l0 l1 = some r) (l : Launch) : Ct l G j_X3_addGang b_X3_addGang [rf G.1 l0, .int l1] M none r := cf_V (by decide +kernel) (by simp [lg_sl, rf_cat, cat_i, cat_l, j_X3_addGang]) rfl (by simp [lv_args, rf_cat, cat_i, cat_l]) (fun X he => t_X3_addGang_e he h)
def f_X3_shareOut_80 (k35 : Mm → Option Nat → Option Nat → Int32 → Int32 → Option (Mm)) (k46 : Mm → Option Nat → Option Nat → Int32 → Int32 → Int32 → Option (Mm)) (M : Mm) (l0 : Option Nat) (l1 : Option Nat) (l2 : Int32) (l3 : Int32) (l4 : Int32) (s0 : Option Nat) (s1 : Int32) (s2 : Int32) : Option (Mm) := asI M s0 21 s1 s2 fun M80 => k46 M80 l0 l1 l2 l3 (l4 + 1)
def f_X3_shareOut_46 (k35 : Mm → Option Nat → Option Nat → Int32 → Int32 → Option (Mm)) : Nat → Mm → Option Nat → Option Nat → Int32 → Int32 → Int32 → Option (Mm)
  | 0, _, _, _, _, _, _ => none
  | n + 1, M, l0, l1, l2, l3, l4 => if l2 < l4 then (ck M l0 3 <| bv (f_X3_addGang M l0 l2) fun M89 => k35 M89 l0 l1 l2 (l3 + 1)) else (gfR M l0 3 2 fun v53 => if (l4 &&& (l2 ^^^ (-1))) = 0 then (ck M l0 3 <| bd (f_X3_minutesFor M l0 l1 l3 l4) fun v72 M72 => f_X3_shareOut_80 k35 (f_X3_shareOut_46 k35 n) M72 l0 l1 l2 l3 l4 v53 l4 v72) else (f_X3_shareOut_80 k35 (f_X3_shareOut_46 k35 n) M l0 l1 l2 l3 l4 v53 l4 1000000))
def f_X3_shareOut_35 : Nat → Mm → Option Nat → Option Nat → Int32 → Int32 → Option (Mm)
  | 0, _, _, _, _, _ => none
  | n + 1, M, l0, l1, l2, l3 => gfI M l1 4 4 fun v37 => if v37 ≤ l3 then (some M) else (f_X3_shareOut_46 (f_X3_shareOut_35 n) fu M l0 l1 l2 l3 0)
def f_X3_shareOut_7 : Nat → Mm → Option Nat → Option Nat → Int32 → Int32 → Option (Mm)
  | 0, _, _, _, _, _ => none
  | n + 1, M, l0, l1, l2, l3 => if l2 < l3 then (gfR M l0 3 3 fun v27 => asI M v27 21 0 0 fun M32 => f_X3_shareOut_35  fu M32 l0 l1 l2 0) else (gfR M l0 3 3 fun v13 => asI M v13 21 l3 1000000 fun M19 => f_X3_shareOut_7 n M19 l0 l1 l2 (l3 + 1))
def f_X3_shareOut (M : Mm) (l0 : Option Nat) (l1 : Option Nat) : Option (Mm) := ck M l1 4 <| bd (f_X4_openSet M l1) fun v1 M1 => f_X3_shareOut_7  fu M1 l0 l1 v1 1
set_option maxHeartbeats 4000000 in
set_option maxRecDepth 100000 in
theorem t_X3_shareOut_80 {G : GG} {X : CX} {ans : Mm} (he : EndV G X j_X3_shareOut b_X3_shareOut ans) {k35 : Mm → Option Nat → Option Nat → Int32 → Int32 → Option (Mm)} {k46 : Mm → Option Nat → Option Nat → Int32 → Int32 → Int32 → Option (Mm)} (hk35 : ∀ (M : Mm) (a0 : Option Nat) (a1 : Option Nat) (a2 : Int32) (a3 : Int32), k35 M a0 a1 a2 a3 = some ans → Wt G X j_X3_shareOut b_X3_shareOut 35 [(0, rf G.1 a0), (1, rf G.1 a1), (2, .int a2), (3, .int a3)] [] M 0 0) (hk46 : ∀ (M : Mm) (a0 : Option Nat) (a1 : Option Nat) (a2 : Int32) (a3 : Int32) (a4 : Int32), k46 M a0 a1 a2 a3 a4 = some ans → Wt G X j_X3_shareOut b_X3_shareOut 46 [(0, rf G.1 a0), (1, rf G.1 a1), (2, .int a2), (3, .int a3), (4, .int a4)] [] M 0 0) {M : Mm} {l0 : Option Nat} {l1 : Option Nat} {l2 : Int32} {l3 : Int32} {l4 : Int32} {s0 : Option Nat} {s1 : Int32} {s2 : Int32} (h : f_X3_shareOut_80 k35 k46 M l0 l1 l2 l3 l4 s0 s1 s2 = some ans) : Wt G X j_X3_shareOut b_X3_shareOut 80 [(0, rf G.1 l0), (1, rf G.1 l1), (2, .int l2), (3, .int l3), (4, .int l4)] [.int s2, .int s1, rf G.1 s0] M 0 0 := by
  unfold f_X3_shareOut_80 at h
  refine wt_iastore (pc := 80) (kd := 21) dX3_shareOut_80 rfl rfl h (fun M80 h => ?_)
  refine wt_iinc (pc := 81) (d := 1) (ls' := [(4, .int (l4 + 1)), (0, rf G.1 l0), (1, rf G.1 l1), (2, .int l2), (3, .int l3)]) 4 dX3_shareOut_81 rfl (by decide) (by decide) rfl ?_
  refine wt_goto (pc := 84) (tgt := 46) dX3_shareOut_84 (by decide) ?_
  refine wt_sub (ls' := [(0, rf G.1 l0), (1, rf G.1 l1), (2, .int l2), (3, .int l3), (4, .int (l4 + 1))]) [1, 2, 3, 4, 0] rfl ?_
  exact hk46 _ _ _ _ _ _ h
set_option maxHeartbeats 4000000 in
set_option maxRecDepth 100000 in
theorem t_X3_shareOut_46 {G : GG} {X : CX} {ans : Mm} (he : EndV G X j_X3_shareOut b_X3_shareOut ans) {k35 : Mm → Option Nat → Option Nat → Int32 → Int32 → Option (Mm)} (hk35 : ∀ (M : Mm) (a0 : Option Nat) (a1 : Option Nat) (a2 : Int32) (a3 : Int32), k35 M a0 a1 a2 a3 = some ans → Wt G X j_X3_shareOut b_X3_shareOut 35 [(0, rf G.1 a0), (1, rf G.1 a1), (2, .int a2), (3, .int a3)] [] M 0 0) : ∀ (n : Nat) {M : Mm} {l0 : Option Nat} {l1 : Option Nat} {l2 : Int32} {l3 : Int32} {l4 : Int32}, f_X3_shareOut_46 k35 n M l0 l1 l2 l3 l4 = some ans → Wt G X j_X3_shareOut b_X3_shareOut 46 [(0, rf G.1 l0), (1, rf G.1 l1), (2, .int l2), (3, .int l3), (4, .int l4)] [] M 0 0 := by
  intro n
  induction n with
  | zero =>
    intro M l0 l1 l2 l3 l4 h
    rw [f_X3_shareOut_46] at h
    cases h
  | succ n ih =>
    intro M l0 l1 l2 l3 l4 h
    rw [f_X3_shareOut_46] at h
    refine wt_iload (pc := 46) 4 dX3_shareOut_46 rfl ?_
    refine wt_iload_n (pc := 48) 2 dX3_shareOut_48 rfl ?_
    refine wt_icmp_gt (pc := 49) (tgt := 87) dX3_shareOut_49 (by decide) (fun q => ?_) (fun q => ?_)
    · have h := ite_t q h
      refine wt_aload_n (pc := 87) 0 dX3_shareOut_87 rfl ?_
      refine wt_iload_n (pc := 88) 2 dX3_shareOut_88 rfl ?_
      refine wt_cVV (pc := 89) (J' := j_X3_addGang) (As := [.int l2]) (st := []) (B' := b_X3_addGang) (u' := 0) (w' := 0) dX3_shareOut_89 ml_X3_100 mv_X3_addGang (fun M9 e9 => c_X3_addGang e9) rfl (by decide) rfl rfl (by decide) (by decide) (by decide) rfl h (fun M89 h => ?_)
      refine wt_iinc (pc := 92) (d := 1) (ls' := [(3, .int (l3 + 1)), (0, rf G.1 l0), (1, rf G.1 l1), (2, .int l2), (4, .int l4)]) 3 dX3_shareOut_92 rfl (by decide) (by decide) rfl ?_
      refine wt_goto (pc := 95) (tgt := 35) dX3_shareOut_95 (by decide) ?_
      refine wt_sub (ls' := [(0, rf G.1 l0), (1, rf G.1 l1), (2, .int l2), (3, .int (l3 + 1))]) [1, 2, 3, 0] rfl ?_
      exact hk35 _ _ _ _ _ h
    · have h := ite_f q h
      refine wt_aload_n (pc := 52) 0 dX3_shareOut_52 rfl ?_
      refine wt_getR (pc := 53) dX3_shareOut_53 fl_X3_15 (fun _ _ _ => rfl) h (fun v53 h => ?_)
      refine wt_iload (pc := 56) 4 dX3_shareOut_56 rfl ?_
      refine wt_iload (pc := 58) 4 dX3_shareOut_58 rfl ?_
      refine wt_iload_n (pc := 60) 2 dX3_shareOut_60 rfl ?_
      refine wt_iconst (pc := 61) (v := (-1)) dX3_shareOut_61 (by decide) ?_
      refine wt_ixor (pc := 62) dX3_shareOut_62 ?_
      refine wt_iand (pc := 63) dX3_shareOut_63 ?_
      refine wt_if_ne (pc := 64) (tgt := 78) dX3_shareOut_64 (by decide) (fun q => ?_) (fun q => ?_)
      · have h := ite_f q h
        refine wt_ldc (pc := 78) dX3_shareOut_78 kc_X3_96 ?_
        exact t_X3_shareOut_80 he (fun _ _ _ _ _ h => hk35 _ _ _ _ _ h) (fun _ _ _ _ _ _ h => ih h) h
      · have h := ite_t q h
        refine wt_aload_n (pc := 67) 0 dX3_shareOut_67 rfl ?_
        refine wt_aload_n (pc := 68) 1 dX3_shareOut_68 rfl ?_
        refine wt_iload_n (pc := 69) 3 dX3_shareOut_69 rfl ?_
        refine wt_iload (pc := 70) 4 dX3_shareOut_70 rfl ?_
        refine wt_cVI (pc := 72) (J' := j_X3_minutesFor) (As := [rf G.1 l1, .int l3, .int l4]) (st := [.int l4, rf G.1 v53]) (B' := b_X3_minutesFor) (u' := 0) (w' := 0) dX3_shareOut_72 ml_X3_79 mv_X3_minutesFor (fun v9 M9 e9 => c_X3_minutesFor e9) rfl (by decide) rfl rfl (by decide) (by decide) (by simp [rf_cat, cat_i, cat_l, cat_r]) rfl h (fun v72 M72 h => ?_)
        refine wt_goto (pc := 75) (tgt := 80) dX3_shareOut_75 (by decide) ?_
        exact t_X3_shareOut_80 he (fun _ _ _ _ _ h => hk35 _ _ _ _ _ h) (fun _ _ _ _ _ _ h => ih h) h
set_option maxHeartbeats 4000000 in
set_option maxRecDepth 100000 in
theorem t_X3_shareOut_35 {G : GG} {X : CX} {ans : Mm} (he : EndV G X j_X3_shareOut b_X3_shareOut ans) : ∀ (n : Nat) {M : Mm} {l0 : Option Nat} {l1 : Option Nat} {l2 : Int32} {l3 : Int32}, f_X3_shareOut_35 n M l0 l1 l2 l3 = some ans → Wt G X j_X3_shareOut b_X3_shareOut 35 [(0, rf G.1 l0), (1, rf G.1 l1), (2, .int l2), (3, .int l3)] [] M 0 0 := by
  intro n
  induction n with
  | zero =>
    intro M l0 l1 l2 l3 h
    rw [f_X3_shareOut_35] at h
    cases h
  | succ n ih =>
    intro M l0 l1 l2 l3 h
    rw [f_X3_shareOut_35] at h
    refine wt_iload_n (pc := 35) 3 dX3_shareOut_35 rfl ?_
    refine wt_aload_n (pc := 36) 1 dX3_shareOut_36 rfl ?_
    refine wt_getI (pc := 37) dX3_shareOut_37 fl_X3_97 (fun _ _ _ => rfl) h (fun v37 h => ?_)
    refine wt_icmp_ge (pc := 40) (tgt := 98) dX3_shareOut_40 (by decide) (fun q => ?_) (fun q => ?_)
    · have h := ite_t q h
      cases h
      exact he 98 _ _ _ dX3_shareOut_98 (by decide) (by decide)
    · have h := ite_f q h
      refine wt_iconst (pc := 43) (v := 0) dX3_shareOut_43 (by decide) ?_
      refine wt_istore (pc := 44) (i := 4) (ls' := [(4, .int 0), (0, rf G.1 l0), (1, rf G.1 l1), (2, .int l2), (3, .int l3)]) dX3_shareOut_44 (by decide) rfl ?_
      refine wt_sub (ls' := [(0, rf G.1 l0), (1, rf G.1 l1), (2, .int l2), (3, .int l3), (4, .int 0)]) [1, 2, 3, 4, 0] rfl ?_
      exact t_X3_shareOut_46 he (fun _ _ _ _ _ h => ih h) fu h
set_option maxHeartbeats 4000000 in
set_option maxRecDepth 100000 in
theorem t_X3_shareOut_7 {G : GG} {X : CX} {ans : Mm} (he : EndV G X j_X3_shareOut b_X3_shareOut ans) : ∀ (n : Nat) {M : Mm} {l0 : Option Nat} {l1 : Option Nat} {l2 : Int32} {l3 : Int32}, f_X3_shareOut_7 n M l0 l1 l2 l3 = some ans → Wt G X j_X3_shareOut b_X3_shareOut 7 [(0, rf G.1 l0), (1, rf G.1 l1), (2, .int l2), (3, .int l3)] [] M 0 0 := by
  intro n
  induction n with
  | zero =>
    intro M l0 l1 l2 l3 h
    rw [f_X3_shareOut_7] at h
    cases h
  | succ n ih =>
    intro M l0 l1 l2 l3 h
    rw [f_X3_shareOut_7] at h
    refine wt_iload_n (pc := 7) 3 dX3_shareOut_7 rfl ?_
    refine wt_iload_n (pc := 8) 2 dX3_shareOut_8 rfl ?_
    refine wt_icmp_gt (pc := 9) (tgt := 26) dX3_shareOut_9 (by decide) (fun q => ?_) (fun q => ?_)
    · have h := ite_t q h
      refine wt_aload_n (pc := 26) 0 dX3_shareOut_26 rfl ?_
      refine wt_getR (pc := 27) dX3_shareOut_27 fl_X3_18 (fun _ _ _ => rfl) h (fun v27 h => ?_)
      refine wt_iconst (pc := 30) (v := 0) dX3_shareOut_30 (by decide) ?_
      refine wt_iconst (pc := 31) (v := 0) dX3_shareOut_31 (by decide) ?_
      refine wt_iastore (pc := 32) (kd := 21) dX3_shareOut_32 rfl rfl h (fun M32 h => ?_)
      refine wt_iconst (pc := 33) (v := 0) dX3_shareOut_33 (by decide) ?_
      refine wt_istore_n (pc := 34) (i := 3) (ls' := [(3, .int 0), (0, rf G.1 l0), (1, rf G.1 l1), (2, .int l2)]) rfl dX3_shareOut_34 (by decide) rfl ?_
      refine wt_sub (ls' := [(0, rf G.1 l0), (1, rf G.1 l1), (2, .int l2), (3, .int 0)]) [1, 2, 3, 0] rfl ?_
      exact t_X3_shareOut_35 he  fu h
    · have h := ite_f q h
      refine wt_aload_n (pc := 12) 0 dX3_shareOut_12 rfl ?_
      refine wt_getR (pc := 13) dX3_shareOut_13 fl_X3_18 (fun _ _ _ => rfl) h (fun v13 h => ?_)
      refine wt_iload_n (pc := 16) 3 dX3_shareOut_16 rfl ?_
      refine wt_ldc (pc := 17) dX3_shareOut_17 kc_X3_96 ?_
      refine wt_iastore (pc := 19) (kd := 21) dX3_shareOut_19 rfl rfl h (fun M19 h => ?_)
      refine wt_iinc (pc := 20) (d := 1) (ls' := [(3, .int (l3 + 1)), (0, rf G.1 l0), (1, rf G.1 l1), (2, .int l2)]) 3 dX3_shareOut_20 rfl (by decide) (by decide) rfl ?_
      refine wt_goto (pc := 23) (tgt := 7) dX3_shareOut_23 (by decide) ?_
      refine wt_sub (ls' := [(0, rf G.1 l0), (1, rf G.1 l1), (2, .int l2), (3, .int (l3 + 1))]) [1, 2, 3, 0] rfl ?_
      exact ih h
set_option maxHeartbeats 4000000 in
set_option maxRecDepth 100000 in
theorem t_X3_shareOut_e {G : GG} {X : CX} {ans : Mm} (he : EndV G X j_X3_shareOut b_X3_shareOut ans) {M : Mm} {l0 : Option Nat} {l1 : Option Nat} (h : f_X3_shareOut M l0 l1 = some ans) : Wt G X j_X3_shareOut b_X3_shareOut 0 [(0, rf G.1 l0), (1, rf G.1 l1)] [] M 0 0 := by
  unfold f_X3_shareOut at h
  refine wt_aload_n (pc := 0) 1 dX3_shareOut_0 rfl ?_
  refine wt_cVI (pc := 1) (J' := j_X4_openSet) (As := []) (st := []) (B' := b_X4_openSet) (u' := 0) (w' := 0) dX3_shareOut_1 ml_X3_66 mv_X4_openSet (fun v9 M9 e9 => c_X4_openSet e9) rfl (by decide) rfl rfl (by decide) (by decide) (by decide) rfl h (fun v1 M1 h => ?_)
  refine wt_istore_n (pc := 4) (i := 2) (ls' := [(2, .int v1), (0, rf G.1 l0), (1, rf G.1 l1)]) rfl dX3_shareOut_4 (by decide) (by simp [rf_cat, cat_i, cat_l, cat_r]) ?_
  refine wt_iconst (pc := 5) (v := 1) dX3_shareOut_5 (by decide) ?_
  refine wt_istore_n (pc := 6) (i := 3) (ls' := [(3, .int 1), (2, .int v1), (0, rf G.1 l0), (1, rf G.1 l1)]) rfl dX3_shareOut_6 (by decide) rfl ?_
  refine wt_sub (ls' := [(0, rf G.1 l0), (1, rf G.1 l1), (2, .int v1), (3, .int 1)]) [2, 3, 1, 0] rfl ?_
  exact t_X3_shareOut_7 he  fu h
set_option maxHeartbeats 4000000 in
set_option maxRecDepth 100000 in
theorem c_X3_shareOut {G : GG} {M : Mm} {l0 : Option Nat} {l1 : Option Nat} {r : Mm} (h : f_X3_shareOut M l0 l1 = some r) (l : Launch) : Ct l G j_X3_shareOut b_X3_shareOut [rf G.1 l0, rf G.1 l1] M none r := cf_V (by decide +kernel) (by simp [lg_sl, rf_cat, cat_i, cat_l, j_X3_shareOut]) rfl (by simp [lv_args, rf_cat, cat_i, cat_l]) (fun X he => t_X3_shareOut_e he h)
def f_X3_mostShared_50 (k11 : Mm → Option Nat → Option Nat → Int32 → Int32 → Int32 → Int32 → Option (Int32 × Mm)) (M : Mm) (l0 : Option Nat) (l1 : Option Nat) (l2 : Int32) (l3 : Int32) (l4 : Int32) (l5 : Int32) : Option (Int32 × Mm) := k11 M l0 l1 l2 l3 l4 (l5 + 1)
def f_X3_mostShared_11 : Nat → Mm → Option Nat → Option Nat → Int32 → Int32 → Int32 → Int32 → Option (Int32 × Mm)
  | 0, _, _, _, _, _, _, _ => none
  | n + 1, M, l0, l1, l2, l3, l4, l5 => if l4 < l5 then (some (l3, M)) else (if (l5 &&& (l4 ^^^ (-1))) = 0 then (gfR M l0 3 3 fun v29 => alI M v29 21 l5 fun v34 => if l2 < v34 then (f_X3_mostShared_50 (f_X3_mostShared_11 n) M l0 l1 l2 l3 l4 l5) else (ck M l1 4 <| bd (f_X4_worthOf M l1 l5) fun v43 M43 => nmI (mxI l3 v43) fun x49 => f_X3_mostShared_50 (f_X3_mostShared_11 n) M43 l0 l1 l2 x49 l4 l5)) else (f_X3_mostShared_50 (f_X3_mostShared_11 n) M l0 l1 l2 l3 l4 l5))
def f_X3_mostShared (M : Mm) (l0 : Option Nat) (l1 : Option Nat) (l2 : Int32) : Option (Int32 × Mm) := ck M l1 4 <| bd (f_X4_openSet M l1) fun v3 M3 => f_X3_mostShared_11  fu M3 l0 l1 l2 0 v3 0
set_option maxHeartbeats 4000000 in
set_option maxRecDepth 100000 in
theorem t_X3_mostShared_50 {G : GG} {X : CX} {ans : Int32 × Mm} (he : EndI G X j_X3_mostShared b_X3_mostShared ans) {k11 : Mm → Option Nat → Option Nat → Int32 → Int32 → Int32 → Int32 → Option (Int32 × Mm)} (hk11 : ∀ (M : Mm) (a0 : Option Nat) (a1 : Option Nat) (a2 : Int32) (a3 : Int32) (a4 : Int32) (a5 : Int32), k11 M a0 a1 a2 a3 a4 a5 = some ans → Wt G X j_X3_mostShared b_X3_mostShared 11 [(0, rf G.1 a0), (1, rf G.1 a1), (2, .int a2), (3, .int a3), (4, .int a4), (5, .int a5)] [] M 0 0) {M : Mm} {l0 : Option Nat} {l1 : Option Nat} {l2 : Int32} {l3 : Int32} {l4 : Int32} {l5 : Int32} (h : f_X3_mostShared_50 k11 M l0 l1 l2 l3 l4 l5 = some ans) : Wt G X j_X3_mostShared b_X3_mostShared 50 [(0, rf G.1 l0), (1, rf G.1 l1), (2, .int l2), (3, .int l3), (4, .int l4), (5, .int l5)] [] M 0 0 := by
  unfold f_X3_mostShared_50 at h
  refine wt_iinc (pc := 50) (d := 1) (ls' := [(5, .int (l5 + 1)), (0, rf G.1 l0), (1, rf G.1 l1), (2, .int l2), (3, .int l3), (4, .int l4)]) 5 dX3_mostShared_50 rfl (by decide) (by decide) rfl ?_
  refine wt_goto (pc := 53) (tgt := 11) dX3_mostShared_53 (by decide) ?_
  refine wt_sub (ls' := [(0, rf G.1 l0), (1, rf G.1 l1), (2, .int l2), (3, .int l3), (4, .int l4), (5, .int (l5 + 1))]) [1, 2, 3, 4, 5, 0] rfl ?_
  exact hk11 _ _ _ _ _ _ _ h
set_option maxHeartbeats 4000000 in
set_option maxRecDepth 100000 in
theorem t_X3_mostShared_11 {G : GG} {X : CX} {ans : Int32 × Mm} (he : EndI G X j_X3_mostShared b_X3_mostShared ans) : ∀ (n : Nat) {M : Mm} {l0 : Option Nat} {l1 : Option Nat} {l2 : Int32} {l3 : Int32} {l4 : Int32} {l5 : Int32}, f_X3_mostShared_11 n M l0 l1 l2 l3 l4 l5 = some ans → Wt G X j_X3_mostShared b_X3_mostShared 11 [(0, rf G.1 l0), (1, rf G.1 l1), (2, .int l2), (3, .int l3), (4, .int l4), (5, .int l5)] [] M 0 0 := by
  intro n
  induction n with
  | zero =>
    intro M l0 l1 l2 l3 l4 l5 h
    rw [f_X3_mostShared_11] at h
    cases h
  | succ n ih =>
    intro M l0 l1 l2 l3 l4 l5 h
    rw [f_X3_mostShared_11] at h
    refine wt_iload (pc := 11) 5 dX3_mostShared_11 rfl ?_
    refine wt_iload (pc := 13) 4 dX3_mostShared_13 rfl ?_
    refine wt_icmp_gt (pc := 15) (tgt := 56) dX3_mostShared_15 (by decide) (fun q => ?_) (fun q => ?_)
    · have h := ite_t q h
      refine wt_iload_n (pc := 56) 3 dX3_mostShared_56 rfl ?_
      cases h
      exact he 57 _ _ _ dX3_mostShared_57 (by decide) (by decide)
    · have h := ite_f q h
      refine wt_iload (pc := 18) 5 dX3_mostShared_18 rfl ?_
      refine wt_iload (pc := 20) 4 dX3_mostShared_20 rfl ?_
      refine wt_iconst (pc := 22) (v := (-1)) dX3_mostShared_22 (by decide) ?_
      refine wt_ixor (pc := 23) dX3_mostShared_23 ?_
      refine wt_iand (pc := 24) dX3_mostShared_24 ?_
      refine wt_if_ne (pc := 25) (tgt := 50) dX3_mostShared_25 (by decide) (fun q => ?_) (fun q => ?_)
      · have h := ite_f q h
        exact t_X3_mostShared_50 he (fun _ _ _ _ _ _ _ h => ih h) h
      · have h := ite_t q h
        refine wt_aload_n (pc := 28) 0 dX3_mostShared_28 rfl ?_
        refine wt_getR (pc := 29) dX3_mostShared_29 fl_X3_18 (fun _ _ _ => rfl) h (fun v29 h => ?_)
        refine wt_iload (pc := 32) 5 dX3_mostShared_32 rfl ?_
        refine wt_iaload (pc := 34) (kd := 21) dX3_mostShared_34 rfl rfl h (fun v34 h => ?_)
        refine wt_iload_n (pc := 35) 2 dX3_mostShared_35 rfl ?_
        refine wt_icmp_gt (pc := 36) (tgt := 50) dX3_mostShared_36 (by decide) (fun q => ?_) (fun q => ?_)
        · have h := ite_t q h
          exact t_X3_mostShared_50 he (fun _ _ _ _ _ _ _ h => ih h) h
        · have h := ite_f q h
          refine wt_iload_n (pc := 39) 3 dX3_mostShared_39 rfl ?_
          refine wt_aload_n (pc := 40) 1 dX3_mostShared_40 rfl ?_
          refine wt_iload (pc := 41) 5 dX3_mostShared_41 rfl ?_
          refine wt_cVI (pc := 43) (J' := j_X4_worthOf) (As := [.int l5]) (st := [.int l3]) (B' := b_X4_worthOf) (u' := 0) (w' := 0) dX3_mostShared_43 ml_X3_70 mv_X4_worthOf (fun v9 M9 e9 => c_X4_worthOf e9) rfl (by decide) rfl rfl (by decide) (by decide) (by simp [rf_cat, cat_i, cat_l, cat_r]) rfl h (fun v43 M43 h => ?_)
          refine wt_mmax (pc := 46) dX3_mostShared_46 bi_X3_42 mw_max.1 mw_max.2.1 mw_max.2.2 (by decide) (by decide) (by decide) (by decide) ?_
          refine wt_nmI h (fun x49 h => ?_)
          refine wt_istore_n (pc := 49) (i := 3) (ls' := [(3, .int x49), (0, rf G.1 l0), (1, rf G.1 l1), (2, .int l2), (4, .int l4), (5, .int l5)]) rfl dX3_mostShared_49 (by decide) rfl ?_
          refine wt_sub (ls' := [(0, rf G.1 l0), (1, rf G.1 l1), (2, .int l2), (3, .int x49), (4, .int l4), (5, .int l5)]) [1, 2, 3, 0, 4, 5] rfl ?_
          exact t_X3_mostShared_50 he (fun _ _ _ _ _ _ _ h => ih h) h
set_option maxHeartbeats 4000000 in
set_option maxRecDepth 100000 in
theorem t_X3_mostShared_e {G : GG} {X : CX} {ans : Int32 × Mm} (he : EndI G X j_X3_mostShared b_X3_mostShared ans) {M : Mm} {l0 : Option Nat} {l1 : Option Nat} {l2 : Int32} (h : f_X3_mostShared M l0 l1 l2 = some ans) : Wt G X j_X3_mostShared b_X3_mostShared 0 [(0, rf G.1 l0), (1, rf G.1 l1), (2, .int l2)] [] M 0 0 := by
  unfold f_X3_mostShared at h
  refine wt_iconst (pc := 0) (v := 0) dX3_mostShared_0 (by decide) ?_
  refine wt_istore_n (pc := 1) (i := 3) (ls' := [(3, .int 0), (0, rf G.1 l0), (1, rf G.1 l1), (2, .int l2)]) rfl dX3_mostShared_1 (by decide) rfl ?_
  refine wt_aload_n (pc := 2) 2 dX3_mostShared_2 rfl ?_
  refine wt_cVI (pc := 3) (J' := j_X4_openSet) (As := []) (st := []) (B' := b_X4_openSet) (u' := 0) (w' := 0) dX3_mostShared_3 ml_X3_66 mv_X4_openSet (fun v9 M9 e9 => c_X4_openSet e9) rfl (by decide) rfl rfl (by decide) (by decide) (by decide) rfl h (fun v3 M3 h => ?_)
  refine wt_istore (pc := 6) (i := 4) (ls' := [(4, .int v3), (3, .int 0), (0, rf G.1 l0), (1, rf G.1 l1), (2, .int l2)]) dX3_mostShared_6 (by decide) rfl ?_
  refine wt_iconst (pc := 8) (v := 0) dX3_mostShared_8 (by decide) ?_
  refine wt_istore (pc := 9) (i := 5) (ls' := [(5, .int 0), (4, .int v3), (3, .int 0), (0, rf G.1 l0), (1, rf G.1 l1), (2, .int l2)]) dX3_mostShared_9 (by decide) rfl ?_
  refine wt_sub (ls' := [(0, rf G.1 l0), (1, rf G.1 l1), (2, .int l2), (3, .int 0), (4, .int v3), (5, .int 0)]) [3, 4, 5, 2, 1, 0] rfl ?_
  exact t_X3_mostShared_11 he  fu h
set_option maxHeartbeats 4000000 in
set_option maxRecDepth 100000 in
theorem c_X3_mostShared {G : GG} {M : Mm} {l0 : Option Nat} {l1 : Option Nat} {l2 : Int32} {r : Int32 × Mm} (h : f_X3_mostShared M l0 l1 l2 = some r) (l : Launch) : Ct l G j_X3_mostShared b_X3_mostShared [rf G.1 l0, rf G.1 l1, .int l2] M (some (.int r.1)) r.2 := cf_I (by decide +kernel) (by simp [lg_sl, rf_cat, cat_i, cat_l, j_X3_mostShared]) rfl (by simp [lv_args, rf_cat, cat_i, cat_l]) (fun X he => t_X3_mostShared_e he h)
def f_X3_laid (M : Mm) (l0 : Int32) (l1 : Int32) (l2 : Int32) : Option (Int32 × Mm) := dvI 100 <| if l2 < ((l0 - l0 / 100 * 100) + l1) then (dvI 100 <| some (((((l0 / 100) + 1) * 100) + l1), M)) else (some ((l0 + l1), M))
set_option maxHeartbeats 4000000 in
set_option maxRecDepth 100000 in
theorem t_X3_laid_e {G : GG} {X : CX} {ans : Int32 × Mm} (he : EndI G X j_X3_laid b_X3_laid ans) {M : Mm} {l0 : Int32} {l1 : Int32} {l2 : Int32} (h : f_X3_laid M l0 l1 l2 = some ans) : Wt G X j_X3_laid b_X3_laid 0 [(0, .int l0), (1, .int l1), (2, .int l2)] [] M 0 0 := by
  unfold f_X3_laid at h
  refine wt_iload_n (pc := 0) 0 dX3_laid_0 rfl ?_
  refine wt_bipush (pc := 1) (v := 100) dX3_laid_1 (by decide) ?_
  obtain ⟨qd, h⟩ := dvI_spec h
  refine wt_irem (pc := 3) dX3_laid_3 qd ?_
  refine wt_iload_n (pc := 4) 1 dX3_laid_4 rfl ?_
  refine wt_iadd (pc := 5) dX3_laid_5 ?_
  refine wt_iload_n (pc := 6) 2 dX3_laid_6 rfl ?_
  refine wt_icmp_gt (pc := 7) (tgt := 14) dX3_laid_7 (by decide) (fun q => ?_) (fun q => ?_)
  · have h := ite_t q h
    refine wt_iload_n (pc := 14) 0 dX3_laid_14 rfl ?_
    refine wt_bipush (pc := 15) (v := 100) dX3_laid_15 (by decide) ?_
    obtain ⟨qd, h⟩ := dvI_spec h
    refine wt_idiv (pc := 17) dX3_laid_17 qd ?_
    refine wt_iconst (pc := 18) (v := 1) dX3_laid_18 (by decide) ?_
    refine wt_iadd (pc := 19) dX3_laid_19 ?_
    refine wt_bipush (pc := 20) (v := 100) dX3_laid_20 (by decide) ?_
    refine wt_imul (pc := 22) dX3_laid_22 ?_
    refine wt_iload_n (pc := 23) 1 dX3_laid_23 rfl ?_
    refine wt_iadd (pc := 24) dX3_laid_24 ?_
    cases h
    exact he 25 _ _ _ dX3_laid_25 (by decide) (by decide)
  · have h := ite_f q h
    refine wt_iload_n (pc := 10) 0 dX3_laid_10 rfl ?_
    refine wt_iload_n (pc := 11) 1 dX3_laid_11 rfl ?_
    refine wt_iadd (pc := 12) dX3_laid_12 ?_
    cases h
    exact he 13 _ _ _ dX3_laid_13 (by decide) (by decide)
set_option maxHeartbeats 4000000 in
set_option maxRecDepth 100000 in
theorem c_X3_laid {G : GG} {M : Mm} {l0 : Int32} {l1 : Int32} {l2 : Int32} {r : Int32 × Mm} (h : f_X3_laid M l0 l1 l2 = some r) (l : Launch) : Ct l G j_X3_laid b_X3_laid [.int l0, .int l1, .int l2] M (some (.int r.1)) r.2 := cf_I (by decide +kernel) (by simp [lg_sl, rf_cat, cat_i, cat_l, j_X3_laid]) rfl (by simp [lv_args, rf_cat, cat_i, cat_l]) (fun X he => t_X3_laid_e he h)
def f_X3_fewestRows_106 (k10 : Mm → Option Nat → Option Nat → Int32 → Int32 → Int32 → Option (Int32 × Mm)) (k28 : Mm → Option Nat → Option Nat → Int32 → Int32 → Int32 → Int32 → Option (Int32 × Mm)) (M : Mm) (l0 : Option Nat) (l1 : Option Nat) (l2 : Int32) (l3 : Int32) (l4 : Int32) (l5 : Int32) : Option (Int32 × Mm) := k28 M l0 l1 l2 l3 l4 (l5 + 1)
def f_X3_fewestRows_28 (k10 : Mm → Option Nat → Option Nat → Int32 → Int32 → Int32 → Option (Int32 × Mm)) : Nat → Mm → Option Nat → Option Nat → Int32 → Int32 → Int32 → Int32 → Option (Int32 × Mm)
  | 0, _, _, _, _, _, _, _ => none
  | n + 1, M, l0, l1, l2, l3, l4, l5 => gfI M l1 4 3 fun v31 => if v31 ≤ l5 then (k10 M l0 l1 l2 l3 (l4 + 1)) else (if (l4 &&& (l2 ^^^ (-1))) = 0 then (if ((l4 >>> (l5 &&& 31)) &&& 1) = 1 then (gfR M l0 3 3 fun v58 => alI M v58 21 (l4 &&& ((1 <<< (l5 &&& 31)) ^^^ (-1))) fun v70 => gfR M l1 4 0 fun v72 => alR M v72 31 l5 fun v77 => gfI M v77 1 5 fun v78 => bd (f_X3_laid M v70 v78 l3) fun v82 M82 => gfR M82 l0 3 3 fun v88 => gfR M82 l0 3 3 fun v94 => alI M82 v94 21 l4 fun v99 => asI M82 v88 21 l4 (mnI v99 v82) fun M105 => f_X3_fewestRows_106 k10 (f_X3_fewestRows_28 k10 n) M105 l0 l1 l2 l3 l4 l5) else (f_X3_fewestRows_106 k10 (f_X3_fewestRows_28 k10 n) M l0 l1 l2 l3 l4 l5)) else (f_X3_fewestRows_106 k10 (f_X3_fewestRows_28 k10 n) M l0 l1 l2 l3 l4 l5))
def f_X3_fewestRows_10 : Nat → Mm → Option Nat → Option Nat → Int32 → Int32 → Int32 → Option (Int32 × Mm)
  | 0, _, _, _, _, _, _ => none
  | n + 1, M, l0, l1, l2, l3, l4 => if l2 < l4 then (gfR M l0 3 3 fun v119 => alI M v119 21 l2 fun v123 => dvI 100 <| some ((v123 / 100), M)) else (gfR M l0 3 3 fun v17 => asI M v17 21 l4 1000000 fun M24 => f_X3_fewestRows_28 (f_X3_fewestRows_10 n) fu M24 l0 l1 l2 l3 l4 0)
def f_X3_fewestRows (M : Mm) (l0 : Option Nat) (l1 : Option Nat) (l2 : Int32) (l3 : Int32) : Option (Int32 × Mm) := gfR M l0 3 3 fun v1 => asI M v1 21 0 l3 fun M6 => f_X3_fewestRows_10  fu M6 l0 l1 l2 l3 1
set_option maxHeartbeats 4000000 in
set_option maxRecDepth 100000 in
theorem t_X3_fewestRows_106 {G : GG} {X : CX} {ans : Int32 × Mm} (he : EndI G X j_X3_fewestRows b_X3_fewestRows ans) {k10 : Mm → Option Nat → Option Nat → Int32 → Int32 → Int32 → Option (Int32 × Mm)} {k28 : Mm → Option Nat → Option Nat → Int32 → Int32 → Int32 → Int32 → Option (Int32 × Mm)} (hk10 : ∀ (M : Mm) (a0 : Option Nat) (a1 : Option Nat) (a2 : Int32) (a3 : Int32) (a4 : Int32), k10 M a0 a1 a2 a3 a4 = some ans → Wt G X j_X3_fewestRows b_X3_fewestRows 10 [(0, rf G.1 a0), (1, rf G.1 a1), (2, .int a2), (3, .int a3), (4, .int a4)] [] M 0 0) (hk28 : ∀ (M : Mm) (a0 : Option Nat) (a1 : Option Nat) (a2 : Int32) (a3 : Int32) (a4 : Int32) (a5 : Int32), k28 M a0 a1 a2 a3 a4 a5 = some ans → Wt G X j_X3_fewestRows b_X3_fewestRows 28 [(0, rf G.1 a0), (1, rf G.1 a1), (2, .int a2), (3, .int a3), (4, .int a4), (5, .int a5)] [] M 0 0) {M : Mm} {l0 : Option Nat} {l1 : Option Nat} {l2 : Int32} {l3 : Int32} {l4 : Int32} {l5 : Int32} (h : f_X3_fewestRows_106 k10 k28 M l0 l1 l2 l3 l4 l5 = some ans) : Wt G X j_X3_fewestRows b_X3_fewestRows 106 [(0, rf G.1 l0), (1, rf G.1 l1), (2, .int l2), (3, .int l3), (4, .int l4), (5, .int l5)] [] M 0 0 := by
  unfold f_X3_fewestRows_106 at h
  refine wt_iinc (pc := 106) (d := 1) (ls' := [(5, .int (l5 + 1)), (0, rf G.1 l0), (1, rf G.1 l1), (2, .int l2), (3, .int l3), (4, .int l4)]) 5 dX3_fewestRows_106 rfl (by decide) (by decide) rfl ?_
  refine wt_goto (pc := 109) (tgt := 28) dX3_fewestRows_109 (by decide) ?_
  refine wt_sub (ls' := [(0, rf G.1 l0), (1, rf G.1 l1), (2, .int l2), (3, .int l3), (4, .int l4), (5, .int (l5 + 1))]) [1, 2, 3, 4, 5, 0] rfl ?_
  exact hk28 _ _ _ _ _ _ _ h
set_option maxHeartbeats 4000000 in
set_option maxRecDepth 100000 in
theorem t_X3_fewestRows_28 {G : GG} {X : CX} {ans : Int32 × Mm} (he : EndI G X j_X3_fewestRows b_X3_fewestRows ans) {k10 : Mm → Option Nat → Option Nat → Int32 → Int32 → Int32 → Option (Int32 × Mm)} (hk10 : ∀ (M : Mm) (a0 : Option Nat) (a1 : Option Nat) (a2 : Int32) (a3 : Int32) (a4 : Int32), k10 M a0 a1 a2 a3 a4 = some ans → Wt G X j_X3_fewestRows b_X3_fewestRows 10 [(0, rf G.1 a0), (1, rf G.1 a1), (2, .int a2), (3, .int a3), (4, .int a4)] [] M 0 0) : ∀ (n : Nat) {M : Mm} {l0 : Option Nat} {l1 : Option Nat} {l2 : Int32} {l3 : Int32} {l4 : Int32} {l5 : Int32}, f_X3_fewestRows_28 k10 n M l0 l1 l2 l3 l4 l5 = some ans → Wt G X j_X3_fewestRows b_X3_fewestRows 28 [(0, rf G.1 l0), (1, rf G.1 l1), (2, .int l2), (3, .int l3), (4, .int l4), (5, .int l5)] [] M 0 0 := by
  intro n
  induction n with
  | zero =>
    intro M l0 l1 l2 l3 l4 l5 h
    rw [f_X3_fewestRows_28] at h
    cases h
  | succ n ih =>
    intro M l0 l1 l2 l3 l4 l5 h
    rw [f_X3_fewestRows_28] at h
    refine wt_iload (pc := 28) 5 dX3_fewestRows_28 rfl ?_
    refine wt_aload_n (pc := 30) 1 dX3_fewestRows_30 rfl ?_
    refine wt_getI (pc := 31) dX3_fewestRows_31 fl_X3_21 (fun _ _ _ => rfl) h (fun v31 h => ?_)
    refine wt_icmp_ge (pc := 34) (tgt := 112) dX3_fewestRows_34 (by decide) (fun q => ?_) (fun q => ?_)
    · have h := ite_t q h
      refine wt_iinc (pc := 112) (d := 1) (ls' := [(4, .int (l4 + 1)), (0, rf G.1 l0), (1, rf G.1 l1), (2, .int l2), (3, .int l3), (5, .int l5)]) 4 dX3_fewestRows_112 rfl (by decide) (by decide) rfl ?_
      refine wt_goto (pc := 115) (tgt := 10) dX3_fewestRows_115 (by decide) ?_
      refine wt_sub (ls' := [(0, rf G.1 l0), (1, rf G.1 l1), (2, .int l2), (3, .int l3), (4, .int (l4 + 1))]) [1, 2, 3, 4, 0] rfl ?_
      exact hk10 _ _ _ _ _ _ h
    · have h := ite_f q h
      refine wt_iload (pc := 37) 4 dX3_fewestRows_37 rfl ?_
      refine wt_iload_n (pc := 39) 2 dX3_fewestRows_39 rfl ?_
      refine wt_iconst (pc := 40) (v := (-1)) dX3_fewestRows_40 (by decide) ?_
      refine wt_ixor (pc := 41) dX3_fewestRows_41 ?_
      refine wt_iand (pc := 42) dX3_fewestRows_42 ?_
      refine wt_if_ne (pc := 43) (tgt := 106) dX3_fewestRows_43 (by decide) (fun q => ?_) (fun q => ?_)
      · have h := ite_f q h
        exact t_X3_fewestRows_106 he (fun _ _ _ _ _ _ h => hk10 _ _ _ _ _ _ h) (fun _ _ _ _ _ _ _ h => ih h) h
      · have h := ite_t q h
        refine wt_iload (pc := 46) 4 dX3_fewestRows_46 rfl ?_
        refine wt_iload (pc := 48) 5 dX3_fewestRows_48 rfl ?_
        refine wt_ishr (pc := 50) dX3_fewestRows_50 ?_
        refine wt_iconst (pc := 51) (v := 1) dX3_fewestRows_51 (by decide) ?_
        refine wt_iand (pc := 52) dX3_fewestRows_52 ?_
        refine wt_iconst (pc := 53) (v := 1) dX3_fewestRows_53 (by decide) ?_
        refine wt_icmp_ne (pc := 54) (tgt := 106) dX3_fewestRows_54 (by decide) (fun q => ?_) (fun q => ?_)
        · have h := ite_f q h
          exact t_X3_fewestRows_106 he (fun _ _ _ _ _ _ h => hk10 _ _ _ _ _ _ h) (fun _ _ _ _ _ _ _ h => ih h) h
        · have h := ite_t q h
          refine wt_aload_n (pc := 57) 0 dX3_fewestRows_57 rfl ?_
          refine wt_getR (pc := 58) dX3_fewestRows_58 fl_X3_18 (fun _ _ _ => rfl) h (fun v58 h => ?_)
          refine wt_iload (pc := 61) 4 dX3_fewestRows_61 rfl ?_
          refine wt_iconst (pc := 63) (v := 1) dX3_fewestRows_63 (by decide) ?_
          refine wt_iload (pc := 64) 5 dX3_fewestRows_64 rfl ?_
          refine wt_ishl (pc := 66) dX3_fewestRows_66 ?_
          refine wt_iconst (pc := 67) (v := (-1)) dX3_fewestRows_67 (by decide) ?_
          refine wt_ixor (pc := 68) dX3_fewestRows_68 ?_
          refine wt_iand (pc := 69) dX3_fewestRows_69 ?_
          refine wt_iaload (pc := 70) (kd := 21) dX3_fewestRows_70 rfl rfl h (fun v70 h => ?_)
          refine wt_aload_n (pc := 71) 1 dX3_fewestRows_71 rfl ?_
          refine wt_getR (pc := 72) dX3_fewestRows_72 fl_X3_27 (fun _ _ _ => rfl) h (fun v72 h => ?_)
          refine wt_iload (pc := 75) 5 dX3_fewestRows_75 rfl ?_
          refine wt_aaload (pc := 77) (kd := 31) dX3_fewestRows_77 rfl rfl (by decide) h (fun v77 h => ?_)
          refine wt_getI (pc := 78) dX3_fewestRows_78 fl_X3_104 (fun _ _ _ => rfl) h (fun v78 h => ?_)
          refine wt_iload_n (pc := 81) 3 dX3_fewestRows_81 rfl ?_
          refine wt_cSI (pc := 82) (J' := j_X3_laid) (As := [.int v70, .int v78, .int l3]) (st := []) (B' := b_X3_laid) (u' := 0) (w' := 0) dX3_fewestRows_82 ml_X3_107 ms_X3_laid (fun v9 M9 e9 => c_X3_laid e9) rfl (by decide) rfl rfl (by decide) (by decide) (by decide) rfl h (fun v82 M82 h => ?_)
          refine wt_istore (pc := 85) (i := 6) (ls' := [(6, .int v82), (0, rf G.1 l0), (1, rf G.1 l1), (2, .int l2), (3, .int l3), (4, .int l4), (5, .int l5)]) dX3_fewestRows_85 (by decide) rfl ?_
          refine wt_aload_n (pc := 87) 1 dX3_fewestRows_87 rfl ?_
          refine wt_getR (pc := 88) dX3_fewestRows_88 fl_X3_18 (fun _ _ _ => rfl) h (fun v88 h => ?_)
          refine wt_iload (pc := 91) 5 dX3_fewestRows_91 rfl ?_
          refine wt_aload_n (pc := 93) 1 dX3_fewestRows_93 rfl ?_
          refine wt_getR (pc := 94) dX3_fewestRows_94 fl_X3_18 (fun _ _ _ => rfl) h (fun v94 h => ?_)
          refine wt_iload (pc := 97) 5 dX3_fewestRows_97 rfl ?_
          refine wt_iaload (pc := 99) (kd := 21) dX3_fewestRows_99 rfl rfl h (fun v99 h => ?_)
          refine wt_iload (pc := 100) 0 dX3_fewestRows_100 rfl ?_
          refine wt_mmin (pc := 102) dX3_fewestRows_102 bi_X3_36 mw_min.1 mw_min.2.1 mw_min.2.2 (by decide) (by decide) (by decide) (by simp [rf_cat, cat_i, cat_l, cat_r]) ?_
          refine wt_iastore (pc := 105) (kd := 21) dX3_fewestRows_105 rfl rfl h (fun M105 h => ?_)
          refine wt_sub (ls' := [(0, rf G.1 l0), (1, rf G.1 l1), (2, .int l2), (3, .int l3), (4, .int l4), (5, .int l5)]) [1, 2, 3, 4, 5, 6] rfl ?_
          exact t_X3_fewestRows_106 he (fun _ _ _ _ _ _ h => hk10 _ _ _ _ _ _ h) (fun _ _ _ _ _ _ _ h => ih h) h
set_option maxHeartbeats 4000000 in
set_option maxRecDepth 100000 in
theorem t_X3_fewestRows_10 {G : GG} {X : CX} {ans : Int32 × Mm} (he : EndI G X j_X3_fewestRows b_X3_fewestRows ans) : ∀ (n : Nat) {M : Mm} {l0 : Option Nat} {l1 : Option Nat} {l2 : Int32} {l3 : Int32} {l4 : Int32}, f_X3_fewestRows_10 n M l0 l1 l2 l3 l4 = some ans → Wt G X j_X3_fewestRows b_X3_fewestRows 10 [(0, rf G.1 l0), (1, rf G.1 l1), (2, .int l2), (3, .int l3), (4, .int l4)] [] M 0 0 := by
  intro n
  induction n with
  | zero =>
    intro M l0 l1 l2 l3 l4 h
    rw [f_X3_fewestRows_10] at h
    cases h
  | succ n ih =>
    intro M l0 l1 l2 l3 l4 h
    rw [f_X3_fewestRows_10] at h
    refine wt_iload (pc := 10) 4 dX3_fewestRows_10 rfl ?_
    refine wt_iload_n (pc := 12) 2 dX3_fewestRows_12 rfl ?_
    refine wt_icmp_gt (pc := 13) (tgt := 118) dX3_fewestRows_13 (by decide) (fun q => ?_) (fun q => ?_)
    · have h := ite_t q h
      refine wt_aload_n (pc := 118) 0 dX3_fewestRows_118 rfl ?_
      refine wt_getR (pc := 119) dX3_fewestRows_119 fl_X3_18 (fun _ _ _ => rfl) h (fun v119 h => ?_)
      refine wt_iload_n (pc := 122) 2 dX3_fewestRows_122 rfl ?_
      refine wt_iaload (pc := 123) (kd := 21) dX3_fewestRows_123 rfl rfl h (fun v123 h => ?_)
      refine wt_bipush (pc := 124) (v := 100) dX3_fewestRows_124 (by decide) ?_
      obtain ⟨qd, h⟩ := dvI_spec h
      refine wt_idiv (pc := 126) dX3_fewestRows_126 qd ?_
      cases h
      exact he 127 _ _ _ dX3_fewestRows_127 (by decide) (by decide)
    · have h := ite_f q h
      refine wt_aload_n (pc := 16) 0 dX3_fewestRows_16 rfl ?_
      refine wt_getR (pc := 17) dX3_fewestRows_17 fl_X3_18 (fun _ _ _ => rfl) h (fun v17 h => ?_)
      refine wt_iload (pc := 20) 4 dX3_fewestRows_20 rfl ?_
      refine wt_ldc (pc := 22) dX3_fewestRows_22 kc_X3_96 ?_
      refine wt_iastore (pc := 24) (kd := 21) dX3_fewestRows_24 rfl rfl h (fun M24 h => ?_)
      refine wt_iconst (pc := 25) (v := 0) dX3_fewestRows_25 (by decide) ?_
      refine wt_istore (pc := 26) (i := 5) (ls' := [(5, .int 0), (0, rf G.1 l0), (1, rf G.1 l1), (2, .int l2), (3, .int l3), (4, .int l4)]) dX3_fewestRows_26 (by decide) rfl ?_
      refine wt_sub (ls' := [(0, rf G.1 l0), (1, rf G.1 l1), (2, .int l2), (3, .int l3), (4, .int l4), (5, .int 0)]) [1, 2, 3, 4, 5, 0] rfl ?_
      exact t_X3_fewestRows_28 he (fun _ _ _ _ _ _ h => ih h) fu h
set_option maxHeartbeats 4000000 in
set_option maxRecDepth 100000 in
theorem t_X3_fewestRows_e {G : GG} {X : CX} {ans : Int32 × Mm} (he : EndI G X j_X3_fewestRows b_X3_fewestRows ans) {M : Mm} {l0 : Option Nat} {l1 : Option Nat} {l2 : Int32} {l3 : Int32} (h : f_X3_fewestRows M l0 l1 l2 l3 = some ans) : Wt G X j_X3_fewestRows b_X3_fewestRows 0 [(0, rf G.1 l0), (1, rf G.1 l1), (2, .int l2), (3, .int l3)] [] M 0 0 := by
  unfold f_X3_fewestRows at h
  refine wt_aload_n (pc := 0) 0 dX3_fewestRows_0 rfl ?_
  refine wt_getR (pc := 1) dX3_fewestRows_1 fl_X3_18 (fun _ _ _ => rfl) h (fun v1 h => ?_)
  refine wt_iconst (pc := 4) (v := 0) dX3_fewestRows_4 (by decide) ?_
  refine wt_iload_n (pc := 5) 3 dX3_fewestRows_5 rfl ?_
  refine wt_iastore (pc := 6) (kd := 21) dX3_fewestRows_6 rfl rfl h (fun M6 h => ?_)
  refine wt_iconst (pc := 7) (v := 1) dX3_fewestRows_7 (by decide) ?_
  refine wt_istore (pc := 8) (i := 4) (ls' := [(4, .int 1), (0, rf G.1 l0), (1, rf G.1 l1), (2, .int l2), (3, .int l3)]) dX3_fewestRows_8 (by decide) rfl ?_
  refine wt_sub (ls' := [(0, rf G.1 l0), (1, rf G.1 l1), (2, .int l2), (3, .int l3), (4, .int 1)]) [1, 2, 3, 4, 0] rfl ?_
  exact t_X3_fewestRows_10 he  fu h
set_option maxHeartbeats 4000000 in
set_option maxRecDepth 100000 in
theorem c_X3_fewestRows {G : GG} {M : Mm} {l0 : Option Nat} {l1 : Option Nat} {l2 : Int32} {l3 : Int32} {r : Int32 × Mm} (h : f_X3_fewestRows M l0 l1 l2 l3 = some r) (l : Launch) : Ct l G j_X3_fewestRows b_X3_fewestRows [rf G.1 l0, rf G.1 l1, .int l2, .int l3] M (some (.int r.1)) r.2 := cf_I (by decide +kernel) (by simp [lg_sl, rf_cat, cat_i, cat_l, j_X3_fewestRows]) rfl (by simp [lv_args, rf_cat, cat_i, cat_l]) (fun X he => t_X3_fewestRows_e he h)

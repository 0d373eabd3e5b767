theorem fl_X2_11 : FLk RX2 11 2 7 := ⟨_, rfl, by decide, Or.inl (gw_at 666 (by decide +kernel) rfl)⟩
theorem fl_X2_17 : FLk RX2 17 2 0 := ⟨_, rfl, by decide, Or.inl (gw_at 653 (by decide +kernel) rfl)⟩
theorem fl_X2_21 : FLk RX2 21 2 1 := ⟨_, rfl, by decide, Or.inl (gw_at 655 (by decide +kernel) rfl)⟩
theorem fl_X2_24 : FLk RX2 24 2 2 := ⟨_, rfl, by decide, Or.inl (gw_at 657 (by decide +kernel) rfl)⟩
theorem fl_X2_27 : FLk RX2 27 2 3 := ⟨_, rfl, by decide, Or.inl (gw_at 659 (by decide +kernel) rfl)⟩
theorem fl_X2_30 : FLk RX2 30 2 4 := ⟨_, rfl, by decide, Or.inl (gw_at 661 (by decide +kernel) rfl)⟩
theorem fl_X2_33 : FLk RX2 33 2 5 := ⟨_, rfl, by decide, Or.inl (gw_at 663 (by decide +kernel) rfl)⟩
theorem fl_X2_36 : FLk RX2 36 2 6 := ⟨_, rfl, by decide, Or.inl (gw_at 665 (by decide +kernel) rfl)⟩
theorem fl_X2_40 : FLk RX2 40 9 2 := ⟨_, rfl, by decide, Or.inr ⟨_, nw_at (w := Cond.fieldLinkNest RX2 40 "RoofGale$Years" "count" "I" "RoofGale") 589 (by decide +kernel) rfl, rfl⟩⟩
theorem fl_X2_43 : FLk RX2 43 9 3 := ⟨_, rfl, by decide, Or.inr ⟨_, nw_at (w := Cond.fieldLinkNest RX2 43 "RoofGale$Years" "kinds" "[I" "RoofGale") 592 (by decide +kernel) rfl, rfl⟩⟩
theorem fl_X2_54 : FLk RX2 54 9 7 := ⟨_, rfl, by decide, Or.inr ⟨_, nw_at (w := Cond.fieldLinkNest RX2 54 "RoofGale$Years" "partners" "[I" "RoofGale") 604 (by decide +kernel) rfl, rfl⟩⟩
theorem fl_X2_57 : FLk RX2 57 9 4 := ⟨_, rfl, by decide, Or.inr ⟨_, nw_at (w := Cond.fieldLinkNest RX2 57 "RoofGale$Years" "firsts" "[I" "RoofGale") 595 (by decide +kernel) rfl, rfl⟩⟩
theorem fl_X2_60 : FLk RX2 60 4 8 := ⟨_, rfl, by decide, Or.inr ⟨_, nw_at (w := Cond.fieldLinkNest RX2 60 "RoofGale$Shore" "minute" "I" "RoofGale") 555 (by decide +kernel) rfl, rfl⟩⟩
theorem fl_X2_77 : FLk RX2 77 9 5 := ⟨_, rfl, by decide, Or.inr ⟨_, nw_at (w := Cond.fieldLinkNest RX2 77 "RoofGale$Years" "seconds" "[I" "RoofGale") 598 (by decide +kernel) rfl, rfl⟩⟩
theorem fl_X2_84 : FLk RX2 84 4 1 := ⟨_, rfl, by decide, Or.inr ⟨_, nw_at (w := Cond.fieldLinkNest RX2 84 "RoofGale$Shore" "gangs" "[LRoofGale$Gang;" "RoofGale") 529 (by decide +kernel) rfl, rfl⟩⟩
theorem fl_X2_97 : FLk RX2 97 4 5 := ⟨_, rfl, by decide, Or.inr ⟨_, nw_at (w := Cond.fieldLinkNest RX2 97 "RoofGale$Shore" "windCount" "I" "RoofGale") 545 (by decide +kernel) rfl, rfl⟩⟩
theorem fl_X2_106 : FLk RX2 106 4 2 := ⟨_, rfl, by decide, Or.inr ⟨_, nw_at (w := Cond.fieldLinkNest RX2 106 "RoofGale$Shore" "winds" "[LRoofGale$Wind;" "RoofGale") 533 (by decide +kernel) rfl, rfl⟩⟩
theorem fl_X2_110 : FLk RX2 110 8 2 := ⟨_, rfl, by decide, Or.inr ⟨_, nw_at (w := Cond.fieldLinkNest RX2 110 "RoofGale$Wind" "chances" "I" "RoofGale") 511 (by decide +kernel) rfl, rfl⟩⟩
theorem fl_X2_115 : FLk RX2 115 8 1 := ⟨_, rfl, by decide, Or.inr ⟨_, nw_at (w := Cond.fieldLinkNest RX2 115 "RoofGale$Wind" "strength" "I" "RoofGale") 506 (by decide +kernel) rfl, rfl⟩⟩
theorem fl_X2_129 : FLk RX2 129 4 0 := ⟨_, rfl, by decide, Or.inr ⟨_, nw_at (w := Cond.fieldLinkNest RX2 129 "RoofGale$Shore" "houses" "[LRoofGale$House;" "RoofGale") 525 (by decide +kernel) rfl, rfl⟩⟩
theorem fl_X2_133 : FLk RX2 133 1 7 := ⟨_, rfl, by decide, Or.inr ⟨_, nw_at (w := Cond.fieldLinkNest RX2 133 "RoofGale$House" "on" "I" "RoofGale") 422 (by decide +kernel) rfl, rfl⟩⟩
theorem fl_X2_138 : FLk RX2 138 1 8 := ⟨_, rfl, by decide, Or.inr ⟨_, nw_at (w := Cond.fieldLinkNest RX2 138 "RoofGale$House" "stands" "Z" "RoofGale") 428 (by decide +kernel) rfl, rfl⟩⟩
theorem fl_X2_148 : FLk RX2 148 9 6 := ⟨_, rfl, by decide, Or.inr ⟨_, nw_at (w := Cond.fieldLinkNest RX2 148 "RoofGale$Years" "compares" "[I" "RoofGale") 601 (by decide +kernel) rfl, rfl⟩⟩
theorem ff_X2_11 : FFk RX2 11 2 7 := ⟨_, rfl, by decide, rfl, rfl, gw_at 666 (by decide +kernel) rfl⟩
theorem kc_X2_39 : Cond.constant RX2 39 1000000 ∈ GW := gw_at 1451 (by decide +kernel) rfl
theorem kc_X2_151 : Cond.constant RX2 151 65536 ∈ GW := gw_at 1470 (by decide +kernel) rfl
theorem oi_X2_3 : Cond.methodLink RX2 3 Lib.objectInit ∈ GW := gw_at 652 (by decide +kernel) rfl
theorem bi_X2_152 : Cond.methodLink RX2 152 Lib.Math.max.name ∈ GW := gw_at 1471 (by decide +kernel) rfl
theorem dX2_init_0 : decode cX2_init 0 = .ok (.aload_n 0, 1) := by decide +kernel
theorem dX2_init_1 : decode cX2_init 1 = .ok (.invokespecial 3, 3) := by decide +kernel
theorem dX2_init_4 : decode cX2_init 4 = .ok (.aload_n 0, 1) := by decide +kernel
theorem dX2_init_5 : decode cX2_init 5 = .ok (.bipush 60, 2) := by decide +kernel
theorem dX2_init_7 : decode cX2_init 7 = .ok (.newarray .int, 2) := by decide +kernel
theorem dX2_init_9 : decode cX2_init 9 = .ok (.putfield 11, 3) := by decide +kernel
theorem dX2_init_12 : decode cX2_init 12 = .ok (.return_, 1) := by decide +kernel
def j_X2_init : JD := (yX2_init, cX2_init, 1, none)
def b_X2_init : BD := (1, 1, 60)
theorem dX2_behindEnd_0 : decode cX2_behindEnd 0 = .ok (.aload_n 1, 1) := by decide +kernel
theorem dX2_behindEnd_1 : decode cX2_behindEnd 1 = .ok (.getfield 54, 3) := by decide +kernel
theorem dX2_behindEnd_4 : decode cX2_behindEnd 4 = .ok (.iload_n 2, 1) := by decide +kernel
theorem dX2_behindEnd_5 : decode cX2_behindEnd 5 = .ok (.iaload, 1) := by decide +kernel
theorem dX2_behindEnd_6 : decode cX2_behindEnd 6 = .ok (.istore_n 3, 1) := by decide +kernel
theorem dX2_behindEnd_7 : decode cX2_behindEnd 7 = .ok (.aload_n 1, 1) := by decide +kernel
theorem dX2_behindEnd_8 : decode cX2_behindEnd 8 = .ok (.getfield 43, 3) := by decide +kernel
theorem dX2_behindEnd_11 : decode cX2_behindEnd 11 = .ok (.iload_n 3, 1) := by decide +kernel
theorem dX2_behindEnd_12 : decode cX2_behindEnd 12 = .ok (.iaload, 1) := by decide +kernel
theorem dX2_behindEnd_13 : decode cX2_behindEnd 13 = .ok (.bipush 27, 2) := by decide +kernel
theorem dX2_behindEnd_15 : decode cX2_behindEnd 15 = .ok (.if_icmp .ne 27, 3) := by decide +kernel
theorem dX2_behindEnd_18 : decode cX2_behindEnd 18 = .ok (.aload_n 0, 1) := by decide +kernel
theorem dX2_behindEnd_19 : decode cX2_behindEnd 19 = .ok (.getfield 11, 3) := by decide +kernel
theorem dX2_behindEnd_22 : decode cX2_behindEnd 22 = .ok (.iload_n 3, 1) := by decide +kernel
theorem dX2_behindEnd_23 : decode cX2_behindEnd 23 = .ok (.iaload, 1) := by decide +kernel
theorem dX2_behindEnd_24 : decode cX2_behindEnd 24 = .ok (.iconst 1, 1) := by decide +kernel
theorem dX2_behindEnd_25 : decode cX2_behindEnd 25 = .ok (.if_icmp .le 17, 3) := by decide +kernel
theorem dX2_behindEnd_28 : decode cX2_behindEnd 28 = .ok (.aload_n 0, 1) := by decide +kernel
theorem dX2_behindEnd_29 : decode cX2_behindEnd 29 = .ok (.getfield 11, 3) := by decide +kernel
theorem dX2_behindEnd_32 : decode cX2_behindEnd 32 = .ok (.iload_n 3, 1) := by decide +kernel
theorem dX2_behindEnd_33 : decode cX2_behindEnd 33 = .ok (.dup2, 1) := by decide +kernel
theorem dX2_behindEnd_34 : decode cX2_behindEnd 34 = .ok (.iaload, 1) := by decide +kernel
theorem dX2_behindEnd_35 : decode cX2_behindEnd 35 = .ok (.iconst 1, 1) := by decide +kernel
theorem dX2_behindEnd_36 : decode cX2_behindEnd 36 = .ok (.isub, 1) := by decide +kernel
theorem dX2_behindEnd_37 : decode cX2_behindEnd 37 = .ok (.iastore, 1) := by decide +kernel
theorem dX2_behindEnd_38 : decode cX2_behindEnd 38 = .ok (.iload_n 3, 1) := by decide +kernel
theorem dX2_behindEnd_39 : decode cX2_behindEnd 39 = .ok (.iconst 1, 1) := by decide +kernel
theorem dX2_behindEnd_40 : decode cX2_behindEnd 40 = .ok (.iadd, 1) := by decide +kernel
theorem dX2_behindEnd_41 : decode cX2_behindEnd 41 = .ok (.ireturn, 1) := by decide +kernel
theorem dX2_behindEnd_42 : decode cX2_behindEnd 42 = .ok (.iload_n 2, 1) := by decide +kernel
theorem dX2_behindEnd_43 : decode cX2_behindEnd 43 = .ok (.iconst 1, 1) := by decide +kernel
theorem dX2_behindEnd_44 : decode cX2_behindEnd 44 = .ok (.iadd, 1) := by decide +kernel
theorem dX2_behindEnd_45 : decode cX2_behindEnd 45 = .ok (.ireturn, 1) := by decide +kernel
def j_X2_behindEnd : JD := (yX2_behindEnd, cX2_behindEnd, 4, (some .int))
def b_X2_behindEnd : BD := (0, 0, 0)
theorem dX2_draw_0 : decode cX2_draw 0 = .ok (.aload_n 0, 1) := by decide +kernel
theorem dX2_draw_1 : decode cX2_draw 1 = .ok (.aload_n 0, 1) := by decide +kernel
theorem dX2_draw_2 : decode cX2_draw 2 = .ok (.getfield 36, 3) := by decide +kernel
theorem dX2_draw_5 : decode cX2_draw 5 = .ok (.sipush 2909, 3) := by decide +kernel
theorem dX2_draw_8 : decode cX2_draw 8 = .ok (.imul, 1) := by decide +kernel
theorem dX2_draw_9 : decode cX2_draw 9 = .ok (.sipush 10597, 3) := by decide +kernel
theorem dX2_draw_12 : decode cX2_draw 12 = .ok (.iadd, 1) := by decide +kernel
theorem dX2_draw_13 : decode cX2_draw 13 = .ok (.ldc 151, 2) := by decide +kernel
theorem dX2_draw_15 : decode cX2_draw 15 = .ok (.irem, 1) := by decide +kernel
theorem dX2_draw_16 : decode cX2_draw 16 = .ok (.putfield 36, 3) := by decide +kernel
theorem dX2_draw_19 : decode cX2_draw 19 = .ok (.aload_n 0, 1) := by decide +kernel
theorem dX2_draw_20 : decode cX2_draw 20 = .ok (.getfield 36, 3) := by decide +kernel
theorem dX2_draw_23 : decode cX2_draw 23 = .ok (.bipush 8, 2) := by decide +kernel
theorem dX2_draw_25 : decode cX2_draw 25 = .ok (.idiv, 1) := by decide +kernel
theorem dX2_draw_26 : decode cX2_draw 26 = .ok (.iconst 1, 1) := by decide +kernel
theorem dX2_draw_27 : decode cX2_draw 27 = .ok (.iload_n 1, 1) := by decide +kernel
theorem dX2_draw_28 : decode cX2_draw 28 = .ok (.invokestatic 152, 3) := by decide +kernel
theorem dX2_draw_31 : decode cX2_draw 31 = .ok (.irem, 1) := by decide +kernel
theorem dX2_draw_32 : decode cX2_draw 32 = .ok (.ireturn, 1) := by decide +kernel
def j_X2_draw : JD := (yX2_draw, cX2_draw, 2, (some .int))
def b_X2_draw : BD := (1, 0, 0)
theorem dX2_doGale_0 : decode cX2_doGale 0 = .ok (.aload_n 1, 1) := by decide +kernel
theorem dX2_doGale_1 : decode cX2_doGale 1 = .ok (.getfield 97, 3) := by decide +kernel
theorem dX2_doGale_4 : decode cX2_doGale 4 = .ok (.ifCond .ne 14, 3) := by decide +kernel
theorem dX2_doGale_7 : decode cX2_doGale 7 = .ok (.aload_n 0, 1) := by decide +kernel
theorem dX2_doGale_8 : decode cX2_doGale 8 = .ok (.dup, 1) := by decide +kernel
theorem dX2_doGale_9 : decode cX2_doGale 9 = .ok (.getfield 21, 3) := by decide +kernel
theorem dX2_doGale_12 : decode cX2_doGale 12 = .ok (.iconst 1, 1) := by decide +kernel
theorem dX2_doGale_13 : decode cX2_doGale 13 = .ok (.iadd, 1) := by decide +kernel
theorem dX2_doGale_14 : decode cX2_doGale 14 = .ok (.putfield 21, 3) := by decide +kernel
theorem dX2_doGale_17 : decode cX2_doGale 17 = .ok (.return_, 1) := by decide +kernel
theorem dX2_doGale_18 : decode cX2_doGale 18 = .ok (.aload_n 0, 1) := by decide +kernel
theorem dX2_doGale_19 : decode cX2_doGale 19 = .ok (.aload_n 1, 1) := by decide +kernel
theorem dX2_doGale_20 : decode cX2_doGale 20 = .ok (.invokevirtual 100, 3) := by decide +kernel
theorem dX2_doGale_23 : decode cX2_doGale 23 = .ok (.invokevirtual 103, 3) := by decide +kernel
theorem dX2_doGale_26 : decode cX2_doGale 26 = .ok (.istore_n 2, 1) := by decide +kernel
theorem dX2_doGale_27 : decode cX2_doGale 27 = .ok (.iconst 0, 1) := by decide +kernel
theorem dX2_doGale_28 : decode cX2_doGale 28 = .ok (.istore_n 3, 1) := by decide +kernel
theorem dX2_doGale_29 : decode cX2_doGale 29 = .ok (.iload_n 3, 1) := by decide +kernel
theorem dX2_doGale_30 : decode cX2_doGale 30 = .ok (.aload_n 1, 1) := by decide +kernel
theorem dX2_doGale_31 : decode cX2_doGale 31 = .ok (.getfield 97, 3) := by decide +kernel
theorem dX2_doGale_34 : decode cX2_doGale 34 = .ok (.iconst 1, 1) := by decide +kernel
theorem dX2_doGale_35 : decode cX2_doGale 35 = .ok (.isub, 1) := by decide +kernel
theorem dX2_doGale_36 : decode cX2_doGale 36 = .ok (.if_icmp .ge 34, 3) := by decide +kernel
theorem dX2_doGale_39 : decode cX2_doGale 39 = .ok (.iload_n 2, 1) := by decide +kernel
theorem dX2_doGale_40 : decode cX2_doGale 40 = .ok (.aload_n 1, 1) := by decide +kernel
theorem dX2_doGale_41 : decode cX2_doGale 41 = .ok (.getfield 106, 3) := by decide +kernel
theorem dX2_doGale_44 : decode cX2_doGale 44 = .ok (.iload_n 3, 1) := by decide +kernel
theorem dX2_doGale_45 : decode cX2_doGale 45 = .ok (.aaload, 1) := by decide +kernel
theorem dX2_doGale_46 : decode cX2_doGale 46 = .ok (.getfield 110, 3) := by decide +kernel
theorem dX2_doGale_49 : decode cX2_doGale 49 = .ok (.if_icmp .lt 21, 3) := by decide +kernel
theorem dX2_doGale_52 : decode cX2_doGale 52 = .ok (.iload_n 2, 1) := by decide +kernel
theorem dX2_doGale_53 : decode cX2_doGale 53 = .ok (.aload_n 1, 1) := by decide +kernel
theorem dX2_doGale_54 : decode cX2_doGale 54 = .ok (.getfield 106, 3) := by decide +kernel
theorem dX2_doGale_57 : decode cX2_doGale 57 = .ok (.iload_n 3, 1) := by decide +kernel
theorem dX2_doGale_58 : decode cX2_doGale 58 = .ok (.aaload, 1) := by decide +kernel
theorem dX2_doGale_59 : decode cX2_doGale 59 = .ok (.getfield 110, 3) := by decide +kernel
theorem dX2_doGale_62 : decode cX2_doGale 62 = .ok (.isub, 1) := by decide +kernel
theorem dX2_doGale_63 : decode cX2_doGale 63 = .ok (.istore_n 2, 1) := by decide +kernel
theorem dX2_doGale_64 : decode cX2_doGale 64 = .ok (.iinc 3 1, 3) := by decide +kernel
theorem dX2_doGale_67 : decode cX2_doGale 67 = .ok (.goto (-38), 3) := by decide +kernel
theorem dX2_doGale_70 : decode cX2_doGale 70 = .ok (.aload_n 0, 1) := by decide +kernel
theorem dX2_doGale_71 : decode cX2_doGale 71 = .ok (.dup, 1) := by decide +kernel
theorem dX2_doGale_72 : decode cX2_doGale 72 = .ok (.getfield 30, 3) := by decide +kernel
theorem dX2_doGale_75 : decode cX2_doGale 75 = .ok (.aload_n 1, 1) := by decide +kernel
theorem dX2_doGale_76 : decode cX2_doGale 76 = .ok (.aload_n 1, 1) := by decide +kernel
theorem dX2_doGale_77 : decode cX2_doGale 77 = .ok (.getfield 106, 3) := by decide +kernel
theorem dX2_doGale_80 : decode cX2_doGale 80 = .ok (.iload_n 3, 1) := by decide +kernel
theorem dX2_doGale_81 : decode cX2_doGale 81 = .ok (.aaload, 1) := by decide +kernel
theorem dX2_doGale_82 : decode cX2_doGale 82 = .ok (.getfield 115, 3) := by decide +kernel
theorem dX2_doGale_85 : decode cX2_doGale 85 = .ok (.invokevirtual 118, 3) := by decide +kernel
theorem dX2_doGale_88 : decode cX2_doGale 88 = .ok (.iadd, 1) := by decide +kernel
theorem dX2_doGale_89 : decode cX2_doGale 89 = .ok (.putfield 30, 3) := by decide +kernel
theorem dX2_doGale_92 : decode cX2_doGale 92 = .ok (.return_, 1) := by decide +kernel
def j_X2_doGale : JD := (yX2_doGale, cX2_doGale, 4, none)
def b_X2_doGale : BD := (3, 0, 0)
theorem dX2_doLift_0 : decode cX2_doLift 0 = .ok (.aload_n 1, 1) := by decide +kernel
theorem dX2_doLift_1 : decode cX2_doLift 1 = .ok (.iload_n 3, 1) := by decide +kernel
theorem dX2_doLift_2 : decode cX2_doLift 2 = .ok (.iload_n 2, 1) := by decide +kernel
theorem dX2_doLift_3 : decode cX2_doLift 3 = .ok (.invokevirtual 121, 3) := by decide +kernel
theorem dX2_doLift_6 : decode cX2_doLift 6 = .ok (.ifCond .eq 13, 3) := by decide +kernel
theorem dX2_doLift_9 : decode cX2_doLift 9 = .ok (.aload_n 1, 1) := by decide +kernel
theorem dX2_doLift_10 : decode cX2_doLift 10 = .ok (.iload_n 3, 1) := by decide +kernel
theorem dX2_doLift_11 : decode cX2_doLift 11 = .ok (.iload_n 2, 1) := by decide +kernel
theorem dX2_doLift_12 : decode cX2_doLift 12 = .ok (.invokevirtual 125, 3) := by decide +kernel
theorem dX2_doLift_15 : decode cX2_doLift 15 = .ok (.pop, 1) := by decide +kernel
theorem dX2_doLift_16 : decode cX2_doLift 16 = .ok (.goto 13, 3) := by decide +kernel
theorem dX2_doLift_19 : decode cX2_doLift 19 = .ok (.aload_n 0, 1) := by decide +kernel
theorem dX2_doLift_20 : decode cX2_doLift 20 = .ok (.dup, 1) := by decide +kernel
theorem dX2_doLift_21 : decode cX2_doLift 21 = .ok (.getfield 21, 3) := by decide +kernel
theorem dX2_doLift_24 : decode cX2_doLift 24 = .ok (.iconst 1, 1) := by decide +kernel
theorem dX2_doLift_25 : decode cX2_doLift 25 = .ok (.iadd, 1) := by decide +kernel
theorem dX2_doLift_26 : decode cX2_doLift 26 = .ok (.putfield 21, 3) := by decide +kernel
theorem dX2_doLift_29 : decode cX2_doLift 29 = .ok (.return_, 1) := by decide +kernel
def j_X2_doLift : JD := (yX2_doLift, cX2_doLift, 4, none)
def b_X2_doLift : BD := (3, 0, 0)
theorem dX2_holds_0 : decode cX2_holds 0 = .ok (.aload_n 2, 1) := by decide +kernel
theorem dX2_holds_1 : decode cX2_holds 1 = .ok (.getfield 57, 3) := by decide +kernel
theorem dX2_holds_4 : decode cX2_holds 4 = .ok (.iload_n 3, 1) := by decide +kernel
theorem dX2_holds_5 : decode cX2_holds 5 = .ok (.iaload, 1) := by decide +kernel
theorem dX2_holds_6 : decode cX2_holds 6 = .ok (.istore 4, 2) := by decide +kernel
theorem dX2_holds_8 : decode cX2_holds 8 = .ok (.aload_n 2, 1) := by decide +kernel
theorem dX2_holds_9 : decode cX2_holds 9 = .ok (.getfield 77, 3) := by decide +kernel
theorem dX2_holds_12 : decode cX2_holds 12 = .ok (.iload_n 3, 1) := by decide +kernel
theorem dX2_holds_13 : decode cX2_holds 13 = .ok (.iaload, 1) := by decide +kernel
theorem dX2_holds_14 : decode cX2_holds 14 = .ok (.bipush 25, 2) := by decide +kernel
theorem dX2_holds_16 : decode cX2_holds 16 = .ok (.if_icmp .ne 22, 3) := by decide +kernel
theorem dX2_holds_19 : decode cX2_holds 19 = .ok (.aload_n 1, 1) := by decide +kernel
theorem dX2_holds_20 : decode cX2_holds 20 = .ok (.getfield 129, 3) := by decide +kernel
theorem dX2_holds_23 : decode cX2_holds 23 = .ok (.iload 4, 2) := by decide +kernel
theorem dX2_holds_25 : decode cX2_holds 25 = .ok (.aaload, 1) := by decide +kernel
theorem dX2_holds_26 : decode cX2_holds 26 = .ok (.getfield 133, 3) := by decide +kernel
theorem dX2_holds_29 : decode cX2_holds 29 = .ok (.ifCond .ne 7, 3) := by decide +kernel
theorem dX2_holds_32 : decode cX2_holds 32 = .ok (.iconst 1, 1) := by decide +kernel
theorem dX2_holds_33 : decode cX2_holds 33 = .ok (.goto 4, 3) := by decide +kernel
theorem dX2_holds_36 : decode cX2_holds 36 = .ok (.iconst 0, 1) := by decide +kernel
theorem dX2_holds_37 : decode cX2_holds 37 = .ok (.ireturn, 1) := by decide +kernel
theorem dX2_holds_38 : decode cX2_holds 38 = .ok (.aload_n 2, 1) := by decide +kernel
theorem dX2_holds_39 : decode cX2_holds 39 = .ok (.getfield 77, 3) := by decide +kernel
theorem dX2_holds_42 : decode cX2_holds 42 = .ok (.iload_n 3, 1) := by decide +kernel
theorem dX2_holds_43 : decode cX2_holds 43 = .ok (.iaload, 1) := by decide +kernel
theorem dX2_holds_44 : decode cX2_holds 44 = .ok (.bipush 26, 2) := by decide +kernel
theorem dX2_holds_46 : decode cX2_holds 46 = .ok (.if_icmp .ne 14, 3) := by decide +kernel
theorem dX2_holds_49 : decode cX2_holds 49 = .ok (.aload_n 1, 1) := by decide +kernel
theorem dX2_holds_50 : decode cX2_holds 50 = .ok (.getfield 129, 3) := by decide +kernel
theorem dX2_holds_53 : decode cX2_holds 53 = .ok (.iload 4, 2) := by decide +kernel
theorem dX2_holds_55 : decode cX2_holds 55 = .ok (.aaload, 1) := by decide +kernel
theorem dX2_holds_56 : decode cX2_holds 56 = .ok (.getfield 138, 3) := by decide +kernel
theorem dX2_holds_59 : decode cX2_holds 59 = .ok (.ireturn, 1) := by decide +kernel
theorem dX2_holds_60 : decode cX2_holds 60 = .ok (.aload_n 1, 1) := by decide +kernel
theorem dX2_holds_61 : decode cX2_holds 61 = .ok (.aload_n 1, 1) := by decide +kernel
theorem dX2_holds_62 : decode cX2_holds 62 = .ok (.invokevirtual 142, 3) := by decide +kernel
theorem dX2_holds_65 : decode cX2_holds 65 = .ok (.invokevirtual 145, 3) := by decide +kernel
theorem dX2_holds_68 : decode cX2_holds 68 = .ok (.istore 5, 2) := by decide +kernel
theorem dX2_holds_70 : decode cX2_holds 70 = .ok (.aload_n 2, 1) := by decide +kernel
theorem dX2_holds_71 : decode cX2_holds 71 = .ok (.getfield 148, 3) := by decide +kernel
theorem dX2_holds_74 : decode cX2_holds 74 = .ok (.iload_n 3, 1) := by decide +kernel
theorem dX2_holds_75 : decode cX2_holds 75 = .ok (.iaload, 1) := by decide +kernel
theorem dX2_holds_76 : decode cX2_holds 76 = .ok (.lookupswitch 54 #[(60, 28), (62, 41)], 28) := by decide +kernel
theorem dX2_holds_104 : decode cX2_holds 104 = .ok (.iload 5, 2) := by decide +kernel
theorem dX2_holds_106 : decode cX2_holds 106 = .ok (.iload 4, 2) := by decide +kernel
theorem dX2_holds_108 : decode cX2_holds 108 = .ok (.if_icmp .ge 7, 3) := by decide +kernel
theorem dX2_holds_111 : decode cX2_holds 111 = .ok (.iconst 1, 1) := by decide +kernel
theorem dX2_holds_112 : decode cX2_holds 112 = .ok (.goto 4, 3) := by decide +kernel
theorem dX2_holds_115 : decode cX2_holds 115 = .ok (.iconst 0, 1) := by decide +kernel
theorem dX2_holds_116 : decode cX2_holds 116 = .ok (.ireturn, 1) := by decide +kernel
theorem dX2_holds_117 : decode cX2_holds 117 = .ok (.iload 5, 2) := by decide +kernel
theorem dX2_holds_119 : decode cX2_holds 119 = .ok (.iload 4, 2) := by decide +kernel
theorem dX2_holds_121 : decode cX2_holds 121 = .ok (.if_icmp .le 7, 3) := by decide +kernel
theorem dX2_holds_124 : decode cX2_holds 124 = .ok (.iconst 1, 1) := by decide +kernel
theorem dX2_holds_125 : decode cX2_holds 125 = .ok (.goto 4, 3) := by decide +kernel
theorem dX2_holds_128 : decode cX2_holds 128 = .ok (.iconst 0, 1) := by decide +kernel
theorem dX2_holds_129 : decode cX2_holds 129 = .ok (.ireturn, 1) := by decide +kernel
theorem dX2_holds_130 : decode cX2_holds 130 = .ok (.iload 5, 2) := by decide +kernel
theorem dX2_holds_132 : decode cX2_holds 132 = .ok (.iload 4, 2) := by decide +kernel
theorem dX2_holds_134 : decode cX2_holds 134 = .ok (.if_icmp .ne 7, 3) := by decide +kernel
theorem dX2_holds_137 : decode cX2_holds 137 = .ok (.iconst 1, 1) := by decide +kernel
theorem dX2_holds_138 : decode cX2_holds 138 = .ok (.goto 4, 3) := by decide +kernel
theorem dX2_holds_141 : decode cX2_holds 141 = .ok (.iconst 0, 1) := by decide +kernel
theorem dX2_holds_142 : decode cX2_holds 142 = .ok (.ireturn, 1) := by decide +kernel
def j_X2_holds : JD := (yX2_holds, cX2_holds, 6, (some .boolean))
def b_X2_holds : BD := (1, 0, 0)
theorem dX2_doStep_0 : decode cX2_doStep 0 = .ok (.aload_n 2, 1) := by decide +kernel
theorem dX2_doStep_1 : decode cX2_doStep 1 = .ok (.getfield 57, 3) := by decide +kernel
theorem dX2_doStep_4 : decode cX2_doStep 4 = .ok (.iload_n 3, 1) := by decide +kernel
theorem dX2_doStep_5 : decode cX2_doStep 5 = .ok (.iaload, 1) := by decide +kernel
theorem dX2_doStep_6 : decode cX2_doStep 6 = .ok (.istore 4, 2) := by decide +kernel
theorem dX2_doStep_8 : decode cX2_doStep 8 = .ok (.aload_n 2, 1) := by decide +kernel
theorem dX2_doStep_9 : decode cX2_doStep 9 = .ok (.getfield 43, 3) := by decide +kernel
theorem dX2_doStep_12 : decode cX2_doStep 12 = .ok (.iload_n 3, 1) := by decide +kernel
theorem dX2_doStep_13 : decode cX2_doStep 13 = .ok (.iaload, 1) := by decide +kernel
theorem dX2_doStep_14 : decode cX2_doStep 14 = .ok (.tableswitch 194 18 27 #[54, 109, 117, 141, 125, 194, 158, 194, 194, 183], 54) := by decide +kernel
theorem dX2_doStep_68 : decode cX2_doStep 68 = .ok (.aload_n 1, 1) := by decide +kernel
theorem dX2_doStep_69 : decode cX2_doStep 69 = .ok (.getfield 60, 3) := by decide +kernel
theorem dX2_doStep_72 : decode cX2_doStep 72 = .ok (.iload 4, 2) := by decide +kernel
theorem dX2_doStep_74 : decode cX2_doStep 74 = .ok (.iadd, 1) := by decide +kernel
theorem dX2_doStep_75 : decode cX2_doStep 75 = .ok (.sipush 9999, 3) := by decide +kernel
theorem dX2_doStep_78 : decode cX2_doStep 78 = .ok (.if_icmp .le 16, 3) := by decide +kernel
theorem dX2_doStep_81 : decode cX2_doStep 81 = .ok (.aload_n 0, 1) := by decide +kernel
theorem dX2_doStep_82 : decode cX2_doStep 82 = .ok (.dup, 1) := by decide +kernel
theorem dX2_doStep_83 : decode cX2_doStep 83 = .ok (.getfield 21, 3) := by decide +kernel
theorem dX2_doStep_86 : decode cX2_doStep 86 = .ok (.iconst 1, 1) := by decide +kernel
theorem dX2_doStep_87 : decode cX2_doStep 87 = .ok (.iadd, 1) := by decide +kernel
theorem dX2_doStep_88 : decode cX2_doStep 88 = .ok (.putfield 21, 3) := by decide +kernel
theorem dX2_doStep_91 : decode cX2_doStep 91 = .ok (.goto 122, 3) := by decide +kernel
theorem dX2_doStep_94 : decode cX2_doStep 94 = .ok (.aload_n 0, 1) := by decide +kernel
theorem dX2_doStep_95 : decode cX2_doStep 95 = .ok (.dup, 1) := by decide +kernel
theorem dX2_doStep_96 : decode cX2_doStep 96 = .ok (.getfield 27, 3) := by decide +kernel
theorem dX2_doStep_99 : decode cX2_doStep 99 = .ok (.aload_n 1, 1) := by decide +kernel
theorem dX2_doStep_100 : decode cX2_doStep 100 = .ok (.iload 4, 2) := by decide +kernel
theorem dX2_doStep_102 : decode cX2_doStep 102 = .ok (.invokevirtual 65, 3) := by decide +kernel
theorem dX2_doStep_105 : decode cX2_doStep 105 = .ok (.iadd, 1) := by decide +kernel
theorem dX2_doStep_106 : decode cX2_doStep 106 = .ok (.putfield 27, 3) := by decide +kernel
theorem dX2_doStep_109 : decode cX2_doStep 109 = .ok (.aload_n 0, 1) := by decide +kernel
theorem dX2_doStep_110 : decode cX2_doStep 110 = .ok (.dup, 1) := by decide +kernel
theorem dX2_doStep_111 : decode cX2_doStep 111 = .ok (.getfield 24, 3) := by decide +kernel
theorem dX2_doStep_114 : decode cX2_doStep 114 = .ok (.iload 4, 2) := by decide +kernel
theorem dX2_doStep_116 : decode cX2_doStep 116 = .ok (.iadd, 1) := by decide +kernel
theorem dX2_doStep_117 : decode cX2_doStep 117 = .ok (.putfield 24, 3) := by decide +kernel
theorem dX2_doStep_120 : decode cX2_doStep 120 = .ok (.goto 93, 3) := by decide +kernel
theorem dX2_doStep_123 : decode cX2_doStep 123 = .ok (.aload_n 0, 1) := by decide +kernel
theorem dX2_doStep_124 : decode cX2_doStep 124 = .ok (.aload_n 1, 1) := by decide +kernel
theorem dX2_doStep_125 : decode cX2_doStep 125 = .ok (.invokevirtual 69, 3) := by decide +kernel
theorem dX2_doStep_128 : decode cX2_doStep 128 = .ok (.goto 85, 3) := by decide +kernel
theorem dX2_doStep_131 : decode cX2_doStep 131 = .ok (.aload_n 1, 1) := by decide +kernel
theorem dX2_doStep_132 : decode cX2_doStep 132 = .ok (.invokevirtual 73, 3) := by decide +kernel
theorem dX2_doStep_135 : decode cX2_doStep 135 = .ok (.pop, 1) := by decide +kernel
theorem dX2_doStep_136 : decode cX2_doStep 136 = .ok (.goto 77, 3) := by decide +kernel
theorem dX2_doStep_139 : decode cX2_doStep 139 = .ok (.aload_n 0, 1) := by decide +kernel
theorem dX2_doStep_140 : decode cX2_doStep 140 = .ok (.aload_n 1, 1) := by decide +kernel
theorem dX2_doStep_141 : decode cX2_doStep 141 = .ok (.iload 4, 2) := by decide +kernel
theorem dX2_doStep_143 : decode cX2_doStep 143 = .ok (.aload_n 2, 1) := by decide +kernel
theorem dX2_doStep_144 : decode cX2_doStep 144 = .ok (.getfield 77, 3) := by decide +kernel
theorem dX2_doStep_147 : decode cX2_doStep 147 = .ok (.iload_n 3, 1) := by decide +kernel
theorem dX2_doStep_148 : decode cX2_doStep 148 = .ok (.iaload, 1) := by decide +kernel
theorem dX2_doStep_149 : decode cX2_doStep 149 = .ok (.invokevirtual 80, 3) := by decide +kernel
theorem dX2_doStep_152 : decode cX2_doStep 152 = .ok (.goto 61, 3) := by decide +kernel
theorem dX2_doStep_155 : decode cX2_doStep 155 = .ok (.aload_n 1, 1) := by decide +kernel
theorem dX2_doStep_156 : decode cX2_doStep 156 = .ok (.getfield 84, 3) := by decide +kernel
theorem dX2_doStep_159 : decode cX2_doStep 159 = .ok (.aload_n 2, 1) := by decide +kernel
theorem dX2_doStep_160 : decode cX2_doStep 160 = .ok (.getfield 77, 3) := by decide +kernel
theorem dX2_doStep_163 : decode cX2_doStep 163 = .ok (.iload_n 3, 1) := by decide +kernel
theorem dX2_doStep_164 : decode cX2_doStep 164 = .ok (.iaload, 1) := by decide +kernel
theorem dX2_doStep_165 : decode cX2_doStep 165 = .ok (.aaload, 1) := by decide +kernel
theorem dX2_doStep_166 : decode cX2_doStep 166 = .ok (.invokevirtual 88, 3) := by decide +kernel
theorem dX2_doStep_169 : decode cX2_doStep 169 = .ok (.goto 44, 3) := by decide +kernel
theorem dX2_doStep_172 : decode cX2_doStep 172 = .ok (.aload_n 0, 1) := by decide +kernel
theorem dX2_doStep_173 : decode cX2_doStep 173 = .ok (.aload_n 1, 1) := by decide +kernel
theorem dX2_doStep_174 : decode cX2_doStep 174 = .ok (.aload_n 2, 1) := by decide +kernel
theorem dX2_doStep_175 : decode cX2_doStep 175 = .ok (.iload_n 3, 1) := by decide +kernel
theorem dX2_doStep_176 : decode cX2_doStep 176 = .ok (.invokevirtual 93, 3) := by decide +kernel
theorem dX2_doStep_179 : decode cX2_doStep 179 = .ok (.ifCond .eq 9, 3) := by decide +kernel
theorem dX2_doStep_182 : decode cX2_doStep 182 = .ok (.iload_n 3, 1) := by decide +kernel
theorem dX2_doStep_183 : decode cX2_doStep 183 = .ok (.iconst 1, 1) := by decide +kernel
theorem dX2_doStep_184 : decode cX2_doStep 184 = .ok (.iadd, 1) := by decide +kernel
theorem dX2_doStep_185 : decode cX2_doStep 185 = .ok (.goto 11, 3) := by decide +kernel
theorem dX2_doStep_188 : decode cX2_doStep 188 = .ok (.aload_n 2, 1) := by decide +kernel
theorem dX2_doStep_189 : decode cX2_doStep 189 = .ok (.getfield 54, 3) := by decide +kernel
theorem dX2_doStep_192 : decode cX2_doStep 192 = .ok (.iload_n 3, 1) := by decide +kernel
theorem dX2_doStep_193 : decode cX2_doStep 193 = .ok (.iaload, 1) := by decide +kernel
theorem dX2_doStep_194 : decode cX2_doStep 194 = .ok (.iconst 1, 1) := by decide +kernel
theorem dX2_doStep_195 : decode cX2_doStep 195 = .ok (.iadd, 1) := by decide +kernel
theorem dX2_doStep_196 : decode cX2_doStep 196 = .ok (.ireturn, 1) := by decide +kernel
theorem dX2_doStep_197 : decode cX2_doStep 197 = .ok (.aload_n 0, 1) := by decide +kernel
theorem dX2_doStep_198 : decode cX2_doStep 198 = .ok (.getfield 11, 3) := by decide +kernel
theorem dX2_doStep_201 : decode cX2_doStep 201 = .ok (.iload_n 3, 1) := by decide +kernel
theorem dX2_doStep_202 : decode cX2_doStep 202 = .ok (.iload 4, 2) := by decide +kernel
theorem dX2_doStep_204 : decode cX2_doStep 204 = .ok (.iastore, 1) := by decide +kernel
theorem dX2_doStep_205 : decode cX2_doStep 205 = .ok (.goto 8, 3) := by decide +kernel
theorem dX2_doStep_208 : decode cX2_doStep 208 = .ok (.aload_n 2, 1) := by decide +kernel
theorem dX2_doStep_209 : decode cX2_doStep 209 = .ok (.getfield 40, 3) := by decide +kernel
theorem dX2_doStep_212 : decode cX2_doStep 212 = .ok (.ireturn, 1) := by decide +kernel
theorem dX2_doStep_213 : decode cX2_doStep 213 = .ok (.iload_n 3, 1) := by decide +kernel
theorem dX2_doStep_214 : decode cX2_doStep 214 = .ok (.iconst 1, 1) := by decide +kernel
theorem dX2_doStep_215 : decode cX2_doStep 215 = .ok (.iadd, 1) := by decide +kernel
theorem dX2_doStep_216 : decode cX2_doStep 216 = .ok (.ireturn, 1) := by decide +kernel
def j_X2_doStep : JD := (yX2_doStep, cX2_doStep, 5, (some .int))
def b_X2_doStep : BD := (5, 0, 0)
theorem dX2_run_0 : decode cX2_run 0 = .ok (.aload_n 0, 1) := by decide +kernel
theorem dX2_run_1 : decode cX2_run 1 = .ok (.iconst 0, 1) := by decide +kernel
theorem dX2_run_2 : decode cX2_run 2 = .ok (.putfield 17, 3) := by decide +kernel
theorem dX2_run_5 : decode cX2_run 5 = .ok (.aload_n 0, 1) := by decide +kernel
theorem dX2_run_6 : decode cX2_run 6 = .ok (.iconst 0, 1) := by decide +kernel
theorem dX2_run_7 : decode cX2_run 7 = .ok (.putfield 21, 3) := by decide +kernel
theorem dX2_run_10 : decode cX2_run 10 = .ok (.aload_n 0, 1) := by decide +kernel
theorem dX2_run_11 : decode cX2_run 11 = .ok (.iconst 0, 1) := by decide +kernel
theorem dX2_run_12 : decode cX2_run 12 = .ok (.putfield 24, 3) := by decide +kernel
theorem dX2_run_15 : decode cX2_run 15 = .ok (.aload_n 0, 1) := by decide +kernel
theorem dX2_run_16 : decode cX2_run 16 = .ok (.iconst 0, 1) := by decide +kernel
theorem dX2_run_17 : decode cX2_run 17 = .ok (.putfield 27, 3) := by decide +kernel
theorem dX2_run_20 : decode cX2_run 20 = .ok (.aload_n 0, 1) := by decide +kernel
theorem dX2_run_21 : decode cX2_run 21 = .ok (.iconst 0, 1) := by decide +kernel
theorem dX2_run_22 : decode cX2_run 22 = .ok (.putfield 30, 3) := by decide +kernel
theorem dX2_run_25 : decode cX2_run 25 = .ok (.aload_n 0, 1) := by decide +kernel
theorem dX2_run_26 : decode cX2_run 26 = .ok (.iconst 0, 1) := by decide +kernel
theorem dX2_run_27 : decode cX2_run 27 = .ok (.putfield 33, 3) := by decide +kernel
theorem dX2_run_30 : decode cX2_run 30 = .ok (.aload_n 0, 1) := by decide +kernel
theorem dX2_run_31 : decode cX2_run 31 = .ok (.iload_n 3, 1) := by decide +kernel
theorem dX2_run_32 : decode cX2_run 32 = .ok (.putfield 36, 3) := by decide +kernel
theorem dX2_run_35 : decode cX2_run 35 = .ok (.iconst 0, 1) := by decide +kernel
theorem dX2_run_36 : decode cX2_run 36 = .ok (.istore 4, 2) := by decide +kernel
theorem dX2_run_38 : decode cX2_run 38 = .ok (.iconst 0, 1) := by decide +kernel
theorem dX2_run_39 : decode cX2_run 39 = .ok (.istore 5, 2) := by decide +kernel
theorem dX2_run_41 : decode cX2_run 41 = .ok (.iload 5, 2) := by decide +kernel
theorem dX2_run_43 : decode cX2_run 43 = .ok (.ldc 39, 2) := by decide +kernel
theorem dX2_run_45 : decode cX2_run 45 = .ok (.if_icmp .ge 86, 3) := by decide +kernel
theorem dX2_run_48 : decode cX2_run 48 = .ok (.iload 4, 2) := by decide +kernel
theorem dX2_run_50 : decode cX2_run 50 = .ok (.aload_n 2, 1) := by decide +kernel
theorem dX2_run_51 : decode cX2_run 51 = .ok (.getfield 40, 3) := by decide +kernel
theorem dX2_run_54 : decode cX2_run 54 = .ok (.if_icmp .ge 77, 3) := by decide +kernel
theorem dX2_run_57 : decode cX2_run 57 = .ok (.aload_n 2, 1) := by decide +kernel
theorem dX2_run_58 : decode cX2_run 58 = .ok (.getfield 43, 3) := by decide +kernel
theorem dX2_run_61 : decode cX2_run 61 = .ok (.iload 4, 2) := by decide +kernel
theorem dX2_run_63 : decode cX2_run 63 = .ok (.iaload, 1) := by decide +kernel
theorem dX2_run_64 : decode cX2_run 64 = .ok (.bipush 28, 2) := by decide +kernel
theorem dX2_run_66 : decode cX2_run 66 = .ok (.if_icmp .ne 15, 3) := by decide +kernel
theorem dX2_run_69 : decode cX2_run 69 = .ok (.aload_n 0, 1) := by decide +kernel
theorem dX2_run_70 : decode cX2_run 70 = .ok (.aload_n 2, 1) := by decide +kernel
theorem dX2_run_71 : decode cX2_run 71 = .ok (.iload 4, 2) := by decide +kernel
theorem dX2_run_73 : decode cX2_run 73 = .ok (.invokevirtual 46, 3) := by decide +kernel
theorem dX2_run_76 : decode cX2_run 76 = .ok (.istore 4, 2) := by decide +kernel
theorem dX2_run_78 : decode cX2_run 78 = .ok (.goto 47, 3) := by decide +kernel
theorem dX2_run_81 : decode cX2_run 81 = .ok (.aload_n 0, 1) := by decide +kernel
theorem dX2_run_82 : decode cX2_run 82 = .ok (.getfield 17, 3) := by decide +kernel
theorem dX2_run_85 : decode cX2_run 85 = .ok (.sipush 300, 3) := by decide +kernel
theorem dX2_run_88 : decode cX2_run 88 = .ok (.if_icmp .lt 17, 3) := by decide +kernel
theorem dX2_run_91 : decode cX2_run 91 = .ok (.aload_n 0, 1) := by decide +kernel
theorem dX2_run_92 : decode cX2_run 92 = .ok (.iconst 1, 1) := by decide +kernel
theorem dX2_run_93 : decode cX2_run 93 = .ok (.putfield 33, 3) := by decide +kernel
theorem dX2_run_96 : decode cX2_run 96 = .ok (.aload_n 2, 1) := by decide +kernel
theorem dX2_run_97 : decode cX2_run 97 = .ok (.getfield 40, 3) := by decide +kernel
theorem dX2_run_100 : decode cX2_run 100 = .ok (.istore 4, 2) := by decide +kernel
theorem dX2_run_102 : decode cX2_run 102 = .ok (.goto 23, 3) := by decide +kernel
theorem dX2_run_105 : decode cX2_run 105 = .ok (.aload_n 0, 1) := by decide +kernel
theorem dX2_run_106 : decode cX2_run 106 = .ok (.dup, 1) := by decide +kernel
theorem dX2_run_107 : decode cX2_run 107 = .ok (.getfield 17, 3) := by decide +kernel
theorem dX2_run_110 : decode cX2_run 110 = .ok (.iconst 1, 1) := by decide +kernel
theorem dX2_run_111 : decode cX2_run 111 = .ok (.iadd, 1) := by decide +kernel
theorem dX2_run_112 : decode cX2_run 112 = .ok (.putfield 17, 3) := by decide +kernel
theorem dX2_run_115 : decode cX2_run 115 = .ok (.aload_n 0, 1) := by decide +kernel
theorem dX2_run_116 : decode cX2_run 116 = .ok (.aload_n 1, 1) := by decide +kernel
theorem dX2_run_117 : decode cX2_run 117 = .ok (.aload_n 2, 1) := by decide +kernel
theorem dX2_run_118 : decode cX2_run 118 = .ok (.iload 4, 2) := by decide +kernel
theorem dX2_run_120 : decode cX2_run 120 = .ok (.invokevirtual 50, 3) := by decide +kernel
theorem dX2_run_123 : decode cX2_run 123 = .ok (.istore 4, 2) := by decide +kernel
theorem dX2_run_125 : decode cX2_run 125 = .ok (.iinc 5 1, 3) := by decide +kernel
theorem dX2_run_128 : decode cX2_run 128 = .ok (.goto (-87), 3) := by decide +kernel
theorem dX2_run_131 : decode cX2_run 131 = .ok (.return_, 1) := by decide +kernel
def j_X2_run : JD := (yX2_run, cX2_run, 6, none)
def b_X2_run : BD := (6, 0, 0)
theorem mi_X2_init : MI j_X2_init 0 := ⟨⟨gw_at 651 (by decide +kernel) rfl, gw_at 220 (by decide +kernel) rfl, ⟨by decide +kernel, by decide +kernel⟩, by decide +kernel, by decide, by decide +kernel⟩, rfl, rfl, gw_at 650 (by decide +kernel) rfl⟩
theorem mv_X2_behindEnd : MV j_X2_behindEnd 2 2 := ⟨⟨gw_at 1455 (by decide +kernel) rfl, gw_at 220 (by decide +kernel) rfl, ⟨by decide +kernel, by decide +kernel⟩, by decide +kernel, by decide, by decide +kernel⟩, ⟨_, rfl, rfl⟩, gw_at 1454 (by decide +kernel) rfl, gw_at 98 (by decide +kernel) rfl⟩
theorem mv_X2_draw : MV j_X2_draw 2 1 := ⟨⟨gw_at 1469 (by decide +kernel) rfl, gw_at 220 (by decide +kernel) rfl, ⟨by decide +kernel, by decide +kernel⟩, by decide +kernel, by decide, by decide +kernel⟩, ⟨_, rfl, rfl⟩, gw_at 1468 (by decide +kernel) rfl, gw_at 101 (by decide +kernel) rfl⟩
theorem mv_X2_doGale : MV j_X2_doGale 2 1 := ⟨⟨gw_at 1464 (by decide +kernel) rfl, gw_at 220 (by decide +kernel) rfl, ⟨by decide +kernel, by decide +kernel⟩, by decide +kernel, by decide, by decide +kernel⟩, ⟨_, rfl, rfl⟩, gw_at 1463 (by decide +kernel) rfl, gw_at 100 (by decide +kernel) rfl⟩
theorem mv_X2_doLift : MV j_X2_doLift 2 3 := ⟨⟨gw_at 1477 (by decide +kernel) rfl, gw_at 220 (by decide +kernel) rfl, ⟨by decide +kernel, by decide +kernel⟩, by decide +kernel, by decide, by decide +kernel⟩, ⟨_, rfl, rfl⟩, gw_at 1476 (by decide +kernel) rfl, gw_at 102 (by decide +kernel) rfl⟩
theorem mv_X2_holds : MV j_X2_holds 2 3 := ⟨⟨gw_at 1484 (by decide +kernel) rfl, gw_at 220 (by decide +kernel) rfl, ⟨by decide +kernel, by decide +kernel⟩, by decide +kernel, by decide, by decide +kernel⟩, ⟨_, rfl, rfl⟩, gw_at 1483 (by decide +kernel) rfl, gw_at 103 (by decide +kernel) rfl⟩
theorem mv_X2_doStep : MV j_X2_doStep 2 3 := ⟨⟨gw_at 1459 (by decide +kernel) rfl, gw_at 220 (by decide +kernel) rfl, ⟨by decide +kernel, by decide +kernel⟩, by decide +kernel, by decide, by decide +kernel⟩, ⟨_, rfl, rfl⟩, gw_at 1458 (by decide +kernel) rfl, gw_at 99 (by decide +kernel) rfl⟩
theorem mv_X2_run : MV j_X2_run 2 3 := ⟨⟨gw_at 1450 (by decide +kernel) rfl, gw_at 220 (by decide +kernel) rfl, ⟨by decide +kernel, by decide +kernel⟩, by decide +kernel, by decide, by decide +kernel⟩, ⟨_, rfl, rfl⟩, gw_at 1449 (by decide +kernel) rfl, gw_at 97 (by decide +kernel) rfl⟩
theorem ml_X2_46 : MLk RX2 46 j_X2_behindEnd.1 := Or.inl (gw_at 1452 (by decide +kernel) rfl)
theorem ml_X2_50 : MLk RX2 50 j_X2_doStep.1 := Or.inl (gw_at 1456 (by decide +kernel) rfl)
theorem ml_X2_65 : MLk RX2 65 j_X4_passHour.1 := Or.inr ⟨_, nw_at (w := Cond.methodLinkNest RX2 65 yX4_passHour "RoofGale") 1460 (by decide +kernel) rfl⟩
theorem ml_X2_69 : MLk RX2 69 j_X2_doGale.1 := Or.inl (gw_at 1461 (by decide +kernel) rfl)
theorem ml_X2_73 : MLk RX2 73 j_X4_breakDay.1 := Or.inr ⟨_, nw_at (w := Cond.methodLinkNest RX2 73 yX4_breakDay "RoofGale") 1473 (by decide +kernel) rfl⟩
theorem ml_X2_80 : MLk RX2 80 j_X2_doLift.1 := Or.inl (gw_at 1474 (by decide +kernel) rfl)
theorem ml_X2_88 : MLk RX2 88 j_X0_putDown.1 := Or.inr ⟨_, nw_at (w := Cond.methodLinkNest RX2 88 yX0_putDown "RoofGale") 1480 (by decide +kernel) rfl⟩
theorem ml_X2_93 : MLk RX2 93 j_X2_holds.1 := Or.inl (gw_at 1481 (by decide +kernel) rfl)
theorem ml_X2_100 : MLk RX2 100 j_X4_allChances.1 := Or.inr ⟨_, nw_at (w := Cond.methodLinkNest RX2 100 yX4_allChances "RoofGale") 1465 (by decide +kernel) rfl⟩
theorem ml_X2_103 : MLk RX2 103 j_X2_draw.1 := Or.inl (gw_at 1466 (by decide +kernel) rfl)
theorem ml_X2_118 : MLk RX2 118 j_X4_blow.1 := Or.inr ⟨_, nw_at (w := Cond.methodLinkNest RX2 118 yX4_blow "RoofGale") 1472 (by decide +kernel) rfl⟩
theorem ml_X2_121 : MLk RX2 121 j_X4_canTake.1 := Or.inr ⟨_, nw_at (w := Cond.methodLinkNest RX2 121 yX4_canTake "RoofGale") 1478 (by decide +kernel) rfl⟩
theorem ml_X2_125 : MLk RX2 125 j_X4_take.1 := Or.inr ⟨_, nw_at (w := Cond.methodLinkNest RX2 125 yX4_take "RoofGale") 1479 (by decide +kernel) rfl⟩
theorem ml_X2_142 : MLk RX2 142 j_X4_standingSet.1 := Or.inr ⟨_, nw_at (w := Cond.methodLinkNest RX2 142 yX4_standingSet "RoofGale") 1485 (by decide +kernel) rfl⟩
theorem ml_X2_145 : MLk RX2 145 j_X4_worthOf.1 := Or.inr ⟨_, nw_at (w := Cond.methodLinkNest RX2 145 yX4_worthOf "RoofGale") 1486 (by decide +kernel) rfl⟩
def f_X2_init (M : Mm) (l0 : Option Nat) : Option (Mm) := nz l0 <| nwa M 21 60 fun q7 M7 => pfR M7 l0 2 7 q7 fun M9 => some M9
set_option maxHeartbeats 4000000 in
set_option maxRecDepth 100000 in
theorem t_X2_init_e {G : GG} {X : CX} {ans : Mm} (he : EndV G X j_X2_init b_X2_init ans) {M : Mm} {l0 : Option Nat} (h : f_X2_init M l0 = some ans) : Wt G X j_X2_init b_X2_init 0 [(0, rf G.1 l0)] [] M 0 0 := by
  unfold f_X2_init at h
  refine wt_aload_n (pc := 0) 0 dX2_init_0 rfl ?_
  refine wt_oI (pc := 1) dX2_init_1 oi_X2_3 oiM oiC (by decide) (by decide) h (fun h => ?_)
  refine wt_aload_n (pc := 4) 0 dX2_init_4 rfl ?_
  refine wt_bipush (pc := 5) (v := 60) dX2_init_5 (by decide) ?_
  refine wt_newarray (pc := 7) (kd := 21) (ty := .int) (n' := 60) dX2_init_7 rfl rfl ac_int (fun _ _ h => h) (by decide) (by decide) (by decide) (by decide) h (fun q7 M7 h => ?_)
  refine wt_putFA (pc := 9) dX2_init_9 ff_X2_11 rfl rfl h (fun M9 h => ?_)
  cases h
  exact he 12 _ _ _ dX2_init_12 (by decide) (by decide)
set_option maxHeartbeats 4000000 in
set_option maxRecDepth 100000 in
theorem c_X2_init {G : GG} {M : Mm} {l0 : Option Nat} {r : Mm} (h : f_X2_init M l0 = some r) (l : Launch) : Ct l G j_X2_init b_X2_init [rf G.1 l0] M none r := cf_V (by decide +kernel) (by simp [lg_sl, rf_cat, cat_i, cat_l, j_X2_init]) rfl (by simp [lv_args, rf_cat, cat_i, cat_l]) (fun X he => t_X2_init_e he h)
def f_X2_behindEnd_42 (M : Mm) (l2 : Int32) : Option (Int32 × Mm) := some ((l2 + 1), M)
def f_X2_behindEnd (M : Mm) (l0 : Option Nat) (l1 : Option Nat) (l2 : Int32) : Option (Int32 × Mm) := gfR M l1 9 7 fun v1 => alI M v1 21 l2 fun v5 => gfR M l1 9 3 fun v8 => alI M v8 21 v5 fun v12 => if v12 = 27 then (gfR M l0 2 7 fun v19 => alI M v19 21 v5 fun v23 => if v23 ≤ 1 then (f_X2_behindEnd_42  M l2) else (gfR M l0 2 7 fun v29 => alI M v29 21 v5 fun v34 => asI M v29 21 v5 (v34 - 1) fun M37 => some ((v5 + 1), M37))) else (f_X2_behindEnd_42  M l2)
set_option maxHeartbeats 4000000 in
set_option maxRecDepth 100000 in
theorem t_X2_behindEnd_42 {G : GG} {X : CX} {ans : Int32 × Mm} (he : EndI G X j_X2_behindEnd b_X2_behindEnd ans) {M : Mm} {l2 : Int32} (h : f_X2_behindEnd_42 M l2 = some ans) : Wt G X j_X2_behindEnd b_X2_behindEnd 42 [(2, .int l2)] [] M 0 0 := by
  unfold f_X2_behindEnd_42 at h
  refine wt_iload_n (pc := 42) 0 dX2_behindEnd_42 rfl ?_
  refine wt_iconst (pc := 43) (v := 1) dX2_behindEnd_43 (by decide) ?_
  refine wt_iadd (pc := 44) dX2_behindEnd_44 ?_
  cases h
  exact he 45 _ _ _ dX2_behindEnd_45 (by decide) (by decide)
set_option maxHeartbeats 4000000 in
set_option maxRecDepth 100000 in
theorem t_X2_behindEnd_e {G : GG} {X : CX} {ans : Int32 × Mm} (he : EndI G X j_X2_behindEnd b_X2_behindEnd ans) {M : Mm} {l0 : Option Nat} {l1 : Option Nat} {l2 : Int32} (h : f_X2_behindEnd M l0 l1 l2 = some ans) : Wt G X j_X2_behindEnd b_X2_behindEnd 0 [(0, rf G.1 l0), (1, rf G.1 l1), (2, .int l2)] [] M 0 0 := by
  unfold f_X2_behindEnd at h
  refine wt_aload_n (pc := 0) 1 dX2_behindEnd_0 rfl ?_
  refine wt_getR (pc := 1) dX2_behindEnd_1 fl_X2_54 (fun _ _ _ => rfl) h (fun v1 h => ?_)
  refine wt_iload_n (pc := 4) 2 dX2_behindEnd_4 rfl ?_
  refine wt_iaload (pc := 5) (kd := 21) dX2_behindEnd_5 rfl rfl h (fun v5 h => ?_)
  refine wt_istore_n (pc := 6) (i := 3) (ls' := [(3, .int v5), (0, rf G.1 l0), (1, rf G.1 l1), (2, .int l2)]) rfl dX2_behindEnd_6 (by decide) rfl ?_
  refine wt_aload_n (pc := 7) 2 dX2_behindEnd_7 rfl ?_
  refine wt_getR (pc := 8) dX2_behindEnd_8 fl_X2_43 (fun _ _ _ => rfl) h (fun v8 h => ?_)
  refine wt_iload_n (pc := 11) 0 dX2_behindEnd_11 rfl ?_
  refine wt_iaload (pc := 12) (kd := 21) dX2_behindEnd_12 rfl rfl h (fun v12 h => ?_)
  refine wt_bipush (pc := 13) (v := 27) dX2_behindEnd_13 (by decide) ?_
  refine wt_icmp_ne (pc := 15) (tgt := 42) dX2_behindEnd_15 (by decide) (fun q => ?_) (fun q => ?_)
  · have h := ite_f q h
    refine wt_sub (ls' := [(2, .int l2)]) [3] rfl ?_
    exact t_X2_behindEnd_42 he  h
  · have h := ite_t q h
    refine wt_aload_n (pc := 18) 1 dX2_behindEnd_18 rfl ?_
    refine wt_getR (pc := 19) dX2_behindEnd_19 fl_X2_11 (fun _ _ _ => rfl) h (fun v19 h => ?_)
    refine wt_iload_n (pc := 22) 0 dX2_behindEnd_22 rfl ?_
    refine wt_iaload (pc := 23) (kd := 21) dX2_behindEnd_23 rfl rfl h (fun v23 h => ?_)
    refine wt_iconst (pc := 24) (v := 1) dX2_behindEnd_24 (by decide) ?_
    refine wt_icmp_le (pc := 25) (tgt := 42) dX2_behindEnd_25 (by decide) (fun q => ?_) (fun q => ?_)
    · have h := ite_t q h
      refine wt_sub (ls' := [(2, .int l2)]) [3] rfl ?_
      exact t_X2_behindEnd_42 he  h
    · have h := ite_f q h
      refine wt_aload_n (pc := 28) 1 dX2_behindEnd_28 rfl ?_
      refine wt_getR (pc := 29) dX2_behindEnd_29 fl_X2_11 (fun _ _ _ => rfl) h (fun v29 h => ?_)
      refine wt_iload_n (pc := 32) 0 dX2_behindEnd_32 rfl ?_
      refine wt_dup2 (pc := 33) dX2_behindEnd_33 rfl (rf_cat _ _) ?_
      refine wt_iaload (pc := 34) (kd := 21) dX2_behindEnd_34 rfl rfl h (fun v34 h => ?_)
      refine wt_iconst (pc := 35) (v := 1) dX2_behindEnd_35 (by decide) ?_
      refine wt_isub (pc := 36) dX2_behindEnd_36 ?_
      refine wt_iastore (pc := 37) (kd := 21) dX2_behindEnd_37 rfl rfl h (fun M37 h => ?_)
      refine wt_iload_n (pc := 38) 0 dX2_behindEnd_38 rfl ?_
      refine wt_iconst (pc := 39) (v := 1) dX2_behindEnd_39 (by decide) ?_
      refine wt_iadd (pc := 40) dX2_behindEnd_40 ?_
      cases h
      exact he 41 _ _ _ dX2_behindEnd_41 (by decide) (by decide)
set_option maxHeartbeats 4000000 in
set_option maxRecDepth 100000 in
theorem c_X2_behindEnd {G : GG} {M : Mm} {l0 : Option Nat} {l1 : Option Nat} {l2 : Int32} {r : Int32 × Mm} (h : f_X2_behindEnd M l0 l1 l2 = some r) (l : Launch) : Ct l G j_X2_behindEnd b_X2_behindEnd [rf G.1 l0, rf G.1 l1, .int l2] M (some (.int r.1)) r.2 := cf_I (by decide +kernel) (by simp [lg_sl, rf_cat, cat_i, cat_l, j_X2_behindEnd]) rfl (by simp [lv_args, rf_cat, cat_i, cat_l]) (fun X he => t_X2_behindEnd_e he h)
def f_X2_draw (M : Mm) (l0 : Option Nat) (l1 : Int32) : Option (Int32 × Mm) := gfI M l0 2 6 fun v2 => dvI 65536 <| pfI M l0 2 6 (((v2 * 2909) + 10597) - ((v2 * 2909) + 10597) / 65536 * 65536) fun M16 => gfI M16 l0 2 6 fun v20 => dvI 8 <| dvI (mxI 1 l1) <| some (((v20 / 8) - (v20 / 8) / (mxI 1 l1) * (mxI 1 l1)), M16)
set_option maxHeartbeats 4000000 in
set_option maxRecDepth 100000 in
theorem t_X2_draw_e {G : GG} {X : CX} {ans : Int32 × Mm} (he : EndI G X j_X2_draw b_X2_draw ans) {M : Mm} {l0 : Option Nat} {l1 : Int32} (h : f_X2_draw M l0 l1 = some ans) : Wt G X j_X2_draw b_X2_draw 0 [(0, rf G.1 l0), (1, .int l1)] [] M 0 0 := by
  unfold f_X2_draw at h
  refine wt_aload_n (pc := 0) 0 dX2_draw_0 rfl ?_
  refine wt_aload_n (pc := 1) 0 dX2_draw_1 rfl ?_
  refine wt_getI (pc := 2) dX2_draw_2 fl_X2_36 (fun _ _ _ => rfl) h (fun v2 h => ?_)
  refine wt_sipush (pc := 5) (v := 2909) dX2_draw_5 (by decide) ?_
  refine wt_imul (pc := 8) dX2_draw_8 ?_
  refine wt_sipush (pc := 9) (v := 10597) dX2_draw_9 (by decide) ?_
  refine wt_iadd (pc := 12) dX2_draw_12 ?_
  refine wt_ldc (pc := 13) dX2_draw_13 kc_X2_151 ?_
  obtain ⟨qd, h⟩ := dvI_spec h
  refine wt_irem (pc := 15) dX2_draw_15 qd ?_
  refine wt_putI (pc := 16) dX2_draw_16 fl_X2_36 rfl rfl h (fun M16 h => ?_)
  refine wt_aload_n (pc := 19) 0 dX2_draw_19 rfl ?_
  refine wt_getI (pc := 20) dX2_draw_20 fl_X2_36 (fun _ _ _ => rfl) h (fun v20 h => ?_)
  refine wt_bipush (pc := 23) (v := 8) dX2_draw_23 (by decide) ?_
  obtain ⟨qd, h⟩ := dvI_spec h
  refine wt_idiv (pc := 25) dX2_draw_25 qd ?_
  refine wt_iconst (pc := 26) (v := 1) dX2_draw_26 (by decide) ?_
  refine wt_iload_n (pc := 27) 1 dX2_draw_27 rfl ?_
  refine wt_mmax (pc := 28) dX2_draw_28 bi_X2_152 mw_max.1 mw_max.2.1 mw_max.2.2 (by decide) (by decide) (by decide) (by simp [rf_cat, cat_i, cat_l, cat_r]) ?_
  obtain ⟨qd, h⟩ := dvI_spec h
  refine wt_irem (pc := 31) dX2_draw_31 qd ?_
  cases h
  exact he 32 _ _ _ dX2_draw_32 (by decide) (by decide)
set_option maxHeartbeats 4000000 in
set_option maxRecDepth 100000 in
theorem c_X2_draw {G : GG} {M : Mm} {l0 : Option Nat} {l1 : Int32} {r : Int32 × Mm} (h : f_X2_draw M l0 l1 = some r) (l : Launch) : Ct l G j_X2_draw b_X2_draw [rf G.1 l0, .int l1] M (some (.int r.1)) r.2 := cf_I (by decide +kernel) (by simp [lg_sl, rf_cat, cat_i, cat_l, j_X2_draw]) rfl (by simp [lv_args, rf_cat, cat_i, cat_l]) (fun X he => t_X2_draw_e he h)
def f_X2_doGale_70 (M : Mm) (l0 : Option Nat) (l1 : Option Nat) (l3 : Int32) : Option (Mm) := gfI M l0 2 4 fun v72 => gfR M l1 4 2 fun v77 => alR M v77 38 l3 fun v81 => gfI M v81 8 1 fun v82 => ck M l1 4 <| bd (f_X4_blow M l1 v82) fun v85 M85 => pfI M85 l0 2 4 (v72 + v85) fun M89 => some M89
def f_X2_doGale_29 : Nat → Mm → Option Nat → Option Nat → Int32 → Int32 → Option (Mm)
  | 0, _, _, _, _, _ => none
  | n + 1, M, l0, l1, l2, l3 => gfI M l1 4 5 fun v31 => if (v31 - 1) ≤ l3 then (f_X2_doGale_70  M l0 l1 l3) else (gfR M l1 4 2 fun v41 => alR M v41 38 l3 fun v45 => gfI M v45 8 2 fun v46 => if l2 < v46 then (f_X2_doGale_70  M l0 l1 l3) else (gfR M l1 4 2 fun v54 => alR M v54 38 l3 fun v58 => gfI M v58 8 2 fun v59 => nmI (l2 - v59) fun x63 => f_X2_doGale_29 n M l0 l1 x63 (l3 + 1)))
def f_X2_doGale (M : Mm) (l0 : Option Nat) (l1 : Option Nat) : Option (Mm) := gfI M l1 4 5 fun v1 => if v1 = 0 then (gfI M l0 2 1 fun v9 => pfI M l0 2 1 (v9 + 1) fun M14 => some M14) else (ck M l1 4 <| bd (f_X4_allChances M l1) fun v20 M20 => ck M20 l0 2 <| bd (f_X2_draw M20 l0 v20) fun v23 M23 => f_X2_doGale_29  fu M23 l0 l1 v23 0)
set_option maxHeartbeats 4000000 in
set_option maxRecDepth 100000 in
theorem t_X2_doGale_70 {G : GG} {X : CX} {ans : Mm} (he : EndV G X j_X2_doGale b_X2_doGale ans) {M : Mm} {l0 : Option Nat} {l1 : Option Nat} {l3 : Int32} (h : f_X2_doGale_70 M l0 l1 l3 = some ans) : Wt G X j_X2_doGale b_X2_doGale 70 [(0, rf G.1 l0), (1, rf G.1 l1), (3, .int l3)] [] M 0 0 := by
  unfold f_X2_doGale_70 at h
  refine wt_aload_n (pc := 70) 0 dX2_doGale_70 rfl ?_
  refine wt_dup (pc := 71) dX2_doGale_71 (rf_cat _ _) ?_
  refine wt_getI (pc := 72) dX2_doGale_72 fl_X2_30 (fun _ _ _ => rfl) h (fun v72 h => ?_)
  refine wt_aload_n (pc := 75) 1 dX2_doGale_75 rfl ?_
  refine wt_aload_n (pc := 76) 1 dX2_doGale_76 rfl ?_
  refine wt_getR (pc := 77) dX2_doGale_77 fl_X2_106 (fun _ _ _ => rfl) h (fun v77 h => ?_)
  refine wt_iload_n (pc := 80) 2 dX2_doGale_80 rfl ?_
  refine wt_aaload (pc := 81) (kd := 38) dX2_doGale_81 rfl rfl (by decide) h (fun v81 h => ?_)
  refine wt_getI (pc := 82) dX2_doGale_82 fl_X2_115 (fun _ _ _ => rfl) h (fun v82 h => ?_)
  refine wt_cVI (pc := 85) (J' := j_X4_blow) (As := [.int v82]) (st := [.int v72, rf G.1 l0]) (B' := b_X4_blow) (u' := 0) (w' := 0) dX2_doGale_85 ml_X2_118 mv_X4_blow (fun v9 M9 e9 => c_X4_blow e9) rfl (by decide) rfl rfl (by decide) (by decide) (by simp [rf_cat, cat_i, cat_l, cat_r]) rfl h (fun v85 M85 h => ?_)
  refine wt_iadd (pc := 88) dX2_doGale_88 ?_
  refine wt_putI (pc := 89) dX2_doGale_89 fl_X2_30 rfl rfl h (fun M89 h => ?_)
  cases h
  exact he 92 _ _ _ dX2_doGale_92 (by decide) (by decide)
set_option maxHeartbeats 4000000 in
set_option maxRecDepth 100000 in
theorem t_X2_doGale_29 {G : GG} {X : CX} {ans : Mm} (he : EndV G X j_X2_doGale b_X2_doGale ans) : ∀ (n : Nat) {M : Mm} {l0 : Option Nat} {l1 : Option Nat} {l2 : Int32} {l3 : Int32}, f_X2_doGale_29 n M l0 l1 l2 l3 = some ans → Wt G X j_X2_doGale b_X2_doGale 29 [(0, rf G.1 l0), (1, rf G.1 l1), (2, .int l2), (3, .int l3)] [] M 0 0 := by
  intro n
  induction n with
  | zero =>
    intro M l0 l1 l2 l3 h
    rw [f_X2_doGale_29] at h
    cases h
  | succ n ih =>
    intro M l0 l1 l2 l3 h
    rw [f_X2_doGale_29] at h
    refine wt_iload_n (pc := 29) 3 dX2_doGale_29 rfl ?_
    refine wt_aload_n (pc := 30) 1 dX2_doGale_30 rfl ?_
    refine wt_getI (pc := 31) dX2_doGale_31 fl_X2_97 (fun _ _ _ => rfl) h (fun v31 h => ?_)
    refine wt_iconst (pc := 34) (v := 1) dX2_doGale_34 (by decide) ?_
    refine wt_isub (pc := 35) dX2_doGale_35 ?_
    refine wt_icmp_ge (pc := 36) (tgt := 70) dX2_doGale_36 (by decide) (fun q => ?_) (fun q => ?_)
    · have h := ite_t q h
      refine wt_sub (ls' := [(0, rf G.1 l0), (1, rf G.1 l1), (3, .int l3)]) [0, 1, 3] rfl ?_
      exact t_X2_doGale_70 he  h
    · have h := ite_f q h
      refine wt_iload_n (pc := 39) 2 dX2_doGale_39 rfl ?_
      refine wt_aload_n (pc := 40) 1 dX2_doGale_40 rfl ?_
      refine wt_getR (pc := 41) dX2_doGale_41 fl_X2_106 (fun _ _ _ => rfl) h (fun v41 h => ?_)
      refine wt_iload_n (pc := 44) 3 dX2_doGale_44 rfl ?_
      refine wt_aaload (pc := 45) (kd := 38) dX2_doGale_45 rfl rfl (by decide) h (fun v45 h => ?_)
      refine wt_getI (pc := 46) dX2_doGale_46 fl_X2_110 (fun _ _ _ => rfl) h (fun v46 h => ?_)
      refine wt_icmp_lt (pc := 49) (tgt := 70) dX2_doGale_49 (by decide) (fun q => ?_) (fun q => ?_)
      · have h := ite_t q h
        refine wt_sub (ls' := [(0, rf G.1 l0), (1, rf G.1 l1), (3, .int l3)]) [0, 1, 3] rfl ?_
        exact t_X2_doGale_70 he  h
      · have h := ite_f q h
        refine wt_iload_n (pc := 52) 2 dX2_doGale_52 rfl ?_
        refine wt_aload_n (pc := 53) 1 dX2_doGale_53 rfl ?_
        refine wt_getR (pc := 54) dX2_doGale_54 fl_X2_106 (fun _ _ _ => rfl) h (fun v54 h => ?_)
        refine wt_iload_n (pc := 57) 3 dX2_doGale_57 rfl ?_
        refine wt_aaload (pc := 58) (kd := 38) dX2_doGale_58 rfl rfl (by decide) h (fun v58 h => ?_)
        refine wt_getI (pc := 59) dX2_doGale_59 fl_X2_110 (fun _ _ _ => rfl) h (fun v59 h => ?_)
        refine wt_isub (pc := 62) dX2_doGale_62 ?_
        refine wt_nmI h (fun x63 h => ?_)
        refine wt_istore_n (pc := 63) (i := 2) (ls' := [(2, .int x63), (0, rf G.1 l0), (1, rf G.1 l1), (3, .int l3)]) rfl dX2_doGale_63 (by decide) (by simp [rf_cat, cat_i, cat_l, cat_r]) ?_
        refine wt_iinc (pc := 64) (d := 1) (ls' := [(3, .int (l3 + 1)), (2, .int x63), (0, rf G.1 l0), (1, rf G.1 l1)]) 3 dX2_doGale_64 rfl (by decide) (by decide) rfl ?_
        refine wt_goto (pc := 67) (tgt := 29) dX2_doGale_67 (by decide) ?_
        refine wt_sub (ls' := [(0, rf G.1 l0), (1, rf G.1 l1), (2, .int x63), (3, .int (l3 + 1))]) [2, 3, 1, 0] rfl ?_
        exact ih h
set_option maxHeartbeats 4000000 in
set_option maxRecDepth 100000 in
theorem t_X2_doGale_e {G : GG} {X : CX} {ans : Mm} (he : EndV G X j_X2_doGale b_X2_doGale ans) {M : Mm} {l0 : Option Nat} {l1 : Option Nat} (h : f_X2_doGale M l0 l1 = some ans) : Wt G X j_X2_doGale b_X2_doGale 0 [(0, rf G.1 l0), (1, rf G.1 l1)] [] M 0 0 := by
  unfold f_X2_doGale at h
  refine wt_aload_n (pc := 0) 1 dX2_doGale_0 rfl ?_
  refine wt_getI (pc := 1) dX2_doGale_1 fl_X2_97 (fun _ _ _ => rfl) h (fun v1 h => ?_)
  refine wt_if_ne (pc := 4) (tgt := 18) dX2_doGale_4 (by decide) (fun q => ?_) (fun q => ?_)
  · have h := ite_f q h
    refine wt_aload_n (pc := 18) 0 dX2_doGale_18 rfl ?_
    refine wt_aload_n (pc := 19) 1 dX2_doGale_19 rfl ?_
    refine wt_cVI (pc := 20) (J' := j_X4_allChances) (As := []) (st := [rf G.1 l0]) (B' := b_X4_allChances) (u' := 0) (w' := 0) dX2_doGale_20 ml_X2_100 mv_X4_allChances (fun v9 M9 e9 => c_X4_allChances e9) rfl (by decide) rfl rfl (by decide) (by decide) (by simp [rf_cat, cat_i, cat_l, cat_r]) rfl h (fun v20 M20 h => ?_)
    refine wt_cVI (pc := 23) (J' := j_X2_draw) (As := [.int v20]) (st := []) (B' := b_X2_draw) (u' := 0) (w' := 0) dX2_doGale_23 ml_X2_103 mv_X2_draw (fun v9 M9 e9 => c_X2_draw e9) rfl (by decide) rfl rfl (by decide) (by decide) (by decide) rfl h (fun v23 M23 h => ?_)
    refine wt_istore_n (pc := 26) (i := 2) (ls' := [(2, .int v23), (0, rf G.1 l0), (1, rf G.1 l1)]) rfl dX2_doGale_26 (by decide) (by simp [rf_cat, cat_i, cat_l, cat_r]) ?_
    refine wt_iconst (pc := 27) (v := 0) dX2_doGale_27 (by decide) ?_
    refine wt_istore_n (pc := 28) (i := 3) (ls' := [(3, .int 0), (2, .int v23), (0, rf G.1 l0), (1, rf G.1 l1)]) rfl dX2_doGale_28 (by decide) rfl ?_
    refine wt_sub (ls' := [(0, rf G.1 l0), (1, rf G.1 l1), (2, .int v23), (3, .int 0)]) [2, 3, 1, 0] rfl ?_
    exact t_X2_doGale_29 he  fu h
  · have h := ite_t q h
    refine wt_aload_n (pc := 7) 0 dX2_doGale_7 rfl ?_
    refine wt_dup (pc := 8) dX2_doGale_8 (rf_cat _ _) ?_
    refine wt_getI (pc := 9) dX2_doGale_9 fl_X2_21 (fun _ _ _ => rfl) h (fun v9 h => ?_)
    refine wt_iconst (pc := 12) (v := 1) dX2_doGale_12 (by decide) ?_
    refine wt_iadd (pc := 13) dX2_doGale_13 ?_
    refine wt_putI (pc := 14) dX2_doGale_14 fl_X2_21 rfl rfl h (fun M14 h => ?_)
    cases h
    exact he 17 _ _ _ dX2_doGale_17 (by decide) (by decide)
set_option maxHeartbeats 4000000 in
set_option maxRecDepth 100000 in
theorem c_X2_doGale {G : GG} {M : Mm} {l0 : Option Nat} {l1 : Option Nat} {r : Mm} (h : f_X2_doGale M l0 l1 = some r) (l : Launch) : Ct l G j_X2_doGale b_X2_doGale [rf G.1 l0, rf G.1 l1] M none r := cf_V (by decide +kernel) (by simp [lg_sl, rf_cat, cat_i, cat_l, j_X2_doGale]) rfl (by simp [lv_args, rf_cat, cat_i, cat_l]) (fun X he => t_X2_doGale_e he h)
def f_X2_doLift (M : Mm) (l0 : Option Nat) (l1 : Option Nat) (l2 : Int32) (l3 : Int32) : Option (Mm) := ck M l1 4 <| bd (f_X4_canTake M l1 l3 l2) fun v3 M3 => if v3 = 0 then (gfI M3 l0 2 1 fun v21 => pfI M3 l0 2 1 (v21 + 1) fun M26 => some M26) else (ck M3 l1 4 <| bd (f_X4_take M3 l1 l3 l2) fun v12 M12 => some M12)
set_option maxHeartbeats 4000000 in
set_option maxRecDepth 100000 in
theorem t_X2_doLift_e {G : GG} {X : CX} {ans : Mm} (he : EndV G X j_X2_doLift b_X2_doLift ans) {M : Mm} {l0 : Option Nat} {l1 : Option Nat} {l2 : Int32} {l3 : Int32} (h : f_X2_doLift M l0 l1 l2 l3 = some ans) : Wt G X j_X2_doLift b_X2_doLift 0 [(0, rf G.1 l0), (1, rf G.1 l1), (2, .int l2), (3, .int l3)] [] M 0 0 := by
  unfold f_X2_doLift at h
  refine wt_aload_n (pc := 0) 1 dX2_doLift_0 rfl ?_
  refine wt_iload_n (pc := 1) 3 dX2_doLift_1 rfl ?_
  refine wt_iload_n (pc := 2) 2 dX2_doLift_2 rfl ?_
  refine wt_cVI (pc := 3) (J' := j_X4_canTake) (As := [.int l3, .int l2]) (st := []) (B' := b_X4_canTake) (u' := 0) (w' := 0) dX2_doLift_3 ml_X2_121 mv_X4_canTake (fun v9 M9 e9 => c_X4_canTake e9) rfl (by decide) rfl rfl (by decide) (by decide) (by decide) rfl h (fun v3 M3 h => ?_)
  refine wt_if_eq (pc := 6) (tgt := 19) dX2_doLift_6 (by decide) (fun q => ?_) (fun q => ?_)
  · have h := ite_t q h
    refine wt_aload_n (pc := 19) 0 dX2_doLift_19 rfl ?_
    refine wt_dup (pc := 20) dX2_doLift_20 (rf_cat _ _) ?_
    refine wt_getI (pc := 21) dX2_doLift_21 fl_X2_21 (fun _ _ _ => rfl) h (fun v21 h => ?_)
    refine wt_iconst (pc := 24) (v := 1) dX2_doLift_24 (by decide) ?_
    refine wt_iadd (pc := 25) dX2_doLift_25 ?_
    refine wt_putI (pc := 26) dX2_doLift_26 fl_X2_21 rfl rfl h (fun M26 h => ?_)
    cases h
    exact he 29 _ _ _ dX2_doLift_29 (by decide) (by decide)
  · have h := ite_f q h
    refine wt_aload_n (pc := 9) 1 dX2_doLift_9 rfl ?_
    refine wt_iload_n (pc := 10) 3 dX2_doLift_10 rfl ?_
    refine wt_iload_n (pc := 11) 2 dX2_doLift_11 rfl ?_
    refine wt_cVI (pc := 12) (J' := j_X4_take) (As := [.int l3, .int l2]) (st := []) (B' := b_X4_take) (u' := 0) (w' := 0) dX2_doLift_12 ml_X2_125 mv_X4_take (fun v9 M9 e9 => c_X4_take e9) rfl (by decide) rfl rfl (by decide) (by decide) (by decide) rfl h (fun v12 M12 h => ?_)
    refine wt_pop (pc := 15) dX2_doLift_15 rfl ?_
    refine wt_goto (pc := 16) (tgt := 29) dX2_doLift_16 (by decide) ?_
    cases h
    exact he 29 _ _ _ dX2_doLift_29 (by decide) (by decide)
set_option maxHeartbeats 4000000 in
set_option maxRecDepth 100000 in
theorem c_X2_doLift {G : GG} {M : Mm} {l0 : Option Nat} {l1 : Option Nat} {l2 : Int32} {l3 : Int32} {r : Mm} (h : f_X2_doLift M l0 l1 l2 l3 = some r) (l : Launch) : Ct l G j_X2_doLift b_X2_doLift [rf G.1 l0, rf G.1 l1, .int l2, .int l3] M none r := cf_V (by decide +kernel) (by simp [lg_sl, rf_cat, cat_i, cat_l, j_X2_doLift]) rfl (by simp [lv_args, rf_cat, cat_i, cat_l]) (fun X he => t_X2_doLift_e he h)
def g_X2_holds (M : Mm) (l0 : Option Nat) (l1 : Option Nat) (l2 : Option Nat) (l3 : Int32) : Option (Int32 × Mm) := gfR M l2 9 4 fun v1 => alI M v1 21 l3 fun v5 => gfR M l2 9 5 fun v9 => alI M v9 21 l3 fun v13 => if v13 = 25 then (gfR M l1 4 0 fun v20 => alR M v20 31 v5 fun v25 => gfI M v25 1 7 fun v26 => if v26 = 0 then (some (1, M)) else (some (0, M))) else (gfR M l2 9 5 fun v39 => alI M v39 21 l3 fun v43 => if v43 = 26 then (gfR M l1 4 0 fun v50 => alR M v50 31 v5 fun v55 => gfI M v55 1 8 fun v56 => some (v56, M)) else (ck M l1 4 <| bd (f_X4_standingSet M l1) fun v62 M62 => ck M62 l1 4 <| bd (f_X4_worthOf M62 l1 v62) fun v65 M65 => gfR M65 l2 9 6 fun v71 => alI M65 v71 21 l3 fun v75 => if v75 = 60 then (if v5 ≤ v65 then (some (0, M65)) else (some (1, M65))) else if v75 = 62 then (if v65 ≤ v5 then (some (0, M65)) else (some (1, M65))) else (if v65 = v5 then (some (1, M65)) else (some (0, M65)))))
def f_X2_holds (M : Mm) (l0 : Option Nat) (l1 : Option Nat) (l2 : Option Nat) (l3 : Int32) : Option (Int32 × Mm) := zc (g_X2_holds M l0 l1 l2 l3)
set_option maxHeartbeats 4000000 in
set_option maxRecDepth 100000 in
theorem t_X2_holds_e {G : GG} {X : CX} {ans : Int32 × Mm} (he : EndI G X j_X2_holds b_X2_holds ans) {M : Mm} {l0 : Option Nat} {l1 : Option Nat} {l2 : Option Nat} {l3 : Int32} (h : g_X2_holds M l0 l1 l2 l3 = some ans) : Wt G X j_X2_holds b_X2_holds 0 [(0, rf G.1 l0), (1, rf G.1 l1), (2, rf G.1 l2), (3, .int l3)] [] M 0 0 := by
  unfold g_X2_holds at h
  refine wt_aload_n (pc := 0) 2 dX2_holds_0 rfl ?_
  refine wt_getR (pc := 1) dX2_holds_1 fl_X2_57 (fun _ _ _ => rfl) h (fun v1 h => ?_)
  refine wt_iload_n (pc := 4) 3 dX2_holds_4 rfl ?_
  refine wt_iaload (pc := 5) (kd := 21) dX2_holds_5 rfl rfl h (fun v5 h => ?_)
  refine wt_istore (pc := 6) (i := 4) (ls' := [(4, .int v5), (0, rf G.1 l0), (1, rf G.1 l1), (2, rf G.1 l2), (3, .int l3)]) dX2_holds_6 (by decide) rfl ?_
  refine wt_aload_n (pc := 8) 3 dX2_holds_8 rfl ?_
  refine wt_getR (pc := 9) dX2_holds_9 fl_X2_77 (fun _ _ _ => rfl) h (fun v9 h => ?_)
  refine wt_iload_n (pc := 12) 4 dX2_holds_12 rfl ?_
  refine wt_iaload (pc := 13) (kd := 21) dX2_holds_13 rfl rfl h (fun v13 h => ?_)
  refine wt_bipush (pc := 14) (v := 25) dX2_holds_14 (by decide) ?_
  refine wt_icmp_ne (pc := 16) (tgt := 38) dX2_holds_16 (by decide) (fun q => ?_) (fun q => ?_)
  · have h := ite_f q h
    refine wt_aload_n (pc := 38) 3 dX2_holds_38 rfl ?_
    refine wt_getR (pc := 39) dX2_holds_39 fl_X2_77 (fun _ _ _ => rfl) h (fun v39 h => ?_)
    refine wt_iload_n (pc := 42) 4 dX2_holds_42 rfl ?_
    refine wt_iaload (pc := 43) (kd := 21) dX2_holds_43 rfl rfl h (fun v43 h => ?_)
    refine wt_bipush (pc := 44) (v := 26) dX2_holds_44 (by decide) ?_
    refine wt_icmp_ne (pc := 46) (tgt := 60) dX2_holds_46 (by decide) (fun q => ?_) (fun q => ?_)
    · have h := ite_f q h
      refine wt_aload_n (pc := 60) 2 dX2_holds_60 rfl ?_
      refine wt_aload_n (pc := 61) 2 dX2_holds_61 rfl ?_
      refine wt_cVI (pc := 62) (J' := j_X4_standingSet) (As := []) (st := [rf G.1 l1]) (B' := b_X4_standingSet) (u' := 0) (w' := 0) dX2_holds_62 ml_X2_142 mv_X4_standingSet (fun v9 M9 e9 => c_X4_standingSet e9) rfl (by decide) rfl rfl (by decide) (by decide) (by simp [rf_cat, cat_i, cat_l, cat_r]) rfl h (fun v62 M62 h => ?_)
      refine wt_cVI (pc := 65) (J' := j_X4_worthOf) (As := [.int v62]) (st := []) (B' := b_X4_worthOf) (u' := 0) (w' := 0) dX2_holds_65 ml_X2_145 mv_X4_worthOf (fun v9 M9 e9 => c_X4_worthOf e9) rfl (by decide) rfl rfl (by decide) (by decide) (by decide) rfl h (fun v65 M65 h => ?_)
      refine wt_istore (pc := 68) (i := 5) (ls' := [(5, .int v65), (4, .int v5), (0, rf G.1 l0), (1, rf G.1 l1), (2, rf G.1 l2), (3, .int l3)]) dX2_holds_68 (by decide) rfl ?_
      refine wt_aload_n (pc := 70) 4 dX2_holds_70 rfl ?_
      refine wt_getR (pc := 71) dX2_holds_71 fl_X2_148 (fun _ _ _ => rfl) h (fun v71 h => ?_)
      refine wt_iload_n (pc := 74) 5 dX2_holds_74 rfl ?_
      refine wt_iaload (pc := 75) (kd := 21) dX2_holds_75 rfl rfl h (fun v75 h => ?_)
      rcases Decidable.em (v75 = 60) with q76_0 | q76_0
      · have h := ite_t q76_0 h
        refine wt_lookup (pc := 76) (off := 28) (tgt := 104) dX2_holds_76 (by decide) (by rw [q76_0]; rfl) (by decide) ?_
        refine wt_iload (pc := 104) 0 dX2_holds_104 rfl ?_
        refine wt_iload (pc := 106) 1 dX2_holds_106 rfl ?_
        refine wt_icmp_ge (pc := 108) (tgt := 115) dX2_holds_108 (by decide) (fun q => ?_) (fun q => ?_)
        · have h := ite_t q h
          refine wt_iconst (pc := 115) (v := 0) dX2_holds_115 (by decide) ?_
          cases h
          exact he 116 _ _ _ dX2_holds_116 (by decide) (by decide)
        · have h := ite_f q h
          refine wt_iconst (pc := 111) (v := 1) dX2_holds_111 (by decide) ?_
          refine wt_goto (pc := 112) (tgt := 116) dX2_holds_112 (by decide) ?_
          cases h
          exact he 116 _ _ _ dX2_holds_116 (by decide) (by decide)
      have h := ite_f q76_0 h
      rcases Decidable.em (v75 = 62) with q76_1 | q76_1
      · have h := ite_t q76_1 h
        refine wt_lookup (pc := 76) (off := 41) (tgt := 117) dX2_holds_76 (by decide) (by rw [q76_1]; rfl) (by decide) ?_
        refine wt_iload (pc := 117) 0 dX2_holds_117 rfl ?_
        refine wt_iload (pc := 119) 1 dX2_holds_119 rfl ?_
        refine wt_icmp_le (pc := 121) (tgt := 128) dX2_holds_121 (by decide) (fun q => ?_) (fun q => ?_)
        · have h := ite_t q h
          refine wt_iconst (pc := 128) (v := 0) dX2_holds_128 (by decide) ?_
          cases h
          exact he 129 _ _ _ dX2_holds_129 (by decide) (by decide)
        · have h := ite_f q h
          refine wt_iconst (pc := 124) (v := 1) dX2_holds_124 (by decide) ?_
          refine wt_goto (pc := 125) (tgt := 129) dX2_holds_125 (by decide) ?_
          cases h
          exact he 129 _ _ _ dX2_holds_129 (by decide) (by decide)
      have h := ite_f q76_1 h
      refine wt_lookup (pc := 76) (off := 54) (tgt := 130) dX2_holds_76 (by decide) ((lv_osw (a := 60) q76_0 (by decide)).trans ((lv_osw (a := 62) q76_1 (by decide)).trans rfl)) (by decide) ?_
      refine wt_iload (pc := 130) 0 dX2_holds_130 rfl ?_
      refine wt_iload (pc := 132) 1 dX2_holds_132 rfl ?_
      refine wt_icmp_ne (pc := 134) (tgt := 141) dX2_holds_134 (by decide) (fun q => ?_) (fun q => ?_)
      · have h := ite_f q h
        refine wt_iconst (pc := 141) (v := 0) dX2_holds_141 (by decide) ?_
        cases h
        exact he 142 _ _ _ dX2_holds_142 (by decide) (by decide)
      · have h := ite_t q h
        refine wt_iconst (pc := 137) (v := 1) dX2_holds_137 (by decide) ?_
        refine wt_goto (pc := 138) (tgt := 142) dX2_holds_138 (by decide) ?_
        cases h
        exact he 142 _ _ _ dX2_holds_142 (by decide) (by decide)
    · have h := ite_t q h
      refine wt_aload_n (pc := 49) 2 dX2_holds_49 rfl ?_
      refine wt_getR (pc := 50) dX2_holds_50 fl_X2_129 (fun _ _ _ => rfl) h (fun v50 h => ?_)
      refine wt_iload (pc := 53) 0 dX2_holds_53 rfl ?_
      refine wt_aaload (pc := 55) (kd := 31) dX2_holds_55 rfl rfl (by decide) h (fun v55 h => ?_)
      refine wt_getI (pc := 56) dX2_holds_56 fl_X2_138 (fun _ _ _ => rfl) h (fun v56 h => ?_)
      cases h
      exact he 59 _ _ _ dX2_holds_59 (by decide) (by decide)
  · have h := ite_t q h
    refine wt_aload_n (pc := 19) 2 dX2_holds_19 rfl ?_
    refine wt_getR (pc := 20) dX2_holds_20 fl_X2_129 (fun _ _ _ => rfl) h (fun v20 h => ?_)
    refine wt_iload (pc := 23) 0 dX2_holds_23 rfl ?_
    refine wt_aaload (pc := 25) (kd := 31) dX2_holds_25 rfl rfl (by decide) h (fun v25 h => ?_)
    refine wt_getI (pc := 26) dX2_holds_26 fl_X2_133 (fun _ _ _ => rfl) h (fun v26 h => ?_)
    refine wt_if_ne (pc := 29) (tgt := 36) dX2_holds_29 (by decide) (fun q => ?_) (fun q => ?_)
    · have h := ite_f q h
      refine wt_iconst (pc := 36) (v := 0) dX2_holds_36 (by decide) ?_
      cases h
      exact he 37 _ _ _ dX2_holds_37 (by decide) (by decide)
    · have h := ite_t q h
      refine wt_iconst (pc := 32) (v := 1) dX2_holds_32 (by decide) ?_
      refine wt_goto (pc := 33) (tgt := 37) dX2_holds_33 (by decide) ?_
      cases h
      exact he 37 _ _ _ dX2_holds_37 (by decide) (by decide)
set_option maxHeartbeats 4000000 in
set_option maxRecDepth 100000 in
theorem c_X2_holds {G : GG} {M : Mm} {l0 : Option Nat} {l1 : Option Nat} {l2 : Option Nat} {l3 : Int32} {r : Int32 × Mm} (h : f_X2_holds M l0 l1 l2 l3 = some r) (l : Launch) : Ct l G j_X2_holds b_X2_holds [rf G.1 l0, rf G.1 l1, rf G.1 l2, .int l3] M (some (.int r.1)) r.2 := cf_Z h (by decide +kernel) (by simp [lg_sl, rf_cat, cat_i, cat_l, j_X2_holds]) rfl (by simp [lv_args, rf_cat, cat_i, cat_l]) (fun h X he => t_X2_holds_e he h)
def f_X2_doStep_213 (M : Mm) (l3 : Int32) : Option (Int32 × Mm) := some ((l3 + 1), M)
def f_X2_doStep (M : Mm) (l0 : Option Nat) (l1 : Option Nat) (l2 : Option Nat) (l3 : Int32) : Option (Int32 × Mm) := gfR M l2 9 4 fun v1 => alI M v1 21 l3 fun v5 => gfR M l2 9 3 fun v9 => alI M v9 21 l3 fun v13 => if v13 = 18 then (gfI M l1 4 8 fun v69 => if (v69 + v5) ≤ 9999 then (gfI M l0 2 3 fun v96 => ck M l1 4 <| bd (f_X4_passHour M l1 v5) fun v102 M102 => pfI M102 l0 2 3 (v96 + v102) fun M106 => gfI M106 l0 2 2 fun v111 => pfI M106 l0 2 2 (v111 + v5) fun M117 => f_X2_doStep_213  M117 l3) else (gfI M l0 2 1 fun v83 => pfI M l0 2 1 (v83 + 1) fun M88 => f_X2_doStep_213  M88 l3)) else if v13 = 19 then (ck M l0 2 <| bv (f_X2_doGale M l0 l1) fun M125 => f_X2_doStep_213  M125 l3) else if v13 = 20 then (ck M l1 4 <| bd (f_X4_breakDay M l1) fun v132 M132 => f_X2_doStep_213  M132 l3) else if v13 = 21 then (gfR M l1 4 1 fun v156 => gfR M l2 9 5 fun v160 => alI M v160 21 l3 fun v164 => alR M v156 30 v164 fun v165 => ck M v165 0 <| bv (f_X0_putDown M v165) fun M166 => f_X2_doStep_213  M166 l3) else if v13 = 22 then (gfR M l2 9 5 fun v144 => alI M v144 21 l3 fun v148 => ck M l0 2 <| bv (f_X2_doLift M l0 l1 v5 v148) fun M149 => f_X2_doStep_213  M149 l3) else if v13 = 23 then (gfI M l2 9 2 fun v209 => some (v209, M)) else if v13 = 24 then (ck M l0 2 <| bd (f_X2_holds M l0 l1 l2 l3) fun v176 M176 => if v176 = 0 then (gfR M176 l2 9 7 fun v189 => alI M176 v189 21 l3 fun v193 => some ((v193 + 1), M176)) else (some ((l3 + 1), M176))) else if v13 = 25 then (gfI M l2 9 2 fun v209_1 => some (v209_1, M)) else if v13 = 26 then (gfI M l2 9 2 fun v209_2 => some (v209_2, M)) else if v13 = 27 then (gfR M l0 2 7 fun v198 => asI M v198 21 l3 v5 fun M204 => f_X2_doStep_213  M204 l3) else (gfI M l2 9 2 fun v209_3 => some (v209_3, M))
set_option maxHeartbeats 4000000 in
set_option maxRecDepth 100000 in
theorem t_X2_doStep_213 {G : GG} {X : CX} {ans : Int32 × Mm} (he : EndI G X j_X2_doStep b_X2_doStep ans) {M : Mm} {l3 : Int32} (h : f_X2_doStep_213 M l3 = some ans) : Wt G X j_X2_doStep b_X2_doStep 213 [(3, .int l3)] [] M 0 0 := by
  unfold f_X2_doStep_213 at h
  refine wt_iload_n (pc := 213) 0 dX2_doStep_213 rfl ?_
  refine wt_iconst (pc := 214) (v := 1) dX2_doStep_214 (by decide) ?_
  refine wt_iadd (pc := 215) dX2_doStep_215 ?_
  cases h
  exact he 216 _ _ _ dX2_doStep_216 (by decide) (by decide)
set_option maxHeartbeats 4000000 in
set_option maxRecDepth 100000 in
theorem t_X2_doStep_e {G : GG} {X : CX} {ans : Int32 × Mm} (he : EndI G X j_X2_doStep b_X2_doStep ans) {M : Mm} {l0 : Option Nat} {l1 : Option Nat} {l2 : Option Nat} {l3 : Int32} (h : f_X2_doStep M l0 l1 l2 l3 = some ans) : Wt G X j_X2_doStep b_X2_doStep 0 [(0, rf G.1 l0), (1, rf G.1 l1), (2, rf G.1 l2), (3, .int l3)] [] M 0 0 := by
  unfold f_X2_doStep at h
  refine wt_aload_n (pc := 0) 2 dX2_doStep_0 rfl ?_
  refine wt_getR (pc := 1) dX2_doStep_1 fl_X2_57 (fun _ _ _ => rfl) h (fun v1 h => ?_)
  refine wt_iload_n (pc := 4) 3 dX2_doStep_4 rfl ?_
  refine wt_iaload (pc := 5) (kd := 21) dX2_doStep_5 rfl rfl h (fun v5 h => ?_)
  refine wt_istore (pc := 6) (i := 4) (ls' := [(4, .int v5), (0, rf G.1 l0), (1, rf G.1 l1), (2, rf G.1 l2), (3, .int l3)]) dX2_doStep_6 (by decide) rfl ?_
  refine wt_aload_n (pc := 8) 3 dX2_doStep_8 rfl ?_
  refine wt_getR (pc := 9) dX2_doStep_9 fl_X2_43 (fun _ _ _ => rfl) h (fun v9 h => ?_)
  refine wt_iload_n (pc := 12) 4 dX2_doStep_12 rfl ?_
  refine wt_iaload (pc := 13) (kd := 21) dX2_doStep_13 rfl rfl h (fun v13 h => ?_)
  rcases Decidable.em (v13 = 18) with q14_0 | q14_0
  · have h := ite_t q14_0 h
    refine wt_tableIn (pc := 14) (off := 54) (tgt := 68) q14_0 dX2_doStep_14 (by decide) (by decide) (by decide) (by decide) ?_
    refine wt_aload_n (pc := 68) 2 dX2_doStep_68 rfl ?_
    refine wt_getI (pc := 69) dX2_doStep_69 fl_X2_60 (fun _ _ _ => rfl) h (fun v69 h => ?_)
    refine wt_iload (pc := 72) 0 dX2_doStep_72 rfl ?_
    refine wt_iadd (pc := 74) dX2_doStep_74 ?_
    refine wt_sipush (pc := 75) (v := 9999) dX2_doStep_75 (by decide) ?_
    refine wt_icmp_le (pc := 78) (tgt := 94) dX2_doStep_78 (by decide) (fun q => ?_) (fun q => ?_)
    · have h := ite_t q h
      refine wt_aload_n (pc := 94) 1 dX2_doStep_94 rfl ?_
      refine wt_dup (pc := 95) dX2_doStep_95 (rf_cat _ _) ?_
      refine wt_getI (pc := 96) dX2_doStep_96 fl_X2_27 (fun _ _ _ => rfl) h (fun v96 h => ?_)
      refine wt_aload_n (pc := 99) 2 dX2_doStep_99 rfl ?_
      refine wt_iload (pc := 100) 0 dX2_doStep_100 rfl ?_
      refine wt_cVI (pc := 102) (J' := j_X4_passHour) (As := [.int v5]) (st := [.int v96, rf G.1 l0]) (B' := b_X4_passHour) (u' := 0) (w' := 0) dX2_doStep_102 ml_X2_65 mv_X4_passHour (fun v9 M9 e9 => c_X4_passHour e9) rfl (by decide) rfl rfl (by decide) (by decide) (by simp [rf_cat, cat_i, cat_l, cat_r]) rfl h (fun v102 M102 h => ?_)
      refine wt_iadd (pc := 105) dX2_doStep_105 ?_
      refine wt_putI (pc := 106) dX2_doStep_106 fl_X2_27 rfl rfl h (fun M106 h => ?_)
      refine wt_aload_n (pc := 109) 1 dX2_doStep_109 rfl ?_
      refine wt_dup (pc := 110) dX2_doStep_110 (rf_cat _ _) ?_
      refine wt_getI (pc := 111) dX2_doStep_111 fl_X2_24 (fun _ _ _ => rfl) h (fun v111 h => ?_)
      refine wt_iload (pc := 114) 0 dX2_doStep_114 rfl ?_
      refine wt_iadd (pc := 116) dX2_doStep_116 ?_
      refine wt_putI (pc := 117) dX2_doStep_117 fl_X2_24 rfl rfl h (fun M117 h => ?_)
      refine wt_goto (pc := 120) (tgt := 213) dX2_doStep_120 (by decide) ?_
      refine wt_sub (ls' := [(3, .int l3)]) [4] rfl ?_
      exact t_X2_doStep_213 he  h
    · have h := ite_f q h
      refine wt_aload_n (pc := 81) 1 dX2_doStep_81 rfl ?_
      refine wt_dup (pc := 82) dX2_doStep_82 (rf_cat _ _) ?_
      refine wt_getI (pc := 83) dX2_doStep_83 fl_X2_21 (fun _ _ _ => rfl) h (fun v83 h => ?_)
      refine wt_iconst (pc := 86) (v := 1) dX2_doStep_86 (by decide) ?_
      refine wt_iadd (pc := 87) dX2_doStep_87 ?_
      refine wt_putI (pc := 88) dX2_doStep_88 fl_X2_21 rfl rfl h (fun M88 h => ?_)
      refine wt_goto (pc := 91) (tgt := 213) dX2_doStep_91 (by decide) ?_
      refine wt_sub (ls' := [(3, .int l3)]) [4] rfl ?_
      exact t_X2_doStep_213 he  h
  have h := ite_f q14_0 h
  rcases Decidable.em (v13 = 19) with q14_1 | q14_1
  · have h := ite_t q14_1 h
    refine wt_tableIn (pc := 14) (off := 109) (tgt := 123) q14_1 dX2_doStep_14 (by decide) (by decide) (by decide) (by decide) ?_
    refine wt_aload_n (pc := 123) 1 dX2_doStep_123 rfl ?_
    refine wt_aload_n (pc := 124) 2 dX2_doStep_124 rfl ?_
    refine wt_cVV (pc := 125) (J' := j_X2_doGale) (As := [rf G.1 l1]) (st := []) (B' := b_X2_doGale) (u' := 0) (w' := 0) dX2_doStep_125 ml_X2_69 mv_X2_doGale (fun M9 e9 => c_X2_doGale e9) rfl (by decide) rfl rfl (by decide) (by decide) (by decide) rfl h (fun M125 h => ?_)
    refine wt_goto (pc := 128) (tgt := 213) dX2_doStep_128 (by decide) ?_
    refine wt_sub (ls' := [(3, .int l3)]) [4] rfl ?_
    exact t_X2_doStep_213 he  h
  have h := ite_f q14_1 h
  rcases Decidable.em (v13 = 20) with q14_2 | q14_2
  · have h := ite_t q14_2 h
    refine wt_tableIn (pc := 14) (off := 117) (tgt := 131) q14_2 dX2_doStep_14 (by decide) (by decide) (by decide) (by decide) ?_
    refine wt_aload_n (pc := 131) 2 dX2_doStep_131 rfl ?_
    refine wt_cVI (pc := 132) (J' := j_X4_breakDay) (As := []) (st := []) (B' := b_X4_breakDay) (u' := 0) (w' := 0) dX2_doStep_132 ml_X2_73 mv_X4_breakDay (fun v9 M9 e9 => c_X4_breakDay e9) rfl (by decide) rfl rfl (by decide) (by decide) (by decide) rfl h (fun v132 M132 h => ?_)
    refine wt_pop (pc := 135) dX2_doStep_135 rfl ?_
    refine wt_goto (pc := 136) (tgt := 213) dX2_doStep_136 (by decide) ?_
    refine wt_sub (ls' := [(3, .int l3)]) [4] rfl ?_
    exact t_X2_doStep_213 he  h
  have h := ite_f q14_2 h
  rcases Decidable.em (v13 = 21) with q14_3 | q14_3
  · have h := ite_t q14_3 h
    refine wt_tableIn (pc := 14) (off := 141) (tgt := 155) q14_3 dX2_doStep_14 (by decide) (by decide) (by decide) (by decide) ?_
    refine wt_aload_n (pc := 155) 2 dX2_doStep_155 rfl ?_
    refine wt_getR (pc := 156) dX2_doStep_156 fl_X2_84 (fun _ _ _ => rfl) h (fun v156 h => ?_)
    refine wt_aload_n (pc := 159) 3 dX2_doStep_159 rfl ?_
    refine wt_getR (pc := 160) dX2_doStep_160 fl_X2_77 (fun _ _ _ => rfl) h (fun v160 h => ?_)
    refine wt_iload_n (pc := 163) 4 dX2_doStep_163 rfl ?_
    refine wt_iaload (pc := 164) (kd := 21) dX2_doStep_164 rfl rfl h (fun v164 h => ?_)
    refine wt_aaload (pc := 165) (kd := 30) dX2_doStep_165 rfl rfl (by decide) h (fun v165 h => ?_)
    refine wt_cVV (pc := 166) (J' := j_X0_putDown) (As := []) (st := []) (B' := b_X0_putDown) (u' := 0) (w' := 0) dX2_doStep_166 ml_X2_88 mv_X0_putDown (fun M9 e9 => c_X0_putDown e9) rfl (by decide) rfl rfl (by decide) (by decide) (by decide) rfl h (fun M166 h => ?_)
    refine wt_goto (pc := 169) (tgt := 213) dX2_doStep_169 (by decide) ?_
    refine wt_sub (ls' := [(3, .int l3)]) [4] rfl ?_
    exact t_X2_doStep_213 he  h
  have h := ite_f q14_3 h
  rcases Decidable.em (v13 = 22) with q14_4 | q14_4
  · have h := ite_t q14_4 h
    refine wt_tableIn (pc := 14) (off := 125) (tgt := 139) q14_4 dX2_doStep_14 (by decide) (by decide) (by decide) (by decide) ?_
    refine wt_aload_n (pc := 139) 1 dX2_doStep_139 rfl ?_
    refine wt_aload_n (pc := 140) 2 dX2_doStep_140 rfl ?_
    refine wt_iload (pc := 141) 0 dX2_doStep_141 rfl ?_
    refine wt_aload_n (pc := 143) 3 dX2_doStep_143 rfl ?_
    refine wt_getR (pc := 144) dX2_doStep_144 fl_X2_77 (fun _ _ _ => rfl) h (fun v144 h => ?_)
    refine wt_iload_n (pc := 147) 4 dX2_doStep_147 rfl ?_
    refine wt_iaload (pc := 148) (kd := 21) dX2_doStep_148 rfl rfl h (fun v148 h => ?_)
    refine wt_cVV (pc := 149) (J' := j_X2_doLift) (As := [rf G.1 l1, .int v5, .int v148]) (st := []) (B' := b_X2_doLift) (u' := 0) (w' := 0) dX2_doStep_149 ml_X2_80 mv_X2_doLift (fun M9 e9 => c_X2_doLift e9) rfl (by decide) rfl rfl (by decide) (by decide) (by decide) rfl h (fun M149 h => ?_)
    refine wt_goto (pc := 152) (tgt := 213) dX2_doStep_152 (by decide) ?_
    refine wt_sub (ls' := [(3, .int l3)]) [4] rfl ?_
    exact t_X2_doStep_213 he  h
  have h := ite_f q14_4 h
  rcases Decidable.em (v13 = 23) with q14_5 | q14_5
  · have h := ite_t q14_5 h
    refine wt_tableIn (pc := 14) (off := 194) (tgt := 208) q14_5 dX2_doStep_14 (by decide) (by decide) (by decide) (by decide) ?_
    refine wt_aload_n (pc := 208) 3 dX2_doStep_208 rfl ?_
    refine wt_getI (pc := 209) dX2_doStep_209 fl_X2_40 (fun _ _ _ => rfl) h (fun v209 h => ?_)
    cases h
    exact he 212 _ _ _ dX2_doStep_212 (by decide) (by decide)
  have h := ite_f q14_5 h
  rcases Decidable.em (v13 = 24) with q14_6 | q14_6
  · have h := ite_t q14_6 h
    refine wt_tableIn (pc := 14) (off := 158) (tgt := 172) q14_6 dX2_doStep_14 (by decide) (by decide) (by decide) (by decide) ?_
    refine wt_aload_n (pc := 172) 1 dX2_doStep_172 rfl ?_
    refine wt_aload_n (pc := 173) 2 dX2_doStep_173 rfl ?_
    refine wt_aload_n (pc := 174) 3 dX2_doStep_174 rfl ?_
    refine wt_iload_n (pc := 175) 4 dX2_doStep_175 rfl ?_
    refine wt_cVI (pc := 176) (J' := j_X2_holds) (As := [rf G.1 l1, rf G.1 l2, .int l3]) (st := []) (B' := b_X2_holds) (u' := 0) (w' := 0) dX2_doStep_176 ml_X2_93 mv_X2_holds (fun v9 M9 e9 => c_X2_holds e9) rfl (by decide) rfl rfl (by decide) (by decide) (by decide) rfl h (fun v176 M176 h => ?_)
    refine wt_if_eq (pc := 179) (tgt := 188) dX2_doStep_179 (by decide) (fun q => ?_) (fun q => ?_)
    · have h := ite_t q h
      refine wt_aload_n (pc := 188) 3 dX2_doStep_188 rfl ?_
      refine wt_getR (pc := 189) dX2_doStep_189 fl_X2_54 (fun _ _ _ => rfl) h (fun v189 h => ?_)
      refine wt_iload_n (pc := 192) 4 dX2_doStep_192 rfl ?_
      refine wt_iaload (pc := 193) (kd := 21) dX2_doStep_193 rfl rfl h (fun v193 h => ?_)
      refine wt_iconst (pc := 194) (v := 1) dX2_doStep_194 (by decide) ?_
      refine wt_iadd (pc := 195) dX2_doStep_195 ?_
      cases h
      exact he 196 _ _ _ dX2_doStep_196 (by decide) (by decide)
    · have h := ite_f q h
      refine wt_iload_n (pc := 182) 4 dX2_doStep_182 rfl ?_
      refine wt_iconst (pc := 183) (v := 1) dX2_doStep_183 (by decide) ?_
      refine wt_iadd (pc := 184) dX2_doStep_184 ?_
      refine wt_goto (pc := 185) (tgt := 196) dX2_doStep_185 (by decide) ?_
      cases h
      exact he 196 _ _ _ dX2_doStep_196 (by decide) (by decide)
  have h := ite_f q14_6 h
  rcases Decidable.em (v13 = 25) with q14_7 | q14_7
  · have h := ite_t q14_7 h
    refine wt_tableIn (pc := 14) (off := 194) (tgt := 208) q14_7 dX2_doStep_14 (by decide) (by decide) (by decide) (by decide) ?_
    refine wt_aload_n (pc := 208) 3 dX2_doStep_208 rfl ?_
    refine wt_getI (pc := 209) dX2_doStep_209 fl_X2_40 (fun _ _ _ => rfl) h (fun v209_1 h => ?_)
    cases h
    exact he 212 _ _ _ dX2_doStep_212 (by decide) (by decide)
  have h := ite_f q14_7 h
  rcases Decidable.em (v13 = 26) with q14_8 | q14_8
  · have h := ite_t q14_8 h
    refine wt_tableIn (pc := 14) (off := 194) (tgt := 208) q14_8 dX2_doStep_14 (by decide) (by decide) (by decide) (by decide) ?_
    refine wt_aload_n (pc := 208) 3 dX2_doStep_208 rfl ?_
    refine wt_getI (pc := 209) dX2_doStep_209 fl_X2_40 (fun _ _ _ => rfl) h (fun v209_2 h => ?_)
    cases h
    exact he 212 _ _ _ dX2_doStep_212 (by decide) (by decide)
  have h := ite_f q14_8 h
  rcases Decidable.em (v13 = 27) with q14_9 | q14_9
  · have h := ite_t q14_9 h
    refine wt_tableIn (pc := 14) (off := 183) (tgt := 197) q14_9 dX2_doStep_14 (by decide) (by decide) (by decide) (by decide) ?_
    refine wt_aload_n (pc := 197) 1 dX2_doStep_197 rfl ?_
    refine wt_getR (pc := 198) dX2_doStep_198 fl_X2_11 (fun _ _ _ => rfl) h (fun v198 h => ?_)
    refine wt_iload_n (pc := 201) 4 dX2_doStep_201 rfl ?_
    refine wt_iload (pc := 202) 0 dX2_doStep_202 rfl ?_
    refine wt_iastore (pc := 204) (kd := 21) dX2_doStep_204 rfl rfl h (fun M204 h => ?_)
    refine wt_goto (pc := 205) (tgt := 213) dX2_doStep_205 (by decide) ?_
    refine wt_sub (ls' := [(3, .int l3)]) [4] rfl ?_
    exact t_X2_doStep_213 he  h
  have h := ite_f q14_9 h
  refine wt_tableOut (pc := 14) (tgt := 208) dX2_doStep_14 (by have h9 := ts_out (x := v13) 18 10 (fun i hi => by match i, hi with | 0, _ => exact ts_ne (by decide) q14_0 | 1, _ => exact ts_ne (by decide) q14_1 | 2, _ => exact ts_ne (by decide) q14_2 | 3, _ => exact ts_ne (by decide) q14_3 | 4, _ => exact ts_ne (by decide) q14_4 | 5, _ => exact ts_ne (by decide) q14_5 | 6, _ => exact ts_ne (by decide) q14_6 | 7, _ => exact ts_ne (by decide) q14_7 | 8, _ => exact ts_ne (by decide) q14_8 | 9, _ => exact ts_ne (by decide) q14_9 | i + 10, hi => omega); omega) (by decide) ?_
  refine wt_aload_n (pc := 208) 3 dX2_doStep_208 rfl ?_
  refine wt_getI (pc := 209) dX2_doStep_209 fl_X2_40 (fun _ _ _ => rfl) h (fun v209_3 h => ?_)
  cases h
  exact he 212 _ _ _ dX2_doStep_212 (by decide) (by decide)
set_option maxHeartbeats 4000000 in
set_option maxRecDepth 100000 in
theorem c_X2_doStep {G : GG} {M : Mm} {l0 : Option Nat} {l1 : Option Nat} {l2 : Option Nat} {l3 : Int32} {r : Int32 × Mm} (h : f_X2_doStep M l0 l1 l2 l3 = some r) (l : Launch) : Ct l G j_X2_doStep b_X2_doStep [rf G.1 l0, rf G.1 l1, rf G.1 l2, .int l3] M (some (.int r.1)) r.2 := cf_I (by decide +kernel) (by simp [lg_sl, rf_cat, cat_i, cat_l, j_X2_doStep]) rfl (by simp [lv_args, rf_cat, cat_i, cat_l]) (fun X he => t_X2_doStep_e he h)
def f_X2_run_125 (k41 : Mm → Option Nat → Option Nat → Option Nat → Int32 → Int32 → Option (Mm)) (M : Mm) (l0 : Option Nat) (l1 : Option Nat) (l2 : Option Nat) (l4 : Int32) (l5 : Int32) : Option (Mm) := k41 M l0 l1 l2 l4 (l5 + 1)
def f_X2_run_41 : Nat → Mm → Option Nat → Option Nat → Option Nat → Int32 → Int32 → Option (Mm)
  | 0, _, _, _, _, _, _ => none
  | n + 1, M, l0, l1, l2, l4, l5 => if 1000000 ≤ l5 then (some M) else (gfI M l2 9 2 fun v51 => if v51 ≤ l4 then (some M) else (gfR M l2 9 3 fun v58 => alI M v58 21 l4 fun v63 => if v63 = 28 then (ck M l0 2 <| bd (f_X2_behindEnd M l0 l2 l4) fun v73 M73 => f_X2_run_125 (f_X2_run_41 n) M73 l0 l1 l2 v73 l5) else (gfI M l0 2 0 fun v82 => if v82 < 300 then (gfI M l0 2 0 fun v107 => pfI M l0 2 0 (v107 + 1) fun M112 => ck M112 l0 2 <| bd (f_X2_doStep M112 l0 l1 l2 l4) fun v120 M120 => f_X2_run_125 (f_X2_run_41 n) M120 l0 l1 l2 v120 l5) else (pfI M l0 2 5 1 fun M93 => gfI M93 l2 9 2 fun v97 => f_X2_run_125 (f_X2_run_41 n) M93 l0 l1 l2 v97 l5))))
def f_X2_run (M : Mm) (l0 : Option Nat) (l1 : Option Nat) (l2 : Option Nat) (l3 : Int32) : Option (Mm) := pfI M l0 2 0 0 fun M2 => pfI M2 l0 2 1 0 fun M7 => pfI M7 l0 2 2 0 fun M12 => pfI M12 l0 2 3 0 fun M17 => pfI M17 l0 2 4 0 fun M22 => pfI M22 l0 2 5 0 fun M27 => pfI M27 l0 2 6 l3 fun M32 => f_X2_run_41  fu M32 l0 l1 l2 0 0
set_option maxHeartbeats 4000000 in
set_option maxRecDepth 100000 in
theorem t_X2_run_125 {G : GG} {X : CX} {ans : Mm} (he : EndV G X j_X2_run b_X2_run ans) {k41 : Mm → Option Nat → Option Nat → Option Nat → Int32 → Int32 → Option (Mm)} (hk41 : ∀ (M : Mm) (a0 : Option Nat) (a1 : Option Nat) (a2 : Option Nat) (a4 : Int32) (a5 : Int32), k41 M a0 a1 a2 a4 a5 = some ans → Wt G X j_X2_run b_X2_run 41 [(0, rf G.1 a0), (1, rf G.1 a1), (2, rf G.1 a2), (4, .int a4), (5, .int a5)] [] M 0 0) {M : Mm} {l0 : Option Nat} {l1 : Option Nat} {l2 : Option Nat} {l4 : Int32} {l5 : Int32} (h : f_X2_run_125 k41 M l0 l1 l2 l4 l5 = some ans) : Wt G X j_X2_run b_X2_run 125 [(0, rf G.1 l0), (1, rf G.1 l1), (2, rf G.1 l2), (4, .int l4), (5, .int l5)] [] M 0 0 := by
  unfold f_X2_run_125 at h
  refine wt_iinc (pc := 125) (d := 1) (ls' := [(5, .int (l5 + 1)), (0, rf G.1 l0), (1, rf G.1 l1), (2, rf G.1 l2), (4, .int l4)]) 4 dX2_run_125 rfl (by decide) (by decide) rfl ?_
  refine wt_goto (pc := 128) (tgt := 41) dX2_run_128 (by decide) ?_
  refine wt_sub (ls' := [(0, rf G.1 l0), (1, rf G.1 l1), (2, rf G.1 l2), (4, .int l4), (5, .int (l5 + 1))]) [1, 2, 3, 4, 0] rfl ?_
  exact hk41 _ _ _ _ _ _ h
set_option maxHeartbeats 4000000 in
set_option maxRecDepth 100000 in
theorem t_X2_run_41 {G : GG} {X : CX} {ans : Mm} (he : EndV G X j_X2_run b_X2_run ans) : ∀ (n : Nat) {M : Mm} {l0 : Option Nat} {l1 : Option Nat} {l2 : Option Nat} {l4 : Int32} {l5 : Int32}, f_X2_run_41 n M l0 l1 l2 l4 l5 = some ans → Wt G X j_X2_run b_X2_run 41 [(0, rf G.1 l0), (1, rf G.1 l1), (2, rf G.1 l2), (4, .int l4), (5, .int l5)] [] M 0 0 := by
  intro n
  induction n with
  | zero =>
    intro M l0 l1 l2 l4 l5 h
    rw [f_X2_run_41] at h
    cases h
  | succ n ih =>
    intro M l0 l1 l2 l4 l5 h
    rw [f_X2_run_41] at h
    refine wt_iload (pc := 41) 4 dX2_run_41 rfl ?_
    refine wt_ldc (pc := 43) dX2_run_43 kc_X2_39 ?_
    refine wt_icmp_ge (pc := 45) (tgt := 131) dX2_run_45 (by decide) (fun q => ?_) (fun q => ?_)
    · have h := ite_t q h
      cases h
      exact he 131 _ _ _ dX2_run_131 (by decide) (by decide)
    · have h := ite_f q h
      refine wt_iload (pc := 48) 3 dX2_run_48 rfl ?_
      refine wt_aload_n (pc := 50) 2 dX2_run_50 rfl ?_
      refine wt_getI (pc := 51) dX2_run_51 fl_X2_40 (fun _ _ _ => rfl) h (fun v51 h => ?_)
      refine wt_icmp_ge (pc := 54) (tgt := 131) dX2_run_54 (by decide) (fun q => ?_) (fun q => ?_)
      · have h := ite_t q h
        cases h
        exact he 131 _ _ _ dX2_run_131 (by decide) (by decide)
      · have h := ite_f q h
        refine wt_aload_n (pc := 57) 2 dX2_run_57 rfl ?_
        refine wt_getR (pc := 58) dX2_run_58 fl_X2_43 (fun _ _ _ => rfl) h (fun v58 h => ?_)
        refine wt_iload (pc := 61) 3 dX2_run_61 rfl ?_
        refine wt_iaload (pc := 63) (kd := 21) dX2_run_63 rfl rfl h (fun v63 h => ?_)
        refine wt_bipush (pc := 64) (v := 28) dX2_run_64 (by decide) ?_
        refine wt_icmp_ne (pc := 66) (tgt := 81) dX2_run_66 (by decide) (fun q => ?_) (fun q => ?_)
        · have h := ite_f q h
          refine wt_aload_n (pc := 81) 0 dX2_run_81 rfl ?_
          refine wt_getI (pc := 82) dX2_run_82 fl_X2_17 (fun _ _ _ => rfl) h (fun v82 h => ?_)
          refine wt_sipush (pc := 85) (v := 300) dX2_run_85 (by decide) ?_
          refine wt_icmp_lt (pc := 88) (tgt := 105) dX2_run_88 (by decide) (fun q => ?_) (fun q => ?_)
          · have h := ite_t q h
            refine wt_aload_n (pc := 105) 0 dX2_run_105 rfl ?_
            refine wt_dup (pc := 106) dX2_run_106 (rf_cat _ _) ?_
            refine wt_getI (pc := 107) dX2_run_107 fl_X2_17 (fun _ _ _ => rfl) h (fun v107 h => ?_)
            refine wt_iconst (pc := 110) (v := 1) dX2_run_110 (by decide) ?_
            refine wt_iadd (pc := 111) dX2_run_111 ?_
            refine wt_putI (pc := 112) dX2_run_112 fl_X2_17 rfl rfl h (fun M112 h => ?_)
            refine wt_aload_n (pc := 115) 0 dX2_run_115 rfl ?_
            refine wt_aload_n (pc := 116) 1 dX2_run_116 rfl ?_
            refine wt_aload_n (pc := 117) 2 dX2_run_117 rfl ?_
            refine wt_iload (pc := 118) 3 dX2_run_118 rfl ?_
            refine wt_cVI (pc := 120) (J' := j_X2_doStep) (As := [rf G.1 l1, rf G.1 l2, .int l4]) (st := []) (B' := b_X2_doStep) (u' := 0) (w' := 0) dX2_run_120 ml_X2_50 mv_X2_doStep (fun v9 M9 e9 => c_X2_doStep e9) rfl (by decide) rfl rfl (by decide) (by decide) (by decide) rfl h (fun v120 M120 h => ?_)
            refine wt_istore (pc := 123) (i := 4) (ls' := [(4, .int v120), (0, rf G.1 l0), (1, rf G.1 l1), (2, rf G.1 l2), (5, .int l5)]) dX2_run_123 (by decide) rfl ?_
            refine wt_sub (ls' := [(0, rf G.1 l0), (1, rf G.1 l1), (2, rf G.1 l2), (4, .int v120), (5, .int l5)]) [1, 2, 3, 0, 4] rfl ?_
            exact t_X2_run_125 he (fun _ _ _ _ _ _ h => ih h) h
          · have h := ite_f q h
            refine wt_aload_n (pc := 91) 0 dX2_run_91 rfl ?_
            refine wt_iconst (pc := 92) (v := 1) dX2_run_92 (by decide) ?_
            refine wt_putI (pc := 93) dX2_run_93 fl_X2_33 rfl rfl h (fun M93 h => ?_)
            refine wt_aload_n (pc := 96) 2 dX2_run_96 rfl ?_
            refine wt_getI (pc := 97) dX2_run_97 fl_X2_40 (fun _ _ _ => rfl) h (fun v97 h => ?_)
            refine wt_istore (pc := 100) (i := 4) (ls' := [(4, .int v97), (0, rf G.1 l0), (1, rf G.1 l1), (2, rf G.1 l2), (5, .int l5)]) dX2_run_100 (by decide) rfl ?_
            refine wt_goto (pc := 102) (tgt := 125) dX2_run_102 (by decide) ?_
            refine wt_sub (ls' := [(0, rf G.1 l0), (1, rf G.1 l1), (2, rf G.1 l2), (4, .int v97), (5, .int l5)]) [1, 2, 3, 0, 4] rfl ?_
            exact t_X2_run_125 he (fun _ _ _ _ _ _ h => ih h) h
        · have h := ite_t q h
          refine wt_aload_n (pc := 69) 0 dX2_run_69 rfl ?_
          refine wt_aload_n (pc := 70) 2 dX2_run_70 rfl ?_
          refine wt_iload (pc := 71) 3 dX2_run_71 rfl ?_
          refine wt_cVI (pc := 73) (J' := j_X2_behindEnd) (As := [rf G.1 l2, .int l4]) (st := []) (B' := b_X2_behindEnd) (u' := 0) (w' := 0) dX2_run_73 ml_X2_46 mv_X2_behindEnd (fun v9 M9 e9 => c_X2_behindEnd e9) rfl (by decide) rfl rfl (by decide) (by decide) (by decide) rfl h (fun v73 M73 h => ?_)
          refine wt_istore (pc := 76) (i := 4) (ls' := [(4, .int v73), (0, rf G.1 l0), (1, rf G.1 l1), (2, rf G.1 l2), (5, .int l5)]) dX2_run_76 (by decide) rfl ?_
          refine wt_goto (pc := 78) (tgt := 125) dX2_run_78 (by decide) ?_
          refine wt_sub (ls' := [(0, rf G.1 l0), (1, rf G.1 l1), (2, rf G.1 l2), (4, .int v73), (5, .int l5)]) [1, 2, 3, 0, 4] rfl ?_
          exact t_X2_run_125 he (fun _ _ _ _ _ _ h => ih h) h
set_option maxHeartbeats 4000000 in
set_option maxRecDepth 100000 in
theorem t_X2_run_e {G : GG} {X : CX} {ans : Mm} (he : EndV G X j_X2_run b_X2_run ans) {M : Mm} {l0 : Option Nat} {l1 : Option Nat} {l2 : Option Nat} {l3 : Int32} (h : f_X2_run M l0 l1 l2 l3 = some ans) : Wt G X j_X2_run b_X2_run 0 [(0, rf G.1 l0), (1, rf G.1 l1), (2, rf G.1 l2), (3, .int l3)] [] M 0 0 := by
  unfold f_X2_run at h
  refine wt_aload_n (pc := 0) 0 dX2_run_0 rfl ?_
  refine wt_iconst (pc := 1) (v := 0) dX2_run_1 (by decide) ?_
  refine wt_putI (pc := 2) dX2_run_2 fl_X2_17 rfl rfl h (fun M2 h => ?_)
  refine wt_aload_n (pc := 5) 0 dX2_run_5 rfl ?_
  refine wt_iconst (pc := 6) (v := 0) dX2_run_6 (by decide) ?_
  refine wt_putI (pc := 7) dX2_run_7 fl_X2_21 rfl rfl h (fun M7 h => ?_)
  refine wt_aload_n (pc := 10) 0 dX2_run_10 rfl ?_
  refine wt_iconst (pc := 11) (v := 0) dX2_run_11 (by decide) ?_
  refine wt_putI (pc := 12) dX2_run_12 fl_X2_24 rfl rfl h (fun M12 h => ?_)
  refine wt_aload_n (pc := 15) 0 dX2_run_15 rfl ?_
  refine wt_iconst (pc := 16) (v := 0) dX2_run_16 (by decide) ?_
  refine wt_putI (pc := 17) dX2_run_17 fl_X2_27 rfl rfl h (fun M17 h => ?_)
  refine wt_aload_n (pc := 20) 0 dX2_run_20 rfl ?_
  refine wt_iconst (pc := 21) (v := 0) dX2_run_21 (by decide) ?_
  refine wt_putI (pc := 22) dX2_run_22 fl_X2_30 rfl rfl h (fun M22 h => ?_)
  refine wt_aload_n (pc := 25) 0 dX2_run_25 rfl ?_
  refine wt_iconst (pc := 26) (v := 0) dX2_run_26 (by decide) ?_
  refine wt_putI (pc := 27) dX2_run_27 fl_X2_33 rfl rfl h (fun M27 h => ?_)
  refine wt_aload_n (pc := 30) 0 dX2_run_30 rfl ?_
  refine wt_iload_n (pc := 31) 3 dX2_run_31 rfl ?_
  refine wt_putI (pc := 32) dX2_run_32 fl_X2_36 rfl rfl h (fun M32 h => ?_)
  refine wt_iconst (pc := 35) (v := 0) dX2_run_35 (by decide) ?_
  refine wt_istore (pc := 36) (i := 4) (ls' := [(4, .int 0), (0, rf G.1 l0), (1, rf G.1 l1), (2, rf G.1 l2), (3, .int l3)]) dX2_run_36 (by decide) rfl ?_
  refine wt_iconst (pc := 38) (v := 0) dX2_run_38 (by decide) ?_
  refine wt_istore (pc := 39) (i := 5) (ls' := [(5, .int 0), (4, .int 0), (0, rf G.1 l0), (1, rf G.1 l1), (2, rf G.1 l2), (3, .int l3)]) dX2_run_39 (by decide) rfl ?_
  refine wt_sub (ls' := [(0, rf G.1 l0), (1, rf G.1 l1), (2, rf G.1 l2), (4, .int 0), (5, .int 0)]) [2, 3, 4, 1, 0] rfl ?_
  exact t_X2_run_41 he  fu h
set_option maxHeartbeats 4000000 in
set_option maxRecDepth 100000 in
theorem c_X2_run {G : GG} {M : Mm} {l0 : Option Nat} {l1 : Option Nat} {l2 : Option Nat} {l3 : Int32} {r : Mm} (h : f_X2_run M l0 l1 l2 l3 = some r) (l : Launch) : Ct l G j_X2_run b_X2_run [rf G.1 l0, rf G.1 l1, rf G.1 l2, .int l3] M none r := cf_V (by decide +kernel) (by simp [lg_sl, rf_cat, cat_i, cat_l, j_X2_run]) rfl (by simp [lv_args, rf_cat, cat_i, cat_l]) (fun X he => t_X2_run_e he h)

theorem fl_X0_9 : FLk RX0 9 0 0 := ⟨_, rfl, by decide, Or.inl (gw_at 454 (by decide +kernel) rfl)⟩
theorem fl_X0_15 : FLk RX0 15 0 1 := ⟨_, rfl, by decide, Or.inl (gw_at 457 (by decide +kernel) rfl)⟩
theorem fl_X0_19 : FLk RX0 19 0 2 := ⟨_, rfl, by decide, Or.inl (gw_at 461 (by decide +kernel) rfl)⟩
theorem fl_X0_22 : FLk RX0 22 0 3 := ⟨_, rfl, by decide, Or.inl (gw_at 464 (by decide +kernel) rfl)⟩
theorem fl_X0_25 : FLk RX0 25 0 4 := ⟨_, rfl, by decide, Or.inl (gw_at 468 (by decide +kernel) rfl)⟩
theorem fl_X0_28 : FLk RX0 28 0 5 := ⟨_, rfl, by decide, Or.inl (gw_at 473 (by decide +kernel) rfl)⟩
theorem fl_X0_31 : FLk RX0 31 0 6 := ⟨_, rfl, by decide, Or.inl (gw_at 476 (by decide +kernel) rfl)⟩
theorem fl_X0_34 : FLk RX0 34 0 7 := ⟨_, rfl, by decide, Or.inl (gw_at 478 (by decide +kernel) rfl)⟩
theorem fl_X0_43 : FLk RX0 43 1 4 := ⟨_, rfl, by decide, Or.inr ⟨_, nw_at (w := Cond.fieldLinkNest RX0 43 "RoofGale$House" "weight" "I" "RoofGale") 408 (by decide +kernel) rfl, rfl⟩⟩
theorem fl_X0_48 : FLk RX0 48 1 6 := ⟨_, rfl, by decide, Or.inr ⟨_, nw_at (w := Cond.fieldLinkNest RX0 48 "RoofGale$House" "pegs" "I" "RoofGale") 416 (by decide +kernel) rfl, rfl⟩⟩
theorem fl_X0_51 : FLk RX0 51 1 1 := ⟨_, rfl, by decide, Or.inr ⟨_, nw_at (w := Cond.fieldLinkNest RX0 51 "RoofGale$House" "at" "I" "RoofGale") 395 (by decide +kernel) rfl, rfl⟩⟩
theorem oi_X0_3 : Cond.methodLink RX0 3 Lib.objectInit ∈ GW := gw_at 453 (by decide +kernel) rfl
theorem bi_X0_37 : Cond.methodLink RX0 37 Lib.Math.max.name ∈ GW := gw_at 1107 (by decide +kernel) rfl
theorem bi_X0_52 : Cond.methodLink RX0 52 Lib.Math.abs.name ∈ GW := gw_at 1118 (by decide +kernel) rfl
theorem bi_X0_56 : Cond.methodLink RX0 56 Lib.Math.min.name ∈ GW := gw_at 1173 (by decide +kernel) rfl
theorem dX0_init_0 : decode cX0_init 0 = .ok (.aload_n 0, 1) := by decide +kernel
theorem dX0_init_1 : decode cX0_init 1 = .ok (.invokespecial 3, 3) := by decide +kernel
theorem dX0_init_4 : decode cX0_init 4 = .ok (.return_, 1) := by decide +kernel
def j_X0_init : JD := (yX0_init, cX0_init, 1, none)
def b_X0_init : BD := (1, 0, 0)
theorem dX0_copyFrom_0 : decode cX0_copyFrom 0 = .ok (.aload_n 0, 1) := by decide +kernel
theorem dX0_copyFrom_1 : decode cX0_copyFrom 1 = .ok (.aload_n 1, 1) := by decide +kernel
theorem dX0_copyFrom_2 : decode cX0_copyFrom 2 = .ok (.getfield 9, 3) := by decide +kernel
theorem dX0_copyFrom_5 : decode cX0_copyFrom 5 = .ok (.putfield 9, 3) := by decide +kernel
theorem dX0_copyFrom_8 : decode cX0_copyFrom 8 = .ok (.aload_n 0, 1) := by decide +kernel
theorem dX0_copyFrom_9 : decode cX0_copyFrom 9 = .ok (.aload_n 1, 1) := by decide +kernel
theorem dX0_copyFrom_10 : decode cX0_copyFrom 10 = .ok (.getfield 15, 3) := by decide +kernel
theorem dX0_copyFrom_13 : decode cX0_copyFrom 13 = .ok (.putfield 15, 3) := by decide +kernel
theorem dX0_copyFrom_16 : decode cX0_copyFrom 16 = .ok (.aload_n 0, 1) := by decide +kernel
theorem dX0_copyFrom_17 : decode cX0_copyFrom 17 = .ok (.aload_n 1, 1) := by decide +kernel
theorem dX0_copyFrom_18 : decode cX0_copyFrom 18 = .ok (.getfield 19, 3) := by decide +kernel
theorem dX0_copyFrom_21 : decode cX0_copyFrom 21 = .ok (.putfield 19, 3) := by decide +kernel
theorem dX0_copyFrom_24 : decode cX0_copyFrom 24 = .ok (.aload_n 0, 1) := by decide +kernel
theorem dX0_copyFrom_25 : decode cX0_copyFrom 25 = .ok (.aload_n 1, 1) := by decide +kernel
theorem dX0_copyFrom_26 : decode cX0_copyFrom 26 = .ok (.getfield 22, 3) := by decide +kernel
theorem dX0_copyFrom_29 : decode cX0_copyFrom 29 = .ok (.putfield 22, 3) := by decide +kernel
theorem dX0_copyFrom_32 : decode cX0_copyFrom 32 = .ok (.aload_n 0, 1) := by decide +kernel
theorem dX0_copyFrom_33 : decode cX0_copyFrom 33 = .ok (.aload_n 1, 1) := by decide +kernel
theorem dX0_copyFrom_34 : decode cX0_copyFrom 34 = .ok (.getfield 25, 3) := by decide +kernel
theorem dX0_copyFrom_37 : decode cX0_copyFrom 37 = .ok (.putfield 25, 3) := by decide +kernel
theorem dX0_copyFrom_40 : decode cX0_copyFrom 40 = .ok (.aload_n 0, 1) := by decide +kernel
theorem dX0_copyFrom_41 : decode cX0_copyFrom 41 = .ok (.aload_n 1, 1) := by decide +kernel
theorem dX0_copyFrom_42 : decode cX0_copyFrom 42 = .ok (.getfield 28, 3) := by decide +kernel
theorem dX0_copyFrom_45 : decode cX0_copyFrom 45 = .ok (.putfield 28, 3) := by decide +kernel
theorem dX0_copyFrom_48 : decode cX0_copyFrom 48 = .ok (.aload_n 0, 1) := by decide +kernel
theorem dX0_copyFrom_49 : decode cX0_copyFrom 49 = .ok (.aload_n 1, 1) := by decide +kernel
theorem dX0_copyFrom_50 : decode cX0_copyFrom 50 = .ok (.getfield 31, 3) := by decide +kernel
theorem dX0_copyFrom_53 : decode cX0_copyFrom 53 = .ok (.putfield 31, 3) := by decide +kernel
theorem dX0_copyFrom_56 : decode cX0_copyFrom 56 = .ok (.aload_n 0, 1) := by decide +kernel
theorem dX0_copyFrom_57 : decode cX0_copyFrom 57 = .ok (.aload_n 1, 1) := by decide +kernel
theorem dX0_copyFrom_58 : decode cX0_copyFrom 58 = .ok (.getfield 34, 3) := by decide +kernel
theorem dX0_copyFrom_61 : decode cX0_copyFrom 61 = .ok (.putfield 34, 3) := by decide +kernel
theorem dX0_copyFrom_64 : decode cX0_copyFrom 64 = .ok (.return_, 1) := by decide +kernel
def j_X0_copyFrom : JD := (yX0_copyFrom, cX0_copyFrom, 2, none)
def b_X0_copyFrom : BD := (0, 0, 0)
theorem dX0_pieceMinutes_0 : decode cX0_pieceMinutes 0 = .ok (.iconst 1, 1) := by decide +kernel
theorem dX0_pieceMinutes_1 : decode cX0_pieceMinutes 1 = .ok (.aload_n 0, 1) := by decide +kernel
theorem dX0_pieceMinutes_2 : decode cX0_pieceMinutes 2 = .ok (.getfield 19, 3) := by decide +kernel
theorem dX0_pieceMinutes_5 : decode cX0_pieceMinutes 5 = .ok (.invokestatic 37, 3) := by decide +kernel
theorem dX0_pieceMinutes_8 : decode cX0_pieceMinutes 8 = .ok (.istore_n 2, 1) := by decide +kernel
theorem dX0_pieceMinutes_9 : decode cX0_pieceMinutes 9 = .ok (.iconst 1, 1) := by decide +kernel
theorem dX0_pieceMinutes_10 : decode cX0_pieceMinutes 10 = .ok (.aload_n 1, 1) := by decide +kernel
theorem dX0_pieceMinutes_11 : decode cX0_pieceMinutes 11 = .ok (.getfield 43, 3) := by decide +kernel
theorem dX0_pieceMinutes_14 : decode cX0_pieceMinutes 14 = .ok (.aload_n 1, 1) := by decide +kernel
theorem dX0_pieceMinutes_15 : decode cX0_pieceMinutes 15 = .ok (.getfield 48, 3) := by decide +kernel
theorem dX0_pieceMinutes_18 : decode cX0_pieceMinutes 18 = .ok (.iadd, 1) := by decide +kernel
theorem dX0_pieceMinutes_19 : decode cX0_pieceMinutes 19 = .ok (.iconst 4, 1) := by decide +kernel
theorem dX0_pieceMinutes_20 : decode cX0_pieceMinutes 20 = .ok (.imul, 1) := by decide +kernel
theorem dX0_pieceMinutes_21 : decode cX0_pieceMinutes 21 = .ok (.iload_n 2, 1) := by decide +kernel
theorem dX0_pieceMinutes_22 : decode cX0_pieceMinutes 22 = .ok (.iadd, 1) := by decide +kernel
theorem dX0_pieceMinutes_23 : decode cX0_pieceMinutes 23 = .ok (.iconst 1, 1) := by decide +kernel
theorem dX0_pieceMinutes_24 : decode cX0_pieceMinutes 24 = .ok (.isub, 1) := by decide +kernel
theorem dX0_pieceMinutes_25 : decode cX0_pieceMinutes 25 = .ok (.iload_n 2, 1) := by decide +kernel
theorem dX0_pieceMinutes_26 : decode cX0_pieceMinutes 26 = .ok (.idiv, 1) := by decide +kernel
theorem dX0_pieceMinutes_27 : decode cX0_pieceMinutes 27 = .ok (.invokestatic 37, 3) := by decide +kernel
theorem dX0_pieceMinutes_30 : decode cX0_pieceMinutes 30 = .ok (.ireturn, 1) := by decide +kernel
def j_X0_pieceMinutes : JD := (yX0_pieceMinutes, cX0_pieceMinutes, 3, (some .int))
def b_X0_pieceMinutes : BD := (1, 0, 0)
theorem dX0_wayMinutes_0 : decode cX0_wayMinutes 0 = .ok (.aload_n 0, 1) := by decide +kernel
theorem dX0_wayMinutes_1 : decode cX0_wayMinutes 1 = .ok (.getfield 22, 3) := by decide +kernel
theorem dX0_wayMinutes_4 : decode cX0_wayMinutes 4 = .ok (.aload_n 0, 1) := by decide +kernel
theorem dX0_wayMinutes_5 : decode cX0_wayMinutes 5 = .ok (.getfield 25, 3) := by decide +kernel
theorem dX0_wayMinutes_8 : decode cX0_wayMinutes 8 = .ok (.aload_n 1, 1) := by decide +kernel
theorem dX0_wayMinutes_9 : decode cX0_wayMinutes 9 = .ok (.getfield 51, 3) := by decide +kernel
theorem dX0_wayMinutes_12 : decode cX0_wayMinutes 12 = .ok (.isub, 1) := by decide +kernel
theorem dX0_wayMinutes_13 : decode cX0_wayMinutes 13 = .ok (.invokestatic 52, 3) := by decide +kernel
theorem dX0_wayMinutes_16 : decode cX0_wayMinutes 16 = .ok (.imul, 1) := by decide +kernel
theorem dX0_wayMinutes_17 : decode cX0_wayMinutes 17 = .ok (.ireturn, 1) := by decide +kernel
def j_X0_wayMinutes : JD := (yX0_wayMinutes, cX0_wayMinutes, 2, (some .int))
def b_X0_wayMinutes : BD := (1, 0, 0)
theorem dX0_minutesLeft_0 : decode cX0_minutesLeft 0 = .ok (.aload_n 0, 1) := by decide +kernel
theorem dX0_minutesLeft_1 : decode cX0_minutesLeft 1 = .ok (.getfield 31, 3) := by decide +kernel
theorem dX0_minutesLeft_4 : decode cX0_minutesLeft 4 = .ok (.aload_n 0, 1) := by decide +kernel
theorem dX0_minutesLeft_5 : decode cX0_minutesLeft 5 = .ok (.getfield 34, 3) := by decide +kernel
theorem dX0_minutesLeft_8 : decode cX0_minutesLeft 8 = .ok (.iadd, 1) := by decide +kernel
theorem dX0_minutesLeft_9 : decode cX0_minutesLeft 9 = .ok (.ireturn, 1) := by decide +kernel
def j_X0_minutesLeft : JD := (yX0_minutesLeft, cX0_minutesLeft, 1, (some .int))
def b_X0_minutesLeft : BD := (0, 0, 0)
theorem dX0_putDown_0 : decode cX0_putDown 0 = .ok (.aload_n 0, 1) := by decide +kernel
theorem dX0_putDown_1 : decode cX0_putDown 1 = .ok (.iconst (-1), 1) := by decide +kernel
theorem dX0_putDown_2 : decode cX0_putDown 2 = .ok (.putfield 28, 3) := by decide +kernel
theorem dX0_putDown_5 : decode cX0_putDown 5 = .ok (.aload_n 0, 1) := by decide +kernel
theorem dX0_putDown_6 : decode cX0_putDown 6 = .ok (.iconst 0, 1) := by decide +kernel
theorem dX0_putDown_7 : decode cX0_putDown 7 = .ok (.putfield 31, 3) := by decide +kernel
theorem dX0_putDown_10 : decode cX0_putDown 10 = .ok (.aload_n 0, 1) := by decide +kernel
theorem dX0_putDown_11 : decode cX0_putDown 11 = .ok (.iconst 0, 1) := by decide +kernel
theorem dX0_putDown_12 : decode cX0_putDown 12 = .ok (.putfield 34, 3) := by decide +kernel
theorem dX0_putDown_15 : decode cX0_putDown 15 = .ok (.return_, 1) := by decide +kernel
def j_X0_putDown : JD := (yX0_putDown, cX0_putDown, 1, none)
def b_X0_putDown : BD := (0, 0, 0)
theorem dX0_work_0 : decode cX0_work 0 = .ok (.aload_n 0, 1) := by decide +kernel
theorem dX0_work_1 : decode cX0_work 1 = .ok (.getfield 31, 3) := by decide +kernel
theorem dX0_work_4 : decode cX0_work 4 = .ok (.iload_n 1, 1) := by decide +kernel
theorem dX0_work_5 : decode cX0_work 5 = .ok (.invokestatic 56, 3) := by decide +kernel
theorem dX0_work_8 : decode cX0_work 8 = .ok (.istore_n 2, 1) := by decide +kernel
theorem dX0_work_9 : decode cX0_work 9 = .ok (.aload_n 0, 1) := by decide +kernel
theorem dX0_work_10 : decode cX0_work 10 = .ok (.dup, 1) := by decide +kernel
theorem dX0_work_11 : decode cX0_work 11 = .ok (.getfield 31, 3) := by decide +kernel
theorem dX0_work_14 : decode cX0_work 14 = .ok (.iload_n 2, 1) := by decide +kernel
theorem dX0_work_15 : decode cX0_work 15 = .ok (.isub, 1) := by decide +kernel
theorem dX0_work_16 : decode cX0_work 16 = .ok (.putfield 31, 3) := by decide +kernel
theorem dX0_work_19 : decode cX0_work 19 = .ok (.aload_n 0, 1) := by decide +kernel
theorem dX0_work_20 : decode cX0_work 20 = .ok (.dup, 1) := by decide +kernel
theorem dX0_work_21 : decode cX0_work 21 = .ok (.getfield 34, 3) := by decide +kernel
theorem dX0_work_24 : decode cX0_work 24 = .ok (.iload_n 1, 1) := by decide +kernel
theorem dX0_work_25 : decode cX0_work 25 = .ok (.iload_n 2, 1) := by decide +kernel
theorem dX0_work_26 : decode cX0_work 26 = .ok (.isub, 1) := by decide +kernel
theorem dX0_work_27 : decode cX0_work 27 = .ok (.isub, 1) := by decide +kernel
theorem dX0_work_28 : decode cX0_work 28 = .ok (.putfield 34, 3) := by decide +kernel
theorem dX0_work_31 : decode cX0_work 31 = .ok (.return_, 1) := by decide +kernel
def j_X0_work : JD := (yX0_work, cX0_work, 3, none)
def b_X0_work : BD := (1, 0, 0)
theorem mi_X0_init : MI j_X0_init 0 := ⟨⟨gw_at 452 (by decide +kernel) rfl, gw_at 216 (by decide +kernel) rfl, ⟨by decide +kernel, by decide +kernel⟩, by decide +kernel, by decide, by decide +kernel⟩, rfl, rfl, gw_at 451 (by decide +kernel) rfl⟩
theorem mv_X0_copyFrom : MV j_X0_copyFrom 0 1 := ⟨⟨gw_at 1265 (by decide +kernel) rfl, gw_at 216 (by decide +kernel) rfl, ⟨by decide +kernel, by decide +kernel⟩, by decide +kernel, by decide, by decide +kernel⟩, ⟨_, rfl, rfl⟩, gw_at 1264 (by decide +kernel) rfl, gw_at 75 (by decide +kernel) rfl⟩
theorem mv_X0_pieceMinutes : MV j_X0_pieceMinutes 0 1 := ⟨⟨gw_at 1106 (by decide +kernel) rfl, gw_at 216 (by decide +kernel) rfl, ⟨by decide +kernel, by decide +kernel⟩, by decide +kernel, by decide, by decide +kernel⟩, ⟨_, rfl, rfl⟩, gw_at 1105 (by decide +kernel) rfl, gw_at 56 (by decide +kernel) rfl⟩
theorem mv_X0_wayMinutes : MV j_X0_wayMinutes 0 1 := ⟨⟨gw_at 1117 (by decide +kernel) rfl, gw_at 216 (by decide +kernel) rfl, ⟨by decide +kernel, by decide +kernel⟩, by decide +kernel, by decide, by decide +kernel⟩, ⟨_, rfl, rfl⟩, gw_at 1116 (by decide +kernel) rfl, gw_at 57 (by decide +kernel) rfl⟩
theorem mv_X0_minutesLeft : MV j_X0_minutesLeft 0 0 := ⟨⟨gw_at 1090 (by decide +kernel) rfl, gw_at 216 (by decide +kernel) rfl, ⟨by decide +kernel, by decide +kernel⟩, by decide +kernel, by decide, by decide +kernel⟩, ⟨_, rfl, rfl⟩, gw_at 1089 (by decide +kernel) rfl, gw_at 55 (by decide +kernel) rfl⟩
theorem mv_X0_putDown : MV j_X0_putDown 0 0 := ⟨⟨gw_at 938 (by decide +kernel) rfl, gw_at 216 (by decide +kernel) rfl, ⟨by decide +kernel, by decide +kernel⟩, by decide +kernel, by decide, by decide +kernel⟩, ⟨_, rfl, rfl⟩, gw_at 937 (by decide +kernel) rfl, gw_at 31 (by decide +kernel) rfl⟩
theorem mv_X0_work : MV j_X0_work 0 1 := ⟨⟨gw_at 1172 (by decide +kernel) rfl, gw_at 216 (by decide +kernel) rfl, ⟨by decide +kernel, by decide +kernel⟩, by decide +kernel, by decide, by decide +kernel⟩, ⟨_, rfl, rfl⟩, gw_at 1171 (by decide +kernel) rfl, gw_at 64 (by decide +kernel) rfl⟩
def f_X0_init (M : Mm) (l0 : Option Nat) : Option (Mm) := nz l0 <| some M
set_option maxHeartbeats 4000000 in
set_option maxRecDepth 100000 in
theorem t_X0_init_e {G : GG} {X : CX} {ans : Mm} (he : EndV G X j_X0_init b_X0_init ans) {M : Mm} {l0 : Option Nat} (h : f_X0_init M l0 = some ans) : Wt G X j_X0_init b_X0_init 0 [(0, rf G.1 l0)] [] M 0 0 := by
  unfold f_X0_init at h
  refine wt_aload_n (pc := 0) 0 dX0_init_0 rfl ?_
  refine wt_oI (pc := 1) dX0_init_1 oi_X0_3 oiM oiC (by decide) (by decide) h (fun h => ?_)
  cases h
  exact he 4 _ _ _ dX0_init_4 (by decide) (by decide)
set_option maxHeartbeats 4000000 in
set_option maxRecDepth 100000 in
theorem c_X0_init {G : GG} {M : Mm} {l0 : Option Nat} {r : Mm} (h : f_X0_init M l0 = some r) (l : Launch) : Ct l G j_X0_init b_X0_init [rf G.1 l0] M none r := cf_V (by decide +kernel) (by simp [lg_sl, rf_cat, cat_i, cat_l, j_X0_init]) rfl (by simp [lv_args, rf_cat, cat_i, cat_l]) (fun X he => t_X0_init_e he h)
def f_X0_copyFrom (M : Mm) (l0 : Option Nat) (l1 : Option Nat) : Option (Mm) := gfL M l1 0 0 fun v2 => pfL M l0 0 0 v2 fun M5 => gfI M5 l1 0 1 fun v10 => pfI M5 l0 0 1 v10 fun M13 => gfI M13 l1 0 2 fun v18 => pfI M13 l0 0 2 v18 fun M21 => gfI M21 l1 0 3 fun v26 => pfI M21 l0 0 3 v26 fun M29 => gfI M29 l1 0 4 fun v34 => pfI M29 l0 0 4 v34 fun M37 => gfI M37 l1 0 5 fun v42 => pfI M37 l0 0 5 v42 fun M45 => gfI M45 l1 0 6 fun v50 => pfI M45 l0 0 6 v50 fun M53 => gfI M53 l1 0 7 fun v58 => pfI M53 l0 0 7 v58 fun M61 => some M61
set_option maxHeartbeats 4000000 in
set_option maxRecDepth 100000 in
theorem t_X0_copyFrom_e {G : GG} {X : CX} {ans : Mm} (he : EndV G X j_X0_copyFrom b_X0_copyFrom ans) {M : Mm} {l0 : Option Nat} {l1 : Option Nat} (h : f_X0_copyFrom M l0 l1 = some ans) : Wt G X j_X0_copyFrom b_X0_copyFrom 0 [(0, rf G.1 l0), (1, rf G.1 l1)] [] M 0 0 := by
  unfold f_X0_copyFrom at h
  refine wt_aload_n (pc := 0) 0 dX0_copyFrom_0 rfl ?_
  refine wt_aload_n (pc := 1) 1 dX0_copyFrom_1 rfl ?_
  refine wt_getL (pc := 2) dX0_copyFrom_2 fl_X0_9 (fun _ _ _ => rfl) h (fun v2 h => ?_)
  refine wt_putL (pc := 5) dX0_copyFrom_5 fl_X0_9 rfl rfl h (fun M5 h => ?_)
  refine wt_aload_n (pc := 8) 0 dX0_copyFrom_8 rfl ?_
  refine wt_aload_n (pc := 9) 1 dX0_copyFrom_9 rfl ?_
  refine wt_getI (pc := 10) dX0_copyFrom_10 fl_X0_15 (fun _ _ _ => rfl) h (fun v10 h => ?_)
  refine wt_putI (pc := 13) dX0_copyFrom_13 fl_X0_15 rfl rfl h (fun M13 h => ?_)
  refine wt_aload_n (pc := 16) 0 dX0_copyFrom_16 rfl ?_
  refine wt_aload_n (pc := 17) 1 dX0_copyFrom_17 rfl ?_
  refine wt_getI (pc := 18) dX0_copyFrom_18 fl_X0_19 (fun _ _ _ => rfl) h (fun v18 h => ?_)
  refine wt_putI (pc := 21) dX0_copyFrom_21 fl_X0_19 rfl rfl h (fun M21 h => ?_)
  refine wt_aload_n (pc := 24) 0 dX0_copyFrom_24 rfl ?_
  refine wt_aload_n (pc := 25) 1 dX0_copyFrom_25 rfl ?_
  refine wt_getI (pc := 26) dX0_copyFrom_26 fl_X0_22 (fun _ _ _ => rfl) h (fun v26 h => ?_)
  refine wt_putI (pc := 29) dX0_copyFrom_29 fl_X0_22 rfl rfl h (fun M29 h => ?_)
  refine wt_aload_n (pc := 32) 0 dX0_copyFrom_32 rfl ?_
  refine wt_aload_n (pc := 33) 1 dX0_copyFrom_33 rfl ?_
  refine wt_getI (pc := 34) dX0_copyFrom_34 fl_X0_25 (fun _ _ _ => rfl) h (fun v34 h => ?_)
  refine wt_putI (pc := 37) dX0_copyFrom_37 fl_X0_25 rfl rfl h (fun M37 h => ?_)
  refine wt_aload_n (pc := 40) 0 dX0_copyFrom_40 rfl ?_
  refine wt_aload_n (pc := 41) 1 dX0_copyFrom_41 rfl ?_
  refine wt_getI (pc := 42) dX0_copyFrom_42 fl_X0_28 (fun _ _ _ => rfl) h (fun v42 h => ?_)
  refine wt_putI (pc := 45) dX0_copyFrom_45 fl_X0_28 rfl rfl h (fun M45 h => ?_)
  refine wt_aload_n (pc := 48) 0 dX0_copyFrom_48 rfl ?_
  refine wt_aload_n (pc := 49) 1 dX0_copyFrom_49 rfl ?_
  refine wt_getI (pc := 50) dX0_copyFrom_50 fl_X0_31 (fun _ _ _ => rfl) h (fun v50 h => ?_)
  refine wt_putI (pc := 53) dX0_copyFrom_53 fl_X0_31 rfl rfl h (fun M53 h => ?_)
  refine wt_aload_n (pc := 56) 0 dX0_copyFrom_56 rfl ?_
  refine wt_aload_n (pc := 57) 1 dX0_copyFrom_57 rfl ?_
  refine wt_getI (pc := 58) dX0_copyFrom_58 fl_X0_34 (fun _ _ _ => rfl) h (fun v58 h => ?_)
  refine wt_putI (pc := 61) dX0_copyFrom_61 fl_X0_34 rfl rfl h (fun M61 h => ?_)
  cases h
  exact he 64 _ _ _ dX0_copyFrom_64 (by decide) (by decide)
set_option maxHeartbeats 4000000 in
set_option maxRecDepth 100000 in
theorem c_X0_copyFrom {G : GG} {M : Mm} {l0 : Option Nat} {l1 : Option Nat} {r : Mm} (h : f_X0_copyFrom M l0 l1 = some r) (l : Launch) : Ct l G j_X0_copyFrom b_X0_copyFrom [rf G.1 l0, rf G.1 l1] M none r := cf_V (by decide +kernel) (by simp [lg_sl, rf_cat, cat_i, cat_l, j_X0_copyFrom]) rfl (by simp [lv_args, rf_cat, cat_i, cat_l]) (fun X he => t_X0_copyFrom_e he h)
def f_X0_pieceMinutes (M : Mm) (l0 : Option Nat) (l1 : Option Nat) : Option (Int32 × Mm) := gfI M l0 0 2 fun v2 => nmI (mxI 1 v2) fun x8 => gfI M l1 1 4 fun v11 => gfI M l1 1 6 fun v15 => dvI x8 <| some ((mxI 1 (((((v11 + v15) * 4) + x8) - 1) / x8)), M)
set_option maxHeartbeats 4000000 in
set_option maxRecDepth 100000 in
theorem t_X0_pieceMinutes_e {G : GG} {X : CX} {ans : Int32 × Mm} (he : EndI G X j_X0_pieceMinutes b_X0_pieceMinutes ans) {M : Mm} {l0 : Option Nat} {l1 : Option Nat} (h : f_X0_pieceMinutes M l0 l1 = some ans) : Wt G X j_X0_pieceMinutes b_X0_pieceMinutes 0 [(0, rf G.1 l0), (1, rf G.1 l1)] [] M 0 0 := by
  unfold f_X0_pieceMinutes at h
  refine wt_iconst (pc := 0) (v := 1) dX0_pieceMinutes_0 (by decide) ?_
  refine wt_aload_n (pc := 1) 0 dX0_pieceMinutes_1 rfl ?_
  refine wt_getI (pc := 2) dX0_pieceMinutes_2 fl_X0_19 (fun _ _ _ => rfl) h (fun v2 h => ?_)
  refine wt_mmax (pc := 5) dX0_pieceMinutes_5 bi_X0_37 mw_max.1 mw_max.2.1 mw_max.2.2 (by decide) (by decide) (by decide) (by decide) ?_
  refine wt_nmI h (fun x8 h => ?_)
  refine wt_istore_n (pc := 8) (i := 2) (ls' := [(2, .int x8), (0, rf G.1 l0), (1, rf G.1 l1)]) rfl dX0_pieceMinutes_8 (by decide) (by simp [rf_cat, cat_i, cat_l, cat_r]) ?_
  refine wt_iconst (pc := 9) (v := 1) dX0_pieceMinutes_9 (by decide) ?_
  refine wt_aload_n (pc := 10) 2 dX0_pieceMinutes_10 rfl ?_
  refine wt_getI (pc := 11) dX0_pieceMinutes_11 fl_X0_43 (fun _ _ _ => rfl) h (fun v11 h => ?_)
  refine wt_aload_n (pc := 14) 2 dX0_pieceMinutes_14 rfl ?_
  refine wt_getI (pc := 15) dX0_pieceMinutes_15 fl_X0_48 (fun _ _ _ => rfl) h (fun v15 h => ?_)
  refine wt_iadd (pc := 18) dX0_pieceMinutes_18 ?_
  refine wt_iconst (pc := 19) (v := 4) dX0_pieceMinutes_19 (by decide) ?_
  refine wt_imul (pc := 20) dX0_pieceMinutes_20 ?_
  refine wt_iload_n (pc := 21) 0 dX0_pieceMinutes_21 rfl ?_
  refine wt_iadd (pc := 22) dX0_pieceMinutes_22 ?_
  refine wt_iconst (pc := 23) (v := 1) dX0_pieceMinutes_23 (by decide) ?_
  refine wt_isub (pc := 24) dX0_pieceMinutes_24 ?_
  refine wt_iload_n (pc := 25) 0 dX0_pieceMinutes_25 rfl ?_
  obtain ⟨qd, h⟩ := dvI_spec h
  refine wt_idiv (pc := 26) dX0_pieceMinutes_26 qd ?_
  refine wt_mmax (pc := 27) dX0_pieceMinutes_27 bi_X0_37 mw_max.1 mw_max.2.1 mw_max.2.2 (by decide) (by decide) (by decide) (by decide) ?_
  cases h
  exact he 30 _ _ _ dX0_pieceMinutes_30 (by decide) (by decide)
set_option maxHeartbeats 4000000 in
set_option maxRecDepth 100000 in
theorem c_X0_pieceMinutes {G : GG} {M : Mm} {l0 : Option Nat} {l1 : Option Nat} {r : Int32 × Mm} (h : f_X0_pieceMinutes M l0 l1 = some r) (l : Launch) : Ct l G j_X0_pieceMinutes b_X0_pieceMinutes [rf G.1 l0, rf G.1 l1] M (some (.int r.1)) r.2 := cf_I (by decide +kernel) (by simp [lg_sl, rf_cat, cat_i, cat_l, j_X0_pieceMinutes]) rfl (by simp [lv_args, rf_cat, cat_i, cat_l]) (fun X he => t_X0_pieceMinutes_e he h)
def f_X0_wayMinutes (M : Mm) (l0 : Option Nat) (l1 : Option Nat) : Option (Int32 × Mm) := gfI M l0 0 3 fun v1 => gfI M l0 0 4 fun v5 => gfI M l1 1 1 fun v9 => some ((v1 * (abI (v5 - v9))), M)
set_option maxHeartbeats 4000000 in
set_option maxRecDepth 100000 in
theorem t_X0_wayMinutes_e {G : GG} {X : CX} {ans : Int32 × Mm} (he : EndI G X j_X0_wayMinutes b_X0_wayMinutes ans) {M : Mm} {l0 : Option Nat} {l1 : Option Nat} (h : f_X0_wayMinutes M l0 l1 = some ans) : Wt G X j_X0_wayMinutes b_X0_wayMinutes 0 [(0, rf G.1 l0), (1, rf G.1 l1)] [] M 0 0 := by
  unfold f_X0_wayMinutes at h
  refine wt_aload_n (pc := 0) 0 dX0_wayMinutes_0 rfl ?_
  refine wt_getI (pc := 1) dX0_wayMinutes_1 fl_X0_22 (fun _ _ _ => rfl) h (fun v1 h => ?_)
  refine wt_aload_n (pc := 4) 0 dX0_wayMinutes_4 rfl ?_
  refine wt_getI (pc := 5) dX0_wayMinutes_5 fl_X0_25 (fun _ _ _ => rfl) h (fun v5 h => ?_)
  refine wt_aload_n (pc := 8) 1 dX0_wayMinutes_8 rfl ?_
  refine wt_getI (pc := 9) dX0_wayMinutes_9 fl_X0_51 (fun _ _ _ => rfl) h (fun v9 h => ?_)
  refine wt_isub (pc := 12) dX0_wayMinutes_12 ?_
  refine wt_mabs (pc := 13) dX0_wayMinutes_13 bi_X0_52 mw_abs.1 mw_abs.2.1 mw_abs.2.2 (by decide) (by decide) (by decide) (by simp [rf_cat, cat_i, cat_l, cat_r]) ?_
  refine wt_imul (pc := 16) dX0_wayMinutes_16 ?_
  cases h
  exact he 17 _ _ _ dX0_wayMinutes_17 (by decide) (by decide)
set_option maxHeartbeats 4000000 in
set_option maxRecDepth 100000 in
theorem c_X0_wayMinutes {G : GG} {M : Mm} {l0 : Option Nat} {l1 : Option Nat} {r : Int32 × Mm} (h : f_X0_wayMinutes M l0 l1 = some r) (l : Launch) : Ct l G j_X0_wayMinutes b_X0_wayMinutes [rf G.1 l0, rf G.1 l1] M (some (.int r.1)) r.2 := cf_I (by decide +kernel) (by simp [lg_sl, rf_cat, cat_i, cat_l, j_X0_wayMinutes]) rfl (by simp [lv_args, rf_cat, cat_i, cat_l]) (fun X he => t_X0_wayMinutes_e he h)
def f_X0_minutesLeft (M : Mm) (l0 : Option Nat) : Option (Int32 × Mm) := gfI M l0 0 6 fun v1 => gfI M l0 0 7 fun v5 => some ((v1 + v5), M)
set_option maxHeartbeats 4000000 in
set_option maxRecDepth 100000 in
theorem t_X0_minutesLeft_e {G : GG} {X : CX} {ans : Int32 × Mm} (he : EndI G X j_X0_minutesLeft b_X0_minutesLeft ans) {M : Mm} {l0 : Option Nat} (h : f_X0_minutesLeft M l0 = some ans) : Wt G X j_X0_minutesLeft b_X0_minutesLeft 0 [(0, rf G.1 l0)] [] M 0 0 := by
  unfold f_X0_minutesLeft at h
  refine wt_aload_n (pc := 0) 0 dX0_minutesLeft_0 rfl ?_
  refine wt_getI (pc := 1) dX0_minutesLeft_1 fl_X0_31 (fun _ _ _ => rfl) h (fun v1 h => ?_)
  refine wt_aload_n (pc := 4) 0 dX0_minutesLeft_4 rfl ?_
  refine wt_getI (pc := 5) dX0_minutesLeft_5 fl_X0_34 (fun _ _ _ => rfl) h (fun v5 h => ?_)
  refine wt_iadd (pc := 8) dX0_minutesLeft_8 ?_
  cases h
  exact he 9 _ _ _ dX0_minutesLeft_9 (by decide) (by decide)
set_option maxHeartbeats 4000000 in
set_option maxRecDepth 100000 in
theorem c_X0_minutesLeft {G : GG} {M : Mm} {l0 : Option Nat} {r : Int32 × Mm} (h : f_X0_minutesLeft M l0 = some r) (l : Launch) : Ct l G j_X0_minutesLeft b_X0_minutesLeft [rf G.1 l0] M (some (.int r.1)) r.2 := cf_I (by decide +kernel) (by simp [lg_sl, rf_cat, cat_i, cat_l, j_X0_minutesLeft]) rfl (by simp [lv_args, rf_cat, cat_i, cat_l]) (fun X he => t_X0_minutesLeft_e he h)
def f_X0_putDown (M : Mm) (l0 : Option Nat) : Option (Mm) := pfI M l0 0 5 (-1) fun M2 => pfI M2 l0 0 6 0 fun M7 => pfI M7 l0 0 7 0 fun M12 => some M12
set_option maxHeartbeats 4000000 in
set_option maxRecDepth 100000 in
theorem t_X0_putDown_e {G : GG} {X : CX} {ans : Mm} (he : EndV G X j_X0_putDown b_X0_putDown ans) {M : Mm} {l0 : Option Nat} (h : f_X0_putDown M l0 = some ans) : Wt G X j_X0_putDown b_X0_putDown 0 [(0, rf G.1 l0)] [] M 0 0 := by
  unfold f_X0_putDown at h
  refine wt_aload_n (pc := 0) 0 dX0_putDown_0 rfl ?_
  refine wt_iconst (pc := 1) (v := (-1)) dX0_putDown_1 (by decide) ?_
  refine wt_putI (pc := 2) dX0_putDown_2 fl_X0_28 rfl rfl h (fun M2 h => ?_)
  refine wt_aload_n (pc := 5) 0 dX0_putDown_5 rfl ?_
  refine wt_iconst (pc := 6) (v := 0) dX0_putDown_6 (by decide) ?_
  refine wt_putI (pc := 7) dX0_putDown_7 fl_X0_31 rfl rfl h (fun M7 h => ?_)
  refine wt_aload_n (pc := 10) 0 dX0_putDown_10 rfl ?_
  refine wt_iconst (pc := 11) (v := 0) dX0_putDown_11 (by decide) ?_
  refine wt_putI (pc := 12) dX0_putDown_12 fl_X0_34 rfl rfl h (fun M12 h => ?_)
  cases h
  exact he 15 _ _ _ dX0_putDown_15 (by decide) (by decide)
set_option maxHeartbeats 4000000 in
set_option maxRecDepth 100000 in
theorem c_X0_putDown {G : GG} {M : Mm} {l0 : Option Nat} {r : Mm} (h : f_X0_putDown M l0 = some r) (l : Launch) : Ct l G j_X0_putDown b_X0_putDown [rf G.1 l0] M none r := cf_V (by decide +kernel) (by simp [lg_sl, rf_cat, cat_i, cat_l, j_X0_putDown]) rfl (by simp [lv_args, rf_cat, cat_i, cat_l]) (fun X he => t_X0_putDown_e he h)
def f_X0_work (M : Mm) (l0 : Option Nat) (l1 : Int32) : Option (Mm) := gfI M l0 0 6 fun v1 => nmI (mnI v1 l1) fun x8 => gfI M l0 0 6 fun v11 => pfI M l0 0 6 (v11 - x8) fun M16 => gfI M16 l0 0 7 fun v21 => pfI M16 l0 0 7 (v21 - (l1 - x8)) fun M28 => some M28
set_option maxHeartbeats 4000000 in
set_option maxRecDepth 100000 in
theorem t_X0_work_e {G : GG} {X : CX} {ans : Mm} (he : EndV G X j_X0_work b_X0_work ans) {M : Mm} {l0 : Option Nat} {l1 : Int32} (h : f_X0_work M l0 l1 = some ans) : Wt G X j_X0_work b_X0_work 0 [(0, rf G.1 l0), (1, .int l1)] [] M 0 0 := by
  unfold f_X0_work at h
  refine wt_aload_n (pc := 0) 0 dX0_work_0 rfl ?_
  refine wt_getI (pc := 1) dX0_work_1 fl_X0_31 (fun _ _ _ => rfl) h (fun v1 h => ?_)
  refine wt_iload_n (pc := 4) 1 dX0_work_4 rfl ?_
  refine wt_mmin (pc := 5) dX0_work_5 bi_X0_56 mw_min.1 mw_min.2.1 mw_min.2.2 (by decide) (by decide) (by decide) (by decide) ?_
  refine wt_nmI h (fun x8 h => ?_)
  refine wt_istore_n (pc := 8) (i := 2) (ls' := [(2, .int x8), (0, rf G.1 l0), (1, .int l1)]) rfl dX0_work_8 (by decide) rfl ?_
  refine wt_aload_n (pc := 9) 1 dX0_work_9 rfl ?_
  refine wt_dup (pc := 10) dX0_work_10 (rf_cat _ _) ?_
  refine wt_getI (pc := 11) dX0_work_11 fl_X0_31 (fun _ _ _ => rfl) h (fun v11 h => ?_)
  refine wt_iload_n (pc := 14) 0 dX0_work_14 rfl ?_
  refine wt_isub (pc := 15) dX0_work_15 ?_
  refine wt_putI (pc := 16) dX0_work_16 fl_X0_31 rfl rfl h (fun M16 h => ?_)
  refine wt_aload_n (pc := 19) 1 dX0_work_19 rfl ?_
  refine wt_dup (pc := 20) dX0_work_20 (rf_cat _ _) ?_
  refine wt_getI (pc := 21) dX0_work_21 fl_X0_34 (fun _ _ _ => rfl) h (fun v21 h => ?_)
  refine wt_iload_n (pc := 24) 2 dX0_work_24 rfl ?_
  refine wt_iload_n (pc := 25) 0 dX0_work_25 rfl ?_
  refine wt_isub (pc := 26) dX0_work_26 ?_
  refine wt_isub (pc := 27) dX0_work_27 ?_
  refine wt_putI (pc := 28) dX0_work_28 fl_X0_34 rfl rfl h (fun M28 h => ?_)
  cases h
  exact he 31 _ _ _ dX0_work_31 (by decide) (by decide)
set_option maxHeartbeats 4000000 in
set_option maxRecDepth 100000 in
theorem c_X0_work {G : GG} {M : Mm} {l0 : Option Nat} {l1 : Int32} {r : Mm} (h : f_X0_work M l0 l1 = some r) (l : Launch) : Ct l G j_X0_work b_X0_work [rf G.1 l0, .int l1] M none r := cf_V (by decide +kernel) (by simp [lg_sl, rf_cat, cat_i, cat_l, j_X0_work]) rfl (by simp [lv_args, rf_cat, cat_i, cat_l]) (fun X he => t_X0_work_e he h)

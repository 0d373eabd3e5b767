theorem fl_X9_11 : FLk RX9 11 9 3 := ⟨_, rfl, by decide, Or.inl (gw_at 591 (by decide +kernel) rfl)⟩
theorem fl_X9_15 : FLk RX9 15 9 4 := ⟨_, rfl, by decide, Or.inl (gw_at 594 (by decide +kernel) rfl)⟩
theorem fl_X9_18 : FLk RX9 18 9 5 := ⟨_, rfl, by decide, Or.inl (gw_at 597 (by decide +kernel) rfl)⟩
theorem fl_X9_21 : FLk RX9 21 9 6 := ⟨_, rfl, by decide, Or.inl (gw_at 600 (by decide +kernel) rfl)⟩
theorem fl_X9_24 : FLk RX9 24 9 7 := ⟨_, rfl, by decide, Or.inl (gw_at 603 (by decide +kernel) rfl)⟩
theorem fl_X9_27 : FLk RX9 27 9 0 := ⟨_, rfl, by decide, Or.inl (gw_at 582 (by decide +kernel) rfl)⟩
theorem fl_X9_31 : FLk RX9 31 9 1 := ⟨_, rfl, by decide, Or.inl (gw_at 585 (by decide +kernel) rfl)⟩
theorem fl_X9_35 : FLk RX9 35 9 2 := ⟨_, rfl, by decide, Or.inl (gw_at 588 (by decide +kernel) rfl)⟩
theorem ff_X9_11 : FFk RX9 11 9 3 := ⟨_, rfl, by decide, rfl, rfl, gw_at 591 (by decide +kernel) rfl⟩
theorem ff_X9_15 : FFk RX9 15 9 4 := ⟨_, rfl, by decide, rfl, rfl, gw_at 594 (by decide +kernel) rfl⟩
theorem ff_X9_18 : FFk RX9 18 9 5 := ⟨_, rfl, by decide, rfl, rfl, gw_at 597 (by decide +kernel) rfl⟩
theorem ff_X9_21 : FFk RX9 21 9 6 := ⟨_, rfl, by decide, rfl, rfl, gw_at 600 (by decide +kernel) rfl⟩
theorem ff_X9_24 : FFk RX9 24 9 7 := ⟨_, rfl, by decide, rfl, rfl, gw_at 603 (by decide +kernel) rfl⟩
theorem oi_X9_3 : Cond.methodLink RX9 3 Lib.objectInit ∈ GW := gw_at 581 (by decide +kernel) rfl
theorem bi_X9_38 : Cond.methodLink RX9 38 arraycopyName ∈ GW := gw_at 1503 (by decide +kernel) rfl
theorem dX9_init_0 : decode cX9_init 0 = .ok (.aload_n 0, 1) := by decide +kernel
theorem dX9_init_1 : decode cX9_init 1 = .ok (.invokespecial 3, 3) := by decide +kernel
theorem dX9_init_4 : decode cX9_init 4 = .ok (.aload_n 0, 1) := by decide +kernel
theorem dX9_init_5 : decode cX9_init 5 = .ok (.bipush 60, 2) := by decide +kernel
theorem dX9_init_7 : decode cX9_init 7 = .ok (.newarray .int, 2) := by decide +kernel
theorem dX9_init_9 : decode cX9_init 9 = .ok (.putfield 11, 3) := by decide +kernel
theorem dX9_init_12 : decode cX9_init 12 = .ok (.aload_n 0, 1) := by decide +kernel
theorem dX9_init_13 : decode cX9_init 13 = .ok (.bipush 60, 2) := by decide +kernel
theorem dX9_init_15 : decode cX9_init 15 = .ok (.newarray .int, 2) := by decide +kernel
theorem dX9_init_17 : decode cX9_init 17 = .ok (.putfield 15, 3) := by decide +kernel
theorem dX9_init_20 : decode cX9_init 20 = .ok (.aload_n 0, 1) := by decide +kernel
theorem dX9_init_21 : decode cX9_init 21 = .ok (.bipush 60, 2) := by decide +kernel
theorem dX9_init_23 : decode cX9_init 23 = .ok (.newarray .int, 2) := by decide +kernel
theorem dX9_init_25 : decode cX9_init 25 = .ok (.putfield 18, 3) := by decide +kernel
theorem dX9_init_28 : decode cX9_init 28 = .ok (.aload_n 0, 1) := by decide +kernel
theorem dX9_init_29 : decode cX9_init 29 = .ok (.bipush 60, 2) := by decide +kernel
theorem dX9_init_31 : decode cX9_init 31 = .ok (.newarray .int, 2) := by decide +kernel
theorem dX9_init_33 : decode cX9_init 33 = .ok (.putfield 21, 3) := by decide +kernel
theorem dX9_init_36 : decode cX9_init 36 = .ok (.aload_n 0, 1) := by decide +kernel
theorem dX9_init_37 : decode cX9_init 37 = .ok (.bipush 60, 2) := by decide +kernel
theorem dX9_init_39 : decode cX9_init 39 = .ok (.newarray .int, 2) := by decide +kernel
theorem dX9_init_41 : decode cX9_init 41 = .ok (.putfield 24, 3) := by decide +kernel
theorem dX9_init_44 : decode cX9_init 44 = .ok (.return_, 1) := by decide +kernel
def j_X9_init : JD := (yX9_init, cX9_init, 1, none)
def b_X9_init : BD := (1, 5, 300)
theorem dX9_clear_0 : decode cX9_clear 0 = .ok (.aload_n 0, 1) := by decide +kernel
theorem dX9_clear_1 : decode cX9_clear 1 = .ok (.iconst 0, 1) := by decide +kernel
theorem dX9_clear_2 : decode cX9_clear 2 = .ok (.putfield 27, 3) := by decide +kernel
theorem dX9_clear_5 : decode cX9_clear 5 = .ok (.aload_n 0, 1) := by decide +kernel
theorem dX9_clear_6 : decode cX9_clear 6 = .ok (.iconst 0, 1) := by decide +kernel
theorem dX9_clear_7 : decode cX9_clear 7 = .ok (.putfield 31, 3) := by decide +kernel
theorem dX9_clear_10 : decode cX9_clear 10 = .ok (.aload_n 0, 1) := by decide +kernel
theorem dX9_clear_11 : decode cX9_clear 11 = .ok (.iconst 0, 1) := by decide +kernel
theorem dX9_clear_12 : decode cX9_clear 12 = .ok (.putfield 35, 3) := by decide +kernel
theorem dX9_clear_15 : decode cX9_clear 15 = .ok (.return_, 1) := by decide +kernel
def j_X9_clear : JD := (yX9_clear, cX9_clear, 1, none)
def b_X9_clear : BD := (0, 0, 0)
theorem dX9_copyFrom_0 : decode cX9_copyFrom 0 = .ok (.aload_n 0, 1) := by decide +kernel
theorem dX9_copyFrom_1 : decode cX9_copyFrom 1 = .ok (.aload_n 1, 1) := by decide +kernel
theorem dX9_copyFrom_2 : decode cX9_copyFrom 2 = .ok (.getfield 27, 3) := by decide +kernel
theorem dX9_copyFrom_5 : decode cX9_copyFrom 5 = .ok (.putfield 27, 3) := by decide +kernel
theorem dX9_copyFrom_8 : decode cX9_copyFrom 8 = .ok (.aload_n 0, 1) := by decide +kernel
theorem dX9_copyFrom_9 : decode cX9_copyFrom 9 = .ok (.aload_n 1, 1) := by decide +kernel
theorem dX9_copyFrom_10 : decode cX9_copyFrom 10 = .ok (.getfield 31, 3) := by decide +kernel
theorem dX9_copyFrom_13 : decode cX9_copyFrom 13 = .ok (.putfield 31, 3) := by decide +kernel
theorem dX9_copyFrom_16 : decode cX9_copyFrom 16 = .ok (.aload_n 0, 1) := by decide +kernel
theorem dX9_copyFrom_17 : decode cX9_copyFrom 17 = .ok (.aload_n 1, 1) := by decide +kernel
theorem dX9_copyFrom_18 : decode cX9_copyFrom 18 = .ok (.getfield 35, 3) := by decide +kernel
theorem dX9_copyFrom_21 : decode cX9_copyFrom 21 = .ok (.putfield 35, 3) := by decide +kernel
theorem dX9_copyFrom_24 : decode cX9_copyFrom 24 = .ok (.aload_n 1, 1) := by decide +kernel
theorem dX9_copyFrom_25 : decode cX9_copyFrom 25 = .ok (.getfield 11, 3) := by decide +kernel
theorem dX9_copyFrom_28 : decode cX9_copyFrom 28 = .ok (.iconst 0, 1) := by decide +kernel
theorem dX9_copyFrom_29 : decode cX9_copyFrom 29 = .ok (.aload_n 0, 1) := by decide +kernel
theorem dX9_copyFrom_30 : decode cX9_copyFrom 30 = .ok (.getfield 11, 3) := by decide +kernel
theorem dX9_copyFrom_33 : decode cX9_copyFrom 33 = .ok (.iconst 0, 1) := by decide +kernel
theorem dX9_copyFrom_34 : decode cX9_copyFrom 34 = .ok (.bipush 60, 2) := by decide +kernel
theorem dX9_copyFrom_36 : decode cX9_copyFrom 36 = .ok (.invokestatic 38, 3) := by decide +kernel
theorem dX9_copyFrom_39 : decode cX9_copyFrom 39 = .ok (.aload_n 1, 1) := by decide +kernel
theorem dX9_copyFrom_40 : decode cX9_copyFrom 40 = .ok (.getfield 15, 3) := by decide +kernel
theorem dX9_copyFrom_43 : decode cX9_copyFrom 43 = .ok (.iconst 0, 1) := by decide +kernel
theorem dX9_copyFrom_44 : decode cX9_copyFrom 44 = .ok (.aload_n 0, 1) := by decide +kernel
theorem dX9_copyFrom_45 : decode cX9_copyFrom 45 = .ok (.getfield 15, 3) := by decide +kernel
theorem dX9_copyFrom_48 : decode cX9_copyFrom 48 = .ok (.iconst 0, 1) := by decide +kernel
theorem dX9_copyFrom_49 : decode cX9_copyFrom 49 = .ok (.bipush 60, 2) := by decide +kernel
theorem dX9_copyFrom_51 : decode cX9_copyFrom 51 = .ok (.invokestatic 38, 3) := by decide +kernel
theorem dX9_copyFrom_54 : decode cX9_copyFrom 54 = .ok (.aload_n 1, 1) := by decide +kernel
theorem dX9_copyFrom_55 : decode cX9_copyFrom 55 = .ok (.getfield 18, 3) := by decide +kernel
theorem dX9_copyFrom_58 : decode cX9_copyFrom 58 = .ok (.iconst 0, 1) := by decide +kernel
theorem dX9_copyFrom_59 : decode cX9_copyFrom 59 = .ok (.aload_n 0, 1) := by decide +kernel
theorem dX9_copyFrom_60 : decode cX9_copyFrom 60 = .ok (.getfield 18, 3) := by decide +kernel
theorem dX9_copyFrom_63 : decode cX9_copyFrom 63 = .ok (.iconst 0, 1) := by decide +kernel
theorem dX9_copyFrom_64 : decode cX9_copyFrom 64 = .ok (.bipush 60, 2) := by decide +kernel
theorem dX9_copyFrom_66 : decode cX9_copyFrom 66 = .ok (.invokestatic 38, 3) := by decide +kernel
theorem dX9_copyFrom_69 : decode cX9_copyFrom 69 = .ok (.aload_n 1, 1) := by decide +kernel
theorem dX9_copyFrom_70 : decode cX9_copyFrom 70 = .ok (.getfield 21, 3) := by decide +kernel
theorem dX9_copyFrom_73 : decode cX9_copyFrom 73 = .ok (.iconst 0, 1) := by decide +kernel
theorem dX9_copyFrom_74 : decode cX9_copyFrom 74 = .ok (.aload_n 0, 1) := by decide +kernel
theorem dX9_copyFrom_75 : decode cX9_copyFrom 75 = .ok (.getfield 21, 3) := by decide +kernel
theorem dX9_copyFrom_78 : decode cX9_copyFrom 78 = .ok (.iconst 0, 1) := by decide +kernel
theorem dX9_copyFrom_79 : decode cX9_copyFrom 79 = .ok (.bipush 60, 2) := by decide +kernel
theorem dX9_copyFrom_81 : decode cX9_copyFrom 81 = .ok (.invokestatic 38, 3) := by decide +kernel
theorem dX9_copyFrom_84 : decode cX9_copyFrom 84 = .ok (.aload_n 1, 1) := by decide +kernel
theorem dX9_copyFrom_85 : decode cX9_copyFrom 85 = .ok (.getfield 24, 3) := by decide +kernel
theorem dX9_copyFrom_88 : decode cX9_copyFrom 88 = .ok (.iconst 0, 1) := by decide +kernel
theorem dX9_copyFrom_89 : decode cX9_copyFrom 89 = .ok (.aload_n 0, 1) := by decide +kernel
theorem dX9_copyFrom_90 : decode cX9_copyFrom 90 = .ok (.getfield 24, 3) := by decide +kernel
theorem dX9_copyFrom_93 : decode cX9_copyFrom 93 = .ok (.iconst 0, 1) := by decide +kernel
theorem dX9_copyFrom_94 : decode cX9_copyFrom 94 = .ok (.bipush 60, 2) := by decide +kernel
theorem dX9_copyFrom_96 : decode cX9_copyFrom 96 = .ok (.invokestatic 38, 3) := by decide +kernel
theorem dX9_copyFrom_99 : decode cX9_copyFrom 99 = .ok (.return_, 1) := by decide +kernel
def j_X9_copyFrom : JD := (yX9_copyFrom, cX9_copyFrom, 2, none)
def b_X9_copyFrom : BD := (1, 0, 0)
theorem mi_X9_init : MI j_X9_init 0 := ⟨⟨gw_at 580 (by decide +kernel) rfl, gw_at 218 (by decide +kernel) rfl, ⟨by decide +kernel, by decide +kernel⟩, by decide +kernel, by decide, by decide +kernel⟩, rfl, rfl, gw_at 579 (by decide +kernel) rfl⟩
theorem mv_X9_clear : MV j_X9_clear 9 0 := ⟨⟨gw_at 964 (by decide +kernel) rfl, gw_at 218 (by decide +kernel) rfl, ⟨by decide +kernel, by decide +kernel⟩, by decide +kernel, by decide, by decide +kernel⟩, ⟨_, rfl, rfl⟩, gw_at 963 (by decide +kernel) rfl, gw_at 37 (by decide +kernel) rfl⟩
theorem mv_X9_copyFrom : MV j_X9_copyFrom 9 1 := ⟨⟨gw_at 1502 (by decide +kernel) rfl, gw_at 218 (by decide +kernel) rfl, ⟨by decide +kernel, by decide +kernel⟩, by decide +kernel, by decide, by decide +kernel⟩, ⟨_, rfl, rfl⟩, gw_at 1501 (by decide +kernel) rfl, gw_at 104 (by decide +kernel) rfl⟩
def f_X9_init (M : Mm) (l0 : Option Nat) : Option (Mm) := nz l0 <| nwa M 21 60 fun q7 M7 => pfR M7 l0 9 3 q7 fun M9 => nwa M9 21 60 fun q15 M15 => pfR M15 l0 9 4 q15 fun M17 => nwa M17 21 60 fun q23 M23 => pfR M23 l0 9 5 q23 fun M25 => nwa M25 21 60 fun q31 M31 => pfR M31 l0 9 6 q31 fun M33 => nwa M33 21 60 fun q39 M39 => pfR M39 l0 9 7 q39 fun M41 => some M41
set_option maxHeartbeats 4000000 in
set_option maxRecDepth 100000 in
theorem t_X9_init_e {G : GG} {X : CX} {ans : Mm} (he : EndV G X j_X9_init b_X9_init ans) {M : Mm} {l0 : Option Nat} (h : f_X9_init M l0 = some ans) : Wt G X j_X9_init b_X9_init 0 [(0, rf G.1 l0)] [] M 0 0 := by
  unfold f_X9_init at h
  refine wt_aload_n (pc := 0) 0 dX9_init_0 rfl ?_
  refine wt_oI (pc := 1) dX9_init_1 oi_X9_3 oiM oiC (by decide) (by decide) h (fun h => ?_)
  refine wt_aload_n (pc := 4) 0 dX9_init_4 rfl ?_
  refine wt_bipush (pc := 5) (v := 60) dX9_init_5 (by decide) ?_
  refine wt_newarray (pc := 7) (kd := 21) (ty := .int) (n' := 60) dX9_init_7 rfl rfl ac_int (fun _ _ h => h) (by decide) (by decide) (by decide) (by decide) h (fun q7 M7 h => ?_)
  refine wt_putFA (pc := 9) dX9_init_9 ff_X9_11 rfl rfl h (fun M9 h => ?_)
  refine wt_aload_n (pc := 12) 0 dX9_init_12 rfl ?_
  refine wt_bipush (pc := 13) (v := 60) dX9_init_13 (by decide) ?_
  refine wt_newarray (pc := 15) (kd := 21) (ty := .int) (n' := 60) dX9_init_15 rfl rfl ac_int (fun _ _ h => h) (by decide) (by decide) (by decide) (by decide) h (fun q15 M15 h => ?_)
  refine wt_putFA (pc := 17) dX9_init_17 ff_X9_15 rfl rfl h (fun M17 h => ?_)
  refine wt_aload_n (pc := 20) 0 dX9_init_20 rfl ?_
  refine wt_bipush (pc := 21) (v := 60) dX9_init_21 (by decide) ?_
  refine wt_newarray (pc := 23) (kd := 21) (ty := .int) (n' := 60) dX9_init_23 rfl rfl ac_int (fun _ _ h => h) (by decide) (by decide) (by decide) (by decide) h (fun q23 M23 h => ?_)
  refine wt_putFA (pc := 25) dX9_init_25 ff_X9_18 rfl rfl h (fun M25 h => ?_)
  refine wt_aload_n (pc := 28) 0 dX9_init_28 rfl ?_
  refine wt_bipush (pc := 29) (v := 60) dX9_init_29 (by decide) ?_
  refine wt_newarray (pc := 31) (kd := 21) (ty := .int) (n' := 60) dX9_init_31 rfl rfl ac_int (fun _ _ h => h) (by decide) (by decide) (by decide) (by decide) h (fun q31 M31 h => ?_)
  refine wt_putFA (pc := 33) dX9_init_33 ff_X9_21 rfl rfl h (fun M33 h => ?_)
  refine wt_aload_n (pc := 36) 0 dX9_init_36 rfl ?_
  refine wt_bipush (pc := 37) (v := 60) dX9_init_37 (by decide) ?_
  refine wt_newarray (pc := 39) (kd := 21) (ty := .int) (n' := 60) dX9_init_39 rfl rfl ac_int (fun _ _ h => h) (by decide) (by decide) (by decide) (by decide) h (fun q39 M39 h => ?_)
  refine wt_putFA (pc := 41) dX9_init_41 ff_X9_24 rfl rfl h (fun M41 h => ?_)
  cases h
  exact he 44 _ _ _ dX9_init_44 (by decide) (by decide)
set_option maxHeartbeats 4000000 in
set_option maxRecDepth 100000 in
theorem c_X9_init {G : GG} {M : Mm} {l0 : Option Nat} {r : Mm} (h : f_X9_init M l0 = some r) (l : Launch) : Ct l G j_X9_init b_X9_init [rf G.1 l0] M none r := cf_V (by decide +kernel) (by simp [lg_sl, rf_cat, cat_i, cat_l, j_X9_init]) rfl (by simp [lv_args, rf_cat, cat_i, cat_l]) (fun X he => t_X9_init_e he h)
def f_X9_clear (M : Mm) (l0 : Option Nat) : Option (Mm) := pfZ M l0 9 0 0 fun M2 => pfI M2 l0 9 1 0 fun M7 => pfI M7 l0 9 2 0 fun M12 => some M12
set_option maxHeartbeats 4000000 in
set_option maxRecDepth 100000 in
theorem t_X9_clear_e {G : GG} {X : CX} {ans : Mm} (he : EndV G X j_X9_clear b_X9_clear ans) {M : Mm} {l0 : Option Nat} (h : f_X9_clear M l0 = some ans) : Wt G X j_X9_clear b_X9_clear 0 [(0, rf G.1 l0)] [] M 0 0 := by
  unfold f_X9_clear at h
  refine wt_aload_n (pc := 0) 0 dX9_clear_0 rfl ?_
  refine wt_iconst (pc := 1) (v := 0) dX9_clear_1 (by decide) ?_
  refine wt_putZ (pc := 2) dX9_clear_2 fl_X9_27 rfl rfl h (fun M2 h => ?_)
  refine wt_aload_n (pc := 5) 0 dX9_clear_5 rfl ?_
  refine wt_iconst (pc := 6) (v := 0) dX9_clear_6 (by decide) ?_
  refine wt_putI (pc := 7) dX9_clear_7 fl_X9_31 rfl rfl h (fun M7 h => ?_)
  refine wt_aload_n (pc := 10) 0 dX9_clear_10 rfl ?_
  refine wt_iconst (pc := 11) (v := 0) dX9_clear_11 (by decide) ?_
  refine wt_putI (pc := 12) dX9_clear_12 fl_X9_35 rfl rfl h (fun M12 h => ?_)
  cases h
  exact he 15 _ _ _ dX9_clear_15 (by decide) (by decide)
set_option maxHeartbeats 4000000 in
set_option maxRecDepth 100000 in
theorem c_X9_clear {G : GG} {M : Mm} {l0 : Option Nat} {r : Mm} (h : f_X9_clear M l0 = some r) (l : Launch) : Ct l G j_X9_clear b_X9_clear [rf G.1 l0] M none r := cf_V (by decide +kernel) (by simp [lg_sl, rf_cat, cat_i, cat_l, j_X9_clear]) rfl (by simp [lv_args, rf_cat, cat_i, cat_l]) (fun X he => t_X9_clear_e he h)
def f_X9_copyFrom (M : Mm) (l0 : Option Nat) (l1 : Option Nat) : Option (Mm) := gfI M l1 9 0 fun v2 => pfZ M l0 9 0 v2 fun M5 => gfI M5 l1 9 1 fun v10 => pfI M5 l0 9 1 v10 fun M13 => gfI M13 l1 9 2 fun v18 => pfI M13 l0 9 2 v18 fun M21 => gfR M21 l1 9 3 fun v25 => gfR M21 l0 9 3 fun v30 => acI M21 v25 0 v30 0 60 fun M36 => gfR M36 l1 9 4 fun v40 => gfR M36 l0 9 4 fun v45 => acI M36 v40 0 v45 0 60 fun M51 => gfR M51 l1 9 5 fun v55 => gfR M51 l0 9 5 fun v60 => acI M51 v55 0 v60 0 60 fun M66 => gfR M66 l1 9 6 fun v70 => gfR M66 l0 9 6 fun v75 => acI M66 v70 0 v75 0 60 fun M81 => gfR M81 l1 9 7 fun v85 => gfR M81 l0 9 7 fun v90 => acI M81 v85 0 v90 0 60 fun M96 => some M96
set_option maxHeartbeats 4000000 in
set_option maxRecDepth 100000 in
theorem t_X9_copyFrom_e {G : GG} {X : CX} {ans : Mm} (he : EndV G X j_X9_copyFrom b_X9_copyFrom ans) {M : Mm} {l0 : Option Nat} {l1 : Option Nat} (h : f_X9_copyFrom M l0 l1 = some ans) : Wt G X j_X9_copyFrom b_X9_copyFrom 0 [(0, rf G.1 l0), (1, rf G.1 l1)] [] M 0 0 := by
  unfold f_X9_copyFrom at h
  refine wt_aload_n (pc := 0) 0 dX9_copyFrom_0 rfl ?_
  refine wt_aload_n (pc := 1) 1 dX9_copyFrom_1 rfl ?_
  refine wt_getI (pc := 2) dX9_copyFrom_2 fl_X9_27 (fun _ _ _ => rfl) h (fun v2 h => ?_)
  refine wt_putZ (pc := 5) dX9_copyFrom_5 fl_X9_27 rfl rfl h (fun M5 h => ?_)
  refine wt_aload_n (pc := 8) 0 dX9_copyFrom_8 rfl ?_
  refine wt_aload_n (pc := 9) 1 dX9_copyFrom_9 rfl ?_
  refine wt_getI (pc := 10) dX9_copyFrom_10 fl_X9_31 (fun _ _ _ => rfl) h (fun v10 h => ?_)
  refine wt_putI (pc := 13) dX9_copyFrom_13 fl_X9_31 rfl rfl h (fun M13 h => ?_)
  refine wt_aload_n (pc := 16) 0 dX9_copyFrom_16 rfl ?_
  refine wt_aload_n (pc := 17) 1 dX9_copyFrom_17 rfl ?_
  refine wt_getI (pc := 18) dX9_copyFrom_18 fl_X9_35 (fun _ _ _ => rfl) h (fun v18 h => ?_)
  refine wt_putI (pc := 21) dX9_copyFrom_21 fl_X9_35 rfl rfl h (fun M21 h => ?_)
  refine wt_aload_n (pc := 24) 1 dX9_copyFrom_24 rfl ?_
  refine wt_getR (pc := 25) dX9_copyFrom_25 fl_X9_11 (fun _ _ _ => rfl) h (fun v25 h => ?_)
  refine wt_iconst (pc := 28) (v := 0) dX9_copyFrom_28 (by decide) ?_
  refine wt_aload_n (pc := 29) 0 dX9_copyFrom_29 rfl ?_
  refine wt_getR (pc := 30) dX9_copyFrom_30 fl_X9_11 (fun _ _ _ => rfl) h (fun v30 h => ?_)
  refine wt_iconst (pc := 33) (v := 0) dX9_copyFrom_33 (by decide) ?_
  refine wt_bipush (pc := 34) (v := 60) dX9_copyFrom_34 (by decide) ?_
  refine wt_copyI (pc := 36) dX9_copyFrom_36 bi_X9_38 mw_copy.1 mw_copy.2.1 mw_copy.2.2 (by decide) (by decide) h (fun M36 h => ?_)
  refine wt_aload_n (pc := 39) 1 dX9_copyFrom_39 rfl ?_
  refine wt_getR (pc := 40) dX9_copyFrom_40 fl_X9_15 (fun _ _ _ => rfl) h (fun v40 h => ?_)
  refine wt_iconst (pc := 43) (v := 0) dX9_copyFrom_43 (by decide) ?_
  refine wt_aload_n (pc := 44) 0 dX9_copyFrom_44 rfl ?_
  refine wt_getR (pc := 45) dX9_copyFrom_45 fl_X9_15 (fun _ _ _ => rfl) h (fun v45 h => ?_)
  refine wt_iconst (pc := 48) (v := 0) dX9_copyFrom_48 (by decide) ?_
  refine wt_bipush (pc := 49) (v := 60) dX9_copyFrom_49 (by decide) ?_
  refine wt_copyI (pc := 51) dX9_copyFrom_51 bi_X9_38 mw_copy.1 mw_copy.2.1 mw_copy.2.2 (by decide) (by decide) h (fun M51 h => ?_)
  refine wt_aload_n (pc := 54) 1 dX9_copyFrom_54 rfl ?_
  refine wt_getR (pc := 55) dX9_copyFrom_55 fl_X9_18 (fun _ _ _ => rfl) h (fun v55 h => ?_)
  refine wt_iconst (pc := 58) (v := 0) dX9_copyFrom_58 (by decide) ?_
  refine wt_aload_n (pc := 59) 0 dX9_copyFrom_59 rfl ?_
  refine wt_getR (pc := 60) dX9_copyFrom_60 fl_X9_18 (fun _ _ _ => rfl) h (fun v60 h => ?_)
  refine wt_iconst (pc := 63) (v := 0) dX9_copyFrom_63 (by decide) ?_
  refine wt_bipush (pc := 64) (v := 60) dX9_copyFrom_64 (by decide) ?_
  refine wt_copyI (pc := 66) dX9_copyFrom_66 bi_X9_38 mw_copy.1 mw_copy.2.1 mw_copy.2.2 (by decide) (by decide) h (fun M66 h => ?_)
  refine wt_aload_n (pc := 69) 1 dX9_copyFrom_69 rfl ?_
  refine wt_getR (pc := 70) dX9_copyFrom_70 fl_X9_21 (fun _ _ _ => rfl) h (fun v70 h => ?_)
  refine wt_iconst (pc := 73) (v := 0) dX9_copyFrom_73 (by decide) ?_
  refine wt_aload_n (pc := 74) 0 dX9_copyFrom_74 rfl ?_
  refine wt_getR (pc := 75) dX9_copyFrom_75 fl_X9_21 (fun _ _ _ => rfl) h (fun v75 h => ?_)
  refine wt_iconst (pc := 78) (v := 0) dX9_copyFrom_78 (by decide) ?_
  refine wt_bipush (pc := 79) (v := 60) dX9_copyFrom_79 (by decide) ?_
  refine wt_copyI (pc := 81) dX9_copyFrom_81 bi_X9_38 mw_copy.1 mw_copy.2.1 mw_copy.2.2 (by decide) (by decide) h (fun M81 h => ?_)
  refine wt_aload_n (pc := 84) 1 dX9_copyFrom_84 rfl ?_
  refine wt_getR (pc := 85) dX9_copyFrom_85 fl_X9_24 (fun _ _ _ => rfl) h (fun v85 h => ?_)
  refine wt_iconst (pc := 88) (v := 0) dX9_copyFrom_88 (by decide) ?_
  refine wt_aload_n (pc := 89) 0 dX9_copyFrom_89 rfl ?_
  refine wt_getR (pc := 90) dX9_copyFrom_90 fl_X9_24 (fun _ _ _ => rfl) h (fun v90 h => ?_)
  refine wt_iconst (pc := 93) (v := 0) dX9_copyFrom_93 (by decide) ?_
  refine wt_bipush (pc := 94) (v := 60) dX9_copyFrom_94 (by decide) ?_
  refine wt_copyI (pc := 96) dX9_copyFrom_96 bi_X9_38 mw_copy.1 mw_copy.2.1 mw_copy.2.2 (by decide) (by decide) h (fun M96 h => ?_)
  cases h
  exact he 99 _ _ _ dX9_copyFrom_99 (by decide) (by decide)
set_option maxHeartbeats 4000000 in
set_option maxRecDepth 100000 in
theorem c_X9_copyFrom {G : GG} {M : Mm} {l0 : Option Nat} {l1 : Option Nat} {r : Mm} (h : f_X9_copyFrom M l0 l1 = some r) (l : Launch) : Ct l G j_X9_copyFrom b_X9_copyFrom [rf G.1 l0, rf G.1 l1] M none r := cf_V (by decide +kernel) (by simp [lg_sl, rf_cat, cat_i, cat_l, j_X9_copyFrom]) rfl (by simp [lv_args, rf_cat, cat_i, cat_l]) (fun X he => t_X9_copyFrom_e he h)

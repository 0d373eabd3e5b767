theorem fl_X1_7 : FLk RX1 7 1 0 := ⟨_, rfl, by decide, Or.inl (gw_at 390 (by decide +kernel) rfl)⟩
theorem fl_X1_13 : FLk RX1 13 1 1 := ⟨_, rfl, by decide, Or.inl (gw_at 393 (by decide +kernel) rfl)⟩
theorem fl_X1_17 : FLk RX1 17 1 2 := ⟨_, rfl, by decide, Or.inl (gw_at 399 (by decide +kernel) rfl)⟩
theorem fl_X1_20 : FLk RX1 20 1 3 := ⟨_, rfl, by decide, Or.inl (gw_at 403 (by decide +kernel) rfl)⟩
theorem fl_X1_23 : FLk RX1 23 1 4 := ⟨_, rfl, by decide, Or.inl (gw_at 407 (by decide +kernel) rfl)⟩
theorem fl_X1_26 : FLk RX1 26 1 5 := ⟨_, rfl, by decide, Or.inl (gw_at 411 (by decide +kernel) rfl)⟩
theorem fl_X1_29 : FLk RX1 29 1 6 := ⟨_, rfl, by decide, Or.inl (gw_at 415 (by decide +kernel) rfl)⟩
theorem fl_X1_32 : FLk RX1 32 1 7 := ⟨_, rfl, by decide, Or.inl (gw_at 419 (by decide +kernel) rfl)⟩
theorem fl_X1_35 : FLk RX1 35 1 8 := ⟨_, rfl, by decide, Or.inl (gw_at 425 (by decide +kernel) rfl)⟩
theorem oi_X1_1 : Cond.methodLink RX1 1 Lib.objectInit ∈ GW := gw_at 389 (by decide +kernel) rfl
theorem dX1_init_0 : decode cX1_init 0 = .ok (.aload_n 0, 1) := by decide +kernel
theorem dX1_init_1 : decode cX1_init 1 = .ok (.invokespecial 1, 3) := by decide +kernel
theorem dX1_init_4 : decode cX1_init 4 = .ok (.return_, 1) := by decide +kernel
def j_X1_init : JD := (yX1_init, cX1_init, 1, none)
def b_X1_init : BD := (1, 0, 0)
theorem dX1_copyFrom_0 : decode cX1_copyFrom 0 = .ok (.aload_n 0, 1) := by decide +kernel
theorem dX1_copyFrom_1 : decode cX1_copyFrom 1 = .ok (.aload_n 1, 1) := by decide +kernel
theorem dX1_copyFrom_2 : decode cX1_copyFrom 2 = .ok (.getfield 7, 3) := by decide +kernel
theorem dX1_copyFrom_5 : decode cX1_copyFrom 5 = .ok (.putfield 7, 3) := by decide +kernel
theorem dX1_copyFrom_8 : decode cX1_copyFrom 8 = .ok (.aload_n 0, 1) := by decide +kernel
theorem dX1_copyFrom_9 : decode cX1_copyFrom 9 = .ok (.aload_n 1, 1) := by decide +kernel
theorem dX1_copyFrom_10 : decode cX1_copyFrom 10 = .ok (.getfield 13, 3) := by decide +kernel
theorem dX1_copyFrom_13 : decode cX1_copyFrom 13 = .ok (.putfield 13, 3) := by decide +kernel
theorem dX1_copyFrom_16 : decode cX1_copyFrom 16 = .ok (.aload_n 0, 1) := by decide +kernel
theorem dX1_copyFrom_17 : decode cX1_copyFrom 17 = .ok (.aload_n 1, 1) := by decide +kernel
theorem dX1_copyFrom_18 : decode cX1_copyFrom 18 = .ok (.getfield 17, 3) := by decide +kernel
theorem dX1_copyFrom_21 : decode cX1_copyFrom 21 = .ok (.putfield 17, 3) := by decide +kernel
theorem dX1_copyFrom_24 : decode cX1_copyFrom 24 = .ok (.aload_n 0, 1) := by decide +kernel
theorem dX1_copyFrom_25 : decode cX1_copyFrom 25 = .ok (.aload_n 1, 1) := by decide +kernel
theorem dX1_copyFrom_26 : decode cX1_copyFrom 26 = .ok (.getfield 20, 3) := by decide +kernel
theorem dX1_copyFrom_29 : decode cX1_copyFrom 29 = .ok (.putfield 20, 3) := by decide +kernel
theorem dX1_copyFrom_32 : decode cX1_copyFrom 32 = .ok (.aload_n 0, 1) := by decide +kernel
theorem dX1_copyFrom_33 : decode cX1_copyFrom 33 = .ok (.aload_n 1, 1) := by decide +kernel
theorem dX1_copyFrom_34 : decode cX1_copyFrom 34 = .ok (.getfield 23, 3) := by decide +kernel
theorem dX1_copyFrom_37 : decode cX1_copyFrom 37 = .ok (.putfield 23, 3) := by decide +kernel
theorem dX1_copyFrom_40 : decode cX1_copyFrom 40 = .ok (.aload_n 0, 1) := by decide +kernel
theorem dX1_copyFrom_41 : decode cX1_copyFrom 41 = .ok (.aload_n 1, 1) := by decide +kernel
theorem dX1_copyFrom_42 : decode cX1_copyFrom 42 = .ok (.getfield 26, 3) := by decide +kernel
theorem dX1_copyFrom_45 : decode cX1_copyFrom 45 = .ok (.putfield 26, 3) := by decide +kernel
theorem dX1_copyFrom_48 : decode cX1_copyFrom 48 = .ok (.aload_n 0, 1) := by decide +kernel
theorem dX1_copyFrom_49 : decode cX1_copyFrom 49 = .ok (.aload_n 1, 1) := by decide +kernel
theorem dX1_copyFrom_50 : decode cX1_copyFrom 50 = .ok (.getfield 29, 3) := by decide +kernel
theorem dX1_copyFrom_53 : decode cX1_copyFrom 53 = .ok (.putfield 29, 3) := by decide +kernel
theorem dX1_copyFrom_56 : decode cX1_copyFrom 56 = .ok (.aload_n 0, 1) := by decide +kernel
theorem dX1_copyFrom_57 : decode cX1_copyFrom 57 = .ok (.aload_n 1, 1) := by decide +kernel
theorem dX1_copyFrom_58 : decode cX1_copyFrom 58 = .ok (.getfield 32, 3) := by decide +kernel
theorem dX1_copyFrom_61 : decode cX1_copyFrom 61 = .ok (.putfield 32, 3) := by decide +kernel
theorem dX1_copyFrom_64 : decode cX1_copyFrom 64 = .ok (.aload_n 0, 1) := by decide +kernel
theorem dX1_copyFrom_65 : decode cX1_copyFrom 65 = .ok (.aload_n 1, 1) := by decide +kernel
theorem dX1_copyFrom_66 : decode cX1_copyFrom 66 = .ok (.getfield 35, 3) := by decide +kernel
theorem dX1_copyFrom_69 : decode cX1_copyFrom 69 = .ok (.putfield 35, 3) := by decide +kernel
theorem dX1_copyFrom_72 : decode cX1_copyFrom 72 = .ok (.return_, 1) := by decide +kernel
def j_X1_copyFrom : JD := (yX1_copyFrom, cX1_copyFrom, 2, none)
def b_X1_copyFrom : BD := (0, 0, 0)
theorem dX1_isOpen_0 : decode cX1_isOpen 0 = .ok (.aload_n 0, 1) := by decide +kernel
theorem dX1_isOpen_1 : decode cX1_isOpen 1 = .ok (.getfield 35, 3) := by decide +kernel
theorem dX1_isOpen_4 : decode cX1_isOpen 4 = .ok (.ifCond .eq 14, 3) := by decide +kernel
theorem dX1_isOpen_7 : decode cX1_isOpen 7 = .ok (.aload_n 0, 1) := by decide +kernel
theorem dX1_isOpen_8 : decode cX1_isOpen 8 = .ok (.getfield 32, 3) := by decide +kernel
theorem dX1_isOpen_11 : decode cX1_isOpen 11 = .ok (.ifCond .le 7, 3) := by decide +kernel
theorem dX1_isOpen_14 : decode cX1_isOpen 14 = .ok (.iconst 1, 1) := by decide +kernel
theorem dX1_isOpen_15 : decode cX1_isOpen 15 = .ok (.goto 4, 3) := by decide +kernel
theorem dX1_isOpen_18 : decode cX1_isOpen 18 = .ok (.iconst 0, 1) := by decide +kernel
theorem dX1_isOpen_19 : decode cX1_isOpen 19 = .ok (.ireturn, 1) := by decide +kernel
def j_X1_isOpen : JD := (yX1_isOpen, cX1_isOpen, 1, (some .boolean))
def b_X1_isOpen : BD := (0, 0, 0)
theorem dX1_leastStrength_0 : decode cX1_leastStrength 0 = .ok (.bipush 11, 2) := by decide +kernel
theorem dX1_leastStrength_2 : decode cX1_leastStrength 2 = .ok (.aload_n 0, 1) := by decide +kernel
theorem dX1_leastStrength_3 : decode cX1_leastStrength 3 = .ok (.getfield 23, 3) := by decide +kernel
theorem dX1_leastStrength_6 : decode cX1_leastStrength 6 = .ok (.iadd, 1) := by decide +kernel
theorem dX1_leastStrength_7 : decode cX1_leastStrength 7 = .ok (.iconst 3, 1) := by decide +kernel
theorem dX1_leastStrength_8 : decode cX1_leastStrength 8 = .ok (.aload_n 0, 1) := by decide +kernel
theorem dX1_leastStrength_9 : decode cX1_leastStrength 9 = .ok (.getfield 29, 3) := by decide +kernel
theorem dX1_leastStrength_12 : decode cX1_leastStrength 12 = .ok (.imul, 1) := by decide +kernel
theorem dX1_leastStrength_13 : decode cX1_leastStrength 13 = .ok (.iadd, 1) := by decide +kernel
theorem dX1_leastStrength_14 : decode cX1_leastStrength 14 = .ok (.ireturn, 1) := by decide +kernel
def j_X1_leastStrength : JD := (yX1_leastStrength, cX1_leastStrength, 1, (some .int))
def b_X1_leastStrength : BD := (0, 0, 0)
theorem mi_X1_init : MI j_X1_init 0 := ⟨⟨gw_at 388 (by decide +kernel) rfl, gw_at 215 (by decide +kernel) rfl, ⟨by decide +kernel, by decide +kernel⟩, by decide +kernel, by decide, by decide +kernel⟩, rfl, rfl, gw_at 387 (by decide +kernel) rfl⟩
theorem mv_X1_copyFrom : MV j_X1_copyFrom 1 1 := ⟨⟨gw_at 1260 (by decide +kernel) rfl, gw_at 215 (by decide +kernel) rfl, ⟨by decide +kernel, by decide +kernel⟩, by decide +kernel, by decide, by decide +kernel⟩, ⟨_, rfl, rfl⟩, gw_at 1259 (by decide +kernel) rfl, gw_at 74 (by decide +kernel) rfl⟩
theorem mv_X1_isOpen : MV j_X1_isOpen 1 0 := ⟨⟨gw_at 1054 (by decide +kernel) rfl, gw_at 215 (by decide +kernel) rfl, ⟨by decide +kernel, by decide +kernel⟩, by decide +kernel, by decide, by decide +kernel⟩, ⟨_, rfl, rfl⟩, gw_at 1053 (by decide +kernel) rfl, gw_at 48 (by decide +kernel) rfl⟩
theorem mv_X1_leastStrength : MV j_X1_leastStrength 1 0 := ⟨⟨gw_at 1074 (by decide +kernel) rfl, gw_at 215 (by decide +kernel) rfl, ⟨by decide +kernel, by decide +kernel⟩, by decide +kernel, by decide, by decide +kernel⟩, ⟨_, rfl, rfl⟩, gw_at 1073 (by decide +kernel) rfl, gw_at 52 (by decide +kernel) rfl⟩
def f_X1_init (M : Mm) (l0 : Option Nat) : Option (Mm) := nz l0 <| some M
set_option maxHeartbeats 4000000 in
set_option maxRecDepth 100000 in
theorem t_X1_init_e {G : GG} {X : CX} {ans : Mm} (he : EndV G X j_X1_init b_X1_init ans) {M : Mm} {l0 : Option Nat} (h : f_X1_init M l0 = some ans) : Wt G X j_X1_init b_X1_init 0 [(0, rf G.1 l0)] [] M 0 0 := by
  unfold f_X1_init at h
  refine wt_aload_n (pc := 0) 0 dX1_init_0 rfl ?_
  refine wt_oI (pc := 1) dX1_init_1 oi_X1_1 oiM oiC (by decide) (by decide) h (fun h => ?_)
  cases h
  exact he 4 _ _ _ dX1_init_4 (by decide) (by decide)
set_option maxHeartbeats 4000000 in
set_option maxRecDepth 100000 in
theorem c_X1_init {G : GG} {M : Mm} {l0 : Option Nat} {r : Mm} (h : f_X1_init M l0 = some r) (l : Launch) : Ct l G j_X1_init b_X1_init [rf G.1 l0] M none r := cf_V (by decide +kernel) (by simp [lg_sl, rf_cat, cat_i, cat_l, j_X1_init]) rfl (by simp [lv_args, rf_cat, cat_i, cat_l]) (fun X he => t_X1_init_e he h)
def f_X1_copyFrom (M : Mm) (l0 : Option Nat) (l1 : Option Nat) : Option (Mm) := gfL M l1 1 0 fun v2 => pfL M l0 1 0 v2 fun M5 => gfI M5 l1 1 1 fun v10 => pfI M5 l0 1 1 v10 fun M13 => gfI M13 l1 1 2 fun v18 => pfI M13 l0 1 2 v18 fun M21 => gfI M21 l1 1 3 fun v26 => pfI M21 l0 1 3 v26 fun M29 => gfI M29 l1 1 4 fun v34 => pfI M29 l0 1 4 v34 fun M37 => gfI M37 l1 1 5 fun v42 => pfI M37 l0 1 5 v42 fun M45 => gfI M45 l1 1 6 fun v50 => pfI M45 l0 1 6 v50 fun M53 => gfI M53 l1 1 7 fun v58 => pfI M53 l0 1 7 v58 fun M61 => gfI M61 l1 1 8 fun v66 => pfZ M61 l0 1 8 v66 fun M69 => some M69
set_option maxHeartbeats 4000000 in
set_option maxRecDepth 100000 in
theorem t_X1_copyFrom_e {G : GG} {X : CX} {ans : Mm} (he : EndV G X j_X1_copyFrom b_X1_copyFrom ans) {M : Mm} {l0 : Option Nat} {l1 : Option Nat} (h : f_X1_copyFrom M l0 l1 = some ans) : Wt G X j_X1_copyFrom b_X1_copyFrom 0 [(0, rf G.1 l0), (1, rf G.1 l1)] [] M 0 0 := by
  unfold f_X1_copyFrom at h
  refine wt_aload_n (pc := 0) 0 dX1_copyFrom_0 rfl ?_
  refine wt_aload_n (pc := 1) 1 dX1_copyFrom_1 rfl ?_
  refine wt_getL (pc := 2) dX1_copyFrom_2 fl_X1_7 (fun _ _ _ => rfl) h (fun v2 h => ?_)
  refine wt_putL (pc := 5) dX1_copyFrom_5 fl_X1_7 rfl rfl h (fun M5 h => ?_)
  refine wt_aload_n (pc := 8) 0 dX1_copyFrom_8 rfl ?_
  refine wt_aload_n (pc := 9) 1 dX1_copyFrom_9 rfl ?_
  refine wt_getI (pc := 10) dX1_copyFrom_10 fl_X1_13 (fun _ _ _ => rfl) h (fun v10 h => ?_)
  refine wt_putI (pc := 13) dX1_copyFrom_13 fl_X1_13 rfl rfl h (fun M13 h => ?_)
  refine wt_aload_n (pc := 16) 0 dX1_copyFrom_16 rfl ?_
  refine wt_aload_n (pc := 17) 1 dX1_copyFrom_17 rfl ?_
  refine wt_getI (pc := 18) dX1_copyFrom_18 fl_X1_17 (fun _ _ _ => rfl) h (fun v18 h => ?_)
  refine wt_putI (pc := 21) dX1_copyFrom_21 fl_X1_17 rfl rfl h (fun M21 h => ?_)
  refine wt_aload_n (pc := 24) 0 dX1_copyFrom_24 rfl ?_
  refine wt_aload_n (pc := 25) 1 dX1_copyFrom_25 rfl ?_
  refine wt_getI (pc := 26) dX1_copyFrom_26 fl_X1_20 (fun _ _ _ => rfl) h (fun v26 h => ?_)
  refine wt_putI (pc := 29) dX1_copyFrom_29 fl_X1_20 rfl rfl h (fun M29 h => ?_)
  refine wt_aload_n (pc := 32) 0 dX1_copyFrom_32 rfl ?_
  refine wt_aload_n (pc := 33) 1 dX1_copyFrom_33 rfl ?_
  refine wt_getI (pc := 34) dX1_copyFrom_34 fl_X1_23 (fun _ _ _ => rfl) h (fun v34 h => ?_)
  refine wt_putI (pc := 37) dX1_copyFrom_37 fl_X1_23 rfl rfl h (fun M37 h => ?_)
  refine wt_aload_n (pc := 40) 0 dX1_copyFrom_40 rfl ?_
  refine wt_aload_n (pc := 41) 1 dX1_copyFrom_41 rfl ?_
  refine wt_getI (pc := 42) dX1_copyFrom_42 fl_X1_26 (fun _ _ _ => rfl) h (fun v42 h => ?_)
  refine wt_putI (pc := 45) dX1_copyFrom_45 fl_X1_26 rfl rfl h (fun M45 h => ?_)
  refine wt_aload_n (pc := 48) 0 dX1_copyFrom_48 rfl ?_
  refine wt_aload_n (pc := 49) 1 dX1_copyFrom_49 rfl ?_
  refine wt_getI (pc := 50) dX1_copyFrom_50 fl_X1_29 (fun _ _ _ => rfl) h (fun v50 h => ?_)
  refine wt_putI (pc := 53) dX1_copyFrom_53 fl_X1_29 rfl rfl h (fun M53 h => ?_)
  refine wt_aload_n (pc := 56) 0 dX1_copyFrom_56 rfl ?_
  refine wt_aload_n (pc := 57) 1 dX1_copyFrom_57 rfl ?_
  refine wt_getI (pc := 58) dX1_copyFrom_58 fl_X1_32 (fun _ _ _ => rfl) h (fun v58 h => ?_)
  refine wt_putI (pc := 61) dX1_copyFrom_61 fl_X1_32 rfl rfl h (fun M61 h => ?_)
  refine wt_aload_n (pc := 64) 0 dX1_copyFrom_64 rfl ?_
  refine wt_aload_n (pc := 65) 1 dX1_copyFrom_65 rfl ?_
  refine wt_getI (pc := 66) dX1_copyFrom_66 fl_X1_35 (fun _ _ _ => rfl) h (fun v66 h => ?_)
  refine wt_putZ (pc := 69) dX1_copyFrom_69 fl_X1_35 rfl rfl h (fun M69 h => ?_)
  cases h
  exact he 72 _ _ _ dX1_copyFrom_72 (by decide) (by decide)
set_option maxHeartbeats 4000000 in
set_option maxRecDepth 100000 in
theorem c_X1_copyFrom {G : GG} {M : Mm} {l0 : Option Nat} {l1 : Option Nat} {r : Mm} (h : f_X1_copyFrom M l0 l1 = some r) (l : Launch) : Ct l G j_X1_copyFrom b_X1_copyFrom [rf G.1 l0, rf G.1 l1] M none r := cf_V (by decide +kernel) (by simp [lg_sl, rf_cat, cat_i, cat_l, j_X1_copyFrom]) rfl (by simp [lv_args, rf_cat, cat_i, cat_l]) (fun X he => t_X1_copyFrom_e he h)
def g_X1_isOpen (M : Mm) (l0 : Option Nat) : Option (Int32 × Mm) := gfI M l0 1 8 fun v1 => if v1 = 0 then (some (0, M)) else (gfI M l0 1 7 fun v8 => if v8 ≤ 0 then (some (0, M)) else (some (1, M)))
def f_X1_isOpen (M : Mm) (l0 : Option Nat) : Option (Int32 × Mm) := zc (g_X1_isOpen M l0)
set_option maxHeartbeats 4000000 in
set_option maxRecDepth 100000 in
theorem t_X1_isOpen_e {G : GG} {X : CX} {ans : Int32 × Mm} (he : EndI G X j_X1_isOpen b_X1_isOpen ans) {M : Mm} {l0 : Option Nat} (h : g_X1_isOpen M l0 = some ans) : Wt G X j_X1_isOpen b_X1_isOpen 0 [(0, rf G.1 l0)] [] M 0 0 := by
  unfold g_X1_isOpen at h
  refine wt_aload_n (pc := 0) 0 dX1_isOpen_0 rfl ?_
  refine wt_getI (pc := 1) dX1_isOpen_1 fl_X1_35 (fun _ _ _ => rfl) h (fun v1 h => ?_)
  refine wt_if_eq (pc := 4) (tgt := 18) dX1_isOpen_4 (by decide) (fun q => ?_) (fun q => ?_)
  · have h := ite_t q h
    refine wt_iconst (pc := 18) (v := 0) dX1_isOpen_18 (by decide) ?_
    cases h
    exact he 19 _ _ _ dX1_isOpen_19 (by decide) (by decide)
  · have h := ite_f q h
    refine wt_aload_n (pc := 7) 0 dX1_isOpen_7 rfl ?_
    refine wt_getI (pc := 8) dX1_isOpen_8 fl_X1_32 (fun _ _ _ => rfl) h (fun v8 h => ?_)
    refine wt_if_le (pc := 11) (tgt := 18) dX1_isOpen_11 (by decide) (fun q => ?_) (fun q => ?_)
    · have h := ite_t q h
      refine wt_iconst (pc := 18) (v := 0) dX1_isOpen_18 (by decide) ?_
      cases h
      exact he 19 _ _ _ dX1_isOpen_19 (by decide) (by decide)
    · have h := ite_f q h
      refine wt_iconst (pc := 14) (v := 1) dX1_isOpen_14 (by decide) ?_
      refine wt_goto (pc := 15) (tgt := 19) dX1_isOpen_15 (by decide) ?_
      cases h
      exact he 19 _ _ _ dX1_isOpen_19 (by decide) (by decide)
set_option maxHeartbeats 4000000 in
set_option maxRecDepth 100000 in
theorem c_X1_isOpen {G : GG} {M : Mm} {l0 : Option Nat} {r : Int32 × Mm} (h : f_X1_isOpen M l0 = some r) (l : Launch) : Ct l G j_X1_isOpen b_X1_isOpen [rf G.1 l0] M (some (.int r.1)) r.2 := cf_Z h (by decide +kernel) (by simp [lg_sl, rf_cat, cat_i, cat_l, j_X1_isOpen]) rfl (by simp [lv_args, rf_cat, cat_i, cat_l]) (fun h X he => t_X1_isOpen_e he h)
def f_X1_leastStrength (M : Mm) (l0 : Option Nat) : Option (Int32 × Mm) := gfI M l0 1 4 fun v3 => gfI M l0 1 6 fun v9 => some (((11 + v3) + (3 * v9)), M)
set_option maxHeartbeats 4000000 in
set_option maxRecDepth 100000 in
theorem t_X1_leastStrength_e {G : GG} {X : CX} {ans : Int32 × Mm} (he : EndI G X j_X1_leastStrength b_X1_leastStrength ans) {M : Mm} {l0 : Option Nat} (h : f_X1_leastStrength M l0 = some ans) : Wt G X j_X1_leastStrength b_X1_leastStrength 0 [(0, rf G.1 l0)] [] M 0 0 := by
  unfold f_X1_leastStrength at h
  refine wt_bipush (pc := 0) (v := 11) dX1_leastStrength_0 (by decide) ?_
  refine wt_aload_n (pc := 2) 0 dX1_leastStrength_2 rfl ?_
  refine wt_getI (pc := 3) dX1_leastStrength_3 fl_X1_23 (fun _ _ _ => rfl) h (fun v3 h => ?_)
  refine wt_iadd (pc := 6) dX1_leastStrength_6 ?_
  refine wt_iconst (pc := 7) (v := 3) dX1_leastStrength_7 (by decide) ?_
  refine wt_aload_n (pc := 8) 0 dX1_leastStrength_8 rfl ?_
  refine wt_getI (pc := 9) dX1_leastStrength_9 fl_X1_29 (fun _ _ _ => rfl) h (fun v9 h => ?_)
  refine wt_imul (pc := 12) dX1_leastStrength_12 ?_
  refine wt_iadd (pc := 13) dX1_leastStrength_13 ?_
  cases h
  exact he 14 _ _ _ dX1_leastStrength_14 (by decide) (by decide)
set_option maxHeartbeats 4000000 in
set_option maxRecDepth 100000 in
theorem c_X1_leastStrength {G : GG} {M : Mm} {l0 : Option Nat} {r : Int32 × Mm} (h : f_X1_leastStrength M l0 = some r) (l : Launch) : Ct l G j_X1_leastStrength b_X1_leastStrength [rf G.1 l0] M (some (.int r.1)) r.2 := cf_I (by decide +kernel) (by simp [lg_sl, rf_cat, cat_i, cat_l, j_X1_leastStrength]) rfl (by simp [lv_args, rf_cat, cat_i, cat_l]) (fun X he => t_X1_leastStrength_e he h)

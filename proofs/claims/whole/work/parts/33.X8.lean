theorem fl_X8_7 : FLk RX8 7 8 0 := ⟨_, rfl, by decide, Or.inl (gw_at 502 (by decide +kernel) rfl)⟩
theorem fl_X8_13 : FLk RX8 13 8 1 := ⟨_, rfl, by decide, Or.inl (gw_at 505 (by decide +kernel) rfl)⟩
theorem fl_X8_17 : FLk RX8 17 8 2 := ⟨_, rfl, by decide, Or.inl (gw_at 510 (by decide +kernel) rfl)⟩
theorem oi_X8_1 : Cond.methodLink RX8 1 Lib.objectInit ∈ GW := gw_at 501 (by decide +kernel) rfl
theorem dX8_init_0 : decode cX8_init 0 = .ok (.aload_n 0, 1) := by decide +kernel
theorem dX8_init_1 : decode cX8_init 1 = .ok (.invokespecial 1, 3) := by decide +kernel
theorem dX8_init_4 : decode cX8_init 4 = .ok (.return_, 1) := by decide +kernel
def j_X8_init : JD := (yX8_init, cX8_init, 1, none)
def b_X8_init : BD := (1, 0, 0)
theorem dX8_copyFrom_0 : decode cX8_copyFrom 0 = .ok (.aload_n 0, 1) := by decide +kernel
theorem dX8_copyFrom_1 : decode cX8_copyFrom 1 = .ok (.aload_n 1, 1) := by decide +kernel
theorem dX8_copyFrom_2 : decode cX8_copyFrom 2 = .ok (.getfield 7, 3) := by decide +kernel
theorem dX8_copyFrom_5 : decode cX8_copyFrom 5 = .ok (.putfield 7, 3) := by decide +kernel
theorem dX8_copyFrom_8 : decode cX8_copyFrom 8 = .ok (.aload_n 0, 1) := by decide +kernel
theorem dX8_copyFrom_9 : decode cX8_copyFrom 9 = .ok (.aload_n 1, 1) := by decide +kernel
theorem dX8_copyFrom_10 : decode cX8_copyFrom 10 = .ok (.getfield 13, 3) := by decide +kernel
theorem dX8_copyFrom_13 : decode cX8_copyFrom 13 = .ok (.putfield 13, 3) := by decide +kernel
theorem dX8_copyFrom_16 : decode cX8_copyFrom 16 = .ok (.aload_n 0, 1) := by decide +kernel
theorem dX8_copyFrom_17 : decode cX8_copyFrom 17 = .ok (.aload_n 1, 1) := by decide +kernel
theorem dX8_copyFrom_18 : decode cX8_copyFrom 18 = .ok (.getfield 17, 3) := by decide +kernel
theorem dX8_copyFrom_21 : decode cX8_copyFrom 21 = .ok (.putfield 17, 3) := by decide +kernel
theorem dX8_copyFrom_24 : decode cX8_copyFrom 24 = .ok (.return_, 1) := by decide +kernel
def j_X8_copyFrom : JD := (yX8_copyFrom, cX8_copyFrom, 2, none)
def b_X8_copyFrom : BD := (0, 0, 0)
theorem mi_X8_init : MI j_X8_init 0 := ⟨⟨gw_at 500 (by decide +kernel) rfl, gw_at 217 (by decide +kernel) rfl, ⟨by decide +kernel, by decide +kernel⟩, by decide +kernel, by decide, by decide +kernel⟩, rfl, rfl, gw_at 499 (by decide +kernel) rfl⟩
theorem mv_X8_copyFrom : MV j_X8_copyFrom 8 1 := ⟨⟨gw_at 1269 (by decide +kernel) rfl, gw_at 217 (by decide +kernel) rfl, ⟨by decide +kernel, by decide +kernel⟩, by decide +kernel, by decide, by decide +kernel⟩, ⟨_, rfl, rfl⟩, gw_at 1268 (by decide +kernel) rfl, gw_at 76 (by decide +kernel) rfl⟩
def f_X8_init (M : Mm) (l0 : Option Nat) : Option (Mm) := nz l0 <| some M
set_option maxHeartbeats 4000000 in
set_option maxRecDepth 100000 in
theorem t_X8_init_e {G : GG} {X : CX} {ans : Mm} (he : EndV G X j_X8_init b_X8_init ans) {M : Mm} {l0 : Option Nat} (h : f_X8_init M l0 = some ans) : Wt G X j_X8_init b_X8_init 0 [(0, rf G.1 l0)] [] M 0 0 := by
  unfold f_X8_init at h
  refine wt_aload_n (pc := 0) 0 dX8_init_0 rfl ?_
  refine wt_oI (pc := 1) dX8_init_1 oi_X8_1 oiM oiC (by decide) (by decide) h (fun h => ?_)
  cases h
  exact he 4 _ _ _ dX8_init_4 (by decide) (by decide)
set_option maxHeartbeats 4000000 in
set_option maxRecDepth 100000 in
theorem c_X8_init {G : GG} {M : Mm} {l0 : Option Nat} {r : Mm} (h : f_X8_init M l0 = some r) (l : Launch) : Ct l G j_X8_init b_X8_init [rf G.1 l0] M none r := cf_V (by decide +kernel) (by simp [lg_sl, rf_cat, cat_i, cat_l, j_X8_init]) rfl (by simp [lv_args, rf_cat, cat_i, cat_l]) (fun X he => t_X8_init_e he h)
def f_X8_copyFrom (M : Mm) (l0 : Option Nat) (l1 : Option Nat) : Option (Mm) := gfL M l1 8 0 fun v2 => pfL M l0 8 0 v2 fun M5 => gfI M5 l1 8 1 fun v10 => pfI M5 l0 8 1 v10 fun M13 => gfI M13 l1 8 2 fun v18 => pfI M13 l0 8 2 v18 fun M21 => some M21
set_option maxHeartbeats 4000000 in
set_option maxRecDepth 100000 in
theorem t_X8_copyFrom_e {G : GG} {X : CX} {ans : Mm} (he : EndV G X j_X8_copyFrom b_X8_copyFrom ans) {M : Mm} {l0 : Option Nat} {l1 : Option Nat} (h : f_X8_copyFrom M l0 l1 = some ans) : Wt G X j_X8_copyFrom b_X8_copyFrom 0 [(0, rf G.1 l0), (1, rf G.1 l1)] [] M 0 0 := by
  unfold f_X8_copyFrom at h
  refine wt_aload_n (pc := 0) 0 dX8_copyFrom_0 rfl ?_
  refine wt_aload_n (pc := 1) 1 dX8_copyFrom_1 rfl ?_
  refine wt_getL (pc := 2) dX8_copyFrom_2 fl_X8_7 (fun _ _ _ => rfl) h (fun v2 h => ?_)
  refine wt_putL (pc := 5) dX8_copyFrom_5 fl_X8_7 rfl rfl h (fun M5 h => ?_)
  refine wt_aload_n (pc := 8) 0 dX8_copyFrom_8 rfl ?_
  refine wt_aload_n (pc := 9) 1 dX8_copyFrom_9 rfl ?_
  refine wt_getI (pc := 10) dX8_copyFrom_10 fl_X8_13 (fun _ _ _ => rfl) h (fun v10 h => ?_)
  refine wt_putI (pc := 13) dX8_copyFrom_13 fl_X8_13 rfl rfl h (fun M13 h => ?_)
  refine wt_aload_n (pc := 16) 0 dX8_copyFrom_16 rfl ?_
  refine wt_aload_n (pc := 17) 1 dX8_copyFrom_17 rfl ?_
  refine wt_getI (pc := 18) dX8_copyFrom_18 fl_X8_17 (fun _ _ _ => rfl) h (fun v18 h => ?_)
  refine wt_putI (pc := 21) dX8_copyFrom_21 fl_X8_17 rfl rfl h (fun M21 h => ?_)
  cases h
  exact he 24 _ _ _ dX8_copyFrom_24 (by decide) (by decide)
set_option maxHeartbeats 4000000 in
set_option maxRecDepth 100000 in
theorem c_X8_copyFrom {G : GG} {M : Mm} {l0 : Option Nat} {l1 : Option Nat} {r : Mm} (h : f_X8_copyFrom M l0 l1 = some r) (l : Launch) : Ct l G j_X8_copyFrom b_X8_copyFrom [rf G.1 l0, rf G.1 l1] M none r := cf_V (by decide +kernel) (by simp [lg_sl, rf_cat, cat_i, cat_l, j_X8_copyFrom]) rfl (by simp [lv_args, rf_cat, cat_i, cat_l]) (fun X he => t_X8_copyFrom_e he h)

theorem kc_J6_265 : Cond.constant RJ6 265 1431655765 ∈ GW := gw_at 1202 (by decide +kernel) rfl
theorem kc_J6_266 : Cond.constant RJ6 266 858993459 ∈ GW := gw_at 1203 (by decide +kernel) rfl
theorem kc_J6_267 : Cond.constant RJ6 267 252645135 ∈ GW := gw_at 1204 (by decide +kernel) rfl
theorem dJ6_bitCount_0f7a4_0 : decode cJ6_bitCount_0f7a4 0 = .ok (.iload_n 0, 1) := by decide +kernel
theorem dJ6_bitCount_0f7a4_1 : decode cJ6_bitCount_0f7a4 1 = .ok (.iload_n 0, 1) := by decide +kernel
theorem dJ6_bitCount_0f7a4_2 : decode cJ6_bitCount_0f7a4 2 = .ok (.iconst 1, 1) := by decide +kernel
theorem dJ6_bitCount_0f7a4_3 : decode cJ6_bitCount_0f7a4 3 = .ok (.iushr, 1) := by decide +kernel
theorem dJ6_bitCount_0f7a4_4 : decode cJ6_bitCount_0f7a4 4 = .ok (.ldc_w 265, 3) := by decide +kernel
theorem dJ6_bitCount_0f7a4_7 : decode cJ6_bitCount_0f7a4 7 = .ok (.iand, 1) := by decide +kernel
theorem dJ6_bitCount_0f7a4_8 : decode cJ6_bitCount_0f7a4 8 = .ok (.isub, 1) := by decide +kernel
theorem dJ6_bitCount_0f7a4_9 : decode cJ6_bitCount_0f7a4 9 = .ok (.istore_n 0, 1) := by decide +kernel
theorem dJ6_bitCount_0f7a4_10 : decode cJ6_bitCount_0f7a4 10 = .ok (.iload_n 0, 1) := by decide +kernel
theorem dJ6_bitCount_0f7a4_11 : decode cJ6_bitCount_0f7a4 11 = .ok (.ldc_w 266, 3) := by decide +kernel
theorem dJ6_bitCount_0f7a4_14 : decode cJ6_bitCount_0f7a4 14 = .ok (.iand, 1) := by decide +kernel
theorem dJ6_bitCount_0f7a4_15 : decode cJ6_bitCount_0f7a4 15 = .ok (.iload_n 0, 1) := by decide +kernel
theorem dJ6_bitCount_0f7a4_16 : decode cJ6_bitCount_0f7a4 16 = .ok (.iconst 2, 1) := by decide +kernel
theorem dJ6_bitCount_0f7a4_17 : decode cJ6_bitCount_0f7a4 17 = .ok (.iushr, 1) := by decide +kernel
theorem dJ6_bitCount_0f7a4_18 : decode cJ6_bitCount_0f7a4 18 = .ok (.ldc_w 266, 3) := by decide +kernel
theorem dJ6_bitCount_0f7a4_21 : decode cJ6_bitCount_0f7a4 21 = .ok (.iand, 1) := by decide +kernel
theorem dJ6_bitCount_0f7a4_22 : decode cJ6_bitCount_0f7a4 22 = .ok (.iadd, 1) := by decide +kernel
theorem dJ6_bitCount_0f7a4_23 : decode cJ6_bitCount_0f7a4 23 = .ok (.istore_n 0, 1) := by decide +kernel
theorem dJ6_bitCount_0f7a4_24 : decode cJ6_bitCount_0f7a4 24 = .ok (.iload_n 0, 1) := by decide +kernel
theorem dJ6_bitCount_0f7a4_25 : decode cJ6_bitCount_0f7a4 25 = .ok (.iload_n 0, 1) := by decide +kernel
theorem dJ6_bitCount_0f7a4_26 : decode cJ6_bitCount_0f7a4 26 = .ok (.iconst 4, 1) := by decide +kernel
theorem dJ6_bitCount_0f7a4_27 : decode cJ6_bitCount_0f7a4 27 = .ok (.iushr, 1) := by decide +kernel
theorem dJ6_bitCount_0f7a4_28 : decode cJ6_bitCount_0f7a4 28 = .ok (.iadd, 1) := by decide +kernel
theorem dJ6_bitCount_0f7a4_29 : decode cJ6_bitCount_0f7a4 29 = .ok (.ldc_w 267, 3) := by decide +kernel
theorem dJ6_bitCount_0f7a4_32 : decode cJ6_bitCount_0f7a4 32 = .ok (.iand, 1) := by decide +kernel
theorem dJ6_bitCount_0f7a4_33 : decode cJ6_bitCount_0f7a4 33 = .ok (.istore_n 0, 1) := by decide +kernel
theorem dJ6_bitCount_0f7a4_34 : decode cJ6_bitCount_0f7a4 34 = .ok (.iload_n 0, 1) := by decide +kernel
theorem dJ6_bitCount_0f7a4_35 : decode cJ6_bitCount_0f7a4 35 = .ok (.iload_n 0, 1) := by decide +kernel
theorem dJ6_bitCount_0f7a4_36 : decode cJ6_bitCount_0f7a4 36 = .ok (.bipush 8, 2) := by decide +kernel
theorem dJ6_bitCount_0f7a4_38 : decode cJ6_bitCount_0f7a4 38 = .ok (.iushr, 1) := by decide +kernel
theorem dJ6_bitCount_0f7a4_39 : decode cJ6_bitCount_0f7a4 39 = .ok (.iadd, 1) := by decide +kernel
theorem dJ6_bitCount_0f7a4_40 : decode cJ6_bitCount_0f7a4 40 = .ok (.istore_n 0, 1) := by decide +kernel
theorem dJ6_bitCount_0f7a4_41 : decode cJ6_bitCount_0f7a4 41 = .ok (.iload_n 0, 1) := by decide +kernel
theorem dJ6_bitCount_0f7a4_42 : decode cJ6_bitCount_0f7a4 42 = .ok (.iload_n 0, 1) := by decide +kernel
theorem dJ6_bitCount_0f7a4_43 : decode cJ6_bitCount_0f7a4 43 = .ok (.bipush 16, 2) := by decide +kernel
theorem dJ6_bitCount_0f7a4_45 : decode cJ6_bitCount_0f7a4 45 = .ok (.iushr, 1) := by decide +kernel
theorem dJ6_bitCount_0f7a4_46 : decode cJ6_bitCount_0f7a4 46 = .ok (.iadd, 1) := by decide +kernel
theorem dJ6_bitCount_0f7a4_47 : decode cJ6_bitCount_0f7a4 47 = .ok (.istore_n 0, 1) := by decide +kernel
theorem dJ6_bitCount_0f7a4_48 : decode cJ6_bitCount_0f7a4 48 = .ok (.iload_n 0, 1) := by decide +kernel
theorem dJ6_bitCount_0f7a4_49 : decode cJ6_bitCount_0f7a4 49 = .ok (.bipush 63, 2) := by decide +kernel
theorem dJ6_bitCount_0f7a4_51 : decode cJ6_bitCount_0f7a4 51 = .ok (.iand, 1) := by decide +kernel
theorem dJ6_bitCount_0f7a4_52 : decode cJ6_bitCount_0f7a4 52 = .ok (.ireturn, 1) := by decide +kernel
def j_J6_bitCount_0f7a4 : JD := (yJ6_bitCount_0f7a4, cJ6_bitCount_0f7a4, 1, (some .int))
def b_J6_bitCount_0f7a4 : BD := (0, 0, 0)
theorem ms_J6_bitCount_0f7a4 : MS j_J6_bitCount_0f7a4 1 := ⟨⟨gw_at 1201 (by decide +kernel) rfl, gw_at 226 (by decide +kernel) rfl, ⟨by decide +kernel, by decide +kernel⟩, by decide +kernel, by decide, by decide +kernel⟩, gw_at 1200 (by decide +kernel) rfl⟩
def f_J6_bitCount_0f7a4 (M : Mm) (l0 : Int32) : Option (Int32 × Mm) := nmI (l0 - (((Int32.toUInt32 l0 >>> (Int32.toUInt32 1 &&& Int32.toUInt32 31)).toInt32) &&& 1431655765)) fun x9 => nmI ((x9 &&& 858993459) + (((Int32.toUInt32 x9 >>> (Int32.toUInt32 2 &&& Int32.toUInt32 31)).toInt32) &&& 858993459)) fun x23 => nmI ((x23 + ((Int32.toUInt32 x23 >>> (Int32.toUInt32 4 &&& Int32.toUInt32 31)).toInt32)) &&& 252645135) fun x33 => nmI (x33 + ((Int32.toUInt32 x33 >>> (Int32.toUInt32 8 &&& Int32.toUInt32 31)).toInt32)) fun x40 => nmI (x40 + ((Int32.toUInt32 x40 >>> (Int32.toUInt32 16 &&& Int32.toUInt32 31)).toInt32)) fun x47 => some ((x47 &&& 63), M)
set_option maxHeartbeats 4000000 in
set_option maxRecDepth 100000 in
theorem t_J6_bitCount_0f7a4_e {G : GG} {X : CX} {ans : Int32 × Mm} (he : EndI G X j_J6_bitCount_0f7a4 b_J6_bitCount_0f7a4 ans) {M : Mm} {l0 : Int32} (h : f_J6_bitCount_0f7a4 M l0 = some ans) : Wt G X j_J6_bitCount_0f7a4 b_J6_bitCount_0f7a4 0 [(0, .int l0)] [] M 0 0 := by
  unfold f_J6_bitCount_0f7a4 at h
  refine wt_iload_n (pc := 0) 0 dJ6_bitCount_0f7a4_0 rfl ?_
  refine wt_iload_n (pc := 1) 0 dJ6_bitCount_0f7a4_1 rfl ?_
  refine wt_iconst (pc := 2) (v := 1) dJ6_bitCount_0f7a4_2 (by decide) ?_
  refine wt_iushr (pc := 3) dJ6_bitCount_0f7a4_3 ?_
  refine wt_ldcw (pc := 4) dJ6_bitCount_0f7a4_4 kc_J6_265 ?_
  refine wt_iand (pc := 7) dJ6_bitCount_0f7a4_7 ?_
  refine wt_isub (pc := 8) dJ6_bitCount_0f7a4_8 ?_
  refine wt_nmI h (fun x9 h => ?_)
  refine wt_istore_n (pc := 9) (i := 0) (ls' := [(0, .int x9)]) rfl dJ6_bitCount_0f7a4_9 (by decide) rfl ?_
  refine wt_iload_n (pc := 10) 0 dJ6_bitCount_0f7a4_10 rfl ?_
  refine wt_ldcw (pc := 11) dJ6_bitCount_0f7a4_11 kc_J6_266 ?_
  refine wt_iand (pc := 14) dJ6_bitCount_0f7a4_14 ?_
  refine wt_iload_n (pc := 15) 0 dJ6_bitCount_0f7a4_15 rfl ?_
  refine wt_iconst (pc := 16) (v := 2) dJ6_bitCount_0f7a4_16 (by decide) ?_
  refine wt_iushr (pc := 17) dJ6_bitCount_0f7a4_17 ?_
  refine wt_ldcw (pc := 18) dJ6_bitCount_0f7a4_18 kc_J6_266 ?_
  refine wt_iand (pc := 21) dJ6_bitCount_0f7a4_21 ?_
  refine wt_iadd (pc := 22) dJ6_bitCount_0f7a4_22 ?_
  refine wt_nmI h (fun x23 h => ?_)
  refine wt_istore_n (pc := 23) (i := 0) (ls' := [(0, .int x23)]) rfl dJ6_bitCount_0f7a4_23 (by decide) rfl ?_
  refine wt_iload_n (pc := 24) 0 dJ6_bitCount_0f7a4_24 rfl ?_
  refine wt_iload_n (pc := 25) 0 dJ6_bitCount_0f7a4_25 rfl ?_
  refine wt_iconst (pc := 26) (v := 4) dJ6_bitCount_0f7a4_26 (by decide) ?_
  refine wt_iushr (pc := 27) dJ6_bitCount_0f7a4_27 ?_
  refine wt_iadd (pc := 28) dJ6_bitCount_0f7a4_28 ?_
  refine wt_ldcw (pc := 29) dJ6_bitCount_0f7a4_29 kc_J6_267 ?_
  refine wt_iand (pc := 32) dJ6_bitCount_0f7a4_32 ?_
  refine wt_nmI h (fun x33 h => ?_)
  refine wt_istore_n (pc := 33) (i := 0) (ls' := [(0, .int x33)]) rfl dJ6_bitCount_0f7a4_33 (by decide) rfl ?_
  refine wt_iload_n (pc := 34) 0 dJ6_bitCount_0f7a4_34 rfl ?_
  refine wt_iload_n (pc := 35) 0 dJ6_bitCount_0f7a4_35 rfl ?_
  refine wt_bipush (pc := 36) (v := 8) dJ6_bitCount_0f7a4_36 (by decide) ?_
  refine wt_iushr (pc := 38) dJ6_bitCount_0f7a4_38 ?_
  refine wt_iadd (pc := 39) dJ6_bitCount_0f7a4_39 ?_
  refine wt_nmI h (fun x40 h => ?_)
  refine wt_istore_n (pc := 40) (i := 0) (ls' := [(0, .int x40)]) rfl dJ6_bitCount_0f7a4_40 (by decide) rfl ?_
  refine wt_iload_n (pc := 41) 0 dJ6_bitCount_0f7a4_41 rfl ?_
  refine wt_iload_n (pc := 42) 0 dJ6_bitCount_0f7a4_42 rfl ?_
  refine wt_bipush (pc := 43) (v := 16) dJ6_bitCount_0f7a4_43 (by decide) ?_
  refine wt_iushr (pc := 45) dJ6_bitCount_0f7a4_45 ?_
  refine wt_iadd (pc := 46) dJ6_bitCount_0f7a4_46 ?_
  refine wt_nmI h (fun x47 h => ?_)
  refine wt_istore_n (pc := 47) (i := 0) (ls' := [(0, .int x47)]) rfl dJ6_bitCount_0f7a4_47 (by decide) rfl ?_
  refine wt_iload_n (pc := 48) 0 dJ6_bitCount_0f7a4_48 rfl ?_
  refine wt_bipush (pc := 49) (v := 63) dJ6_bitCount_0f7a4_49 (by decide) ?_
  refine wt_iand (pc := 51) dJ6_bitCount_0f7a4_51 ?_
  cases h
  exact he 52 _ _ _ dJ6_bitCount_0f7a4_52 (by decide) (by decide)
set_option maxHeartbeats 4000000 in
set_option maxRecDepth 100000 in
theorem c_J6_bitCount_0f7a4 {G : GG} {M : Mm} {l0 : Int32} {r : Int32 × Mm} (h : f_J6_bitCount_0f7a4 M l0 = some r) (l : Launch) : Ct l G j_J6_bitCount_0f7a4 b_J6_bitCount_0f7a4 [.int l0] M (some (.int r.1)) r.2 := cf_I (by decide +kernel) (by simp [lg_sl, rf_cat, cat_i, cat_l, j_J6_bitCount_0f7a4]) rfl (by simp [lv_args, rf_cat, cat_i, cat_l]) (fun X he => t_J6_bitCount_0f7a4_e he h)

theorem ds_coder_0 : decode cJ0_coder_7d493 0 = .ok (.getstatic 38, 3) := by decide +kernel
theorem ds_coder_3 : decode cJ0_coder_7d493 3 = .ok (.ifCond .eq 10, 3) := by decide +kernel
theorem ds_coder_6 : decode cJ0_coder_7d493 6 = .ok (.aload_n 0, 1) := by decide +kernel
theorem ds_coder_7 : decode cJ0_coder_7d493 7 = .ok (.getfield 15, 3) := by decide +kernel
theorem ds_coder_10 : decode cJ0_coder_7d493 10 = .ok (.goto 4, 3) := by decide +kernel
theorem ds_coder_13 : decode cJ0_coder_7d493 13 = .ok (.iconst 1, 1) := by decide +kernel
theorem ds_coder_14 : decode cJ0_coder_7d493 14 = .ok (.ireturn, 1) := by decide +kernel
def js_coder : JD := (yJ0_coder_7d493, cJ0_coder_7d493, 1, some .byte)
theorem mvs_coder : MC js_coder 0 ∧ js_coder.1.cls = "java/lang/String" ∧ Cond.instanceMethod js_coder.1 ∈ GW ∧ Cond.selects js_coder.1.cls js_coder.1 js_coder.1 ∈ GW := ⟨⟨gw_at 249 (by decide +kernel) rfl, gw_at 209 (by decide +kernel) rfl, ⟨by decide +kernel, by decide +kernel⟩, by decide +kernel, by decide, by decide +kernel⟩, rfl, gw_at 247 (by decide +kernel) rfl, gw_at 248 (by decide +kernel) rfl⟩
theorem ds_isL_0 : decode cJ0_isLatin1_aae02 0 = .ok (.getstatic 38, 3) := by decide +kernel
theorem ds_isL_3 : decode cJ0_isLatin1_aae02 3 = .ok (.ifCond .eq 14, 3) := by decide +kernel
theorem ds_isL_6 : decode cJ0_isLatin1_aae02 6 = .ok (.aload_n 0, 1) := by decide +kernel
theorem ds_isL_7 : decode cJ0_isLatin1_aae02 7 = .ok (.getfield 15, 3) := by decide +kernel
theorem ds_isL_10 : decode cJ0_isLatin1_aae02 10 = .ok (.ifCond .ne 7, 3) := by decide +kernel
theorem ds_isL_13 : decode cJ0_isLatin1_aae02 13 = .ok (.iconst 1, 1) := by decide +kernel
theorem ds_isL_14 : decode cJ0_isLatin1_aae02 14 = .ok (.goto 4, 3) := by decide +kernel
theorem ds_isL_17 : decode cJ0_isLatin1_aae02 17 = .ok (.iconst 0, 1) := by decide +kernel
theorem ds_isL_18 : decode cJ0_isLatin1_aae02 18 = .ok (.ireturn, 1) := by decide +kernel
def js_isL : JD := (yJ0_isLatin1_aae02, cJ0_isLatin1_aae02, 1, some .boolean)
theorem mvs_isL : MC js_isL 0 ∧ js_isL.1.cls = "java/lang/String" ∧ Cond.instanceMethod js_isL.1 ∈ GW ∧ Cond.selects js_isL.1.cls js_isL.1 js_isL.1 ∈ GW := ⟨⟨gw_at 259 (by decide +kernel) rfl, gw_at 209 (by decide +kernel) rfl, ⟨by decide +kernel, by decide +kernel⟩, by decide +kernel, by decide, by decide +kernel⟩, rfl, gw_at 257 (by decide +kernel) rfl, gw_at 258 (by decide +kernel) rfl⟩
theorem ds_pre_0 : decode cJ3_checkIndex_8e157 0 = .ok (.iload_n 0, 1) := by decide +kernel
theorem ds_pre_1 : decode cJ3_checkIndex_8e157 1 = .ok (.ifCond .lt 8, 3) := by decide +kernel
theorem ds_pre_4 : decode cJ3_checkIndex_8e157 4 = .ok (.iload_n 0, 1) := by decide +kernel
theorem ds_pre_5 : decode cJ3_checkIndex_8e157 5 = .ok (.iload_n 1, 1) := by decide +kernel
theorem ds_pre_6 : decode cJ3_checkIndex_8e157 6 = .ok (.if_icmp .lt 10, 3) := by decide +kernel
theorem ds_pre_9 : decode cJ3_checkIndex_8e157 9 = .ok (.aload_n 2, 1) := by decide +kernel
theorem ds_pre_10 : decode cJ3_checkIndex_8e157 10 = .ok (.iload_n 0, 1) := by decide +kernel
theorem ds_pre_11 : decode cJ3_checkIndex_8e157 11 = .ok (.iload_n 1, 1) := by decide +kernel
theorem ds_pre_12 : decode cJ3_checkIndex_8e157 12 = .ok (.invokestatic 95, 3) := by decide +kernel
theorem ds_pre_15 : decode cJ3_checkIndex_8e157 15 = .ok (.athrow, 1) := by decide +kernel
theorem ds_pre_16 : decode cJ3_checkIndex_8e157 16 = .ok (.iload_n 0, 1) := by decide +kernel
theorem ds_pre_17 : decode cJ3_checkIndex_8e157 17 = .ok (.ireturn, 1) := by decide +kernel
def js_pre : JD := (yJ3_checkIndex_8e157, cJ3_checkIndex_8e157, 3, some .int)
theorem mss_pre : MS js_pre 3 := ⟨⟨gw_at 270 (by decide +kernel) rfl, gw_at 211 (by decide +kernel) rfl, ⟨by decide +kernel, by decide +kernel⟩, by decide +kernel, by decide, by decide +kernel⟩, gw_at 269 (by decide +kernel) rfl⟩
theorem ds_chk_0 : decode cJ0_checkIndex_df160 0 = .ok (.iload_n 0, 1) := by decide +kernel
theorem ds_chk_1 : decode cJ0_checkIndex_df160 1 = .ok (.iload_n 1, 1) := by decide +kernel
theorem ds_chk_2 : decode cJ0_checkIndex_df160 2 = .ok (.getstatic 1053, 3) := by decide +kernel
theorem ds_chk_5 : decode cJ0_checkIndex_df160 5 = .ok (.invokestatic 1059, 3) := by decide +kernel
theorem ds_chk_8 : decode cJ0_checkIndex_df160 8 = .ok (.pop, 1) := by decide +kernel
theorem ds_chk_9 : decode cJ0_checkIndex_df160 9 = .ok (.return_, 1) := by decide +kernel
def js_chk : JD := (yJ0_checkIndex_df160, cJ0_checkIndex_df160, 2, none)
theorem mss_chk : MS js_chk 2 := ⟨⟨gw_at 265 (by decide +kernel) rfl, gw_at 209 (by decide +kernel) rfl, ⟨by decide +kernel, by decide +kernel⟩, by decide +kernel, by decide, by decide +kernel⟩, gw_at 264 (by decide +kernel) rfl⟩
theorem ds_at1_0 : decode cJ1_charAt_3b067 0 = .ok (.iload_n 1, 1) := by decide +kernel
theorem ds_at1_1 : decode cJ1_charAt_3b067 1 = .ok (.aload_n 0, 1) := by decide +kernel
theorem ds_at1_2 : decode cJ1_charAt_3b067 2 = .ok (.arraylength, 1) := by decide +kernel
theorem ds_at1_3 : decode cJ1_charAt_3b067 3 = .ok (.invokestatic 9, 3) := by decide +kernel
theorem ds_at1_6 : decode cJ1_charAt_3b067 6 = .ok (.aload_n 0, 1) := by decide +kernel
theorem ds_at1_7 : decode cJ1_charAt_3b067 7 = .ok (.iload_n 1, 1) := by decide +kernel
theorem ds_at1_8 : decode cJ1_charAt_3b067 8 = .ok (.baload, 1) := by decide +kernel
theorem ds_at1_9 : decode cJ1_charAt_3b067 9 = .ok (.sipush 255, 3) := by decide +kernel
theorem ds_at1_12 : decode cJ1_charAt_3b067 12 = .ok (.iand, 1) := by decide +kernel
theorem ds_at1_13 : decode cJ1_charAt_3b067 13 = .ok (.i2c, 1) := by decide +kernel
theorem ds_at1_14 : decode cJ1_charAt_3b067 14 = .ok (.ireturn, 1) := by decide +kernel
def js_at1 : JD := (yJ1_charAt_3b067, cJ1_charAt_3b067, 2, some .char)
theorem mss_at1 : MS js_at1 2 := ⟨⟨gw_at 262 (by decide +kernel) rfl, gw_at 210 (by decide +kernel) rfl, ⟨by decide +kernel, by decide +kernel⟩, by decide +kernel, by decide, by decide +kernel⟩, gw_at 261 (by decide +kernel) rfl⟩
theorem ds_at_0 : decode cJ0_charAt_5068e 0 = .ok (.aload_n 0, 1) := by decide +kernel
theorem ds_at_1 : decode cJ0_charAt_5068e 1 = .ok (.invokevirtual 492, 3) := by decide +kernel
theorem ds_at_4 : decode cJ0_charAt_5068e 4 = .ok (.ifCond .eq 12, 3) := by decide +kernel
theorem ds_at_7 : decode cJ0_charAt_5068e 7 = .ok (.aload_n 0, 1) := by decide +kernel
theorem ds_at_8 : decode cJ0_charAt_5068e 8 = .ok (.getfield 9, 3) := by decide +kernel
theorem ds_at_11 : decode cJ0_charAt_5068e 11 = .ok (.iload_n 1, 1) := by decide +kernel
theorem ds_at_12 : decode cJ0_charAt_5068e 12 = .ok (.invokestatic 495, 3) := by decide +kernel
theorem ds_at_15 : decode cJ0_charAt_5068e 15 = .ok (.ireturn, 1) := by decide +kernel
theorem ds_at_16 : decode cJ0_charAt_5068e 16 = .ok (.aload_n 0, 1) := by decide +kernel
theorem ds_at_17 : decode cJ0_charAt_5068e 17 = .ok (.getfield 9, 3) := by decide +kernel
theorem ds_at_20 : decode cJ0_charAt_5068e 20 = .ok (.iload_n 1, 1) := by decide +kernel
theorem ds_at_21 : decode cJ0_charAt_5068e 21 = .ok (.invokestatic 498, 3) := by decide +kernel
theorem ds_at_24 : decode cJ0_charAt_5068e 24 = .ok (.ireturn, 1) := by decide +kernel
def js_at : JD := (yJ0_charAt_5068e, cJ0_charAt_5068e, 2, some .char)
theorem mvs_at : MC js_at 1 ∧ js_at.1.cls = "java/lang/String" ∧ Cond.instanceMethod js_at.1 ∈ GW ∧ Cond.selects js_at.1.cls js_at.1 js_at.1 ∈ GW := ⟨⟨gw_at 255 (by decide +kernel) rfl, gw_at 209 (by decide +kernel) rfl, ⟨by decide +kernel, by decide +kernel⟩, by decide +kernel, by decide, by decide +kernel⟩, rfl, gw_at 253 (by decide +kernel) rfl, gw_at 254 (by decide +kernel) rfl⟩
theorem ds_len_0 : decode cJ0_length_8abf5 0 = .ok (.aload_n 0, 1) := by decide +kernel
theorem ds_len_1 : decode cJ0_length_8abf5 1 = .ok (.getfield 9, 3) := by decide +kernel
theorem ds_len_4 : decode cJ0_length_8abf5 4 = .ok (.arraylength, 1) := by decide +kernel
theorem ds_len_5 : decode cJ0_length_8abf5 5 = .ok (.aload_n 0, 1) := by decide +kernel
theorem ds_len_6 : decode cJ0_length_8abf5 6 = .ok (.invokevirtual 335, 3) := by decide +kernel
theorem ds_len_9 : decode cJ0_length_8abf5 9 = .ok (.ishr, 1) := by decide +kernel
theorem ds_len_10 : decode cJ0_length_8abf5 10 = .ok (.ireturn, 1) := by decide +kernel
def js_len : JD := (yJ0_length_8abf5, cJ0_length_8abf5, 1, some .int)
theorem mvs_len : MC js_len 0 ∧ js_len.1.cls = "java/lang/String" ∧ Cond.instanceMethod js_len.1 ∈ GW ∧ Cond.selects js_len.1.cls js_len.1 js_len.1 ∈ GW := ⟨⟨gw_at 245 (by decide +kernel) rfl, gw_at 209 (by decide +kernel) rfl, ⟨by decide +kernel, by decide +kernel⟩, by decide +kernel, by decide, by decide +kernel⟩, rfl, gw_at 243 (by decide +kernel) rfl, gw_at 244 (by decide +kernel) rfl⟩
theorem fs_9 : Cond.fieldLink "java/lang/String" 9 "java/lang/String" "value" "[B" ∈ GW := gw_at 2311 (by decide +kernel) rfl
theorem fs_15 : Cond.fieldLink "java/lang/String" 15 "java/lang/String" "coder" "B" ∈ GW := gw_at 2312 (by decide +kernel) rfl
theorem fs_38 : Cond.fieldLink "java/lang/String" 38 "java/lang/String" "COMPACT_STRINGS" "Z" ∈ GW := gw_at 250 (by decide +kernel) rfl
theorem fs_1053 : Cond.fieldLink "java/lang/String" 1053 "jdk/internal/util/Preconditions" "SIOOBE_FORMATTER" "Ljava/util/function/BiFunction;" ∈ GW := gw_at 266 (by decide +kernel) rfl
theorem mls_335 : MLk RJ0 335 js_coder.1 := Or.inl (gw_at 246 (by decide +kernel) rfl)
theorem mls_492 : MLk RJ0 492 js_isL.1 := Or.inl (gw_at 256 (by decide +kernel) rfl)
theorem mls_495 : MLk RJ0 495 js_at1.1 := Or.inl (gw_at 260 (by decide +kernel) rfl)
theorem mls_1059 : MLk RJ0 1059 js_pre.1 := Or.inl (gw_at 268 (by decide +kernel) rfl)
theorem mls_9 : MLk RJ1 9 js_chk.1 := Or.inl (gw_at 263 (by decide +kernel) rfl)
theorem st_X6_21 : MLk RX6 21 js_len.1 := Or.inl (gw_at 242 (by decide +kernel) rfl)
theorem st_X6_27 : MLk RX6 27 js_at.1 := Or.inl (gw_at 252 (by decide +kernel) rfl)
section WtS
variable {G : GG} {X : CX} {J J' : JD} {B B' : BD} {pc : Nat} {ls : LV} {st st0 As : List Value} {M M' : Mm} {u w u' w' : Nat} {idx n : Nat} {rv : Option Value} {ρ : Type} {ans : ρ}
theorem wt_xload_n {k : Fin 4} {b : Nat} (q : Nat) (hc : decode J.2.1 pc = .ok (.aload_n k, 1)) (hq : ls[q]? = some ((k : Nat), .ref b)) (kk : Wt G X J B (pc + 1) ls (.ref b :: st) M u w) : Wt G X J B pc ls st M u w := by
  obtain ⟨p, l, e, R, s, m, args, below, meth, c, Q⟩ := X
  intro F H locs la hR hS h
  exact lv_aload_n F.1 F.2.1 hc rfl (lv_at h q hq) (kk F H locs la hR hS h)
theorem wt_getsC {own : String} (ho : J.1.cls = own) (hl : Cond.fieldLink own idx "java/lang/String" "COMPACT_STRINGS" "Z" ∈ GW) (hc : decode J.2.1 pc = .ok (.getstatic idx, 3)) (kk : Wt G X J B (pc + 3) ls (.int 1 :: st) M u w) : Wt G X J B pc ls st M u w := by
  subst ho
  obtain ⟨p, l, e, R, s, m, args, below, meth, c, Q⟩ := X
  intro F H locs la hR hS h
  have K := kk F H locs la hR hS h
  obtain ⟨hx, hb, hml, hown, hts, hKo, -⟩ := F
  exact va_gets hx hb hKo.2.2.2.2.2.2.1 hS hown (hts _ hl) (fun _ h9 => h9) hc K
theorem wt_getsP {own : String} (ho : J.1.cls = own) (hl : Cond.fieldLink own idx "jdk/internal/util/Preconditions" "SIOOBE_FORMATTER" "Ljava/util/function/BiFunction;" ∈ GW) (hc : decode J.2.1 pc = .ok (.getstatic idx, 3)) (kk : ∀ v : Value, v.category = 1 → Wt G X J B (pc + 3) ls (v :: st) M u w) : Wt G X J B pc ls st M u w := by
  subst ho
  obtain ⟨p, l, e, R, s, m, args, below, meth, c, Q⟩ := X
  intro F H locs la hR hS h
  have K := fun v hv => kk v hv F H locs la hR hS h
  obtain ⟨hx, hb, hml, hown, hts, hKo, -⟩ := F
  rcases hKo.2.2.2.2.2.2.2 with h9 | ⟨t, h9⟩
  · exact va_gets hx hb h9 hS hown (hts _ hl) (fun _ h9 => h9) hc (K _ rfl)
  · exact va_gets hx hb h9 hS hown (hts _ hl) (fun _ h9 => h9) hc (K _ rfl)
theorem wt_strV {own : String} (ho : J.1.cls = own) (hl : Cond.fieldLink own idx "java/lang/String" "value" "[B" ∈ GW) (hc : decode J.2.1 pc = .ok (.getfield idx, 3)) (kk : Wt G X J B (pc + 3) ls (.ref (G.2.2 101) :: st) M u w) : Wt G X J B pc ls (.ref (G.2.2 100) :: st) M u w := by
  subst ho
  obtain ⟨p, l, e, R, s, m, args, below, meth, c, Q⟩ := X
  intro F H locs la hR hS h
  have K := kk F H locs la hR hS h
  obtain ⟨hx, hb, hml, hown, hts, hKo, -⟩ := F
  exact vk_getf hx hb ((hKo.2.2.2.2.2.1).1 0 (by decide)).2.2.1 hS hown (hts _ hl) (fun _ h9 => h9) hc K
theorem wt_strC {own : String} (ho : J.1.cls = own) (hl : Cond.fieldLink own idx "java/lang/String" "coder" "B" ∈ GW) (hc : decode J.2.1 pc = .ok (.getfield idx, 3)) (kk : Wt G X J B (pc + 3) ls (.int 0 :: st) M u w) : Wt G X J B pc ls (.ref (G.2.2 100) :: st) M u w := by
  subst ho
  obtain ⟨p, l, e, R, s, m, args, below, meth, c, Q⟩ := X
  intro F H locs la hR hS h
  have K := kk F H locs la hR hS h
  obtain ⟨hx, hb, hml, hown, hts, hKo, -⟩ := F
  exact vk_getf hx hb ((hKo.2.2.2.2.2.1).1 0 (by decide)).2.1 hS hown (hts _ hl) (fun _ h9 => h9) hc K
theorem wt_strN {v : Int32} (hv : Int32.ofNat byW.length = v) (hc : decode J.2.1 pc = .ok (.arraylength, 1)) (kk : Wt G X J B (pc + 1) ls (.int v :: st) M u w) : Wt G X J B pc ls (.ref (G.2.2 101) :: st) M u w := by
  obtain ⟨p, l, e, R, s, m, args, below, meth, c, Q⟩ := X
  intro F H locs la hR hS h
  have K := kk F H locs la hR hS h
  obtain ⟨hx, hb, hml, hown, hts, hKo, -⟩ := F
  have hT := ((hKo.2.2.2.2.2.1).1 0 (by decide)).2.2.2
  simp only [List.getD_cons_zero] at hT
  exact va_tlen hx hb hT hS hv hc K
theorem wt_strB {i : Int32} (hi : ¬ (i < 0 ∨ byW.length ≤ i.toNatClampNeg)) (hc : decode J.2.1 pc = .ok (.baload, 1)) (kk : Wt G X J B (pc + 1) ls (.int (byW.getD i.toNatClampNeg 0) :: st) M u w) : Wt G X J B pc ls (.int i :: .ref (G.2.2 101) :: st) M u w := by
  obtain ⟨p, l, e, R, s, m, args, below, meth, c, Q⟩ := X
  intro F H locs la hR hS h
  have K := kk F H locs la hR hS h
  obtain ⟨hx, hb, hml, hown, hts, hKo, -⟩ := F
  have hT := ((hKo.2.2.2.2.2.1).1 0 (by decide)).2.2.2
  simp only [List.getD_cons_zero] at hT
  exact va_tb hx hb hT hS hi rfl hc K
theorem wt_callStr (hc : decode J.2.1 pc = .ok (.invokevirtual idx, 3)) (hl : MLk J.1.cls idx J'.1) (hmv : MC J' n ∧ J'.1.cls = "java/lang/String" ∧ Cond.instanceMethod J'.1 ∈ GW ∧ Cond.selects J'.1.cls J'.1 J'.1 ∈ GW) (hM : ∀ l, Ct l G J' B' (.ref (G.2.2 100) :: As) M rv M') (hn : As.length = n) (hB : B'.1 + 1 ≤ B.1) (hu : u + B'.2.1 ≤ B.2.1) (hw : w + B'.2.2 ≤ B.2.2) (hst : (st.map fun v => v.category).sum ≤ 8) (hst0 : As.reverse ++ .ref (G.2.2 100) :: st = st0)
    (kk : Wt G X J B (pc + 3) ls (rv.toList ++ st) M' (u + B'.2.1) (w + B'.2.2)) : Wt G X J B pc ls st0 M u w := by
  obtain ⟨p, l, e, R, s, m, args, below, meth, c, Q⟩ := X
  intro F H locs la hR hS hls
  have K := kk F
  obtain ⟨hx, hb, hml, hown, hts, hKo, hn0, ⟨hrf, hrl, hrc, hrs⟩, -⟩ := F
  obtain ⟨hmc, hcl, hin, hsel⟩ := hmv
  obtain ⟨⟨c1, c2, c3, c4, c5, c6⟩, c7, c8, c9⟩ := call_B (R := R) (B' := B') hts hmc (by omega) (by omega)
  have hps := pre_S (J := J) (B := B) (av := .ref (G.2.2 100) :: As) hKo hR hS
  have hrv := vk_recv (i := 0) (hKo.2.2.2.2.2.1) (by decide) hS
  have hp : PreV s H J'.1.cls (G.2.2 100) (PcT G (.ref (G.2.2 100) :: As) M) As := ⟨hps.1, by rw [hcl]; exact hrv, hps.2⟩
  subst hst0
  rcases hl with hl | ⟨host, hl⟩
  · refine run_W (va_runV (Ts := GW) (nL := J.2.2.1) ⟨hx, hb, hml, hown, hts⟩ (hM l) ⟨⟨c1, c2, c3, c4, c5, c6, c7, c8, hmc.2.2.1, c9, hts _ hl⟩, hts _ hin, hts _ hsel⟩ hp rfl hn hls.1 rfl (lv_room hst) hc ⟨by omega, by omega⟩) hS (fun H1 locs1 hR1 hS1 => K H1 locs1 la hR1 hS1 hls)
  · refine run_W (va_runVN (Ts := GW) (nL := J.2.2.1) ⟨hx, hb, hml, hown, hts⟩ (hM l) ⟨⟨⟨c1, c2, c3, c4, c5, c6⟩, c7, c8, hmc.2.2.1, c9, va_Nw.use rfl (hKo.2.2.1 _ hl)⟩, hts _ hin, hts _ hsel⟩ hp rfl hn hls.1 rfl (lv_room hst) hc ⟨by omega, by omega⟩) hS (fun H1 locs1 hR1 hS1 => K H1 locs1 la hR1 hS1 hls)
theorem wt_ldcS (hc : decode J.2.1 pc = .ok (.ldc 19, 2)) (ho : J.1.cls = RX6) (kk : Wt G X J B (pc + 2) ls (.ref (G.2.2 100) :: st) M u w) : Wt G X J B pc ls st M u w := by
  obtain ⟨p, l, e, R, s, m, args, below, meth, c, Q⟩ := X
  intro F H locs la hR hS h
  have K := kk F H locs la hR hS h
  obtain ⟨hx, hb, hml, hown, hts, hKo, -⟩ := F
  rw [ho] at hown
  exact va_ldcS hx hb hown hKo.2.2.2.2.1 hc K
end WtS
theorem ct_N {l : Launch} {G : GG} {J : JD} {B : BD} {av : List Value} {M : Mm} {ls0 : LV} {ty : FieldType} {r : Int32 × Mm} (hy : plainName J.1.cls = true) (hlen : (lg_sl av).length ≤ J.2.2.1) (hr : J.2.2.2 = some ty) (hn : narrow ty (.int r.1) = .int r.1) (hls : lv_args 0 av = ls0) (body : ∀ X : CX, EndI G X J B r → Wt G X J B 0 ls0 [] M 0 0) : Ct l G J B av M (some (.int r.1)) r.2 := by
  subst hls
  exact ct_start hy hlen fun X hE => body X fun pc ls u w hd hu hw => hE pc ls _ u w hu hw fun p e R s m args below meth c H locs la F hret hlk hR hS => W.zret F.1 F.2.1 (hret.trans hr) hn (qcT_of hR hS) hS.2.2 hd hlk
/-- the chars of the text -/
def chV (k : Nat) : Int32 := UInt32.toInt32 (Int32.toUInt32 (byW.getD k 0 &&& 255) % 65536)
def chW {ρ : Type} (i : Int32) (c : Int32 → Option ρ) : Option ρ := if i < 0 ∨ 152 ≤ i.toNatClampNeg then none else c (chV i.toNatClampNeg)
theorem byW_len : byW.length = 152 := by decide +kernel
theorem cs_coder {G : GG} {M : Mm} (l : Launch) : Ct l G js_coder (0, 0, 0) [.ref (G.2.2 100)] M (some (.int 0)) M := by
  refine ct_N (r := (0, M)) (ls0 := [(0, .ref (G.2.2 100))]) (by decide +kernel) (by simp [lg_sl, cat_r, js_coder]) rfl rfl rfl (fun X he => ?_)
  refine wt_getsC (pc := 0) rfl fs_38 ds_coder_0 ?_
  refine wt_if_eq (pc := 3) (tgt := 13) ds_coder_3 (by decide) (fun q => absurd q (by decide)) (fun q => ?_)
  refine wt_xload_n (pc := 6) 0 ds_coder_6 rfl ?_
  refine wt_strC (pc := 7) rfl fs_15 ds_coder_7 ?_
  refine wt_goto (pc := 10) (tgt := 14) ds_coder_10 (by decide) ?_
  exact he 14 _ _ _ ds_coder_14 (by decide) (by decide)
theorem cs_isL {G : GG} {M : Mm} (l : Launch) : Ct l G js_isL (0, 0, 0) [.ref (G.2.2 100)] M (some (.int 1)) M := by
  refine ct_N (r := (1, M)) (ls0 := [(0, .ref (G.2.2 100))]) (by decide +kernel) (by simp [lg_sl, cat_r, js_isL]) rfl narrow_b1 rfl (fun X he => ?_)
  refine wt_getsC (pc := 0) rfl fs_38 ds_isL_0 ?_
  refine wt_if_eq (pc := 3) (tgt := 17) ds_isL_3 (by decide) (fun q => absurd q (by decide)) (fun q => ?_)
  refine wt_xload_n (pc := 6) 0 ds_isL_6 rfl ?_
  refine wt_strC (pc := 7) rfl fs_15 ds_isL_7 ?_
  refine wt_if_ne (pc := 10) (tgt := 17) ds_isL_10 (by decide) (fun q => absurd rfl q) (fun q => ?_)
  refine wt_iconst (pc := 13) (v := 1) ds_isL_13 (by decide) ?_
  refine wt_goto (pc := 14) (tgt := 18) ds_isL_14 (by decide) ?_
  exact he 18 _ _ _ ds_isL_18 (by decide) (by decide)
theorem cs_pre {G : GG} {M : Mm} {i n : Int32} {v : Value} (hv : v.category = 1) (h0 : ¬ i < 0) (h1 : i < n) (l : Launch) : Ct l G js_pre (0, 0, 0) [.int i, .int n, v] M (some (.int i)) M := by
  refine ct_N (r := (i, M)) (ls0 := [(0, .int i), (1, .int n), (2, v)]) (by decide +kernel) (by simp [lg_sl, cat_i, js_pre, hv]) rfl rfl (by simp [lv_args, cat_i]) (fun X he => ?_)
  refine wt_iload_n (pc := 0) 0 ds_pre_0 rfl ?_
  refine wt_if_lt (pc := 1) (tgt := 9) ds_pre_1 (by decide) (fun q => absurd q h0) (fun q => ?_)
  refine wt_iload_n (pc := 4) 0 ds_pre_4 rfl ?_
  refine wt_iload_n (pc := 5) 1 ds_pre_5 rfl ?_
  refine wt_icmp_lt (pc := 6) (tgt := 16) ds_pre_6 (by decide) (fun q => ?_) (fun q => absurd h1 q)
  refine wt_iload_n (pc := 16) 0 ds_pre_16 rfl ?_
  exact he 17 _ _ _ ds_pre_17 (by decide) (by decide)
theorem cs_chk {G : GG} {M : Mm} {i n : Int32} (h0 : ¬ i < 0) (h1 : i < n) (l : Launch) : Ct l G js_chk (1, 0, 0) [.int i, .int n] M none M := by
  refine cf_V (ls0 := [(0, .int i), (1, .int n)]) (by decide +kernel) (by simp [lg_sl, cat_i, js_chk]) rfl (by simp [lv_args, cat_i]) (fun X he => ?_)
  refine wt_iload_n (pc := 0) 0 ds_chk_0 rfl ?_
  refine wt_iload_n (pc := 1) 1 ds_chk_1 rfl ?_
  refine wt_getsP (pc := 2) rfl fs_1053 ds_chk_2 (fun v hv => ?_)
  refine wt_callS (pc := 5) (J' := js_pre) (B' := (0, 0, 0)) (As := [.int i, .int n, v]) (st := []) ds_chk_5 mls_1059 mss_pre (fun l => cs_pre hv h0 h1 l) rfl (by decide) (by decide) (by decide) (by decide) rfl ?_
  refine wt_pop (pc := 8) (a := .int i) ds_chk_8 rfl ?_
  exact he 9 _ _ _ ds_chk_9 (by decide) (by decide)
theorem cs_at1 {G : GG} {M : Mm} {i : Int32} (hi : ¬ (i < 0 ∨ 152 ≤ i.toNatClampNeg)) (l : Launch) : Ct l G js_at1 (2, 0, 0) [.ref (G.2.2 101), .int i] M (some (.int (chV i.toNatClampNeg))) M := by
  have h0 : ¬ i < 0 := fun z => hi (Or.inl z)
  have h1 : i < 152 := by
    have h2 : i.toNatClampNeg < 152 := Nat.not_le.mp fun z => hi (Or.inr z)
    have h3 := nn_clamp (Int32.not_lt.mp h0)
    rw [Int32.lt_iff_toInt_lt, h3]
    exact Int.ofNat_lt.mpr h2
  refine ct_N (r := (chV i.toNatClampNeg, M)) (ls0 := [(0, .ref (G.2.2 101)), (1, .int i)]) (by decide +kernel) (by simp [lg_sl, cat_i, cat_r, js_at1]) rfl (pk_nc _) (by simp [lv_args, cat_i, cat_r]) (fun X he => ?_)
  refine wt_iload_n (pc := 0) 1 ds_at1_0 rfl ?_
  refine wt_xload_n (pc := 1) 0 ds_at1_1 rfl ?_
  refine wt_strN (pc := 2) (v := 152) (by rw [byW_len]; rfl) ds_at1_2 ?_
  refine wt_callS (pc := 3) (J' := js_chk) (B' := (1, 0, 0)) (As := [.int i, .int 152]) (st := []) ds_at1_3 mls_9 mss_chk (fun l => cs_chk h0 h1 l) rfl (by decide) (by decide) (by decide) (by decide) rfl ?_
  refine wt_xload_n (pc := 6) 0 ds_at1_6 rfl ?_
  refine wt_iload_n (pc := 7) 1 ds_at1_7 rfl ?_
  refine wt_strB (pc := 8) (by rw [byW_len]; exact hi) ds_at1_8 ?_
  refine wt_sipush (pc := 9) (v := 255) ds_at1_9 (by decide) ?_
  refine wt_iand (pc := 12) ds_at1_12 ?_
  refine wt_i2c (pc := 13) ds_at1_13 ?_
  exact he 14 _ _ _ ds_at1_14 (by decide) (by decide)
theorem cs_at {G : GG} {M : Mm} {i : Int32} (hi : ¬ (i < 0 ∨ 152 ≤ i.toNatClampNeg)) (l : Launch) : Ct l G js_at (3, 0, 0) [.ref (G.2.2 100), .int i] M (some (.int (chV i.toNatClampNeg))) M := by
  refine ct_N (r := (chV i.toNatClampNeg, M)) (ls0 := [(0, .ref (G.2.2 100)), (1, .int i)]) (by decide +kernel) (by simp [lg_sl, cat_i, cat_r, js_at]) rfl (pk_nc _) (by simp [lv_args, cat_i, cat_r]) (fun X he => ?_)
  refine wt_xload_n (pc := 0) 0 ds_at_0 rfl ?_
  refine wt_callStr (pc := 1) (J' := js_isL) (B' := (0, 0, 0)) (As := []) (st := []) ds_at_1 mls_492 mvs_isL (fun l => cs_isL l) rfl (by decide) (by decide) (by decide) (by decide) rfl ?_
  refine wt_if_eq (pc := 4) (x := 1) (st := []) (tgt := 16) ds_at_4 (by decide) (fun q => absurd q (by decide)) (fun q => ?_)
  refine wt_xload_n (pc := 7) 0 ds_at_7 rfl ?_
  refine wt_strV (pc := 8) rfl fs_9 ds_at_8 ?_
  refine wt_iload_n (pc := 11) 1 ds_at_11 rfl ?_
  refine wt_callS (pc := 12) (J' := js_at1) (B' := (2, 0, 0)) (As := [.ref (G.2.2 101), .int i]) (st := []) ds_at_12 mls_495 mss_at1 (fun l => cs_at1 hi l) rfl (by decide) (by decide) (by decide) (by decide) rfl ?_
  exact he 15 _ _ _ ds_at_15 (by decide) (by decide)
theorem cs_len {G : GG} {M : Mm} (l : Launch) : Ct l G js_len (1, 0, 0) [.ref (G.2.2 100)] M (some (.int 152)) M := by
  refine ct_N (r := (152, M)) (ls0 := [(0, .ref (G.2.2 100))]) (by decide +kernel) (by simp [lg_sl, cat_r, js_len]) rfl rfl rfl (fun X he => ?_)
  refine wt_xload_n (pc := 0) 0 ds_len_0 rfl ?_
  refine wt_strV (pc := 1) rfl fs_9 ds_len_1 ?_
  refine wt_strN (pc := 4) (v := 152) (by rw [byW_len]; rfl) ds_len_4 ?_
  refine wt_xload_n (pc := 5) 0 ds_len_5 rfl ?_
  refine wt_callStr (pc := 6) (J' := js_coder) (B' := (0, 0, 0)) (As := []) (st := [.int 152]) ds_len_6 mls_335 mvs_coder (fun l => cs_coder l) rfl (by decide) (by decide) (by decide) (by decide) rfl ?_
  refine wt_ishr (pc := 9) (x := 152) (y := 0) (st := []) ds_len_9 ?_
  exact he 10 _ _ _ ds_len_10 (by decide) (by decide)
section WtT
variable {G : GG} {X : CX} {J : JD} {B : BD} {pc : Nat} {ls : LV} {st : List Value} {M : Mm} {u w : Nat} {idx : Nat} {ρ : Type} {ans : ρ}
theorem wt_strLen (hc : decode J.2.1 pc = .ok (.invokevirtual idx, 3)) (hl : MLk J.1.cls idx js_len.1) (hB : 2 ≤ B.1) (hu : u ≤ B.2.1) (hw : w ≤ B.2.2) (hst : (st.map fun v => v.category).sum ≤ 8) (kk : Wt G X J B (pc + 3) ls (.int 152 :: st) M u w) : Wt G X J B pc ls (.ref (G.2.2 100) :: st) M u w :=
  wt_callStr (J' := js_len) (B' := (1, 0, 0)) (As := []) hc hl mvs_len (fun l => cs_len l) rfl hB hu hw hst rfl kk
theorem wt_strAt {i : Int32} {cont : Int32 → Option ρ} (hc : decode J.2.1 pc = .ok (.invokevirtual idx, 3)) (hl : MLk J.1.cls idx js_at.1) (hB : 4 ≤ B.1) (hu : u ≤ B.2.1) (hw : w ≤ B.2.2) (hst : (st.map fun v => v.category).sum ≤ 8) (h : chW i cont = some ans) (kk : ∀ v, cont v = some ans → Wt G X J B (pc + 3) ls (.int v :: st) M u w) : Wt G X J B pc ls (.int i :: .ref (G.2.2 100) :: st) M u w := by
  unfold chW at h
  by_cases hi : i < 0 ∨ 152 ≤ i.toNatClampNeg
  · rw [if_pos hi] at h
    cases h
  · rw [if_neg hi] at h
    exact wt_callStr (J' := js_at) (B' := (3, 0, 0)) (As := [.int i]) hc hl mvs_at (fun l => cs_at hi l) rfl hB hu hw hst rfl (kk _ h)
end WtT

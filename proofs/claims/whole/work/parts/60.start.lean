/-! FROM THE LAW'S ENTRY: the facts of the tables, the empty memory -/
def M00 : Mm := (fun _ => (99, 0), fun _ _ => 0, fun _ _ => 0, fun _ _ => none, 0)
theorem rel_00 (G : GG) (H : Heap) (h : H.size = G.1) : Rel G M00 H := ⟨h, fun _ _ => rfl, fun a ha => absurd ha (Nat.not_lt_zero a)⟩
theorem arr_prim {args : Array Value} {s : State} {ty : FieldType} (h : (Cond.arrayClass ty).before args s = true) : ∃ cA : ClassId, ArrOfT s cA ty ∧ s.vm.findClass ("[" ++ ty.toString) = some cA := by
  obtain ⟨c, k, comp, h1, h2, h3⟩ := Cond.arrayClass_spec h
  exact ⟨c, fun n z => ⟨fun k h => (by cases h), k, h2, comp, h3⟩, h1⟩
theorem arr_obj {args : Array Value} {s : State} {C : String} (h : (Cond.arrayOver (.object C)).before args s = true) : ∃ cA : ClassId, ArrOfT s cA (.object C) ∧ va_RA s cA (.object C) := by
  obtain ⟨comp, c, k, h1, -, h3, h4, h5⟩ := Cond.arrayOver_spec h
  exact ⟨c, fun n z => ⟨fun k h => (by cases h), k, h3, comp, h4⟩, k, comp, h3, h4, h1, h5⟩
theorem arr_arr {args : Array Value} {s : State} {t : FieldType} (h : (Cond.arrayOver (.array t)).before args s = true) : ∃ cA : ClassId, ArrOfT s cA (.array t) ∧ s.vm.findClass ("[" ++ (FieldType.array t).toString) = some cA := by
  obtain ⟨comp, c, k, -, -, h3, h4, h5⟩ := arrayOverA_spec h
  exact ⟨c, fun n z => ⟨fun k h => (by cases h), k, h3, comp, h4⟩, h5⟩
theorem lw_mem {w : Cond} (i : Nat) (h : lw_tbl[i]? = some w) : w ∈ lw_tbl := List.mem_of_getElem? h
theorem gw_lw {w : Cond} (h : w ∈ GW) : w ∈ lw_tbl := (List.mem_filter.mp h).1
theorem va_AOA_of {t : FieldType} {A : Array Value} {U : State} (h : (Cond.arrayOver (.array t)).before A U = true) : va_AOA t U := h
set_option maxHeartbeats 4000000 in
set_option maxRecDepth 100000 in
theorem str_ok {args : Array Value} {s : State} (hts : ∀ w ∈ lw_tbl, w.before args s = true) (hgv : (Jvm.Cond.and given_1 narrow_1).before args s = true) : ∃ aK aV : Nat, vk_R RX6 19 txW aK s ∧ vk_S 1 [byW.length] [byW] (fun _ => aK) (fun _ => aV) (fun q => s.heap.size ≤ q) s s.heap := by
  have hs := flat_of_before _ hgv
  have hA : ∀ a : Nat, a < s.heap.size → ¬ (fun q => s.heap.size ≤ q) a := fun a ha => Nat.not_le.mpr ha
  have hrf : (Cond.stringRef RX6 19 txW).before args s = true := hts _ (lw_mem 241 (by decide +kernel))
  have hel : ∀ j : Nat, j < 152 → (Cond.eq (.elem (.field (.string RX6 19) "java/lang/String" "value" "[B") (.int (Int32.ofNat j))) (.int (byW.getD j 0))).before args s = true := fun j hj => hs _ (va_run (p := 78) (N := 152) (f := fun j => Cond.eq (.elem (.field (.string RX6 19) "java/lang/String" "value" "[B") (.int (Int32.ofNat j))) (.int (byW.getD j 0))) (by decide +kernel) j hj)
  obtain ⟨adK, adV, h1, h2⟩ := vk_Sof (N := 1) (tm := fun _ => .string RX6 19) (len := [152]) (byt := [byW]) (A := fun q => s.heap.size ≤ q) (args := args) (s := s)
    (fun i hi => by obtain rfl : i = 0 := by omega
                    decide) (fun i hi => hs _ (by decide +kernel)) (fun i hi => hs _ (by decide +kernel)) (fun i hi => hs _ (by decide +kernel))
    (fun i hi => by obtain rfl : i = 0 := by omega
                    exact hs _ (by decide +kernel))
    (fun i hi j hj => by obtain rfl : i = 0 := by omega
                         exact hel j hj)
    (fun i j hi hj hne => by omega) hA
  refine ⟨adK 0, adV 0, vk_R.of hrf (h2 0 (by decide)), ?_⟩
  rw [byW_len]
  refine ⟨fun i hi => ?_, fun i j hi hj _ => by omega⟩
  obtain rfl : i = 0 := by omega
  exact h1.1 0 (by decide)
set_option maxHeartbeats 4000000 in
set_option maxRecDepth 100000 in
theorem kok_start {args : Array Value} {s : State} (hts : ∀ w ∈ lw_tbl, w.before args s = true) (hgv : (Jvm.Cond.and given_1 narrow_1).before args s = true) : ∃ G : GG, G.1 = s.heap.size ∧ Kok G s := by
  have hA : ∀ a : Nat, a < s.heap.size → ¬ (fun q => s.heap.size ≤ q) a := fun a ha => Nat.not_le.mpr ha
  have hs := flat_of_before _ hgv
  obtain ⟨c0, i0, hK0⟩ := u_known (C := RX0) (T := TX0) (N := 8) (n := 8) hts (fun w h => gw_lw (gwX0 w h)) (hts _ (lw_mem 449 (by decide +kernel)))
  obtain ⟨c1, i1, hK1⟩ := u_known (C := RX1) (T := TX1) (N := 9) (n := 9) hts (fun w h => gw_lw (gwX1 w h)) (hts _ (lw_mem 385 (by decide +kernel)))
  obtain ⟨c2, i2, hK2⟩ := u_known (C := RX2) (T := TX2) (N := 8) (n := 8) hts (fun w h => gw_lw (gwX2 w h)) (hts _ (lw_mem 648 (by decide +kernel)))
  obtain ⟨c3, i3, hK3⟩ := u_known (C := RX3) (T := TX3) (N := 4) (n := 4) hts (fun w h => gw_lw (gwX3 w h)) (hts _ (lw_mem 626 (by decide +kernel)))
  obtain ⟨c4, i4, hK4⟩ := u_known (C := RX4) (T := TX4) (N := 9) (n := 9) hts (fun w h => gw_lw (gwX4 w h)) (hts _ (lw_mem 372 (by decide +kernel)))
  obtain ⟨c5, i5, hK5⟩ := u_known (C := RX5) (T := TX5) (N := 3) (n := 3) hts (fun w h => gw_lw (gwX5 w h)) (hts _ (lw_mem 828 (by decide +kernel)))
  obtain ⟨c6, i6, hK6⟩ := u_known (C := RX6) (T := TX6) (N := 14) (n := 14) hts (fun w h => gw_lw (gwX6 w h)) (hts _ (lw_mem 236 (by decide +kernel)))
  obtain ⟨c7, i7, hK7⟩ := u_known (C := RX7) (T := TX7) (N := 3) (n := 3) hts (fun w h => gw_lw (gwX7 w h)) (hts _ (lw_mem 350 (by decide +kernel)))
  obtain ⟨c8, i8, hK8⟩ := u_known (C := RX8) (T := TX8) (N := 3) (n := 3) hts (fun w h => gw_lw (gwX8 w h)) (hts _ (lw_mem 497 (by decide +kernel)))
  obtain ⟨c9, i9, hK9⟩ := u_known (C := RX9) (T := TX9) (N := 8) (n := 8) hts (fun w h => gw_lw (gwX9 w h)) (hts _ (lw_mem 577 (by decide +kernel)))
  obtain ⟨c10, i10, hK10⟩ := u_known (C := RX10) (T := TX10) (N := 5) (n := 5) hts (fun w h => gw_lw (gwX10 w h)) (hts _ (lw_mem 977 (by decide +kernel)))
  obtain ⟨c11, i11, hK11⟩ := u_known (C := RX11) (T := TX11) (N := 19) (n := 19) hts (fun w h => gw_lw (gwX11 w h)) (hts _ (lw_mem 228 (by decide +kernel)))
  obtain ⟨c12, i12, hK12⟩ := u_known (C := RX12) (T := TX12) (N := 45) (n := 45) hts (fun w h => gw_lw (gwX12 w h)) (hts _ (lw_mem 1509 (by decide +kernel)))
  obtain ⟨a20, hA20, hB20⟩ := arr_prim (hts _ (gw_lw ac_byte))
  obtain ⟨a21, hA21, hB21⟩ := arr_prim (hts _ (gw_lw ac_int))
  obtain ⟨a22, hA22, hB22⟩ := arr_prim (hts _ (gw_lw ac_long))
  have hO30 := hts (Cond.arrayOver (.object RX0)) (lw_mem 380 (by decide +kernel))
  obtain ⟨a30, hA30, hB30⟩ := arr_obj hO30
  have hO31 := hts (Cond.arrayOver (.object RX1)) (lw_mem 378 (by decide +kernel))
  obtain ⟨a31, hA31, hB31⟩ := arr_obj hO31
  have hO34 := hts (Cond.arrayOver (.object RX4)) (lw_mem 623 (by decide +kernel))
  obtain ⟨a34, hA34, hB34⟩ := arr_obj hO34
  have hO38 := hts (Cond.arrayOver (.object RX8)) (lw_mem 382 (by decide +kernel))
  obtain ⟨a38, hA38, hB38⟩ := arr_obj hO38
  have hO39 := hts (Cond.arrayOver (.object RX9)) (lw_mem 624 (by decide +kernel))
  obtain ⟨a39, hA39, hB39⟩ := arr_obj hO39
  have hO50 := hts (Cond.arrayOver (.array .int)) (lw_mem 384 (by decide +kernel))
  obtain ⟨a50, hA50, hB50⟩ := arr_arr hO50
  have hO51 := hts (Cond.arrayOver (.array .long)) (lw_mem 356 (by decide +kernel))
  obtain ⟨a51, hA51, hB51⟩ := arr_arr hO51
  obtain ⟨aK, aV, hR, hS⟩ := str_ok hts hgv
  refine ⟨(s.heap.size, (fun k => match k with | 0 => c0 | 1 => c1 | 2 => c2 | 3 => c3 | 4 => c4 | 5 => c5 | 6 => c6 | 7 => c7 | 8 => c8 | 9 => c9 | 10 => c10 | 11 => c11 | _ => c12, fun k => match k with | 0 => i0 | 1 => i1 | 2 => i2 | 3 => i3 | 4 => i4 | 5 => i5 | 6 => i6 | 7 => i7 | 8 => i8 | 9 => i9 | 10 => i10 | 11 => i11 | _ => i12), fun k => match k with | 20 => a20 | 21 => a21 | 22 => a22 | 30 => a30 | 31 => a31 | 34 => a34 | 38 => a38 | 39 => a39 | 50 => a50 | 51 => a51 | 100 => aK | _ => aV), rfl, ⟨fun k q hq => ?_, fun k q h => by simp at h⟩, fun kd ty ht => ?_, fun w hw => ?_, ⟨fun kd C hC => ?_, va_AOA_of hO50, va_AOA_of hO51⟩, hR, hS, va_Zof (hts _ (lw_mem 251 (by decide +kernel))) (hts _ (gw_lw (gw_at 209 (by decide +kernel) rfl))) (va_eqi (hs _ (by decide +kernel))) hA, va_Zqof (hts _ (lw_mem 267 (by decide +kernel))) (hts _ (gw_lw (gw_at 211 (by decide +kernel) rfl))) (hs _ (by decide +kernel)) hA⟩
  · match k, hq with
    | 0, hq => cases hq; exact hK0
    | 1, hq => cases hq; exact hK1
    | 2, hq => cases hq; exact hK2
    | 3, hq => cases hq; exact hK3
    | 4, hq => cases hq; exact hK4
    | 5, hq => cases hq; exact hK5
    | 6, hq => cases hq; exact hK6
    | 7, hq => cases hq; exact hK7
    | 8, hq => cases hq; exact hK8
    | 9, hq => cases hq; exact hK9
    | 10, hq => cases hq; exact hK10
    | 11, hq => cases hq; exact hK11
    | 12, hq => cases hq; exact hK12
    | k + 13, hq => simp [vwCl] at hq
  · unfold kT at ht
    split at ht <;> first | (cases ht; first | exact ⟨hA20, hB20⟩ | exact ⟨hA21, hB21⟩ | exact ⟨hA22, hB22⟩ | exact ⟨hA30, hB30⟩ | exact ⟨hA31, hB31⟩ | exact ⟨hA34, hB34⟩ | exact ⟨hA38, hB38⟩ | exact ⟨hA39, hB39⟩ | exact ⟨hA50, hB50⟩ | exact ⟨hA51, hB51⟩) | cases ht
  · have hn := nw_nest hw
    have hb := hts w (List.mem_filter.mp hw).1
    cases w with
    | fieldLinkNest a i b n d x => exact va_Nw.of rfl hb
    | methodLinkNest a i x y => exact va_Nw.of rfl hb
    | _ => cases hn
  · unfold kT at hC
    split at hC <;> first | (cases hC; first | exact va_AO.of hO30 | exact va_AO.of hO31 | exact va_AO.of hO34 | exact va_AO.of hO38 | exact va_AO.of hO39) | cases hC
theorem frames_law : b_L_law.1 ≤ 2048 ∧ 64 * b_L_law.1 ≤ 84000 := by decide
/-! THE CLAIM OUT OF ONE WALK OF THE LAW'S BODY. Your part is whole_start (and what it stands on); all else here is the same for every law, but numbers. -/
def R_law : String := "RoofGaleLaw"
def lw_P (b : Addr) (xs : List Int32) (args : Array Value) (s : State) : Prop := args = #[.ref b] ∧ s.IntsAt b xs ∧ xs.length ≤ 3072 ∧ (Jvm.Cond.and given_1 narrow_1).before args s = true
def lw_Q (_ : Array Value) (s : State) (o : Outcome) (t : State) : Prop := o = .returned (some (.int 1)) ∧ Framed s o t [] 600000 7302249
def lw_Z (below : List Frame) (a : Array Value) (s : State) : State → Prop := fun t => ∃ o, t.status = .running ∧ Ended t below o ∧ lw_Q a s o t
/-- the law's own end, with 1 on the stack, nothing written that was there before, its room as the claim has it -/
theorem lw_ret {p : Program} {l : Launch} {e : Env} {s : State} {m : MethodId} {below : List Frame} {meth : Method} {c : Code} {b : Nat} (hx : p.tables.exec = Jvm.exec) (hb : c.code = code) (hr : meth.sig.returnType = ret) (hlocks : meth.locks = false) {pc : Nat} {H : Heap} {ls : Array Slot} (hdg : decode code pc = .ok (.ireturn, 1)) : W p l e room_1 s m #[Value.ref b] below meth c H [] 600000 7302249 (lw_Z below #[Value.ref b] s) (F0 m pc ls [.int 1]) := by
  intro T hT X
  obtain ⟨fs, hret, hrun, hended, hW, hframe⟩ := X.leave (v := some (.int 1)) (hlocks := hlocks) (fun h => by rw [hr] at h; cases h)
  have hmeth' : T.vm.method? m = some meth := X.method'
  refine ⟨T.setFrames fs, ?_, .returned (some (.int 1)), hrun, hended, rfl, ⟨_, rfl⟩, hW, hframe⟩
  jvm_step X.here [X.here.top, hx, hb, hdg, hmeth', hr, ret, narrow_b1]
  (try refine ⟨rfl, ?_⟩); (try refine ⟨rfl, ?_⟩)
  first | (intro acts; rw [hret _ acts rfl rfl rfl]) | rw [hret _ _ rfl rfl rfl]
  exact Steps.refl _
/-- what holds at the law's entry: the machine, the code, the tables' words (any of lw_tbl by 'hts w (by decide +kernel)'), the script of L ints xs at the cell b, what the Statement gives of the start (any of its parts by flat_of_before) -/
def lw_At (p : Program) (s : State) (m : MethodId) (meth : Method) (c : Code) (b L : Nat) (xs : Nat → Int32) : Prop :=
  p.tables.exec = Jvm.exec ∧ c.code = code ∧ meth.sig.returnType = ret ∧ c.maxLocals = 4 ∧ s.vm.findClass R_law = some m.cls ∧ (∀ w ∈ lw_tbl, w.before #[Value.ref b] s = true) ∧ va_X b L xs s s.heap ∧ b < s.heap.size ∧ meth.locks = false ∧ (Jvm.Cond.and given_1 narrow_1).before #[Value.ref b] s = true

set_option maxHeartbeats 4000000 in
set_option maxRecDepth 100000 in
/-- the law, from its entry, out of the pure claim -/
theorem start_of (hp : ∀ (L : Nat) (xs : Nat → Int32), L ≤ 3072 → ∃ M' : Mm, f_L_law L xs M00 = some (1, M')) {p : Program} {e : Env} {s : State} {m : MethodId} {below : List Frame} {meth : Method} {c : Code} (l : Launch) {b L : Nat} {xs : Nat → Int32} (hL : L ≤ 3072) (C0 : lw_At p s m meth c b L xs) : W p l e room_1 s m #[Value.ref b] below meth c s.heap [] 0 0 (lw_Z below #[Value.ref b] s) (entryFrame m ([Value.ref b] : List Value).toArray 4) := by
  obtain ⟨hx, hb, hr, hml, hown, hts, hX, hbl, hlocks, hgv⟩ := id C0
  obtain ⟨G, hG, hK⟩ := kok_start hts hgv
  obtain ⟨M', hM⟩ := hp L xs hL
  have hS : va_S (fun q : Nat => G.1 ≤ q) s.heap s.heap [] := va_S.rf
  have hent := lv_entry ([.ref b] : List Value) (n := 4) (Nat.le_of_ble_eq_true rfl)
  rw [lg_entry_eq]
  have F : FX G (p, l, e, room_1, s, m, #[Value.ref b], below, meth, c, lw_Z below #[Value.ref b] s) j_L_law b_L_law := ⟨hx, hb, hml, hown, fun w hw => hts w (gw_lw hw), hK, by rw [hG]; exact Nat.le_refl _, ⟨frames_law.1, frames_law.2, Nat.le_refl _, Nat.le_refl _⟩, fun h => absurd h (by decide)⟩
  have hXX : hXs G (p, l, e, room_1, s, m, #[Value.ref b], below, meth, c, lw_Z below #[Value.ref b] s) b L xs := by
    intro p2 l2 e2 R2 s2 m2 args2 below2 meth2 c2 Q2 hq
    cases hq
    exact ⟨hX, hbl, by rw [hG]; exact hbl⟩
  refine t_L_law_e (ans := (1, M')) hXX ?_ hM F s.heap [] _ (rel_00 G s.heap hG.symm) hS hent
  intro pc ls u w hd hu hw F2 H locs la hR2 hS2 hl2
  refine va_forget (fun q hq => by have := hS2.2.2 q hq; rw [hG] at this; exact this) ?_
  refine W.widen (k := 600000) (n := 7302249) hu hw ?_
  exact lw_ret hx hb hr hlocks hd

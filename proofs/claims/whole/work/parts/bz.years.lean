/-! YEARS: the two calls -/
def ryN (M : Mm) (a z : Nat) : Mm := sR (sR (sR (sR (nw (nw M 10 5) 21 3) (mT M) 3 (some (mT M + 1))) (mT M) 0 (some 1)) (mT M) 1 (some a)) (mT M) 2 (some z)
def cYrR (M : Mm) (z : Nat) (y : Option (Int32 × Mm)) (o : Sum (Nat × Nat) (Nat × Nat × (Nat → Nat → Int32))) : Prop := match o with
  | .inl e => ∃ N, y = some (0, N) ∧ tFr M N z 6 ∧ mI N 1 12 = nI e.1 ∧ mI N 1 13 = nI e.2
  | .inr (k, r, R) => ∃ N, y = some (1, N) ∧ tFr M N z 6 ∧ mI N 1 12 = 0 ∧ mI N 1 13 = -1 ∧ k ≤ 30 ∧ r ≤ 60 ∧ mI N z 0 = 1 ∧ mI N z 1 = nI k ∧ mI N z 2 = nI r ∧ ∀ j, 1 ≤ j → j ≤ 5 → mI N (z + j) = R j
section C
variable {M N : Mm} {a b y z n t q hc gc wc : Nat} {cd : Nat → Nat} {nm : Nat → List Nat}
theorem tFr_y (hT : 221 ≤ mT M) (hq : 221 ≤ q) (F : yFr M N z q) : tFr M N z 6 := ⟨upF.rf F.1 F.2.1, by rw [F.2.1], by rw [F.2.2.1]; exact hT, fun x hx h1 h => F.2.2.2.1 x h1 (by omega) (by omega) h⟩
theorem ryN_f (H : LL M a b y z) : tFr M (ryN M a z) z 6 ∧ yRd (ryN M a z) (mT M) z a ∧ mI (ryN M a z) (mT M) 4 = 0 := by
  have hT := H.2.2.2
  have hz := ll_y H
  have T0 := tFr_nw H 10 5 z 6
  have L0 : LL (nw M 10 5) a b y z := T0.LL H
  have T1 := tFr_nw L0 21 3 z 6
  have T2 : tFr (nw (nw M 10 5) 21 3) (sR (nw (nw M 10 5) 21 3) (mT M) 3 (some (mT M + 1))) z 6 := tFr_sR T1.2.2.1 hT 3 _
  have T3 : tFr (sR (nw (nw M 10 5) 21 3) (mT M) 3 (some (mT M + 1))) (sR (sR (nw (nw M 10 5) 21 3) (mT M) 3 (some (mT M + 1))) (mT M) 0 (some 1)) z 6 := tFr_sR T2.2.2.1 hT 0 _
  have T4 : tFr (sR (sR (nw (nw M 10 5) 21 3) (mT M) 3 (some (mT M + 1))) (mT M) 0 (some 1)) (sR (sR (sR (nw (nw M 10 5) 21 3) (mT M) 3 (some (mT M + 1))) (mT M) 0 (some 1)) (mT M) 1 (some a)) z 6 := tFr_sR T3.2.2.1 hT 1 _
  have T5 : tFr (sR (sR (sR (nw (nw M 10 5) 21 3) (mT M) 3 (some (mT M + 1))) (mT M) 0 (some 1)) (mT M) 1 (some a)) (ryN M a z) z 6 := tFr_sR T4.2.2.1 hT 2 _
  have T : tFr M (ryN M a z) z 6 := ((((T0.tr T1).tr T2).tr T3).tr T4).tr T5
  have e1 : ¬ mT M = mT M + 1 := by omega
  refine ⟨T, ⟨?_, ?_, ?_, ?_, ?_, ?_, ll_yz (T.LL H)⟩, ?_⟩
  · show (if mT M = mT M + 1 then (21, 3) else if mT M = mT M then (10, 5) else mK M (mT M)) = ((10, 5) : Nat × Nat)
    rw [if_neg e1, if_pos rfl]
  · unfold ryN
    rw [mR_sR_f (by decide), mR_sR_f (by decide), mR_sR_s]
  · unfold ryN
    rw [mR_sR_f (by decide), mR_sR_s]
  · unfold ryN
    rw [mR_sR_s]
  · unfold ryN
    rw [mR_sR_f (by decide), mR_sR_f (by decide), mR_sR_f (by decide), mR_sR_s]
  · show (if mT M + 1 = mT M + 1 then (21, 3) else if mT M + 1 = mT M then (10, 5) else mK M (mT M + 1)) = ((21, 3) : Nat × Nat)
    rw [if_pos rfl]
  · show (if mT M = mT M + 1 then 0 else if mT M = mT M then 0 else mI M (mT M) 4) = (0 : Int32)
    rw [if_neg e1, if_pos rfl]
theorem c_yNew (H : LL M a b y z) (K : Int32 → Mm → Option (Int32 × Mm)) (x : Int32) : (nwc M 10 5 fun q28 M28 => gfR M28 (some 0) 11 5 fun v33 => gfR M28 (some 0) 11 7 fun v37 => gfR M28 (some 0) 11 10 fun v41 => nz q28 <| bv (f_X10_init M28 q28 v33 v37 v41) fun M44 => ck M44 q28 10 <| bd (f_X10_readAll M44 q28 x) K) = bd (f_X10_readAll (ryN M a z) (some (mT M)) x) K := by
  have H1 : LL (nw M 10 5) a b y z := (tFr_nw H 10 5 0 0).LL H
  have e1 : ¬ mT M = mT M + 1 := by omega
  have k1 : ∀ X : Mm, mK X = mK (nw (nw M 10 5) 21 3) → (mK X (mT M)).1 = 10 := fun X h => by
    rw [h]
    show ((if mT M = mT M + 1 then (21, 3) else if mT M = mT M then (10, 5) else mK M (mT M)) : Nat × Nat).1 = 10
    rw [if_neg e1, if_pos rfl]
  show (gfR (nw M 10 5) (some 0) 11 5 fun v33 => gfR (nw M 10 5) (some 0) 11 7 fun v37 => gfR (nw M 10 5) (some 0) 11 10 fun v41 => nz (some (mT M)) <| bv (f_X10_init (nw M 10 5) (some (mT M)) v33 v37 v41) fun M44 => ck M44 (some (mT M)) 10 <| bd (f_X10_readAll M44 (some (mT M)) x) K) = _
  rw [c_tp H1, c_sh H1, c_dy H1, nz_s]
  have e : f_X10_init (nw M 10 5) (some (mT M)) (some 1) (some a) (some z) = some (ryN M a z) := by
    unfold f_X10_init nwa
    rw [nz_s, if_neg (by decide)]
    show pfR (nw (nw M 10 5) 21 3) (some (mT M)) 10 3 (some (mT M + 1)) _ = _
    rw [pfR_s (k1 _ rfl), pfR_s (M := sR (nw (nw M 10 5) 21 3) (mT M) 3 (some (mT M + 1))) (k1 _ rfl), pfR_s (M := sR (sR (nw (nw M 10 5) 21 3) (mT M) 3 (some (mT M + 1))) (mT M) 0 (some 1)) (k1 _ rfl), pfR_s (M := sR (sR (sR (nw (nw M 10 5) 21 3) (mT M) 3 (some (mT M + 1))) (mT M) 0 (some 1)) (mT M) 1 (some a)) (k1 _ rfl)]
    rfl
  rw [e, bv_s, ck_s (M := ryN M a z) (k1 _ rfl)]
theorem c_yRun (H : LL M a b y z) (hq : 221 ≤ q) (Y : yRd M q z a) (h4 : mI M q 4 = 0) (hn : n ≤ 300) (hb : ∀ k, k < n → mI M 2 k = bV (cd k) ∧ cd k < 256) (hw : ∀ w, w < 30 → mL M 3 w = wrd w) (B : cNB M a nm hc gc wc) : cYrR M z (f_X10_readAll M (some q) (nI n)) (rdY cd n nm hc gc fu 0 0 0 (fun _ => 0) (fun j => mI M (z + j)) (tkS cd n 0)) := by
  have hT := H.2.2.2
  have ha := ll_a H
  have hz := ll_y H
  obtain ⟨y1, y2, y3, y4, y5, y6, y7⟩ := yrC_f M z
  have H1 : LL (yrC M z) a b y z := LL_same H y1 y2 y3
  have Y1 : yRd (yrC M z) q z a := Y.same y1 y2
  have B1 : cNB (yrC M z) a nm hc gc wc := cNB_same B y1 y2 (y5 a (by omega)) (fun k _ => by rw [y4]) (fun k _ => by rw [y4]) (fun k _ => by rw [y4])
  have f1 := c_yclr Y.2.2.2.2.2.2
  obtain ⟨N2, f2, o1, o2, o3, o4, -, o5, o6, C2⟩ := c_open (M := yrC M z) (cd := cd) (n := n) H1.1.2.2.1.1 H1.1.2.2.1.2.1 H1.1.2.2.1.2.2.1 H1.1.2.2.1.2.2.2.1 H1.1.2.2.1.2.2.2.2 (by omega) (fun k hk => by rw [y5 2 (by omega)]; exact hb k hk) (fun w hw2 => by rw [y4]; exact hw w hw2)
  have Y2 : yRd N2 q z a := Y1.same o1 o2
  have h8 := B.2.1.2
  have g4 := B.2.2.1.2
  have w6 := B.2.2.2.1.2
  have B2 : cNB N2 a nm hc gc wc := cNB_same B1 o1 o2 (o4 a (by omega)).1 (fun k _ => by rw [(o4 (a + 13 + k) (by omega)).2]) (fun k _ => by rw [(o4 (a + 21 + k) (by omega)).2]) (fun k _ => by rw [(o4 (a + 25 + k) (by omega)).2])
  have S2 : yC N2 q z 0 0 0 (fun _ => 0) (fun j => mI M (z + j)) := ⟨by rw [(o4 q (by omega)).1, y5 q (by omega), h4]; rfl, fun j hj => by omega, by rw [(o4 z (by omega)).1, y6 1 (by omega)]; rfl, by rw [(o4 z (by omega)).1, y6 2 (by omega)]; rfl, fun j h1 h2 => by rw [(o4 (z + j) (by omega)).1, y5 (z + j) (by omega)]⟩
  have r := c_yAll (by omega) (by omega) (by omega) hn fu 0 (tkS cd n 0) 0 0 0 (fun _ => 0) (fun j => mI M (z + j)) N2 (by omega) (by unfold fu; omega) C2 Y2 B2 S2 ⟨by omega, by omega, by omega, fun j hj => by omega⟩
  have T1 : tFr M (yrC M z) z 6 := ⟨upF.rf y1 y2, by rw [y2], by rw [y3]; exact hT, fun x hx h1 h => ⟨y5 x (by omega), by rw [y4]⟩⟩
  have T2 : tFr M N2 z 6 := T1.tr (tFr_1 T1.2.2.1 o1 o2 o3 o4)
  have hT2 := T2.2.2.1
  have e : f_X10_readAll M (some q) (nI n) = zc (f_X10_readAll_17 fu N2 (some q) (nI 0)) := by
    unfold f_X10_readAll g_X10_readAll
    rw [y_2 Y, ck_s (by rw [Y.2.2.2.2.2.2.1]), f1, bv_s, y_0 Y1, ck_s (by rw [H1.1.2.2.1.1]), f2, bv_s]
    rfl
  rw [e]
  rcases hr : rdY cd n nm hc gc fu 0 0 0 (fun _ => 0) (fun j => mI M (z + j)) (tkS cd n 0) with e | ⟨k, r', R⟩
  · rw [hr] at r
    obtain ⟨N3, r1, r2, r3⟩ := r
    exact ⟨N3, by rw [r1, zc0], T2.tr (tFr_y hT2 hq r2), r3⟩
  · rw [hr] at r
    obtain ⟨N3, r1, r2, r3, r4⟩ := r
    exact ⟨N3, by rw [r1, zc1], T2.tr (tFr_y hT2 hq r2), by rw [r3 12 (by omega)]; exact o5, by rw [r3 13 (by omega)]; exact o6, r4⟩
/-- the years that were read come in -/
def yrI (N : Mm) (y z : Nat) : Mm := sI (sR (sR (eT N) 0 9 (some z)) 0 10 (some y)) 0 0 0
theorem yrI_f (H : LL N a b y z) : LL (yrI N y z) a b z y ∧ upF N (yrI N y z) ∧ mL (yrI N y z) = mL N ∧ (∀ x, x ≠ 0 → x ≠ 1 → mI (yrI N y z) x = mI N x) ∧ mI (yrI N y z) 1 1 = 0 ∧ (∀ k, k ≠ 0 → k ≠ 3 → k ≠ 4 → mI (yrI N y z) 0 k = mI N 0 k) ∧ mI (yrI N y z) 0 0 = 0 ∧ mI (yrI N y z) 0 3 = mI N 1 12 ∧ mI (yrI N y z) 0 4 = mI N 1 13 := by
  obtain ⟨e1, e2, e3, e4, e5, e6, e7, e8, e9⟩ := eT_f N
  have y1 : mK (sR (sR (eT N) 0 9 (some z)) 0 10 (some y)) = mK N := by rw [mK_sR, mK_sR, e1]
  have y2 : mR (sR (sR (eT N) 0 9 (some z)) 0 10 (some y)) = mR (sR (sR (eT N) 0 9 (some z)) 0 10 (some y)) := rfl
  have y3 : mT (sR (sR (eT N) 0 9 (some z)) 0 10 (some y)) = mT N := by rw [mT_sR, mT_sR, e3]
  have y4 : mL (sR (sR (eT N) 0 9 (some z)) 0 10 (some y)) = mL N := by rw [mL_sR, mL_sR, e4]
  have y5 : mI (sR (sR (eT N) 0 9 (some z)) 0 10 (some y)) = mI (eT N) := by rw [mI_sR, mI_sR]
  have f0' : ∀ k, k ≠ 9 → k ≠ 10 → mR (sR (sR (eT N) 0 9 (some z)) 0 10 (some y)) 0 k = mR N 0 k := fun k h7 h8 => by rw [mR_sR_f h8, mR_sR_f h7, e2]
  have fo' : ∀ x, x ≠ 0 → mR (sR (sR (eT N) 0 9 (some z)) 0 10 (some y)) x = mR N x := fun x hx => by rw [mR_sR_o hx, mR_sR_o hx, e2]
  have f9 : mR (sR (sR (eT N) 0 9 (some z)) 0 10 (some y)) 0 9 = some z := by rw [mR_sR_f (by decide), mR_sR_s]
  have f10 : mR (sR (sR (eT N) 0 9 (some z)) 0 10 (some y)) 0 10 = some y := mR_sR_s _ _ _ _
  unfold yrI
  generalize sR (sR (eT N) 0 9 (some z)) 0 10 (some y) = X at *
  have U : upF N (sI X 0 0 0) := ⟨fun x _ => by rw [mK_sI, y1], fun x _ hx => by rw [mR_sI, fo' x hx]⟩
  have f0 : ∀ k, k ≠ 9 → k ≠ 10 → mR (sI X 0 0 0) 0 k = mR N 0 k := fun k h7 h8 => by rw [mR_sI, f0' k h7 h8]
  have s0 : ∀ k, k ≠ 0 → mI (sI X 0 0 0) 0 k = mI (eT N) 0 k := fun k hk => by rw [mI_f hk, y5]
  have so : ∀ x, x ≠ 0 → mI (sI X 0 0 0) x = mI (eT N) x := fun x hx => by rw [mI_o hx, y5]
  refine ⟨LL_of H U (fun k hk => f0 k (by omega) (by omega)) ⟨?_, ?_, ?_, ?_, H.2.1.2.2.2.2.1, ?_⟩ ?_, U, ?_, fun x h0 h1 => by rw [so x h0, e5 x h0 h1], by rw [so 1 (by decide)]; exact e6, fun k k0 k3 k4 => by rw [s0 k k0, e7 k k3 k4], mI_sI_s _ _ _ _, by rw [s0 3 (by decide)]; exact e8, by rw [s0 4 (by decide)]; exact e9⟩
  · rw [f0 7 (by decide) (by decide)]; exact H.2.1.1
  · rw [f0 8 (by decide) (by decide)]; exact H.2.1.2.1
  · rw [mR_sI, f9]
  · rw [mR_sI, f10]
  · rcases H.2.1.2.2.2.2.2 with h | h
    · exact Or.inr ⟨h.2, h.1⟩
    · exact Or.inl ⟨h.2, h.1⟩
  · rw [mT_sI, y3]
    exact H.2.2.2
  · rw [mL_sI, y4]
theorem c_yIn (H : LL N a b y z) : (gfR (eT N) (some 0) 11 9 fun v65 => gfR (eT N) (some 0) 11 10 fun v71 => pfR (eT N) (some 0) 11 9 v71 fun M74 => pfR M74 (some 0) 11 10 v65 fun M79 => gfR M79 (some 0) 11 9 fun v84 => gfI M79 v84 9 1 fun v87 => ck M79 (some 0) 11 <| bd (f_X11_answer M79 (some 0) v87) fun v90 M90 => some (v90, M90)) = some (mI N z 1, yrI N y z) := by
  have hy := ll_y H
  obtain ⟨e1, e2, e3, e4, e5, e6, e7, e8, e9⟩ := eT_f N
  have HE : LL (eT N) a b y z := LL_same H e1 e2 e3
  have kE : ∀ X : Mm, mK X = mK (eT N) → (mK X 0).1 = 11 := fun X h => by rw [h, HE.1.1.1]
  have k9 : (mK (sR (sR (eT N) 0 9 (some z)) 0 10 (some y)) z).1 = 9 := by
    show (mK (eT N) z).1 = 9
    rw [(ll_yz HE).1]
  have r9 : mR (sR (sR (eT N) 0 9 (some z)) 0 10 (some y)) 0 9 = some z := by rw [mR_sR_f (by decide), mR_sR_s]
  have eb : mI (sR (sR (eT N) 0 9 (some z)) 0 10 (some y)) z 1 = mI N z 1 := by
    show mI (eT N) z 1 = _
    rw [e5 z (by omega) (by omega)]
  rw [c_yr HE, c_dy HE, pfR_s (kE _ rfl), pfR_s (M := sR (eT N) 0 9 (some z)) (kE _ rfl), gfR_s (M := sR (sR (eT N) 0 9 (some z)) 0 10 (some y)) (kE _ rfl), r9, gfI_s k9, eb, ck_s (M := sR (sR (eT N) 0 9 (some z)) 0 10 (some y)) (kE _ rfl)]
  unfold f_X11_answer yrI
  rw [pfI_s (M := sR (sR (eT N) 0 9 (some z)) 0 10 (some y)) (kE _ rfl), bd_s]
/-- the names of the shore that is there -/
theorem nm_of {c : Nat → Int32} (L : shL M a) (S : mI M a 3 = c 0 ∧ mI M a 4 = c 1 ∧ mI M a 5 = c 2) (O : okC c) (h : rNm M a 0 c) (e : ∀ k, k < 3 → mI M 212 k = c k) : ∃ nm, cNB M a nm (hN c) (gN c) (wN c) ∧ qNB M 0 nm (hN c) (gN c) (wN c) := by
  obtain ⟨-, h1, h2, h3⟩ := h
  obtain ⟨eh, h8⟩ := ok_h O
  obtain ⟨eg, g4⟩ := ok_g O
  obtain ⟨ew, w6⟩ := ok_w O
  have x1 : ∀ i, ∃ ws, i < hN c → okN ws ∧ mL M (a + 13 + i) 0 = lN (n27 ws) ∧ mL M 214 (18 * 0 + i) = lN (n32 ws) := fun i => by
    by_cases q : i < hN c
    · obtain ⟨ws, y⟩ := h1 i q
      exact ⟨ws, fun _ => y⟩
    · exact ⟨[], fun y => absurd y q⟩
  have x2 : ∀ i, ∃ ws, i < gN c → okN ws ∧ mL M (a + 21 + i) 0 = lN (n27 ws) ∧ mL M 214 (18 * 0 + 8 + i) = lN (n32 ws) := fun i => by
    by_cases q : i < gN c
    · obtain ⟨ws, y⟩ := h2 i q
      exact ⟨ws, fun _ => y⟩
    · exact ⟨[], fun y => absurd y q⟩
  have x3 : ∀ i, ∃ ws, i < wN c → okN ws ∧ mL M (a + 25 + i) 0 = lN (n27 ws) ∧ mL M 214 (18 * 0 + 12 + i) = lN (n32 ws) := fun i => by
    by_cases q : i < wN c
    · obtain ⟨ws, y⟩ := h3 i q
      exact ⟨ws, fun _ => y⟩
    · exact ⟨[], fun y => absurd y q⟩
  have y1 := fun i => Classical.choose_spec (x1 i)
  have y2 := fun i => Classical.choose_spec (x2 i)
  have y3 := fun i => Classical.choose_spec (x3 i)
  refine ⟨fun j => if j < 8 then Classical.choose (x1 j) else if j < 12 then Classical.choose (x2 (j - 8)) else Classical.choose (x3 (j - 12)), ⟨L, ⟨S.1.trans eh, h8⟩, ⟨S.2.1.trans eg, g4⟩, ⟨S.2.2.trans ew, w6⟩, fun k hk => ?_, fun k hk => ?_, fun k hk => ?_⟩, ⟨by omega, ⟨(e 0 (by omega)).trans eh, h8⟩, ⟨(e 1 (by omega)).trans eg, g4⟩, ⟨(e 2 (by omega)).trans ew, w6⟩, fun k hk => ?_, fun k hk => ?_, fun k hk => ?_⟩⟩
  · dsimp only
    rw [if_pos (by omega)]
    exact ⟨(y1 k hk).1, (y1 k hk).2.1⟩
  · dsimp only
    rw [if_neg (by omega), if_pos (by omega), show 8 + k - 8 = k by omega]
    exact ⟨(y2 k hk).1, (y2 k hk).2.1⟩
  · dsimp only
    rw [if_neg (by omega), if_neg (by omega), show 12 + k - 12 = k by omega]
    exact ⟨(y3 k hk).1, (y3 k hk).2.1⟩
  · dsimp only
    rw [if_pos (by omega)]
    exact ⟨(y1 k hk).1, (y1 k hk).2.2⟩
  · dsimp only
    rw [if_neg (by omega), if_pos (by omega), show 8 + k - 8 = k by omega]
    exact ⟨(y2 k hk).1, (y2 k hk).2.2⟩
  · dsimp only
    rw [if_neg (by omega), if_neg (by omega), show 12 + k - 12 = k by omega]
    exact ⟨(y3 k hk).1, (y3 k hk).2.2⟩
end C
section S
variable {M N N3 : Mm} {a b y z t : Nat} {e : Nat × Nat}
/-- a text that is not that of years -/
theorem yr_bad (H : RA M a b y z) (T : tFr M N z 6) (G : qYz (sI (eT N) 0 0 10) N3) (e1 : mI N 1 12 = nI e.1) (e2 : mI N 1 13 = nI e.2) : RA (sI (flt N3 (nI e.1) (nI e.2)) 207 0 10) a b y z := by
  have hL := H.1
  have ha := ll_a hL
  have hb := ll_b hL
  have hy := ll_y hL
  have O := H.2.1.2.2
  obtain ⟨t1, t2, t3, t4, t5, t6, t7, t8, t9⟩ := eT_f N
  obtain ⟨g1, g2, g3, g4, g5, g6, g9, g10, g11, g12⟩ := G
  obtain ⟨f1, f2, f3, f4, f5, f6, f7, f8⟩ := flt_f N3 (nI e.1) (nI e.2)
  generalize flt N3 (nI e.1) (nI e.2) = P at f1 f2 f3 f4 f5 f6 f7 f8 ⊢
  have LN : LL N a b y z := T.LL hL
  have LF : LL (sI P 207 0 10) a b y z := LL_same LN (f1.trans (g1.trans t1)) (f2.trans (g2.trans t2)) (f3.trans (g3.trans t3))
  have c12 : ∀ k, k < 1800 → mI (sI P 207 0 10) 212 k = mI M 212 k := fun k hk => by rw [mI_o (by decide), f5 212 (by decide), g6 k hk, mI_o (by decide), t5 212 (by decide) (by decide), (T.2.2.2 212 (by omega) (by omega) (by omega)).1]
  have i0 : ∀ k, k ≠ 0 → mI (sI P 207 0 10) 0 k = mI (eT N) 0 k := fun k hk => by rw [mI_o (by decide), f5 0 (by decide), g4 0 (by decide) (by decide), mI_f hk]
  have l7 : ∀ k, k ≠ 19 → mL (sI P 207 0 10) 207 k = mL M 207 k := fun k hk => by
    show mL P 207 k = _
    rw [f4, g10 k hk]
    show mL (eT N) 207 k = _
    rw [t4, (T.2.2.2 207 (by omega) (by omega) (by omega)).2]
  have IM : ∀ x, x < 221 → x ≠ 0 → x ≠ 1 → x ≠ 207 → x ≠ 212 → (x < z ∨ z + 6 ≤ x) → mI (sI P 207 0 10) x = mI M x := fun x h h0 h1 h7 h2 h5 => by rw [mI_o h7, f5 x h7, g4 x h7 h2, mI_o h0, t5 x h0 h1, (T.2.2.2 x h h1 h5).1]
  have LM : ∀ x, x < 221 → x ≠ 1 → x ≠ 207 → (x < z ∨ z + 6 ≤ x) → mL (sI P 207 0 10) x = mL M x := fun x h h1 h7 h5 => by
    show mL P x = _
    rw [f4, g5 x h7]
    show mL (eT N) x = _
    rw [t4, (T.2.2.2 x h h1 h5).2]
  have h8 := (ok_h O).2
  have g4' := (ok_g O).2
  have w6 := (ok_w O).2
  refine RA_tx H LF (fun x hx => IM x (by omega) (by omega) (by omega) (by omega) (by omega) (by omega)) (fun x hx => LM x (by omega) (by omega) (by omega) (by omega)) ⟨l7 2 (by decide), l7 3 (by decide)⟩ (fun k k0 k3 k4 => by rw [i0 k k0, t7 k k3 k4, (T.2.2.2 0 (by omega) (by omega) (by omega)).1]) (fun k hk => by rw [mI_f (by omega), f6 k (by omega) (by omega), g9 k (by omega), mI_o (by decide), t5 207 (by decide) (by decide), (T.2.2.2 207 (by omega) (by omega) (by omega)).1]) ?_ ⟨?_, ?_⟩ ?_ ?_ (fun k _ hk => c12 k hk) (fun k _ hk => by rw [LM 214 (by omega) (by omega) (by omega) (by omega)]) ?_ ?_ ?_
  · rw [mI_sI_s, mI_o (by decide), f5 0 (by decide), g4 0 (by decide) (by decide), mI_sI_s]
  · rw [i0 3 (by decide), t8, e1, mI_f (by decide), f7]
  · rw [i0 4 (by decide), t9, e2, mI_f (by decide), f8]
  · rw [mI_o (by decide), f5 1 (by decide), g4 1 (by decide) (by decide), mI_o (by decide), t6]
  · rw [mI_f (by decide), f6 8 (by decide) (by decide), g12]
  · exact shO_up H.2.1 (ll_sa LF) (fun x x1 x2 => IM x (by omega) (by omega) (by omega) (by omega) (by omega) (by omega)) fun k hk => c12 k (by omega)
  · exact rNm_move H.2.2.1 O (fun k hk => c12 k (by omega)) (fun i hi => by rw [LM (a + 13 + i) (by omega) (by omega) (by omega) (by omega)]) (fun i hi => by rw [LM (a + 21 + i) (by omega) (by omega) (by omega) (by omega)]) (fun i hi => by rw [LM (a + 25 + i) (by omega) (by omega) (by omega) (by omega)]) fun k hk => by rw [LM 214 (by omega) (by omega) (by omega) (by omega)]
  · exact rYr_move (fun f hf => by rw [IM y (by omega) (by omega) (by omega) (by omega) (by omega) (by omega)]) (fun j j1 j2 k hk => by rw [IM (y + j) (by omega) (by omega) (by omega) (by omega) (by omega) (by omega)]) (c12 0 (by omega)) (c12 1 (by omega)) (fun k k1 k2 => c12 k (by omega)) H.2.2.2.2.2.2.2.2.1
/-- a text of years -/
theorem yr_good {k r : Nat} {R : Nat → Nat → Int32} (H : RA M a b y z) (T : tFr M N z 6) (e1 : mI N 1 12 = 0) (e2 : mI N 1 13 = -1) (hk : k ≤ 30) (hr : r ≤ 60) (z0 : mI N z 0 = 1) (z1 : mI N z 1 = nI k) (z2 : mI N z 2 = nI r) (zj : ∀ j, 1 ≤ j → j ≤ 5 → mI N (z + j) = R j) (G : qYz (yrI N y z) N3) (S : seg (PM R) 0 (cYr N3) (r + 1) 3 0 k 0 r) : RA (yrQ N3 k) a b z y := by
  have hL := H.1
  have ha := ll_a hL
  have hb := ll_b hL
  have hy := ll_y hL
  have O := H.2.1.2.2
  obtain ⟨t1, t2, t3, t4, t5, t6, t7, t8, t9⟩ := yrI_f (T.LL hL)
  obtain ⟨g1, g2, g3, g4, g5, g6, g9, g10, g11, g12⟩ := G
  obtain ⟨f1, f2, f3, f4, f5, f6, f7, f8, f9⟩ := yrQ_f N3 k
  generalize yrQ N3 k = P at f1 f2 f3 f4 f5 f6 f7 f8 f9 ⊢
  generalize yrI N y z = Q at t1 t2 t3 t4 t5 t6 t7 t8 t9 g1 g2 g3 g4 g5 g6 g9 g10
  have LF : LL P a b z y := LL_same t1 (f1.trans g1) (f2.trans g2) (f3.trans g3)
  have I3 : ∀ x, x ≠ 0 → x ≠ 1 → x ≠ 207 → x ≠ 212 → mI P x = mI N x := fun x h0 h1 h7 h2 => by rw [f5 x h7 h2, g4 x h7 h2, t4 x h0 h1]
  have IM : ∀ x, x < 221 → x ≠ 0 → x ≠ 1 → x ≠ 207 → x ≠ 212 → (x < z ∨ z + 6 ≤ x) → mI P x = mI M x := fun x h h0 h1 h7 h2 h5 => by rw [I3 x h0 h1 h7 h2, (T.2.2.2 x h h1 h5).1]
  have LM : ∀ x, x < 221 → x ≠ 1 → x ≠ 207 → (x < z ∨ z + 6 ≤ x) → mL P x = mL M x := fun x h h1 h7 h5 => by rw [f4, g5 x h7, t3, (T.2.2.2 x h h1 h5).2]
  have c3 : ∀ i, i < 1800 → mI N3 212 i = mI M 212 i := fun i hi => by rw [g6 i hi, t4 212 (by decide) (by decide), (T.2.2.2 212 (by omega) (by omega) (by omega)).1]
  have c0 : ∀ i, i < 173 ∨ (450 ≤ i ∧ i < 1800) → mI P 212 i = mI M 212 i := fun i hi => by
    rw [f9]
    unfold yCp
    rw [if_neg (by omega), if_neg (by omega), if_neg (by omega)]
    exact c3 i (by omega)
  have l7 : ∀ k, k ≠ 19 → mL P 207 k = mL M 207 k := fun k hk => by rw [f4, g10 k hk, t3, (T.2.2.2 207 (by omega) (by omega) (by omega)).2]
  have h8 := (ok_h O).2
  have g4' := (ok_g O).2
  have w6 := (ok_w O).2
  refine RA_tx H LF (fun x hx => IM x (by omega) (by omega) (by omega) (by omega) (by omega) (by omega)) (fun x hx => LM x (by omega) (by omega) (by omega) (by omega)) ⟨l7 2 (by decide), l7 3 (by decide)⟩ (fun k k0 k3 k4 => by rw [f5 0 (by decide) (by decide), g4 0 (by decide) (by decide), t6 k k0 k3 k4, (T.2.2.2 0 (by omega) (by omega) (by omega)).1]) (fun k hk => by rw [f6 k (by omega) (by omega), g9 k (by omega), t4 207 (by decide) (by decide), (T.2.2.2 207 (by omega) (by omega) (by omega)).1]) ?_ ⟨?_, ?_⟩ ?_ ?_ (fun k h1 hk => c0 k (by omega)) (fun k _ hk => by rw [LM 214 (by omega) (by omega) (by omega) (by omega)]) ?_ ?_ ⟨?_, Or.inr ⟨?_, k, r, hk, hr, ?_, ?_, ?_, ?_⟩⟩
  · rw [f5 0 (by decide) (by decide), g4 0 (by decide) (by decide), t7, f6 0 (by decide) (by decide), g11]
  · rw [f5 0 (by decide) (by decide), g4 0 (by decide) (by decide), t8, e1, f7]
  · rw [f5 0 (by decide) (by decide), g4 0 (by decide) (by decide), t9, e2, f8]
  · rw [f5 1 (by decide) (by decide), g4 1 (by decide) (by decide), t5]
  · rw [f6 8 (by decide) (by decide), g12]
  · exact shO_up H.2.1 (ll_sa LF) (fun x x1 x2 => IM x (by omega) (by omega) (by omega) (by omega) (by omega) (by omega)) fun k hk => c0 k (by omega)
  · exact rNm_move H.2.2.1 O (fun k hk => c0 k (by omega)) (fun i hi => by rw [LM (a + 13 + i) (by omega) (by omega) (by omega) (by omega)]) (fun i hi => by rw [LM (a + 21 + i) (by omega) (by omega) (by omega) (by omega)]) (fun i hi => by rw [LM (a + 25 + i) (by omega) (by omega) (by omega) (by omega)]) fun k hk => by rw [LM 214 (by omega) (by omega) (by omega) (by omega)]
  · rw [I3 z (by omega) (by omega) (by omega) (by omega), z0, f9]
    rfl
  · rw [f9]
    rfl
  · rw [I3 z (by omega) (by omega) (by omega) (by omega), z1]
  · rw [f9]
    rfl
  · rw [I3 z (by omega) (by omega) (by omega) (by omega), z2]
  · have e0 : ∀ i, i < 173 → mI P 212 i = cYr N3 i := fun i hi => by
      rw [c0 i (by omega), ← c3 i (by omega)]
      unfold cYr
      rw [if_pos hi]
    refine seg_cong (na_same (e0 0 (by omega))) (na_same (e0 1 (by omega))) _ _ _ _ _ _ (fun j j1 j2 x x1 x2 => ?_) (fun i i1 i2 => ?_) (seg_mono _ _ _ _ _ _ _ (show r + 1 ≤ 91 by omega) S)
    · rw [I3 (z + j) (by omega) (by omega) (by omega) (by omega), zj j j1 j2]
      show R j x = R (0 + j) x
      rw [Nat.zero_add]
    · rw [f9]
      unfold yCp cYr
      rw [if_pos (by omega), if_neg (by omega)]
end S
theorem mn_300 {t : Nat} (h : t ≤ 900) : ∃ m, m ≤ 300 ∧ m ≤ t ∧ mnI (nI t) 300 = nI m ∧ (∀ n, n ≤ t → n ≤ 300 → n ≤ m) := by
  by_cases q : 300 < t
  · refine ⟨300, Nat.le_refl _, by omega, ?_, fun n _ h2 => h2⟩
    have hq : (300 : Int32) < nI t := by
      rw [show (300 : Int32) = nI 300 from rfl, nI_ltI' (by omega) (by omega)]
      exact q
    unfold mnI
    rw [if_pos hq]
    rfl
  · refine ⟨t, by omega, Nat.le_refl _, ?_, fun n h1 _ => h1⟩
    have hq : ¬ (300 : Int32) < nI t := by
      rw [show (300 : Int32) = nI 300 from rfl, nI_ltI' (by omega) (by omega)]
      exact q
    unfold mnI
    rw [if_neg hq]
theorem op_years (x : Int32) : opI (fun M => f_X11_years M (some 0) x) (fun M => f_X12_years M (some 207) x) := by
  intro M hR
  dsimp only
  obtain ⟨a, b, y, z, H⟩ := id hR
  have hL := H.1
  have hT := hL.2.2.2
  have ha := ll_a hL
  have hb := ll_b hL
  have hy := ll_y hL
  obtain ⟨t, cd, h9, h1, h8, hb2, hb11, hw⟩ := cd_of H.2.2.2.2.2.2.1
  obtain ⟨m, m3, mt, em, mm⟩ := mn_300 h9
  have k1 : (mK M 1).1 = 6 := by rw [hL.1.2.2.1.1]
  obtain ⟨nm, Bc, Bq⟩ := nm_of (ll_sa hL) ⟨H.2.1.2.1.1.1, H.2.1.2.1.1.2.1, H.2.1.2.1.1.2.2.1⟩ H.2.1.2.2 H.2.2.1 (fun _ _ => rfl)
  have c8 := (ok_h H.2.1.2.2).2
  have c4 := (ok_g H.2.1.2.2).2
  have c6 := (ok_w H.2.1.2.2).2
  by_cases q : 0 ≤ x ∧ x ≤ nI m
  · obtain ⟨n, hn, rfl⟩ := rng (by omega) q
    obtain ⟨Tn, Rn, z4⟩ := ryN_f hL
    have Bn : cNB (ryN M a z) a nm (hN (mI M 212)) (gN (mI M 212)) (wN (mI M 212)) := by
      have B := Bc
      obtain ⟨-, b1, b2, b3, b4, b5, b6⟩ := B
      refine ⟨ll_sa (Tn.LL hL), ?_, ?_, ?_, fun k hk => ?_, fun k hk => ?_, fun k hk => ?_⟩
      · rw [(Tn.2.2.2 a (by omega) (by omega) (by omega)).1]; exact b1
      · rw [(Tn.2.2.2 a (by omega) (by omega) (by omega)).1]; exact b2
      · rw [(Tn.2.2.2 a (by omega) (by omega) (by omega)).1]; exact b3
      · rw [(Tn.2.2.2 (a + 13 + k) (by omega) (by omega) (by omega)).2]; exact b4 k hk
      · rw [(Tn.2.2.2 (a + 21 + k) (by omega) (by omega) (by omega)).2]; exact b5 k hk
      · rw [(Tn.2.2.2 (a + 25 + k) (by omega) (by omega) (by omega)).2]; exact b6 k hk
    have r := c_yRun (Tn.LL hL) hT Rn z4 (n := n) (cd := cd) (by omega) (fun k hk => by rw [(Tn.2.2.2 2 (by omega) (by omega) (by omega)).1]; exact hb2 k (by omega)) (fun w hw2 => by rw [(Tn.2.2.2 3 (by omega) (by omega) (by omega)).2]; exact hw w hw2) Bn
    have nbX : ∀ X : Mm, mI X 212 = mI M 212 → mL X 214 = mL M 214 → qNB X 0 nm (hN (mI M 212)) (gN (mI M 212)) (wN (mI M 212)) := fun X x1 x2 => by
      unfold qNB at *
      rw [x1, x2]
      exact Bq
    rcases hr : rdY cd n nm (hN (mI M 212)) (gN (mI M 212)) fu 0 0 0 (fun _ => 0) (fun j => mI (ryN M a z) (z + j)) (tkS cd n 0) with e | ⟨k, r0, R⟩
    · rw [hr] at r
      obtain ⟨N, r1, r2, r3, r4⟩ := r
      have T := Tn.tr r2
      have LN := T.LL hL
      obtain ⟨t1, t2, t3, t4, t5, t6, t7, t8, t9⟩ := eT_f N
      have LE : LL (eT N) a b y z := LL_same LN t1 t2 t3
      have L1 : LL (sI (eT N) 0 0 10) a b y z := LL_same LE rfl rfl rfl
      have B1 := nbX (sI (eT N) 0 0 10) (by rw [mI_o (by decide), t5 212 (by decide) (by decide), (T.2.2.2 212 (by omega) (by omega) (by omega)).1]) (by
        show mL (eT N) 214 = _
        rw [t4, (T.2.2.2 214 (by omega) (by omega) (by omega)).2])
      have r' := q_yRun (X := sI (eT N) 0 0 10) (cd := cd) (t := t) (n := n) L1.2.2.1 h9 (by rw [mI_o (by decide), t5 207 (by decide) (by decide), (T.2.2.2 207 (by omega) (by omega) (by omega)).1, h8]) (by omega) (by omega) (fun k hk => by rw [mI_o (by decide), t5 211 (by decide) (by decide), (T.2.2.2 211 (by omega) (by omega) (by omega)).1]; exact hb11 k hk) B1 (fun _ => 0) (fun j => mI (ryN M a z) (z + j))
      rw [hr] at r'
      obtain ⟨N3, s1, s2, s3⟩ := r'
      refine ⟨-1, sI (eT N) 0 0 10, sI (flt N3 (nI e.1) (nI e.2)) 207 0 10, ?_, by rw [s1, q_y50b s3], a, b, y, z, yr_bad H T s2 r3 r4⟩
      unfold f_X11_years
      rw [c_tp hL, gfI_s k1, h1, em, q_within, bd_s, if_pos q, if_neg (by decide), c_yNew hL, r1, bd_s, c_ck LN, c_end LN (Or.inl rfl), bd_s, if_pos rfl, c_ck LE, c_none LE, bd_s]
    · rw [hr] at r
      obtain ⟨N, r1, r2, r3, r4, r5, r6, r7, r8, r9, r10⟩ := r
      have T := Tn.tr r2
      have LN := T.LL hL
      obtain ⟨t1, t2, t3, t4, t5, t6, t7, t8, t9⟩ := yrI_f LN
      have B1 := nbX (yrI N y z) (by rw [t4 212 (by decide) (by decide), (T.2.2.2 212 (by omega) (by omega) (by omega)).1]) (by rw [t3, (T.2.2.2 214 (by omega) (by omega) (by omega)).2])
      have r' := q_yRun (X := yrI N y z) (cd := cd) (t := t) (n := n) t1.2.2.1 h9 (by rw [t4 207 (by decide) (by decide), (T.2.2.2 207 (by omega) (by omega) (by omega)).1, h8]) (by omega) (by omega) (fun k hk => by rw [t4 211 (by decide) (by decide), (T.2.2.2 211 (by omega) (by omega) (by omega)).1]; exact hb11 k hk) B1 (fun _ => 0) (fun j => mI (ryN M a z) (z + j))
      rw [hr] at r'
      obtain ⟨N3, s1, s2, s3, s4, s5, s6, s7, s8⟩ := r'
      refine ⟨nI k, yrI N y z, yrQ N3 k, ?_, by rw [s1, q_y50 s3 s4 s5 r5], a, b, z, y, yr_good H T r3 r4 r5 r6 r7 r8 r9 r10 s2 s8⟩
      unfold f_X11_years
      rw [c_tp hL, gfI_s k1, h1, em, q_within, bd_s, if_pos q, if_neg (by decide), c_yNew hL, r1, bd_s, c_ck LN, c_end LN (Or.inr rfl), bd_s, if_neg (by decide), c_yIn LN, r8]
  · refine ⟨-1, sI M 0 0 5, _, ?_, ?_, RR_st hR 5⟩
    · unfold f_X11_years
      rw [c_tp hL, gfI_s k1, h1, em, q_within, bd_s, if_neg q, if_pos rfl, c_ck hL, c_none hL, bd_s]
    · have D : mdL (sI M 0 0 5) := hL.2.2.1
      have D1 : mdL (sI (sI M 0 0 5) 207 1 0) := hL.2.2.1
      have D0 : mdL (sI (sI (sI M 0 0 5) 207 1 0) 207 0 0) := hL.2.2.1
      unfold f_X12_years
      rw [m_pI D, m_pI D1, m_ck D0, q_startsX (X := sI M 0 0 5) D h9 (by rw [mI_o (by decide)]; exact h8) (by
        by_cases p : x < 0
        · exact Or.inl p
        · rw [lt0, Decidable.not_not] at p
          by_cases p2 : nI t < x
          · exact Or.inr (Or.inl p2)
          · refine Or.inr (Or.inr fun p3 => ?_)
            obtain ⟨n, hn, rfl⟩ := rng (n := t) (by omega) ⟨p, Int32.not_lt.mp p2⟩
            refine q ⟨p, ?_⟩
            rw [show (300 : Int32) = nI 300 from rfl, nI_leI' (by omega) (by omega)] at p3
            rw [nI_leI' (by omega) (by omega)]
            exact mm n hn p3), bd_s, if_pos rfl, sI_sI]
      rfl

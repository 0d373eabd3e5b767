/-! SHORE: the class -/
theorem tFr_I {M N : Mm} {b w : Nat} (hT : 221 ≤ mT M) (F : FrI M N b w) : tFr M N b w := ⟨upF.rf F.1 F.2.2.1, by rw [F.2.2.1], by rw [F.2.2.2.1]; exact hT, fun x _ _ h => ⟨F.2.2.2.2 x h, by rw [F.2.1]⟩⟩
theorem tFr_q {M N : Mm} {b q : Nat} (hT : 221 ≤ mT M) (hq : 221 ≤ q) (F : cFq M N b q) : tFr M N b 31 := ⟨upF.rf F.1 F.2.1, by rw [F.2.1], by rw [F.2.2.1]; exact hT, fun x hx h1 h => F.2.2.2.1 x h1 (by omega) h⟩
theorem tFr_1 {M N : Mm} {b w : Nat} (hT : 221 ≤ mT M) (hK : mK N = mK M) (hR : mR N = mR M) (ht : mT N = mT M) (h : ∀ y, y ≠ 1 → mI N y = mI M y ∧ mL N y = mL M y) : tFr M N b w := ⟨upF.rf hK hR, by rw [hR], by rw [ht]; exact hT, fun x _ h1 _ => h x h1⟩
def cShR (M : Mm) (b : Nat) (y : Option (Int32 × Mm)) (o : Sum (Nat × Nat) ((Nat → Int32) × (Nat → List Nat))) : Prop := match o with
  | .inl e => ∃ N, y = some (0, N) ∧ tFr M N b 31 ∧ mI N 1 12 = nI e.1 ∧ mI N 1 13 = nI e.2
  | .inr (c, nm) => ∃ N, y = some (1, N) ∧ tFr M N b 31 ∧ mI N 1 12 = 0 ∧ mI N 1 13 = -1 ∧ dC N b c nm ∧ dOK c
section C
variable {M N : Mm} {a b y z n t q : Nat} {cd : Nat → Nat} {nm : Nat → List Nat}
theorem c_shRun (H : LL M a b y z) (hq : 221 ≤ q) (R : rdS M q b) (hz : mI M q 2 = 0) (hn : n ≤ 900) (hb : ∀ k, k < n → mI M 2 k = bV (cd k) ∧ cd k < 256) (hw : ∀ w, w < 30 → mL M 3 w = wrd w) : cShR M b (f_X5_readAll M (some q) (nI n)) (rdA cd n fu shZ nm false (tkS cd n 0)) := by
  have hT := H.2.2.2
  have hb12 := (ll_b H).1
  obtain ⟨N1, f1, F1, D1⟩ := c_clear (ll_sb H) nm
  have H1 : LL N1 a b y z := LL_same H F1.1 F1.2.2.1 F1.2.2.2.1
  have R1 : rdS N1 q b := by
    unfold rdS at *
    rw [F1.1, F1.2.2.1]
    exact R
  obtain ⟨N2, f2, o1, o2, o3, o4, -, o5, o6, C2⟩ := c_open (M := N1) (cd := cd) (n := n) H1.1.2.2.1.1 H1.1.2.2.1.2.1 H1.1.2.2.1.2.2.1 H1.1.2.2.1.2.2.2.1 H1.1.2.2.1.2.2.2.2 hn (fun k hk => by rw [F1.2.2.2.2 2 (by omega)]; exact hb k hk) (fun w hw2 => by rw [F1.2.1]; exact hw w hw2)
  have R2 : rdS N2 q b := by
    unfold rdS at *
    rw [o1, o2]
    exact R1
  have ok := dOK_0
  have D2 : dC N2 b shZ nm := ⟨shL_same D1.1 o1 o2, shR_same D1.2.1 (fun x x1 _ => (o4 x (by omega)).1) (ok_h ok.1).2 (ok_g ok.1).2 (ok_w ok.1).2, fun i j hi hj => by rw [(o4 (b + 5 + i) (by omega)).1]; exact D1.2.2.1 i j hi hj, cNB_same D1.2.2.2 o1 o2 (o4 b (by omega)).1 (fun k _ => congrFun (o4 (b + 13 + k) (by omega)).2 0) (fun k _ => congrFun (o4 (b + 21 + k) (by omega)).2 0) (fun k _ => congrFun (o4 (b + 25 + k) (by omega)).2 0)⟩
  have z2 : mI N2 q 2 = if false = true then 1 else 0 := by
    rw [(o4 q (by omega)).1, F1.2.2.2.2 q (by omega), if_neg (by decide)]
    exact hz
  have r := c_all (by omega) (by omega) fu 0 (tkS cd n 0) shZ nm false N2 (by omega) (by unfold fu; omega) C2 D2 ok R2 z2
  have T1 : tFr M N1 b 31 := tFr_I hT F1
  have hT1 := T1.2.2.1
  have T2 : tFr M N2 b 31 := T1.tr (tFr_1 hT1 o1 o2 o3 o4)
  have hT2 := T2.2.2.1
  have e : f_X5_readAll M (some q) (nI n) = zc (f_X5_readAll_17 fu N2 (some q) (nI 0)) := by
    unfold f_X5_readAll g_X5_readAll
    rw [rd_1 R, ck_s (by rw [(ll_sb H).1]), f1, bv_s, rd_0 R1, ck_s (by rw [H1.1.2.2.1.1]), f2, bv_s]
    rfl
  rw [e]
  rcases hr : rdA cd n fu shZ nm false (tkS cd n 0) with e | ⟨c, nm'⟩
  · rw [hr] at r
    obtain ⟨N3, r1, r2, r3, r4⟩ := r
    exact ⟨N3, by rw [r1, zc0], T2.tr (tFr_q hT2 hq r2), r3, r4⟩
  · rw [hr] at r
    obtain ⟨N3, r1, r2, r3, r4, r5⟩ := r
    exact ⟨N3, by rw [r1, zc1], T2.tr (tFr_q hT2 hq r2), by rw [r3 12 (by omega)]; exact o5, by rw [r3 13 (by omega)]; exact o6, r4, r5⟩
/-- the reader is made -/
def rdN (M : Mm) (b : Nat) : Mm := sR (sR (nw M 5 3) (mT M) 0 (some 1)) (mT M) 1 (some b)
theorem c_shNew (H : LL M a b y z) (K : Int32 → Mm → Option (Int32 × Mm)) (x : Int32) : (nwc M 5 3 fun q22 M22 => gfR M22 (some 0) 11 5 fun v27 => gfR M22 (some 0) 11 8 fun v31 => nz q22 <| bv (f_X5_init M22 q22 v27 v31) fun M34 => ck M34 q22 5 <| bd (f_X5_readAll M34 q22 x) K) = bd (f_X5_readAll (rdN M b) (some (mT M)) x) K := by
  have H1 : LL (nw M 5 3) a b y z := (tFr_nw H 5 3 0 0).LL H
  have k1 : (mK (nw M 5 3) (mT M)).1 = 5 := by
    show ((if mT M = mT M then (5, 3) else mK M (mT M)) : Nat × Nat).1 = 5
    rw [if_pos rfl]
  show (gfR (nw M 5 3) (some 0) 11 5 fun v27 => gfR (nw M 5 3) (some 0) 11 8 fun v31 => nz (some (mT M)) <| bv (f_X5_init (nw M 5 3) (some (mT M)) v27 v31) fun M34 => ck M34 (some (mT M)) 5 <| bd (f_X5_readAll M34 (some (mT M)) x) K) = _
  rw [c_tp H1, c_dr H1, nz_s]
  unfold f_X5_init
  rw [nz_s, pfR_s k1, pfR_s (M := sR (nw M 5 3) (mT M) 0 (some 1)) k1, bv_s]
  show ck (rdN M b) (some (mT M)) 5 _ = _
  rw [ck_s (M := rdN M b) k1]
  rfl
theorem rdN_f (H : LL M a b y z) : tFr M (rdN M b) b 31 ∧ rdS (rdN M b) (mT M) b ∧ mI (rdN M b) (mT M) 2 = 0 ∧ mI (rdN M b) 1 = mI M 1 ∧ mL (rdN M b) 1 = mL M 1 := by
  have hT := H.2.2.2
  have hq : 221 ≤ mT M := hT
  have T0 := tFr_nw H 5 3 b 31
  have T1 : tFr (nw M 5 3) (sR (nw M 5 3) (mT M) 0 (some 1)) b 31 := tFr_sR T0.2.2.1 hq 0 _
  have T2 : tFr (sR (nw M 5 3) (mT M) 0 (some 1)) (rdN M b) b 31 := tFr_sR T1.2.2.1 hq 1 _
  have e1 : ¬ 1 = mT M := by omega
  refine ⟨(T0.tr T1).tr T2, ⟨?_, ?_, ?_⟩, ?_, funext fun k => if_neg e1, funext fun k => if_neg e1⟩
  · show (if mT M = mT M then (5, 3) else mK M (mT M)) = (5, 3)
    rw [if_pos rfl]
  · unfold rdN
    rw [mR_sR_f (by decide), mR_sR_s]
  · unfold rdN
    rw [mR_sR_s]
  · show (if mT M = mT M then 0 else mI M (mT M) 2) = 0
    rw [if_pos rfl]
/-- years emptied -/
def yrC (M : Mm) (y : Nat) : Mm := sI (sI (sI M y 0 0) y 1 0) y 2 0
theorem c_yclr {y : Nat} (Y : yrL M y) : f_X9_clear M (some y) = some (yrC M y) := by
  have k : ∀ X : Mm, mK X = mK M → (mK X y).1 = 9 := fun X h => by rw [h, Y.1]
  unfold f_X9_clear yrC
  rw [pfZ_s (k M rfl) (Or.inl rfl), pfI_s (k (sI M y 0 0) rfl), pfI_s (k (sI (sI M y 0 0) y 1 0) rfl)]
theorem yrC_f (M : Mm) (y : Nat) : mK (yrC M y) = mK M ∧ mR (yrC M y) = mR M ∧ mT (yrC M y) = mT M ∧ mL (yrC M y) = mL M ∧ (∀ x, x ≠ y → mI (yrC M y) x = mI M x) ∧ (∀ k, k < 3 → mI (yrC M y) y k = 0) ∧ ∀ k, 3 ≤ k → mI (yrC M y) y k = mI M y k := by
  unfold yrC
  refine ⟨rfl, rfl, rfl, rfl, fun x hx => by rw [mI_o hx, mI_o hx, mI_o hx], fun k hk => ?_, fun k hk => by rw [mI_f (by omega), mI_f (by omega), mI_f (by omega)]⟩
  rcases (show k = 0 ∨ k = 1 ∨ k = 2 by omega) with h | h | h <;> subst h
  · rw [mI_f (by decide), mI_f (by decide), mI_sI_s]
  · rw [mI_f (by decide), mI_sI_s]
  · rw [mI_sI_s]
/-- the shore that was read comes in -/
def shI (N : Mm) (a b y : Nat) : Mm := sI (yrC (sR (sR (eT N) 0 7 (some b)) 0 8 (some a)) y) 0 0 0
theorem shI_f {N : Mm} {a b y z : Nat} (H : LL N a b y z) : LL (shI N a b y) b a y z ∧ upF N (shI N a b y) ∧ mL (shI N a b y) = mL N ∧ (∀ x, x ≠ 0 → x ≠ 1 → x ≠ y → mI (shI N a b y) x = mI N x) ∧ mI (shI N a b y) 1 1 = 0 ∧ (∀ k, k ≠ 0 → k ≠ 3 → k ≠ 4 → mI (shI N a b y) 0 k = mI N 0 k) ∧ mI (shI N a b y) 0 0 = 0 ∧ mI (shI N a b y) 0 3 = mI N 1 12 ∧ mI (shI N a b y) 0 4 = mI N 1 13 ∧ mI (shI N a b y) y 0 = 0 := by
  have hy := ll_y H
  obtain ⟨e1, e2, e3, e4, e5, e6, e7, e8, e9⟩ := eT_f N
  obtain ⟨y1, y2, y3, y4, y5, y6, y7⟩ := yrC_f (sR (sR (eT N) 0 7 (some b)) 0 8 (some a)) y
  rw [mK_sR, mK_sR, e1] at y1
  rw [mT_sR, mT_sR, e3] at y3
  rw [mL_sR, mL_sR, e4] at y4
  rw [mI_sR, mI_sR] at y5
  unfold shI
  generalize yrC (sR (sR (eT N) 0 7 (some b)) 0 8 (some a)) y = X at *
  have U : upF N (sI X 0 0 0) := ⟨fun x _ => by rw [mK_sI, y1], fun x _ hx => by rw [mR_sI, y2, mR_sR_o hx, mR_sR_o hx, e2]⟩
  have f0 : ∀ k, k ≠ 7 → k ≠ 8 → mR (sI X 0 0 0) 0 k = mR N 0 k := fun k h7 h8 => by rw [mR_sI, y2, mR_sR_f h8, mR_sR_f h7, e2]
  have s0 : ∀ k, k ≠ 0 → mI (sI X 0 0 0) 0 k = mI (eT N) 0 k := fun k hk => by
    rw [mI_f hk, y5 0 (by omega)]
  have so : ∀ x, x ≠ 0 → x ≠ y → mI (sI X 0 0 0) x = mI (eT N) x := fun x hx hx2 => by
    rw [mI_o hx, y5 x hx2]
  refine ⟨LL_of H U (fun k hk => f0 k (by omega) (by omega)) ⟨?_, ?_, ?_, ?_, ?_, H.2.1.2.2.2.2.2⟩ ?_, U, ?_, fun x h0 h1 h2 => by rw [so x h0 h2, e5 x h0 h1], by rw [so 1 (by decide) (by omega)]; exact e6, fun k k0 k3 k4 => by rw [s0 k k0, e7 k k3 k4], mI_sI_s _ _ _ _, by rw [s0 3 (by decide)]; exact e8, by rw [s0 4 (by decide)]; exact e9, ?_⟩
  · rw [mR_sI, y2, mR_sR_f (by decide), mR_sR_s]
  · rw [mR_sI, y2, mR_sR_s]
  · rw [f0 9 (by decide) (by decide)]; exact H.2.1.2.2.1
  · rw [f0 10 (by decide) (by decide)]; exact H.2.1.2.2.2.1
  · rcases H.2.1.2.2.2.2.1 with h | h
    · exact Or.inr ⟨h.2, h.1⟩
    · exact Or.inl ⟨h.2, h.1⟩
  · rw [mT_sI, y3]
    exact H.2.2.2
  · rw [mL_sI, y4]
  · rw [mI_o (by omega), y6 0 (by omega)]
theorem c_shIn (H : LL N a b y z) : (gfR (eT N) (some 0) 11 7 fun v55 => gfR (eT N) (some 0) 11 8 fun v61 => pfR (eT N) (some 0) 11 7 v61 fun M64 => pfR M64 (some 0) 11 8 v55 fun M69 => gfR M69 (some 0) 11 9 fun v73 => ck M69 v73 9 <| bv (f_X9_clear M69 v73) fun M76 => gfR M76 (some 0) 11 7 fun v81 => gfI M76 v81 4 3 fun v84 => ck M76 (some 0) 11 <| bd (f_X11_answer M76 (some 0) v84) fun v87 M87 => some (v87, M87)) = some (mI N b 3, shI N a b y) := by
  have hy := ll_y H
  have hb := ll_b H
  obtain ⟨e1, e2, e3, e4, e5, e6, e7, e8, e9⟩ := eT_f N
  have HE : LL (eT N) a b y z := LL_same H e1 e2 e3
  have kE : ∀ X : Mm, mK X = mK (eT N) → (mK X 0).1 = 11 := fun X h => by rw [h, HE.1.1.1]
  obtain ⟨y1, y2, y3, y4, y5, y6, y7⟩ := yrC_f (sR (sR (eT N) 0 7 (some b)) 0 8 (some a)) y
  have k9 : (mK (sR (sR (eT N) 0 7 (some b)) 0 8 (some a)) y).1 = 9 := by
    show (mK (eT N) y).1 = 9
    rw [(ll_yy HE).1]
  have k4 : (mK (yrC (sR (sR (eT N) 0 7 (some b)) 0 8 (some a)) y) b).1 = 4 := by
    rw [y1]
    show (mK (eT N) b).1 = 4
    rw [(ll_sb HE).1]
  have Y : yrL (sR (sR (eT N) 0 7 (some b)) 0 8 (some a)) y := by
    have h := ll_yy HE
    unfold yrL at *
    refine ⟨h.1, fun j hj => ?_⟩
    rw [mR_sR_o (by omega), mR_sR_o (by omega)]
    exact h.2 j hj
  have r9 : mR (sR (sR (eT N) 0 7 (some b)) 0 8 (some a)) 0 9 = some y := by
    rw [mR_sR_f (by decide), mR_sR_f (by decide)]
    exact HE.2.1.2.2.1
  have r7 : mR (sR (sR (eT N) 0 7 (some b)) 0 8 (some a)) 0 7 = some b := by rw [mR_sR_f (by decide), mR_sR_s]
  have eb : mI (yrC (sR (sR (eT N) 0 7 (some b)) 0 8 (some a)) y) b 3 = mI N b 3 := by
    rw [y5 b (by omega)]
    show mI (eT N) b 3 = _
    rw [e5 b (by omega) (by omega)]
  have ky : ∀ X : Mm, mK X = mK (eT N) → (mK X 0).1 = 11 := kE
  rw [c_sh HE, c_dr HE, pfR_s (kE _ rfl), pfR_s (M := sR (eT N) 0 7 (some b)) (kE _ rfl), gfR_s (M := sR (sR (eT N) 0 7 (some b)) 0 8 (some a)) (kE _ rfl), r9, ck_s k9, c_yclr Y, bv_s]
  unfold shI
  generalize hX : yrC (sR (sR (eT N) 0 7 (some b)) 0 8 (some a)) y = X at *
  rw [gfR_s (by rw [y1]; exact kE _ rfl), y2, r7, gfI_s k4, eb, ck_s (by rw [y1]; exact kE _ rfl)]
  unfold f_X11_answer
  rw [pfI_s (by rw [y1]; exact kE _ rfl), bd_s]
end C

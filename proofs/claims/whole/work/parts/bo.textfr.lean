/-! TEXTS: what a text changes -/
def upF (M F : Mm) : Prop := (∀ x, x < 221 → mK F x = mK M x) ∧ (∀ x, x < 221 → x ≠ 0 → mR F x = mR M x)
theorem upF.tr {M N F : Mm} (h : upF M N) (h2 : upF N F) : upF M F := ⟨fun x hx => (h2.1 x hx).trans (h.1 x hx), fun x hx h0 => (h2.2 x hx h0).trans (h.2 x hx h0)⟩
theorem upF.rf {M F : Mm} (hK : mK F = mK M) (hR : mR F = mR M) : upF M F := ⟨fun x _ => by rw [hK], fun x _ _ => by rw [hR]⟩
theorem shL_up {M F : Mm} {a : Nat} (S : shL M a) (U : upF M F) (h0 : 0 < a) (h1 : a + 31 ≤ 207) : shL F a := by
  obtain ⟨hK, hR⟩ := U
  unfold shL at *
  obtain ⟨s1, s2, s3, s4, s5, s6, s7, s8, s9, s10, s11, s12⟩ := S
  refine ⟨by rw [hK a (by omega)]; exact s1, by rw [hK (a + 1) (by omega)]; exact s2, by rw [hK (a + 2) (by omega)]; exact s3, by rw [hK (a + 3) (by omega)]; exact s4, by rw [hK (a + 4) (by omega)]; exact s5, by rw [hR a (by omega) (by omega)]; exact s6, by rw [hR a (by omega) (by omega)]; exact s7, by rw [hR a (by omega) (by omega)]; exact s8, by rw [hR a (by omega) (by omega)]; exact s9, fun i hi => ?_, fun g hg => ?_, fun w hw => ?_⟩
  · rw [hR (a + 1) (by omega) (by omega), hK (a + 13 + i) (by omega), hR (a + 4) (by omega) (by omega), hK (a + 5 + i) (by omega)]
    exact s10 i hi
  · rw [hR (a + 2) (by omega) (by omega), hK (a + 21 + g) (by omega)]
    exact s11 g hg
  · rw [hR (a + 3) (by omega) (by omega), hK (a + 25 + w) (by omega)]
    exact s12 w hw
theorem yrL_up {M F : Mm} {y : Nat} (S : yrL M y) (U : upF M F) (h0 : 0 < y) (h1 : y + 6 ≤ 207) : yrL F y := by
  obtain ⟨hK, hR⟩ := U
  unfold yrL at *
  refine ⟨by rw [hK y (by omega)]; exact S.1, fun j hj => ?_⟩
  rw [hR y (by omega) (by omega), hK (y + 1 + j) (by omega)]
  exact S.2 j hj
theorem mdL_up {M F : Mm} (D : mdL M) (U : upF M F) : mdL F := by
  obtain ⟨hK, hR⟩ := U
  unfold mdL at *
  rw [hK 207 (by omega), hR 207 (by omega) (by omega), hK 208 (by omega), hK 209 (by omega), hK 210 (by omega), hK 211 (by omega), hK 212 (by omega), hK 213 (by omega), hK 214 (by omega), hK 215 (by omega), hK 216 (by omega), hK 217 (by omega), hK 218 (by omega), hK 219 (by omega), hK 220 (by omega)]
  exact D
theorem LL_of {M F : Mm} {a b y z a' b' y' z' : Nat} (H : LL M a b y z) (U : upF M F) (h0 : ∀ k, ¬ (7 ≤ k ∧ k ≤ 10) → mR F 0 k = mR M 0 k) (hD : clD F a' b' y' z') (hT : 221 ≤ mT F) : LL F a' b' y' z' := by
  obtain ⟨⟨h1, h2, h3, h4, h5, h6⟩, -, h7, -⟩ := H
  have hK := U.1
  have hR := U.2
  refine ⟨⟨?_, ?_, ?_, ?_, ?_, ?_⟩, hD, mdL_up h7 U, hT⟩
  · unfold cl1 at *
    rw [hK 0 (by omega), h0 5 (by omega), h0 6 (by omega), h0 11 (by omega), h0 12 (by omega), h0 14 (by omega), h0 16 (by omega), h0 17 (by omega)]
    exact h1
  · unfold cl2 at *
    obtain ⟨s1, s2, s3, s4, s5, s6, s7, s8⟩ := h2
    refine ⟨by rw [hK 4 (by omega)]; exact s1, by rw [hR 4 (by omega) (by omega)]; exact s2, by rw [hR 4 (by omega) (by omega)]; exact s3, by rw [hR 4 (by omega) (by omega)]; exact s4, by rw [hK 5 (by omega)]; exact s5, by rw [hK 10 (by omega)]; exact s6, by rw [hK 11 (by omega)]; exact s7, fun i hi => ?_⟩
    rw [hR 5 (by omega) (by omega), hK (6 + i) (by omega)]
    exact s8 i hi
  · unfold cl3 at *
    rw [hK 1 (by omega), hR 1 (by omega) (by omega), hK 2 (by omega), hK 3 (by omega)]
    exact h3
  · obtain ⟨s1, s2, s3, s4, s5⟩ := h4
    exact ⟨shL_up s1 U (by omega) (by omega), shL_up s2 U (by omega) (by omega), fun i hi => ⟨shL_up (s3 i hi).1 U (by omega) (by omega), yrL_up (s3 i hi).2 U (by omega) (by omega)⟩, yrL_up s4 U (by omega) (by omega), yrL_up s5 U (by omega) (by omega)⟩
  · unfold cl5 at *
    rw [hK 86 (by omega), hK 87 (by omega), hR 86 (by omega) (by omega), hR 87 (by omega) (by omega)]
    exact h5
  · unfold cl6 at *
    rw [hK 88 (by omega), hR 88 (by omega) (by omega), hK 89 (by omega), hK 90 (by omega), hK 91 (by omega), hK 92 (by omega), hR 92 (by omega) (by omega), hK 93 (by omega), hK 94 (by omega), hR 94 (by omega) (by omega), hK 95 (by omega)]
    exact h6
theorem clD_of {M F : Mm} {a b y z : Nat} (H : clD M a b y z) (h : mR F 0 = mR M 0) : clD F a b y z := by
  unfold clD at *
  rw [h]
  exact H
/-- the same shore lies there -/
theorem shO_up {M F : Mm} {a : Nat} {c c' : Nat → Int32} (S : shO M a c) (L : shL F a) (hI : ∀ x, a ≤ x → x < a + 31 → mI F x = mI M x) (e : ∀ k, k < 173 → c' k = c k) : shO F a c' := by
  have h8 := (ok_h S.2.2).2
  have g4 := (ok_g S.2.2).2
  have w6 := (ok_w S.2.2).2
  exact shO_cong ⟨L, shR_same S.2.1 hI h8 g4 w6, S.2.2⟩ e
/-- behind a text -/
theorem RA_tx {M F : Mm} {a b y z a' b' y' z' : Nat} (H : RA M a b y z) (hLL : LL F a' b' y' z') (hI : ∀ x, (2 ≤ x ∧ x < 12) ∨ (86 ≤ x ∧ x < 207) ∨ (208 ≤ x ∧ x < 212) ∨ x = 218 ∨ x = 220 → mI F x = mI M x) (hL : ∀ x, x = 0 ∨ (2 ≤ x ∧ x < 12) ∨ (86 ≤ x ∧ x < 207) ∨ (208 ≤ x ∧ x < 212) → mL F x = mL M x) (hL7 : mL F 207 2 = mL M 207 2 ∧ mL F 207 3 = mL M 207 3) (h0 : ∀ k, k ≠ 0 → k ≠ 3 → k ≠ 4 → mI F 0 k = mI M 0 k) (h7 : ∀ k, k = 23 ∨ k = 30 ∨ k = 33 ∨ k = 36 → mI F 207 k = mI M 207 k) (hs : mI F 0 0 = mI F 207 0) (hf : rFa F) (h1 : mI F 1 1 = 0) (h8 : mI F 207 8 = 0) (hc : ∀ k, 450 ≤ k → k < 1800 → mI F 212 k = mI M 212 k) (hn : ∀ k, 18 ≤ k → k < 72 → mL F 214 k = mL M 214 k) (S : shO F a' (mI F 212)) (hN : rNm F a' 0 (mI F 212)) (hY : rYr F y' (mI F 212)) : RA F a' b' y' z' := by
  obtain ⟨-, -, -, -, r1, r2, r3, r4, r5, r6, r7, r8⟩ := H
  refine ⟨hLL, S, hN, hs, ?_, hf, ?_, ?_, hY, ?_, ?_, ?_⟩
  · unfold rFr at *; rw [hL 0 (by omega), hL7.1, hL7.2]; exact r1
  · refine ⟨⟨0, by omega, h1, h8, fun k hk => by omega⟩, fun w hw => ?_⟩
    rw [hL 3 (by omega)]
    exact r3.2 w hw
  · unfold rTy at *
    intro t ht
    rw [hL (6 + t) (by omega), hL 210 (by omega), hI 11 (by omega), hI 10 (by omega), hI 209 (by omega), hI 208 (by omega)]
    exact r4 t ht
  · obtain ⟨n, n3, e1, e2, hm⟩ := r6
    refine ⟨n, n3, by rw [h0 13 (by omega) (by omega) (by omega)]; exact e1, by rw [h7 23 (by omega)]; exact e2, fun i hi => ?_⟩
    obtain ⟨m1, m2, m3⟩ := hm i hi
    have ci : ∀ k, k < 450 → cb F (i + 1) k = cb M (i + 1) k := fun k hk => hc _ (by omega) (by omega)
    have h8 := (ok_h m1.2.2).2
    have g4 := (ok_g m1.2.2).2
    have w6 := (ok_w m1.2.2).2
    refine ⟨shO_up m1 (hLL.1.2.2.2.1.2.2.1 i (by omega)).1 (fun x x1 x2 => hI x (by omega)) (fun k hk => ci k (by omega)), ?_, ?_⟩
    · exact rNm_move m2 m1.2.2 (fun k hk => ci k (by omega)) (fun h hh => by rw [hL (96 + 37 * i + 13 + h) (by omega)]) (fun h hh => by rw [hL (96 + 37 * i + 21 + h) (by omega)]) (fun h hh => by rw [hL (96 + 37 * i + 25 + h) (by omega)]) fun k hk => hn _ (by omega) (by omega)
    · exact rYr_move (fun f hf => by rw [hI (127 + 37 * i) (by omega)]) (fun j j1 j2 k hk => by rw [hI (127 + 37 * i + j) (by omega)]) (ci 0 (by omega)) (ci 1 (by omega)) (fun k k1 k2 => ci k k2) m3
  · unfold rPl at *; rw [h0 15 (by omega) (by omega) (by omega), h7 30 (by omega), h7 33 (by omega), hI 88 (by omega), hI 89 (by omega), hI 218 (by omega)]; exact r7
  · unfold rLi at *; rw [h0 18 (by omega) (by omega) (by omega), h7 36 (by omega), hI 92 (by omega), hI 220 (by omega)]; exact r8
/-- the class's text changes this alone: the tape, the rows b to b + w, what is new -/
def tFr (M N : Mm) (b w : Nat) : Prop := upF M N ∧ mR N 0 = mR M 0 ∧ 221 ≤ mT N ∧ (∀ x, x < 221 → x ≠ 1 → x < b ∨ b + w ≤ x → mI N x = mI M x ∧ mL N x = mL M x)
theorem tFr.LL {M N : Mm} {b w a b' y z : Nat} (h : tFr M N b w) (H : LL M a b' y z) : LL N a b' y z := LL_of H h.1 (fun k _ => by rw [h.2.1]) (clD_of H.2.1 h.2.1) h.2.2.1
theorem tFr.tr {M N P : Mm} {b w : Nat} (h : tFr M N b w) (h2 : tFr N P b w) : tFr M P b w := ⟨h.1.tr h2.1, h2.2.1.trans h.2.1, h2.2.2.1, fun x hx h1 hw => ⟨(h2.2.2.2 x hx h1 hw).1.trans (h.2.2.2 x hx h1 hw).1, (h2.2.2.2 x hx h1 hw).2.trans (h.2.2.2 x hx h1 hw).2⟩⟩
theorem tFr_nw {M : Mm} {a b' y z : Nat} (H : LL M a b' y z) (kd n b w : Nat) : tFr M (nw M kd n) b w := by
  have hT := H.2.2.2
  have e : ∀ x, x < 221 → ¬ x = mT M := fun x hx => by omega
  refine ⟨⟨fun x hx => if_neg (e x hx), fun x hx _ => funext fun k => if_neg (e x hx)⟩, funext fun k => if_neg (e 0 (by omega)), ?_, fun x hx _ _ => ⟨funext fun k => if_neg (e x hx), funext fun k => if_neg (e x hx)⟩⟩
  show 221 ≤ mT M + 1
  omega
theorem tFr_sR {M : Mm} {q b w : Nat} (hT : 221 ≤ mT M) (hq : 221 ≤ q) (k : Nat) (v : Option Nat) : tFr M (sR M q k v) b w := ⟨⟨fun _ _ => rfl, fun x hx _ => funext fun j => if_neg (fun z => by omega)⟩, funext fun j => if_neg (fun z => by omega), hT, fun _ _ _ _ => ⟨rfl, rfl⟩⟩
theorem mR_sR_s (M : Mm) (a k : Nat) (v : Option Nat) : mR (sR M a k v) a k = v := if_pos ⟨rfl, rfl⟩
theorem mR_sR_f {M : Mm} {a k j : Nat} {v : Option Nat} (h : j ≠ k) : mR (sR M a k v) a j = mR M a j := if_neg (fun z => h z.2)
theorem mR_sR_o {M : Mm} {a k x : Nat} {v : Option Nat} (h : x ≠ a) : mR (sR M a k v) x = mR M x := funext fun j => if_neg (fun z => h z.1)
/-- the end of a text -/
def eT (N : Mm) : Mm := sI (sI (sI N 1 1 0) 0 3 (mI N 1 12)) 0 4 (mI N 1 13)
theorem eT_f (N : Mm) : mK (eT N) = mK N ∧ mR (eT N) = mR N ∧ mT (eT N) = mT N ∧ mL (eT N) = mL N ∧ (∀ x, x ≠ 0 → x ≠ 1 → mI (eT N) x = mI N x) ∧ mI (eT N) 1 1 = 0 ∧ (∀ k, k ≠ 3 → k ≠ 4 → mI (eT N) 0 k = mI N 0 k) ∧ mI (eT N) 0 3 = mI N 1 12 ∧ mI (eT N) 0 4 = mI N 1 13 := by
  unfold eT
  refine ⟨rfl, rfl, rfl, rfl, fun x h0 h1 => by rw [mI_o h0, mI_o h0, mI_o h1], by rw [mI_o (by decide), mI_o (by decide), mI_sI_s], fun k h3 h4 => by rw [mI_f h4, mI_f h3, mI_o (by decide)], by rw [mI_f (by decide), mI_sI_s], mI_sI_s _ _ _ _⟩
theorem c_end {N : Mm} {a b y z : Nat} (H : LL N a b y z) {v : Int32} (hv : v = 0 ∨ v = 1) : f_X11_endText N (some 0) v = some (v, eT N) := by
  have H1 : LL (sI N 1 1 0) a b y z := LL_same H rfl rfl rfl
  have H2 : LL (sI (sI N 1 1 0) 0 3 (mI N 1 12)) a b y z := LL_same H rfl rfl rfl
  have k1 : ∀ X : Mm, mK X = mK N → (mK X 1).1 = 6 := fun X h => by rw [h, H.1.2.2.1.1]
  unfold f_X11_endText g_X11_endText eT
  rw [c_tp H, pfI_s (k1 N rfl), c_tp H1, gfI_s (k1 (sI N 1 1 0) rfl), mI_f (by decide), c_pI H1, c_tp H2, gfI_s (k1 (sI (sI N 1 1 0) 0 3 (mI N 1 12)) rfl), mI_o (by decide), mI_f (by decide), c_pI H2, zc_v hv]
/-- the bytes that are there -/
theorem cd_of {M : Mm} (h : rTp M) : ∃ (t : Nat) (cd : Nat → Nat), t ≤ 900 ∧ mI M 1 1 = nI t ∧ mI M 207 8 = nI t ∧ (∀ k, k < t → mI M 2 k = bV (cd k) ∧ cd k < 256) ∧ (∀ k, k < t → mI M 211 k = bV (cd k) ∧ cd k < 256) ∧ ∀ w, w < 30 → mL M 3 w = wrd w := by
  obtain ⟨⟨t, h9, h1, h8, hb⟩, hw⟩ := h
  have hx : ∀ k, ∃ i, k < t → i < 256 ∧ mI M 2 k = bV i := fun k => by
    by_cases hk : k < t
    · obtain ⟨v, hv⟩ := (hb k hk).2
      obtain ⟨i, i1, i2⟩ := by_bV v
      exact ⟨i, fun _ => ⟨i1, hv.trans i2⟩⟩
    · exact ⟨0, fun z => absurd z hk⟩
  refine ⟨t, fun k => Classical.choose (hx k), h9, h1, h8, fun k hk => ?_, fun k hk => ?_, hw⟩
  · have e := Classical.choose_spec (hx k) hk
    exact ⟨e.2, e.1⟩
  · have e := Classical.choose_spec (hx k) hk
    exact ⟨((hb k hk).1).symm.trans e.2, e.1⟩

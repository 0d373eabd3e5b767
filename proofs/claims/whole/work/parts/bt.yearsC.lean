/-! YEARS: the class's rest of a step -/
/-- the reader of years: it stands at q, its stack behind; the years at z -/
def yRd (M : Mm) (q z a : Nat) : Prop := mK M q = (10, 5) ∧ mR M q 0 = some 1 ∧ mR M q 1 = some a ∧ mR M q 2 = some z ∧ mR M q 3 = some (q + 1) ∧ mK M (q + 1) = (21, 3) ∧ yrL M z
def yS (M N : Mm) (z : Nat) (R : Nat → Nat → Int32) : Prop := mK N = mK M ∧ mR N = mR M ∧ mT N = mT M ∧ (∀ x, x ≠ 1 → (x ≤ z ∨ z + 6 ≤ x) → mI N x = mI M x ∧ mL N x = mL M x) ∧ (∀ j, 1 ≤ j → j ≤ 5 → mI N (z + j) = R j) ∧ ∀ k, k = 1 ∨ k = 3 ∨ 12 ≤ k → mI N 1 k = mI M 1 k
def yB (M N : Mm) (z : Nat) (e : Nat × Nat) : Prop := mK N = mK M ∧ mR N = mR M ∧ mT N = mT M ∧ (∀ x, x ≠ 1 → (x ≤ z ∨ z + 6 ≤ x) → mI N x = mI M x ∧ mL N x = mL M x) ∧ (∀ k, k = 1 ∨ k = 3 → mI N 1 k = mI M 1 k) ∧ mI N 1 12 = nI e.1 ∧ mI N 1 13 = nI e.2
def cYo (M : Mm) (y : Option (Int32 × Mm)) (cd : Nat → Nat) (n z : Nat) (o : Sum (Nat × Nat) (Nat × (Nat → Nat → Int32))) : Prop := match o with
  | .inl e => ∃ N, y = some (0, N) ∧ yB M N z e
  | .inr (t, R) => ∃ N, y = some (1, N) ∧ yS M N z R ∧ CT N cd n t
theorem mI_u2 (N : Mm) {z j j' r : Nat} {v : Int32} {R : Nat → Nat → Int32} (h : mI N (z + j) = R j) : mI (sI N (z + j') r v) (z + j) = u2 R j' r v j := funext fun x => by
  by_cases e : j = j'
  · subst e
    by_cases e2 : x = r
    · rw [e2, mI_sI_s, u2_s]
    · rw [mI_f e2, u2_o (fun y => e2 y.2), h]
  · rw [mI_o (by omega), u2_o (fun y => e y.1), h]
section C
variable {ρ : Type} {M N N' : Mm} {cd : Nat → Nat} {n s r q z a hc gc wc : Nat} {nm : Nat → List Nat} {R : Nat → Nat → Int32} {e : Nat × Nat} {kw : Int32}
theorem yRd.same (Y : yRd M q z a) (hK : mK N = mK M) (hR : mR N = mR M) : yRd N q z a := by
  unfold yRd yrL at *
  rw [hK, hR]
  exact Y
theorem yr_ck (Y : yRd M q z a) {x : Option ρ} : ck M (some q) 10 x = x := ck_s (by rw [Y.1])
theorem y_gI (Y : yRd M q z a) {k : Nat} {K : Int32 → Option ρ} : gfI M (some q) 10 k K = K (mI M q k) := gfI_s (by rw [Y.1])
theorem y_pI (Y : yRd M q z a) {k : Nat} {v : Int32} {K : Mm → Option ρ} : pfI M (some q) 10 k v K = K (sI M q k v) := pfI_s (by rw [Y.1])
theorem y_0 (Y : yRd M q z a) {K : Option Nat → Option ρ} : gfR M (some q) 10 0 K = K (some 1) := by rw [gfR_s (by rw [Y.1]), Y.2.1]
theorem y_1 (Y : yRd M q z a) {K : Option Nat → Option ρ} : gfR M (some q) 10 1 K = K (some a) := by rw [gfR_s (by rw [Y.1]), Y.2.2.1]
theorem y_2 (Y : yRd M q z a) {K : Option Nat → Option ρ} : gfR M (some q) 10 2 K = K (some z) := by rw [gfR_s (by rw [Y.1]), Y.2.2.2.1]
theorem y_3 (Y : yRd M q z a) {K : Option Nat → Option ρ} : gfR M (some q) 10 3 K = K (some (q + 1)) := by rw [gfR_s (by rw [Y.1]), Y.2.2.2.2.1]
theorem y_zI (Y : yRd M q z a) {k : Nat} {K : Int32 → Option ρ} : gfI M (some z) 9 k K = K (mI M z k) := gfI_s (by rw [Y.2.2.2.2.2.2.1])
theorem y_zp (Y : yRd M q z a) {k : Nat} {v : Int32} {K : Mm → Option ρ} : pfI M (some z) 9 k v K = K (sI M z k v) := pfI_s (by rw [Y.2.2.2.2.2.2.1])
theorem y_z3 (Y : yRd M q z a) {K : Option Nat → Option ρ} : gfR M (some z) 9 3 K = K (some (z + 1)) := by rw [gfR_s (by rw [Y.2.2.2.2.2.2.1]), show mR M z 3 = some (z + 1) from (Y.2.2.2.2.2.2.2 0 (by omega)).1]
theorem y_z4 (Y : yRd M q z a) {K : Option Nat → Option ρ} : gfR M (some z) 9 4 K = K (some (z + 2)) := by rw [gfR_s (by rw [Y.2.2.2.2.2.2.1]), show mR M z 4 = some (z + 2) from (Y.2.2.2.2.2.2.2 1 (by omega)).1]
theorem y_z5 (Y : yRd M q z a) {K : Option Nat → Option ρ} : gfR M (some z) 9 5 K = K (some (z + 3)) := by rw [gfR_s (by rw [Y.2.2.2.2.2.2.1]), show mR M z 5 = some (z + 3) from (Y.2.2.2.2.2.2.2 2 (by omega)).1]
theorem y_z6 (Y : yRd M q z a) {K : Option Nat → Option ρ} : gfR M (some z) 9 6 K = K (some (z + 4)) := by rw [gfR_s (by rw [Y.2.2.2.2.2.2.1]), show mR M z 6 = some (z + 4) from (Y.2.2.2.2.2.2.2 3 (by omega)).1]
theorem y_z7 (Y : yRd M q z a) {K : Option Nat → Option ρ} : gfR M (some z) 9 7 K = K (some (z + 5)) := by rw [gfR_s (by rw [Y.2.2.2.2.2.2.1]), show mR M z 7 = some (z + 5) from (Y.2.2.2.2.2.2.2 4 (by omega)).1]
theorem y_zk (Y : yRd M q z a) {j : Nat} (h1 : 1 ≤ j) (h5 : j ≤ 5) : mK M (z + j) = (21, 60) := by
  have := (Y.2.2.2.2.2.2.2 (j - 1) (by omega)).2
  rw [show z + 1 + (j - 1) = z + j by omega] at this
  exact this
theorem y_as (Y : yRd M q z a) {j : Nat} (h1 : 1 ≤ j) (h5 : j ≤ 5) (hr : r < 60) {v : Int32} {K : Mm → Option ρ} : asI M (some (z + j)) 21 (nI r) v K = K (sI M (z + j) r v) := asI_s (y_zk Y h1 h5) hr (by decide)
theorem y_al (Y : yRd M q z a) {j : Nat} (h1 : 1 ≤ j) (h5 : j ≤ 5) (hr : r < 60) {K : Int32 → Option ρ} : alI M (some (z + j)) 21 (nI r) K = K (mI M (z + j) r) := alI_s (y_zk Y h1 h5) hr (by decide)
theorem yS.v (h : yS M N z R) (hz : 12 ≤ z) (F : FTv N N') : yS M N' z R := ⟨F.1.trans h.1, F.2.1.trans h.2.1, F.2.2.1.trans h.2.2.1, fun x h1 h2 => ⟨(F.2.2.2.1 x h1).1.trans (h.2.2.2.1 x h1 h2).1, (F.2.2.2.1 x h1).2.trans (h.2.2.2.1 x h1 h2).2⟩, fun j h1 h2 => (F.2.2.2.1 (z + j) (by omega)).1.trans (h.2.2.2.2.1 j h1 h2), fun k hk => (F.2.2.2.2 k hk).trans (h.2.2.2.2.2 k hk)⟩
theorem yS.pI (h : yS M N z R) (hz : 12 ≤ z) {j : Nat} (h1 : 1 ≤ j) (h5 : j ≤ 5) (r : Nat) (v : Int32) : yS M (sI N (z + j) r v) z (u2 R j r v) := ⟨h.1, h.2.1, h.2.2.1, fun x x1 x2 => ⟨by rw [mI_o (by omega)]; exact (h.2.2.2.1 x x1 x2).1, (h.2.2.2.1 x x1 x2).2⟩, fun i i1 i2 => mI_u2 N (h.2.2.2.2.1 i i1 i2), fun k hk => by rw [mI_o (by omega)]; exact h.2.2.2.2.2 k hk⟩
theorem yS.bd (h : yS M N z R) (B : cBd N N' e) : yB M N' z e := ⟨B.1.1.trans h.1, B.1.2.1.trans h.2.1, B.1.2.2.1.trans h.2.2.1, fun x h1 h2 => ⟨(B.1.2.2.2.1 x h1).1.trans (h.2.2.2.1 x h1 h2).1, (B.1.2.2.2.1 x h1).2.trans (h.2.2.2.1 x h1 h2).2⟩, fun k hk => (B.1.2.2.2.2 k hk).trans (h.2.2.2.2.2 k (by omega)), B.2⟩
theorem yB.pI (B : yB M N z e) (hz : 12 ≤ z) {j : Nat} (h1 : 1 ≤ j) (h5 : j ≤ 5) (r : Nat) (v : Int32) : yB M (sI N (z + j) r v) z e := ⟨B.1, B.2.1, B.2.2.1, fun x x1 x2 => ⟨by rw [mI_o (by omega)]; exact (B.2.2.2.1 x x1 x2).1, (B.2.2.2.1 x x1 x2).2⟩, fun k hk => by rw [mI_o (by omega)]; exact B.2.2.2.2.1 k hk, by rw [mI_o (by omega)]; exact B.2.2.2.2.2.1, by rw [mI_o (by omega)]; exact B.2.2.2.2.2.2⟩
theorem yS.rd (h : yS M N z R) (Y : yRd M q z a) : yRd N q z a := Y.same h.1 h.2.1
theorem yB.rd (h : yB M N z e) (Y : yRd M q z a) : yRd N q z a := Y.same h.1 h.2.1
theorem CT.pz (C : CT N cd n s) (hz : 12 ≤ z) (j r : Nat) (v : Int32) : CT (sI N (z + j) r v) cd n s := C.o (by omega) (by omega) (by omega) _ _
theorem cNB_yS (B : cNB M a nm hc gc wc) (h : yS M N z R) (ha : 12 ≤ a) (hz : a + 31 ≤ z) : cNB N a nm hc gc wc := by
  have h8 := B.2.1.2
  have g4 := B.2.2.1.2
  have w6 := B.2.2.2.1.2
  exact cNB_same B h.1 h.2.1 (h.2.2.2.1 a (by omega) (by omega)).1 (fun k _ => by rw [(h.2.2.2.1 (a + 13 + k) (by omega) (by omega)).2]) (fun k _ => by rw [(h.2.2.2.1 (a + 21 + k) (by omega) (by omega)).2]) (fun k _ => by rw [(h.2.2.2.1 (a + 25 + k) (by omega) (by omega)).2])
theorem c_yCnt (C : CT N cd n s) (h : yS M N z R) (Y : yRd N q z a) (hz : 12 ≤ z) (hr : r < 60) {hi : Nat} (hh : hi ≤ 9999) : cYo M (f_X10_readCount N (some q) (nI r) (nI hi)) cd n z (yCnt cd n hi s r R) := by
  have g := c_takeNum C 1 hi (by omega) hh
  unfold f_X10_readCount g_X10_readCount yCnt
  rw [y_0 Y, tp_ck C.1]
  rcases hr' : tN cd n 1 hi s with e | ⟨v, t⟩
  · rw [hr'] at g
    obtain ⟨N', g1, g2⟩ := g
    have B := h.bd g2
    have Y' : yRd N' q z a := Y.same g2.1.1 g2.1.2.1
    rw [show f_X6_takeNumber N (some 1) 1 (nI hi) = some (0, N') from g1, bd_s, y_2 Y', y_z4 Y', y_0 Y', gfI_s (by rw [g2.1.1, C.1.1]), y_as Y' (by omega) (by omega) hr, zc0, Sp_l]
    exact ⟨_, rfl, B.pI hz (by omega) (by omega) _ _⟩
  · rw [hr'] at g
    obtain ⟨N', g1, g2, g3, g4⟩ := g
    have h' := h.v hz g2
    have Y' : yRd N' q z a := Y.same g2.1 g2.2.1
    rw [show f_X6_takeNumber N (some 1) 1 (nI hi) = some (1, N') from g1, bd_s, y_2 Y', y_z4 Y', y_0 Y', tp_gI g3.1, g4, y_as Y' (by omega) (by omega) hr, zc1, Sp_r]
    exact ⟨_, rfl, h'.pI hz (by omega) (by omega) _ _, g3.pz hz _ _ _⟩
theorem c_y30 (C : CT N cd n s) (h : yS M N z R) (Y : yRd N q z a) (B : cNB N a nm hc gc wc) (ha : 12 ≤ a) (hz : a + 31 ≤ z) (hr : r < 60) : cYo M (zc (f_X10_readTest_30 N (some q) (nI r))) cd n z (Sp (tNm cd n nm 0 hc (nx cd n s)) fun v t => .inr (t, u2 R 2 r (nI v))) := by
  obtain ⟨N1, f1, f2, C1⟩ := c_step C
  have h1 := h.v (by omega) f2.v
  have Y1 : yRd N1 q z a := Y.same f2.1 f2.2.1
  have B1 : cNB N1 a nm hc gc wc := cNB_v B (by omega) f2.v
  have g := c_takeHouse C1 B1
  unfold f_X10_readTest_30
  rw [y_0 Y, tp_ck C.1, f1, bv_s, y_2 Y1, y_z4 Y1, y_0 Y1, y_1 Y1, tp_ck C1.1]
  rcases hr' : tNm cd n nm 0 hc (nx cd n s) with e | ⟨v, t⟩
  · rw [hr'] at g
    obtain ⟨N', g1, g2⟩ := g
    have B := h1.bd g2
    have Y' : yRd N' q z a := Y1.same g2.1.1 g2.1.2.1
    have Y2 : yRd (sI N' (z + 2) r (-1)) q z a := Y'
    rw [g1, bd_s, y_as Y' (by omega) (by omega) hr, y_2 Y2, y_z4 Y2, y_al Y2 (by omega) (by omega) hr, mI_sI_s, if_pos rfl, zc0, Sp_l]
    exact ⟨_, rfl, B.pI (by omega) (by omega) (by omega) _ _⟩
  · rw [hr'] at g
    obtain ⟨N', g1, g2, g3⟩ := g
    have h' := h1.v (by omega) g2
    have lt := (tNm_lt hr').1
    have h8 := B.2.1.2
    have Y' : yRd N' q z a := Y1.same g2.1 g2.2.1
    have Y2 : yRd (sI N' (z + 2) r (nI v)) q z a := Y'
    rw [g1, bd_s, y_as Y' (by omega) (by omega) hr, y_2 Y2, y_z4 Y2, y_al Y2 (by omega) (by omega) hr, mI_sI_s, if_neg (neg1_ne (by omega)), zc1, Sp_r]
    exact ⟨_, rfl, h'.pI (by omega) (by omega) (by omega) _ _, g3.pz (by omega) _ _ _⟩
theorem c_yTest (C : CT N cd n s) (h : yS M N z R) (Y : yRd N q z a) (B : cNB N a nm hc gc wc) (ha : 12 ≤ a) (hz : a + 31 ≤ z) (hr : r < 60) : cYo M (f_X10_readTest N (some q) (nI r)) cd n z (yTest cd n nm hc s r R) := by
  have w7 := tc_w C.2
  have h1 := h.pI (by omega) (j := 3) (by omega) (by omega) r (tkW cd n s)
  have C1 : CT (sI N (z + 3) r (tkW cd n s)) cd n s := C.pz (by omega) 3 r _
  have Y1 : yRd (sI N (z + 3) r (tkW cd n s)) q z a := Y
  have B1 : cNB (sI N (z + 3) r (tkW cd n s)) a nm hc gc wc := cNB_same B rfl rfl (mI_o (by omega)) (fun _ _ => rfl) (fun _ _ => rfl) (fun _ _ => rfl)
  have f30 := c_y30 C1 h1 Y1 B1 ha hz hr
  unfold f_X10_readTest g_X10_readTest yTest
  rw [y_0 Y, tp_gI C.1, w7, y_2 Y, y_z5 Y, y_as Y (by omega) (by omega) hr]
  generalize sI N (z + 3) r (tkW cd n s) = N1 at *
  by_cases q25 : tkW cd n s = nI 25
  · rw [if_pos (show tkW cd n s = 25 from q25), if_pos (Or.inl q25)]
    exact f30
  rw [if_neg (show ¬ tkW cd n s = 25 from q25)]
  by_cases q26 : tkW cd n s = nI 26
  · rw [if_pos (show tkW cd n s = 26 from q26), if_pos (Or.inr q26)]
    exact f30
  rw [if_neg (show ¬ tkW cd n s = 26 from q26), if_neg (fun z => z.elim q25 q26)]
  have g := c_takeWord C1 2
  rw [y_0 Y1, tp_ck C1.1]
  rcases hr' : tW cd n 2 s with e | t1
  · rw [hr'] at g
    obtain ⟨N', g1, g2⟩ := g
    rw [show f_X6_takeWord N1 (some 1) 2 = some (0, N') from g1, bd_s, if_pos rfl, zc0, Sb_l]
    exact ⟨_, rfl, h1.bd g2⟩
  · rw [hr'] at g
    obtain ⟨N2, g1, g2, C2⟩ := g
    have h2 := h1.v (by omega) g2
    have Y2 : yRd N2 q z a := Y1.same g2.1 g2.2.1
    have k4 := tkK_4 cd n t1
    have f113 : ∀ e, e = fK cd n t1 2 → cYo M (zc (f_X10_readTest_113 N2 (some q))) cd n z (.inl e) := fun e he => by
      obtain ⟨N3, x1, x2⟩ := c_fail C2 2
      unfold f_X10_readTest_113
      rw [y_0 Y2, tp_ck C2.1, show (2 : Int32) = nI 2 from rfl, x1, bd_s, zc0, he]
      exact ⟨_, rfl, h2.bd x2⟩
    rw [show f_X6_takeWord N1 (some 1) 2 = some (1, N2) from g1, bd_s, if_neg (by decide), y_0 Y2, tp_gI C2.1, C2.2.2.2.2.1, Sb_r]
    by_cases q4 : tkK cd n t1 = 4
    · have hs := tkK_s (cd := cd) (n := n) (s := t1) (by omega)
      have c256 := (C2.1.2.2.2.2.2.2.2.1 t1 hs).2
      rw [if_pos (by rw [q4]; rfl), y_0 Y2, tp_gI C2.1, C2.2.2.2.2.2.2.2.2 q4]
      by_cases q59 : cd t1 = 59
      · rw [if_pos (by rw [q59]; rfl), if_neg (fun z => z.2 q59)]
        exact f113 _ rfl
      · have h3 := h2.pI (by omega) (j := 4) (by omega) (by omega) r (nI (cd t1))
        have C3 : CT (sI N2 (z + 4) r (nI (cd t1))) cd n t1 := C2.pz (by omega) 4 r _
        have Y3 : yRd (sI N2 (z + 4) r (nI (cd t1))) q z a := Y2
        rw [if_neg (fun z => q59 ((nI_eq' (by omega) (by omega)).mp (z.trans (show (59 : Int32) = nI 59 from rfl)))), if_pos ⟨q4, q59⟩, y_2 Y2, y_z6 Y2, y_0 Y2, tp_gI C2.1, C2.2.2.2.2.2.2.2.2 q4, y_as Y2 (by omega) (by omega) hr]
        generalize sI N2 (z + 4) r (nI (cd t1)) = N3 at *
        obtain ⟨N4, f1, f2, C4⟩ := c_step C3
        have h4 := h3.v (by omega) f2.v
        have Y4 : yRd N4 q z a := Y3.same f2.1 f2.2.1
        have g := c_takeNum C4 0 9999 (by omega) (by omega)
        rw [y_0 Y3, tp_ck C3.1, f1, bv_s, y_0 Y4, tp_ck C4.1]
        rcases hr2 : tN cd n 0 9999 (nx cd n t1) with e | ⟨v, t⟩
        · rw [hr2] at g
          obtain ⟨N', g1, g2⟩ := g
          have B' := h4.bd g2
          have Y' : yRd N' q z a := Y4.same g2.1.1 g2.1.2.1
          rw [show f_X6_takeNumber N4 (some 1) 0 9999 = some (0, N') from g1, bd_s, y_2 Y', y_z4 Y', y_0 Y', gfI_s (by rw [g2.1.1, C4.1.1]), y_as Y' (by omega) (by omega) hr, zc0, Sp_l]
          exact ⟨_, rfl, B'.pI (by omega) (by omega) (by omega) _ _⟩
        · rw [hr2] at g
          obtain ⟨N', g1, g2, g3, g4⟩ := g
          have h' := h4.v (by omega) g2
          have Y' : yRd N' q z a := Y4.same g2.1 g2.2.1
          rw [show f_X6_takeNumber N4 (some 1) 0 9999 = some (1, N') from g1, bd_s, y_2 Y', y_z4 Y', y_0 Y', tp_gI g3.1, g4, y_as Y' (by omega) (by omega) hr, zc1, Sp_r]
          exact ⟨_, rfl, h'.pI (by omega) (by omega) (by omega) _ _, g3.pz (by omega) _ _ _⟩
    · rw [if_neg (fun z => q4 ((nI_eq' (by omega) (by omega)).mp (z.trans (show (4 : Int32) = nI 4 from rfl)))), if_neg (fun z => q4 z.1)]
      exact f113 _ rfl
theorem c_yGang (C : CT N cd n s) (h : yS M N z R) (Y : yRd N q z a) (B : cNB N a nm hc gc wc) (hz : 12 ≤ z) (hr : r < 60) {K : Mm → Option (Int32 × Mm)} (hK : ∀ N', K N' = gfR N' (some q) 10 2 fun v185 => gfR N' v185 9 5 fun v188 => alI N' v188 21 (nI r) fun v192 => if v192 = (-1) then (some (0, N')) else (some (1, N'))) : cYo M (zc (bd (f_X6_takeNamed N (some 1) (some a) 7) fun v180 M180 => asI M180 (some (z + 3)) 21 (nI r) v180 K)) cd n z (yGang cd n nm gc s r R) := by
  have g := c_takeGang C B
  unfold yGang
  rcases hr' : tNm cd n nm 8 gc s with e | ⟨v, t⟩
  · rw [hr'] at g
    obtain ⟨N', g1, g2⟩ := g
    have B := h.bd g2
    have Y' : yRd N' q z a := Y.same g2.1.1 g2.1.2.1
    have Y2 : yRd (sI N' (z + 3) r (-1)) q z a := Y'
    rw [g1, bd_s, y_as Y' (by omega) (by omega) hr, hK, y_2 Y2, y_z5 Y2, y_al Y2 (by omega) (by omega) hr, mI_sI_s, if_pos rfl, zc0, Sp_l]
    exact ⟨_, rfl, B.pI hz (by omega) (by omega) _ _⟩
  · rw [hr'] at g
    obtain ⟨N', g1, g2, g3⟩ := g
    have h' := h.v hz g2
    have lt := (tNm_lt hr').1
    have g4 := B.2.2.1.2
    have Y' : yRd N' q z a := Y.same g2.1 g2.2.1
    have Y2 : yRd (sI N' (z + 3) r (nI v)) q z a := Y'
    rw [g1, bd_s, y_as Y' (by omega) (by omega) hr, hK, y_2 Y2, y_z5 Y2, y_al Y2 (by omega) (by omega) hr, mI_sI_s, if_neg (neg1_ne (by omega)), zc1, Sp_r]
    exact ⟨_, rfl, h'.pI hz (by omega) (by omega) _ _, g3.pz hz _ _ _⟩
theorem c_yRest (C : CT N cd n s) (h : yS M N z R) (Y : yRd N q z a) (B : cNB N a nm hc gc wc) (ha : 12 ≤ a) (hz : a + 31 ≤ z) (hr : r < 60) (kw : Int32) : cYo M (f_X10_readRest N (some q) kw (nI r)) cd n z (yRest cd n nm hc gc kw s r R) := by
  have same : ∀ {x : Option (Int32 × Mm)} {o : Sum (Nat × Nat) (Nat × (Nat → Nat → Int32))}, cYo M x cd n z o → cYo M (zc x) cd n z o := fun {x o} g => by
    rcases o with e | ⟨t, R'⟩
    · obtain ⟨N', g1, g2⟩ := g
      exact ⟨N', by rw [g1, zc0], g2⟩
    · obtain ⟨N', g1, g2⟩ := g
      exact ⟨N', by rw [g1, zc1], g2⟩
  have idb : ∀ {x : Option (Int32 × Mm)} {o : Sum (Nat × Nat) (Nat × (Nat → Nat → Int32))}, cYo M x cd n z o → cYo M (bd x fun v M => some (v, M)) cd n z o := fun {x o} g => by
    rcases o with e | ⟨t, R'⟩
    · obtain ⟨N', g1, g2⟩ := g
      exact ⟨N', by rw [g1, bd_s], g2⟩
    · obtain ⟨N', g1, g2⟩ := g
      exact ⟨N', by rw [g1, bd_s], g2⟩
  have pass : yRest cd n nm hc gc kw s r R = .inr (s, R) → cYo M (zc (some (1, N))) cd n z (yRest cd n nm hc gc kw s r R) := fun g => by
    rw [g, zc1]
    exact ⟨N, rfl, h, C⟩
  unfold f_X10_readRest g_X10_readRest
  by_cases q18 : kw = nI 18
  · rw [if_pos (show kw = 18 from q18), yr_ck Y]
    unfold yRest
    rw [if_pos q18]
    exact same (idb (c_yCnt C h Y (by omega) hr (hi := 240) (by omega)))
  rw [if_neg (show ¬ kw = 18 from q18)]
  by_cases q19 : kw = nI 19
  · rw [if_pos (show kw = 19 from q19)]
    exact pass (by unfold yRest; rw [q19, if_neg (by decide), if_neg (by decide), if_neg (by decide), if_neg (by decide), if_neg (by decide)])
  rw [if_neg (show ¬ kw = 19 from q19)]
  by_cases q20 : kw = nI 20
  · rw [if_pos (show kw = 20 from q20)]
    exact pass (by unfold yRest; rw [q20, if_neg (by decide), if_neg (by decide), if_neg (by decide), if_neg (by decide), if_neg (by decide)])
  rw [if_neg (show ¬ kw = 20 from q20)]
  by_cases q21 : kw = nI 21
  · rw [if_pos (show kw = 21 from q21), y_2 Y, y_z5 Y, y_0 Y, y_1 Y, tp_ck C.1]
    unfold yRest
    rw [if_neg q18, if_pos q21]
    exact c_yGang C h Y B (by omega) hr (fun _ => rfl)
  rw [if_neg (show ¬ kw = 21 from q21)]
  by_cases q22 : kw = nI 22
  · rw [if_pos (show kw = 22 from q22), y_2 Y, y_z4 Y, y_0 Y, y_1 Y, tp_ck C.1]
    have eL : yRest cd n nm hc gc kw s r R = yLift cd n nm hc gc s r R := by
      unfold yRest
      rw [if_neg q18, if_neg q21, if_pos q22]
    rw [eL]
    unfold yLift
    have g := c_takeHouse C B
    rcases hr' : tNm cd n nm 0 hc s with e | ⟨v, t⟩
    · rw [hr'] at g
      obtain ⟨N', g1, g2⟩ := g
      have B := h.bd g2
      have Y' : yRd N' q z a := Y.same g2.1.1 g2.1.2.1
      have Y2 : yRd (sI N' (z + 2) r (-1)) q z a := Y'
      rw [g1, bd_s, y_as Y' (by omega) (by omega) hr, y_2 Y2, y_z4 Y2, y_al Y2 (by omega) (by omega) hr, mI_sI_s, if_pos rfl, zc0, Sp_l]
      exact ⟨_, rfl, B.pI (by omega) (by omega) (by omega) _ _⟩
    · rw [hr'] at g
      obtain ⟨N', g1, g2, g3⟩ := g
      have lt := (tNm_lt hr').1
      have h8 := B.2.1.2
      have h' := (h.v (by omega) g2).pI (by omega) (j := 2) (by omega) (by omega) r (nI v)
      have Y' : yRd N' q z a := Y.same g2.1 g2.2.1
      have Y2 : yRd (sI N' (z + 2) r (nI v)) q z a := Y'
      have C2 : CT (sI N' (z + 2) r (nI v)) cd n t := g3.pz (by omega) 2 r _
      have B2 : cNB (sI N' (z + 2) r (nI v)) a nm hc gc wc := cNB_same (cNB_v B (by omega) g2) rfl rfl (mI_o (by omega)) (fun _ _ => rfl) (fun _ _ => rfl) (fun _ _ => rfl)
      rw [g1, bd_s, y_as Y' (by omega) (by omega) hr, y_2 Y2, y_z4 Y2, y_al Y2 (by omega) (by omega) hr, mI_sI_s, if_neg (neg1_ne (by omega)), y_0 Y2, tp_ck C2.1, Sp_r]
      generalize sI N' (z + 2) r (nI v) = N2 at *
      have g := c_takeWord C2 23
      rcases hr2 : tW cd n 23 t with e | t2
      · rw [hr2] at g
        obtain ⟨N3, g1, g2⟩ := g
        rw [show f_X6_takeWord N2 (some 1) 23 = some (0, N3) from g1, bd_s, if_pos rfl, zc0, Sb_l]
        exact ⟨_, rfl, h'.bd g2⟩
      · rw [hr2] at g
        obtain ⟨N3, g1, g2, C3⟩ := g
        have h3 := h'.v (by omega) g2
        have Y3 : yRd N3 q z a := Y2.same g2.1 g2.2.1
        have B3 : cNB N3 a nm hc gc wc := cNB_v B2 (by omega) g2
        rw [show f_X6_takeWord N2 (some 1) 23 = some (1, N3) from g1, bd_s, if_neg (by decide), y_2 Y3, y_z5 Y3, y_0 Y3, y_1 Y3, tp_ck C3.1, Sb_r]
        exact c_yGang C3 h3 Y3 B3 (by omega) hr (fun _ => rfl)
  rw [if_neg (show ¬ kw = 22 from q22)]
  by_cases q23 : kw = nI 23
  · rw [if_pos (show kw = 23 from q23)]
    exact pass (by unfold yRest; rw [q23, if_neg (by decide), if_neg (by decide), if_neg (by decide), if_neg (by decide), if_neg (by decide)])
  rw [if_neg (show ¬ kw = 23 from q23)]
  by_cases q24 : kw = nI 24
  · rw [if_pos (show kw = 24 from q24), yr_ck Y]
    unfold yRest
    rw [if_neg q18, if_neg q21, if_neg q22, if_pos q24]
    exact same (idb (c_yTest C h Y B ha hz hr))
  rw [if_neg (show ¬ kw = 24 from q24)]
  by_cases q25 : kw = nI 25
  · rw [if_pos (show kw = 25 from q25)]
    exact pass (by unfold yRest; rw [q25, if_neg (by decide), if_neg (by decide), if_neg (by decide), if_neg (by decide), if_neg (by decide)])
  rw [if_neg (show ¬ kw = 25 from q25)]
  by_cases q26 : kw = nI 26
  · rw [if_pos (show kw = 26 from q26)]
    exact pass (by unfold yRest; rw [q26, if_neg (by decide), if_neg (by decide), if_neg (by decide), if_neg (by decide), if_neg (by decide)])
  rw [if_neg (show ¬ kw = 26 from q26)]
  by_cases q27 : kw = nI 27
  · rw [if_pos (show kw = 27 from q27), yr_ck Y]
    unfold yRest
    rw [if_neg q18, if_neg q21, if_neg q22, if_neg q24, if_pos q27]
    exact same (idb (c_yCnt C h Y (by omega) hr (hi := 99) (by omega)))
  rw [if_neg (show ¬ kw = 27 from q27)]
  exact pass (by unfold yRest; rw [if_neg q18, if_neg q21, if_neg q22, if_neg q24, if_neg q27])
end C

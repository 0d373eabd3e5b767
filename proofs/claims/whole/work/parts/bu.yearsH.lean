/-! YEARS: the class's step or end, all of them -/
def yC (M : Mm) (q z k r dp : Nat) (op : Nat → Nat) (R : Nat → Nat → Int32) : Prop := mI M q 4 = nI dp ∧ (∀ j, j < dp → mI M (q + 1) j = nI (op j)) ∧ mI M z 1 = nI k ∧ mI M z 2 = nI r ∧ ∀ j, 1 ≤ j → j ≤ 5 → mI M (z + j) = R j
def yFr (M N : Mm) (z q : Nat) : Prop := mK N = mK M ∧ mR N = mR M ∧ mT N = mT M ∧ (∀ x, x ≠ 1 → x ≠ q → x ≠ q + 1 → (x < z ∨ z + 6 ≤ x) → mI N x = mI M x ∧ mL N x = mL M x) ∧ ∀ k, k = 1 ∨ k = 3 → mI N 1 k = mI M 1 k
def cHo (M : Mm) (y : Option (Int32 × Mm)) (cd : Nat → Nat) (n q z r : Nat) (o : Sum (Nat × Nat) (Nat × Nat × (Nat → Nat) × (Nat → Nat → Int32) × Nat)) : Prop := match o with
  | .inl e => ∃ N, y = some (0, N) ∧ yFr M N z q ∧ mI N 1 12 = nI e.1 ∧ mI N 1 13 = nI e.2
  | .inr (k, dp, op, R, t) => ∃ N, y = some (1, N) ∧ yFr M N z q ∧ (∀ k, 12 ≤ k → mI N 1 k = mI M 1 k) ∧ CT N cd n t ∧ yC N q z k r dp op R
theorem opB_t {t : Int32} : opB t = true ↔ t = nI 24 ∨ t = nI 27 := by
  unfold opB
  rw [decide_eq_true_eq]
theorem beg_w : ∀ w, w < 30 → w ≠ 24 → w ≠ 27 → ((nI w = 29 ∨ (¬ nI w < 18 ∧ ¬ 22 < nI w)) ↔ 0 ≤ swV (nI w)) := by decide +kernel
theorem beg_t (cd : Nat → Nat) (n s : Nat) (h24 : ¬ tkW cd n s = nI 24) (h27 : ¬ tkW cd n s = nI 27) : (tkW cd n s = 29 ∨ (¬ tkW cd n s < 18 ∧ ¬ 22 < tkW cd n s)) ↔ 0 ≤ swV (tkW cd n s) := by
  rcases tkW_al cd n s with h | ⟨w, hw, h⟩
  · rw [h]
    decide
  · rw [h] at h24 h27 ⊢
    exact beg_w w hw (fun z => h24 (by rw [z])) (fun z => h27 (by rw [z]))
section C
variable {ρ : Type} {M N N' : Mm} {cd : Nat → Nat} {n s r q z a hc gc wc k dp : Nat} {nm : Nat → List Nat} {op : Nat → Nat} {R : Nat → Nat → Int32} {e : Nat × Nat}
theorem yFr.rf : yFr M M z q := ⟨rfl, rfl, rfl, fun _ _ _ _ _ => ⟨rfl, rfl⟩, fun _ _ => rfl⟩
theorem yFr.tr (h : yFr M N z q) (h2 : yFr N N' z q) : yFr M N' z q := ⟨h2.1.trans h.1, h2.2.1.trans h.2.1, h2.2.2.1.trans h.2.2.1, fun x a b c d => ⟨(h2.2.2.2.1 x a b c d).1.trans (h.2.2.2.1 x a b c d).1, (h2.2.2.2.1 x a b c d).2.trans (h.2.2.2.1 x a b c d).2⟩, fun k hk => (h2.2.2.2.2 k hk).trans (h.2.2.2.2 k hk)⟩
theorem yFr.pz (h : yFr M N z q) (hz : 12 ≤ z) {j : Nat} (hj : j ≤ 5) (r : Nat) (v : Int32) : yFr M (sI N (z + j) r v) z q := ⟨h.1, h.2.1, h.2.2.1, fun x a b c d => ⟨by rw [mI_o (by omega)]; exact (h.2.2.2.1 x a b c d).1, (h.2.2.2.1 x a b c d).2⟩, fun k hk => by rw [mI_o (by omega)]; exact h.2.2.2.2 k hk⟩
theorem yFr.pq (h : yFr M N z q) (hq : 12 ≤ q) {j : Nat} (hj : j ≤ 1) (r : Nat) (v : Int32) : yFr M (sI N (q + j) r v) z q := ⟨h.1, h.2.1, h.2.2.1, fun x a b c d => ⟨by rw [mI_o (by omega)]; exact (h.2.2.2.1 x a b c d).1, (h.2.2.2.1 x a b c d).2⟩, fun k hk => by rw [mI_o (by omega)]; exact h.2.2.2.2 k hk⟩
theorem yS.toF (h : yS M N z R) : yFr M N z q := ⟨h.1, h.2.1, h.2.2.1, fun x a _ _ d => h.2.2.2.1 x a (by omega), fun k hk => h.2.2.2.2.2 k (by omega)⟩
theorem yB.toF (h : yB M N z e) : yFr M N z q := ⟨h.1, h.2.1, h.2.2.1, fun x a _ _ d => h.2.2.2.1 x a (by omega), h.2.2.2.2.1⟩
theorem FTv.toY (h : FTv M N) : yFr M N z q := ⟨h.1, h.2.1, h.2.2.1, fun x a _ _ _ => h.2.2.2.1 x a, fun k hk => h.2.2.2.2 k (by omega)⟩
theorem cBd.toY (h : cBd M N e) : yFr M N z q ∧ mI N 1 12 = nI e.1 ∧ mI N 1 13 = nI e.2 := ⟨⟨h.1.1, h.1.2.1, h.1.2.2.1, fun x a _ _ _ => h.1.2.2.2.1 x a, h.1.2.2.2.2⟩, h.2⟩
theorem yC.v (S : yC M q z k r dp op R) (hz : 12 ≤ z) (hq : 12 ≤ q) (F : FTv M N) : yC N q z k r dp op R := by
  obtain ⟨a1, a2, a3, a4, a5⟩ := S
  refine ⟨?_, fun j hj => ?_, ?_, ?_, fun j h1 h2 => ?_⟩
  · rw [(F.2.2.2.1 q (by omega)).1]; exact a1
  · rw [(F.2.2.2.1 (q + 1) (by omega)).1]; exact a2 j hj
  · rw [(F.2.2.2.1 z (by omega)).1]; exact a3
  · rw [(F.2.2.2.1 z (by omega)).1]; exact a4
  · rw [(F.2.2.2.1 (z + j) (by omega)).1]; exact a5 j h1 h2
theorem y_qs (Y : yRd M q z a) {j : Nat} (hj : j < 3) {v : Int32} {K : Mm → Option ρ} : asI M (some (q + 1)) 21 (nI j) v K = K (sI M (q + 1) j v) := asI_s Y.2.2.2.2.2.1 hj (by decide)
theorem y_ql (Y : yRd M q z a) {j : Nat} (hj : j < 3) {K : Int32 → Option ρ} : alI M (some (q + 1)) 21 (nI j) K = K (mI M (q + 1) j) := alI_s Y.2.2.2.2.2.1 hj (by decide)
theorem c_yEnd (C : CT M cd n s) (Y : yRd M q z a) (S : yC M q z k r dp op R) (I : yI k r dp op) (hz : 12 ≤ z) (hq : z + 6 ≤ q) (w28 : tkW cd n s = nI 28) : cHo M (f_X10_readEnd M (some q)) cd n q z r (if dp = 0 then .inl (2, s) else .inr (k, dp - 1, op, u2 (u2 (u2 R 1 r 28) 5 r (nI (op (dp - 1)))) 5 (op (dp - 1)) (nI r), nx cd n s)) := by
  obtain ⟨a1, a2, a3, a4, a5⟩ := S
  obtain ⟨i1, i2, i3, i4⟩ := I
  unfold f_X10_readEnd g_X10_readEnd
  rw [y_gI Y, a1]
  by_cases d0 : dp = 0
  · obtain ⟨N, x1, x2⟩ := c_fail C 2
    have k2 := ((tkW_iff (w := 28) (by omega)).mp w28).1
    have ef : fK cd n s 2 = (2, s) := by
      unfold fK
      rw [if_neg (by omega)]
    rw [ef] at x2
    rw [if_pos (by rw [d0]; decide), if_pos d0]
    unfold f_X10_readEnd_19
    rw [y_0 Y, tp_ck C.1, show (2 : Int32) = nI 2 from rfl, x1, bd_s, zc0]
    exact ⟨N, rfl, x2.toY⟩
  · have hr : r < 60 := by omega
    have ho : op (dp - 1) < 60 := by
      have := i4 (dp - 1) (by omega)
      omega
    have e1 : nI dp - 1 = nI (dp - 1) := by
      rw [show (1 : Int32) = nI 1 from rfl, nI_sub (by omega)]
    have Y0 : yRd (sI M q 4 (nI (dp - 1))) q z a := Y
    have F0 : yFr M (sI M q 4 (nI (dp - 1))) z q := yFr.rf.pq (j := 0) (by omega) (by omega) 4 _
    have C0 : CT (sI M q 4 (nI (dp - 1))) cd n s := C.o (by omega) (by omega) (by omega) _ _
    have q0 : mI (sI M q 4 (nI (dp - 1))) (q + 1) (dp - 1) = nI (op (dp - 1)) := by rw [mI_o (by omega)]; exact a2 _ (by omega)
    have z0 : mI (sI M q 4 (nI (dp - 1))) z 2 = nI r := by rw [mI_o (by omega)]; exact a4
    have z1 : mI (sI M q 4 (nI (dp - 1))) z 1 = nI k := by rw [mI_o (by omega)]; exact a3
    have q4 : mI (sI M q 4 (nI (dp - 1))) q 4 = nI (dp - 1) := mI_sI_s _ _ _ _
    have s0 : yS (sI M q 4 (nI (dp - 1))) (sI M q 4 (nI (dp - 1))) z R := ⟨rfl, rfl, rfl, fun _ _ _ => ⟨rfl, rfl⟩, fun j h1 h2 => by rw [mI_o (by omega)]; exact a5 j h1 h2, fun _ _ => rfl⟩
    have r1 : ∀ x, 12 ≤ x → mI (sI M q 4 (nI (dp - 1))) 1 x = mI M 1 x := fun x _ => by rw [mI_o (by omega)]
    have qj : ∀ j, j < dp - 1 → mI (sI M q 4 (nI (dp - 1))) (q + 1) j = nI (op j) := fun j hj => by rw [mI_o (by omega)]; exact a2 _ (by omega)
    rw [if_neg (by rw [show (0 : Int32) = nI 0 from rfl, nI_leI' (by omega) (by omega)]; omega), y_2 Y, y_zI Y, a4, if_pos (by rw [show (60 : Int32) = nI 60 from rfl, nI_ltI' (by omega) (by omega)]; exact hr), y_gI Y, a1, e1, y_pI Y, if_neg d0]
    generalize sI M q 4 (nI (dp - 1)) = M0 at *
    have h1 := s0.pI (by omega) (j := 1) (by omega) (by omega) r 28
    have h2 := h1.pI (by omega) (j := 5) (by omega) (by omega) r (nI (op (dp - 1)))
    have h3 := h2.pI (by omega) (j := 5) (by omega) (by omega) (op (dp - 1)) (nI r)
    have Y1 : yRd (sI M0 (z + 1) r 28) q z a := Y0
    have Y2 : yRd (sI (sI M0 (z + 1) r 28) (z + 5) r (nI (op (dp - 1)))) q z a := Y0
    have Y3 : yRd (sI (sI (sI M0 (z + 1) r 28) (z + 5) r (nI (op (dp - 1)))) (z + 5) (op (dp - 1)) (nI r)) q z a := Y0
    have C3 : CT (sI (sI (sI M0 (z + 1) r 28) (z + 5) r (nI (op (dp - 1)))) (z + 5) (op (dp - 1)) (nI r)) cd n s := ((C0.pz (by omega) _ _ _).pz (by omega) _ _ _).pz (by omega) _ _ _
    obtain ⟨N, x1, x2, x3⟩ := c_step C3
    rw [y_2 Y0, y_z3 Y0, y_2 Y0, y_zI Y0, z0, y_as Y0 (by omega) (by omega) hr, y_2 Y1, y_z7 Y1, y_2 Y1, y_zI Y1, mI_o (by omega), z0, y_3 Y1, y_gI Y1, mI_o (by omega), q4, y_ql Y1 (by omega), mI_o (by omega), q0, y_as Y1 (by omega) (by omega) hr, y_2 Y2, y_z7 Y2, y_3 Y2, y_gI Y2, mI_o (by omega), mI_o (by omega), q4, y_ql Y2 (by omega), mI_o (by omega), mI_o (by omega), q0, y_2 Y2, y_zI Y2, mI_o (by omega), mI_o (by omega), z0, y_as Y2 (by omega) (by omega) ho, y_0 Y3, tp_ck C3.1, x1, bv_s, zc1]
    have h4 := h3.v (by omega) x2.v
    refine ⟨N, rfl, F0.tr h4.toF, fun x hx => (h4.2.2.2.2.2 x (by omega)).trans (r1 x hx), x3, ?_, fun j hj => ?_, ?_, ?_, h4.2.2.2.2.1⟩
    · rw [(h4.2.2.2.1 q (by omega) (by omega)).1]; exact q4
    · rw [(h4.2.2.2.1 (q + 1) (by omega) (by omega)).1]; exact qj j hj
    · rw [(h4.2.2.2.1 z (by omega) (by omega)).1]; exact z1
    · rw [(h4.2.2.2.1 z (by omega) (by omega)).1]; exact z0
/-- the rest of a step, behind its word -/
theorem c_y193 (C : CT M cd n s) (Y : yRd M q z a) (B : cNB M a nm hc gc wc) (S : yC M q z k r dp op R) (ha : 12 ≤ a) (hz : a + 31 ≤ z) (hq : z + 6 ≤ q) (hr : r < 60) (kw : Int32) : cHo M (f_X10_readStepOrEnd_193 M (some q) kw) cd n q z r (SR (yRest cd n nm hc gc kw (nx cd n s) r R) fun t R' => .inr (k, dp, op, R', t)) := by
  obtain ⟨a1, a2, a3, a4, a5⟩ := S
  obtain ⟨N, f1, f2, C1⟩ := c_step C
  have s0 : yS M M z R := ⟨rfl, rfl, rfl, fun _ _ _ => ⟨rfl, rfl⟩, a5, fun _ _ => rfl⟩
  have h1 := s0.v (by omega) f2.v
  have Y1 : yRd N q z a := h1.rd Y
  have z2 : mI N z 2 = nI r := by rw [(h1.2.2.2.1 z (by omega) (by omega)).1]; exact a4
  have g := c_yRest C1 h1 Y1 (cNB_v B (by omega) f2.v) ha hz hr kw
  unfold f_X10_readStepOrEnd_193
  rw [y_0 Y, tp_ck C.1, f1, bv_s, y_2 Y1, y_zI Y1, z2, yr_ck Y1]
  rcases hr' : yRest cd n nm hc gc kw (nx cd n s) r R with e | ⟨t, R'⟩
  · rw [hr'] at g
    obtain ⟨N', g1, g2⟩ := g
    rw [g1, bd_s, SR_l]
    exact ⟨N', rfl, g2.toF, g2.2.2.2.2.2⟩
  · rw [hr'] at g
    obtain ⟨N', g1, g2, g3⟩ := g
    rw [g1, bd_s, SR_r]
    refine ⟨N', rfl, g2.toF, fun x hx => g2.2.2.2.2.2 x (by omega), g3, ?_, fun j hj => ?_, ?_, ?_, g2.2.2.2.2.1⟩
    · rw [(g2.2.2.2.1 q (by omega) (by omega)).1]; exact a1
    · rw [(g2.2.2.2.1 (q + 1) (by omega) (by omega)).1]; exact a2 j hj
    · rw [(g2.2.2.2.1 z (by omega) (by omega)).1]; exact a3
    · rw [(g2.2.2.2.1 z (by omega) (by omega)).1]; exact a4
theorem cHo_pre {M0 : Mm} {y : Option (Int32 × Mm)} {o : Sum (Nat × Nat) (Nat × Nat × (Nat → Nat) × (Nat → Nat → Int32) × Nat)} (F : yFr M M0 z q) (h1 : ∀ x, 12 ≤ x → mI M0 1 x = mI M 1 x) (h : cHo M0 y cd n q z r o) : cHo M y cd n q z r o := by
  rcases o with e | ⟨k, dp, op, R, t⟩
  · obtain ⟨N, g1, g2, g3⟩ := h
    exact ⟨N, g1, F.tr g2, g3⟩
  · obtain ⟨N, g1, g2, g3, g4⟩ := h
    exact ⟨N, g1, F.tr g2, fun x hx => (g3 x hx).trans (h1 x hx), g4⟩
theorem c_y134 (C : CT M cd n s) (Y : yRd M q z a) (B : cNB M a nm hc gc wc) (S : yC M q z k r dp op R) (ha : 12 ≤ a) (hz : a + 31 ≤ z) (hq : z + 6 ≤ q) (hr : r < 60) (hk : k < 30) (kw : Int32) {b : Bool} (hd : b = true → dp < 3) (h3 : dp ≤ 3) : cHo M (f_X10_readStepOrEnd_134 M (some q) kw (if b = true then 1 else 0)) cd n q z r (SR (yRest cd n nm hc gc kw (nx cd n s) r (u2 R 1 r kw)) fun t R' => .inr (k + 1, (if b = true then dp + 1 else dp), (if b = true then (fun j => if j = dp then r else op j) else op), R', t)) := by
  obtain ⟨a1, a2, a3, a4, a5⟩ := S
  have Y0 : yRd (sI M z 1 (nI (k + 1))) q z a := Y
  have C0 : CT (sI M z 1 (nI (k + 1))) cd n s := C.pz (z := z) (by omega) 0 1 _
  have B0 : cNB (sI M z 1 (nI (k + 1))) a nm hc gc wc := cNB_same B rfl rfl (mI_o (by omega)) (fun _ _ => rfl) (fun _ _ => rfl) (fun _ _ => rfl)
  have F0 : yFr M (sI M z 1 (nI (k + 1))) z q := yFr.rf.pz (j := 0) (by omega) (by omega) 1 _
  have z1 : mI (sI M z 1 (nI (k + 1))) z 1 = nI (k + 1) := mI_sI_s _ _ _ _
  have z2 : mI (sI M z 1 (nI (k + 1))) z 2 = nI r := by rw [mI_f (by decide)]; exact a4
  have o0 : ∀ x, x ≠ z → mI (sI M z 1 (nI (k + 1))) x = mI M x := fun x hx => mI_o hx
  unfold f_X10_readStepOrEnd_134
  rw [y_2 Y, y_zI Y, a3, nI_1, y_zp Y]
  generalize sI M z 1 (nI (k + 1)) = M0 at *
  have Y1 : yRd (sI M0 (z + 1) r kw) q z a := Y0
  have C1 : CT (sI M0 (z + 1) r kw) cd n s := C0.pz (by omega) _ _ _
  have B1 : cNB (sI M0 (z + 1) r kw) a nm hc gc wc := cNB_same B0 rfl rfl (mI_o (by omega)) (fun _ _ => rfl) (fun _ _ => rfl) (fun _ _ => rfl)
  have F1 : yFr M (sI M0 (z + 1) r kw) z q := F0.pz (by omega) (by omega) _ _
  have e1 : ∀ x, 12 ≤ x → mI (sI M0 (z + 1) r kw) 1 x = mI M 1 x := fun x _ => by rw [mI_o (by omega), o0 1 (by omega)]
  have S1 : yC (sI M0 (z + 1) r kw) q z (k + 1) r dp op (u2 R 1 r kw) := ⟨by rw [mI_o (by omega), o0 q (by omega)]; exact a1, fun j hj => by rw [mI_o (by omega), o0 (q + 1) (by omega)]; exact a2 j hj, by rw [mI_o (by omega)]; exact z1, by rw [mI_o (by omega)]; exact z2, fun j h1 h2 => mI_u2 M0 ((o0 (z + j) (by omega)).trans (a5 j h1 h2))⟩
  rw [y_2 Y0, y_z3 Y0, y_2 Y0, y_zI Y0, z2, y_as Y0 (by omega) (by omega) hr]
  generalize sI M0 (z + 1) r kw = M1 at *
  by_cases hb : b = true
  · have d3 := hd hb
    have S1' := S1
    obtain ⟨b1, b2, b3, b4, b5⟩ := S1'
    rw [if_pos hb, if_neg (by decide), if_pos hb, if_pos hb, y_3 Y1, y_gI Y1, b1, y_2 Y1, y_zI Y1, b4, y_qs Y1 d3]
    have Y2 : yRd (sI M1 (q + 1) dp (nI r)) q z a := Y1
    have C2 : CT (sI M1 (q + 1) dp (nI r)) cd n s := C1.o (by omega) (by omega) (by omega) _ _
    have F2 : yFr M (sI M1 (q + 1) dp (nI r)) z q := F1.pq (by omega) (by omega) _ _
    have B2 : cNB (sI M1 (q + 1) dp (nI r)) a nm hc gc wc := cNB_same B1 rfl rfl (mI_o (by omega)) (fun _ _ => rfl) (fun _ _ => rfl) (fun _ _ => rfl)
    rw [y_gI Y2, mI_o (by omega), b1, nI_1, y_pI Y2]
    have C3 : CT (sI (sI M1 (q + 1) dp (nI r)) q 4 (nI (dp + 1))) cd n s := C2.o (by omega) (by omega) (by omega) _ _
    have F3 : yFr M (sI (sI M1 (q + 1) dp (nI r)) q 4 (nI (dp + 1))) z q := F2.pq (j := 0) (by omega) (by omega) _ _
    have B3 : cNB (sI (sI M1 (q + 1) dp (nI r)) q 4 (nI (dp + 1))) a nm hc gc wc := cNB_same B2 rfl rfl (mI_o (by omega)) (fun _ _ => rfl) (fun _ _ => rfl) (fun _ _ => rfl)
    refine cHo_pre F3 (fun x hx => by rw [mI_o (by omega), mI_o (by omega)]; exact e1 x hx) (c_y193 C3 (show yRd (sI (sI M1 (q + 1) dp (nI r)) q 4 (nI (dp + 1))) q z a from Y2) B3 ⟨mI_sI_s _ _ _ _, fun j hj => ?_, by rw [mI_o (by omega), mI_o (by omega)]; exact b3, by rw [mI_o (by omega), mI_o (by omega)]; exact b4, fun j h1 h2 => by rw [mI_o (by omega), mI_o (by omega)]; exact b5 j h1 h2⟩ ha hz hq hr kw)
    show mI (sI (sI M1 (q + 1) dp (nI r)) q 4 (nI (dp + 1))) (q + 1) j = nI (if j = dp then r else op j)
    rw [mI_o (by omega)]
    by_cases e : j = dp
    · rw [if_pos e, e, mI_sI_s]
    · rw [if_neg e, mI_f e]
      exact b2 j (by omega)
  · rw [if_neg hb, if_pos rfl, if_neg hb, if_neg hb]
    exact cHo_pre F1 e1 (c_y193 C1 Y1 B1 S1 ha hz hq hr kw)
theorem c_y64 (C : CT M cd n s) (Y : yRd M q z a) (B : cNB M a nm hc gc wc) (S : yC M q z k r dp op R) (I : yI k r dp op) (ha : 12 ≤ a) (hz : a + 31 ≤ z) (hq : z + 6 ≤ q) (w28 : ¬ tkW cd n s = nI 28) : cHo M (f_X10_readStepOrEnd_64 M (some q) (tkW cd n s) (if opB (tkW cd n s) = true then 1 else 0) (if 0 ≤ swV (tkW cd n s) then 1 else 0)) cd n q z r (yHead cd n nm hc gc k r dp op R s) := by
  obtain ⟨a1, a2, a3, a4, a5⟩ := id S
  obtain ⟨i1, i2, i3, i4⟩ := I
  unfold f_X10_readStepOrEnd_64 yHead
  rw [if_neg w28]
  by_cases h0 : 0 ≤ swV (tkW cd n s)
  · have k2 : tkK cd n s = 2 := by
      rcases tkW_al cd n s with h | ⟨w, hw, h⟩
      · rw [h] at h0
        exact absurd h0 (by decide)
      · exact ((tkW_iff hw).mp h).1
    have fk : ∀ x, fK cd n s x = (x, s) := fun x => by
      unfold fK
      rw [if_neg (by omega)]
    have f102 : cHo M (f_X10_readStepOrEnd_102 M (some q)) cd n q z r (.inl (6, s)) := by
      obtain ⟨N, x1, x2⟩ := c_fail C 6
      rw [fk] at x2
      unfold f_X10_readStepOrEnd_102
      rw [y_0 Y, tp_ck C.1, show (6 : Int32) = nI 6 from rfl, x1, bd_s]
      exact ⟨N, rfl, x2.toY⟩
    rw [if_pos h0, if_pos h0, if_neg (by decide), y_2 Y, y_zI Y, a3]
    by_cases k30 : k = 30
    · rw [if_pos (by rw [show (30 : Int32) = nI 30 from rfl, nI_leI' (by omega) (by omega)]; omega), if_pos k30]
      exact f102
    · have g := c_y134 C Y B S ha hz hq (by omega) (by omega) (tkW cd n s) (b := opB (tkW cd n s))
      rw [if_neg (by rw [show (30 : Int32) = nI 30 from rfl, nI_leI' (by omega) (by omega)]; omega), if_neg k30, y_2 Y, y_zI Y, a4, if_pos (by rw [show (60 : Int32) = nI 60 from rfl, nI_ltI' (by omega) (by omega)]; omega)]
      by_cases hb : opB (tkW cd n s) = true
      · rw [if_neg (show ¬ (if opB (tkW cd n s) = true then (1 : Int32) else 0) = 0 by rw [if_pos hb]; decide), y_gI Y, a1]
        by_cases d3 : dp = 3
        · obtain ⟨N, x1, x2⟩ := c_fail C 7
          rw [fk] at x2
          rw [if_neg (by rw [show (3 : Int32) = nI 3 from rfl, nI_ltI' (by omega) (by omega)]; omega), if_pos (show opB (tkW cd n s) = true ∧ dp = 3 from ⟨hb, d3⟩), y_0 Y, tp_ck C.1, show (7 : Int32) = nI 7 from rfl, x1, bd_s]
          exact ⟨N, rfl, x2.toY⟩
        · rw [if_pos (by rw [show (3 : Int32) = nI 3 from rfl, nI_ltI' (by omega) (by omega)]; omega), if_neg (show ¬ (opB (tkW cd n s) = true ∧ dp = 3) from fun y => d3 y.2)]
          exact g (fun _ => by omega) i2
      · rw [if_pos (show (if opB (tkW cd n s) = true then (1 : Int32) else 0) = 0 by rw [if_neg hb]), if_neg (show ¬ (opB (tkW cd n s) = true ∧ dp = 3) from fun y => hb y.1)]
        exact g (fun y => absurd y hb) i2
  · obtain ⟨N, x1, x2⟩ := c_fail C 2
    rw [if_neg h0, if_neg h0, if_pos rfl, y_0 Y, tp_ck C.1, show (2 : Int32) = nI 2 from rfl, x1, bd_s]
    exact ⟨N, rfl, x2.toY⟩
theorem c_yHead (C : CT M cd n s) (Y : yRd M q z a) (B : cNB M a nm hc gc wc) (S : yC M q z k r dp op R) (I : yI k r dp op) (ha : 12 ≤ a) (hz : a + 31 ≤ z) (hq : z + 6 ≤ q) : cHo M (f_X10_readStepOrEnd M (some q)) cd n q z r (yHead cd n nm hc gc k r dp op R s) := by
  have same : ∀ {x : Option (Int32 × Mm)} {o : Sum (Nat × Nat) (Nat × Nat × (Nat → Nat) × (Nat → Nat → Int32) × Nat)}, cHo M x cd n q z r o → cHo M (zc x) cd n q z r o := fun {x o} g => by
    rcases o with e | ⟨k, dp, op, R, t⟩
    · obtain ⟨N', g1, g2⟩ := g
      exact ⟨N', by rw [g1, zc0], g2⟩
    · obtain ⟨N', g1, g2⟩ := g
      exact ⟨N', by rw [g1, zc1], g2⟩
  have idb : ∀ {x : Option (Int32 × Mm)} {o : Sum (Nat × Nat) (Nat × Nat × (Nat → Nat) × (Nat → Nat → Int32) × Nat)}, cHo M x cd n q z r o → cHo M (bd x fun v M => some (v, M)) cd n q z r o := fun {x o} g => by
    rcases o with e | ⟨k, dp, op, R, t⟩
    · obtain ⟨N', g1, g2⟩ := g
      exact ⟨N', by rw [g1, bd_s], g2⟩
    · obtain ⟨N', g1, g2⟩ := g
      exact ⟨N', by rw [g1, bd_s], g2⟩
  unfold f_X10_readStepOrEnd g_X10_readStepOrEnd
  refine same ?_
  rw [y_0 Y, tp_gI C.1, tc_w C.2]
  by_cases w28 : tkW cd n s = nI 28
  · rw [if_pos (show tkW cd n s = 28 from w28), yr_ck Y]
    have g := c_yEnd C Y S I (by omega) hq w28
    unfold yHead
    rw [if_pos w28]
    exact idb g
  · have g := c_y64 C Y B S I ha hz hq w28
    rw [if_neg (show ¬ tkW cd n s = 28 from w28)]
    by_cases q24 : tkW cd n s = nI 24
    · have o : opB (tkW cd n s) = true := opB_t.mpr (Or.inl q24)
      have b : 0 ≤ swV (tkW cd n s) := by rw [q24]; decide
      rw [if_pos o, if_pos b] at g
      rw [if_pos (show tkW cd n s = 24 from q24)]
      unfold f_X10_readStepOrEnd_31 f_X10_readStepOrEnd_36 f_X10_readStepOrEnd_59
      rw [if_neg (show ¬ (1 : Int32) = 0 by decide)]
      exact g
    rw [if_neg (show ¬ tkW cd n s = 24 from q24)]
    by_cases q27 : tkW cd n s = nI 27
    · have o : opB (tkW cd n s) = true := opB_t.mpr (Or.inr q27)
      have b : 0 ≤ swV (tkW cd n s) := by rw [q27]; decide
      rw [if_pos o, if_pos b] at g
      rw [if_pos (show tkW cd n s = 27 from q27)]
      unfold f_X10_readStepOrEnd_31 f_X10_readStepOrEnd_36 f_X10_readStepOrEnd_59
      rw [if_neg (show ¬ (1 : Int32) = 0 by decide)]
      exact g
    rw [if_neg (show ¬ tkW cd n s = 27 from q27)]
    have o : ¬ opB (tkW cd n s) = true := fun y => (opB_t.mp y).elim q24 q27
    have bt := beg_t cd n s q24 q27
    rw [if_neg o] at g
    unfold f_X10_readStepOrEnd_36 f_X10_readStepOrEnd_59 f_X10_readStepOrEnd_63
    rw [if_pos rfl]
    by_cases b : 0 ≤ swV (tkW cd n s)
    · rw [if_pos b] at g
      by_cases q29 : tkW cd n s = 29
      · rw [if_pos q29]
        exact g
      · have y := (bt.mpr b).resolve_left q29
        rw [if_neg q29, if_neg y.1, if_neg y.2]
        exact g
    · rw [if_neg b] at g
      have y : ¬ (tkW cd n s = 29 ∨ (¬ tkW cd n s < 18 ∧ ¬ 22 < tkW cd n s)) := fun y => b (bt.mp y)
      rw [if_neg (fun y2 => y (Or.inl y2))]
      by_cases l18 : tkW cd n s < 18
      · rw [if_pos l18]
        exact g
      · rw [if_neg l18, if_pos (Decidable.byContradiction fun y2 => y (Or.inr ⟨l18, y2⟩))]
        exact g
/-- all of them -/
def cYa (M : Mm) (y : Option (Int32 × Mm)) (cd : Nat → Nat) (n q z : Nat) (o : Sum (Nat × Nat) (Nat × Nat × (Nat → Nat → Int32))) : Prop := match o with
  | .inl e => ∃ N, y = some (0, N) ∧ yFr M N z q ∧ mI N 1 12 = nI e.1 ∧ mI N 1 13 = nI e.2
  | .inr (k, r, R) => ∃ N, y = some (1, N) ∧ yFr M N z q ∧ (∀ k, 12 ≤ k → mI N 1 k = mI M 1 k) ∧ k ≤ 30 ∧ r ≤ 60 ∧ mI N z 0 = 1 ∧ mI N z 1 = nI k ∧ mI N z 2 = nI r ∧ ∀ j, 1 ≤ j → j ≤ 5 → mI N (z + j) = R j
theorem c_y72 (C : CT M cd n s) (Y : yRd M q z a) (S : yC M q z k r dp op R) (I : yI k r dp op) (hz : 12 ≤ z) (hq : z + 6 ≤ q) (h0 : tkK cd n s = 0) : cYa M (f_X10_readAll_72 M (some q)) cd n q z (if dp = 0 then .inr (k, r, R) else .inl (2, s)) := by
  obtain ⟨a1, a2, a3, a4, a5⟩ := S
  obtain ⟨i1, i2, i3, i4⟩ := I
  have Y0 : yRd (sI M z 0 1) q z a := Y
  have F0 : yFr M (sI M z 0 1) z q := yFr.rf.pz (j := 0) hz (by omega) 0 1
  have C0 : CT (sI M z 0 1) cd n s := C.pz (z := z) hz 0 0 1
  unfold f_X10_readAll_72 f_X10_readAll_98
  rw [y_2 Y, pfZ_s (by rw [Y.2.2.2.2.2.2.1]) (Or.inr rfl), y_gI Y0, mI_o (by omega), a1]
  by_cases d : dp = 0
  · rw [if_pos (by rw [d]; rfl), if_pos d]
    exact ⟨_, rfl, F0, fun x _ => by rw [mI_o (by omega)], i1, by omega, mI_sI_s _ _ _ _, by rw [mI_f (by decide)]; exact a3, by rw [mI_f (by decide)]; exact a4, fun j h1 h2 => by rw [mI_o (by omega)]; exact a5 j h1 h2⟩
  · obtain ⟨N, x1, x2⟩ := c_fail C0 2
    have fk : fK cd n s 2 = (2, s) := by
      unfold fK
      rw [if_neg (by omega)]
    rw [fk] at x2
    rw [if_neg (show ¬ nI dp = 0 from fun y => d ((nI_eq' (b := 0) (by omega) (by omega)).mp y)), if_neg d, y_0 Y0, tp_ck C0.1, show (2 : Int32) = nI 2 from rfl, x1, bd_s, if_pos rfl]
    obtain ⟨w1, w2, w3⟩ := x2.toY (z := z) (q := q)
    exact ⟨N, rfl, F0.tr w1, w2, w3⟩
theorem c_yAll (ha : 12 ≤ a) (hz : a + 31 ≤ z) (hq : z + 6 ≤ q) (hn : n ≤ 300) : ∀ f p s k r dp op R M, p ≤ s → n - s < f → CT M cd n s → yRd M q z a → cNB M a nm hc gc wc → yC M q z k r dp op R → yI k r dp op → cYa M (f_X10_readAll_17 f M (some q) (nI p)) cd n q z (rdY cd n nm hc gc f k r dp op R s) := by
  intro f
  induction f with
  | zero => intro p s k r dp op R M _ h; omega
  | succ f ih =>
    intro p s k r dp op R M hp hf C Y B S I
    have n9 := C.1.2.2.2.2.2.1
    have sn := C.2.1
    have k4 := tkK_4 cd n s
    by_cases hK : tkK cd n s = 0
    · have g := c_y72 C Y S I (by omega) hq hK
      rw [rdY, if_pos hK, f_X10_readAll_17]
      by_cases h3 : 300 ≤ p
      · rw [if_pos (by rw [show (300 : Int32) = nI 300 from rfl, nI_leI' (by omega) (by omega)]; exact h3)]
        exact g
      · rw [if_neg (by rw [show (300 : Int32) = nI 300 from rfl, nI_leI' (by omega) (by omega)]; exact h3), y_0 Y, tp_gI C.1, C.2.2.2.2.1, if_pos (by rw [hK]; rfl)]
        exact g
    · have hs := tkK_s hK
      have g := c_yHead C Y B S I ha hz hq
      rw [rdY, if_neg hK, f_X10_readAll_17, if_neg (by rw [show (300 : Int32) = nI 300 from rfl, nI_leI' (by omega) (by omega)]; omega), y_0 Y, tp_gI C.1, C.2.2.2.2.1, if_neg (fun y => hK ((nI_eq' (by omega) (by omega)).mp (y.trans (show (0 : Int32) = nI 0 from rfl)))), yr_ck Y]
      rcases hr : yHead cd n nm hc gc k r dp op R s with e | ⟨k', dp', op', R', t⟩
      · rw [hr] at g
        obtain ⟨N, g1, g2⟩ := g
        rw [g1, bd_s, if_pos rfl]
        exact ⟨N, rfl, g2⟩
      · obtain ⟨I', st⟩ := yHead_ok I hr
        rw [hr] at g
        obtain ⟨N, g1, g2, g3, C1, S1⟩ := g
        have Y1 : yRd N q z a := Y.same g2.1 g2.2.1
        have g := c_takeSemi C1
        rw [g1, bd_s, if_neg (by decide), y_0 Y1, tp_ck C1.1]
        dsimp only
        rcases hr2 : tSm cd n t with e | u
        · rw [hr2] at g
          obtain ⟨N2, x1, x2⟩ := g
          obtain ⟨w1, w2, w3⟩ := x2.toY (z := z) (q := q)
          rw [x1, bd_s, if_pos rfl]
          exact ⟨N2, rfl, g2.tr w1, w2, w3⟩
        · rw [hr2] at g
          obtain ⟨N2, x1, x2, C2⟩ := g
          have tu := tSm_gt hr2
          have S2 := S1.v (by omega) (by omega) x2
          have Y2 : yRd N2 q z a := Y1.same x2.1 x2.2.1
          have F2 : yFr M N2 z q := g2.tr x2.toY
          obtain ⟨b1, b2, b3, b4, b5⟩ := S2
          have Y3 : yRd (sI N2 z 2 (nI (r + 1))) q z a := Y2
          have C3 : CT (sI N2 z 2 (nI (r + 1))) cd n u := C2.pz (z := z) (by omega) 0 2 _
          have F3 : yFr M (sI N2 z 2 (nI (r + 1))) z q := F2.pz (j := 0) (by omega) (by omega) 2 _
          have h8 := B.2.1.2
          have g4 := B.2.2.1.2
          have w6 := B.2.2.2.1.2
          have B3 : cNB (sI N2 z 2 (nI (r + 1))) a nm hc gc wc := cNB_same B F3.1 F3.2.1 (F3.2.2.2.1 a (by omega) (by omega) (by omega) (by omega)).1 (fun i _ => by rw [(F3.2.2.2.1 (a + 13 + i) (by omega) (by omega) (by omega) (by omega)).2]) (fun i _ => by rw [(F3.2.2.2.1 (a + 21 + i) (by omega) (by omega) (by omega) (by omega)).2]) (fun i _ => by rw [(F3.2.2.2.1 (a + 25 + i) (by omega) (by omega) (by omega) (by omega)).2])
          have e1 : ∀ x, 12 ≤ x → mI (sI N2 z 2 (nI (r + 1))) 1 x = mI M 1 x := fun x hx => by rw [mI_o (by omega), x2.2.2.2.2 x (by omega), g3 x hx]
          have S3 : yC (sI N2 z 2 (nI (r + 1))) q z k' (r + 1) dp' op' R' := ⟨by rw [mI_o (by omega)]; exact b1, fun j hj => by rw [mI_o (by omega)]; exact b2 j hj, by rw [mI_f (by decide)]; exact b3, mI_sI_s _ _ _ _, fun j h1 h2 => by rw [mI_o (by omega)]; exact b5 j h1 h2⟩
          rw [x1, bd_s, if_neg (by decide), y_2 Y2, y_zI Y2, b4, nI_1, y_zp Y2, nI_1]
          dsimp only
          have x := ih (p + 1) u k' (r + 1) dp' op' R' _ (by omega) (by omega) C3 Y3 B3 S3 I'
          rcases hr3 : rdY cd n nm hc gc f k' (r + 1) dp' op' R' u with e | ⟨k2, r2, R2⟩
          · rw [hr3] at x
            obtain ⟨N4, w1, w2, w3⟩ := x
            exact ⟨N4, w1, F3.tr w2, w3⟩
          · rw [hr3] at x
            obtain ⟨N4, w1, w2, w3, w4⟩ := x
            exact ⟨N4, w1, F3.tr w2, fun i hi => (w3 i hi).trans (e1 i hi), w4⟩
end C

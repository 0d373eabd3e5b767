/-! TEXTS: the class reads the parts -/
def cFq (M N : Mm) (b q : Nat) : Prop := mK N = mK M ∧ mR N = mR M ∧ mT N = mT M ∧ (∀ y, y ≠ 1 → y ≠ q → y < b ∨ b + 31 ≤ y → mI N y = mI M y ∧ mL N y = mL M y) ∧ ∀ k, k = 1 ∨ k = 3 → mI N 1 k = mI M 1 k
section C
variable {M N M0 : Mm} {cd : Nat → Nat} {n s b q p : Nat} {c : Nat → Int32} {nm : Nat → List Nat} {tl : Bool} {e : Nat × Nat}
theorem cFq.tr {M M' M'' : Mm} (h : cFq M M' b q) (h2 : cFq M' M'' b q) : cFq M M'' b q := ⟨h2.1.trans h.1, h2.2.1.trans h.2.1, h2.2.2.1.trans h.2.2.1, fun y a d g => ⟨(h2.2.2.2.1 y a d g).1.trans (h.2.2.2.1 y a d g).1, (h2.2.2.2.1 y a d g).2.trans (h.2.2.2.1 y a d g).2⟩, fun k hk => (h2.2.2.2.2 k hk).trans (h.2.2.2.2 k hk)⟩
theorem cFr.toQ (h : cFr M N b) : cFq M N b q := ⟨h.1, h.2.1, h.2.2.1, fun y a _ g => h.2.2.2.1 y a g, h.2.2.2.2⟩
theorem cFq.rf : cFq M M b q := ⟨rfl, rfl, rfl, fun _ _ _ _ => ⟨rfl, rfl⟩, fun _ _ => rfl⟩
theorem cFq.told (hb : 12 ≤ b) (hq : b + 31 ≤ q) (v : Int32) : cFq M (sI M q 2 v) b q := ⟨rfl, rfl, rfl, fun y a d g => ⟨mI_o d, rfl⟩, fun k hk => by rw [mI_o (by omega)]⟩
theorem c_disp (f : Nat) (C : CT M cd n s) (D : dC M b c nm) (ok : dOK c) (R : rdS M q b) (hb : 12 ≤ b) (hq : b + 31 ≤ q) (ht : mI M q 2 = if tl = true then 1 else 0) (hK : tkK cd n s ≠ 0) (hp : p < 900) : ∃ y M0, f_X5_readAll_17 (f + 1) M (some q) (nI p) = bd y (fun v N => f_X5_readAll_165 (f_X5_readAll_17 f) N (some q) (nI p) v) ∧ cOut M0 y cd n b (rdP cd n c nm tl s) ∧ cFq M M0 b q ∧ (∀ k, mI M0 1 k = mI M 1 k) ∧ mI M0 q 2 = (if (tl || decide (tkW cd n s = nI 14)) = true then 1 else 0) := by
  have k4 := tkK_4 cd n s
  rw [f_X5_readAll_17, if_neg (by rw [show (900 : Int32) = nI 900 from rfl, nI_leI' (by omega) (by omega)]; omega), rd_0 R, tp_gI C.1, C.2.2.2.2.1, if_neg (fun z => hK ((nI_eq' (by omega) (by omega)).mp (z.trans (show (0 : Int32) = nI 0 from rfl)))), rd_0 R, tp_gI C.1, tc_w C.2]
  have same : ∀ w, w ≠ 14 → w < 30 → tkW cd n s = nI w → mI M q 2 = (if (tl || decide (tkW cd n s = nI 14)) = true then 1 else 0) := fun w h1 h2 h3 => by
    have z : decide (tkW cd n s = nI 14) = false := decide_eq_false (fun y => h1 ((nI_eq' (by omega) (by omega)).mp (h3.symm.trans y)))
    rw [z, Bool.or_false]
    exact ht
  have bad : (∀ w, w = 0 ∨ w = 7 ∨ w = 10 ∨ w = 12 ∨ w = 14 → ¬ tkW cd n s = nI w) → ∃ y M0, (gfR M (some q) 5 0 fun v => ck M v 6 <| bd (f_X6_fail M v 2) fun v N => f_X5_readAll_165 (f_X5_readAll_17 f) N (some q) (nI p) v) = bd y (fun v N => f_X5_readAll_165 (f_X5_readAll_17 f) N (some q) (nI p) v) ∧ cOut M0 y cd n b (rdP cd n c nm tl s) ∧ cFq M M0 b q ∧ (∀ k, mI M0 1 k = mI M 1 k) ∧ mI M0 q 2 = (if (tl || decide (tkW cd n s = nI 14)) = true then 1 else 0) := fun hw => by
    obtain ⟨N, h1, h2⟩ := c_fail C 2
    refine ⟨f_X6_fail M (some 1) 2, M, by rw [rd_0 R, tp_ck C.1], ?_, cFq.rf, fun _ => rfl, ?_⟩
    · unfold rdP
      rw [if_neg (hw 0 (by omega)), if_neg (hw 7 (by omega)), if_neg (hw 10 (by omega)), if_neg (hw 12 (by omega)), if_neg (hw 14 (by omega))]
      exact ⟨N, h1, h2.fr⟩
    · rw [decide_eq_false (hw 14 (by omega)), Bool.or_false]
      exact ht
  have ckq : ∀ {ρ : Type} {x : Option ρ}, ck M (some q) 5 x = x := fun {ρ x} => ck_s (by rw [R.1])
  by_cases h0 : tkW cd n s = nI 0
  · rw [if_pos (show tkW cd n s = 0 from h0)]
    refine ⟨f_X5_readHouse M (some q), M, by rw [ckq], ?_, cFq.rf, fun _ => rfl, same 0 (by omega) (by omega) h0⟩
    unfold rdP
    rw [if_pos h0]
    exact c_house C D ok R hb
  rw [if_neg (show ¬ tkW cd n s = 0 from h0)]
  by_cases h1 : tkW cd n s = nI 1
  · rw [if_pos (show tkW cd n s = 1 from h1)]
    exact bad (fun w hw z => by have := (nI_eq' (a := 1) (b := w) (by omega) (by omega)).mp (h1.symm.trans z); omega)
  rw [if_neg (show ¬ tkW cd n s = 1 from h1)]
  by_cases h2 : tkW cd n s = nI 2
  · rw [if_pos (show tkW cd n s = 2 from h2)]
    exact bad (fun w hw z => by have := (nI_eq' (a := 2) (b := w) (by omega) (by omega)).mp (h2.symm.trans z); omega)
  rw [if_neg (show ¬ tkW cd n s = 2 from h2)]
  by_cases h3 : tkW cd n s = nI 3
  · rw [if_pos (show tkW cd n s = 3 from h3)]
    exact bad (fun w hw z => by have := (nI_eq' (a := 3) (b := w) (by omega) (by omega)).mp (h3.symm.trans z); omega)
  rw [if_neg (show ¬ tkW cd n s = 3 from h3)]
  by_cases h4 : tkW cd n s = nI 4
  · rw [if_pos (show tkW cd n s = 4 from h4)]
    exact bad (fun w hw z => by have := (nI_eq' (a := 4) (b := w) (by omega) (by omega)).mp (h4.symm.trans z); omega)
  rw [if_neg (show ¬ tkW cd n s = 4 from h4)]
  by_cases h5 : tkW cd n s = nI 5
  · rw [if_pos (show tkW cd n s = 5 from h5)]
    exact bad (fun w hw z => by have := (nI_eq' (a := 5) (b := w) (by omega) (by omega)).mp (h5.symm.trans z); omega)
  rw [if_neg (show ¬ tkW cd n s = 5 from h5)]
  by_cases h6 : tkW cd n s = nI 6
  · rw [if_pos (show tkW cd n s = 6 from h6)]
    exact bad (fun w hw z => by have := (nI_eq' (a := 6) (b := w) (by omega) (by omega)).mp (h6.symm.trans z); omega)
  rw [if_neg (show ¬ tkW cd n s = 6 from h6)]
  by_cases h7 : tkW cd n s = nI 7
  · rw [if_pos (show tkW cd n s = 7 from h7)]
    refine ⟨f_X5_readGang M (some q), M, by rw [ckq], ?_, cFq.rf, fun _ => rfl, same 7 (by omega) (by omega) h7⟩
    unfold rdP
    rw [if_neg h0, if_pos h7]
    exact c_gang C D ok R hb
  rw [if_neg (show ¬ tkW cd n s = 7 from h7)]
  by_cases h8 : tkW cd n s = nI 8
  · rw [if_pos (show tkW cd n s = 8 from h8)]
    exact bad (fun w hw z => by have := (nI_eq' (a := 8) (b := w) (by omega) (by omega)).mp (h8.symm.trans z); omega)
  rw [if_neg (show ¬ tkW cd n s = 8 from h8)]
  by_cases h9 : tkW cd n s = nI 9
  · rw [if_pos (show tkW cd n s = 9 from h9)]
    exact bad (fun w hw z => by have := (nI_eq' (a := 9) (b := w) (by omega) (by omega)).mp (h9.symm.trans z); omega)
  rw [if_neg (show ¬ tkW cd n s = 9 from h9)]
  by_cases h10 : tkW cd n s = nI 10
  · rw [if_pos (show tkW cd n s = 10 from h10)]
    refine ⟨f_X5_readHelped M (some q), M, by rw [ckq], ?_, cFq.rf, fun _ => rfl, same 10 (by omega) (by omega) h10⟩
    unfold rdP
    rw [if_neg h0, if_neg h7, if_pos h10]
    exact c_helped C D ok R hb
  rw [if_neg (show ¬ tkW cd n s = 10 from h10)]
  by_cases h11 : tkW cd n s = nI 11
  · rw [if_pos (show tkW cd n s = 11 from h11)]
    exact bad (fun w hw z => by have := (nI_eq' (a := 11) (b := w) (by omega) (by omega)).mp (h11.symm.trans z); omega)
  rw [if_neg (show ¬ tkW cd n s = 11 from h11)]
  by_cases h12 : tkW cd n s = nI 12
  · rw [if_pos (show tkW cd n s = 12 from h12)]
    refine ⟨f_X5_readWind M (some q), M, by rw [ckq], ?_, cFq.rf, fun _ => rfl, same 12 (by omega) (by omega) h12⟩
    unfold rdP
    rw [if_neg h0, if_neg h7, if_neg h10, if_pos h12]
    exact c_wind C D ok R hb
  rw [if_neg (show ¬ tkW cd n s = 12 from h12)]
  by_cases h13 : tkW cd n s = nI 13
  · rw [if_pos (show tkW cd n s = 13 from h13)]
    exact bad (fun w hw z => by have := (nI_eq' (a := 13) (b := w) (by omega) (by omega)).mp (h13.symm.trans z); omega)
  rw [if_neg (show ¬ tkW cd n s = 13 from h13)]
  by_cases h14 : tkW cd n s = nI 14
  · rw [if_pos (show tkW cd n s = 14 from h14)]
    unfold rdP
    rw [if_neg h0, if_neg h7, if_neg h10, if_neg h12, if_pos h14, decide_eq_true h14, Bool.or_true]
    by_cases t : tl = true
    · rw [if_pos t] at ht
      refine ⟨f_X5_readLaw M (some q), M, by rw [ckq], ?_, cFq.rf, fun _ => rfl, by rw [if_pos rfl]; exact ht⟩
      rw [if_pos t]
      exact c_law0 C R (by rw [ht]; decide)
    · rw [if_neg t] at ht
      refine ⟨f_X5_readLaw M (some q), sI M q 2 1, by rw [ckq], ?_, cFq.told hb hq 1, fun k => by rw [mI_o (by omega)], by rw [mI_sI_s, if_pos rfl]⟩
      rw [if_neg t]
      exact c_law C D ok R hb hq ht
  rw [if_neg (show ¬ tkW cd n s = 14 from h14)]
  exact bad (fun w hw z => by
    rcases hw with hw | hw | hw | hw | hw <;> subst hw
    · exact h0 z
    · exact h7 z
    · exact h10 z
    · exact h12 z
    · exact h14 z)
/-- the class reads all parts -/
def cAll (M : Mm) (y : Option (Int32 × Mm)) (cd : Nat → Nat) (n b q : Nat) (o : Sum (Nat × Nat) ((Nat → Int32) × (Nat → List Nat))) : Prop := match o with
  | .inl e => ∃ N, y = some (0, N) ∧ cFq M N b q ∧ mI N 1 12 = nI e.1 ∧ mI N 1 13 = nI e.2
  | .inr (c, nm) => ∃ N, y = some (1, N) ∧ cFq M N b q ∧ (∀ k, 12 ≤ k → mI N 1 k = mI M 1 k) ∧ dC N b c nm ∧ dOK c
theorem c_all (hb : 12 ≤ b) (hq : b + 31 ≤ q) : ∀ f p s c nm tl M, p ≤ s → n - s < f → CT M cd n s → dC M b c nm → dOK c → rdS M q b → mI M q 2 = (if tl = true then 1 else 0) → cAll M (f_X5_readAll_17 f M (some q) (nI p)) cd n b q (rdA cd n f c nm tl s) := by
  intro f
  induction f with
  | zero => intro p s c nm tl M _ h; omega
  | succ f ih =>
    intro p s c nm tl M hp hf C D ok R ht
    have n9 := C.1.2.2.2.2.2.1
    have sn := C.2.1
    have k4 := tkK_4 cd n s
    by_cases hK : tkK cd n s = 0
    · rw [rdA, if_pos hK, f_X5_readAll_17]
      by_cases h9 : 900 ≤ p
      · rw [if_pos (by rw [show (900 : Int32) = nI 900 from rfl, nI_leI' (by omega) (by omega)]; exact h9)]
        exact ⟨M, rfl, cFq.rf, fun _ _ => rfl, D, ok⟩
      · rw [if_neg (by rw [show (900 : Int32) = nI 900 from rfl, nI_leI' (by omega) (by omega)]; exact h9), rd_0 R, tp_gI C.1, C.2.2.2.2.1, if_pos (by rw [hK]; rfl)]
        exact ⟨M, rfl, cFq.rf, fun _ _ => rfl, D, ok⟩
    · have hs := tkK_s hK
      obtain ⟨y, M0, h1, h2, h3, h3', h4⟩ := c_disp f C D ok R hb hq ht hK (p := p) (by omega)
      rw [rdA, if_neg hK, h1]
      rcases hr : rdP cd n c nm tl s with e | ⟨t, c', nm'⟩
      · rw [hr] at h2
        obtain ⟨N, z1, z2, z3, z4⟩ := h2
        rw [z1, bd_s]
        unfold f_X5_readAll_165
        rw [if_pos rfl]
        exact ⟨N, rfl, h3.tr z2.toQ, z3, z4⟩
      · obtain ⟨st, ok'⟩ := rdP_ok ok hr
        rw [hr] at h2
        obtain ⟨N, z1, z2, z3, C2, D2⟩ := h2
        have F2 : cFq M N b q := h3.tr z2.toQ
        have R2 : rdS N q b := by
          unfold rdS at *
          rw [F2.1, F2.2.1]
          exact R
        have g := c_takeSemi C2
        rw [z1, bd_s]
        unfold f_X5_readAll_165
        rw [if_neg (by decide), rd_0 R2, tp_ck C2.1]
        dsimp only
        rcases hr2 : tSm cd n t with e | u
        · rw [hr2] at g
          obtain ⟨N2, g1, g2⟩ := g
          rw [g1, bd_s, if_pos rfl]
          obtain ⟨x1, x2, x3⟩ := g2.fr (b := b)
          exact ⟨N2, rfl, F2.tr x1.toQ, x2, x3⟩
        · rw [hr2] at g
          obtain ⟨N2, g1, g2, C3⟩ := g
          have tu := tSm_gt hr2
          have x := (g2.fr (b := b)).1
          have D3 := dC_v D2 ok' hb g2
          have R3 := g2.R R2
          have q2 : mI N2 q 2 = (if (tl || decide (tkW cd n s = nI 14)) = true then 1 else 0) := by
            rw [(g2.2.2.2.1 q (by omega)).1, (z2.2.2.2.1 q (by omega) (by omega)).1]
            exact h4
          have r := ih (p + 1) u c' nm' (tl || decide (tkW cd n s = nI 14)) N2 (by omega) (by omega) C3 D3 ok' R3 q2
          rw [g1, bd_s, if_neg (by decide), nI_1]
          dsimp only
          rcases hr3 : rdA cd n f c' nm' (tl || decide (tkW cd n s = nI 14)) u with e | ⟨c'', nm''⟩
          · rw [hr3] at r
            obtain ⟨N3, r1, r2, r3, r4⟩ := r
            exact ⟨N3, r1, (F2.tr x.toQ).tr r2, r3, r4⟩
          · rw [hr3] at r
            obtain ⟨N3, r1, r2, r3, r4, r5⟩ := r
            exact ⟨N3, r1, (F2.tr x.toQ).tr r2, fun k hk => by rw [r3 k hk, g2.2.2.2.2 k (by omega), z3 k hk, h3' k], r4, r5⟩
end C

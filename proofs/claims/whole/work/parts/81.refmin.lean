/-! THE REFERENCE'S MINUTE, its hour -/
theorem fin_eq {f : Nat → Int32} {g h : Nat} (x y : Int32) (hg : g < 4) (hh : h < 8) : drops (upd (upd f (157 + g) x) (53 + h) y) g = upd (drops f g) (53 + h) y := by
  funext k
  by_cases q : k = 53 + h
  · rw [q, drops_o (by omega) (by omega) (by omega), pk_us, pk_us]
  · rw [pk_un q]
    by_cases q1 : k = 149 + g
    · rw [q1, drops_9, drops_9]
    · by_cases q2 : k = 153 + g
      · rw [q2, drops_3, drops_3]
      · by_cases q3 : k = 157 + g
        · rw [q3, drops_7, drops_7]
        · rw [drops_o q1 q2 q3, drops_o q1 q2 q3, pk_un q, pk_un q3]
theorem mI_sI_s (M : Mm) (a k : Nat) (v : Int32) : mI (sI M a k v) a k = v := if_pos ⟨rfl, rfl⟩
section F
variable {M : Mm} {f : Nat → Int32} {w : Int32}
theorem q_m98 (D : mdL M) (O : okC f) {g h : Nat} (hg : g < gN f) (hh : h < hN f) : f_X12_minute_98 (sA (sI M 207 26 w) 212 f) (some 207) (nI g) (nI h) = some (sA (sI M 207 26 (w + (m98 f g h).2)) 212 (m98 f g h).1) := by
  have g4 := (ok_g O).2
  have h8 := (ok_h O).2
  obtain ⟨⟨⟨b1, -⟩, b2⟩, -⟩ := O.2.2.2.2.2.2.2.1 g hg
  replace D : mdL (sI M 207 26 w) := D
  unfold f_X12_minute_98 m98
  by_cases h1 : f (157 + g) - 1 ≤ 0
  · by_cases h2 : f (53 + h) - 1 ≤ 0
    · rw [if_pos h1, if_pos h2]
      simp (disch := omega) only [↓f_r20 D, ↓f_ck D, ↓f_c0 D, ↓f_c1 D, ↓f_c2 D, ↓f_c4 D, ↓f_c D, ↓f_sc D, ↓f_sc4 D, ↓f_gI D, ↓f_pI D, i2, i3, i4, i5, i13, i21, i29, i37, i45, i53, i61, i69, i133, i137, i141, i145, i149, i153, i157, i161, i167, i4m, i6m, i8m, i9m, i18m, i60m, i256m, i450m, nI_add, ↓nmI_s, ↓bd_s, ↓bv_s, nI_1, ↓reduceIte, pk_us, pk_un, h1, h2, if_true, mI_sI_s, sI_sI]
      replace D : mdL (sI M 207 26 (w + 1)) := D
      rw [q_drops D (by omega), bv_s]
      simp (disch := omega) only [↓f_r20 D, ↓f_ck D, ↓f_c0 D, ↓f_c1 D, ↓f_c2 D, ↓f_c4 D, ↓f_c D, ↓f_sc D, ↓f_sc4 D, ↓f_gI D, ↓f_pI D, i2, i3, i4, i5, i13, i21, i29, i37, i45, i53, i61, i69, i133, i137, i141, i145, i149, i153, i157, i161, i167, i4m, i6m, i8m, i9m, i18m, i60m, i256m, i450m, nI_add, ↓nmI_s, ↓bd_s, ↓bv_s, nI_1, ↓reduceIte, fin_eq]
      have e0 : upd (drops f g) (53 + h) (f (53 + h) - 1) (133 + g) = f (133 + g) := (pk_un (by omega)).trans (drops_o (by omega) (by omega) (by omega))
      rw [e0]
      have e1 : fin f g h (133 + g) = f (133 + g) := e0
      unfold dbt
      rw [e1, na_same e1]
      by_cases h3 : f (133 + g) = nI h
      · rw [if_pos h3, if_pos h3]
        rfl
      · rw [if_neg h3, if_neg h3, b1]
        simp (disch := omega) only [↓f_r20 D, ↓f_ck D, ↓f_c0 D, ↓f_c1 D, ↓f_c2 D, ↓f_c4 D, ↓f_c D, ↓f_sc D, ↓f_sc4 D, ↓f_gI D, ↓f_pI D, i2, i3, i4, i5, i13, i21, i29, i37, i45, i53, i61, i69, i133, i137, i141, i145, i149, i153, i157, i161, i167, i4m, i6m, i8m, i9m, i18m, i60m, i256m, i450m, nI_add, ↓nmI_s, ↓bd_s, ↓bv_s, nI_1, ↓reduceIte]
        rfl
    · rw [if_pos h1, if_neg h2]
      simp (disch := omega) only [↓f_r20 D, ↓f_ck D, ↓f_c0 D, ↓f_c1 D, ↓f_c2 D, ↓f_c4 D, ↓f_c D, ↓f_sc D, ↓f_sc4 D, ↓f_gI D, ↓f_pI D, i2, i3, i4, i5, i13, i21, i29, i37, i45, i53, i61, i69, i133, i137, i141, i145, i149, i153, i157, i161, i167, i4m, i6m, i8m, i9m, i18m, i60m, i256m, i450m, nI_add, ↓nmI_s, ↓bd_s, ↓bv_s, nI_1, ↓reduceIte, pk_us, pk_un, h1, h2, if_true, if_false, Int32.add_zero]
  · rw [if_neg h1]
    simp (disch := omega) only [↓f_r20 D, ↓f_ck D, ↓f_c0 D, ↓f_c1 D, ↓f_c2 D, ↓f_c4 D, ↓f_c D, ↓f_sc D, ↓f_sc4 D, ↓f_gI D, ↓f_pI D, i2, i3, i4, i5, i13, i21, i29, i37, i45, i53, i61, i69, i133, i137, i141, i145, i149, i153, i157, i161, i167, i4m, i6m, i8m, i9m, i18m, i60m, i256m, i450m, nI_add, ↓nmI_s, ↓bd_s, ↓bv_s, nI_1, ↓reduceIte, pk_us, pk_un, h1, if_false, Int32.add_zero]
theorem q_m30 (D : mdL M) (O : okC f) {g h : Nat} (hg : g < gN f) (hh : h < hN f) (e : f (149 + g) = nI h) (on : isOn f h) : f_X12_minute_30 (sA (sI M 207 26 w) 212 f) (some 207) (nI g) = some (sA (sI M 207 26 (w + (m30 f g).2)) 212 (m30 f g).1) := by
  have g4 := (ok_g O).2
  have h8 := (ok_h O).2
  have en : na f (149 + g) = h := na_of e (by omega)
  have D2 : mdL M := D
  replace D : mdL (sI M 207 26 w) := D
  unfold f_X12_minute_30 m30
  rw [en]
  by_cases h1 : f (153 + g) ≤ 0
  · rw [if_pos h1]
    obtain ⟨O1, p1, o1⟩ := okC_bgn O hg hh e on
    have hH : hN (bgn f g h) = hN f := na_same (o1 0 (by omega))
    have hG : gN (bgn f g h) = gN f := na_same (o1 1 (by omega))
    have key := q_m98 (w := w) D2 O1 (g := g) (h := h) (by rw [hG]; exact hg) (by rw [hH]; exact hh)
    rw [← key]
    by_cases h2 : f (157 + g) = 0
    · simp (disch := omega) only [↓f_r20 D, ↓f_ck D, ↓f_c0 D, ↓f_c1 D, ↓f_c2 D, ↓f_c4 D, ↓f_c D, ↓f_sc D, ↓f_sc4 D, ↓f_gI D, ↓f_pI D, i2, i3, i4, i5, i13, i21, i29, i37, i45, i53, i61, i69, i133, i137, i141, i145, i149, i153, i157, i161, i167, i4m, i6m, i8m, i9m, i18m, i60m, i256m, i450m, nI_add, ↓nmI_s, ↓bd_s, ↓bv_s, nI_1, ↓reduceIte, h1, if_true, h2, e]
      rw [q_takes (md_f D f) O hg (by omega), bd_s, f_sc D (by omega)]
      unfold bgn
      rw [if_pos h2]
    · simp (disch := omega) only [↓f_r20 D, ↓f_ck D, ↓f_c0 D, ↓f_c1 D, ↓f_c2 D, ↓f_c4 D, ↓f_c D, ↓f_sc D, ↓f_sc4 D, ↓f_gI D, ↓f_pI D, i2, i3, i4, i5, i13, i21, i29, i37, i45, i53, i61, i69, i133, i137, i141, i145, i149, i153, i157, i161, i167, i4m, i6m, i8m, i9m, i18m, i60m, i256m, i450m, nI_add, ↓nmI_s, ↓bd_s, ↓bv_s, nI_1, ↓reduceIte, h1, if_true, h2, if_false, e]
      unfold bgn
      rw [if_neg h2]
  · rw [if_neg h1]
    simp (disch := omega) only [↓f_r20 D, ↓f_ck D, ↓f_c0 D, ↓f_c1 D, ↓f_c2 D, ↓f_c4 D, ↓f_c D, ↓f_sc D, ↓f_sc4 D, ↓f_gI D, ↓f_pI D, i2, i3, i4, i5, i13, i21, i29, i37, i45, i53, i61, i69, i133, i137, i141, i145, i149, i153, i157, i161, i167, i4m, i6m, i8m, i9m, i18m, i60m, i256m, i450m, nI_add, ↓nmI_s, ↓bd_s, ↓bv_s, nI_1, ↓reduceIte, h1, if_false, Int32.add_zero]
theorem q_minute (D : mdL M) (O : okC f) {g : Nat} (hg : g < gN f) : f_X12_minute (sA (sI M 207 26 w) 212 f) (some 207) (nI g) = some (sA (sI M 207 26 (w + (minu f g).2)) 212 (minu f g).1) := by
  have g4 := (ok_g O).2
  have h8 := (ok_h O).2
  have D2 : mdL M := D
  replace D : mdL (sI M 207 26 w) := D
  unfold f_X12_minute minu
  by_cases q : 0 ≤ f (149 + g)
  · rw [if_pos q]
    simp (disch := omega) only [↓f_r20 D, ↓f_ck D, ↓f_c0 D, ↓f_c1 D, ↓f_c2 D, ↓f_c4 D, ↓f_c D, ↓f_sc D, ↓f_sc4 D, ↓f_gI D, ↓f_pI D, i2, i3, i4, i5, i13, i21, i29, i37, i45, i53, i61, i69, i133, i137, i141, i145, i149, i153, i157, i161, i167, i4m, i6m, i8m, i9m, i18m, i60m, i256m, i450m, nI_add, ↓nmI_s, ↓bd_s, ↓bv_s, nI_1, ↓reduceIte, q, if_true]
    rcases hand_cases O hg with ⟨h1, -⟩ | ⟨h, hh, e, on, -⟩
    · rw [h1] at q
      exact absurd q (by decide)
    · exact q_m30 D2 O hg hh e on
  · rw [if_neg q]
    simp (disch := omega) only [↓f_r20 D, ↓f_ck D, ↓f_c0 D, ↓f_c1 D, ↓f_c2 D, ↓f_c4 D, ↓f_c D, ↓f_sc D, ↓f_sc4 D, ↓f_gI D, ↓f_pI D, i2, i3, i4, i5, i13, i21, i29, i37, i45, i53, i61, i69, i133, i137, i141, i145, i149, i153, i157, i161, i167, i4m, i6m, i8m, i9m, i18m, i60m, i256m, i450m, nI_add, ↓nmI_s, ↓bd_s, ↓bv_s, nI_1, ↓reduceIte, q, if_false]
    rw [q_chosen (md_f D f) O hg, bd_s]
    by_cases q2 : 0 ≤ (fb f g (hN f)).1
    · rw [if_pos q2, if_pos q2, f_ck D]
      obtain ⟨b, hb, e, hc⟩ := fb_pos q2
      rw [e, nI_cl (by omega), q_takesUp D (by omega) (by omega), bv_s]
      have e0 : ∀ k, k < 145 → takesUp f g b k = f k := fun k hk => take_o (by omega) (by omega) (by omega) (by omega)
      exact q_m30 D2 (okC_take O hg hb hc) (by rw [show gN (takesUp f g b) = gN f from na_same (e0 1 (by omega))]; exact hg) (by rw [show hN (takesUp f g b) = hN f from na_same (e0 0 (by omega))]; exact hb) (take_9 f g b) ⟨(e0 _ (by omega)).trans hc.1.1, by rw [e0 _ (by omega)]; exact hc.1.2⟩
    · rw [if_neg q2, if_neg q2]
      rw [Int32.add_zero]
end F
/-- a minute of the first n gangs; so many minutes of all -/
def gmin (c : Nat → Int32) : Nat → (Nat → Int32) × Int32
  | 0 => (c, 0)
  | n + 1 => ((minu (gmin c n).1 n).1, (gmin c n).2 + (minu (gmin c n).1 n).2)
def hmin (c : Nat → Int32) : Nat → (Nat → Int32) × Int32
  | 0 => (c, 0)
  | n + 1 => ((gmin (hmin c n).1 (gN c)).1, (hmin c n).2 + (gmin (hmin c n).1 (gN c)).2)
theorem gmin_ok {c : Nat → Int32} (O : okC c) : ∀ {n : Nat}, n ≤ gN c → okC (gmin c n).1 ∧ sS c (gmin c n).1
  | 0, _ => ⟨O, sS.rf⟩
  | n + 1, h => by
    obtain ⟨h1, h2⟩ := gmin_ok O (n := n) (by omega)
    have h3 : n < gN (gmin c n).1 := by rw [h2.g]; omega
    exact ⟨okC_minu h1 h3, h2.tr (sS_minu h1 h3)⟩
theorem hmin_ok {c : Nat → Int32} (O : okC c) : ∀ n : Nat, okC (hmin c n).1 ∧ sS c (hmin c n).1
  | 0 => ⟨O, sS.rf⟩
  | n + 1 => by
    obtain ⟨h1, h2⟩ := hmin_ok O n
    obtain ⟨h3, h4⟩ := gmin_ok h1 (n := gN c) (by rw [h2.g]; omega)
    exact ⟨h3, h2.tr h4⟩
/-- an hour -/
def hrs (c : Nat → Int32) (n : Nat) : Nat → Int32 := upd (hmin c n).1 4 ((hmin c n).1 4 + nI n)
theorem hrs_ok {c : Nat → Int32} (O : okC c) {n : Nat} (h : na c 4 + n ≤ 10239) : okC (hrs c n) := by
  obtain ⟨h1, h2⟩ := hmin_ok O n
  unfold hrs
  rw [h2 4 (by omega), O.2.2.2.2.1.1, nI_add]
  exact okC_min h1 h
section F
variable {M : Mm} {f : Nat → Int32}
theorem q_hours (D : mdL M) (O : okC f) {n : Nat} (hn : n ≤ 240) : f_X12_hours (sA M 212 f) (some 207) (nI n) = some ((hmin f n).2, sA (sI M 207 26 (hmin f n).2) 212 (hrs f n)) := by
  have g4 := (ok_g O).2
  unfold f_X12_hours
  rw [f_pI D]
  have D2 : mdL M := D
  refine lup0 (fun i k => f_X12_hours_7 i (sA (sI M 207 26 (hmin f k).2) 212 (hmin f k).1) (some 207) (nI n) (nI k)) n _ (by omega) (fun i k hk => ?_) (fun i => ?_)
  · obtain ⟨h1, h2⟩ := hmin_ok O k
    rw [f_X12_hours_7, if_neg (by rw [nI_leI' (by omega) (by omega)]; omega)]
    have := lup0 (fun j g => f_X12_hours_14 (f_X12_hours_7 i) j (sA (sI M 207 26 ((hmin f k).2 + (gmin (hmin f k).1 g).2)) 212 (gmin (hmin f k).1 g).1) (some 207) (nI n) (nI k) (nI g)) (gN f) (f_X12_hours_7 i (sA (sI M 207 26 (hmin f (k + 1)).2) 212 (hmin f (k + 1)).1) (some 207) (nI n) (nI (k + 1))) (by omega) (fun j g hg => ?_) (fun j => ?_)
    · rw [show (hmin f k).2 + (gmin (hmin f k).1 0).2 = (hmin f k).2 from Int32.add_zero _] at this
      exact this
    · obtain ⟨h3, h4⟩ := gmin_ok h1 (n := g) (by rw [h2.g]; omega)
      have hg2 : g < gN (gmin (hmin f k).1 g).1 := by rw [h4.g, h2.g]; exact hg
      replace D : mdL (sI M 207 26 ((hmin f k).2 + (gmin (hmin f k).1 g).2)) := D
      rw [f_X12_hours_14, f_r20 D, f_c1 D, if_neg (gc_in h3 hg2), f_ck D, q_minute D2 h3 hg2, bv_s, nI_1, Int32.add_assoc]
      rfl
    · obtain ⟨h3, h4⟩ := gmin_ok h1 (n := gN f) (by rw [h2.g]; omega)
      have hg2 : gN f = gN (gmin (hmin f k).1 (gN f)).1 := by rw [h4.g, h2.g]
      replace D : mdL (sI M 207 26 ((hmin f k).2 + (gmin (hmin f k).1 (gN f)).2)) := D
      rw [f_X12_hours_14, f_r20 D, f_c1 D, if_pos (by have := gc_out h3; rw [← hg2] at this; exact this), nI_1]
      rfl
  · replace D : mdL (sI M 207 26 (hmin f n).2) := D
    rw [f_X12_hours_7, if_pos (Int32.le_refl _)]
    simp (disch := omega) only [↓f_r20 D, ↓f_ck D, ↓f_c0 D, ↓f_c1 D, ↓f_c2 D, ↓f_c4 D, ↓f_c D, ↓f_sc D, ↓f_sc4 D, ↓f_gI D, ↓f_pI D, i2, i3, i4, i5, i13, i21, i29, i37, i45, i53, i61, i69, i133, i137, i141, i145, i149, i153, i157, i161, i167, i4m, i6m, i8m, i9m, i18m, i60m, i256m, i450m, nI_add, ↓nmI_s, ↓bd_s, ↓bv_s, nI_1, ↓reduceIte, mI_sI_s]
    rfl
end F

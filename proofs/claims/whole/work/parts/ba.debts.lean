/-! TEXTS: the class reads a gang, a debt, a law -/
def rdD (cd : Nat → Nat) (n : Nat) (c : Nat → Int32) (nm : Nat → List Nat) (s : Nat) : Sum (Nat × Nat) (Nat × (Nat → Int32) × (Nat → List Nat)) := Sp (tNm cd n nm 0 (hN c) (nx cd n s)) fun v1 s1 => Sb (tW cd n 11 s1) fun s2 => Sp (tNm cd n nm 0 (hN c) s2) fun v2 s3 => if v2 = v1 then .inl (5, s2) else Sp (tN cd n 0 99 s3) fun v3 s4 => .inr (s4, sx c (69 + 8 * v1 + v2) (nI v3), nm)
def rdL (cd : Nat → Nat) (n : Nat) (c : Nat → Int32) (nm : Nat → List Nat) (s : Nat) : Sum (Nat × Nat) (Nat × (Nat → Int32) × (Nat → List Nat)) := if 0 ≤ lwV (tkW cd n (nx cd n s)) then .inr (nx cd n (nx cd n s), sx c 3 (lwV (tkW cd n (nx cd n s))), nm) else .inl (fK cd n (nx cd n s) 2)
section H
variable {M N N' : Mm} {cd : Nat → Nat} {n s r b q h g w : Nat} {f : Nat → Int32} {x : Int64} {e : Nat × Nat} {c : Nat → Int32} {nm : Nat → List Nat}
theorem c_gang (C : CT M cd n s) (D : dC M b c nm) (ok : dOK c) (R : rdS M q b) (hb : 12 ≤ b) : cOut M (f_X5_readGang M (some q)) cd n b (rdG cd n c nm s) := by
  have D0 := D
  obtain ⟨S, SR, DB, B⟩ := D
  obtain ⟨k, hk⟩ : ∃ k, gN c = k := ⟨_, rfl⟩
  have c0 := ok_g ok.1
  have h8 := (ok_h ok.1).2
  rw [hk] at c0 B
  have b3 : mI M b 4 = nI k := by rw [SR.1.2.1, c0.1]
  unfold rdG f_X5_readGang g_X5_readGang
  rw [rd_1 R, gfI_s (lk_s S), b3, hk]
  by_cases k8 : k = 4
  · obtain ⟨N, h1, h2⟩ := c_fail C 6
    rw [if_neg (by rw [show (4 : Int32) = nI 4 from rfl, nI_ltI' (by omega) (by omega)]; omega), if_pos k8, rd_0 R, tp_ck C.1, show (6 : Int32) = nI 6 from rfl, h1, bd_s, zc0]
    exact ⟨N, rfl, h2.fr⟩
  have k7 : k < 4 := by omega
  obtain ⟨r, hr⟩ : ∃ r, b + 21 + k = r := ⟨_, rfl⟩
  have kr : (mK M r).1 = 0 := by rw [← hr]; exact lk_g S k7
  obtain ⟨N1, a1, a2, C1⟩ := c_step C
  have H1 := (hS.rf M r).v (by omega) a2.v
  have R1 := H1.R R
  have B1 := cNB_v B hb a2.v
  rw [if_pos (by rw [show (4 : Int32) = nI 4 from rfl, nI_ltI' (by omega) (by omega)]; omega), if_neg k8, rd_1 R, l_gs S, rd_1 R, gfI_s (lk_s S), b3, l_g S k7, hr, rd_0 R, tp_ck C.1, a1, bv_s, ck_s (by rw [R1.1])]
  have g := c_new C1 B1 R1
  rcases ht : tNew cd n nm (hN c) k (wN c) (nx cd n s) with e | s1
  · rw [ht] at g
    obtain ⟨N2, g1, g2⟩ := g
    have K2 : (mK N2 r).1 = 0 := by rw [g2.1.1, H1.1]; exact kr
    rw [g1, bd_s, pfL_s K2, gfL_s (by show (mK N2 r).1 = 0; exact K2), mL_s, if_pos ((lg_cmp_eq _ _).mpr rfl), zc0, Sb_l]
    exact ⟨_, rfl, ((H1.bd g2).pL _).fr (by omega) (by omega)⟩
  rw [ht] at g
  obtain ⟨N2, g1, g2, C2, oL⟩ := g
  have H2 := (H1.v (by omega) g2).pL (lN (n27 (tkL cd n (nx cd n s))))
  have C2' := C2.l (r := r) (by omega) (by omega) 0 (lN (n27 (tkL cd n (nx cd n s))))
  have K2 : (mK N2 r).1 = 0 := by rw [g2.1, H1.1]; exact kr
  rw [g1, bd_s, pfL_s K2, gfL_s (by show (mK N2 r).1 = 0; exact K2), mL_s, if_neg (fun z => lN_ne_neg (n27_63 oL) ((lg_cmp_eq _ _).mp z)), Sb_r]
  have w6 := (ok_w ok.1).2
  have g3 := c_takeWord C2' 13
  rw [rd_0 (H2.R R), tp_ck C2'.1]
  rcases ht3 : tW cd n 13 s1 with e | s2
  · rw [ht3] at g3
    obtain ⟨N3, g1, g2⟩ := g3
    rw [show f_X6_takeWord (sL N2 r 0 (lN (n27 (tkL cd n (nx cd n s))))) (some 1) 13 = some (0, N3) from g1, bd_s, if_pos rfl, zc0, Sb_l]
    exact ⟨_, rfl, (H2.bd g2).fr (by omega) (by omega)⟩
  rw [ht3] at g3
  obtain ⟨N3, g1, g2, C3⟩ := g3
  have H3 := H2.v (by omega) g2
  have B3 : cNB N3 b nm (hN c) k (wN c) := cNB_same B H3.1 H3.2.1 (H3.2.2.2.1 b (by omega) (by omega)).1 (fun i hi => congrFun (H3.2.2.2.1 (b + 13 + i) (by omega) (by omega)).2 0) (fun i hi => congrFun (H3.2.2.2.1 (b + 21 + i) (by omega) (by omega)).2 0) (fun i hi => congrFun (H3.2.2.2.1 (b + 25 + i) (by omega) (by omega)).2 0)
  have g4 := c_takeHouse C3 B3
  rw [show f_X6_takeWord (sL N2 r 0 (lN (n27 (tkL cd n (nx cd n s))))) (some 1) 13 = some (1, N3) from g1, bd_s, if_neg (by decide), Sb_r, rd_0 (H3.R R), rd_1 (H3.R R), tp_ck C3.1]
  rcases ht4 : tNm cd n nm 0 (hN c) s2 with e | ⟨v1, s3⟩
  · rw [ht4] at g4
    obtain ⟨N4, g1, g2⟩ := g4
    rw [g1, bd_s, if_pos rfl, zc0, Sp_l]
    exact ⟨_, rfl, (H3.bd g2).fr (by omega) (by omega)⟩
  obtain ⟨v1h, -⟩ := tNm_lt ht4
  rw [ht4] at g4
  obtain ⟨N4, g1, g2, C4⟩ := g4
  have H4 := H3.v (by omega) g2
  have g5 := c_takeWN C4 8 1 40 (by omega) (by omega)
  rw [g1, bd_s, if_neg (neg1_ne (by omega)), Sp_r, rd_0 (H4.R R), tp_ck C4.1]
  rcases ht5 : tWN cd n 8 1 40 s3 with e | ⟨v2, s4⟩
  · rw [ht5] at g5
    obtain ⟨N5, g1, g2⟩ := g5
    rw [show f_X6_takeWordAndNumber N4 (some 1) 8 1 40 = some (0, N5) from g1, bd_s, if_pos rfl, zc0, Sp_l]
    exact ⟨_, rfl, (H4.bd g2).fr (by omega) (by omega)⟩
  rw [ht5] at g5
  obtain ⟨N5, g1, g2, C5, e5⟩ := g5
  have H5 := H4.v (by omega) g2
  have k5 : (mK N5 r).1 = 0 := by rw [H5.1]; exact kr
  have H6 := H5.pI (by omega) 1 (nI v1)
  have r5 : mI (sI N5 r 1 (nI v1)) (b + 13 + v1) 1 = c (5 + v1) := by
    rw [(H6.2.2.2.1 (b + 13 + v1) (by omega) (by omega)).1]
    exact (SR.2.1 v1 v1h).1
  have H7 := H6.pI (by omega) 4 (c (5 + v1))
  have e7 : mI (sI (sI N5 r 1 (nI v1)) r 4 (c (5 + v1))) 1 11 = nI v2 := by rw [mI_o (by omega), mI_o (by omega)]; exact e5
  have C7 := (C5.o (r := r) (by omega) (by omega) (by omega) 1 (nI v1)).o (r := r) (by omega) (by omega) (by omega) 4 (c (5 + v1))
  rw [show f_X6_takeWordAndNumber N4 (some 1) 8 1 40 = some (1, N5) from g1, bd_s, if_neg (by decide), Sp_r, pfI_s k5, rd_1 (H6.R R), l_hs (H6.L S), l_h (H6.L S) (by omega), gfI_s (lk_h (H6.L S) (by omega)), r5, pfI_s (by exact k5), rd_0 (H7.R R), tp_gI C7.1, e7, pfI_s (by exact k5), pfI_s (by exact k5), ck_s (by exact k5)]
  unfold f_X0_putDown
  rw [pfI_s (by exact k5), pfI_s (by exact k5), pfI_s (by exact k5), bv_s]
  have H8 := ((((H7.pI (by omega) 2 (nI v2)).pI (by omega) 3 1).pI (by omega) 5 (-1)).pI (by omega) 6 0).pI (by omega) 7 0
  have C8 := ((((C7.o (r := r) (by omega) (by omega) (by omega) 2 (nI v2)).o (r := r) (by omega) (by omega) (by omega) 3 1).o (r := r) (by omega) (by omega) (by omega) 5 (-1)).o (r := r) (by omega) (by omega) (by omega) 6 0).o (r := r) (by omega) (by omega) (by omega) 7 0
  obtain ⟨N8, hN8⟩ : ∃ y, (sI (sI (sI (sI (sI (sI (sI N5 r 1 (nI v1)) r 4 (c (5 + v1))) r 2 (nI v2)) r 3 1) r 5 (-1)) r 6 0) r 7 0) = y := ⟨_, rfl⟩
  rw [hN8] at H8 C8 ⊢
  have b37 : mI N8 b 4 = nI k := by rw [(H8.2.2.2.1 b (by omega) (by omega)).1]; exact b3
  have k8' : (mK N8 r).1 = 0 := by rw [H8.1]; exact kr
  have H9 := H8.up (b := b) (by omega) (by omega) 4 (nI (k + 1))
  have C9 := C8.o (r := b) (by omega) (by omega) (by omega) 4 (nI (k + 1))
  have R9 : rdS (sI N8 b 4 (nI (k + 1))) q b := H8.R R
  rw [rd_1 (H8.R R), gfI_s (lk_s (H8.L S)), b37, nI_1, pfI_s (lk_s (H8.L S)), rd_0 R9, tp_gI C9.1, tc_w C9.2]
  unfold tOp
  have fin : ∀ {Nf : Mm} {ff : Nat → Int32} {v3 : Nat}, hS (sI M b 4 (nI (k + 1))) Nf r ff (lN (n27 (tkL cd n (nx cd n s)))) → ff 3 = nI v3 → (∀ j, j ≠ 3 → ff j = (sx (sx (sx (sx (sx (sx (sx (mI M r) 1 (nI v1)) 4 (c (5 + v1))) 2 (nI v2)) 3 1) 5 (-1)) 6 0) 7 0) j) → dC Nf b (gsC c k v1 v2 v3) (nmU nm (8 + k) (tkL cd n (nx cd n s))) := fun {Nf ff v3} hh h3 ho => by
    subst hr
    refine dC_gang D0 ok hb hk k7 oL ?_ hh ?_ ?_ h3 ?_ ?_ ?_ ?_
    · exact (ok.2.2.1 k k7).1
    · rw [ho 1 (by decide), sx_o (by decide), sx_o (by decide), sx_o (by decide), sx_o (by decide), sx_o (by decide), sx_o (by decide), sx_s]
    · rw [ho 2 (by decide), sx_o (by decide), sx_o (by decide), sx_o (by decide), sx_o (by decide), sx_s]
    · rw [ho 4 (by decide), sx_o (by decide), sx_o (by decide), sx_o (by decide), sx_o (by decide), sx_o (by decide), sx_s]
    · rw [ho 5 (by decide), sx_o (by decide), sx_o (by decide), sx_s]
    · rw [ho 6 (by decide), sx_o (by decide), sx_s]
    · rw [ho 7 (by decide), sx_s]
  by_cases q9 : tkW cd n s4 = nI 9
  · have gx := c_takeWN C9 9 0 9 (by omega) (by omega)
    rw [if_pos (show tkW cd n s4 = 9 from q9), if_pos q9, rd_0 R9, tp_ck C9.1]
    rcases ht9 : tWN cd n 9 0 9 s4 with e | ⟨v3, s5⟩
    · rw [ht9] at gx
      obtain ⟨N9, g1, g2⟩ := gx
      rw [show f_X6_takeWordAndNumber (sI N8 b 4 (nI (k + 1))) (some 1) 9 0 9 = some (0, N9) from g1, bd_s, if_pos rfl, zc0, Sp_l]
      exact ⟨_, rfl, (H9.bd g2).fr2 (by omega) (by omega) hb⟩
    · rw [ht9] at gx
      obtain ⟨N9, g1, g2, Ca, ea⟩ := gx
      have Ha := H9.v (by omega) g2
      have Hb := Ha.pI (by omega) 3 (nI v3)
      obtain ⟨p1, p2⟩ := Hb.fr2 (by omega) (by omega) hb
      rw [show f_X6_takeWordAndNumber (sI N8 b 4 (nI (k + 1))) (some 1) 9 0 9 = some (1, N9) from g1, bd_s, if_neg (by decide), rd_0 (by
        have z : rdS (sI M b 4 (nI (k + 1))) q b := R
        exact Ha.R z), tp_gI Ca.1, ea, pfI_s (by rw [Ha.1]; exact kr), zc1, Sp_r]
      exact ⟨_, rfl, p1, p2, Ca.o (by omega) (by omega) (by omega) _ _, fin Hb (sx_s _ _ _) (fun j hj => sx_o hj)⟩
  · rw [if_neg (show ¬ tkW cd n s4 = 9 from q9), if_neg q9, zc1, Sp_r]
    obtain ⟨p1, p2⟩ := H9.fr2 (by omega) (by omega) hb
    exact ⟨_, rfl, p1, p2, C9, fin H9 (by rw [sx_o (by decide), sx_o (by decide), sx_o (by decide), sx_s]; rfl) (fun j hj => rfl)⟩
theorem FTv.R (F : FTv M N) (R : rdS M q b) : rdS N q b := by
  unfold rdS at *
  rw [F.1, F.2.1]
  exact R
theorem FTv.fr (F : FTv M N) : cFr M N b ∧ ∀ k, 12 ≤ k → mI N 1 k = mI M 1 k := ⟨⟨F.1, F.2.1, F.2.2.1, fun y y1 _ => F.2.2.2.1 y y1, fun k hk => F.2.2.2.2 k (by omega)⟩, fun k hk => F.2.2.2.2 k (by omega)⟩
theorem cFr.pI (h : cFr M N b) {a : Nat} (h1 : b ≤ a) (h2 : a < b + 31) (hb : 12 ≤ b) (j : Nat) (v : Int32) : cFr M (sI N a j v) b := ⟨h.1, h.2.1, h.2.2.1, fun y y1 y2 => ⟨by rw [mI_o (by omega)]; exact (h.2.2.2.1 y y1 y2).1, (h.2.2.2.1 y y1 y2).2⟩, fun k hk => by rw [mI_o (by omega)]; exact h.2.2.2.2 k hk⟩
theorem shR_same (h : shR M b c) (hh : ∀ y, b ≤ y → y < b + 31 → mI N y = mI M y) (h8 : hN c ≤ 8) (g4 : gN c ≤ 4) (w6 : wN c ≤ 6) : shR N b c := by
  obtain ⟨t, rH, rD, rG, rW⟩ := h
  refine ⟨by rw [hh b (by omega) (by omega)]; exact t, fun i hi => ?_, fun i j hi hj => by rw [hh (b + 5 + i) (by omega) (by omega)]; exact rD i j hi hj, fun g hg => ?_, fun w hw => by rw [hh (b + 25 + w) (by omega) (by omega)]; exact rW w hw⟩
  · have := rH i hi
    unfold shH at *
    rw [hh (b + 13 + i) (by omega) (by omega)]
    exact this
  · have := rG g hg
    unfold shG at *
    rw [hh (b + 21 + g) (by omega) (by omega)]
    exact this
theorem dC_v (D : dC M b c nm) (ok : dOK c) (hb : 12 ≤ b) (F : FTv M N) : dC N b c nm := ⟨shL_same D.1 F.1 F.2.1, shR_same D.2.1 (fun y y1 _ => (F.2.2.2.1 y (by omega)).1) (ok_h ok.1).2 (ok_g ok.1).2 (ok_w ok.1).2, fun i j hi hj => by rw [(F.2.2.2.1 (b + 5 + i) (by omega)).1]; exact D.2.2.1 i j hi hj, cNB_v D.2.2.2 hb F⟩
theorem dC_debt (D : dC M b c nm) (ok : dOK c) {i j : Nat} (hi : i < 8) (hj : j < 8) (v : Int32) : dC (sI M (b + 5 + i) j v) b (sx c (69 + 8 * i + j) v) nm := by
  obtain ⟨S, ⟨t, rH, rD, rG, rW⟩, DB, B⟩ := D
  have co : ∀ k, k < 69 ∨ 133 ≤ k → sx c (69 + 8 * i + j) v k = c k := fun k hk => sx_o (by omega)
  have h8 := (ok_h ok.1).2
  have g4 := (ok_g ok.1).2
  have w6 := (ok_w ok.1).2
  have hN' : hN (sx c (69 + 8 * i + j) v) = hN c := na_same (k := 0) (co 0 (by omega))
  have gN' : gN (sx c (69 + 8 * i + j) v) = gN c := na_same (k := 1) (co 1 (by omega))
  have wN' : wN (sx c (69 + 8 * i + j) v) = wN c := na_same (k := 2) (co 2 (by omega))
  have S' : shL (sI M (b + 5 + i) j v) b := S
  have db : ∀ i' j', i' < 8 → j' < 8 → mI (sI M (b + 5 + i) j v) (b + 5 + i') j' = sx c (69 + 8 * i + j) v (69 + 8 * i' + j') := fun i' j' hi' hj' => by
    by_cases e1 : i' = i
    · subst e1
      by_cases e2 : j' = j
      · subst e2
        rw [mI_sI_s, sx_s]
      · rw [mI_f e2, sx_o (by omega)]
        exact DB _ _ hi' hj'
    · rw [mI_o (by omega), sx_o (by omega)]
      exact DB _ _ hi' hj'
  refine ⟨S', ⟨?_, fun i' hi' => ?_, fun i' j' hi' hj' => ?_, fun g hg => ?_, fun w hw => ?_⟩, db, ?_⟩
  · rw [mI_o (by omega), co 0 (by omega), co 1 (by omega), co 2 (by omega), co 3 (by omega), co 4 (by omega)]
    exact t
  · rw [hN'] at hi'
    have z := rH i' hi'
    unfold shH at *
    rw [mI_o (by omega), co _ (by omega), co _ (by omega), co _ (by omega), co _ (by omega), co _ (by omega), co _ (by omega), co _ (by omega), co _ (by omega)]
    exact z
  · rw [hN'] at hi' hj'
    exact db i' j' (by omega) (by omega)
  · rw [gN'] at hg
    have z := rG g hg
    unfold shG at *
    rw [mI_o (by omega), co _ (by omega), co _ (by omega), co _ (by omega), co _ (by omega), co _ (by omega), co _ (by omega), pcs_0 (by rw [co _ (by omega)]; exact ok.2.2.2 g hg), ← pcs_0 (ok.2.2.2 g hg)]
    exact z
  · rw [wN'] at hw
    rw [mI_o (by omega), co _ (by omega), co _ (by omega)]
    exact rW w hw
  · rw [hN', gN', wN']
    exact cNB_same B rfl rfl (mI_o (by omega)) (fun _ _ => rfl) (fun _ _ => rfl) (fun _ _ => rfl)
theorem dC_law (D : dC M b c nm) (ok : dOK c) (v : Int32) : dC (sI M b 7 v) b (sx c 3 v) nm := by
  obtain ⟨S, ⟨⟨t0, t1, t2, t3, t4⟩, rH, rD, rG, rW⟩, DB, B⟩ := D
  have co : ∀ k, k ≠ 3 → sx c 3 v k = c k := fun k hk => sx_o hk
  have h8 := (ok_h ok.1).2
  have g4 := (ok_g ok.1).2
  have w6 := (ok_w ok.1).2
  have hN' : hN (sx c 3 v) = hN c := na_same (k := 0) (co 0 (by omega))
  have gN' : gN (sx c 3 v) = gN c := na_same (k := 1) (co 1 (by omega))
  have wN' : wN (sx c 3 v) = wN c := na_same (k := 2) (co 2 (by omega))
  have S' : shL (sI M b 7 v) b := S
  refine ⟨S', ⟨⟨?_, ?_, ?_, ?_, ?_⟩, fun i' hi' => ?_, fun i' j' hi' hj' => ?_, fun g hg => ?_, fun w hw => ?_⟩, fun i' j' hi' hj' => ?_, ?_⟩
  · rw [mI_f (by decide), co 0 (by omega)]; exact t0
  · rw [mI_f (by decide), co 1 (by omega)]; exact t1
  · rw [mI_f (by decide), co 2 (by omega)]; exact t2
  · rw [mI_sI_s, sx_s]
  · rw [mI_f (by decide), co 4 (by omega)]; exact t4
  · rw [hN'] at hi'
    have z := rH i' hi'
    unfold shH at *
    rw [mI_o (by omega), co _ (by omega), co _ (by omega), co _ (by omega), co _ (by omega), co _ (by omega), co _ (by omega), co _ (by omega), co _ (by omega)]
    exact z
  · rw [hN'] at hi' hj'
    rw [mI_o (by omega), co _ (by omega)]
    exact DB i' j' (by omega) (by omega)
  · rw [gN'] at hg
    have z := rG g hg
    unfold shG at *
    rw [mI_o (by omega), co _ (by omega), co _ (by omega), co _ (by omega), co _ (by omega), co _ (by omega), co _ (by omega), pcs_0 (by rw [co _ (by omega)]; exact ok.2.2.2 g hg), ← pcs_0 (ok.2.2.2 g hg)]
    exact z
  · rw [wN'] at hw
    rw [mI_o (by omega), co _ (by omega), co _ (by omega)]
    exact rW w hw
  · rw [mI_o (by omega), co _ (by omega)]
    exact DB i' j' hi' hj'
  · rw [hN', gN', wN']
    obtain ⟨B1, B2, B3, B4, Bn⟩ := B
    exact ⟨S', ⟨by rw [mI_f (by decide)]; exact B2.1, B2.2⟩, ⟨by rw [mI_f (by decide)]; exact B3.1, B3.2⟩, ⟨by rw [mI_f (by decide)]; exact B4.1, B4.2⟩, Bn⟩
theorem c_helped (C : CT M cd n s) (D : dC M b c nm) (ok : dOK c) (R : rdS M q b) (hb : 12 ≤ b) : cOut M (f_X5_readHelped M (some q)) cd n b (rdD cd n c nm s) := by
  have h8 := (ok_h ok.1).2
  unfold rdD f_X5_readHelped g_X5_readHelped
  obtain ⟨N1, a1, a2, C1⟩ := c_step C
  have F1 := a2.v
  have R1 := F1.R R
  have g2 := c_takeHouse C1 (cNB_v D.2.2.2 hb F1)
  rw [rd_0 R, tp_ck C.1, a1, bv_s, rd_0 R1, rd_1 R1, tp_ck C1.1]
  rcases ht2 : tNm cd n nm 0 (hN c) (nx cd n s) with e | ⟨v1, s1⟩
  · rw [ht2] at g2
    obtain ⟨N2, z1, z2⟩ := g2
    rw [z1, bd_s, if_pos rfl, zc0, Sp_l]
    exact ⟨_, rfl, (F1.bd z2).fr⟩
  obtain ⟨v1h, -⟩ := tNm_lt ht2
  rw [ht2] at g2
  obtain ⟨N2, z1, z2, C2⟩ := g2
  have F2 := F1.tr z2
  have R2 := F2.R R
  have g3 := c_takeWord C2 11
  rw [z1, bd_s, if_neg (neg1_ne (by omega)), Sp_r, rd_0 R2, tp_ck C2.1]
  rcases ht3 : tW cd n 11 s1 with e | s2
  · rw [ht3] at g3
    obtain ⟨N3, z1, z2⟩ := g3
    rw [show f_X6_takeWord N2 (some 1) 11 = some (0, N3) from z1, bd_s, if_pos rfl, zc0, Sb_l]
    exact ⟨_, rfl, (F2.bd z2).fr⟩
  rw [ht3] at g3
  obtain ⟨N3, z1, z2, C3⟩ := g3
  have F3 := F2.tr z2
  have R3 := F3.R R
  have g4 := c_takeHouse C3 (cNB_v D.2.2.2 hb F3)
  rw [show f_X6_takeWord N2 (some 1) 11 = some (1, N3) from z1, bd_s, if_neg (by decide), Sb_r, rd_0 R3, tp_gI C3.1, C3.2.2.2.1, rd_0 R3, rd_1 R3, tp_ck C3.1]
  rcases ht4 : tNm cd n nm 0 (hN c) s2 with e | ⟨v2, s3⟩
  · rw [ht4] at g4
    obtain ⟨N4, z1, z2⟩ := g4
    rw [z1, bd_s, if_pos rfl, zc0, Sp_l]
    exact ⟨_, rfl, (F3.bd z2).fr⟩
  obtain ⟨v2h, -⟩ := tNm_lt ht4
  rw [ht4] at g4
  obtain ⟨N4, z1, z2, C4⟩ := g4
  have F4 := F3.tr z2
  have R4 := F4.R R
  rw [z1, bd_s, if_neg (neg1_ne (by omega)), Sp_r]
  by_cases e12 : v2 = v1
  · rw [if_pos (by rw [e12]), if_pos e12, rd_0 R4, tp_ck C4.1, c_failAt C4.1, bd_s, zc0]
    exact ⟨_, rfl, (F4.bd (cBd_12 N4 (5, s2))).fr⟩
  have g5 := c_takeNum C4 0 99 (by omega) (by omega)
  rw [if_neg (by rw [nI_eq' (by omega) (by omega)]; exact e12), if_neg e12, rd_0 R4, tp_ck C4.1]
  rcases ht5 : tN cd n 0 99 s3 with e | ⟨v3, s4⟩
  · rw [ht5] at g5
    obtain ⟨N5, z1, z2⟩ := g5
    rw [show f_X6_takeNumber N4 (some 1) 0 99 = some (0, N5) from z1, bd_s, if_pos rfl, zc0, Sp_l]
    exact ⟨_, rfl, (F4.bd z2).fr⟩
  rw [ht5] at g5
  obtain ⟨N5, z1, z2, C5, e5⟩ := g5
  have F5 := F4.tr z2
  have R5 := F5.R R
  have S5 : shL N5 b := shL_same D.1 F5.1 F5.2.1
  rw [show f_X6_takeNumber N4 (some 1) 0 99 = some (1, N5) from z1, bd_s, if_neg (by decide), rd_1 R5, l_ds S5, l_d S5 (by omega), rd_0 R5, tp_gI C5.1, e5, asI_s (lk_d S5 (by omega)) (show v2 < 8 by omega) (by decide), zc1, Sp_r]
  obtain ⟨p1, p2⟩ := F5.fr (b := b)
  exact ⟨_, rfl, p1.pI (by omega) (by omega) hb _ _, fun k hk => by rw [mI_o (by omega)]; exact p2 k hk, C5.o (by omega) (by omega) (by omega) _ _, dC_debt (dC_v D ok hb F5) ok (by omega) (by omega) _⟩
theorem c_law0 (C : CT M cd n s) (R : rdS M q b) (h2 : ¬ mI M q 2 = 0) : cOut M (f_X5_readLaw M (some q)) cd n b (.inl (fK cd n s 5)) := by
  obtain ⟨N, h1, h2'⟩ := c_fail C 5
  unfold f_X5_readLaw g_X5_readLaw
  rw [gfI_s (by rw [R.1]), if_neg h2, rd_0 R, tp_ck C.1, show (5 : Int32) = nI 5 from rfl, h1, bd_s, zc0]
  exact ⟨N, rfl, h2'.fr⟩
theorem c_law (C : CT M cd n s) (D : dC M b c nm) (ok : dOK c) (R : rdS M q b) (hb : 12 ≤ b) (hq : b + 31 ≤ q) (h2 : mI M q 2 = 0) : cOut (sI M q 2 1) (f_X5_readLaw M (some q)) cd n b (rdL cd n c nm s) := by
  have C0 := C.o (r := q) (by omega) (by omega) (by omega) 2 1
  have R0 : rdS (sI M q 2 1) q b := R
  have D0 : dC (sI M q 2 1) b c nm := ⟨D.1, shR_same D.2.1 (fun y y1 y2 => mI_o (by omega)) (ok_h ok.1).2 (ok_g ok.1).2 (ok_w ok.1).2, fun i j hi hj => by rw [mI_o (by omega)]; exact D.2.2.1 i j hi hj, cNB_same D.2.2.2 rfl rfl (mI_o (by omega)) (fun _ _ => rfl) (fun _ _ => rfl) (fun _ _ => rfl)⟩
  obtain ⟨N1, a1, a2, C1⟩ := c_step C0
  have F1 := a2.v
  have R1 := F1.R R0
  have S1 : shL N1 b := shL_same D0.1 F1.1 F1.2.1
  unfold rdL f_X5_readLaw g_X5_readLaw
  rw [gfI_s (by rw [R.1]), if_pos h2, pfZ_s (by rw [R.1]) (Or.inr rfl), rd_0 R0, tp_ck C0.1, a1, bv_s, rd_0 R1, tp_gI C1.1, tc_w C1.2]
  have fin : ∀ v : Int32, cOut (sI M q 2 1) (zc (f_X5_readLaw_129 (sI N1 b 7 v) (some q))) cd n b (.inr (nx cd n (nx cd n s), sx c 3 v, nm)) := fun v => by
    have C2 := C1.o (r := b) (by omega) (by omega) (by omega) 7 v
    have D2 := dC_law (dC_v D0 ok hb F1) ok v
    have R2 : rdS (sI N1 b 7 v) q b := R1
    obtain ⟨N3, z1, z2, C3⟩ := c_step C2
    have F3 := z2.v
    obtain ⟨p1, p2⟩ := F1.fr (b := b)
    have p3 := p1.pI (a := b) (by omega) (by omega) hb 7 v
    have D3 : dC N3 b (sx c 3 v) nm := by
      have co : ∀ k, k ≠ 3 → sx c 3 v k = c k := fun k hk => sx_o hk
      have hN' : hN (sx c 3 v) = hN c := na_same (k := 0) (co 0 (by omega))
      have gN' : gN (sx c 3 v) = gN c := na_same (k := 1) (co 1 (by omega))
      have wN' : wN (sx c 3 v) = wN c := na_same (k := 2) (co 2 (by omega))
      exact ⟨shL_same D2.1 F3.1 F3.2.1, shR_same D2.2.1 (fun y y1 _ => (F3.2.2.2.1 y (by omega)).1) (by rw [hN']; exact (ok_h ok.1).2) (by rw [gN']; exact (ok_g ok.1).2) (by rw [wN']; exact (ok_w ok.1).2), fun i j hi hj => by rw [(F3.2.2.2.1 (b + 5 + i) (by omega)).1]; exact D2.2.2.1 i j hi hj, cNB_v D2.2.2.2 hb F3⟩
    unfold f_X5_readLaw_129
    rw [rd_0 R2, tp_ck C2.1, z1, bv_s, zc1]
    exact ⟨_, rfl, ⟨F3.1.trans p3.1, F3.2.1.trans p3.2.1, F3.2.2.1.trans p3.2.2.1, fun y y1 y2 => ⟨(F3.2.2.2.1 y y1).1.trans (p3.2.2.2.1 y y1 y2).1, (F3.2.2.2.1 y y1).2.trans (p3.2.2.2.1 y y1 y2).2⟩, fun k hk => (F3.2.2.2.2 k (by omega)).trans (p3.2.2.2.2 k hk)⟩, fun k hk => (F3.2.2.2.2 k (by omega)).trans (by rw [mI_o (by omega)]; exact p2 k hk), C3, D3⟩
  unfold lwV
  by_cases q1 : tkW cd n (nx cd n s) = nI 2
  · rw [if_pos (show tkW cd n (nx cd n s) = 2 from q1), if_pos q1, rd_1 R1, pfI_s (lk_s S1), if_pos (by decide)]
    exact fin 0
  rw [if_neg (show ¬ tkW cd n (nx cd n s) = 2 from q1), if_neg q1]
  by_cases q2 : tkW cd n (nx cd n s) = nI 15
  · rw [if_pos (show tkW cd n (nx cd n s) = 15 from q2), if_pos q2, rd_1 R1, pfI_s (lk_s S1), if_pos (by decide)]
    exact fin 1
  rw [if_neg (show ¬ tkW cd n (nx cd n s) = 15 from q2), if_neg q2]
  by_cases q3 : tkW cd n (nx cd n s) = nI 16
  · rw [if_pos (show tkW cd n (nx cd n s) = 16 from q3), if_pos q3, rd_1 R1, pfI_s (lk_s S1), if_pos (by decide)]
    exact fin 2
  rw [if_neg (show ¬ tkW cd n (nx cd n s) = 16 from q3), if_neg q3]
  by_cases q4 : tkW cd n (nx cd n s) = nI 17
  · rw [if_pos (show tkW cd n (nx cd n s) = 17 from q4), if_pos q4, rd_1 R1, pfI_s (lk_s S1), if_pos (by decide)]
    exact fin 3
  · obtain ⟨N2, z1, z2⟩ := c_fail C1 2
    rw [if_neg (show ¬ tkW cd n (nx cd n s) = 17 from q4), if_neg q4, rd_0 R1, tp_ck C1.1, show (2 : Int32) = nI 2 from rfl, z1, bd_s, zc0, if_neg (by decide)]
    exact ⟨_, rfl, (F1.bd z2).fr⟩
end H

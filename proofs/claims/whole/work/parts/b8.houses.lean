/-! TEXTS: the class reads a house (whole) -/
def dC (M : Mm) (b : Nat) (c : Nat → Int32) (nm : Nat → List Nat) : Prop := shL M b ∧ shR M b c ∧ (∀ i j, i < 8 → j < 8 → mI M (b + 5 + i) j = c (69 + 8 * i + j)) ∧ cNB M b nm (hN c) (gN c) (wN c)
def dOK (c : Nat → Int32) : Prop := okC c ∧ (c 4 = 0 ∧ ∀ i j, i < 8 → j < 8 → bdd c (69 + 8 * i + j) 0 9999) ∧ (∀ g, g < 4 → c (153 + g) = 0 ∧ c (157 + g) = 0) ∧ ∀ g, g < gN c → c (149 + g) = -1
def hsC (c : Nat → Int32) (k v1 v2 v3 v4 v5 v6 : Nat) : Nat → Int32 := fun j => if j = 0 then nI (k + 1) else if j = 5 + k then nI v1 else if j = 13 + k then nI v2 else if j = 21 + k then nI v3 else if j = 29 + k then nI v4 else if j = 37 + k then nI v5 else if j = 45 + k then nI v6 else if j = 53 + k then nI v3 else if j = 61 + k then 1 else c j
theorem hsC_o {c : Nat → Int32} {k v1 v2 v3 v4 v5 v6 j : Nat} (h0 : j ≠ 0) (h1 : j ≠ 5 + k) (h2 : j ≠ 13 + k) (h3 : j ≠ 21 + k) (h4 : j ≠ 29 + k) (h5 : j ≠ 37 + k) (h6 : j ≠ 45 + k) (h7 : j ≠ 53 + k) (h8 : j ≠ 61 + k) : hsC c k v1 v2 v3 v4 v5 v6 j = c j := by
  unfold hsC
  rw [if_neg h0, if_neg h1, if_neg h2, if_neg h3, if_neg h4, if_neg h5, if_neg h6, if_neg h7, if_neg h8]
def cFr (M N : Mm) (b : Nat) : Prop := mK N = mK M ∧ mR N = mR M ∧ mT N = mT M ∧ (∀ y, y ≠ 1 → y < b ∨ b + 31 ≤ y → mI N y = mI M y ∧ mL N y = mL M y) ∧ ∀ k, k = 1 ∨ k = 3 → mI N 1 k = mI M 1 k
def cOut (M : Mm) (y : Option (Int32 × Mm)) (cd : Nat → Nat) (n b : Nat) (o : Sum (Nat × Nat) (Nat × (Nat → Int32) × (Nat → List Nat))) : Prop := match o with
  | .inl e => ∃ N, y = some (0, N) ∧ cFr M N b ∧ mI N 1 12 = nI e.1 ∧ mI N 1 13 = nI e.2
  | .inr (t, c, nm) => ∃ N, y = some (1, N) ∧ cFr M N b ∧ (∀ k, 12 ≤ k → mI N 1 k = mI M 1 k) ∧ CT N cd n t ∧ dC N b c nm
def rdH (cd : Nat → Nat) (n : Nat) (c : Nat → Int32) (nm : Nat → List Nat) (s : Nat) : Sum (Nat × Nat) (Nat × (Nat → Int32) × (Nat → List Nat)) := if hN c = 8 then .inl (fK cd n s 6) else Sb (tNew cd n nm (hN c) (gN c) (wN c) (nx cd n s)) fun s1 => Sp (tWN cd n 1 0 60 s1) fun v1 s2 => Sp (tWN cd n 2 0 999 s2) fun v2 s3 => Sp (tWN cd n 3 1 9 s3) fun v3 s4 => Sp (tWN cd n 4 1 20 s4) fun v4 s5 => S3 (tLP cd n s5) fun v5 v6 s6 => .inr (s6, hsC c (hN c) v1 v2 v3 v4 v5 v6, nmU nm (hN c) (tkL cd n (nx cd n s)))
section H
variable {M N N' : Mm} {cd : Nat → Nat} {n s r b q h g w : Nat} {f : Nat → Int32} {x : Int64} {e : Nat × Nat} {c : Nat → Int32} {nm : Nat → List Nat}
theorem cNB_same (B : cNB M b nm h g w) (hK : mK N = mK M) (hR : mR N = mR M) (h0 : mI N b = mI M b) (hh : ∀ k, k < h → mL N (b + 13 + k) 0 = mL M (b + 13 + k) 0) (hg : ∀ k, k < g → mL N (b + 21 + k) 0 = mL M (b + 21 + k) 0) (hw : ∀ k, k < w → mL N (b + 25 + k) 0 = mL M (b + 25 + k) 0) : cNB N b nm h g w := ⟨shL_same B.1 hK hR, by rw [h0]; exact B.2.1, by rw [h0]; exact B.2.2.1, by rw [h0]; exact B.2.2.2.1, fun k hk => ⟨(B.2.2.2.2.1 k hk).1, (hh k hk).trans (B.2.2.2.2.1 k hk).2⟩, fun k hk => ⟨(B.2.2.2.2.2.1 k hk).1, (hg k hk).trans (B.2.2.2.2.2.1 k hk).2⟩, fun k hk => ⟨(B.2.2.2.2.2.2 k hk).1, (hw k hk).trans (B.2.2.2.2.2.2 k hk).2⟩⟩
theorem cNB_v (B : cNB M b nm h g w) (hb : 12 ≤ b) (F : FTv M N) : cNB N b nm h g w := cNB_same B F.1 F.2.1 (F.2.2.2.1 b (by omega)).1 (fun k _ => congrFun (F.2.2.2.1 (b + 13 + k) (by omega)).2 0) (fun k _ => congrFun (F.2.2.2.1 (b + 21 + k) (by omega)).2 0) (fun k _ => congrFun (F.2.2.2.1 (b + 25 + k) (by omega)).2 0)
theorem hB.pL (h : hB M N r e) (v : Int64) : hB M (sL N r 0 v) r e := ⟨h.1, h.2.1, h.2.2.1, fun y h1 h2 => ⟨(h.2.2.2.1 y h1 h2).1, by rw [mL_o h2]; exact (h.2.2.2.1 y h1 h2).2⟩, h.2.2.2.2⟩
theorem hB.fr (h : hB M N r e) (h1 : b ≤ r) (h2 : r < b + 31) : cFr M N b ∧ mI N 1 12 = nI e.1 ∧ mI N 1 13 = nI e.2 := ⟨⟨h.1, h.2.1, h.2.2.1, fun y y1 y2 => h.2.2.2.1 y y1 (by omega), h.2.2.2.2.1⟩, h.2.2.2.2.2⟩
theorem hB.fr2 {j : Nat} {v : Int32} (h : hB (sI M b j v) N r e) (h1 : b ≤ r) (h2 : r < b + 31) (hb : 12 ≤ b) : cFr M N b ∧ mI N 1 12 = nI e.1 ∧ mI N 1 13 = nI e.2 := ⟨⟨h.1, h.2.1, h.2.2.1, fun y y1 y2 => ⟨(h.2.2.2.1 y y1 (by omega)).1.trans (mI_o (by omega)), (h.2.2.2.1 y y1 (by omega)).2⟩, fun k hk => (h.2.2.2.2.1 k hk).trans (by rw [mI_o (by omega)])⟩, h.2.2.2.2.2⟩
theorem cBd.fr (B : cBd M N e) : cFr M N b ∧ mI N 1 12 = nI e.1 ∧ mI N 1 13 = nI e.2 := ⟨⟨B.1.1, B.1.2.1, B.1.2.2.1, fun y y1 _ => B.1.2.2.2.1 y y1, B.1.2.2.2.2⟩, B.2⟩
theorem hS.fr2 {j : Nat} {v : Int32} (h : hS (sI M b j v) N r f x) (h1 : b ≤ r) (h2 : r < b + 31) (hb : 12 ≤ b) : cFr M N b ∧ ∀ k, 12 ≤ k → mI N 1 k = mI M 1 k := ⟨⟨h.1, h.2.1, h.2.2.1, fun y y1 y2 => ⟨(h.2.2.2.1 y y1 (by omega)).1.trans (mI_o (by omega)), (h.2.2.2.1 y y1 (by omega)).2⟩, fun k hk => (h.2.2.2.2.2.2 k (by omega)).trans (by rw [mI_o (by omega)])⟩, fun k hk => (h.2.2.2.2.2.2 k (by omega)).trans (by rw [mI_o (by omega)])⟩
theorem pcs_0 (h : c (149 + g) = -1) : pcs c g = 0 := by
  unfold pcs
  rw [if_pos h]
theorem dC_house (D : dC M b c nm) (ok : dOK c) (hb : 12 ≤ b) {k : Nat} (hk : hN c = k) (k7 : k < 8) {L : List Nat} (oL : okN L) {v1 v2 v3 v4 v5 v6 : Nat} (h : hS (sI M b 3 (nI (k + 1))) N (b + 13 + k) f (lN (n27 L))) (e1 : f 1 = nI v1) (e2 : f 2 = nI v2) (e3 : f 3 = nI v3) (e4 : f 4 = nI v4) (e5 : f 5 = nI v5) (e6 : f 6 = nI v6) (e7 : f 7 = nI v3) (e8 : f 8 = 1) : dC N b (hsC c k v1 v2 v3 v4 v5 v6) (nmU nm k L) := by
  obtain ⟨S, ⟨⟨t0, t1, t2, t3, t4⟩, rH, rD, rG, rW⟩, DB, B⟩ := D
  have oth : ∀ y, y ≠ 1 → y ≠ b → y ≠ b + 13 + k → mI N y = mI M y := fun y y1 y2 y3 => (h.2.2.2.1 y y1 y3).1.trans (mI_o y2)
  have othL : ∀ y, y ≠ 1 → y ≠ b + 13 + k → mL N y = mL M y := fun y y1 y3 => (h.2.2.2.1 y y1 y3).2
  have rb : ∀ j, mI N b j = if j = 3 then nI (k + 1) else mI M b j := fun j => by
    rw [(h.2.2.2.1 b (by omega) (by omega)).1]
    by_cases z : j = 3
    · rw [if_pos z, z, mI_sI_s]
    · rw [if_neg z, mI_f z]
  have rr : ∀ j, mI N (b + 13 + k) j = f j := fun j => by rw [h.2.2.2.2.1]
  have co : ∀ j, (1 ≤ j ∧ j < 5) ∨ 69 ≤ j → hsC c k v1 v2 v3 v4 v5 v6 j = c j := fun j hj => hsC_o (by omega) (by omega) (by omega) (by omega) (by omega) (by omega) (by omega) (by omega) (by omega)
  have ci : ∀ m i, m < 8 → i < 8 → i ≠ k → hsC c k v1 v2 v3 v4 v5 v6 (5 + 8 * m + i) = c (5 + 8 * m + i) := fun m i hm hi hik => hsC_o (by omega) (by omega) (by omega) (by omega) (by omega) (by omega) (by omega) (by omega) (by omega)
  have c0 : hsC c k v1 v2 v3 v4 v5 v6 0 = nI (k + 1) := if_pos rfl
  have hN' : hN (hsC c k v1 v2 v3 v4 v5 v6) = k + 1 := na_of (k := 0) c0 (by omega)
  have gN' : gN (hsC c k v1 v2 v3 v4 v5 v6) = gN c := na_same (k := 1) (co 1 (by omega))
  have wN' : wN (hsC c k v1 v2 v3 v4 v5 v6) = wN c := na_same (k := 2) (co 2 (by omega))
  have g4 := (ok_g ok.1).2
  have w6 := (ok_w ok.1).2
  have S' : shL N b := shL_same S h.1 h.2.1
  refine ⟨S', ⟨⟨by rw [rb, if_pos rfl, c0], by rw [rb, if_neg (by decide), co 1 (by omega)]; exact t1, by rw [rb, if_neg (by decide), co 2 (by omega)]; exact t2, by rw [rb, if_neg (by decide), co 3 (by omega)]; exact t3, by rw [rb, if_neg (by decide), co 4 (by omega)]; exact t4⟩, fun i hi => ?_, fun i j hi hj => ?_, fun g hg => ?_, fun w hw => ?_⟩, fun i j hi hj => ?_, ?_⟩
  · rw [hN'] at hi
    by_cases ik : i = k
    · subst ik
      unfold shH
      rw [rr, rr, rr, rr, rr, rr, rr, rr, e1, e2, e3, e4, e5, e6, e7, e8]
      unfold hsC
      exact ⟨by rw [if_neg (by omega), if_pos (by omega)], by rw [if_neg (by omega), if_neg (by omega), if_pos (by omega)], by rw [if_neg (by omega), if_neg (by omega), if_neg (by omega), if_pos (by omega)], by rw [if_neg (by omega), if_neg (by omega), if_neg (by omega), if_neg (by omega), if_pos (by omega)], by rw [if_neg (by omega), if_neg (by omega), if_neg (by omega), if_neg (by omega), if_neg (by omega), if_pos (by omega)], by rw [if_neg (by omega), if_neg (by omega), if_neg (by omega), if_neg (by omega), if_neg (by omega), if_neg (by omega), if_pos (by omega)], by rw [if_neg (by omega), if_neg (by omega), if_neg (by omega), if_neg (by omega), if_neg (by omega), if_neg (by omega), if_neg (by omega), if_pos (by omega)], by rw [if_neg (by omega), if_neg (by omega), if_neg (by omega), if_neg (by omega), if_neg (by omega), if_neg (by omega), if_neg (by omega), if_neg (by omega), if_pos (by omega)]⟩
    · have hi8 : i < 8 := by omega
      have z := rH i (by omega)
      unfold shH at *
      rw [oth (b + 13 + i) (by omega) (by omega) (by omega)]
      have d0 := ci 0 i (by omega) hi8 ik
      have d1 := ci 1 i (by omega) hi8 ik
      have d2 := ci 2 i (by omega) hi8 ik
      have d3 := ci 3 i (by omega) hi8 ik
      have d4 := ci 4 i (by omega) hi8 ik
      have d5 := ci 5 i (by omega) hi8 ik
      have d6 := ci 6 i (by omega) hi8 ik
      have d7 := ci 7 i (by omega) hi8 ik
      exact ⟨z.1.trans d0.symm, z.2.1.trans d1.symm, z.2.2.1.trans d2.symm, z.2.2.2.1.trans d3.symm, z.2.2.2.2.1.trans d4.symm, z.2.2.2.2.2.1.trans d5.symm, z.2.2.2.2.2.2.1.trans d6.symm, z.2.2.2.2.2.2.2.trans d7.symm⟩
  · rw [hN'] at hi hj
    rw [oth (b + 5 + i) (by omega) (by omega) (by omega), co _ (by omega)]
    exact DB i j (by omega) (by omega)
  · rw [gN'] at hg
    have z := rG g hg
    unfold shG at *
    rw [oth (b + 21 + g) (by omega) (by omega) (by omega), co _ (by omega), co _ (by omega), co _ (by omega), co _ (by omega), co _ (by omega), co _ (by omega), pcs_0 (by rw [co _ (by omega)]; exact ok.2.2.2 g hg), ← pcs_0 (ok.2.2.2 g hg)]
    exact z
  · rw [wN'] at hw
    rw [oth (b + 25 + w) (by omega) (by omega) (by omega), co _ (by omega), co _ (by omega)]
    exact rW w hw
  · rw [oth (b + 5 + i) (by omega) (by omega) (by omega), co _ (by omega)]
    exact DB i j hi hj
  · rw [hN', gN', wN']
    obtain ⟨-, -, B4, B5, n1, n2, n3⟩ := B
    refine ⟨S', ⟨by rw [rb, if_pos rfl], by omega⟩, ⟨by rw [rb, if_neg (by decide)]; exact B4.1, g4⟩, ⟨by rw [rb, if_neg (by decide)]; exact B5.1, w6⟩, fun i hi => ?_, fun g hg => ?_, fun w hw => ?_⟩
    · by_cases ik : i = k
      · subst ik
        unfold nmU
        rw [if_pos rfl]
        exact ⟨oL, h.2.2.2.2.2.1⟩
      · have e : nmU nm k L i = nm i := if_neg ik
        rw [e, othL _ (by omega) (by omega)]
        exact n1 i (by omega)
    · have e : nmU nm k L (8 + g) = nm (8 + g) := if_neg (by omega)
      rw [e, othL _ (by omega) (by omega)]
      exact n2 g hg
    · have e : nmU nm k L (12 + w) = nm (12 + w) := if_neg (by omega)
      rw [e, othL _ (by omega) (by omega)]
      exact n3 w hw
theorem c_house (C : CT M cd n s) (D : dC M b c nm) (ok : dOK c) (R : rdS M q b) (hb : 12 ≤ b) : cOut M (f_X5_readHouse M (some q)) cd n b (rdH cd n c nm s) := by
  have D0 := D
  obtain ⟨S, SR, DB, B⟩ := D
  obtain ⟨k, hk⟩ : ∃ k, hN c = k := ⟨_, rfl⟩
  have c0 := ok_h ok.1
  rw [hk] at c0 B
  have b3 : mI M b 3 = nI k := by rw [SR.1.1, c0.1]
  unfold rdH f_X5_readHouse g_X5_readHouse
  rw [rd_1 R, gfI_s (lk_s S), b3, hk]
  by_cases k8 : k = 8
  · obtain ⟨N, h1, h2⟩ := c_fail C 6
    rw [if_neg (by rw [show (8 : Int32) = nI 8 from rfl, nI_ltI' (by omega) (by omega)]; omega), if_pos k8, rd_0 R, tp_ck C.1, show (6 : Int32) = nI 6 from rfl, h1, bd_s, zc0]
    exact ⟨N, rfl, h2.fr⟩
  have k7 : k < 8 := by omega
  obtain ⟨r, hr⟩ : ∃ r, b + 13 + k = r := ⟨_, rfl⟩
  have kr : (mK M r).1 = 1 := by rw [← hr]; exact lk_h S k7
  obtain ⟨N1, a1, a2, C1⟩ := c_step C
  have H1 := (hS.rf M r).v (by omega) a2.v
  have R1 := H1.R R
  have B1 := cNB_v B hb a2.v
  rw [if_pos (by rw [show (8 : Int32) = nI 8 from rfl, nI_ltI' (by omega) (by omega)]; omega), if_neg k8, rd_1 R, l_hs S, rd_1 R, gfI_s (lk_s S), b3, l_h S k7, hr, rd_0 R, tp_ck C.1, a1, bv_s, ck_s (by rw [R1.1])]
  have g := c_new C1 B1 R1
  rcases ht : tNew cd n nm k (gN c) (wN c) (nx cd n s) with e | s1
  · rw [ht] at g
    obtain ⟨N2, g1, g2⟩ := g
    have K2 : (mK N2 r).1 = 1 := by rw [g2.1.1, H1.1]; exact kr
    rw [g1, bd_s, pfL_s K2, gfL_s (by show (mK N2 r).1 = 1; exact K2), mL_s, if_pos ((lg_cmp_eq _ _).mpr rfl), zc0, Sb_l]
    exact ⟨_, rfl, ((H1.bd g2).pL _).fr (by omega) (by omega)⟩
  rw [ht] at g
  obtain ⟨N2, g1, g2, C2, oL⟩ := g
  have H2 := (H1.v (by omega) g2).pL (lN (n27 (tkL cd n (nx cd n s))))
  have C2' := C2.l (r := r) (by omega) (by omega) 0 (lN (n27 (tkL cd n (nx cd n s))))
  have K2 : (mK N2 r).1 = 1 := by rw [g2.1, H1.1]; exact kr
  rw [g1, bd_s, pfL_s K2, gfL_s (by show (mK N2 r).1 = 1; exact K2), mL_s, if_neg (fun z => lN_ne_neg (n27_63 oL) ((lg_cmp_eq _ _).mp z)), Sb_r]
  have g3 := c_takeWN C2' 1 0 60 (by omega) (by omega)
  rw [rd_0 (H2.R R), tp_ck C2'.1]
  rcases ht3 : tWN cd n 1 0 60 s1 with e | ⟨v1, s2⟩
  · rw [ht3] at g3
    obtain ⟨N3, g1, g2⟩ := g3
    rw [show f_X6_takeWordAndNumber (sL N2 r 0 (lN (n27 (tkL cd n (nx cd n s))))) (some 1) 1 0 60 = some (0, N3) from g1, bd_s, if_pos rfl, zc0, Sp_l]
    exact ⟨_, rfl, (H2.bd g2).fr (by omega) (by omega)⟩
  rw [ht3] at g3
  obtain ⟨N3, g1, g2, C3, e3⟩ := g3
  have H3 := (H2.v (by omega) g2).pI (by omega) 1 (nI v1)
  have C3' := C3.o (r := r) (by omega) (by omega) (by omega) 1 (nI v1)
  rw [show f_X6_takeWordAndNumber (sL N2 r 0 (lN (n27 (tkL cd n (nx cd n s))))) (some 1) 1 0 60 = some (1, N3) from g1, bd_s, if_neg (by decide), rd_0 (H2.v (by omega) g2 |>.R R), tp_gI C3.1, e3, pfI_s (by rw [(H2.v (by omega) g2).1]; exact kr), Sp_r]
  have g4 := c_takeWN C3' 2 0 999 (by omega) (by omega)
  rw [rd_0 (H3.R R), tp_ck C3'.1]
  rcases ht4 : tWN cd n 2 0 999 s2 with e | ⟨v2, s3⟩
  · rw [ht4] at g4
    obtain ⟨N4, g1, g2⟩ := g4
    rw [show f_X6_takeWordAndNumber (sI N3 r 1 (nI v1)) (some 1) 2 0 999 = some (0, N4) from g1, bd_s, if_pos rfl, zc0, Sp_l]
    exact ⟨_, rfl, (H3.bd g2).fr (by omega) (by omega)⟩
  rw [ht4] at g4
  obtain ⟨N4, g1, g2, C4, e4⟩ := g4
  have H4 := (H3.v (by omega) g2).pI (by omega) 2 (nI v2)
  have C4' := C4.o (r := r) (by omega) (by omega) (by omega) 2 (nI v2)
  rw [show f_X6_takeWordAndNumber (sI N3 r 1 (nI v1)) (some 1) 2 0 999 = some (1, N4) from g1, bd_s, if_neg (by decide), rd_0 (H3.v (by omega) g2 |>.R R), tp_gI C4.1, e4, pfI_s (by rw [(H3.v (by omega) g2).1]; exact kr), Sp_r]
  have g5 := c_takeWN C4' 3 1 9 (by omega) (by omega)
  rw [rd_0 (H4.R R), tp_ck C4'.1]
  rcases ht5 : tWN cd n 3 1 9 s3 with e | ⟨v3, s4⟩
  · rw [ht5] at g5
    obtain ⟨N5, g1, g2⟩ := g5
    rw [show f_X6_takeWordAndNumber (sI N4 r 2 (nI v2)) (some 1) 3 1 9 = some (0, N5) from g1, bd_s, if_pos rfl, zc0, Sp_l]
    exact ⟨_, rfl, (H4.bd g2).fr (by omega) (by omega)⟩
  rw [ht5] at g5
  obtain ⟨N5, g1, g2, C5, e5⟩ := g5
  have H5 := (H4.v (by omega) g2).pI (by omega) 3 (nI v3)
  have C5' := C5.o (r := r) (by omega) (by omega) (by omega) 3 (nI v3)
  rw [show f_X6_takeWordAndNumber (sI N4 r 2 (nI v2)) (some 1) 3 1 9 = some (1, N5) from g1, bd_s, if_neg (by decide), rd_0 (H4.v (by omega) g2 |>.R R), tp_gI C5.1, e5, pfI_s (by rw [(H4.v (by omega) g2).1]; exact kr), Sp_r]
  have g6 := c_takeWN C5' 4 1 20 (by omega) (by omega)
  rw [rd_0 (H5.R R), tp_ck C5'.1]
  rcases ht6 : tWN cd n 4 1 20 s4 with e | ⟨v4, s5⟩
  · rw [ht6] at g6
    obtain ⟨N6, g1, g2⟩ := g6
    rw [show f_X6_takeWordAndNumber (sI N5 r 3 (nI v3)) (some 1) 4 1 20 = some (0, N6) from g1, bd_s, if_pos rfl, zc0, Sp_l]
    exact ⟨_, rfl, (H5.bd g2).fr (by omega) (by omega)⟩
  rw [ht6] at g6
  obtain ⟨N6, g1, g2, C6, e6⟩ := g6
  have H6 := (H5.v (by omega) g2).pI (by omega) 4 (nI v4)
  have C6' := C6.o (r := r) (by omega) (by omega) (by omega) 4 (nI v4)
  rw [show f_X6_takeWordAndNumber (sI N5 r 3 (nI v3)) (some 1) 4 1 20 = some (1, N6) from g1, bd_s, if_neg (by decide), rd_0 (H5.v (by omega) g2 |>.R R), tp_gI C6.1, e6, pfI_s (by rw [(H5.v (by omega) g2).1]; exact kr), Sp_r]
  have w3 : mI (sI N6 r 4 (nI v4)) r 3 = nI v3 := by
    rw [H6.2.2.2.2.1, sx_o (by decide), sx_s]
  have H7 := (H6.pI (by omega) 7 (nI v3)).pI (by omega) 8 1
  have C7 := (C6'.o (r := r) (by omega) (by omega) (by omega) 7 (nI v3)).o (r := r) (by omega) (by omega) (by omega) 8 1
  have K7 : (mK (sI (sI (sI N6 r 4 (nI v4)) r 7 (nI v3)) r 8 1) r).1 = 1 := by rw [H7.1]; exact kr
  have b37 : mI (sI (sI (sI N6 r 4 (nI v4)) r 7 (nI v3)) r 8 1) b 3 = nI k := by rw [(H7.2.2.2.1 b (by omega) (by omega)).1]; exact b3
  rw [gfI_s (by exact K7), w3, pfI_s (by exact K7), pfZ_s (by exact K7) (Or.inr rfl), rd_1 (H7.R R), gfI_s (lk_s (H7.L S)), b37, nI_1, pfI_s (lk_s (H7.L S)), ck_s (by show (mK (sI (sI (sI N6 r 4 (nI v4)) r 7 (nI v3)) r 8 1) q).1 = 5; rw [(H7.R R).1])]
  have H8 := H7.up (b := b) (by omega) (by omega) 3 (nI (k + 1))
  have C8 := C7.o (r := b) (by omega) (by omega) (by omega) 3 (nI (k + 1))
  have g8 := c_lp C8 H8 (by omega) (by exact K7) (by exact H7.R R)
  rcases ht8 : tLP cd n s5 with e | ⟨v5, v6, s6⟩
  · rw [ht8] at g8
    obtain ⟨N9, g1, g2⟩ := g8
    rw [g1, bd_s, zc0, S3_l]
    exact ⟨_, rfl, g2.fr2 (by omega) (by omega) hb⟩
  · rw [ht8] at g8
    obtain ⟨N9, f', g1, g2, C9, f5, f6, fo⟩ := g8
    rw [g1, bd_s, zc1, S3_r]
    obtain ⟨p1, p2⟩ := g2.fr2 (by omega) (by omega) hb
    subst hr
    refine ⟨_, rfl, p1, p2, C9, dC_house D0 ok hb hk k7 oL g2 ?_ ?_ ?_ ?_ f5 f6 ?_ ?_⟩
    · rw [fo 1 (by decide) (by decide), sx_o (by decide), sx_o (by decide), sx_o (by decide), sx_o (by decide), sx_o (by decide), sx_s]
    · rw [fo 2 (by decide) (by decide), sx_o (by decide), sx_o (by decide), sx_o (by decide), sx_o (by decide), sx_s]
    · rw [fo 3 (by decide) (by decide), sx_o (by decide), sx_o (by decide), sx_o (by decide), sx_s]
    · rw [fo 4 (by decide) (by decide), sx_o (by decide), sx_o (by decide), sx_s]
    · rw [fo 7 (by decide) (by decide), sx_o (by decide), sx_s]
    · rw [fo 8 (by decide) (by decide), sx_s]
end H

/-! TEXTS: the class reads a gang, a wind -/
def gsC (c : Nat → Int32) (k v1 v2 v3 : Nat) : Nat → Int32 := fun j => if j = 1 then nI (k + 1) else if j = 133 + k then nI v1 else if j = 137 + k then nI v2 else if j = 141 + k then nI v3 else if j = 145 + k then c (5 + v1) else if j = 149 + k then -1 else c j
theorem gsC_o {c : Nat → Int32} {k v1 v2 v3 j : Nat} (h0 : j ≠ 1) (h1 : j ≠ 133 + k) (h2 : j ≠ 137 + k) (h3 : j ≠ 141 + k) (h4 : j ≠ 145 + k) (h5 : j ≠ 149 + k) : gsC c k v1 v2 v3 j = c j := by
  unfold gsC
  rw [if_neg h0, if_neg h1, if_neg h2, if_neg h3, if_neg h4, if_neg h5]
def wsC (c : Nat → Int32) (k v1 v2 : Nat) : Nat → Int32 := fun j => if j = 2 then nI (k + 1) else if j = 161 + k then nI v1 else if j = 167 + k then nI v2 else c j
theorem wsC_o {c : Nat → Int32} {k v1 v2 j : Nat} (h0 : j ≠ 2) (h1 : j ≠ 161 + k) (h2 : j ≠ 167 + k) : wsC c k v1 v2 j = c j := by
  unfold wsC
  rw [if_neg h0, if_neg h1, if_neg h2]
def rdG (cd : Nat → Nat) (n : Nat) (c : Nat → Int32) (nm : Nat → List Nat) (s : Nat) : Sum (Nat × Nat) (Nat × (Nat → Int32) × (Nat → List Nat)) := if gN c = 4 then .inl (fK cd n s 6) else Sb (tNew cd n nm (hN c) (gN c) (wN c) (nx cd n s)) fun s1 => Sb (tW cd n 13 s1) fun s2 => Sp (tNm cd n nm 0 (hN c) s2) fun v1 s3 => Sp (tWN cd n 8 1 40 s3) fun v2 s4 => Sp (tOp cd n 9 0 9 1 s4) fun v3 s5 => .inr (s5, gsC c (gN c) v1 v2 v3, nmU nm (8 + gN c) (tkL cd n (nx cd n s)))
def rdW (cd : Nat → Nat) (n : Nat) (c : Nat → Int32) (nm : Nat → List Nat) (s : Nat) : Sum (Nat × Nat) (Nat × (Nat → Int32) × (Nat → List Nat)) := if wN c = 6 then .inl (fK cd n s 6) else Sb (tNew cd n nm (hN c) (gN c) (wN c) (nx cd n s)) fun s1 => Sp (tN cd n 0 99 s1) fun v1 s2 => Sp (tWN cd n 13 1 99 s2) fun v2 s3 => .inr (s3, wsC c (wN c) v1 v2, nmU nm (12 + wN c) (tkL cd n (nx cd n s)))
theorem tNm_lt {cd : Nat → Nat} {n a m s v t : Nat} {nm : Nat → List Nat} (h : tNm cd n nm a m s = .inr (v, t)) : v < m ∧ t = nx cd n s := by
  unfold tNm at h
  by_cases q : isNm cd n s = true
  · rw [if_pos q] at h
    by_cases q2 : fnd nm (tkL cd n s) a m < m
    · rw [if_pos q2] at h
      injection h with h
      have := Prod.mk.inj h
      exact ⟨by rw [← this.1]; exact q2, this.2.symm⟩
    · rw [if_neg q2] at h
      cases h
  · rw [if_neg q] at h
    cases h
section H
variable {M N N' : Mm} {cd : Nat → Nat} {n s r b q h g w : Nat} {f : Nat → Int32} {x : Int64} {e : Nat × Nat} {c : Nat → Int32} {nm : Nat → List Nat}
theorem dC_gang (D : dC M b c nm) (ok : dOK c) (hb : 12 ≤ b) {k : Nat} (hk : gN c = k) (k3 : k < 4) {L : List Nat} (oL : okN L) {v1 v2 v3 : Nat} (z0 : c (153 + k) = 0) (h : hS (sI M b 4 (nI (k + 1))) N (b + 21 + k) f (lN (n27 L))) (e1 : f 1 = nI v1) (e2 : f 2 = nI v2) (e3 : f 3 = nI v3) (e4 : f 4 = c (5 + v1)) (e5 : f 5 = -1) (e6 : f 6 = 0) (e7 : f 7 = 0) : dC N b (gsC c k v1 v2 v3) (nmU nm (8 + k) L) := by
  obtain ⟨S, ⟨⟨t0, t1, t2, t3, t4⟩, rH, rD, rG, rW⟩, DB, B⟩ := D
  have oth : ∀ y, y ≠ 1 → y ≠ b → y ≠ b + 21 + k → mI N y = mI M y := fun y y1 y2 y3 => (h.2.2.2.1 y y1 y3).1.trans (mI_o y2)
  have othL : ∀ y, y ≠ 1 → y ≠ b + 21 + k → mL N y = mL M y := fun y y1 y3 => (h.2.2.2.1 y y1 y3).2
  have rb : ∀ j, mI N b j = if j = 4 then nI (k + 1) else mI M b j := fun j => by
    rw [(h.2.2.2.1 b (by omega) (by omega)).1]
    by_cases z : j = 4
    · rw [if_pos z, z, mI_sI_s]
    · rw [if_neg z, mI_f z]
  have rr : ∀ j, mI N (b + 21 + k) j = f j := fun j => by rw [h.2.2.2.2.1]
  have co : ∀ j, j ≠ 1 → (j < 133 ∨ 153 ≤ j) → gsC c k v1 v2 v3 j = c j := fun j h1 hj => gsC_o (by omega) (by omega) (by omega) (by omega) (by omega) (by omega)
  have ci : ∀ m i, m < 5 → i < 4 → i ≠ k → gsC c k v1 v2 v3 (133 + 4 * m + i) = c (133 + 4 * m + i) := fun m i hm hi hik => gsC_o (by omega) (by omega) (by omega) (by omega) (by omega) (by omega)
  have c1 : gsC c k v1 v2 v3 1 = nI (k + 1) := if_pos rfl
  have gN' : gN (gsC c k v1 v2 v3) = k + 1 := na_of (k := 1) c1 (by omega)
  have hN' : hN (gsC c k v1 v2 v3) = hN c := na_same (k := 0) (co 0 (by omega) (by omega))
  have wN' : wN (gsC c k v1 v2 v3) = wN c := na_same (k := 2) (co 2 (by omega) (by omega))
  have h8 := (ok_h ok.1).2
  have w6 := (ok_w ok.1).2
  have S' : shL N b := shL_same S h.1 h.2.1
  refine ⟨S', ⟨⟨by rw [rb, if_neg (by decide), co 0 (by omega) (by omega)]; exact t0, by rw [rb, if_pos rfl, c1], by rw [rb, if_neg (by decide), co 2 (by omega) (by omega)]; exact t2, by rw [rb, if_neg (by decide), co 3 (by omega) (by omega)]; exact t3, by rw [rb, if_neg (by decide), co 4 (by omega) (by omega)]; exact t4⟩, fun i hi => ?_, fun i j hi hj => ?_, fun g hg => ?_, fun w hw => ?_⟩, fun i j hi hj => ?_, ?_⟩
  · rw [hN'] at hi
    have z := rH i hi
    unfold shH at *
    rw [oth (b + 13 + i) (by omega) (by omega) (by omega), co _ (by omega) (by omega), co _ (by omega) (by omega), co _ (by omega) (by omega), co _ (by omega) (by omega), co _ (by omega) (by omega), co _ (by omega) (by omega), co _ (by omega) (by omega), co _ (by omega) (by omega)]
    exact z
  · rw [hN'] at hi hj
    rw [oth (b + 5 + i) (by omega) (by omega) (by omega), co _ (by omega) (by omega)]
    exact DB i j (by omega) (by omega)
  · rw [gN'] at hg
    by_cases ik : g = k
    · subst ik
      have p5 : gsC c g v1 v2 v3 (149 + g) = -1 := by
        unfold gsC
        rw [if_neg (by omega), if_neg (by omega), if_neg (by omega), if_neg (by omega), if_neg (by omega), if_pos rfl]
      unfold shG
      rw [rr, rr, rr, rr, rr, rr, rr, e1, e2, e3, e4, e5, e6, e7, pcs_0 p5, p5, co (153 + g) (by omega) (by omega), z0]
      unfold gsC
      exact ⟨by rw [if_neg (by omega), if_pos rfl], by rw [if_neg (by omega), if_neg (by omega), if_pos rfl], by rw [if_neg (by omega), if_neg (by omega), if_neg (by omega), if_pos rfl], by rw [if_neg (by omega), if_neg (by omega), if_neg (by omega), if_neg (by omega), if_pos rfl], rfl, rfl, rfl⟩
    · have hi4 : g < 4 := by omega
      have z := rG g (by omega)
      have d0 := ci 0 g (by omega) hi4 ik
      have d1 := ci 1 g (by omega) hi4 ik
      have d2 := ci 2 g (by omega) hi4 ik
      have d3 := ci 3 g (by omega) hi4 ik
      have d4 := ci 4 g (by omega) hi4 ik
      unfold shG at *
      rw [oth (b + 21 + g) (by omega) (by omega) (by omega), co (153 + g) (by omega) (by omega), pcs_0 (d4.trans (ok.2.2.2 g (by omega))), ← pcs_0 (ok.2.2.2 g (by omega))]
      exact ⟨z.1.trans d0.symm, z.2.1.trans d1.symm, z.2.2.1.trans d2.symm, z.2.2.2.1.trans d3.symm, z.2.2.2.2.1.trans d4.symm, z.2.2.2.2.2⟩
  · rw [wN'] at hw
    rw [oth (b + 25 + w) (by omega) (by omega) (by omega), co _ (by omega) (by omega), co _ (by omega) (by omega)]
    exact rW w hw
  · rw [oth (b + 5 + i) (by omega) (by omega) (by omega), co _ (by omega) (by omega)]
    exact DB i j hi hj
  · rw [hN', gN', wN']
    obtain ⟨-, B3, -, B5, n1, n2, n3⟩ := B
    refine ⟨S', ⟨by rw [rb, if_neg (by decide)]; exact B3.1, h8⟩, ⟨by rw [rb, if_pos rfl], by omega⟩, ⟨by rw [rb, if_neg (by decide)]; exact B5.1, w6⟩, fun i hi => ?_, fun g hg => ?_, fun w hw => ?_⟩
    · have e : nmU nm (8 + k) L i = nm i := if_neg (by omega)
      rw [e, othL _ (by omega) (by omega)]
      exact n1 i hi
    · by_cases ik : g = k
      · subst ik
        unfold nmU
        rw [if_pos rfl]
        exact ⟨oL, h.2.2.2.2.2.1⟩
      · have e : nmU nm (8 + k) L (8 + g) = nm (8 + g) := if_neg (by omega)
        rw [e, othL _ (by omega) (by omega)]
        exact n2 g (by omega)
    · have e : nmU nm (8 + k) L (12 + w) = nm (12 + w) := if_neg (by omega)
      rw [e, othL _ (by omega) (by omega)]
      exact n3 w hw
theorem dC_wind (D : dC M b c nm) (ok : dOK c) (hb : 12 ≤ b) {k : Nat} (hk : wN c = k) (k5 : k < 6) {L : List Nat} (oL : okN L) {v1 v2 : Nat} (h : hS (sI M b 5 (nI (k + 1))) N (b + 25 + k) f (lN (n27 L))) (e1 : f 1 = nI v1) (e2 : f 2 = nI v2) : dC N b (wsC c k v1 v2) (nmU nm (12 + k) L) := by
  obtain ⟨S, ⟨⟨t0, t1, t2, t3, t4⟩, rH, rD, rG, rW⟩, DB, B⟩ := D
  have oth : ∀ y, y ≠ 1 → y ≠ b → y ≠ b + 25 + k → mI N y = mI M y := fun y y1 y2 y3 => (h.2.2.2.1 y y1 y3).1.trans (mI_o y2)
  have othL : ∀ y, y ≠ 1 → y ≠ b + 25 + k → mL N y = mL M y := fun y y1 y3 => (h.2.2.2.1 y y1 y3).2
  have rb : ∀ j, mI N b j = if j = 5 then nI (k + 1) else mI M b j := fun j => by
    rw [(h.2.2.2.1 b (by omega) (by omega)).1]
    by_cases z : j = 5
    · rw [if_pos z, z, mI_sI_s]
    · rw [if_neg z, mI_f z]
  have rr : ∀ j, mI N (b + 25 + k) j = f j := fun j => by rw [h.2.2.2.2.1]
  have co : ∀ j, j ≠ 2 → j < 161 → wsC c k v1 v2 j = c j := fun j h1 hj => wsC_o (by omega) (by omega) (by omega)
  have c2 : wsC c k v1 v2 2 = nI (k + 1) := if_pos rfl
  have wN' : wN (wsC c k v1 v2) = k + 1 := na_of (k := 2) c2 (by omega)
  have hN' : hN (wsC c k v1 v2) = hN c := na_same (k := 0) (co 0 (by omega) (by omega))
  have gN' : gN (wsC c k v1 v2) = gN c := na_same (k := 1) (co 1 (by omega) (by omega))
  have h8 := (ok_h ok.1).2
  have g4 := (ok_g ok.1).2
  have S' : shL N b := shL_same S h.1 h.2.1
  refine ⟨S', ⟨⟨by rw [rb, if_neg (by decide), co 0 (by omega) (by omega)]; exact t0, by rw [rb, if_neg (by decide), co 1 (by omega) (by omega)]; exact t1, by rw [rb, if_pos rfl, c2], by rw [rb, if_neg (by decide), co 3 (by omega) (by omega)]; exact t3, by rw [rb, if_neg (by decide), co 4 (by omega) (by omega)]; exact t4⟩, fun i hi => ?_, fun i j hi hj => ?_, fun g hg => ?_, fun w hw => ?_⟩, fun i j hi hj => ?_, ?_⟩
  · rw [hN'] at hi
    have z := rH i hi
    unfold shH at *
    rw [oth (b + 13 + i) (by omega) (by omega) (by omega), co _ (by omega) (by omega), co _ (by omega) (by omega), co _ (by omega) (by omega), co _ (by omega) (by omega), co _ (by omega) (by omega), co _ (by omega) (by omega), co _ (by omega) (by omega), co _ (by omega) (by omega)]
    exact z
  · rw [hN'] at hi hj
    rw [oth (b + 5 + i) (by omega) (by omega) (by omega), co _ (by omega) (by omega)]
    exact DB i j (by omega) (by omega)
  · rw [gN'] at hg
    have z := rG g hg
    unfold shG at *
    rw [oth (b + 21 + g) (by omega) (by omega) (by omega), co _ (by omega) (by omega), co _ (by omega) (by omega), co _ (by omega) (by omega), co _ (by omega) (by omega), co _ (by omega) (by omega), co _ (by omega) (by omega), pcs_0 (by rw [co _ (by omega) (by omega)]; exact ok.2.2.2 g hg), ← pcs_0 (ok.2.2.2 g hg)]
    exact z
  · rw [wN'] at hw
    by_cases ik : w = k
    · subst ik
      rw [rr, rr, e1, e2]
      unfold wsC
      exact ⟨by rw [if_neg (by omega), if_pos rfl], by rw [if_neg (by omega), if_neg (by omega), if_pos rfl]⟩
    · rw [oth (b + 25 + w) (by omega) (by omega) (by omega), wsC_o (by omega) (by omega) (by omega), wsC_o (by omega) (by omega) (by omega)]
      exact rW w (by omega)
  · rw [oth (b + 5 + i) (by omega) (by omega) (by omega), co _ (by omega) (by omega)]
    exact DB i j hi hj
  · rw [hN', gN', wN']
    obtain ⟨-, B3, B4, -, n1, n2, n3⟩ := B
    refine ⟨S', ⟨by rw [rb, if_neg (by decide)]; exact B3.1, h8⟩, ⟨by rw [rb, if_neg (by decide)]; exact B4.1, g4⟩, ⟨by rw [rb, if_pos rfl], by omega⟩, fun i hi => ?_, fun g hg => ?_, fun w hw => ?_⟩
    · have e : nmU nm (12 + k) L i = nm i := if_neg (by omega)
      rw [e, othL _ (by omega) (by omega)]
      exact n1 i hi
    · have e : nmU nm (12 + k) L (8 + g) = nm (8 + g) := if_neg (by omega)
      rw [e, othL _ (by omega) (by omega)]
      exact n2 g hg
    · by_cases ik : w = k
      · subst ik
        unfold nmU
        rw [if_pos rfl]
        exact ⟨oL, h.2.2.2.2.2.1⟩
      · have e : nmU nm (12 + k) L (12 + w) = nm (12 + w) := if_neg (by omega)
        rw [e, othL _ (by omega) (by omega)]
        exact n3 w (by omega)

theorem c_wind (C : CT M cd n s) (D : dC M b c nm) (ok : dOK c) (R : rdS M q b) (hb : 12 ≤ b) : cOut M (f_X5_readWind M (some q)) cd n b (rdW cd n c nm s) := by
  have D0 := D
  obtain ⟨S, SR, DB, B⟩ := D
  obtain ⟨k, hk⟩ : ∃ k, wN c = k := ⟨_, rfl⟩
  have c0 := ok_w ok.1
  have h8 := (ok_h ok.1).2
  rw [hk] at c0 B
  have b3 : mI M b 5 = nI k := by rw [SR.1.2.2.1, c0.1]
  unfold rdW f_X5_readWind g_X5_readWind
  rw [rd_1 R, gfI_s (lk_s S), b3, hk]
  by_cases k8 : k = 6
  · obtain ⟨N, h1, h2⟩ := c_fail C 6
    rw [if_neg (by rw [show (6 : Int32) = nI 6 from rfl, nI_ltI' (by omega) (by omega)]; omega), if_pos k8, rd_0 R, tp_ck C.1, show (6 : Int32) = nI 6 from rfl, h1, bd_s, zc0]
    exact ⟨N, rfl, h2.fr⟩
  have k7 : k < 6 := by omega
  obtain ⟨r, hr⟩ : ∃ r, b + 25 + k = r := ⟨_, rfl⟩
  have kr : (mK M r).1 = 8 := by rw [← hr]; exact lk_w S k7
  obtain ⟨N1, a1, a2, C1⟩ := c_step C
  have H1 := (hS.rf M r).v (by omega) a2.v
  have R1 := H1.R R
  have B1 := cNB_v B hb a2.v
  rw [if_pos (by rw [show (6 : Int32) = nI 6 from rfl, nI_ltI' (by omega) (by omega)]; omega), if_neg k8, rd_1 R, l_ws S, rd_1 R, gfI_s (lk_s S), b3, l_w S k7, hr, rd_0 R, tp_ck C.1, a1, bv_s, ck_s (by rw [R1.1])]
  have g := c_new C1 B1 R1
  rcases ht : tNew cd n nm (hN c) (gN c) k (nx cd n s) with e | s1
  · rw [ht] at g
    obtain ⟨N2, g1, g2⟩ := g
    have K2 : (mK N2 r).1 = 8 := by rw [g2.1.1, H1.1]; exact kr
    rw [g1, bd_s, pfL_s K2, gfL_s (by show (mK N2 r).1 = 8; exact K2), mL_s, if_pos ((lg_cmp_eq _ _).mpr rfl), zc0, Sb_l]
    exact ⟨_, rfl, ((H1.bd g2).pL _).fr (by omega) (by omega)⟩
  rw [ht] at g
  obtain ⟨N2, g1, g2, C2, oL⟩ := g
  have H2 := (H1.v (by omega) g2).pL (lN (n27 (tkL cd n (nx cd n s))))
  have C2' := C2.l (r := r) (by omega) (by omega) 0 (lN (n27 (tkL cd n (nx cd n s))))
  have K2 : (mK N2 r).1 = 8 := by rw [g2.1, H1.1]; exact kr
  rw [g1, bd_s, pfL_s K2, gfL_s (by show (mK N2 r).1 = 8; exact K2), mL_s, if_neg (fun z => lN_ne_neg (n27_63 oL) ((lg_cmp_eq _ _).mp z)), Sb_r]
  have g3 := c_takeNum C2' 0 99 (by omega) (by omega)
  rw [rd_0 (H2.R R), tp_ck C2'.1]
  rcases ht3 : tN cd n 0 99 s1 with e | ⟨v1, s2⟩
  · rw [ht3] at g3
    obtain ⟨N3, g1, g2⟩ := g3
    rw [show f_X6_takeNumber (sL N2 r 0 (lN (n27 (tkL cd n (nx cd n s))))) (some 1) 0 99 = some (0, N3) from g1, bd_s, if_pos rfl, zc0, Sp_l]
    exact ⟨_, rfl, (H2.bd g2).fr (by omega) (by omega)⟩
  rw [ht3] at g3
  obtain ⟨N3, g1, g2, C3, e3⟩ := g3
  have H3 := (H2.v (by omega) g2).pI (by omega) 1 (nI v1)
  have C3' := C3.o (r := r) (by omega) (by omega) (by omega) 1 (nI v1)
  rw [show f_X6_takeNumber (sL N2 r 0 (lN (n27 (tkL cd n (nx cd n s))))) (some 1) 0 99 = some (1, N3) from g1, bd_s, if_neg (by decide), rd_0 ((H2.v (by omega) g2).R R), tp_gI C3.1, e3, pfI_s (by rw [(H2.v (by omega) g2).1]; exact kr), Sp_r]
  have g4 := c_takeWN C3' 13 1 99 (by omega) (by omega)
  rw [rd_0 (H3.R R), tp_ck C3'.1]
  rcases ht4 : tWN cd n 13 1 99 s2 with e | ⟨v2, s3⟩
  · rw [ht4] at g4
    obtain ⟨N4, g1, g2⟩ := g4
    rw [show f_X6_takeWordAndNumber (sI N3 r 1 (nI v1)) (some 1) 13 1 99 = some (0, N4) from g1, bd_s, if_pos rfl, zc0, Sp_l]
    exact ⟨_, rfl, (H3.bd g2).fr (by omega) (by omega)⟩
  rw [ht4] at g4
  obtain ⟨N4, g1, g2, C4, e4⟩ := g4
  have H4 := (H3.v (by omega) g2).pI (by omega) 2 (nI v2)
  have C4' := C4.o (r := r) (by omega) (by omega) (by omega) 2 (nI v2)
  rw [show f_X6_takeWordAndNumber (sI N3 r 1 (nI v1)) (some 1) 13 1 99 = some (1, N4) from g1, bd_s, if_neg (by decide), rd_0 ((H3.v (by omega) g2).R R), tp_gI C4.1, e4, pfI_s (by rw [(H3.v (by omega) g2).1]; exact kr), Sp_r]
  have b37 : mI (sI N4 r 2 (nI v2)) b 5 = nI k := by rw [(H4.2.2.2.1 b (by omega) (by omega)).1]; exact b3
  rw [rd_1 (H4.R R), gfI_s (lk_s (H4.L S)), b37, nI_1, pfI_s (lk_s (H4.L S)), zc1]
  have H8 := H4.up (b := b) (by omega) (by omega) 5 (nI (k + 1))
  have C8 := C4'.o (r := b) (by omega) (by omega) (by omega) 5 (nI (k + 1))
  obtain ⟨p1, p2⟩ := H8.fr2 (by omega) (by omega) hb
  subst hr
  refine ⟨_, rfl, p1, p2, C8, dC_wind D0 ok hb hk k7 oL H8 ?_ ?_⟩
  · rw [sx_o (by decide), sx_s]
  · rw [sx_s]
end H

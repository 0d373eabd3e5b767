/-! THE TWO OBJECTS ARE MADE -/
def ini : Option Mm := nwc M00 11 19 fun q0 M0 => nz q0 <| bv (f_X11_init M0 q0) fun M4 => nwc M4 12 45 fun q8 M8 => nz q8 <| bv (f_X12_init M8 q8) fun M12 => if q0 = some 0 ∧ q8 = some 207 then some M12 else none
def MB : Mm := match ini with
  | some m => m
  | none => M00
theorem ib_s : ini.isSome = true := by decide +kernel
theorem ib_e : ini = some MB := by
  have h := ib_s
  unfold MB
  cases e : ini with
  | none => rw [e] at h; exact absurd h (by decide)
  | some m => rfl
theorem ib_top : mT MB = 221 := by decide +kernel
theorem ib_1 : cl1 MB := by unfold cl1; decide +kernel
theorem ib_2 : cl2 MB := by unfold cl2; decide +kernel
theorem ib_3 : cl3 MB := by unfold cl3; decide +kernel
theorem ib_sh12 : shL MB 12 := by unfold shL; decide +kernel
theorem ib_sh43 : shL MB 43 := by unfold shL; decide +kernel
theorem ib_sh96 : shL MB 96 := by unfold shL; decide +kernel
theorem ib_sh133 : shL MB 133 := by unfold shL; decide +kernel
theorem ib_sh170 : shL MB 170 := by unfold shL; decide +kernel
theorem ib_yr74 : yrL MB 74 := by unfold yrL; decide +kernel
theorem ib_yr80 : yrL MB 80 := by unfold yrL; decide +kernel
theorem ib_yr127 : yrL MB 127 := by unfold yrL; decide +kernel
theorem ib_yr164 : yrL MB 164 := by unfold yrL; decide +kernel
theorem ib_yr201 : yrL MB 201 := by unfold yrL; decide +kernel
theorem ib_4 : cl4 MB := by
  refine ⟨ib_sh12, ib_sh43, fun i hi => ?_, ib_yr74, ib_yr80⟩
  rcases (show i = 0 ∨ i = 1 ∨ i = 2 by omega) with h | h | h <;> subst h
  · exact ⟨ib_sh96, ib_yr127⟩
  · exact ⟨ib_sh133, ib_yr164⟩
  · exact ⟨ib_sh170, ib_yr201⟩
theorem ib_5 : cl5 MB := by unfold cl5; decide +kernel
theorem ib_6 : cl6 MB := by unfold cl6; decide +kernel
theorem ib_D : clD MB 12 43 74 80 := by unfold clD; decide +kernel
theorem ib_m : mdL MB := by unfold mdL; decide +kernel
theorem ib_LL : LL MB 12 43 74 80 := ⟨⟨ib_1, ib_2, ib_3, ib_4, ib_5, ib_6⟩, ib_D, ib_m, by rw [ib_top]; exact Nat.le_refl _⟩
theorem ib_c : mI MB 212 0 = nI 0 ∧ mI MB 212 1 = nI 0 ∧ mI MB 212 2 = nI 0 ∧ mI MB 212 3 = nI 3 ∧ mI MB 212 4 = nI 0 ∧ mI MB 212 173 = 0 := by decide +kernel
theorem ib_h : hN (mI MB 212) = 0 ∧ gN (mI MB 212) = 0 ∧ wN (mI MB 212) = 0 := ⟨na_of (k := 0) ib_c.1 (by decide), na_of (k := 1) ib_c.2.1 (by decide), na_of (k := 2) ib_c.2.2.1 (by decide)⟩
theorem bdd_nI {c : Nat → Int32} {k n lo hi : Nat} (e : c k = nI n) (h : n < 2147483648) (h1 : lo ≤ n) (h2 : n ≤ hi) : bdd c k lo hi := by
  unfold bdd
  rw [na_of e h]
  exact ⟨e, h1, h2⟩
theorem ib_C : okC (mI MB 212) := by
  obtain ⟨h, g, w⟩ := ib_h
  obtain ⟨c0, c1, c2, c3, c4, -⟩ := ib_c
  refine ⟨bdd_nI c0 (by decide) (by decide) (by decide), bdd_nI c1 (by decide) (by decide) (by decide), bdd_nI c2 (by decide) (by decide) (by decide), bdd_nI c3 (by decide) (by decide) (by decide), bdd_nI c4 (by decide) (by decide) (by decide), ?_, ?_, ?_, ?_, ?_⟩
  · rw [h]; exact fun i hi => absurd hi (Nat.not_lt_zero i)
  · rw [h]; exact fun i j hi => absurd hi (Nat.not_lt_zero i)
  · rw [g]; exact fun i hi => absurd hi (Nat.not_lt_zero i)
  · rw [w]; exact fun i hi => absurd hi (Nat.not_lt_zero i)
  · rw [g]; exact fun i j hi => absurd hi (Nat.not_lt_zero i)
theorem ib_R : mI MB 12 3 = nI 0 ∧ mI MB 12 4 = nI 0 ∧ mI MB 12 5 = nI 0 ∧ mI MB 12 7 = nI 3 ∧ mI MB 12 8 = nI 0 := by decide +kernel
theorem ib_S : shO MB 12 (mI MB 212) := by
  obtain ⟨h, g, w⟩ := ib_h
  obtain ⟨c0, c1, c2, c3, c4, -⟩ := ib_c
  obtain ⟨r0, r1, r2, r3, r4⟩ := ib_R
  refine ⟨ib_4.1, ⟨⟨r0.trans c0.symm, r1.trans c1.symm, r2.trans c2.symm, r3.trans c3.symm, r4.trans c4.symm⟩, ?_, ?_, ?_, ?_⟩, ib_C⟩
  · rw [h]; exact fun i hi => absurd hi (Nat.not_lt_zero i)
  · rw [h]; exact fun i j hi => absurd hi (Nat.not_lt_zero i)
  · rw [g]; exact fun i hi => absurd hi (Nat.not_lt_zero i)
  · rw [w]; exact fun i hi => absurd hi (Nat.not_lt_zero i)
theorem ib_N : rNm MB 12 0 (mI MB 212) := by
  obtain ⟨h, g, w⟩ := ib_h
  unfold rNm
  rw [h, g, w]
  refine ⟨?_, fun i hi => absurd hi (Nat.not_lt_zero i), fun i hi => absurd hi (Nat.not_lt_zero i), fun i hi => absurd hi (Nat.not_lt_zero i)⟩
  rw [na_of ib_c.2.2.2.2.1 (by decide)]
  exact Nat.zero_le _
theorem ib_st : mI MB 0 0 = mI MB 207 0 := by decide +kernel
theorem ib_Fr : rFr MB := by unfold rFr; decide +kernel
theorem ib_Fa : rFa MB := by unfold rFa; decide +kernel
theorem ib_w : ∀ w, w < 30 → mL MB 3 w = wrd w := by decide +kernel
theorem ib_n : mI MB 1 1 = nI 0 ∧ mI MB 207 8 = nI 0 := by decide +kernel
theorem ib_Tp : rTp MB := ⟨⟨0, by omega, ib_n.1, ib_n.2, fun i hi => absurd hi (Nat.not_lt_zero i)⟩, ib_w⟩
theorem ib_t : ∀ t, t < 4 → mI MB 11 t = -1 ∧ mI MB 209 t = -1 := by decide +kernel
theorem ib_Ty : rTy MB := fun t ht => Or.inl (ib_t t ht)
theorem ib_y : mI MB 74 0 = 0 := by decide +kernel
theorem ib_Yr : rYr MB 74 (mI MB 212) := ⟨ib_y.trans ib_c.2.2.2.2.2.symm, Or.inl ib_c.2.2.2.2.2⟩
theorem ib_k : mI MB 0 13 = nI 0 ∧ mI MB 207 23 = nI 0 := by decide +kernel
theorem ib_Mk : rMk MB := ⟨0, by omega, ib_k.1, ib_k.2, fun i hi => absurd hi (Nat.not_lt_zero i)⟩
theorem ib_p : mI MB 0 15 = -1 ∧ mI MB 207 30 = -1 ∧ mI MB 88 1 = 0 ∧ mI MB 207 33 = -1 := by decide +kernel
theorem ib_Pl : rPl MB := ⟨ib_p.1.trans ib_p.2.1.symm, Or.inl ib_p.1, Or.inl ib_p.2.2⟩
theorem ib_l : mI MB 0 18 = 0 ∧ mI MB 207 36 = 0 := by decide +kernel
theorem ib_Li : rLi MB := ⟨ib_l.1.trans ib_l.2.symm, Or.inl ib_l.1⟩
theorem ib_RR : RR MB := ⟨12, 43, 74, 80, ib_LL, ib_S, ib_N, ib_st, ib_Fr, ib_Fa, ib_Tp, ib_Ty, ib_Yr, ib_Mk, ib_Pl, ib_Li⟩

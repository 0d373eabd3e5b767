/-! THE CLASS'S SHORE: its reads and writes, of its cells as they are -/
section L
variable {ρ : Type} {M : Mm} {a : Nat} {e : Nat → Int32}
theorem l_hs (L : shL M a) {k : Option Nat → Option ρ} : gfR M (some a) 4 0 k = k (some (a + 1)) := by rw [gfR_s (by rw [L.1]), L.2.2.2.2.2.1]
theorem l_gs (L : shL M a) {k : Option Nat → Option ρ} : gfR M (some a) 4 1 k = k (some (a + 2)) := by rw [gfR_s (by rw [L.1]), L.2.2.2.2.2.2.1]
theorem l_ws (L : shL M a) {k : Option Nat → Option ρ} : gfR M (some a) 4 2 k = k (some (a + 3)) := by rw [gfR_s (by rw [L.1]), L.2.2.2.2.2.2.2.1]
theorem l_ds (L : shL M a) {k : Option Nat → Option ρ} : gfR M (some a) 4 6 k = k (some (a + 4)) := by rw [gfR_s (by rw [L.1]), L.2.2.2.2.2.2.2.2.1]
theorem l_h (L : shL M a) {i : Nat} (hi : i < 8) {k : Option Nat → Option ρ} : alR M (some (a + 1)) 31 (nI i) k = k (some (a + 13 + i)) := by rw [alR_s L.2.1 hi (by decide), (L.2.2.2.2.2.2.2.2.2.1 i hi).1]
theorem l_d (L : shL M a) {i : Nat} (hi : i < 8) {k : Option Nat → Option ρ} : alR M (some (a + 4)) 50 (nI i) k = k (some (a + 5 + i)) := by rw [alR_s L.2.2.2.2.1 hi (by decide), (L.2.2.2.2.2.2.2.2.2.1 i hi).2.2.1]
theorem l_g (L : shL M a) {i : Nat} (hi : i < 4) {k : Option Nat → Option ρ} : alR M (some (a + 2)) 30 (nI i) k = k (some (a + 21 + i)) := by rw [alR_s L.2.2.1 hi (by decide), (L.2.2.2.2.2.2.2.2.2.2.1 i hi).1]
theorem l_w (L : shL M a) {i : Nat} (hi : i < 6) {k : Option Nat → Option ρ} : alR M (some (a + 3)) 38 (nI i) k = k (some (a + 25 + i)) := by rw [alR_s L.2.2.2.1 hi (by decide), (L.2.2.2.2.2.2.2.2.2.2.2 i hi).1]
theorem lk_h (L : shL M a) {i : Nat} (hi : i < 8) : (mK M (a + 13 + i)).1 = 1 := by rw [(L.2.2.2.2.2.2.2.2.2.1 i hi).2.1]
theorem lk_d (L : shL M a) {i : Nat} (hi : i < 8) : mK M (a + 5 + i) = (21, 8) := (L.2.2.2.2.2.2.2.2.2.1 i hi).2.2.2
theorem lk_g (L : shL M a) {i : Nat} (hi : i < 4) : (mK M (a + 21 + i)).1 = 0 := by rw [(L.2.2.2.2.2.2.2.2.2.2.1 i hi).2]
theorem lk_w (L : shL M a) {i : Nat} (hi : i < 6) : (mK M (a + 25 + i)).1 = 8 := by rw [(L.2.2.2.2.2.2.2.2.2.2.2 i hi).2]
theorem lk_s (L : shL M a) : (mK M a).1 = 4 := by rw [L.1]
theorem lc_h (L : shL M a) {i : Nat} (hi : i < 8) {x : Option ρ} : ck M (some (a + 13 + i)) 1 x = x := ck_s (lk_h L hi)
theorem lc_g (L : shL M a) {i : Nat} (hi : i < 4) {x : Option ρ} : ck M (some (a + 21 + i)) 0 x = x := ck_s (lk_g L hi)
theorem lc_w (L : shL M a) {i : Nat} (hi : i < 6) {x : Option ρ} : ck M (some (a + 25 + i)) 8 x = x := ck_s (lk_w L hi)
theorem lc_s (L : shL M a) {x : Option ρ} : ck M (some a) 4 x = x := ck_s (lk_s L)
theorem lp_h (L : shL M a) {i : Nat} (hi : i < 8) {j : Nat} {v : Int32} {k : Mm → Option ρ} : pfI M (some (a + 13 + i)) 1 j v k = k (sI M (a + 13 + i) j v) := pfI_s (lk_h L hi)
theorem lp_g (L : shL M a) {i : Nat} (hi : i < 4) {j : Nat} {v : Int32} {k : Mm → Option ρ} : pfI M (some (a + 21 + i)) 0 j v k = k (sI M (a + 21 + i) j v) := pfI_s (lk_g L hi)
theorem lp_s (L : shL M a) {j : Nat} {v : Int32} {k : Mm → Option ρ} : pfI M (some a) 4 j v k = k (sI M a j v) := pfI_s (lk_s L)
theorem lp_hz (L : shL M a) {i : Nat} (hi : i < 8) {j : Nat} {v : Int32} (hv : v = 0 ∨ v = 1) {k : Mm → Option ρ} : pfZ M (some (a + 13 + i)) 1 j v k = k (sI M (a + 13 + i) j v) := pfZ_s (lk_h L hi) hv
theorem lp_d (L : shL M a) {i j : Nat} (hi : i < 8) (hj : j < 8) {v : Int32} {k : Mm → Option ρ} : asI M (some (a + 5 + i)) 21 (nI j) v k = k (sI M (a + 5 + i) j v) := asI_s (lk_d L hi) hj (by decide)
theorem rg_ho (W : shW M a e) {g : Nat} (hg : g < gN e) (h4 : g < 4) {k : Int32 → Option ρ} : gfI M (some (a + 21 + g)) 0 1 k = k (e (133 + g)) := g_g W hg h4 (j := 0) (by decide)
theorem rg_ha (W : shW M a e) {g : Nat} (hg : g < gN e) (h4 : g < 4) {k : Int32 → Option ρ} : gfI M (some (a + 21 + g)) 0 2 k = k (e (137 + g)) := g_g W hg h4 (j := 1) (by decide)
theorem rg_pa (W : shW M a e) {g : Nat} (hg : g < gN e) (h4 : g < 4) {k : Int32 → Option ρ} : gfI M (some (a + 21 + g)) 0 3 k = k (e (141 + g)) := g_g W hg h4 (j := 2) (by decide)
theorem rg_at (W : shW M a e) {g : Nat} (hg : g < gN e) (h4 : g < 4) {k : Int32 → Option ρ} : gfI M (some (a + 21 + g)) 0 4 k = k (e (145 + g)) := g_g W hg h4 (j := 3) (by decide)
theorem rg_hd (W : shW M a e) {g : Nat} (hg : g < gN e) (h4 : g < 4) {k : Int32 → Option ρ} : gfI M (some (a + 21 + g)) 0 5 k = k (e (149 + g)) := g_g W hg h4 (j := 4) (by decide)
theorem rg_wa (W : shW M a e) {g : Nat} (hg : g < gN e) (h4 : g < 4) {k : Int32 → Option ρ} : gfI M (some (a + 21 + g)) 0 6 k = k (e (153 + g)) := g_g W hg h4 (j := 5) (by decide)
theorem rg_pc (W : shW M a e) {g : Nat} (hg : g < gN e) (h4 : g < 4) {k : Int32 → Option ρ} : gfI M (some (a + 21 + g)) 0 7 k = k (e (157 + g)) := g_g W hg h4 (j := 6) (by decide)
theorem rh_at (W : shW M a e) {i : Nat} (hi : i < hN e) (h8 : i < 8) {k : Int32 → Option ρ} : gfI M (some (a + 13 + i)) 1 1 k = k (e (5 + i)) := g_h W hi h8 (j := 0) (by decide)
theorem rh_wo (W : shW M a e) {i : Nat} (hi : i < hN e) (h8 : i < 8) {k : Int32 → Option ρ} : gfI M (some (a + 13 + i)) 1 2 k = k (e (13 + i)) := g_h W hi h8 (j := 1) (by decide)
theorem rh_pi (W : shW M a e) {i : Nat} (hi : i < hN e) (h8 : i < 8) {k : Int32 → Option ρ} : gfI M (some (a + 13 + i)) 1 3 k = k (e (21 + i)) := g_h W hi h8 (j := 2) (by decide)
theorem rh_we (W : shW M a e) {i : Nat} (hi : i < hN e) (h8 : i < 8) {k : Int32 → Option ρ} : gfI M (some (a + 13 + i)) 1 4 k = k (e (29 + i)) := g_h W hi h8 (j := 3) (by decide)
theorem rh_lo (W : shW M a e) {i : Nat} (hi : i < hN e) (h8 : i < 8) {k : Int32 → Option ρ} : gfI M (some (a + 13 + i)) 1 5 k = k (e (37 + i)) := g_h W hi h8 (j := 4) (by decide)
theorem rh_pe (W : shW M a e) {i : Nat} (hi : i < hN e) (h8 : i < 8) {k : Int32 → Option ρ} : gfI M (some (a + 13 + i)) 1 6 k = k (e (45 + i)) := g_h W hi h8 (j := 5) (by decide)
theorem rh_on (W : shW M a e) {i : Nat} (hi : i < hN e) (h8 : i < 8) {k : Int32 → Option ρ} : gfI M (some (a + 13 + i)) 1 7 k = k (e (53 + i)) := g_h W hi h8 (j := 6) (by decide)
theorem rh_sd (W : shW M a e) {i : Nat} (hi : i < hN e) (h8 : i < 8) {k : Int32 → Option ρ} : gfI M (some (a + 13 + i)) 1 8 k = k (e (61 + i)) := g_h W hi h8 (j := 7) (by decide)
theorem wg_at (W : shW M a e) {g : Nat} (h4 : g < 4) (v : Int32) : shW (sI M (a + 21 + g) 4 v) a (upd e (145 + g) v) := w_g W h4 (j := 3) (by decide) v
theorem wg_hd (W : shW M a e) {g : Nat} (h4 : g < 4) (v : Int32) : shW (sI M (a + 21 + g) 5 v) a (upd e (149 + g) v) := w_g W h4 (j := 4) (by decide) v
theorem wg_wa (W : shW M a e) {g : Nat} (h4 : g < 4) (v : Int32) : shW (sI M (a + 21 + g) 6 v) a (upd e (153 + g) v) := w_g W h4 (j := 5) (by decide) v
theorem wg_pc (W : shW M a e) {g : Nat} (h4 : g < 4) (v : Int32) : shW (sI M (a + 21 + g) 7 v) a (upd e (157 + g) v) := w_g W h4 (j := 6) (by decide) v
theorem wh_on (W : shW M a e) {i : Nat} (h8 : i < 8) (v : Int32) : shW (sI M (a + 13 + i) 7 v) a (upd e (53 + i) v) := w_h W h8 (j := 6) (by decide) v
theorem wh_sd (W : shW M a e) {i : Nat} (h8 : i < 8) (v : Int32) : shW (sI M (a + 13 + i) 8 v) a (upd e (61 + i) v) := w_h W h8 (j := 7) (by decide) v
theorem rt_h (W : shW M a e) {k : Int32 → Option ρ} : gfI M (some a) 4 3 k = k (e 0) := by
  have := W.2 0 (Or.inl (by decide))
  rw [gfI_s (lk_s W.1), show mI M a 3 = e 0 from this]
theorem rt_g (W : shW M a e) {k : Int32 → Option ρ} : gfI M (some a) 4 4 k = k (e 1) := by
  have := W.2 1 (Or.inl (by decide))
  rw [gfI_s (lk_s W.1), show mI M a 4 = e 1 from this]
theorem rt_w (W : shW M a e) {k : Int32 → Option ρ} : gfI M (some a) 4 5 k = k (e 2) := by
  have := W.2 2 (Or.inl (by decide))
  rw [gfI_s (lk_s W.1), show mI M a 5 = e 2 from this]
theorem rt_l (W : shW M a e) {k : Int32 → Option ρ} : gfI M (some a) 4 7 k = k (e 3) := by
  have := W.2 3 (Or.inl (by decide))
  rw [gfI_s (lk_s W.1), show mI M a 7 = e 3 from this]
theorem rt_m (W : shW M a e) {k : Int32 → Option ρ} : gfI M (some a) 4 8 k = k (e 4) := by
  have := W.2 4 (Or.inl (by decide))
  rw [gfI_s (lk_s W.1), show mI M a 8 = e 4 from this]
end L
theorem upd_h {e : Nat → Int32} {k : Nat} {v : Int32} (h : 3 ≤ k) : hN (upd e k v) = hN e := na_same (pk_un (by omega))
theorem upd_g {e : Nat → Int32} {k : Nat} {v : Int32} (h : 3 ≤ k) : gN (upd e k v) = gN e := na_same (pk_un (by omega))

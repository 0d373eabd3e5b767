abbrev hasB (s : Int32) (k : Nat) : Prop := ((s >>> (nI k &&& 31)) &&& 1) = 1
abbrev bitB (k : Nat) : Int32 := (1 : Int32) <<< (nI k &&& 31)
theorem st_y {p : Nat → Prop} [DecidablePred p] {n : Nat} (h : p n) : st p (n + 1) = st p n ||| bitB n := by rw [st, if_pos h]
theorem st_n {p : Nat → Prop} [DecidablePred p] {n : Nat} (h : ¬ p n) : st p (n + 1) = st p n := by rw [st, if_neg h]
section Sh
variable {ρ : Type} {M : Mm} {a : Nat} {c : Nat → Int32}
theorem p_standing (S : shO M a c) : f_X4_standingSet M (some a) = some (st (fun h => c (61 + h) = 1) (hN c), M) := by
  have h8 := (ok_h S.2.2).2
  refine lup0 (fun f k => f_X4_standingSet_4 f M (some a) (st (fun h => c (61 + h) = 1) k) (nI k)) (hN c) _ (by omega) (fun f k hk => ?_) (fun f => ?_)
  · rw [f_X4_standingSet_4, e_hc S, if_neg (hc_in S.2.2 hk), e_hs S, e_h S (h_8 S hk), e_hsd S hk]
    by_cases h1 : c (61 + k) = 0
    · rw [if_pos h1, st_n ((sd_ne S hk).mp h1)]
      unfold f_X4_standingSet_30
      rw [nI_1]
    · rw [if_neg h1, st_y (p := fun h => c (61 + h) = 1) (Decidable.byContradiction fun z => h1 ((sd_ne S hk).mpr z)), nmI_s]
      unfold f_X4_standingSet_30
      rw [nI_1]
  · rw [f_X4_standingSet_4, e_hc S, if_pos (hc_out S.2.2)]
theorem p_open (S : shO M a c) : f_X4_openSet M (some a) = some (st (isOn c) (hN c), M) := by
  have h8 := (ok_h S.2.2).2
  refine lup0 (fun f k => f_X4_openSet_4 f M (some a) (st (isOn c) k) (nI k)) (hN c) _ (by omega) (fun f k hk => ?_) (fun f => ?_)
  · rw [f_X4_openSet_4, e_hc S, if_neg (hc_in S.2.2 hk), e_hs S, e_h S (h_8 S hk), ck_s (by rw [k_h S (h_8 S hk)]), p_isOpen S hk, bd_s]
    by_cases h1 : isOn c k
    · rw [if_pos h1, if_neg (by decide), st_y h1, nmI_s]
      unfold f_X4_openSet_30
      rw [nI_1]
    · rw [if_neg h1, if_pos rfl, st_n h1]
      unfold f_X4_openSet_30
      rw [nI_1]
  · rw [f_X4_openSet_4, e_hc S, if_pos (hc_out S.2.2)]
theorem p_off (S : shO M a c) : f_X4_offSet M (some a) = some (st (fun h => c (61 + h) = 1) (hN c) &&& (st (isOn c) (hN c) ^^^ (-1)), M) := by
  unfold f_X4_offSet
  rw [ck_s (k_s S), p_standing S, bd_s, ck_s (k_s S), p_open S, bd_s]
abbrev falls (c : Nat → Int32) (s : Int32) (h : Nat) : Prop := isOn c h ∧ ¬ s < holds c h
theorem p_falling (S : shO M a c) (s : Int32) : f_X4_fallingSet M (some a) s = some (st (falls c s) (hN c), M) := by
  have h8 := (ok_h S.2.2).2
  refine lup0 (fun f k => f_X4_fallingSet_4 f M (some a) s (st (falls c s) k) (nI k)) (hN c) _ (by omega) (fun f k hk => ?_) (fun f => ?_)
  · rw [f_X4_fallingSet_4, e_hc S, if_neg (hc_in S.2.2 hk), e_hs S, e_h S (h_8 S hk), ck_s (by rw [k_h S (h_8 S hk)]), p_isOpen S hk, bd_s]
    by_cases h1 : isOn c k
    · rw [if_pos h1, if_neg (by decide), e_hs S, e_h S (h_8 S hk), ck_s (by rw [k_h S (h_8 S hk)]), p_least S hk, bd_s]
      by_cases h2 : s < holds c k
      · rw [if_pos h2, st_n (fun z => z.2 h2)]
        unfold f_X4_fallingSet_43
        rw [nI_1]
      · rw [if_neg h2, st_y (p := falls c s) ⟨h1, h2⟩, nmI_s]
        unfold f_X4_fallingSet_43
        rw [nI_1]
    · rw [if_neg h1, if_pos rfl, st_n (fun z => h1 z.1)]
      unfold f_X4_fallingSet_43
      rw [nI_1]
  · rw [f_X4_fallingSet_4, e_hc S, if_pos (hc_out S.2.2)]
/-- the worth of a set -/
def wof (c : Nat → Int32) (s : Int32) : Int32 := sm (fun h => if hasB s h then c (13 + h) else 0) (hN c)
theorem p_worth (S : shO M a c) (s : Int32) : f_X4_worthOf M (some a) s = some (wof c s, M) := by
  have h8 := (ok_h S.2.2).2
  refine lup0 (fun f k => f_X4_worthOf_4 f M (some a) s (sm (fun h => if hasB s h then c (13 + h) else 0) k) (nI k)) (hN c) _ (by omega) (fun f k hk => ?_) (fun f => ?_)
  · rw [f_X4_worthOf_4, e_hc S, if_neg (hc_in S.2.2 hk), sm]
    by_cases h1 : hasB s k
    · rw [if_pos h1, if_pos h1, e_hs S, e_h S (h_8 S hk), e_hwo S hk, nmI_s]
      unfold f_X4_worthOf_33
      rw [nI_1]
    · rw [if_neg h1, if_neg h1, Int32.add_zero]
      unfold f_X4_worthOf_33
      rw [nI_1]
  · rw [f_X4_worthOf_4, e_hc S, if_pos (hc_out S.2.2)]
    rfl
/-- the chances by which a house falls -/
def rsk (c : Nat → Int32) (h : Nat) : Int32 := sm (fun w => if falls c (c (161 + w)) h then c (167 + w) else 0) (wN c)
theorem p_chances (S : shO M a c) {h : Nat} (hh : h < hN c) : f_X4_chancesToFall M (some a) (nI h) = some (rsk c h, M) := by
  have h8 := (ok_w S.2.2).2
  refine lup0 (fun f k => f_X4_chancesToFall_4 f M (some a) (nI h) (sm (fun w => if falls c (c (161 + w)) h then c (167 + w) else 0) k) (nI k)) (wN c) _ (by omega) (fun f k hk => ?_) (fun f => ?_)
  · rw [f_X4_chancesToFall_4, e_wc S, if_neg (wc_in S.2.2 hk), e_hs S, e_h S (h_8 S hh), ck_s (by rw [k_h S (h_8 S hh)]), p_isOpen S hh, bd_s, sm]
    by_cases h1 : isOn c h
    · rw [if_pos h1, if_neg (by decide), e_ws S, e_w S (w_6 S hk), e_wst S hk, e_hs S, e_h S (h_8 S hh), ck_s (by rw [k_h S (h_8 S hh)]), p_least S hh, bd_s]
      by_cases h2 : c (161 + k) < holds c h
      · rw [if_pos h2, if_neg (fun z : falls c (c (161 + k)) h => z.2 h2), Int32.add_zero]
        unfold f_X4_chancesToFall_57
        rw [nI_1]
      · have h3 : falls c (c (161 + k)) h := ⟨h1, h2⟩
        rw [if_neg h2, if_pos h3, e_ws S, e_w S (w_6 S hk), e_wch S hk, nmI_s]
        unfold f_X4_chancesToFall_57
        rw [nI_1]
    · rw [if_neg h1, if_pos rfl, if_neg (fun z : falls c (c (161 + k)) h => h1 z.1), Int32.add_zero]
      unfold f_X4_chancesToFall_57
      rw [nI_1]
  · rw [f_X4_chancesToFall_4, e_wc S, if_pos (wc_out S.2.2)]
    rfl
def lss (c : Nat → Int32) : Int32 := sm (fun h => c (13 + h) * rsk c h) (hN c)
theorem p_loss (S : shO M a c) : f_X4_lossByChances M (some a) = some (lss c, M) := by
  have h8 := (ok_h S.2.2).2
  refine lup0 (fun f k => f_X4_lossByChances_4 f M (some a) (sm (fun h => c (13 + h) * rsk c h) k) (nI k)) (hN c) _ (by omega) (fun f k hk => ?_) (fun f => ?_)
  · rw [f_X4_lossByChances_4, e_hc S, if_neg (hc_in S.2.2 hk), e_hs S, e_h S (h_8 S hk), e_hwo S hk, ck_s (k_s S), p_chances S hk, bd_s, nmI_s, nI_1]
    rfl
  · rw [f_X4_lossByChances_4, e_hc S, if_pos (hc_out S.2.2)]
    rfl
theorem p_timesHelped (S : shO M a c) {h : Nat} (hh : h < hN c) : f_X4_timesHelped M (some a) (nI h) = some (sm (fun o => c (69 + 8 * h + o)) (hN c), M) := by
  have h8 := (ok_h S.2.2).2
  refine lup0 (fun f k => f_X4_timesHelped_4 f M (some a) (nI h) (sm (fun o => c (69 + 8 * h + o)) k) (nI k)) (hN c) _ (by omega) (fun f k hk => ?_) (fun f => ?_)
  · rw [f_X4_timesHelped_4, e_hc S, if_neg (hc_in S.2.2 hk), e_ds S, e_d S (h_8 S hh), e_db S hh hk, nmI_s, nI_1]
    rfl
  · rw [f_X4_timesHelped_4, e_hc S, if_pos (hc_out S.2.2)]
theorem p_timesHelping (S : shO M a c) {h : Nat} (hh : h < hN c) : f_X4_timesHelping M (some a) (nI h) = some (sm (fun o => c (69 + 8 * o + h)) (hN c), M) := by
  have h8 := (ok_h S.2.2).2
  refine lup0 (fun f k => f_X4_timesHelping_4 f M (some a) (nI h) (sm (fun o => c (69 + 8 * o + h)) k) (nI k)) (hN c) _ (by omega) (fun f k hk => ?_) (fun f => ?_)
  · rw [f_X4_timesHelping_4, e_hc S, if_neg (hc_in S.2.2 hk), e_ds S, e_d S (h_8 S hk), e_db S hk hh, nmI_s, nI_1]
    rfl
  · rw [f_X4_timesHelping_4, e_hc S, if_pos (hc_out S.2.2)]
/-- no other gang has it at hand -/
abbrev free (c : Nat → Int32) (g h : Nat) : Prop := ∀ g', g' < gN c → g' ≠ g → ¬ c (149 + g') = nI h
abbrev canT (c : Nat → Int32) (g h : Nat) : Prop := isOn c h ∧ free c g h
theorem p_canTake (S : shO M a c) {g h : Nat} (hg : g < gN c) (hh : h < hN c) : f_X4_canTake M (some a) (nI g) (nI h) = some (if canT c g h then 1 else 0, M) := by
  have h8 := (ok_g S.2.2).2
  have hh8 := (ok_h S.2.2).2
  unfold f_X4_canTake g_X4_canTake
  rw [e_hs S, e_h S (h_8 S hh), ck_s (by rw [k_h S (h_8 S hh)]), p_isOpen S hh, bd_s]
  by_cases h1 : isOn c h
  · rw [if_pos h1, if_neg (by decide)]
    have step : ∀ f k, k < gN c → (k ≠ g → ¬ c (149 + k) = nI h) → f_X4_canTake_16 (f + 1) M (some a) (nI g) (nI h) (nI k) = f_X4_canTake_16 f M (some a) (nI g) (nI h) (nI (k + 1)) := by
      intro f k hk hno
      rw [f_X4_canTake_16, e_gc S, if_neg (gc_in S.2.2 hk)]
      by_cases e : k = g
      · rw [if_pos (by rw [e]), f_X4_canTake_44, nI_1]
      · rw [if_neg (by rw [nI_eq' (by omega) (by omega)]; exact e), e_gs S, e_g S (g_4 S hk), e_ghd S hk, if_neg (hno e), f_X4_canTake_44, nI_1]
    by_cases h2 : free c g h
    · rw [if_pos ⟨h1, h2⟩]
      rw [show f_X4_canTake_16 fu M (some a) (nI g) (nI h) 0 = some (1, M) from lup0 (fun f k => f_X4_canTake_16 f M (some a) (nI g) (nI h) (nI k)) (gN c) _ (by omega) (fun f k hk => step f k hk (h2 k hk)) (fun f => by rw [f_X4_canTake_16, e_gc S, if_pos (gc_out S.2.2)]), zc1]
    · rw [if_neg (fun z : canT c g h => h2 z.2)]
      obtain ⟨b, ⟨hb1, hb2, hb3⟩, hmin⟩ := pk_least (fun k => k < gN c ∧ k ≠ g ∧ c (149 + k) = nI h) (by
        refine Classical.byContradiction fun hn => h2 (fun g' h3 h4 h5 => hn ⟨g', h3, h4, h5⟩))
      rw [show f_X4_canTake_16 fu M (some a) (nI g) (nI h) 0 = some (0, M) from lup0 (fun f k => f_X4_canTake_16 f M (some a) (nI g) (nI h) (nI k)) b _ (by omega) (fun f k hk => step f k (by omega) (fun h3 h4 => hmin k hk ⟨by omega, h3, h4⟩)) (fun f => by rw [f_X4_canTake_16, e_gc S, if_neg (gc_in S.2.2 hb1), if_neg (by rw [nI_eq' (by omega) (by omega)]; exact hb2), e_gs S, e_g S (g_4 S hb1), e_ghd S hb1, if_pos hb3]), zc0]
  · rw [if_neg h1, if_pos rfl, if_neg (fun z : canT c g h => h1 z.1), zc0]
def rank (c : Nat → Int32) (g h : Nat) : Int32 := if c 3 = 0 then c (13 + h) else if c 3 = 1 then due c h else if c 3 = 2 then -(abI (c (145 + g) - c (5 + h))) else 0
theorem p_rank (S : shO M a c) {g h : Nat} (hg : g < gN c) (hh : h < hN c) : f_X4_rankByLaw M (some a) (nI g) (nI h) = some (rank c g h, M) := by
  unfold f_X4_rankByLaw rank
  rw [e_law S]
  by_cases h0 : c 3 = 0
  · rw [if_pos h0, if_pos h0, e_hs S, e_h S (h_8 S hh), e_hwo S hh]
  · rw [if_neg h0, if_neg h0]
    by_cases h1 : c 3 = 1
    · rw [if_pos h1, if_pos h1, ck_s (k_s S), p_due S hh, bd_s]
    · rw [if_neg h1, if_neg h1]
      by_cases h2 : c 3 = 2
      · rw [if_pos h2, if_pos h2, e_gs S, e_g S (g_4 S hg), e_gat S hg, e_hs S, e_h S (h_8 S hh), e_hat S hh]
      · rw [if_neg h2, if_neg h2]
/-- the first by the law so far, and its rank -/
def fb (c : Nat → Int32) (g : Nat) : Nat → Int32 × Int32
  | 0 => (-1, 0)
  | n + 1 => if canT c g n then (if (fb c g n).1 = -1 ∨ (fb c g n).2 < rank c g n then (nI n, rank c g n) else fb c g n) else fb c g n
theorem p_first (S : shO M a c) {g : Nat} (hg : g < gN c) : f_X4_firstByLaw M (some a) (nI g) = some ((fb c g (hN c)).1, M) := by
  have h8 := (ok_h S.2.2).2
  refine lup0 (fun f k => f_X4_firstByLaw_7 f M (some a) (nI g) (fb c g k).1 (fb c g k).2 (nI k)) (hN c) _ (by omega) (fun f k hk => ?_) (fun f => ?_)
  · rw [f_X4_firstByLaw_7, e_hc S, if_neg (hc_in S.2.2 hk), ck_s (k_s S), p_canTake S hg hk, bd_s, fb]
    by_cases h1 : canT c g k
    · rw [if_pos h1, if_neg (by decide), if_pos h1, ck_s (k_s S), p_rank S hg hk, bd_s]
      by_cases h2 : (fb c g k).1 = -1
      · rw [if_pos h2, if_pos (Or.inl h2), f_X4_firstByLaw_46, f_X4_firstByLaw_52, nI_1]
      · rw [if_neg h2]
        by_cases h3 : rank c g k ≤ (fb c g k).2
        · rw [if_pos h3, if_neg (by rintro (z | z); exact h2 z; exact absurd h3 (Int32.not_le.mpr z)), f_X4_firstByLaw_52, nI_1]
        · rw [if_neg h3, if_pos (Or.inr (Int32.not_le.mp h3)), f_X4_firstByLaw_46, f_X4_firstByLaw_52, nI_1]
    · rw [if_neg h1, if_pos rfl, if_neg h1, f_X4_firstByLaw_52, nI_1]
  · rw [f_X4_firstByLaw_7, e_hc S, if_pos (hc_out S.2.2)]
theorem nI_pos0 {n : Nat} (h : 0 < n) (h2 : n < 2147483648) : ¬ nI n = 0 := nI_ne0 h h2
theorem mx1 {n : Nat} (h : 1 ≤ n) (h2 : n < 2147483648) : mxI 1 (nI n) = nI n := by
  unfold mxI
  by_cases e : (1 : Int32) < nI n
  · rw [if_pos e]
  · rw [if_neg e]
    rw [lit_nI 1, nI_ltI' (by omega) (by omega)] at e
    have : n = 1 := by omega
    rw [this]; rfl
theorem p_pieceMin (S : shO M a c) {g h : Nat} (hg : g < gN c) (hh : h < hN c) : f_X0_pieceMinutes M (some (a + 21 + g)) (some (a + 13 + h)) = some (takes c g h, M) := by
  obtain ⟨-, ⟨e1, e2, e3⟩, -⟩ := S.2.2.2.2.2.2.2.2.2.1 g hg
  unfold f_X0_pieceMinutes takes
  rw [e_gha S hg, nmI_s, e_hwe S hh, e_hpe S hh, e1, mx1 e2 (by omega), dvI_s (nI_pos0 (by omega) (by omega)), Int32.mul_comm]
theorem p_wayMin (S : shO M a c) {g h : Nat} (hg : g < gN c) (hh : h < hN c) : f_X0_wayMinutes M (some (a + 21 + g)) (some (a + 13 + h)) = some (walk c g h, M) := by
  unfold f_X0_wayMinutes walk
  rw [e_gpa S hg, e_gat S hg, e_hat S hh]
theorem p_left (S : shO M a c) {g : Nat} (hg : g < gN c) : f_X0_minutesLeft M (some (a + 21 + g)) = some (c (153 + g) + pcs c g, M) := by
  unfold f_X0_minutesLeft
  rw [e_gwa S hg, e_gpc S hg]
/-- a chain, round by round -/
def cin (c : Nat → Int32) (bf : Int32) (y : Nat) (s : Int32) : Nat → Int32
  | 0 => s
  | n + 1 => if hasB bf y ∧ 0 < c (69 + 8 * n + y) then cin c bf y s n ||| bitB n else cin c bf y s n
def cmid (c : Nat → Int32) (bf s : Int32) : Nat → Int32
  | 0 => s
  | n + 1 => cin c bf n (cmid c bf s n) (hN c)
def crnd (c : Nat → Int32) (s : Int32) : Nat → Int32
  | 0 => s
  | n + 1 => cmid c (crnd c s n) (crnd c s n) (hN c)
theorem p_chain (S : shO M a c) {h : Nat} (hh : h < hN c) : f_X4_chainFrom M (some a) (nI h) = some (crnd c (bitB h) (hN c), M) := by
  have h8 := (ok_h S.2.2).2
  unfold f_X4_chainFrom
  rw [nmI_s]
  refine lup0 (fun f k => f_X4_chainFrom_6 f M (some a) (crnd c (bitB h) k) (nI k)) (hN c) _ (by omega) (fun f r hr => ?_) (fun f => ?_)
  · rw [f_X4_chainFrom_6, e_hc S, if_neg (hc_in S.2.2 hr)]
    refine lup0 (fun f2 k => f_X4_chainFrom_20 (f_X4_chainFrom_6 f) f2 M (some a) (cmid c (crnd c (bitB h) r) (crnd c (bitB h) r) k) (nI r) (crnd c (bitB h) r) (nI k)) (hN c) _ (by omega) (fun f2 y hy => ?_) (fun f2 => ?_)
    · rw [f_X4_chainFrom_20, e_hc S, if_neg (hc_in S.2.2 hy)]
      refine lup0 (fun f3 k => f_X4_chainFrom_32 (f_X4_chainFrom_6 f) (f_X4_chainFrom_20 (f_X4_chainFrom_6 f) f2) f3 M (some a) (cin c (crnd c (bitB h) r) y (cmid c (crnd c (bitB h) r) (crnd c (bitB h) r) y) k) (nI r) (crnd c (bitB h) r) (nI y) (nI k)) (hN c) _ (by omega) (fun f3 k hk => ?_) (fun f3 => ?_)
      · rw [f_X4_chainFrom_32, e_hc S, if_neg (hc_in S.2.2 hk), cin]
        by_cases h1 : hasB (crnd c (bitB h) r) y
        · rw [if_pos h1, e_ds S, e_d S (h_8 S hk), e_db S hk hy]
          by_cases h2 : c (69 + 8 * k + y) ≤ 0
          · rw [if_pos h2, if_neg (fun z => absurd h2 (Int32.not_le.mpr z.2)), f_X4_chainFrom_72, nI_1]
          · rw [if_neg h2, if_pos ⟨h1, Int32.not_le.mp h2⟩, nmI_s, f_X4_chainFrom_72, nI_1]
        · rw [if_neg h1, if_neg (fun z => h1 z.1), f_X4_chainFrom_72, nI_1]
      · rw [f_X4_chainFrom_32, e_hc S, if_pos (hc_out S.2.2), nI_1, cmid]
    · rw [f_X4_chainFrom_20, e_hc S, if_pos (hc_out S.2.2), nI_1, crnd]
  · rw [f_X4_chainFrom_6, e_hc S, if_pos (hc_out S.2.2)]
end Sh

theorem l_sub {L : Nat} (h : 6 ≤ L) : nI L - 6 = nI (L - 6) := nI_sub (a := L) (b := 6) h
theorem l_go {L p : Nat} (hp : p + 6 ≤ L) (hL : L ≤ 3072) : ¬ nI L - 6 < nI p := by
  rw [l_sub (by omega), nI_ltI' (by omega) (by omega)]
  omega
theorem l_low : ∀ L, L < 6 → nI L - 6 < 0 := by decide +kernel
theorem l_end {L p : Nat} (hp : L < p + 6) (hL : L ≤ 3072) (h2 : p ≤ L + 6) : nI L - 6 < nI p := by
  by_cases q : 6 ≤ L
  · rw [l_sub q, nI_ltI' (by omega) (by omega)]
    omega
  · exact Int32.lt_of_lt_of_le (l_low L (by omega)) (nI_pos' (by omega))
theorem sl_0 {ρ : Type} {L p : Nat} {xs : Nat → Int32} {c : Int32 → Option ρ} (hp : p + 6 ≤ L) (hL : L ≤ 3072) : slI L xs (nI p) c = c (xs p) := sl_s (d := 0) hp hL (by omega)
theorem ite_k {c : Prop} [Decidable c] {x y : Option (Int32 × Mm)} (h1 : c → ∃ M', x = some (1, M')) (h2 : ¬ c → ∃ M', y = some (1, M')) : ∃ M', (if c then x else y) = some (1, M') := by
  by_cases h : c
  · rw [if_pos h]; exact h1 h
  · rw [if_neg h]; exact h2 h
/-! THE LAW, from what is still missing -/
theorem law_step {L p : Nat} {xs : Nat → Int32} (hp : p + 6 ≤ L) (hL : L ≤ 3072) {k18 : Mm → Option Nat → Option Nat → Int32 → Option (Int32 × Mm)} (hk : ∀ M, RR M → ∃ M', k18 M (some 0) (some 207) (nI (p + 6)) = some (1, M')) {M : Mm} (hR : RR M) (o_shore : ∀ (a0 : Int32), opI (fun M => f_X11_shore M (some 0) a0) (fun M => f_X12_shore M (some 207) a0)) (o_years : ∀ (a0 : Int32), opI (fun M => f_X11_years M (some 0) a0) (fun M => f_X12_years M (some 207) a0)) (o_best : ∀ (a0 : Int32) (a1 : Int32), opI (fun M => f_X11_best M (some 0) a0 a1) (fun M => f_X12_best M (some 207) a0 a1)) (o_soonest : ∀ (a0 : Int32) (a1 : Int32), opI (fun M => f_X11_soonest M (some 0) a0 a1) (fun M => f_X12_soonest M (some 207) a0 a1)) (o_shared : ∀ (a0 : Int32), opI (fun M => f_X11_shared M (some 0) a0) (fun M => f_X12_shared M (some 207) a0)) (o_allOff : opI (fun M => f_X11_allOff M (some 0)) (fun M => f_X12_allOff M (some 207))) (o_ground : ∀ (a0 : Int32), opI (fun M => f_X11_ground M (some 0) a0) (fun M => f_X12_ground M (some 207) a0)) (o_live : ∀ (a0 : Int32), opI (fun M => f_X11_live M (some 0) a0) (fun M => f_X12_live M (some 207) a0)) (o_mean : ∀ (a0 : Int32) (a1 : Int32), opI (fun M => f_X11_mean M (some 0) a0 a1) (fun M => f_X12_mean M (some 207) a0 a1)) : ∃ M', g_L_law_18 L xs k18 M (some 0) (some 207) (nI p) = some (1, M') := by
  unfold g_L_law_18
  rw [show Int32.ofNat L = nI L from rfl, if_neg (l_go hp hL), sl_0 hp hL]
  generalize xs p &&& 63 = v
  refine ite_k (fun _ => law_status hp hL hk hR) (fun _ => ?_)
  refine ite_k (fun _ => law_top hp hL hk hR) (fun _ => ?_)
  refine ite_k (fun _ => law_bottom hp hL hk hR) (fun _ => ?_)
  refine ite_k (fun _ => law_tray hp hL hk hR) (fun _ => ?_)
  refine ite_k (fun _ => law_write hp hL hk hR) (fun _ => ?_)
  refine ite_k (fun _ => law_read hp hL hk hR) (fun _ => ?_)
  refine ite_k (fun _ => law_pour hp hL hk hR) (fun _ => ?_)
  refine ite_k (fun _ => law_feed hp hL hk hR) (fun _ => ?_)
  refine ite_k (fun _ => law_shore hp hL hk hR o_shore) (fun _ => ?_)
  refine ite_k (fun _ => law_years hp hL hk hR o_years) (fun _ => ?_)
  refine ite_k (fun _ => law_fault hp hL hk hR) (fun _ => ?_)
  refine ite_k (fun _ => law_many hp hL hk hR) (fun _ => ?_)
  refine ite_k (fun _ => law_house hp hL hk hR) (fun _ => ?_)
  refine ite_k (fun _ => law_gang hp hL hk hR) (fun _ => ?_)
  refine ite_k (fun _ => law_wind hp hL hk hR) (fun _ => ?_)
  refine ite_k (fun _ => law_helped hp hL hk hR) (fun _ => ?_)
  refine ite_k (fun _ => law_takes hp hL hk hR) (fun _ => ?_)
  refine ite_k (fun _ => law_walk hp hL hk hR) (fun _ => ?_)
  refine ite_k (fun _ => law_next hp hL hk hR) (fun _ => ?_)
  refine ite_k (fun _ => law_lift hp hL hk hR) (fun _ => ?_)
  refine ite_k (fun _ => law_rest hp hL hk hR) (fun _ => ?_)
  refine ite_k (fun _ => law_hour hp hL hk hR) (fun _ => ?_)
  refine ite_k (fun _ => law_gale hp hL hk hR) (fun _ => ?_)
  refine ite_k (fun _ => law_dawn hp hL hk hR) (fun _ => ?_)
  refine ite_k (fun _ => law_help hp hL hk hR) (fun _ => ?_)
  refine ite_k (fun _ => law_falls hp hL hk hR) (fun _ => ?_)
  refine ite_k (fun _ => law_risk hp hL hk hR) (fun _ => ?_)
  refine ite_k (fun _ => law_loss hp hL hk hR) (fun _ => ?_)
  refine ite_k (fun _ => law_saves hp hL hk hR) (fun _ => ?_)
  refine ite_k (fun _ => law_dearest hp hL hk hR) (fun _ => ?_)
  refine ite_k (fun _ => law_worstWind hp hL hk hR) (fun _ => ?_)
  refine ite_k (fun _ => law_best hp hL hk hR o_best) (fun _ => ?_)
  refine ite_k (fun _ => law_bestSet hp hL hk hR) (fun _ => ?_)
  refine ite_k (fun _ => law_soonest hp hL hk hR o_soonest) (fun _ => ?_)
  refine ite_k (fun _ => law_order hp hL hk hR) (fun _ => ?_)
  refine ite_k (fun _ => law_shared hp hL hk hR o_shared) (fun _ => ?_)
  refine ite_k (fun _ => law_allOff hp hL hk hR o_allOff) (fun _ => ?_)
  refine ite_k (fun _ => law_score hp hL hk hR) (fun _ => ?_)
  refine ite_k (fun _ => law_words hp hL hk hR) (fun _ => ?_)
  refine ite_k (fun _ => law_owed hp hL hk hR) (fun _ => ?_)
  refine ite_k (fun _ => law_riders hp hL hk hR) (fun _ => ?_)
  refine ite_k (fun _ => law_chain hp hL hk hR) (fun _ => ?_)
  refine ite_k (fun _ => law_quits hp hL hk hR) (fun _ => ?_)
  refine ite_k (fun _ => law_ground hp hL hk hR o_ground) (fun _ => ?_)
  refine ite_k (fun _ => law_signs hp hL hk hR) (fun _ => ?_)
  refine ite_k (fun _ => law_flown hp hL hk hR) (fun _ => ?_)
  refine ite_k (fun _ => law_likeliest hp hL hk hR) (fun _ => ?_)
  refine ite_k (fun _ => law_neighbour hp hL hk hR) (fun _ => ?_)
  refine ite_k (fun _ => law_live hp hL hk hR o_live) (fun _ => ?_)
  refine ite_k (fun _ => law_lived hp hL hk hR) (fun _ => ?_)
  refine ite_k (fun _ => law_mean hp hL hk hR o_mean) (fun _ => ?_)
  refine ite_k (fun _ => law_mark hp hL hk hR) (fun _ => ?_)
  refine ite_k (fun _ => law_back hp hL hk hR) (fun _ => ?_)
  unfold f_L_law_1702
  rw [pa6]
  exact hk M hR
theorem law_loop {L : Nat} {xs : Nat → Int32} (hL : L ≤ 3072) (o_shore : ∀ (a0 : Int32), opI (fun M => f_X11_shore M (some 0) a0) (fun M => f_X12_shore M (some 207) a0)) (o_years : ∀ (a0 : Int32), opI (fun M => f_X11_years M (some 0) a0) (fun M => f_X12_years M (some 207) a0)) (o_best : ∀ (a0 : Int32) (a1 : Int32), opI (fun M => f_X11_best M (some 0) a0 a1) (fun M => f_X12_best M (some 207) a0 a1)) (o_soonest : ∀ (a0 : Int32) (a1 : Int32), opI (fun M => f_X11_soonest M (some 0) a0 a1) (fun M => f_X12_soonest M (some 207) a0 a1)) (o_shared : ∀ (a0 : Int32), opI (fun M => f_X11_shared M (some 0) a0) (fun M => f_X12_shared M (some 207) a0)) (o_allOff : opI (fun M => f_X11_allOff M (some 0)) (fun M => f_X12_allOff M (some 207))) (o_ground : ∀ (a0 : Int32), opI (fun M => f_X11_ground M (some 0) a0) (fun M => f_X12_ground M (some 207) a0)) (o_live : ∀ (a0 : Int32), opI (fun M => f_X11_live M (some 0) a0) (fun M => f_X12_live M (some 207) a0)) (o_mean : ∀ (a0 : Int32) (a1 : Int32), opI (fun M => f_X11_mean M (some 0) a0 a1) (fun M => f_X12_mean M (some 207) a0 a1)) : ∀ (n p : Nat) (M : Mm), RR M → L + 6 < p + 6 * n → p ≤ L + 6 → ∃ M', f_L_law_18 L xs n M (some 0) (some 207) (nI p) = some (1, M')
  | 0, p, M, hR, h1, h2 => by
    exact absurd h1 (by omega)
  | n + 1, p, M, hR, h1, h2 => by
    rw [f_L_law_18]
    by_cases q : p + 6 ≤ L
    · exact law_step q hL (fun M hR => law_loop hL o_shore o_years o_best o_soonest o_shared o_allOff o_ground o_live o_mean n (p + 6) M hR (by omega) (by omega)) hR o_shore o_years o_best o_soonest o_shared o_allOff o_ground o_live o_mean
    · refine ⟨M, ?_⟩
      unfold g_L_law_18
      rw [show Int32.ofNat L = nI L from rfl, if_pos (l_end (by omega) hL (by omega))]

/-! THE WHOLE LAW, from what is still missing -/
theorem ini_g {ρ : Type} (X : Mm → Option Nat → Option Nat → Option ρ) : (nwc M00 11 19 fun q0 M0 => nz q0 <| bv (f_X11_init M0 q0) fun M4 => nwc M4 12 45 fun q8 M8 => nz q8 <| bv (f_X12_init M8 q8) fun M12 => X M12 q0 q8) = X MB (some 0) (some 207) := by
  have h := ib_e
  unfold ini at h
  unfold nwc at h ⊢
  dsimp only [nz] at h ⊢
  revert h
  generalize f_X11_init _ _ = z
  intro h
  cases z with
  | none => exact nomatch h
  | some M4 =>
    rw [bv_s] at h ⊢
    revert h
    generalize f_X12_init _ _ = w
    intro h
    cases w with
    | none => exact nomatch h
    | some M12 =>
      rw [bv_s] at h ⊢
      by_cases q : some (mT M00) = some 0 ∧ some (mT M4) = some 207
      · rw [if_pos q] at h
        rw [q.1, q.2]
        injection h with h
        rw [h]
      · rw [if_neg q] at h
        exact nomatch h
theorem law_of (o_shore : ∀ (a0 : Int32), opI (fun M => f_X11_shore M (some 0) a0) (fun M => f_X12_shore M (some 207) a0)) (o_years : ∀ (a0 : Int32), opI (fun M => f_X11_years M (some 0) a0) (fun M => f_X12_years M (some 207) a0)) (o_best : ∀ (a0 : Int32) (a1 : Int32), opI (fun M => f_X11_best M (some 0) a0 a1) (fun M => f_X12_best M (some 207) a0 a1)) (o_soonest : ∀ (a0 : Int32) (a1 : Int32), opI (fun M => f_X11_soonest M (some 0) a0 a1) (fun M => f_X12_soonest M (some 207) a0 a1)) (o_shared : ∀ (a0 : Int32), opI (fun M => f_X11_shared M (some 0) a0) (fun M => f_X12_shared M (some 207) a0)) (o_allOff : opI (fun M => f_X11_allOff M (some 0)) (fun M => f_X12_allOff M (some 207))) (o_ground : ∀ (a0 : Int32), opI (fun M => f_X11_ground M (some 0) a0) (fun M => f_X12_ground M (some 207) a0)) (o_live : ∀ (a0 : Int32), opI (fun M => f_X11_live M (some 0) a0) (fun M => f_X12_live M (some 207) a0)) (o_mean : ∀ (a0 : Int32) (a1 : Int32), opI (fun M => f_X11_mean M (some 0) a0 a1) (fun M => f_X12_mean M (some 207) a0 a1)) : ∀ (L : Nat) (xs : Nat → Int32), L ≤ 3072 → ∃ M', f_L_law L xs M00 = some (1, M') := by
  intro L xs hL
  obtain ⟨M', h⟩ := law_loop (xs := xs) hL o_shore o_years o_best o_soonest o_shared o_allOff o_ground o_live o_mean 600 0 MB ib_RR (by omega) (by omega)
  refine ⟨M', ?_⟩
  unfold f_L_law
  rw [ini_g (fun M q0 q8 => f_L_law_18 L xs 600 M q0 q8 0)]
  exact h

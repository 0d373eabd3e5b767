/-! STEPS OF THE LAW -/
theorem k_pI {ρ : Type} {M : Mm} {a ci k : Nat} {v : Int32} {K : Mm → Option ρ} {r : ρ} (h : pfI M (some a) ci k v K = some r) : (mK M a).1 = ci := by
  by_cases q : (mK M a).1 = ci
  · exact q
  · rw [show pfI M (some a) ci k v K = none from if_neg q] at h
    exact nomatch h
theorem k_gI {ρ : Type} {M : Mm} {a ci k : Nat} {K : Int32 → Option ρ} {r : ρ} (h : gfI M (some a) ci k K = some r) : (mK M a).1 = ci := by
  by_cases q : (mK M a).1 = ci
  · exact q
  · rw [show gfI M (some a) ci k K = none from if_neg q] at h
    exact nomatch h
theorem k_gL {ρ : Type} {M : Mm} {a ci k : Nat} {K : Int64 → Option ρ} {r : ρ} (h : gfL M (some a) ci k K = some r) : (mK M a).1 = ci := by
  by_cases q : (mK M a).1 = ci
  · exact q
  · rw [show gfL M (some a) ci k K = none from if_neg q] at h
    exact nomatch h
theorem zc_n {x : Option (Int32 × Mm)} {r : Int32 × Mm} (h : zc x = some r) : ∃ s, x = some s := by
  cases x with
  | none => exact nomatch h
  | some s => exact ⟨s, rfl⟩
theorem lg_eq (v : Int64) : lg_cmp v v = 0 := by
  unfold lg_cmp
  simp
theorem sl_s {ρ : Type} {L p d : Nat} {xs : Nat → Int32} {c : Int32 → Option ρ} (hp : p + 6 ≤ L) (hL : L ≤ 3072) (hd : d < 6) : slI L xs (nI (p + d)) c = c (xs (p + d)) := by
  unfold slI
  rw [nI_cl (by omega), if_neg]
  rintro (h | h)
  · rw [show (0 : Int32) = nI 0 from rfl, nI_ltI' (by omega) (by omega)] at h
    omega
  · omega
theorem pa1 (p : Nat) : nI p + 1 = nI (p + 1) := nI_add p 1
theorem pa2 (p : Nat) : nI p + 2 = nI (p + 2) := nI_add p 2
theorem pa3 (p : Nat) : nI p + 3 = nI (p + 3) := nI_add p 3
theorem pa4 (p : Nat) : nI p + 4 = nI (p + 4) := nI_add p 4
theorem pa5 (p : Nat) : nI p + 5 = nI (p + 5) := nI_add p 5
theorem pa6 (p : Nat) : nI p + 6 = nI (p + 6) := nI_add p 6
theorem law_I {fx fm : Mm → Option (Int32 × Mm)} (o : opI fx fm) (hk : ∀ M r, fm M = some r → (mK M 207).1 = 12) {M : Mm} (hR : RR M) {K : Mm → Option (Int32 × Mm)} (hK : ∀ M2, RR M2 → ∃ M', K M2 = some (1, M')) : ∃ M', (ck M (some 0) 11 <| bd (fx M) fun v M1 => ck M1 (some 207) 12 <| bd (fm M1) fun w M2 => if v = w then K M2 else some (0, M2)) = some (1, M') := by
  obtain ⟨r, M1, M2, h1, h2, h3⟩ := o M hR
  obtain ⟨M', h4⟩ := hK M2 h3
  obtain ⟨a, b, y, z, H⟩ := hR
  refine ⟨M', ?_⟩
  rw [c_ck H.1, h1, bd_s, ck_s (hk M1 _ h2), h2, bd_s, if_pos rfl]
  exact h4
theorem law_L {fx fm : Mm → Option (Int64 × Mm)} (o : opL fx fm) (hk : ∀ M r, fm M = some r → (mK M 207).1 = 12) {M : Mm} (hR : RR M) {K : Mm → Option (Int32 × Mm)} (hK : ∀ M2, RR M2 → ∃ M', K M2 = some (1, M')) : ∃ M', (ck M (some 0) 11 <| bd (fx M) fun v M1 => ck M1 (some 207) 12 <| bd (fm M1) fun w M2 => if lg_cmp v w = 0 then K M2 else some (0, M2)) = some (1, M') := by
  obtain ⟨r, M1, M2, h1, h2, h3⟩ := o M hR
  obtain ⟨M', h4⟩ := hK M2 h3
  obtain ⟨a, b, y, z, H⟩ := hR
  refine ⟨M', ?_⟩
  rw [c_ck H.1, h1, bd_s, ck_s (hk M1 _ h2), h2, bd_s, lg_eq, if_pos rfl]
  exact h4
theorem k_status : ∀ M r, (fun M => f_X12_status M (some 207) ) M = some r → (mK M 207).1 = 12 := by
  intro M r h
  dsimp only at h
  unfold f_X12_status at h
  first | exact k_pI h | exact k_gI h | exact k_gL h
theorem law_status {L p : Nat} {xs : Nat → Int32} (hp : p + 6 ≤ L) (hL : L ≤ 3072) {k18 : Mm → Option Nat → Option Nat → Int32 → Option (Int32 × Mm)} (hk : ∀ M, RR M → ∃ M', k18 M (some 0) (some 207) (nI (p + 6)) = some (1, M')) {M : Mm} (hR : RR M) : ∃ M', f_L_law_260 L xs k18 M (some 0) (some 207) (nI p) = some (1, M') := by
  unfold f_L_law_260
  simp (disch := omega) only [f_L_law_1702, pa1, pa2, pa3, pa4, pa5, pa6, sl_s hp hL]
  exact law_I (op_status) (k_status) hR hk
theorem k_top : ∀ M r, (fun M => f_X12_top M (some 207) ) M = some r → (mK M 207).1 = 12 := by
  intro M r h
  dsimp only at h
  unfold f_X12_top at h
  first | exact k_pI h | exact k_gI h | exact k_gL h
theorem law_top {L p : Nat} {xs : Nat → Int32} (hp : p + 6 ≤ L) (hL : L ≤ 3072) {k18 : Mm → Option Nat → Option Nat → Int32 → Option (Int32 × Mm)} (hk : ∀ M, RR M → ∃ M', k18 M (some 0) (some 207) (nI (p + 6)) = some (1, M')) {M : Mm} (hR : RR M) : ∃ M', f_L_law_273 L xs k18 M (some 0) (some 207) (nI p) = some (1, M') := by
  unfold f_L_law_273
  simp (disch := omega) only [f_L_law_1702, pa1, pa2, pa3, pa4, pa5, pa6, sl_s hp hL]
  exact law_L (op_top) (k_top) hR hk
theorem k_bottom : ∀ M r, (fun M => f_X12_bottom M (some 207) ) M = some r → (mK M 207).1 = 12 := by
  intro M r h
  dsimp only at h
  unfold f_X12_bottom at h
  first | exact k_pI h | exact k_gI h | exact k_gL h
theorem law_bottom {L p : Nat} {xs : Nat → Int32} (hp : p + 6 ≤ L) (hL : L ≤ 3072) {k18 : Mm → Option Nat → Option Nat → Int32 → Option (Int32 × Mm)} (hk : ∀ M, RR M → ∃ M', k18 M (some 0) (some 207) (nI (p + 6)) = some (1, M')) {M : Mm} (hR : RR M) : ∃ M', f_L_law_287 L xs k18 M (some 0) (some 207) (nI p) = some (1, M') := by
  unfold f_L_law_287
  simp (disch := omega) only [f_L_law_1702, pa1, pa2, pa3, pa4, pa5, pa6, sl_s hp hL]
  exact law_L (op_bottom) (k_bottom) hR hk
theorem k_tray (a0 : Int32) (a1 : Int32) (a2 : Int32) : ∀ M r, (fun M => f_X12_tray M (some 207) a0 a1 a2) M = some r → (mK M 207).1 = 12 := by
  intro M r h
  dsimp only at h
  unfold f_X12_tray at h
  obtain ⟨s, h⟩ := zc_n h
  unfold g_X12_tray at h
  first | exact k_pI h | exact k_gI h | exact k_gL h
theorem law_tray {L p : Nat} {xs : Nat → Int32} (hp : p + 6 ≤ L) (hL : L ≤ 3072) {k18 : Mm → Option Nat → Option Nat → Int32 → Option (Int32 × Mm)} (hk : ∀ M, RR M → ∃ M', k18 M (some 0) (some 207) (nI (p + 6)) = some (1, M')) {M : Mm} (hR : RR M) : ∃ M', f_L_law_301 L xs k18 M (some 0) (some 207) (nI p) = some (1, M') := by
  unfold f_L_law_301
  simp (disch := omega) only [f_L_law_1702, pa1, pa2, pa3, pa4, pa5, pa6, sl_s hp hL]
  exact law_I (op_tray _ _ _) (k_tray _ _ _) hR hk
theorem k_write (a0 : Int32) (a1 : Int32) (a2 : Int64) : ∀ M r, (fun M => f_X12_write M (some 207) a0 a1 a2) M = some r → (mK M 207).1 = 12 := by
  intro M r h
  dsimp only at h
  unfold f_X12_write at h
  obtain ⟨s, h⟩ := zc_n h
  unfold g_X12_write at h
  first | exact k_pI h | exact k_gI h | exact k_gL h
theorem law_write {L p : Nat} {xs : Nat → Int32} (hp : p + 6 ≤ L) (hL : L ≤ 3072) {k18 : Mm → Option Nat → Option Nat → Int32 → Option (Int32 × Mm)} (hk : ∀ M, RR M → ∃ M', k18 M (some 0) (some 207) (nI (p + 6)) = some (1, M')) {M : Mm} (hR : RR M) : ∃ M', f_L_law_344 L xs k18 M (some 0) (some 207) (nI p) = some (1, M') := by
  unfold f_L_law_344
  simp (disch := omega) only [f_L_law_1702, pa1, pa2, pa3, pa4, pa5, pa6, sl_s hp hL]
  exact law_I (op_write _ _ _) (k_write _ _ _) hR hk
theorem k_read (a0 : Int32) (a1 : Int32) : ∀ M r, (fun M => f_X12_read M (some 207) a0 a1) M = some r → (mK M 207).1 = 12 := by
  intro M r h
  dsimp only at h
  unfold f_X12_read at h
  first | exact k_pI h | exact k_gI h | exact k_gL h
theorem law_read {L p : Nat} {xs : Nat → Int32} (hp : p + 6 ≤ L) (hL : L ≤ 3072) {k18 : Mm → Option Nat → Option Nat → Int32 → Option (Int32 × Mm)} (hk : ∀ M, RR M → ∃ M', k18 M (some 0) (some 207) (nI (p + 6)) = some (1, M')) {M : Mm} (hR : RR M) : ∃ M', f_L_law_417 L xs k18 M (some 0) (some 207) (nI p) = some (1, M') := by
  unfold f_L_law_417
  simp (disch := omega) only [f_L_law_1702, pa1, pa2, pa3, pa4, pa5, pa6, sl_s hp hL]
  exact law_L (op_read _ _) (k_read _ _) hR hk
theorem k_pour (a0 : Int32) (a1 : Int32) (a2 : Int32) (a3 : Int32) (a4 : Int32) : ∀ M r, (fun M => f_X12_pour M (some 207) a0 a1 a2 a3 a4) M = some r → (mK M 207).1 = 12 := by
  intro M r h
  dsimp only at h
  unfold f_X12_pour at h
  obtain ⟨s, h⟩ := zc_n h
  unfold g_X12_pour at h
  first | exact k_pI h | exact k_gI h | exact k_gL h
theorem law_pour {L p : Nat} {xs : Nat → Int32} (hp : p + 6 ≤ L) (hL : L ≤ 3072) {k18 : Mm → Option Nat → Option Nat → Int32 → Option (Int32 × Mm)} (hk : ∀ M, RR M → ∃ M', k18 M (some 0) (some 207) (nI (p + 6)) = some (1, M')) {M : Mm} (hR : RR M) : ∃ M', f_L_law_451 L xs k18 M (some 0) (some 207) (nI p) = some (1, M') := by
  unfold f_L_law_451
  simp (disch := omega) only [f_L_law_1702, pa1, pa2, pa3, pa4, pa5, pa6, sl_s hp hL]
  exact law_I (op_pour _ _ _ _ _) (k_pour _ _ _ _ _) hR hk
theorem k_feed (a0 : Int32) (a1 : Int32) (a2 : Int32) (a3 : Int32) (a4 : Int32) : ∀ M r, (fun M => f_X12_feed M (some 207) a0 a1 a2 a3 a4) M = some r → (mK M 207).1 = 12 := by
  intro M r h
  dsimp only at h
  unfold f_X12_feed at h
  first | exact k_pI h | exact k_gI h | exact k_gL h
theorem law_feed {L p : Nat} {xs : Nat → Int32} (hp : p + 6 ≤ L) (hL : L ≤ 3072) {k18 : Mm → Option Nat → Option Nat → Int32 → Option (Int32 × Mm)} (hk : ∀ M, RR M → ∃ M', k18 M (some 0) (some 207) (nI (p + 6)) = some (1, M')) {M : Mm} (hR : RR M) : ∃ M', f_L_law_514 L xs k18 M (some 0) (some 207) (nI p) = some (1, M') := by
  unfold f_L_law_514
  simp (disch := omega) only [f_L_law_1702, pa1, pa2, pa3, pa4, pa5, pa6, sl_s hp hL]
  exact law_I (op_feed _ _ _ _ _) (k_feed _ _ _ _ _) hR hk
theorem k_shore (a0 : Int32) : ∀ M r, (fun M => f_X12_shore M (some 207) a0) M = some r → (mK M 207).1 = 12 := by
  intro M r h
  dsimp only at h
  unfold f_X12_shore at h
  first | exact k_pI h | exact k_gI h | exact k_gL h
theorem law_shore {L p : Nat} {xs : Nat → Int32} (hp : p + 6 ≤ L) (hL : L ≤ 3072) {k18 : Mm → Option Nat → Option Nat → Int32 → Option (Int32 × Mm)} (hk : ∀ M, RR M → ∃ M', k18 M (some 0) (some 207) (nI (p + 6)) = some (1, M')) {M : Mm} (hR : RR M) (o : ∀ (a0 : Int32), opI (fun M => f_X11_shore M (some 0) a0) (fun M => f_X12_shore M (some 207) a0)) : ∃ M', f_L_law_577 L xs k18 M (some 0) (some 207) (nI p) = some (1, M') := by
  unfold f_L_law_577
  simp (disch := omega) only [f_L_law_1702, pa1, pa2, pa3, pa4, pa5, pa6, sl_s hp hL]
  exact law_I (o _) (k_shore _) hR hk
theorem k_years (a0 : Int32) : ∀ M r, (fun M => f_X12_years M (some 207) a0) M = some r → (mK M 207).1 = 12 := by
  intro M r h
  dsimp only at h
  unfold f_X12_years at h
  first | exact k_pI h | exact k_gI h | exact k_gL h
theorem law_years {L p : Nat} {xs : Nat → Int32} (hp : p + 6 ≤ L) (hL : L ≤ 3072) {k18 : Mm → Option Nat → Option Nat → Int32 → Option (Int32 × Mm)} (hk : ∀ M, RR M → ∃ M', k18 M (some 0) (some 207) (nI (p + 6)) = some (1, M')) {M : Mm} (hR : RR M) (o : ∀ (a0 : Int32), opI (fun M => f_X11_years M (some 0) a0) (fun M => f_X12_years M (some 207) a0)) : ∃ M', f_L_law_600 L xs k18 M (some 0) (some 207) (nI p) = some (1, M') := by
  unfold f_L_law_600
  simp (disch := omega) only [f_L_law_1702, pa1, pa2, pa3, pa4, pa5, pa6, sl_s hp hL]
  exact law_I (o _) (k_years _) hR hk
theorem k_fault (a0 : Int32) : ∀ M r, (fun M => f_X12_fault M (some 207) a0) M = some r → (mK M 207).1 = 12 := by
  intro M r h
  dsimp only at h
  unfold f_X12_fault at h
  first | exact k_pI h | exact k_gI h | exact k_gL h
theorem law_fault {L p : Nat} {xs : Nat → Int32} (hp : p + 6 ≤ L) (hL : L ≤ 3072) {k18 : Mm → Option Nat → Option Nat → Int32 → Option (Int32 × Mm)} (hk : ∀ M, RR M → ∃ M', k18 M (some 0) (some 207) (nI (p + 6)) = some (1, M')) {M : Mm} (hR : RR M) : ∃ M', f_L_law_623 L xs k18 M (some 0) (some 207) (nI p) = some (1, M') := by
  unfold f_L_law_623
  simp (disch := omega) only [f_L_law_1702, pa1, pa2, pa3, pa4, pa5, pa6, sl_s hp hL]
  exact law_I (op_fault _) (k_fault _) hR hk
theorem k_many (a0 : Int32) : ∀ M r, (fun M => f_X12_many M (some 207) a0) M = some r → (mK M 207).1 = 12 := by
  intro M r h
  dsimp only at h
  unfold f_X12_many at h
  first | exact k_pI h | exact k_gI h | exact k_gL h
theorem law_many {L p : Nat} {xs : Nat → Int32} (hp : p + 6 ≤ L) (hL : L ≤ 3072) {k18 : Mm → Option Nat → Option Nat → Int32 → Option (Int32 × Mm)} (hk : ∀ M, RR M → ∃ M', k18 M (some 0) (some 207) (nI (p + 6)) = some (1, M')) {M : Mm} (hR : RR M) : ∃ M', f_L_law_646 L xs k18 M (some 0) (some 207) (nI p) = some (1, M') := by
  unfold f_L_law_646
  simp (disch := omega) only [f_L_law_1702, pa1, pa2, pa3, pa4, pa5, pa6, sl_s hp hL]
  exact law_I (op_many _) (k_many _) hR hk
theorem k_house (a0 : Int32) (a1 : Int32) : ∀ M r, (fun M => f_X12_house M (some 207) a0 a1) M = some r → (mK M 207).1 = 12 := by
  intro M r h
  dsimp only at h
  unfold f_X12_house at h
  first | exact k_pI h | exact k_gI h | exact k_gL h
theorem law_house {L p : Nat} {xs : Nat → Int32} (hp : p + 6 ≤ L) (hL : L ≤ 3072) {k18 : Mm → Option Nat → Option Nat → Int32 → Option (Int32 × Mm)} (hk : ∀ M, RR M → ∃ M', k18 M (some 0) (some 207) (nI (p + 6)) = some (1, M')) {M : Mm} (hR : RR M) : ∃ M', f_L_law_669 L xs k18 M (some 0) (some 207) (nI p) = some (1, M') := by
  unfold f_L_law_669
  simp (disch := omega) only [f_L_law_1702, pa1, pa2, pa3, pa4, pa5, pa6, sl_s hp hL]
  exact law_I (op_house _ _) (k_house _ _) hR hk
theorem k_gang (a0 : Int32) (a1 : Int32) : ∀ M r, (fun M => f_X12_gang M (some 207) a0 a1) M = some r → (mK M 207).1 = 12 := by
  intro M r h
  dsimp only at h
  unfold f_X12_gang at h
  first | exact k_pI h | exact k_gI h | exact k_gL h
theorem law_gang {L p : Nat} {xs : Nat → Int32} (hp : p + 6 ≤ L) (hL : L ≤ 3072) {k18 : Mm → Option Nat → Option Nat → Int32 → Option (Int32 × Mm)} (hk : ∀ M, RR M → ∃ M', k18 M (some 0) (some 207) (nI (p + 6)) = some (1, M')) {M : Mm} (hR : RR M) : ∃ M', f_L_law_702 L xs k18 M (some 0) (some 207) (nI p) = some (1, M') := by
  unfold f_L_law_702
  simp (disch := omega) only [f_L_law_1702, pa1, pa2, pa3, pa4, pa5, pa6, sl_s hp hL]
  exact law_I (op_gang _ _) (k_gang _ _) hR hk
theorem k_wind (a0 : Int32) (a1 : Int32) : ∀ M r, (fun M => f_X12_wind M (some 207) a0 a1) M = some r → (mK M 207).1 = 12 := by
  intro M r h
  dsimp only at h
  unfold f_X12_wind at h
  first | exact k_pI h | exact k_gI h | exact k_gL h
theorem law_wind {L p : Nat} {xs : Nat → Int32} (hp : p + 6 ≤ L) (hL : L ≤ 3072) {k18 : Mm → Option Nat → Option Nat → Int32 → Option (Int32 × Mm)} (hk : ∀ M, RR M → ∃ M', k18 M (some 0) (some 207) (nI (p + 6)) = some (1, M')) {M : Mm} (hR : RR M) : ∃ M', f_L_law_735 L xs k18 M (some 0) (some 207) (nI p) = some (1, M') := by
  unfold f_L_law_735
  simp (disch := omega) only [f_L_law_1702, pa1, pa2, pa3, pa4, pa5, pa6, sl_s hp hL]
  exact law_I (op_wind _ _) (k_wind _ _) hR hk
theorem k_helped (a0 : Int32) (a1 : Int32) : ∀ M r, (fun M => f_X12_helped M (some 207) a0 a1) M = some r → (mK M 207).1 = 12 := by
  intro M r h
  dsimp only at h
  unfold f_X12_helped at h
  first | exact k_pI h | exact k_gI h | exact k_gL h
theorem law_helped {L p : Nat} {xs : Nat → Int32} (hp : p + 6 ≤ L) (hL : L ≤ 3072) {k18 : Mm → Option Nat → Option Nat → Int32 → Option (Int32 × Mm)} (hk : ∀ M, RR M → ∃ M', k18 M (some 0) (some 207) (nI (p + 6)) = some (1, M')) {M : Mm} (hR : RR M) : ∃ M', f_L_law_768 L xs k18 M (some 0) (some 207) (nI p) = some (1, M') := by
  unfold f_L_law_768
  simp (disch := omega) only [f_L_law_1702, pa1, pa2, pa3, pa4, pa5, pa6, sl_s hp hL]
  exact law_I (op_helped _ _) (k_helped _ _) hR hk
theorem k_takes (a0 : Int32) (a1 : Int32) : ∀ M r, (fun M => f_X12_takes M (some 207) a0 a1) M = some r → (mK M 207).1 = 12 := by
  intro M r h
  dsimp only at h
  unfold f_X12_takes at h
  first | exact k_pI h | exact k_gI h | exact k_gL h
theorem law_takes {L p : Nat} {xs : Nat → Int32} (hp : p + 6 ≤ L) (hL : L ≤ 3072) {k18 : Mm → Option Nat → Option Nat → Int32 → Option (Int32 × Mm)} (hk : ∀ M, RR M → ∃ M', k18 M (some 0) (some 207) (nI (p + 6)) = some (1, M')) {M : Mm} (hR : RR M) : ∃ M', f_L_law_801 L xs k18 M (some 0) (some 207) (nI p) = some (1, M') := by
  unfold f_L_law_801
  simp (disch := omega) only [f_L_law_1702, pa1, pa2, pa3, pa4, pa5, pa6, sl_s hp hL]
  exact law_I (op_takes _ _) (k_takes _ _) hR hk
theorem k_walk (a0 : Int32) (a1 : Int32) : ∀ M r, (fun M => f_X12_walk M (some 207) a0 a1) M = some r → (mK M 207).1 = 12 := by
  intro M r h
  dsimp only at h
  unfold f_X12_walk at h
  first | exact k_pI h | exact k_gI h | exact k_gL h
theorem law_walk {L p : Nat} {xs : Nat → Int32} (hp : p + 6 ≤ L) (hL : L ≤ 3072) {k18 : Mm → Option Nat → Option Nat → Int32 → Option (Int32 × Mm)} (hk : ∀ M, RR M → ∃ M', k18 M (some 0) (some 207) (nI (p + 6)) = some (1, M')) {M : Mm} (hR : RR M) : ∃ M', f_L_law_834 L xs k18 M (some 0) (some 207) (nI p) = some (1, M') := by
  unfold f_L_law_834
  simp (disch := omega) only [f_L_law_1702, pa1, pa2, pa3, pa4, pa5, pa6, sl_s hp hL]
  exact law_I (op_walk _ _) (k_walk _ _) hR hk
theorem k_next (a0 : Int32) : ∀ M r, (fun M => f_X12_next_ M (some 207) a0) M = some r → (mK M 207).1 = 12 := by
  intro M r h
  dsimp only at h
  unfold f_X12_next_ at h
  first | exact k_pI h | exact k_gI h | exact k_gL h
theorem law_next {L p : Nat} {xs : Nat → Int32} (hp : p + 6 ≤ L) (hL : L ≤ 3072) {k18 : Mm → Option Nat → Option Nat → Int32 → Option (Int32 × Mm)} (hk : ∀ M, RR M → ∃ M', k18 M (some 0) (some 207) (nI (p + 6)) = some (1, M')) {M : Mm} (hR : RR M) : ∃ M', f_L_law_867 L xs k18 M (some 0) (some 207) (nI p) = some (1, M') := by
  unfold f_L_law_867
  simp (disch := omega) only [f_L_law_1702, pa1, pa2, pa3, pa4, pa5, pa6, sl_s hp hL]
  exact law_I (op_next _) (k_next _) hR hk
theorem k_lift (a0 : Int32) (a1 : Int32) : ∀ M r, (fun M => f_X12_lift M (some 207) a0 a1) M = some r → (mK M 207).1 = 12 := by
  intro M r h
  dsimp only at h
  unfold f_X12_lift at h
  first | exact k_pI h | exact k_gI h | exact k_gL h
theorem law_lift {L p : Nat} {xs : Nat → Int32} (hp : p + 6 ≤ L) (hL : L ≤ 3072) {k18 : Mm → Option Nat → Option Nat → Int32 → Option (Int32 × Mm)} (hk : ∀ M, RR M → ∃ M', k18 M (some 0) (some 207) (nI (p + 6)) = some (1, M')) {M : Mm} (hR : RR M) : ∃ M', f_L_law_890 L xs k18 M (some 0) (some 207) (nI p) = some (1, M') := by
  unfold f_L_law_890
  simp (disch := omega) only [f_L_law_1702, pa1, pa2, pa3, pa4, pa5, pa6, sl_s hp hL]
  exact law_I (op_lift _ _) (k_lift _ _) hR hk
theorem k_rest (a0 : Int32) : ∀ M r, (fun M => f_X12_rest M (some 207) a0) M = some r → (mK M 207).1 = 12 := by
  intro M r h
  dsimp only at h
  unfold f_X12_rest at h
  obtain ⟨s, h⟩ := zc_n h
  unfold g_X12_rest at h
  first | exact k_pI h | exact k_gI h | exact k_gL h
theorem law_rest {L p : Nat} {xs : Nat → Int32} (hp : p + 6 ≤ L) (hL : L ≤ 3072) {k18 : Mm → Option Nat → Option Nat → Int32 → Option (Int32 × Mm)} (hk : ∀ M, RR M → ∃ M', k18 M (some 0) (some 207) (nI (p + 6)) = some (1, M')) {M : Mm} (hR : RR M) : ∃ M', f_L_law_923 L xs k18 M (some 0) (some 207) (nI p) = some (1, M') := by
  unfold f_L_law_923
  simp (disch := omega) only [f_L_law_1702, pa1, pa2, pa3, pa4, pa5, pa6, sl_s hp hL]
  exact law_I (op_rest _) (k_rest _) hR hk
theorem k_hour (a0 : Int32) : ∀ M r, (fun M => f_X12_hour M (some 207) a0) M = some r → (mK M 207).1 = 12 := by
  intro M r h
  dsimp only at h
  unfold f_X12_hour at h
  first | exact k_pI h | exact k_gI h | exact k_gL h
theorem law_hour {L p : Nat} {xs : Nat → Int32} (hp : p + 6 ≤ L) (hL : L ≤ 3072) {k18 : Mm → Option Nat → Option Nat → Int32 → Option (Int32 × Mm)} (hk : ∀ M, RR M → ∃ M', k18 M (some 0) (some 207) (nI (p + 6)) = some (1, M')) {M : Mm} (hR : RR M) : ∃ M', f_L_law_946 L xs k18 M (some 0) (some 207) (nI p) = some (1, M') := by
  unfold f_L_law_946
  simp (disch := omega) only [f_L_law_1702, pa1, pa2, pa3, pa4, pa5, pa6, sl_s hp hL]
  exact law_I (op_hour _) (k_hour _) hR hk
theorem k_gale (a0 : Int32) : ∀ M r, (fun M => f_X12_gale M (some 207) a0) M = some r → (mK M 207).1 = 12 := by
  intro M r h
  dsimp only at h
  unfold f_X12_gale at h
  first | exact k_pI h | exact k_gI h | exact k_gL h
theorem law_gale {L p : Nat} {xs : Nat → Int32} (hp : p + 6 ≤ L) (hL : L ≤ 3072) {k18 : Mm → Option Nat → Option Nat → Int32 → Option (Int32 × Mm)} (hk : ∀ M, RR M → ∃ M', k18 M (some 0) (some 207) (nI (p + 6)) = some (1, M')) {M : Mm} (hR : RR M) : ∃ M', f_L_law_969 L xs k18 M (some 0) (some 207) (nI p) = some (1, M') := by
  unfold f_L_law_969
  simp (disch := omega) only [f_L_law_1702, pa1, pa2, pa3, pa4, pa5, pa6, sl_s hp hL]
  exact law_I (op_gale _) (k_gale _) hR hk
theorem k_dawn : ∀ M r, (fun M => f_X12_dawn M (some 207) ) M = some r → (mK M 207).1 = 12 := by
  intro M r h
  dsimp only at h
  unfold f_X12_dawn at h
  first | exact k_pI h | exact k_gI h | exact k_gL h
theorem law_dawn {L p : Nat} {xs : Nat → Int32} (hp : p + 6 ≤ L) (hL : L ≤ 3072) {k18 : Mm → Option Nat → Option Nat → Int32 → Option (Int32 × Mm)} (hk : ∀ M, RR M → ∃ M', k18 M (some 0) (some 207) (nI (p + 6)) = some (1, M')) {M : Mm} (hR : RR M) : ∃ M', f_L_law_992 L xs k18 M (some 0) (some 207) (nI p) = some (1, M') := by
  unfold f_L_law_992
  simp (disch := omega) only [f_L_law_1702, pa1, pa2, pa3, pa4, pa5, pa6, sl_s hp hL]
  exact law_I (op_dawn) (k_dawn) hR hk
theorem k_help (a0 : Int32) (a1 : Int32) (a2 : Int32) : ∀ M r, (fun M => f_X12_help M (some 207) a0 a1 a2) M = some r → (mK M 207).1 = 12 := by
  intro M r h
  dsimp only at h
  unfold f_X12_help at h
  first | exact k_pI h | exact k_gI h | exact k_gL h
theorem law_help {L p : Nat} {xs : Nat → Int32} (hp : p + 6 ≤ L) (hL : L ≤ 3072) {k18 : Mm → Option Nat → Option Nat → Int32 → Option (Int32 × Mm)} (hk : ∀ M, RR M → ∃ M', k18 M (some 0) (some 207) (nI (p + 6)) = some (1, M')) {M : Mm} (hR : RR M) : ∃ M', f_L_law_1005 L xs k18 M (some 0) (some 207) (nI p) = some (1, M') := by
  unfold f_L_law_1005
  simp (disch := omega) only [f_L_law_1702, pa1, pa2, pa3, pa4, pa5, pa6, sl_s hp hL]
  exact law_I (op_help _ _ _) (k_help _ _ _) hR hk
theorem k_falls (a0 : Int32) : ∀ M r, (fun M => f_X12_falls M (some 207) a0) M = some r → (mK M 207).1 = 12 := by
  intro M r h
  dsimp only at h
  unfold f_X12_falls at h
  first | exact k_pI h | exact k_gI h | exact k_gL h
theorem law_falls {L p : Nat} {xs : Nat → Int32} (hp : p + 6 ≤ L) (hL : L ≤ 3072) {k18 : Mm → Option Nat → Option Nat → Int32 → Option (Int32 × Mm)} (hk : ∀ M, RR M → ∃ M', k18 M (some 0) (some 207) (nI (p + 6)) = some (1, M')) {M : Mm} (hR : RR M) : ∃ M', f_L_law_1048 L xs k18 M (some 0) (some 207) (nI p) = some (1, M') := by
  unfold f_L_law_1048
  simp (disch := omega) only [f_L_law_1702, pa1, pa2, pa3, pa4, pa5, pa6, sl_s hp hL]
  exact law_I (op_falls _) (k_falls _) hR hk
theorem k_risk (a0 : Int32) : ∀ M r, (fun M => f_X12_risk M (some 207) a0) M = some r → (mK M 207).1 = 12 := by
  intro M r h
  dsimp only at h
  unfold f_X12_risk at h
  obtain ⟨s, h⟩ := zc_n h
  unfold g_X12_risk at h
  first | exact k_pI h | exact k_gI h | exact k_gL h
theorem law_risk {L p : Nat} {xs : Nat → Int32} (hp : p + 6 ≤ L) (hL : L ≤ 3072) {k18 : Mm → Option Nat → Option Nat → Int32 → Option (Int32 × Mm)} (hk : ∀ M, RR M → ∃ M', k18 M (some 0) (some 207) (nI (p + 6)) = some (1, M')) {M : Mm} (hR : RR M) : ∃ M', f_L_law_1071 L xs k18 M (some 0) (some 207) (nI p) = some (1, M') := by
  unfold f_L_law_1071
  simp (disch := omega) only [f_L_law_1702, pa1, pa2, pa3, pa4, pa5, pa6, sl_s hp hL]
  exact law_I (op_risk _) (k_risk _) hR hk
theorem k_loss : ∀ M r, (fun M => f_X12_loss M (some 207) ) M = some r → (mK M 207).1 = 12 := by
  intro M r h
  dsimp only at h
  unfold f_X12_loss at h
  obtain ⟨s, h⟩ := zc_n h
  unfold g_X12_loss at h
  first | exact k_pI h | exact k_gI h | exact k_gL h
theorem law_loss {L p : Nat} {xs : Nat → Int32} (hp : p + 6 ≤ L) (hL : L ≤ 3072) {k18 : Mm → Option Nat → Option Nat → Int32 → Option (Int32 × Mm)} (hk : ∀ M, RR M → ∃ M', k18 M (some 0) (some 207) (nI (p + 6)) = some (1, M')) {M : Mm} (hR : RR M) : ∃ M', f_L_law_1094 L xs k18 M (some 0) (some 207) (nI p) = some (1, M') := by
  unfold f_L_law_1094
  simp (disch := omega) only [f_L_law_1702, pa1, pa2, pa3, pa4, pa5, pa6, sl_s hp hL]
  exact law_I (op_loss) (k_loss) hR hk
theorem k_saves (a0 : Int32) (a1 : Int32) : ∀ M r, (fun M => f_X12_saves M (some 207) a0 a1) M = some r → (mK M 207).1 = 12 := by
  intro M r h
  dsimp only at h
  unfold f_X12_saves at h
  obtain ⟨s, h⟩ := zc_n h
  unfold g_X12_saves at h
  first | exact k_pI h | exact k_gI h | exact k_gL h
theorem law_saves {L p : Nat} {xs : Nat → Int32} (hp : p + 6 ≤ L) (hL : L ≤ 3072) {k18 : Mm → Option Nat → Option Nat → Int32 → Option (Int32 × Mm)} (hk : ∀ M, RR M → ∃ M', k18 M (some 0) (some 207) (nI (p + 6)) = some (1, M')) {M : Mm} (hR : RR M) : ∃ M', f_L_law_1107 L xs k18 M (some 0) (some 207) (nI p) = some (1, M') := by
  unfold f_L_law_1107
  simp (disch := omega) only [f_L_law_1702, pa1, pa2, pa3, pa4, pa5, pa6, sl_s hp hL]
  exact law_I (op_saves _ _) (k_saves _ _) hR hk
theorem k_dearest : ∀ M r, (fun M => f_X12_dearest M (some 207) ) M = some r → (mK M 207).1 = 12 := by
  intro M r h
  dsimp only at h
  unfold f_X12_dearest at h
  first | exact k_pI h | exact k_gI h | exact k_gL h
theorem law_dearest {L p : Nat} {xs : Nat → Int32} (hp : p + 6 ≤ L) (hL : L ≤ 3072) {k18 : Mm → Option Nat → Option Nat → Int32 → Option (Int32 × Mm)} (hk : ∀ M, RR M → ∃ M', k18 M (some 0) (some 207) (nI (p + 6)) = some (1, M')) {M : Mm} (hR : RR M) : ∃ M', f_L_law_1140 L xs k18 M (some 0) (some 207) (nI p) = some (1, M') := by
  unfold f_L_law_1140
  simp (disch := omega) only [f_L_law_1702, pa1, pa2, pa3, pa4, pa5, pa6, sl_s hp hL]
  exact law_I (op_dearest) (k_dearest) hR hk
theorem k_worstWind : ∀ M r, (fun M => f_X12_worstWind M (some 207) ) M = some r → (mK M 207).1 = 12 := by
  intro M r h
  dsimp only at h
  unfold f_X12_worstWind at h
  first | exact k_pI h | exact k_gI h | exact k_gL h
theorem law_worstWind {L p : Nat} {xs : Nat → Int32} (hp : p + 6 ≤ L) (hL : L ≤ 3072) {k18 : Mm → Option Nat → Option Nat → Int32 → Option (Int32 × Mm)} (hk : ∀ M, RR M → ∃ M', k18 M (some 0) (some 207) (nI (p + 6)) = some (1, M')) {M : Mm} (hR : RR M) : ∃ M', f_L_law_1153 L xs k18 M (some 0) (some 207) (nI p) = some (1, M') := by
  unfold f_L_law_1153
  simp (disch := omega) only [f_L_law_1702, pa1, pa2, pa3, pa4, pa5, pa6, sl_s hp hL]
  exact law_I (op_worst) (k_worstWind) hR hk
theorem k_best (a0 : Int32) (a1 : Int32) : ∀ M r, (fun M => f_X12_best M (some 207) a0 a1) M = some r → (mK M 207).1 = 12 := by
  intro M r h
  dsimp only at h
  unfold f_X12_best at h
  first | exact k_pI h | exact k_gI h | exact k_gL h
theorem law_best {L p : Nat} {xs : Nat → Int32} (hp : p + 6 ≤ L) (hL : L ≤ 3072) {k18 : Mm → Option Nat → Option Nat → Int32 → Option (Int32 × Mm)} (hk : ∀ M, RR M → ∃ M', k18 M (some 0) (some 207) (nI (p + 6)) = some (1, M')) {M : Mm} (hR : RR M) (o : ∀ (a0 : Int32) (a1 : Int32), opI (fun M => f_X11_best M (some 0) a0 a1) (fun M => f_X12_best M (some 207) a0 a1)) : ∃ M', f_L_law_1166 L xs k18 M (some 0) (some 207) (nI p) = some (1, M') := by
  unfold f_L_law_1166
  simp (disch := omega) only [f_L_law_1702, pa1, pa2, pa3, pa4, pa5, pa6, sl_s hp hL]
  exact law_I (o _ _) (k_best _ _) hR hk
theorem k_bestSet : ∀ M r, (fun M => f_X12_bestSet M (some 207) ) M = some r → (mK M 207).1 = 12 := by
  intro M r h
  dsimp only at h
  unfold f_X12_bestSet at h
  first | exact k_pI h | exact k_gI h | exact k_gL h
theorem law_bestSet {L p : Nat} {xs : Nat → Int32} (hp : p + 6 ≤ L) (hL : L ≤ 3072) {k18 : Mm → Option Nat → Option Nat → Int32 → Option (Int32 × Mm)} (hk : ∀ M, RR M → ∃ M', k18 M (some 0) (some 207) (nI (p + 6)) = some (1, M')) {M : Mm} (hR : RR M) : ∃ M', f_L_law_1199 L xs k18 M (some 0) (some 207) (nI p) = some (1, M') := by
  unfold f_L_law_1199
  simp (disch := omega) only [f_L_law_1702, pa1, pa2, pa3, pa4, pa5, pa6, sl_s hp hL]
  exact law_I (op_bestSet) (k_bestSet) hR hk
theorem k_soonest (a0 : Int32) (a1 : Int32) : ∀ M r, (fun M => f_X12_soonest M (some 207) a0 a1) M = some r → (mK M 207).1 = 12 := by
  intro M r h
  dsimp only at h
  unfold f_X12_soonest at h
  first | exact k_pI h | exact k_gI h | exact k_gL h
theorem law_soonest {L p : Nat} {xs : Nat → Int32} (hp : p + 6 ≤ L) (hL : L ≤ 3072) {k18 : Mm → Option Nat → Option Nat → Int32 → Option (Int32 × Mm)} (hk : ∀ M, RR M → ∃ M', k18 M (some 0) (some 207) (nI (p + 6)) = some (1, M')) {M : Mm} (hR : RR M) (o : ∀ (a0 : Int32) (a1 : Int32), opI (fun M => f_X11_soonest M (some 0) a0 a1) (fun M => f_X12_soonest M (some 207) a0 a1)) : ∃ M', f_L_law_1212 L xs k18 M (some 0) (some 207) (nI p) = some (1, M') := by
  unfold f_L_law_1212
  simp (disch := omega) only [f_L_law_1702, pa1, pa2, pa3, pa4, pa5, pa6, sl_s hp hL]
  exact law_I (o _ _) (k_soonest _ _) hR hk
theorem k_order (a0 : Int32) : ∀ M r, (fun M => f_X12_order M (some 207) a0) M = some r → (mK M 207).1 = 12 := by
  intro M r h
  dsimp only at h
  unfold f_X12_order at h
  first | exact k_pI h | exact k_gI h | exact k_gL h
theorem law_order {L p : Nat} {xs : Nat → Int32} (hp : p + 6 ≤ L) (hL : L ≤ 3072) {k18 : Mm → Option Nat → Option Nat → Int32 → Option (Int32 × Mm)} (hk : ∀ M, RR M → ∃ M', k18 M (some 0) (some 207) (nI (p + 6)) = some (1, M')) {M : Mm} (hR : RR M) : ∃ M', f_L_law_1245 L xs k18 M (some 0) (some 207) (nI p) = some (1, M') := by
  unfold f_L_law_1245
  simp (disch := omega) only [f_L_law_1702, pa1, pa2, pa3, pa4, pa5, pa6, sl_s hp hL]
  exact law_I (op_order _) (k_order _) hR hk
theorem k_shared (a0 : Int32) : ∀ M r, (fun M => f_X12_shared M (some 207) a0) M = some r → (mK M 207).1 = 12 := by
  intro M r h
  dsimp only at h
  unfold f_X12_shared at h
  first | exact k_pI h | exact k_gI h | exact k_gL h
theorem law_shared {L p : Nat} {xs : Nat → Int32} (hp : p + 6 ≤ L) (hL : L ≤ 3072) {k18 : Mm → Option Nat → Option Nat → Int32 → Option (Int32 × Mm)} (hk : ∀ M, RR M → ∃ M', k18 M (some 0) (some 207) (nI (p + 6)) = some (1, M')) {M : Mm} (hR : RR M) (o : ∀ (a0 : Int32), opI (fun M => f_X11_shared M (some 0) a0) (fun M => f_X12_shared M (some 207) a0)) : ∃ M', f_L_law_1268 L xs k18 M (some 0) (some 207) (nI p) = some (1, M') := by
  unfold f_L_law_1268
  simp (disch := omega) only [f_L_law_1702, pa1, pa2, pa3, pa4, pa5, pa6, sl_s hp hL]
  exact law_I (o _) (k_shared _) hR hk
theorem k_allOff : ∀ M r, (fun M => f_X12_allOff M (some 207) ) M = some r → (mK M 207).1 = 12 := by
  intro M r h
  dsimp only at h
  unfold f_X12_allOff at h
  first | exact k_pI h | exact k_gI h | exact k_gL h
theorem law_allOff {L p : Nat} {xs : Nat → Int32} (hp : p + 6 ≤ L) (hL : L ≤ 3072) {k18 : Mm → Option Nat → Option Nat → Int32 → Option (Int32 × Mm)} (hk : ∀ M, RR M → ∃ M', k18 M (some 0) (some 207) (nI (p + 6)) = some (1, M')) {M : Mm} (hR : RR M) (o : opI (fun M => f_X11_allOff M (some 0)) (fun M => f_X12_allOff M (some 207))) : ∃ M', f_L_law_1291 L xs k18 M (some 0) (some 207) (nI p) = some (1, M') := by
  unfold f_L_law_1291
  simp (disch := omega) only [f_L_law_1702, pa1, pa2, pa3, pa4, pa5, pa6, sl_s hp hL]
  exact law_I (o) (k_allOff) hR hk
theorem k_score (a0 : Int32) (a1 : Int32) (a2 : Int32) : ∀ M r, (fun M => f_X12_score M (some 207) a0 a1 a2) M = some r → (mK M 207).1 = 12 := by
  intro M r h
  dsimp only at h
  unfold f_X12_score at h
  first | exact k_pI h | exact k_gI h | exact k_gL h
theorem law_score {L p : Nat} {xs : Nat → Int32} (hp : p + 6 ≤ L) (hL : L ≤ 3072) {k18 : Mm → Option Nat → Option Nat → Int32 → Option (Int32 × Mm)} (hk : ∀ M, RR M → ∃ M', k18 M (some 0) (some 207) (nI (p + 6)) = some (1, M')) {M : Mm} (hR : RR M) : ∃ M', f_L_law_1304 L xs k18 M (some 0) (some 207) (nI p) = some (1, M') := by
  unfold f_L_law_1304
  simp (disch := omega) only [f_L_law_1702, pa1, pa2, pa3, pa4, pa5, pa6, sl_s hp hL]
  exact law_I (op_score _ _ _) (k_score _ _ _) hR hk
theorem k_words (a0 : Int32) (a1 : Int32) (a2 : Int32) : ∀ M r, (fun M => f_X12_words M (some 207) a0 a1 a2) M = some r → (mK M 207).1 = 12 := by
  intro M r h
  dsimp only at h
  unfold f_X12_words at h
  first | exact k_pI h | exact k_gI h | exact k_gL h
theorem law_words {L p : Nat} {xs : Nat → Int32} (hp : p + 6 ≤ L) (hL : L ≤ 3072) {k18 : Mm → Option Nat → Option Nat → Int32 → Option (Int32 × Mm)} (hk : ∀ M, RR M → ∃ M', k18 M (some 0) (some 207) (nI (p + 6)) = some (1, M')) {M : Mm} (hR : RR M) : ∃ M', f_L_law_1347 L xs k18 M (some 0) (some 207) (nI p) = some (1, M') := by
  unfold f_L_law_1347
  simp (disch := omega) only [f_L_law_1702, pa1, pa2, pa3, pa4, pa5, pa6, sl_s hp hL]
  exact law_I (op_words _ _ _) (k_words _ _ _) hR hk
theorem k_owed : ∀ M r, (fun M => f_X12_owed M (some 207) ) M = some r → (mK M 207).1 = 12 := by
  intro M r h
  dsimp only at h
  unfold f_X12_owed at h
  first | exact k_pI h | exact k_gI h | exact k_gL h
theorem law_owed {L p : Nat} {xs : Nat → Int32} (hp : p + 6 ≤ L) (hL : L ≤ 3072) {k18 : Mm → Option Nat → Option Nat → Int32 → Option (Int32 × Mm)} (hk : ∀ M, RR M → ∃ M', k18 M (some 0) (some 207) (nI (p + 6)) = some (1, M')) {M : Mm} (hR : RR M) : ∃ M', f_L_law_1390 L xs k18 M (some 0) (some 207) (nI p) = some (1, M') := by
  unfold f_L_law_1390
  simp (disch := omega) only [f_L_law_1702, pa1, pa2, pa3, pa4, pa5, pa6, sl_s hp hL]
  exact law_I (op_owed) (k_owed) hR hk
theorem k_riders : ∀ M r, (fun M => f_X12_riders M (some 207) ) M = some r → (mK M 207).1 = 12 := by
  intro M r h
  dsimp only at h
  unfold f_X12_riders at h
  first | exact k_pI h | exact k_gI h | exact k_gL h
theorem law_riders {L p : Nat} {xs : Nat → Int32} (hp : p + 6 ≤ L) (hL : L ≤ 3072) {k18 : Mm → Option Nat → Option Nat → Int32 → Option (Int32 × Mm)} (hk : ∀ M, RR M → ∃ M', k18 M (some 0) (some 207) (nI (p + 6)) = some (1, M')) {M : Mm} (hR : RR M) : ∃ M', f_L_law_1403 L xs k18 M (some 0) (some 207) (nI p) = some (1, M') := by
  unfold f_L_law_1403
  simp (disch := omega) only [f_L_law_1702, pa1, pa2, pa3, pa4, pa5, pa6, sl_s hp hL]
  exact law_I (op_riders) (k_riders) hR hk
theorem k_chain (a0 : Int32) : ∀ M r, (fun M => f_X12_chain M (some 207) a0) M = some r → (mK M 207).1 = 12 := by
  intro M r h
  dsimp only at h
  unfold f_X12_chain at h
  first | exact k_pI h | exact k_gI h | exact k_gL h
theorem law_chain {L p : Nat} {xs : Nat → Int32} (hp : p + 6 ≤ L) (hL : L ≤ 3072) {k18 : Mm → Option Nat → Option Nat → Int32 → Option (Int32 × Mm)} (hk : ∀ M, RR M → ∃ M', k18 M (some 0) (some 207) (nI (p + 6)) = some (1, M')) {M : Mm} (hR : RR M) : ∃ M', f_L_law_1416 L xs k18 M (some 0) (some 207) (nI p) = some (1, M') := by
  unfold f_L_law_1416
  simp (disch := omega) only [f_L_law_1702, pa1, pa2, pa3, pa4, pa5, pa6, sl_s hp hL]
  exact law_I (op_chain _) (k_chain _) hR hk
theorem k_quits (a0 : Int32) (a1 : Int32) : ∀ M r, (fun M => f_X12_quits M (some 207) a0 a1) M = some r → (mK M 207).1 = 12 := by
  intro M r h
  dsimp only at h
  unfold f_X12_quits at h
  first | exact k_pI h | exact k_gI h | exact k_gL h
theorem law_quits {L p : Nat} {xs : Nat → Int32} (hp : p + 6 ≤ L) (hL : L ≤ 3072) {k18 : Mm → Option Nat → Option Nat → Int32 → Option (Int32 × Mm)} (hk : ∀ M, RR M → ∃ M', k18 M (some 0) (some 207) (nI (p + 6)) = some (1, M')) {M : Mm} (hR : RR M) : ∃ M', f_L_law_1439 L xs k18 M (some 0) (some 207) (nI p) = some (1, M') := by
  unfold f_L_law_1439
  simp (disch := omega) only [f_L_law_1702, pa1, pa2, pa3, pa4, pa5, pa6, sl_s hp hL]
  exact law_I (op_quits _ _) (k_quits _ _) hR hk
theorem k_ground (a0 : Int32) : ∀ M r, (fun M => f_X12_ground M (some 207) a0) M = some r → (mK M 207).1 = 12 := by
  intro M r h
  dsimp only at h
  unfold f_X12_ground at h
  first | exact k_pI h | exact k_gI h | exact k_gL h
theorem law_ground {L p : Nat} {xs : Nat → Int32} (hp : p + 6 ≤ L) (hL : L ≤ 3072) {k18 : Mm → Option Nat → Option Nat → Int32 → Option (Int32 × Mm)} (hk : ∀ M, RR M → ∃ M', k18 M (some 0) (some 207) (nI (p + 6)) = some (1, M')) {M : Mm} (hR : RR M) (o : ∀ (a0 : Int32), opI (fun M => f_X11_ground M (some 0) a0) (fun M => f_X12_ground M (some 207) a0)) : ∃ M', f_L_law_1472 L xs k18 M (some 0) (some 207) (nI p) = some (1, M') := by
  unfold f_L_law_1472
  simp (disch := omega) only [f_L_law_1702, pa1, pa2, pa3, pa4, pa5, pa6, sl_s hp hL]
  exact law_I (o _) (k_ground _) hR hk
theorem k_signs (a0 : Int32) (a1 : Int32) : ∀ M r, (fun M => f_X12_signs M (some 207) a0 a1) M = some r → (mK M 207).1 = 12 := by
  intro M r h
  dsimp only at h
  unfold f_X12_signs at h
  first | exact k_pI h | exact k_gI h | exact k_gL h
theorem law_signs {L p : Nat} {xs : Nat → Int32} (hp : p + 6 ≤ L) (hL : L ≤ 3072) {k18 : Mm → Option Nat → Option Nat → Int32 → Option (Int32 × Mm)} (hk : ∀ M, RR M → ∃ M', k18 M (some 0) (some 207) (nI (p + 6)) = some (1, M')) {M : Mm} (hR : RR M) : ∃ M', f_L_law_1495 L xs k18 M (some 0) (some 207) (nI p) = some (1, M') := by
  unfold f_L_law_1495
  simp (disch := omega) only [f_L_law_1702, pa1, pa2, pa3, pa4, pa5, pa6, sl_s hp hL]
  exact law_I (op_signs _ _) (k_signs _ _) hR hk
theorem k_flown (a0 : Int32) : ∀ M r, (fun M => f_X12_flown M (some 207) a0) M = some r → (mK M 207).1 = 12 := by
  intro M r h
  dsimp only at h
  unfold f_X12_flown at h
  first | exact k_pI h | exact k_gI h | exact k_gL h
theorem law_flown {L p : Nat} {xs : Nat → Int32} (hp : p + 6 ≤ L) (hL : L ≤ 3072) {k18 : Mm → Option Nat → Option Nat → Int32 → Option (Int32 × Mm)} (hk : ∀ M, RR M → ∃ M', k18 M (some 0) (some 207) (nI (p + 6)) = some (1, M')) {M : Mm} (hR : RR M) : ∃ M', f_L_law_1528 L xs k18 M (some 0) (some 207) (nI p) = some (1, M') := by
  unfold f_L_law_1528
  simp (disch := omega) only [f_L_law_1702, pa1, pa2, pa3, pa4, pa5, pa6, sl_s hp hL]
  exact law_I (op_flown _) (k_flown _) hR hk
theorem k_likeliest (a0 : Int32) : ∀ M r, (fun M => f_X12_likeliest M (some 207) a0) M = some r → (mK M 207).1 = 12 := by
  intro M r h
  dsimp only at h
  unfold f_X12_likeliest at h
  first | exact k_pI h | exact k_gI h | exact k_gL h
theorem law_likeliest {L p : Nat} {xs : Nat → Int32} (hp : p + 6 ≤ L) (hL : L ≤ 3072) {k18 : Mm → Option Nat → Option Nat → Int32 → Option (Int32 × Mm)} (hk : ∀ M, RR M → ∃ M', k18 M (some 0) (some 207) (nI (p + 6)) = some (1, M')) {M : Mm} (hR : RR M) : ∃ M', f_L_law_1551 L xs k18 M (some 0) (some 207) (nI p) = some (1, M') := by
  unfold f_L_law_1551
  simp (disch := omega) only [f_L_law_1702, pa1, pa2, pa3, pa4, pa5, pa6, sl_s hp hL]
  exact law_I (op_likeliest _) (k_likeliest _) hR hk
theorem k_neighbour (a0 : Int32) : ∀ M r, (fun M => f_X12_neighbour M (some 207) a0) M = some r → (mK M 207).1 = 12 := by
  intro M r h
  dsimp only at h
  unfold f_X12_neighbour at h
  first | exact k_pI h | exact k_gI h | exact k_gL h
theorem law_neighbour {L p : Nat} {xs : Nat → Int32} (hp : p + 6 ≤ L) (hL : L ≤ 3072) {k18 : Mm → Option Nat → Option Nat → Int32 → Option (Int32 × Mm)} (hk : ∀ M, RR M → ∃ M', k18 M (some 0) (some 207) (nI (p + 6)) = some (1, M')) {M : Mm} (hR : RR M) : ∃ M', f_L_law_1574 L xs k18 M (some 0) (some 207) (nI p) = some (1, M') := by
  unfold f_L_law_1574
  simp (disch := omega) only [f_L_law_1702, pa1, pa2, pa3, pa4, pa5, pa6, sl_s hp hL]
  exact law_I (op_near _) (k_neighbour _) hR hk
theorem k_live (a0 : Int32) : ∀ M r, (fun M => f_X12_live M (some 207) a0) M = some r → (mK M 207).1 = 12 := by
  intro M r h
  dsimp only at h
  unfold f_X12_live at h
  first | exact k_pI h | exact k_gI h | exact k_gL h
theorem law_live {L p : Nat} {xs : Nat → Int32} (hp : p + 6 ≤ L) (hL : L ≤ 3072) {k18 : Mm → Option Nat → Option Nat → Int32 → Option (Int32 × Mm)} (hk : ∀ M, RR M → ∃ M', k18 M (some 0) (some 207) (nI (p + 6)) = some (1, M')) {M : Mm} (hR : RR M) (o : ∀ (a0 : Int32), opI (fun M => f_X11_live M (some 0) a0) (fun M => f_X12_live M (some 207) a0)) : ∃ M', f_L_law_1597 L xs k18 M (some 0) (some 207) (nI p) = some (1, M') := by
  unfold f_L_law_1597
  simp (disch := omega) only [f_L_law_1702, pa1, pa2, pa3, pa4, pa5, pa6, sl_s hp hL]
  exact law_I (o _) (k_live _) hR hk
theorem k_lived (a0 : Int32) : ∀ M r, (fun M => f_X12_lived M (some 207) a0) M = some r → (mK M 207).1 = 12 := by
  intro M r h
  dsimp only at h
  unfold f_X12_lived at h
  first | exact k_pI h | exact k_gI h | exact k_gL h
theorem law_lived {L p : Nat} {xs : Nat → Int32} (hp : p + 6 ≤ L) (hL : L ≤ 3072) {k18 : Mm → Option Nat → Option Nat → Int32 → Option (Int32 × Mm)} (hk : ∀ M, RR M → ∃ M', k18 M (some 0) (some 207) (nI (p + 6)) = some (1, M')) {M : Mm} (hR : RR M) : ∃ M', f_L_law_1620 L xs k18 M (some 0) (some 207) (nI p) = some (1, M') := by
  unfold f_L_law_1620
  simp (disch := omega) only [f_L_law_1702, pa1, pa2, pa3, pa4, pa5, pa6, sl_s hp hL]
  exact law_I (op_lived _) (k_lived _) hR hk
theorem k_mean (a0 : Int32) (a1 : Int32) : ∀ M r, (fun M => f_X12_mean M (some 207) a0 a1) M = some r → (mK M 207).1 = 12 := by
  intro M r h
  dsimp only at h
  unfold f_X12_mean at h
  obtain ⟨s, h⟩ := zc_n h
  unfold g_X12_mean at h
  first | exact k_pI h | exact k_gI h | exact k_gL h
theorem law_mean {L p : Nat} {xs : Nat → Int32} (hp : p + 6 ≤ L) (hL : L ≤ 3072) {k18 : Mm → Option Nat → Option Nat → Int32 → Option (Int32 × Mm)} (hk : ∀ M, RR M → ∃ M', k18 M (some 0) (some 207) (nI (p + 6)) = some (1, M')) {M : Mm} (hR : RR M) (o : ∀ (a0 : Int32) (a1 : Int32), opI (fun M => f_X11_mean M (some 0) a0 a1) (fun M => f_X12_mean M (some 207) a0 a1)) : ∃ M', f_L_law_1643 L xs k18 M (some 0) (some 207) (nI p) = some (1, M') := by
  unfold f_L_law_1643
  simp (disch := omega) only [f_L_law_1702, pa1, pa2, pa3, pa4, pa5, pa6, sl_s hp hL]
  exact law_I (o _ _) (k_mean _ _) hR hk
theorem k_mark : ∀ M r, (fun M => f_X12_mark M (some 207) ) M = some r → (mK M 207).1 = 12 := by
  intro M r h
  dsimp only at h
  unfold f_X12_mark at h
  first | exact k_pI h | exact k_gI h | exact k_gL h
theorem law_mark {L p : Nat} {xs : Nat → Int32} (hp : p + 6 ≤ L) (hL : L ≤ 3072) {k18 : Mm → Option Nat → Option Nat → Int32 → Option (Int32 × Mm)} (hk : ∀ M, RR M → ∃ M', k18 M (some 0) (some 207) (nI (p + 6)) = some (1, M')) {M : Mm} (hR : RR M) : ∃ M', f_L_law_1676 L xs k18 M (some 0) (some 207) (nI p) = some (1, M') := by
  unfold f_L_law_1676
  simp (disch := omega) only [f_L_law_1702, pa1, pa2, pa3, pa4, pa5, pa6, sl_s hp hL]
  exact law_I (op_mark) (k_mark) hR hk
theorem k_back : ∀ M r, (fun M => f_X12_back M (some 207) ) M = some r → (mK M 207).1 = 12 := by
  intro M r h
  dsimp only at h
  unfold f_X12_back at h
  first | exact k_pI h | exact k_gI h | exact k_gL h
theorem law_back {L p : Nat} {xs : Nat → Int32} (hp : p + 6 ≤ L) (hL : L ≤ 3072) {k18 : Mm → Option Nat → Option Nat → Int32 → Option (Int32 × Mm)} (hk : ∀ M, RR M → ∃ M', k18 M (some 0) (some 207) (nI (p + 6)) = some (1, M')) {M : Mm} (hR : RR M) : ∃ M', f_L_law_1689 L xs k18 M (some 0) (some 207) (nI p) = some (1, M') := by
  unfold f_L_law_1689
  simp (disch := omega) only [f_L_law_1702, pa1, pa2, pa3, pa4, pa5, pa6, sl_s hp hL]
  exact law_I (op_back) (k_back) hR hk

/-! calls of methods that stand as functions -/
def nz {ρ : Type} (r : Option Nat) (x : Option ρ) : Option ρ := match r with
  | none => none
  | some _ => x
theorem nz_spec {ρ : Type} {r : Option Nat} {x : Option ρ} {ans : ρ} (h : nz r x = some ans) : (∃ a, r = some a) ∧ x = some ans := by
  cases r with
  | none => cases h
  | some a => exact ⟨⟨a, rfl⟩, h⟩
def zc (x : Option (Int32 × Mm)) : Option (Int32 × Mm) := match x with
  | none => none
  | some y => if y.1 = 0 ∨ y.1 = 1 then some y else none
theorem zc_spec {x : Option (Int32 × Mm)} {r : Int32 × Mm} (h : zc x = some r) : x = some r ∧ (r.1 = 0 ∨ r.1 = 1) := by
  cases x with
  | none => cases h
  | some y =>
    unfold zc at h
    dsimp only at h
    by_cases e : y.1 = 0 ∨ y.1 = 1
    · rw [if_pos e] at h
      cases h
      exact ⟨rfl, e⟩
    · rw [if_neg e] at h
      cases h
def nmI {ρ : Type} (e : Int32) (c : Int32 → Option ρ) : Option ρ := c e
def nmL {ρ : Type} (e : Int64) (c : Int64 → Option ρ) : Option ρ := c e
/-- enough rounds for every loop -/
def fu : Nat := 65536
section Fl
variable {G : GG} {X : CX} {J J' : JD} {B B' : BD} {pc : Nat} {ls : LV} {st st0 As : List Value} {M : Mm} {u w u' w' : Nat} {idx ci n : Nat} {ρ : Type} {ans : ρ} {r : Option Nat}
theorem wt_nmI {e : Int32} {c : Int32 → Option ρ} (h : nmI e c = some ans) (kk : ∀ x, c x = some ans → Wt G X J B pc ls (.int x :: st) M u w) : Wt G X J B pc ls (.int e :: st) M u w := kk e h
theorem wt_nmL {e : Int64} {c : Int64 → Option ρ} (h : nmL e c = some ans) (kk : ∀ x, c x = some ans → Wt G X J B pc ls (.long x :: st) M u w) : Wt G X J B pc ls (.long e :: st) M u w := kk e h
theorem wt_oI (hc : decode J.2.1 pc = .ok (.invokespecial idx, 3)) (hl : Cond.methodLink J.1.cls idx Lib.objectInit ∈ GW) (hi : Cond.instanceMethod Lib.objectInit ∈ GW) (hcd : Cond.code Lib.objectInit ⟨#[0xb1]⟩ 1 none ∈ GW) (hB : 1 ≤ B.1) (hst : (st.map fun v => v.category).sum ≤ 8) {x : Option ρ} (h : nz r x = some ans) (kk : x = some ans → Wt G X J B (pc + 3) ls st M u w) : Wt G X J B pc ls (rf G.1 r :: st) M u w := by
  obtain ⟨⟨a, rfl⟩, h2⟩ := nz_spec h
  exact wt_objInit hc hl hi hcd hB hst (kk h2)
theorem wt_cVI {fc : Option (Int32 × Mm)} {cont : Int32 → Mm → Option ρ} (hc : decode J.2.1 pc = .ok (.invokevirtual idx, 3)) (hl : MLk J.1.cls idx J'.1) (hmv : MV J' ci n) (hM : ∀ v M', fc = some (v, M') → ∀ l, Ct l G J' B' (rf G.1 r :: As) M (some (.int v)) M') (hn : As.length = n) (hB : B'.1 + 1 ≤ B.1) (hu : u + B'.2.1 = u') (hw : w + B'.2.2 = w') (hu2 : u' ≤ B.2.1) (hw2 : w' ≤ B.2.2) (hst : (st.map fun v => v.category).sum ≤ 8) (hst0 : As.reverse ++ rf G.1 r :: st = st0)
    (h : ck M r ci (bd fc cont) = some ans) (kk : ∀ v M', cont v M' = some ans → Wt G X J B (pc + 3) ls (.int v :: st) M' u' w') : Wt G X J B pc ls st0 M u w := by
  obtain ⟨⟨b, rfl, hk⟩, h2⟩ := ck_spec h
  obtain ⟨v, M', e, h9⟩ := bd_spec h2
  subst hu hw
  exact wt_callV hc hl hmv (hM v M' e) hk hn hB hu2 hw2 hst hst0 (kk v M' h9)
theorem wt_cSI {fc : Option (Int32 × Mm)} {cont : Int32 → Mm → Option ρ} (hc : decode J.2.1 pc = .ok (.invokestatic idx, 3)) (hl : MLk J.1.cls idx J'.1) (hms : MS J' n) (hM : ∀ v M', fc = some (v, M') → ∀ l, Ct l G J' B' As M (some (.int v)) M') (hn : As.length = n) (hB : B'.1 + 1 ≤ B.1) (hu : u + B'.2.1 = u') (hw : w + B'.2.2 = w') (hu2 : u' ≤ B.2.1) (hw2 : w' ≤ B.2.2) (hst : (st.map fun v => v.category).sum ≤ 8) (hst0 : As.reverse ++ st = st0)
    (h : bd fc cont = some ans) (kk : ∀ v M', cont v M' = some ans → Wt G X J B (pc + 3) ls (.int v :: st) M' u' w') : Wt G X J B pc ls st0 M u w := by
  obtain ⟨v, M', e, h9⟩ := bd_spec h
  subst hu hw
  exact wt_callS hc hl hms (hM v M' e) hn hB hu2 hw2 hst hst0 (kk v M' h9)
theorem wt_cVL {fc : Option (Int64 × Mm)} {cont : Int64 → Mm → Option ρ} (hc : decode J.2.1 pc = .ok (.invokevirtual idx, 3)) (hl : MLk J.1.cls idx J'.1) (hmv : MV J' ci n) (hM : ∀ v M', fc = some (v, M') → ∀ l, Ct l G J' B' (rf G.1 r :: As) M (some (.long v)) M') (hn : As.length = n) (hB : B'.1 + 1 ≤ B.1) (hu : u + B'.2.1 = u') (hw : w + B'.2.2 = w') (hu2 : u' ≤ B.2.1) (hw2 : w' ≤ B.2.2) (hst : (st.map fun v => v.category).sum ≤ 8) (hst0 : As.reverse ++ rf G.1 r :: st = st0)
    (h : ck M r ci (bd fc cont) = some ans) (kk : ∀ v M', cont v M' = some ans → Wt G X J B (pc + 3) ls (.long v :: st) M' u' w') : Wt G X J B pc ls st0 M u w := by
  obtain ⟨⟨b, rfl, hk⟩, h2⟩ := ck_spec h
  obtain ⟨v, M', e, h9⟩ := bd_spec h2
  subst hu hw
  exact wt_callV hc hl hmv (hM v M' e) hk hn hB hu2 hw2 hst hst0 (kk v M' h9)
theorem wt_cSL {fc : Option (Int64 × Mm)} {cont : Int64 → Mm → Option ρ} (hc : decode J.2.1 pc = .ok (.invokestatic idx, 3)) (hl : MLk J.1.cls idx J'.1) (hms : MS J' n) (hM : ∀ v M', fc = some (v, M') → ∀ l, Ct l G J' B' As M (some (.long v)) M') (hn : As.length = n) (hB : B'.1 + 1 ≤ B.1) (hu : u + B'.2.1 = u') (hw : w + B'.2.2 = w') (hu2 : u' ≤ B.2.1) (hw2 : w' ≤ B.2.2) (hst : (st.map fun v => v.category).sum ≤ 8) (hst0 : As.reverse ++ st = st0)
    (h : bd fc cont = some ans) (kk : ∀ v M', cont v M' = some ans → Wt G X J B (pc + 3) ls (.long v :: st) M' u' w') : Wt G X J B pc ls st0 M u w := by
  obtain ⟨v, M', e, h9⟩ := bd_spec h
  subst hu hw
  exact wt_callS hc hl hms (hM v M' e) hn hB hu2 hw2 hst hst0 (kk v M' h9)
theorem wt_cVV {fc : Option Mm} {cont : Mm → Option ρ} (hc : decode J.2.1 pc = .ok (.invokevirtual idx, 3)) (hl : MLk J.1.cls idx J'.1) (hmv : MV J' ci n) (hM : ∀ M', fc = some M' → ∀ l, Ct l G J' B' (rf G.1 r :: As) M (none) M') (hn : As.length = n) (hB : B'.1 + 1 ≤ B.1) (hu : u + B'.2.1 = u') (hw : w + B'.2.2 = w') (hu2 : u' ≤ B.2.1) (hw2 : w' ≤ B.2.2) (hst : (st.map fun v => v.category).sum ≤ 8) (hst0 : As.reverse ++ rf G.1 r :: st = st0)
    (h : ck M r ci (bv fc cont) = some ans) (kk : ∀ M', cont M' = some ans → Wt G X J B (pc + 3) ls st M' u' w') : Wt G X J B pc ls st0 M u w := by
  obtain ⟨⟨b, rfl, hk⟩, h2⟩ := ck_spec h
  obtain ⟨M', e, h9⟩ := bv_spec h2
  subst hu hw
  exact wt_callV hc hl hmv (hM M' e) hk hn hB hu2 hw2 hst hst0 (kk M' h9)
theorem wt_cSV {fc : Option Mm} {cont : Mm → Option ρ} (hc : decode J.2.1 pc = .ok (.invokestatic idx, 3)) (hl : MLk J.1.cls idx J'.1) (hms : MS J' n) (hM : ∀ M', fc = some M' → ∀ l, Ct l G J' B' As M (none) M') (hn : As.length = n) (hB : B'.1 + 1 ≤ B.1) (hu : u + B'.2.1 = u') (hw : w + B'.2.2 = w') (hu2 : u' ≤ B.2.1) (hw2 : w' ≤ B.2.2) (hst : (st.map fun v => v.category).sum ≤ 8) (hst0 : As.reverse ++ st = st0)
    (h : bv fc cont = some ans) (kk : ∀ M', cont M' = some ans → Wt G X J B (pc + 3) ls st M' u' w') : Wt G X J B pc ls st0 M u w := by
  obtain ⟨M', e, h9⟩ := bv_spec h
  subst hu hw
  exact wt_callS hc hl hms (hM M' e) hn hB hu2 hw2 hst hst0 (kk M' h9)
theorem wt_cI {fc : Option Mm} {cont : Mm → Option ρ} (hc : decode J.2.1 pc = .ok (.invokespecial idx, 3)) (hl : MLk J.1.cls idx J'.1) (hmi : MI J' n) (hM : ∀ M', fc = some M' → ∀ l, Ct l G J' B' (rf G.1 r :: As) M none M') (hn : As.length = n) (hB : B'.1 + 1 ≤ B.1) (hu : u + B'.2.1 = u') (hw : w + B'.2.2 = w') (hu2 : u' ≤ B.2.1) (hw2 : w' ≤ B.2.2) (hst : (st.map fun v => v.category).sum ≤ 8) (hst0 : As.reverse ++ rf G.1 r :: st = st0)
    (h : nz r (bv fc cont) = some ans) (kk : ∀ M', cont M' = some ans → Wt G X J B (pc + 3) ls st M' u' w') : Wt G X J B pc ls st0 M u w := by
  obtain ⟨⟨b, rfl⟩, h2⟩ := nz_spec h
  obtain ⟨M', e, h9⟩ := bv_spec h2
  subst hu hw
  exact wt_callI hc hl hmi (hM M' e) hn hB hu2 hw2 hst hst0 (kk M' h9)
end Fl
section Fm
variable {l : Launch} {G : GG} {J : JD} {B : BD} {av : List Value} {M : Mm} {ls0 : LV}
theorem cf_I {r : Int32 × Mm} (hy : plainName J.1.cls = true) (hlen : (lg_sl av).length ≤ J.2.2.1) (hr : J.2.2.2 = some .int) (hls : lv_args 0 av = ls0) (body : ∀ X : CX, EndI G X J B r → Wt G X J B 0 ls0 [] M 0 0) : Ct l G J B av M (some (.int r.1)) r.2 := by
  subst hls
  exact ct_I hy hlen hr body
theorem cf_Z {x : Option (Int32 × Mm)} {r : Int32 × Mm} (h : zc x = some r) (hy : plainName J.1.cls = true) (hlen : (lg_sl av).length ≤ J.2.2.1) (hr : J.2.2.2 = some .boolean) (hls : lv_args 0 av = ls0) (body : x = some r → ∀ X : CX, EndI G X J B r → Wt G X J B 0 ls0 [] M 0 0) : Ct l G J B av M (some (.int r.1)) r.2 := by
  subst hls
  obtain ⟨h1, h2⟩ := zc_spec h
  exact ct_Z hy hlen hr h2 (body h1)
theorem cf_L {r : Int64 × Mm} (hy : plainName J.1.cls = true) (hlen : (lg_sl av).length ≤ J.2.2.1) (hr : J.2.2.2 = some .long) (hls : lv_args 0 av = ls0) (body : ∀ X : CX, EndL G X J B r → Wt G X J B 0 ls0 [] M 0 0) : Ct l G J B av M (some (.long r.1)) r.2 := by
  subst hls
  exact ct_L hy hlen hr body
theorem cf_V {r : Mm} (hy : plainName J.1.cls = true) (hlen : (lg_sl av).length ≤ J.2.2.1) (hr : J.2.2.2 = none) (hls : lv_args 0 av = ls0) (body : ∀ X : CX, EndV G X J B r → Wt G X J B 0 ls0 [] M 0 0) : Ct l G J B av M none r := by
  subst hls
  exact ct_V hy hlen hr body
end Fm

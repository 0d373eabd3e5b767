section WtF
variable {G : GG} {X : CX} {J : JD} {B : BD} {pc : Nat} {ls : LV} {st : List Value} {M : Mm} {u w : Nat} {ρ : Type} {ans : ρ}
theorem wt_getI {r : Option Nat} {idx ci k : Nat} {cont : Int32 → Option ρ} (hc : decode J.2.1 pc = .ok (.getfield idx, 3)) (hf : FLk J.1.cls idx ci k) (ht : ∀ (n : Nat) (M : Mm) (a : Nat), vOf n (tyC ci k) M a k = .int (mI M a k)) (h : gfI M r ci k cont = some ans) (kk : ∀ v, cont v = some ans → Wt G X J B (pc + 3) ls (.int v :: st) M u w) : Wt G X J B pc ls (rf G.1 r :: st) M u w := by
  unfold gfI at h
  cases r with
  | none => cases h
  | some a =>
    dsimp only at h
    by_cases hk : (mK M a).1 = ci
    · rw [if_pos hk] at h
      exact wt_getG hf hc hk (by rw [ht]; exact kk _ h)
    · rw [if_neg hk] at h
      cases h
theorem wt_getL {r : Option Nat} {idx ci k : Nat} {cont : Int64 → Option ρ} (hc : decode J.2.1 pc = .ok (.getfield idx, 3)) (hf : FLk J.1.cls idx ci k) (ht : ∀ (n : Nat) (M : Mm) (a : Nat), vOf n (tyC ci k) M a k = .long (mL M a k)) (h : gfL M r ci k cont = some ans) (kk : ∀ v, cont v = some ans → Wt G X J B (pc + 3) ls (.long v :: st) M u w) : Wt G X J B pc ls (rf G.1 r :: st) M u w := by
  unfold gfL at h
  cases r with
  | none => cases h
  | some a =>
    dsimp only at h
    by_cases hk : (mK M a).1 = ci
    · rw [if_pos hk] at h
      exact wt_getG hf hc hk (by rw [ht]; exact kk _ h)
    · rw [if_neg hk] at h
      cases h
theorem wt_getR {r : Option Nat} {idx ci k : Nat} {cont : Option Nat → Option ρ} (hc : decode J.2.1 pc = .ok (.getfield idx, 3)) (hf : FLk J.1.cls idx ci k) (ht : ∀ (n : Nat) (M : Mm) (a : Nat), vOf n (tyC ci k) M a k = rf n (mR M a k)) (h : gfR M r ci k cont = some ans) (kk : ∀ v, cont v = some ans → Wt G X J B (pc + 3) ls (rf G.1 v :: st) M u w) : Wt G X J B pc ls (rf G.1 r :: st) M u w := by
  unfold gfR at h
  cases r with
  | none => cases h
  | some a =>
    dsimp only at h
    by_cases hk : (mK M a).1 = ci
    · rw [if_pos hk] at h
      exact wt_getG hf hc hk (by rw [ht]; exact kk _ h)
    · rw [if_neg hk] at h
      cases h
theorem wt_putI {r : Option Nat} {idx ci k : Nat} {v : Int32} {cont : Mm → Option ρ} (hc : decode J.2.1 pc = .ok (.putfield idx, 3)) (hf : FLk J.1.cls idx ci k) (hfin : fnC ci k = false) (ht : tyC ci k = .int) (h : pfI M r ci k v cont = some ans) (kk : ∀ M', cont M' = some ans → Wt G X J B (pc + 3) ls st M' u w) : Wt G X J B pc ls (.int v :: rf G.1 r :: st) M u w := by
  unfold pfI at h
  cases r with
  | none => cases h
  | some a =>
    dsimp only at h
    by_cases hk : (mK M a).1 = ci
    · rw [if_pos hk] at h
      refine wt_putG hf hfin hc (M' := sI M a k v) hk (by rw [ht]; rfl) (by rw [ht]; rfl) rfl rfl (fun b hb => ⟨funext fun j => by rw [mI_sI, if_neg (fun z => hb z.1)], rfl, rfl⟩) (fun j => ?_) (kk _ h)
      by_cases e : j = k
      · subst e
        rw [if_pos rfl, ht]
        simp [vOf, mI_sI]
      · rw [if_neg e]
        unfold vOf
        split <;> simp [mI_sI, mK_sI, e, mI_sL, mI_sR, mL_sI, mL_sR, mR_sI, mR_sL]
    · rw [if_neg hk] at h
      cases h
theorem wt_putZ {r : Option Nat} {idx ci k : Nat} {v : Int32} {cont : Mm → Option ρ} (hc : decode J.2.1 pc = .ok (.putfield idx, 3)) (hf : FLk J.1.cls idx ci k) (hfin : fnC ci k = false) (ht : tyC ci k = .boolean) (h : pfZ M r ci k v cont = some ans) (kk : ∀ M', cont M' = some ans → Wt G X J B (pc + 3) ls st M' u w) : Wt G X J B pc ls (.int v :: rf G.1 r :: st) M u w := by
  unfold pfZ at h
  cases r with
  | none => cases h
  | some a =>
    dsimp only at h
    by_cases hk : (mK M a).1 = ci ∧ (v = 0 ∨ v = 1)
    · rw [if_pos hk] at h
      refine wt_putG hf hfin hc (M' := sI M a k v) hk.1 (by rw [ht]; rcases hk.2 with e | e <;> subst e <;> rfl) (by rw [ht]; rcases hk.2 with e | e <;> subst e <;> rfl) rfl rfl (fun b hb => ⟨funext fun j => by rw [mI_sI, if_neg (fun z => hb z.1)], rfl, rfl⟩) (fun j => ?_) (kk _ h)
      by_cases e : j = k
      · subst e
        rw [if_pos rfl, ht]
        simp [vOf, mI_sI]
      · rw [if_neg e]
        unfold vOf
        split <;> simp [mI_sI, mK_sI, e, mI_sL, mI_sR, mL_sI, mL_sR, mR_sI, mR_sL]
    · rw [if_neg hk] at h
      cases h
theorem wt_putC {r : Option Nat} {idx ci k : Nat} {v : Int32} {cont : Mm → Option ρ} (hc : decode J.2.1 pc = .ok (.putfield idx, 3)) (hf : FLk J.1.cls idx ci k) (hfin : fnC ci k = false) (ht : tyC ci k = .char) (h : pfC M r ci k v cont = some ans) (kk : ∀ M', cont M' = some ans → Wt G X J B (pc + 3) ls st M' u w) : Wt G X J B pc ls (.int v :: rf G.1 r :: st) M u w := by
  unfold pfC at h
  cases r with
  | none => cases h
  | some a =>
    dsimp only at h
    by_cases hk : (mK M a).1 = ci ∧ (narrow .char (.int v) = .int v ∧ fits .char (.int v) = true)
    · rw [if_pos hk] at h
      refine wt_putG hf hfin hc (M' := sI M a k v) hk.1 (by rw [ht]; exact hk.2.1) (by rw [ht]; exact hk.2.2) rfl rfl (fun b hb => ⟨funext fun j => by rw [mI_sI, if_neg (fun z => hb z.1)], rfl, rfl⟩) (fun j => ?_) (kk _ h)
      by_cases e : j = k
      · subst e
        rw [if_pos rfl, ht]
        simp [vOf, mI_sI]
      · rw [if_neg e]
        unfold vOf
        split <;> simp [mI_sI, mK_sI, e, mI_sL, mI_sR, mL_sI, mL_sR, mR_sI, mR_sL]
    · rw [if_neg hk] at h
      cases h
theorem wt_putL {r : Option Nat} {idx ci k : Nat} {v : Int64} {cont : Mm → Option ρ} (hc : decode J.2.1 pc = .ok (.putfield idx, 3)) (hf : FLk J.1.cls idx ci k) (hfin : fnC ci k = false) (ht : tyC ci k = .long) (h : pfL M r ci k v cont = some ans) (kk : ∀ M', cont M' = some ans → Wt G X J B (pc + 3) ls st M' u w) : Wt G X J B pc ls (.long v :: rf G.1 r :: st) M u w := by
  unfold pfL at h
  cases r with
  | none => cases h
  | some a =>
    dsimp only at h
    by_cases hk : (mK M a).1 = ci
    · rw [if_pos hk] at h
      refine wt_putG hf hfin hc (M' := sL M a k v) hk (by rw [ht]; rfl) (by rw [ht]; rfl) rfl rfl (fun b hb => ⟨rfl, funext fun j => by rw [mL_sL, if_neg (fun z => hb z.1)], rfl⟩) (fun j => ?_) (kk _ h)
      by_cases e : j = k
      · subst e
        rw [if_pos rfl, ht]
        simp [vOf, mL_sL]
      · rw [if_neg e]
        unfold vOf
        split <;> simp [mL_sL, mK_sL, e, mI_sL, mI_sR, mL_sI, mL_sR, mR_sI, mR_sL]
    · rw [if_neg hk] at h
      cases h
theorem wt_putR {r : Option Nat} {idx ci k : Nat} {v : Option Nat} {C : String} {cont : Mm → Option ρ} (hc : decode J.2.1 pc = .ok (.putfield idx, 3)) (hf : FLk J.1.cls idx ci k) (hfin : fnC ci k = false) (ht : tyC ci k = .object C) (h : pfR M r ci k v cont = some ans) (kk : ∀ M', cont M' = some ans → Wt G X J B (pc + 3) ls st M' u w) : Wt G X J B pc ls (rf G.1 v :: rf G.1 r :: st) M u w := by
  unfold pfR at h
  cases r with
  | none => cases h
  | some a =>
    dsimp only at h
    by_cases hk : (mK M a).1 = ci
    · rw [if_pos hk] at h
      refine wt_putG hf hfin hc (M' := sR M a k v) hk (by rw [ht]; cases v <;> rfl) (by rw [ht]; cases v <;> rfl) rfl rfl (fun b hb => ⟨rfl, rfl, funext fun j => by rw [mR_sR, if_neg (fun z => hb z.1)]⟩) (fun j => ?_) (kk _ h)
      by_cases e : j = k
      · subst e
        rw [if_pos rfl, ht]
        simp [vOf, mR_sR]
      · rw [if_neg e]
        unfold vOf
        split <;> simp [mR_sR, mK_sR, e, mI_sL, mI_sR, mL_sI, mL_sR, mR_sI, mR_sL]
    · rw [if_neg hk] at h
      cases h
theorem wt_putFR {r : Option Nat} {idx ci k : Nat} {v : Option Nat} {C : String} {cont : Mm → Option ρ} (hc : decode J.2.1 pc = .ok (.putfield idx, 3)) (hf : FFk J.1.cls idx ci k) (hinit : J.1.name = "<init>") (ht : tyC ci k = .object C) (h : pfR M r ci k v cont = some ans) (kk : ∀ M', cont M' = some ans → Wt G X J B (pc + 3) ls st M' u w) : Wt G X J B pc ls (rf G.1 v :: rf G.1 r :: st) M u w := by
  unfold pfR at h
  cases r with
  | none => cases h
  | some a =>
    dsimp only at h
    by_cases hk : (mK M a).1 = ci
    · rw [if_pos hk] at h
      refine wt_putFG hf hinit hc (M' := sR M a k v) hk (by rw [ht]; cases v <;> rfl) (by rw [ht]; cases v <;> rfl) rfl rfl (fun b hb => ⟨rfl, rfl, funext fun j => by rw [mR_sR, if_neg (fun z => hb z.1)]⟩) (fun j => ?_) (kk _ h)
      by_cases e : j = k
      · subst e
        rw [if_pos rfl, ht]
        simp [vOf, mR_sR]
      · rw [if_neg e]
        unfold vOf
        split <;> simp [mR_sR, mK_sR, e, mI_sL, mI_sR, mL_sI, mL_sR, mR_sI, mR_sL]
    · rw [if_neg hk] at h
      cases h
theorem wt_putFA {r : Option Nat} {idx ci k : Nat} {v : Option Nat} {C : FieldType} {cont : Mm → Option ρ} (hc : decode J.2.1 pc = .ok (.putfield idx, 3)) (hf : FFk J.1.cls idx ci k) (hinit : J.1.name = "<init>") (ht : tyC ci k = .array C) (h : pfR M r ci k v cont = some ans) (kk : ∀ M', cont M' = some ans → Wt G X J B (pc + 3) ls st M' u w) : Wt G X J B pc ls (rf G.1 v :: rf G.1 r :: st) M u w := by
  unfold pfR at h
  cases r with
  | none => cases h
  | some a =>
    dsimp only at h
    by_cases hk : (mK M a).1 = ci
    · rw [if_pos hk] at h
      refine wt_putFG hf hinit hc (M' := sR M a k v) hk (by rw [ht]; cases v <;> rfl) (by rw [ht]; cases v <;> rfl) rfl rfl (fun b hb => ⟨rfl, rfl, funext fun j => by rw [mR_sR, if_neg (fun z => hb z.1)]⟩) (fun j => ?_) (kk _ h)
      by_cases e : j = k
      · subst e
        rw [if_pos rfl, ht]
        simp [vOf, mR_sR]
      · rw [if_neg e]
        unfold vOf
        split <;> simp [mR_sR, mK_sR, e, mI_sL, mI_sR, mL_sI, mL_sR, mR_sI, mR_sL]
    · rw [if_neg hk] at h
      cases h
theorem wt_iaload {r : Option Nat} {kd : Nat} {i : Int32} {cont : Int32 → Option ρ} (hc : decode J.2.1 pc = .ok (.iaload, 1)) (hkd : kT kd = some .int) (hkn : kd = 21) (h : alI M r kd i cont = some ans) (kk : ∀ v, cont v = some ans → Wt G X J B (pc + 1) ls (.int v :: st) M u w) : Wt G X J B pc ls (.int i :: rf G.1 r :: st) M u w := by
  unfold alI at h
  cases r with
  | none => cases h
  | some a =>
    dsimp only at h
    by_cases hk : (mK M a).1 = kd ∧ ¬ (i < 0 ∨ (mK M a).2 ≤ i.toNatClampNeg)
    · rw [if_pos hk] at h
      have K := kk _ h
      obtain ⟨p, l, e, R, s, m, args, below, meth, c, Q⟩ := X
      intro F H locs la hR hS hl
      have K := K F H locs la hR hS hl
      obtain ⟨hx, hb, hml, hown, hts, hKo, -⟩ := F
      have hcell := hR.arr hk.1 hkd
      have hlt : i.toNatClampNeg < (mK M a).2 := Nat.not_le.mp fun q => hk.2 (Or.inr q)
      exact W.iald (v := .int (mI M a i.toNatClampNeg)) hx hb hcell ((hKo.2.1 kd _ hkd).1 _ _) (fun q => by cases q) (by rw [arrV_size]; exact hk.2) (by rw [arrV_read _ _ hlt]; simp [aV, hkn]) rfl rfl hc K
    · rw [if_neg hk] at h
      cases h
theorem wt_baload {r : Option Nat} {kd : Nat} {i : Int32} {cont : Int32 → Option ρ} (hc : decode J.2.1 pc = .ok (.baload, 1)) (hkd : kT kd = some .byte) (hkn : kd = 20) (h : alI M r kd i cont = some ans) (kk : ∀ v, cont v = some ans → Wt G X J B (pc + 1) ls (.int v :: st) M u w) : Wt G X J B pc ls (.int i :: rf G.1 r :: st) M u w := by
  unfold alI at h
  cases r with
  | none => cases h
  | some a =>
    dsimp only at h
    by_cases hk : (mK M a).1 = kd ∧ ¬ (i < 0 ∨ (mK M a).2 ≤ i.toNatClampNeg)
    · rw [if_pos hk] at h
      have K := kk _ h
      obtain ⟨p, l, e, R, s, m, args, below, meth, c, Q⟩ := X
      intro F H locs la hR hS hl
      have K := K F H locs la hR hS hl
      obtain ⟨hx, hb, hml, hown, hts, hKo, -⟩ := F
      have hcell := hR.arr hk.1 hkd
      have hlt : i.toNatClampNeg < (mK M a).2 := Nat.not_le.mp fun q => hk.2 (Or.inr q)
      exact W.bald (v := .int (mI M a i.toNatClampNeg)) hx hb hcell ((hKo.2.1 kd _ hkd).1 _ _) (fun q => by cases q) (by rw [arrV_size]; exact hk.2) (by rw [arrV_read _ _ hlt]; simp [aV, hkn]) rfl rfl hc K
    · rw [if_neg hk] at h
      cases h
theorem wt_laload {r : Option Nat} {kd : Nat} {i : Int32} {cont : Int64 → Option ρ} (hc : decode J.2.1 pc = .ok (.laload, 1)) (hkd : kT kd = some .long) (hkn : kd = 22) (h : alL M r kd i cont = some ans) (kk : ∀ v, cont v = some ans → Wt G X J B (pc + 1) ls (.long v :: st) M u w) : Wt G X J B pc ls (.int i :: rf G.1 r :: st) M u w := by
  unfold alL at h
  cases r with
  | none => cases h
  | some a =>
    dsimp only at h
    by_cases hk : (mK M a).1 = kd ∧ ¬ (i < 0 ∨ (mK M a).2 ≤ i.toNatClampNeg)
    · rw [if_pos hk] at h
      have K := kk _ h
      obtain ⟨p, l, e, R, s, m, args, below, meth, c, Q⟩ := X
      intro F H locs la hR hS hl
      have K := K F H locs la hR hS hl
      obtain ⟨hx, hb, hml, hown, hts, hKo, -⟩ := F
      have hcell := hR.arr hk.1 hkd
      have hlt : i.toNatClampNeg < (mK M a).2 := Nat.not_le.mp fun q => hk.2 (Or.inr q)
      exact W.lald (v := .long (mL M a i.toNatClampNeg)) hx hb hcell ((hKo.2.1 kd _ hkd).1 _ _) (fun q => by cases q) (by rw [arrV_size]; exact hk.2) (by rw [arrV_read _ _ hlt]; simp [aV, hkn]) rfl rfl hc K
    · rw [if_neg hk] at h
      cases h
theorem wt_aaload {r : Option Nat} {kd : Nat} {i : Int32} {C : FieldType} {cont : Option Nat → Option ρ} (hc : decode J.2.1 pc = .ok (.aaload, 1)) (hkd : kT kd = some C) (hrf : C.isReference = true) (hkn : ¬ kd = 22 ∧ ¬ kd ≤ 21) (h : alR M r kd i cont = some ans) (kk : ∀ v, cont v = some ans → Wt G X J B (pc + 1) ls (rf G.1 v :: st) M u w) : Wt G X J B pc ls (.int i :: rf G.1 r :: st) M u w := by
  unfold alR at h
  cases r with
  | none => cases h
  | some a =>
    dsimp only at h
    by_cases hk : (mK M a).1 = kd ∧ ¬ (i < 0 ∨ (mK M a).2 ≤ i.toNatClampNeg)
    · rw [if_pos hk] at h
      have K := kk _ h
      obtain ⟨p, l, e, R, s, m, args, below, meth, c, Q⟩ := X
      intro F H locs la hR hS hl
      have K := K F H locs la hR hS hl
      obtain ⟨hx, hb, hml, hown, hts, hKo, -⟩ := F
      have hcell := hR.arr hk.1 hkd
      have hlt : i.toNatClampNeg < (mK M a).2 := Nat.not_le.mp fun q => hk.2 (Or.inr q)
      exact W.aald (v := rf G.1 (mR M a i.toNatClampNeg)) hx hb hcell ((hKo.2.1 kd _ hkd).1 _ _) hrf (fun q => by cases q) (by rw [arrV_size]; exact hk.2) (by rw [arrV_read _ _ hlt]; simp [aV, hkn]) rfl rfl hc K
    · rw [if_neg hk] at h
      cases h
theorem wt_iastore {r : Option Nat} {kd : Nat} {i : Int32} {v : Int32} {cont : Mm → Option ρ} (hc : decode J.2.1 pc = .ok (.iastore, 1)) (hkd : kT kd = some .int) (hkn : kd = 21) (h : asI M r kd i v cont = some ans) (kk : ∀ M', cont M' = some ans → Wt G X J B (pc + 1) ls st M' u w) : Wt G X J B pc ls (.int v :: .int i :: rf G.1 r :: st) M u w := by
  unfold asI at h
  cases r with
  | none => cases h
  | some a =>
    dsimp only at h
    by_cases hk : (mK M a).1 = kd ∧ ¬ (i < 0 ∨ (mK M a).2 ≤ i.toNatClampNeg)
    · rw [if_pos hk] at h
      have K := kk _ h
      obtain ⟨p, l, e, R, s, m, args, below, meth, c, Q⟩ := X
      intro F H locs la hR hS hl
      have K := K F
      obtain ⟨hx, hb, hml, hown, hts, hKo, -⟩ := F
      have hcell := hR.arr hk.1 hkd
      have haT : a < mT M := hR.lt (by rw [hk.1, hkn]; decide)
      refine W.iast hx hb hcell ((hKo.2.1 kd _ hkd).1 _ _) (fun q => by cases q) (by rw [arrV_size]; exact hk.2) rfl rfl hc fun H1 e1 z oq => ?_
      refine K H1 _ la (hR.put haT rfl rfl (fun b hb => ⟨funext fun j => by rw [mI_sI, if_neg (fun z => hb z.1)], rfl, rfl⟩) z oq ⟨fun hlt => ?_, fun ty ht => ?_⟩) (hS.put z oq (Nat.le_add_right _ _)) hl
      · exact absurd hlt (by rw [mK_sI, hk.1, hkn]; decide)
      · rw [e1, mK_sI, hk.1, arrV_store]
        congr 2
        funext j
        by_cases ej : j = i.toNatClampNeg
        · subst ej
          simp [updV, aV, hkn, mI_sI, narrow]
        · simp [updV, aV, hkn, mI_sI, ej]
    · rw [if_neg hk] at h
      cases h
theorem wt_bastore {r : Option Nat} {kd : Nat} {i : Int32} {v : Int32} {cont : Mm → Option ρ} (hc : decode J.2.1 pc = .ok (.bastore, 1)) (hkd : kT kd = some .byte) (hkn : kd = 20) (h : asB M r kd i v cont = some ans) (kk : ∀ M', cont M' = some ans → Wt G X J B (pc + 1) ls st M' u w) : Wt G X J B pc ls (.int v :: .int i :: rf G.1 r :: st) M u w := by
  unfold asB at h
  cases r with
  | none => cases h
  | some a =>
    dsimp only at h
    by_cases hk : (mK M a).1 = kd ∧ ¬ (i < 0 ∨ (mK M a).2 ≤ i.toNatClampNeg)
    · rw [if_pos hk] at h
      have K := kk _ h
      obtain ⟨p, l, e, R, s, m, args, below, meth, c, Q⟩ := X
      intro F H locs la hR hS hl
      have K := K F
      obtain ⟨hx, hb, hml, hown, hts, hKo, -⟩ := F
      have hcell := hR.arr hk.1 hkd
      have haT : a < mT M := hR.lt (by rw [hk.1, hkn]; decide)
      refine W.bast hx hb hcell ((hKo.2.1 kd _ hkd).1 _ _) (fun q => by cases q) (by rw [arrV_size]; exact hk.2) rfl rfl hc fun H1 e1 z oq => ?_
      refine K H1 _ la (hR.put haT rfl rfl (fun b hb => ⟨funext fun j => by rw [mI_sI, if_neg (fun z => hb z.1)], rfl, rfl⟩) z oq ⟨fun hlt => ?_, fun ty ht => ?_⟩) (hS.put z oq (Nat.le_add_right _ _)) hl
      · exact absurd hlt (by rw [mK_sI, hk.1, hkn]; decide)
      · rw [e1, mK_sI, hk.1, arrV_store]
        congr 2
        funext j
        by_cases ej : j = i.toNatClampNeg
        · subst ej
          simp [updV, aV, hkn, mI_sI, narrow]
        · simp [updV, aV, hkn, mI_sI, ej]
    · rw [if_neg hk] at h
      cases h
theorem wt_lastore {r : Option Nat} {kd : Nat} {i : Int32} {v : Int64} {cont : Mm → Option ρ} (hc : decode J.2.1 pc = .ok (.lastore, 1)) (hkd : kT kd = some .long) (hkn : kd = 22) (h : asL M r kd i v cont = some ans) (kk : ∀ M', cont M' = some ans → Wt G X J B (pc + 1) ls st M' u w) : Wt G X J B pc ls (.long v :: .int i :: rf G.1 r :: st) M u w := by
  unfold asL at h
  cases r with
  | none => cases h
  | some a =>
    dsimp only at h
    by_cases hk : (mK M a).1 = kd ∧ ¬ (i < 0 ∨ (mK M a).2 ≤ i.toNatClampNeg)
    · rw [if_pos hk] at h
      have K := kk _ h
      obtain ⟨p, l, e, R, s, m, args, below, meth, c, Q⟩ := X
      intro F H locs la hR hS hl
      have K := K F
      obtain ⟨hx, hb, hml, hown, hts, hKo, -⟩ := F
      have hcell := hR.arr hk.1 hkd
      have haT : a < mT M := hR.lt (by rw [hk.1, hkn]; decide)
      refine W.last hx hb hcell ((hKo.2.1 kd _ hkd).1 _ _) (fun q => by cases q) (by rw [arrV_size]; exact hk.2) rfl rfl hc fun H1 e1 z oq => ?_
      refine K H1 _ la (hR.put haT rfl rfl (fun b hb => ⟨rfl, funext fun j => by rw [mL_sL, if_neg (fun z => hb z.1)], rfl⟩) z oq ⟨fun hlt => ?_, fun ty ht => ?_⟩) (hS.put z oq (Nat.le_add_right _ _)) hl
      · exact absurd hlt (by rw [mK_sL, hk.1, hkn]; decide)
      · rw [e1, mK_sL, hk.1, arrV_store]
        congr 2
        funext j
        by_cases ej : j = i.toNatClampNeg
        · subst ej
          simp [updV, aV, hkn, mL_sL, narrow]
        · simp [updV, aV, hkn, mL_sL, ej]
    · rw [if_neg hk] at h
      cases h
theorem wt_aastore {r : Option Nat} {kd ci : Nat} {q : vw_C} {i : Int32} {v : Option Nat} {cont : Mm → Option ρ} (hc : decode J.2.1 pc = .ok (.aastore, 1)) (hq : vwCl[ci]? = some q) (hkd : kT kd = some (.object q.1)) (hkn : 22 < kd) (h : asR M r kd ci i v cont = some ans) (kk : ∀ M', cont M' = some ans → Wt G X J B (pc + 1) ls st M' u w) : Wt G X J B pc ls (rf G.1 v :: .int i :: rf G.1 r :: st) M u w := by
  unfold asR at h
  cases r with
  | none => cases h
  | some a =>
    cases v with
    | none => cases h
    | some b =>
      dsimp only at h
      by_cases hk : (mK M a).1 = kd ∧ (mK M b).1 = ci ∧ ¬ (i < 0 ∨ (mK M a).2 ≤ i.toNatClampNeg)
      · rw [if_pos hk] at h
        have K := kk _ h
        obtain ⟨p, l, e, R, s, m, args, below, meth, c, Q⟩ := X
        intro F H locs la hR hS hl
        have K := K F
        obtain ⟨hx, hb, hml, hown, hts, hKo, -⟩ := F
        have hcell := hR.arr hk.1 hkd
        have h0 : ¬ i < 0 := fun z => hk.2.2 (Or.inl z)
        have hlt : i.toNatClampNeg < (mK M a).2 := Nat.not_le.mp fun q => hk.2.2 (Or.inr q)
        have haT : a < mT M := hR.lt (by rw [hk.1]; intro z; rw [z] at hkd; cases hkd)
        obtain ⟨hci, -⟩ := clsOK ci q hq
        obtain ⟨cellV, g1, g2, g3, -⟩ := hR.obj hk.2.1 hci
        have hcls := (hKo.1.1 ci q hq).2
        obtain ⟨kA, comp, k1, k2, k3, -⟩ := (hKo.2.1 kd _ hkd).2
        have hcomp : comp = G.2.1.1 ci := Option.some.inj (k3.symm.trans hcls.1)
        subst hcomp
        obtain ⟨kC, hkC, -⟩ := hcls.2
        refine W.aast hx hb hcell (fun q h => by cases h) (fun h => by cases h) k1 k2 rfl hkC ⟨h0, by rw [arrV_size]; exact hlt⟩ g1 (fun q h => by rw [g3] at h; cases h) (by rw [g2]; exact hkC) (by rw [g2]; exact va_assign hcls) rfl rfl hc fun H1 e1 z oq => ?_
        refine K H1 _ la (hR.put haT rfl rfl (fun b hb => ⟨rfl, rfl, funext fun j => by rw [mR_sR, if_neg (fun z => hb z.1)]⟩) z oq ⟨fun hlt => ?_, fun ty ht => ?_⟩) (hS.put z oq (Nat.le_add_right _ _)) hl
        · exact absurd hlt (by rw [mK_sR, hk.1]; omega)
        · rw [e1, mK_sR, hk.1, arrV_store]
          congr 2
          funext j
          by_cases ej : j = i.toNatClampNeg
          · subst ej
            simp [updV, aV, mR_sR, rf, show ¬ kd = 22 by omega, show ¬ kd ≤ 21 by omega]
          · simp [updV, aV, mR_sR, ej, show ¬ kd = 22 by omega, show ¬ kd ≤ 21 by omega]
      · rw [if_neg hk] at h
        cases h
end WtF

/-! YEARS: the pure reader -/
def SR {β : Type} (x : Sum (Nat × Nat) (Nat × (Nat → Nat → Int32))) (f : Nat → (Nat → Nat → Int32) → Sum (Nat × Nat) β) : Sum (Nat × Nat) β := match x with
  | .inl e => .inl e
  | .inr (t, R) => f t R
theorem SR_l {β : Type} {e : Nat × Nat} {f : Nat → (Nat → Nat → Int32) → Sum (Nat × Nat) β} : SR (.inl e) f = .inl e := rfl
theorem SR_r {β : Type} {t : Nat} {R : Nat → Nat → Int32} {f : Nat → (Nat → Nat → Int32) → Sum (Nat × Nat) β} : SR (.inr (t, R)) f = f t R := rfl
theorem SR_i {β : Type} {x : Sum (Nat × Nat) (Nat × (Nat → Nat → Int32))} {f : Nat → (Nat → Nat → Int32) → Sum (Nat × Nat) β} {r : β} (h : SR x f = .inr r) : ∃ t R, x = .inr (t, R) ∧ f t R = .inr r := by
  rcases x with e | ⟨t, R⟩
  · cases h
  · exact ⟨t, R, rfl, h⟩
/-- a when or a loop -/
def opB (t : Int32) : Bool := decide (t = nI 24 ∨ t = nI 27)
def yCnt (cd : Nat → Nat) (n hi s r : Nat) (R : Nat → Nat → Int32) : Sum (Nat × Nat) (Nat × (Nat → Nat → Int32)) := Sp (tN cd n 1 hi s) fun v t => .inr (t, u2 R 2 r (nI v))
def yTest (cd : Nat → Nat) (n : Nat) (nm : Nat → List Nat) (hc s r : Nat) (R : Nat → Nat → Int32) : Sum (Nat × Nat) (Nat × (Nat → Nat → Int32)) := if tkW cd n s = nI 25 ∨ tkW cd n s = nI 26 then Sp (tNm cd n nm 0 hc (nx cd n s)) (fun v t => .inr (t, u2 (u2 R 3 r (tkW cd n s)) 2 r (nI v))) else Sb (tW cd n 2 s) fun t1 => if tkK cd n t1 = 4 ∧ ¬ cd t1 = 59 then Sp (tN cd n 0 9999 (nx cd n t1)) (fun v t => .inr (t, u2 (u2 (u2 R 3 r (tkW cd n s)) 4 r (nI (cd t1))) 2 r (nI v))) else .inl (fK cd n t1 2)
def yLift (cd : Nat → Nat) (n : Nat) (nm : Nat → List Nat) (hc gc s r : Nat) (R : Nat → Nat → Int32) : Sum (Nat × Nat) (Nat × (Nat → Nat → Int32)) := Sp (tNm cd n nm 0 hc s) fun v1 t1 => Sb (tW cd n 23 t1) fun t2 => Sp (tNm cd n nm 8 gc t2) fun v2 t3 => .inr (t3, u2 (u2 R 2 r (nI v1)) 3 r (nI v2))
def yGang (cd : Nat → Nat) (n : Nat) (nm : Nat → List Nat) (gc s r : Nat) (R : Nat → Nat → Int32) : Sum (Nat × Nat) (Nat × (Nat → Nat → Int32)) := Sp (tNm cd n nm 8 gc s) fun v t => .inr (t, u2 R 3 r (nI v))
def yRest (cd : Nat → Nat) (n : Nat) (nm : Nat → List Nat) (hc gc : Nat) (kw : Int32) (s r : Nat) (R : Nat → Nat → Int32) : Sum (Nat × Nat) (Nat × (Nat → Nat → Int32)) := if kw = nI 18 then yCnt cd n 240 s r R else if kw = nI 21 then yGang cd n nm gc s r R else if kw = nI 22 then yLift cd n nm hc gc s r R else if kw = nI 24 then yTest cd n nm hc s r R else if kw = nI 27 then yCnt cd n 99 s r R else .inr (s, R)
/-- a step, or an end, ahead of its semicolon: steps, depth, what is open, rows, token -/
def yHead (cd : Nat → Nat) (n : Nat) (nm : Nat → List Nat) (hc gc k r dp : Nat) (op : Nat → Nat) (R : Nat → Nat → Int32) (s : Nat) : Sum (Nat × Nat) (Nat × Nat × (Nat → Nat) × (Nat → Nat → Int32) × Nat) := if tkW cd n s = nI 28 then (if dp = 0 then .inl (2, s) else .inr (k, dp - 1, op, u2 (u2 (u2 R 1 r 28) 5 r (nI (op (dp - 1)))) 5 (op (dp - 1)) (nI r), nx cd n s)) else if 0 ≤ swV (tkW cd n s) then (if k = 30 then .inl (6, s) else if opB (tkW cd n s) = true ∧ dp = 3 then .inl (7, s) else SR (yRest cd n nm hc gc (tkW cd n s) (nx cd n s) r (u2 R 1 r (tkW cd n s))) fun t R' => .inr (k + 1, (if opB (tkW cd n s) = true then dp + 1 else dp), (if opB (tkW cd n s) = true then (fun j => if j = dp then r else op j) else op), R', t)) else .inl (fK cd n s 2)
/-- the years' text -/
def rdY (cd : Nat → Nat) (n : Nat) (nm : Nat → List Nat) (hc gc : Nat) : Nat → Nat → Nat → Nat → (Nat → Nat) → (Nat → Nat → Int32) → Nat → Sum (Nat × Nat) (Nat × Nat × (Nat → Nat → Int32))
  | 0, k, r, _, _, R, _ => .inr (k, r, R)
  | f + 1, k, r, dp, op, R, s => if tkK cd n s = 0 then (if dp = 0 then .inr (k, r, R) else .inl (2, s)) else match yHead cd n nm hc gc k r dp op R s with
    | .inl e => .inl e
    | .inr (k', dp', op', R', t) => match tSm cd n t with
      | .inl e => .inl e
      | .inr u => rdY cd n nm hc gc f k' (r + 1) dp' op' R' u
section P
variable {cd : Nat → Nat} {n hc gc k r dp s t u k' r' dp' : Nat} {nm : Nat → List Nat} {op op' : Nat → Nat} {R R' : Nat → Nat → Int32} {kw : Int32} {e : Nat × Nat}
theorem tNm_ge' {a m v : Nat} (e : tNm cd n nm a m s = .inr (v, t)) : s ≤ t := by
  rw [(tNm_lt e).2]
  exact nx_ge _ _ _
theorem yCnt_ge {hi : Nat} (e : yCnt cd n hi s r R = .inr (t, R')) : s ≤ t := by
  unfold yCnt at e
  obtain ⟨v, t', e1, e2⟩ := Sp_i e
  injection e2 with e2
  rw [← (Prod.mk.inj e2).1]
  exact tN_ge e1
theorem yGang_ge (e : yGang cd n nm gc s r R = .inr (t, R')) : s ≤ t := by
  unfold yGang at e
  obtain ⟨v, t', e1, e2⟩ := Sp_i e
  injection e2 with e2
  rw [← (Prod.mk.inj e2).1]
  exact tNm_ge' e1
theorem yLift_ge (e : yLift cd n nm hc gc s r R = .inr (t, R')) : s ≤ t := by
  unfold yLift at e
  obtain ⟨v, t', e1, e⟩ := Sp_i e
  obtain ⟨t2, e2, e⟩ := Sb_i e
  obtain ⟨v3, t3, e3, e⟩ := Sp_i e
  injection e with e
  rw [← (Prod.mk.inj e).1]
  exact Nat.le_trans (tNm_ge' e1) (Nat.le_trans (tW_ge e2) (tNm_ge' e3))
theorem yTest_ge (e : yTest cd n nm hc s r R = .inr (t, R')) : s ≤ t := by
  unfold yTest at e
  by_cases q : tkW cd n s = nI 25 ∨ tkW cd n s = nI 26
  · rw [if_pos q] at e
    obtain ⟨v, t', e1, e⟩ := Sp_i e
    injection e with e
    rw [← (Prod.mk.inj e).1]
    exact Nat.le_trans (nx_ge _ _ _) (tNm_ge' e1)
  · rw [if_neg q] at e
    obtain ⟨t1, e1, e⟩ := Sb_i e
    by_cases q2 : tkK cd n t1 = 4 ∧ ¬ cd t1 = 59
    · rw [if_pos q2] at e
      obtain ⟨v, t', e2, e⟩ := Sp_i e
      injection e with e
      rw [← (Prod.mk.inj e).1]
      exact Nat.le_trans (tW_ge e1) (Nat.le_trans (nx_ge _ _ _) (tN_ge e2))
    · rw [if_neg q2] at e
      cases e
theorem yRest_ge (e : yRest cd n nm hc gc kw s r R = .inr (t, R')) : s ≤ t := by
  unfold yRest at e
  by_cases q : kw = nI 18
  · rw [if_pos q] at e; exact yCnt_ge e
  rw [if_neg q] at e
  by_cases q : kw = nI 21
  · rw [if_pos q] at e; exact yGang_ge e
  rw [if_neg q] at e
  by_cases q : kw = nI 22
  · rw [if_pos q] at e; exact yLift_ge e
  rw [if_neg q] at e
  by_cases q : kw = nI 24
  · rw [if_pos q] at e; exact yTest_ge e
  rw [if_neg q] at e
  by_cases q : kw = nI 27
  · rw [if_pos q] at e; exact yCnt_ge e
  rw [if_neg q] at e
  injection e with e
  rw [(Prod.mk.inj e).1]
  exact Nat.le_refl _
/-- what the class's rows keep -/
def yI (k r dp : Nat) (op : Nat → Nat) : Prop := k ≤ 30 ∧ dp ≤ 3 ∧ r + dp ≤ 2 * k ∧ ∀ j, j < dp → op j < r
theorem yHead_ok (I : yI k r dp op) (e : yHead cd n nm hc gc k r dp op R s = .inr (k', dp', op', R', t)) : yI k' (r + 1) dp' op' ∧ s ≤ t := by
  obtain ⟨i1, i2, i3, i4⟩ := I
  have a0 := nx_ge cd n s
  unfold yHead at e
  by_cases q : tkW cd n s = nI 28
  · rw [if_pos q] at e
    by_cases d : dp = 0
    · rw [if_pos d] at e
      cases e
    · rw [if_neg d] at e
      injection e with e
      obtain ⟨y1, e⟩ := Prod.mk.inj e
      obtain ⟨y2, e⟩ := Prod.mk.inj e
      obtain ⟨y3, e⟩ := Prod.mk.inj e
      obtain ⟨y4, y5⟩ := Prod.mk.inj e
      subst y1
      subst y2
      subst y3
      subst y5
      refine ⟨⟨i1, by omega, by omega, fun j hj => ?_⟩, a0⟩
      have := i4 j (by omega)
      omega
  rw [if_neg q] at e
  by_cases q2 : 0 ≤ swV (tkW cd n s)
  · rw [if_pos q2] at e
    by_cases q3 : k = 30
    · rw [if_pos q3] at e
      cases e
    rw [if_neg q3] at e
    by_cases q4 : opB (tkW cd n s) = true ∧ dp = 3
    · rw [if_pos q4] at e
      cases e
    rw [if_neg q4] at e
    obtain ⟨t1, R1, e1, e⟩ := SR_i e
    have a1 := yRest_ge e1
    injection e with e
    obtain ⟨y1, e⟩ := Prod.mk.inj e
    obtain ⟨y2, e⟩ := Prod.mk.inj e
    obtain ⟨y3, e⟩ := Prod.mk.inj e
    obtain ⟨y4, y5⟩ := Prod.mk.inj e
    subst y1
    subst y5
    by_cases o : opB (tkW cd n s) = true
    · rw [if_pos o] at y2
      rw [if_pos o] at y3
      have d3 : ¬ dp = 3 := fun z => q4 ⟨o, z⟩
      subst y2
      subst y3
      refine ⟨⟨by omega, by omega, by omega, fun j hj => ?_⟩, by omega⟩
      show (if j = dp then r else op j) < r + 1
      by_cases z : j = dp
      · rw [if_pos z]
        omega
      · rw [if_neg z]
        have := i4 j (by omega)
        omega
    · rw [if_neg o] at y2
      rw [if_neg o] at y3
      subst y2
      subst y3
      refine ⟨⟨by omega, by omega, by omega, fun j hj => ?_⟩, by omega⟩
      have := i4 j (by omega)
      omega
  · rw [if_neg q2] at e
    cases e
theorem u2_s (f : Nat → Nat → Int32) (a k : Nat) (v : Int32) : u2 f a k v a k = v := if_pos ⟨rfl, rfl⟩
theorem u2_o {f : Nat → Nat → Int32} {a k a' k' : Nat} {v : Int32} (h : ¬ (a' = a ∧ k' = k)) : u2 f a k v a' k' = f a' k' := if_neg h
/-- the rest of a step writes into its own row -/
theorem yRest_o (e : yRest cd n nm hc gc kw s r R = .inr (t, R')) : ∀ j x, x ≠ r → R' j x = R j x := by
  intro j x hx
  have c1 : ∀ hi, yCnt cd n hi s r R = .inr (t, R') → R' j x = R j x := fun hi e => by
    unfold yCnt at e
    obtain ⟨v, t', e1, e⟩ := Sp_i e
    injection e with e
    rw [← (Prod.mk.inj e).2]
    exact u2_o (fun y => hx y.2)
  unfold yRest at e
  by_cases q : kw = nI 18
  · rw [if_pos q] at e; exact c1 _ e
  rw [if_neg q] at e
  by_cases q : kw = nI 21
  · rw [if_pos q] at e
    unfold yGang at e
    obtain ⟨v, t', e1, e⟩ := Sp_i e
    injection e with e
    rw [← (Prod.mk.inj e).2]
    exact u2_o (fun y => hx y.2)
  rw [if_neg q] at e
  by_cases q : kw = nI 22
  · rw [if_pos q] at e
    unfold yLift at e
    obtain ⟨v, t', e1, e⟩ := Sp_i e
    obtain ⟨t2, e2, e⟩ := Sb_i e
    obtain ⟨v3, t3, e3, e⟩ := Sp_i e
    injection e with e
    rw [← (Prod.mk.inj e).2, u2_o (fun y => hx y.2), u2_o (fun y => hx y.2)]
  rw [if_neg q] at e
  by_cases q : kw = nI 24
  · rw [if_pos q] at e
    unfold yTest at e
    by_cases q2 : tkW cd n s = nI 25 ∨ tkW cd n s = nI 26
    · rw [if_pos q2] at e
      obtain ⟨v, t', e1, e⟩ := Sp_i e
      injection e with e
      rw [← (Prod.mk.inj e).2, u2_o (fun y => hx y.2), u2_o (fun y => hx y.2)]
    · rw [if_neg q2] at e
      obtain ⟨t1, e1, e⟩ := Sb_i e
      by_cases q3 : tkK cd n t1 = 4 ∧ ¬ cd t1 = 59
      · rw [if_pos q3] at e
        obtain ⟨v, t', e2, e⟩ := Sp_i e
        injection e with e
        rw [← (Prod.mk.inj e).2, u2_o (fun y => hx y.2), u2_o (fun y => hx y.2), u2_o (fun y => hx y.2)]
      · rw [if_neg q3] at e
        cases e
  rw [if_neg q] at e
  by_cases q : kw = nI 27
  · rw [if_pos q] at e; exact c1 _ e
  rw [if_neg q] at e
  injection e with e
  rw [(Prod.mk.inj e).2]
end P

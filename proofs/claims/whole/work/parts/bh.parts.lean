/-! TEXTS: a part of a shore's text; it goes on -/
theorem nx_ge (cd : Nat → Nat) (n s : Nat) : s ≤ nx cd n s := Nat.le_trans (tkE_ge cd n s) (rnE_ge (q := qB cd) (n := n) fu (tkE cd n s))
theorem tkE_gt {cd : Nat → Nat} {n s : Nat} (h : s < n) : s < tkE cd n s := by
  unfold tkE
  rw [if_neg (by omega)]
  by_cases h1 : qL cd s = true
  · rw [if_pos h1]; exact rnE_s (q := qL cd) ⟨h, h1⟩ 65535
  · rw [if_neg h1]
    by_cases h2 : qD cd s = true
    · rw [if_pos h2]; exact rnE_s (q := qD cd) ⟨h, h2⟩ 65535
    · rw [if_neg h2]; omega
theorem nx_gt {cd : Nat → Nat} {n s : Nat} (h : tkK cd n s ≠ 0) : s < nx cd n s := Nat.lt_of_lt_of_le (tkE_gt (tkK_s h)) (rnE_ge (q := qB cd) (n := n) fu (tkE cd n s))
theorem Sb_i {α β : Type} {x : Sum (Nat × Nat) α} {f : α → Sum (Nat × Nat) β} {r : β} (h : Sb x f = .inr r) : ∃ a, x = .inr a ∧ f a = .inr r := by
  rcases x with e | a
  · cases h
  · exact ⟨a, rfl, h⟩
theorem Sp_i {β : Type} {x : Sum (Nat × Nat) (Nat × Nat)} {f : Nat → Nat → Sum (Nat × Nat) β} {r : β} (h : Sp x f = .inr r) : ∃ v t, x = .inr (v, t) ∧ f v t = .inr r := by
  rcases x with e | ⟨v, t⟩
  · cases h
  · exact ⟨v, t, rfl, h⟩
theorem S3_i {β : Type} {x : Sum (Nat × Nat) (Nat × Nat × Nat)} {f : Nat → Nat → Nat → Sum (Nat × Nat) β} {r : β} (h : S3 x f = .inr r) : ∃ v u t, x = .inr (v, u, t) ∧ f v u t = .inr r := by
  rcases x with e | ⟨v, u, t⟩
  · cases h
  · exact ⟨v, u, t, rfl, h⟩
section G
variable {cd : Nat → Nat} {n s t v w lo hi d h g k : Nat} {nm nm' : Nat → List Nat} {c c' : Nat → Int32}
theorem tW_ge (e : tW cd n w s = .inr t) : s ≤ t := by
  unfold tW at e
  by_cases q : tkW cd n s = nI w
  · rw [if_pos q] at e
    injection e with e
    rw [← e]
    exact nx_ge _ _ _
  · rw [if_neg q] at e
    cases e
theorem tN_ge (e : tN cd n lo hi s = .inr (v, t)) : s ≤ t := by
  unfold tN at e
  by_cases q : tkK cd n s = 3
  · rw [if_pos q] at e
    by_cases q2 : lo ≤ tkV cd n s ∧ tkV cd n s ≤ hi
    · rw [if_pos q2] at e
      injection e with e
      rw [← (Prod.mk.inj e).2]
      exact nx_ge _ _ _
    · rw [if_neg q2] at e
      cases e
  · rw [if_neg q] at e
    cases e
theorem tWN_ge (e : tWN cd n w lo hi s = .inr (v, t)) : s ≤ t := by
  unfold tWN at e
  rcases q : tW cd n w s with z | s'
  · rw [q] at e
    cases e
  · rw [q] at e
    exact Nat.le_trans (tW_ge q) (tN_ge e)
theorem tOp_ge (e : tOp cd n w lo hi d s = .inr (v, t)) : s ≤ t := by
  unfold tOp at e
  by_cases q : tkW cd n s = nI w
  · rw [if_pos q] at e
    exact tWN_ge e
  · rw [if_neg q] at e
    injection e with e
    rw [(Prod.mk.inj e).2]
    exact Nat.le_refl _
theorem tNew_ge (e : tNew cd n nm h g w s = .inr t) : s ≤ t := by
  unfold tNew at e
  by_cases q : isNm cd n s = true
  · rw [if_pos q] at e
    by_cases q2 : tkn nm h g w (tkL cd n s) = true
    · rw [if_pos q2] at e
      cases e
    · rw [if_neg q2] at e
      injection e with e
      rw [← e]
      exact nx_ge _ _ _
  · rw [if_neg q] at e
    cases e
theorem tNm_ge {a m : Nat} (e : tNm cd n nm a m s = .inr (v, t)) : s ≤ t := by
  rw [(tNm_lt e).2]
  exact nx_ge _ _ _
theorem rdH_ok (ok : dOK c) (e : rdH cd n c nm s = .inr (t, c', nm')) : s ≤ t ∧ dOK c' := by
  unfold rdH at e
  have h8 := (ok_h ok.1).2
  have a0 := nx_ge cd n s
  by_cases k8 : hN c = 8
  · rw [if_pos k8] at e
    cases e
  rw [if_neg k8] at e
  obtain ⟨s1, q1, e⟩ := Sb_i e
  obtain ⟨v1, s2, q2, e⟩ := Sp_i e
  obtain ⟨v2, s3, q3, e⟩ := Sp_i e
  obtain ⟨v3, s4, q4, e⟩ := Sp_i e
  obtain ⟨v4, s5, q5, e⟩ := Sp_i e
  obtain ⟨v5, v6, s6, q6, e⟩ := S3_i e
  unfold tLP at q6
  obtain ⟨u5, t5, p5, q6⟩ := Sp_i q6
  obtain ⟨u6, t6, p6, q6⟩ := Sp_i q6
  injection q6 with q6
  obtain ⟨x1, x2⟩ := Prod.mk.inj q6
  obtain ⟨x2, x3⟩ := Prod.mk.inj x2
  injection e with e
  obtain ⟨y1, y2⟩ := Prod.mk.inj e
  obtain ⟨y2, y3⟩ := Prod.mk.inj y2
  have b1 := tNew_ge q1
  have b2 := tWN_ge q2
  have b3 := tWN_ge q3
  have b4 := tWN_ge q4
  have b5 := tWN_ge q5
  have b6 := tOp_ge p5
  have b7 := tOp_ge p6
  have d5 := tOp_b p5 (by omega) (by omega)
  have d6 := tOp_b p6 (by omega) (by omega)
  refine ⟨by omega, ?_⟩
  rw [← y2]
  exact dOK_house ok rfl (by omega) (tWN_b q2).2 (tWN_b q3).2 (tWN_b q4) (tWN_b q5) (by omega) (by omega)
theorem rdG_ok (ok : dOK c) (e : rdG cd n c nm s = .inr (t, c', nm')) : s ≤ t ∧ dOK c' := by
  unfold rdG at e
  have g4 := (ok_g ok.1).2
  have a0 := nx_ge cd n s
  by_cases k8 : gN c = 4
  · rw [if_pos k8] at e
    cases e
  rw [if_neg k8] at e
  obtain ⟨s1, q1, e⟩ := Sb_i e
  obtain ⟨s2, q2, e⟩ := Sb_i e
  obtain ⟨v1, s3, q3, e⟩ := Sp_i e
  obtain ⟨v2, s4, q4, e⟩ := Sp_i e
  obtain ⟨v3, s5, q5, e⟩ := Sp_i e
  injection e with e
  obtain ⟨y1, y2⟩ := Prod.mk.inj e
  obtain ⟨y2, y3⟩ := Prod.mk.inj y2
  have b1 := tNew_ge q1
  have b2 := tW_ge q2
  have b3 := tNm_ge q3
  have b4 := tWN_ge q4
  have b5 := tOp_ge q5
  have d5 := tOp_b q5 (by omega) (by omega)
  refine ⟨by omega, ?_⟩
  rw [← y2]
  exact dOK_gang ok rfl (by omega) (tNm_lt q3).1 (tWN_b q4) (by omega)
theorem rdW_ok (ok : dOK c) (e : rdW cd n c nm s = .inr (t, c', nm')) : s ≤ t ∧ dOK c' := by
  unfold rdW at e
  have w6 := (ok_w ok.1).2
  have a0 := nx_ge cd n s
  by_cases k8 : wN c = 6
  · rw [if_pos k8] at e
    cases e
  rw [if_neg k8] at e
  obtain ⟨s1, q1, e⟩ := Sb_i e
  obtain ⟨v1, s2, q2, e⟩ := Sp_i e
  obtain ⟨v2, s3, q3, e⟩ := Sp_i e
  injection e with e
  obtain ⟨y1, y2⟩ := Prod.mk.inj e
  obtain ⟨y2, y3⟩ := Prod.mk.inj y2
  have b1 := tNew_ge q1
  have b2 := tN_ge q2
  have b3 := tWN_ge q3
  refine ⟨by omega, ?_⟩
  rw [← y2]
  exact dOK_wind ok rfl (by omega) (tN_b q2).2 (tWN_b q3)
theorem rdD_ok (ok : dOK c) (e : rdD cd n c nm s = .inr (t, c', nm')) : s ≤ t ∧ dOK c' := by
  unfold rdD at e
  have h8 := (ok_h ok.1).2
  have a0 := nx_ge cd n s
  obtain ⟨v1, s1, q1, e⟩ := Sp_i e
  obtain ⟨s2, q2, e⟩ := Sb_i e
  obtain ⟨v2, s3, q3, e⟩ := Sp_i e
  by_cases z : v2 = v1
  · rw [if_pos z] at e
    cases e
  rw [if_neg z] at e
  obtain ⟨v3, s4, q4, e⟩ := Sp_i e
  injection e with e
  obtain ⟨y1, y2⟩ := Prod.mk.inj e
  obtain ⟨y2, y3⟩ := Prod.mk.inj y2
  have b1 := tNm_ge q1
  have b2 := tW_ge q2
  have b3 := tNm_ge q3
  have b4 := tN_ge q4
  have d1 := (tNm_lt q1).1
  have d2 := (tNm_lt q3).1
  have d3 := (tN_b q4).2
  refine ⟨by omega, ?_⟩
  rw [← y2]
  exact dOK_sx ok (Or.inr ⟨by omega, by omega, by omega⟩)
theorem lwV_3 (t : Int32) (h : 0 ≤ lwV t) : ∃ v, v ≤ 3 ∧ lwV t = nI v := by
  unfold lwV at *
  by_cases q1 : t = nI 2
  · rw [if_pos q1]; exact ⟨0, by omega, rfl⟩
  rw [if_neg q1] at h ⊢
  by_cases q2 : t = nI 15
  · rw [if_pos q2]; exact ⟨1, by omega, rfl⟩
  rw [if_neg q2] at h ⊢
  by_cases q3 : t = nI 16
  · rw [if_pos q3]; exact ⟨2, by omega, rfl⟩
  rw [if_neg q3] at h ⊢
  by_cases q4 : t = nI 17
  · rw [if_pos q4]; exact ⟨3, by omega, rfl⟩
  rw [if_neg q4] at h
  exact absurd h (by decide)
theorem rdL_ok (ok : dOK c) (e : rdL cd n c nm s = .inr (t, c', nm')) : s ≤ t ∧ dOK c' := by
  unfold rdL at e
  have a0 := nx_ge cd n s
  have a1 := nx_ge cd n (nx cd n s)
  by_cases z : 0 ≤ lwV (tkW cd n (nx cd n s))
  · rw [if_pos z] at e
    injection e with e
    obtain ⟨y1, y2⟩ := Prod.mk.inj e
    obtain ⟨y2, y3⟩ := Prod.mk.inj y2
    obtain ⟨v, h1, h2⟩ := lwV_3 _ z
    refine ⟨by omega, ?_⟩
    rw [← y2, h2]
    exact dOK_sx ok (Or.inl ⟨rfl, h1⟩)
  · rw [if_neg z] at e
    cases e
/-- a part, by its first word -/
def rdP (cd : Nat → Nat) (n : Nat) (c : Nat → Int32) (nm : Nat → List Nat) (tl : Bool) (s : Nat) : Sum (Nat × Nat) (Nat × (Nat → Int32) × (Nat → List Nat)) := if tkW cd n s = nI 0 then rdH cd n c nm s else if tkW cd n s = nI 7 then rdG cd n c nm s else if tkW cd n s = nI 10 then rdD cd n c nm s else if tkW cd n s = nI 12 then rdW cd n c nm s else if tkW cd n s = nI 14 then (if tl = true then .inl (fK cd n s 5) else rdL cd n c nm s) else .inl (fK cd n s 2)
theorem rdP_ok {tl : Bool} (ok : dOK c) (e : rdP cd n c nm tl s = .inr (t, c', nm')) : s ≤ t ∧ dOK c' := by
  unfold rdP at e
  by_cases q1 : tkW cd n s = nI 0
  · rw [if_pos q1] at e
    exact rdH_ok ok e
  rw [if_neg q1] at e
  by_cases q2 : tkW cd n s = nI 7
  · rw [if_pos q2] at e
    exact rdG_ok ok e
  rw [if_neg q2] at e
  by_cases q3 : tkW cd n s = nI 10
  · rw [if_pos q3] at e
    exact rdD_ok ok e
  rw [if_neg q3] at e
  by_cases q4 : tkW cd n s = nI 12
  · rw [if_pos q4] at e
    exact rdW_ok ok e
  rw [if_neg q4] at e
  by_cases q5 : tkW cd n s = nI 14
  · rw [if_pos q5] at e
    by_cases q6 : tl = true
    · rw [if_pos q6] at e
      cases e
    · rw [if_neg q6] at e
      exact rdL_ok ok e
  · rw [if_neg q5] at e
    cases e
/-- the whole text -/
def rdA (cd : Nat → Nat) (n : Nat) : Nat → (Nat → Int32) → (Nat → List Nat) → Bool → Nat → Sum (Nat × Nat) ((Nat → Int32) × (Nat → List Nat))
  | 0, c, nm, _, _ => .inr (c, nm)
  | f + 1, c, nm, tl, s => if tkK cd n s = 0 then .inr (c, nm) else match rdP cd n c nm tl s with
    | .inl e => .inl e
    | .inr (t, c', nm') => match tSm cd n t with
      | .inl e => .inl e
      | .inr u => rdA cd n f c' nm' (tl || decide (tkW cd n s = nI 14)) u
theorem tSm_gt (e : tSm cd n s = .inr t) : s < t := by
  unfold tSm at e
  by_cases q : tkK cd n s = 4 ∧ cd s = 59
  · rw [if_pos q] at e
    injection e with e
    rw [← e]
    exact nx_gt (by omega)
  · rw [if_neg q] at e
    cases e
end G

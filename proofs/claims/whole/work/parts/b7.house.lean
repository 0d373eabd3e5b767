/-! TEXTS: the class reads a house -/
def Sb {α β : Type} (x : Sum (Nat × Nat) α) (f : α → Sum (Nat × Nat) β) : Sum (Nat × Nat) β := match x with
  | .inl e => .inl e
  | .inr a => f a
def Sp {β : Type} (x : Sum (Nat × Nat) (Nat × Nat)) (f : Nat → Nat → Sum (Nat × Nat) β) : Sum (Nat × Nat) β := match x with
  | .inl e => .inl e
  | .inr (v, t) => f v t
def S3 {β : Type} (x : Sum (Nat × Nat) (Nat × Nat × Nat)) (f : Nat → Nat → Nat → Sum (Nat × Nat) β) : Sum (Nat × Nat) β := match x with
  | .inl e => .inl e
  | .inr (v, u, t) => f v u t
theorem Sb_l {α β : Type} {e : Nat × Nat} {f : α → Sum (Nat × Nat) β} : Sb (.inl e) f = .inl e := rfl
theorem Sb_r {α β : Type} {a : α} {f : α → Sum (Nat × Nat) β} : Sb (.inr a) f = f a := rfl
theorem Sp_l {β : Type} {e : Nat × Nat} {f : Nat → Nat → Sum (Nat × Nat) β} : Sp (.inl e) f = .inl e := rfl
theorem Sp_r {β : Type} {v t : Nat} {f : Nat → Nat → Sum (Nat × Nat) β} : Sp (.inr (v, t)) f = f v t := rfl
theorem S3_l {β : Type} {e : Nat × Nat} {f : Nat → Nat → Nat → Sum (Nat × Nat) β} : S3 (.inl e) f = .inl e := rfl
theorem S3_r {β : Type} {v u t : Nat} {f : Nat → Nat → Nat → Sum (Nat × Nat) β} : S3 (.inr (v, u, t)) f = f v u t := rfl
def tOp (cd : Nat → Nat) (n w lo hi d s : Nat) : Sum (Nat × Nat) (Nat × Nat) := if tkW cd n s = nI w then tWN cd n w lo hi s else .inr (d, s)
def tLP (cd : Nat → Nat) (n s : Nat) : Sum (Nat × Nat) (Nat × Nat × Nat) := Sp (tOp cd n 5 1 20 4 s) fun v5 t5 => Sp (tOp cd n 6 0 9 0 t5) fun v6 t6 => .inr (v5, v6, t6)
def sx (f : Nat → Int32) (k : Nat) (v : Int32) : Nat → Int32 := fun j => if j = k then v else f j
theorem sx_s (f : Nat → Int32) (k : Nat) (v : Int32) : sx f k v k = v := if_pos rfl
theorem sx_o {f : Nat → Int32} {k j : Nat} {v : Int32} (h : j ≠ k) : sx f k v j = f j := if_neg h
def nmU (nm : Nat → List Nat) (k : Nat) (L : List Nat) : Nat → List Nat := fun j => if j = k then L else nm j
/-- a row r of the draft with the cells f and the name x -/
def hS (M N : Mm) (r : Nat) (f : Nat → Int32) (x : Int64) : Prop := mK N = mK M ∧ mR N = mR M ∧ mT N = mT M ∧ (∀ y, y ≠ 1 → y ≠ r → mI N y = mI M y ∧ mL N y = mL M y) ∧ mI N r = f ∧ mL N r 0 = x ∧ ∀ k, k = 1 ∨ k = 3 ∨ 12 ≤ k → mI N 1 k = mI M 1 k
def hB (M N : Mm) (r : Nat) (e : Nat × Nat) : Prop := mK N = mK M ∧ mR N = mR M ∧ mT N = mT M ∧ (∀ y, y ≠ 1 → y ≠ r → mI N y = mI M y ∧ mL N y = mL M y) ∧ (∀ k, k = 1 ∨ k = 3 → mI N 1 k = mI M 1 k) ∧ mI N 1 12 = nI e.1 ∧ mI N 1 13 = nI e.2
section H
variable {M N N' : Mm} {cd : Nat → Nat} {n s r b q : Nat} {f : Nat → Int32} {x : Int64} {e : Nat × Nat}
theorem hS.rf (M : Mm) (r : Nat) : hS M M r (mI M r) (mL M r 0) := ⟨rfl, rfl, rfl, fun _ _ _ => ⟨rfl, rfl⟩, rfl, rfl, fun _ _ => rfl⟩
theorem hS.v (h : hS M N r f x) (hr : r ≠ 1) (F : FTv N N') : hS M N' r f x := ⟨F.1.trans h.1, F.2.1.trans h.2.1, F.2.2.1.trans h.2.2.1, fun y h1 h2 => ⟨(F.2.2.2.1 y h1).1.trans (h.2.2.2.1 y h1 h2).1, (F.2.2.2.1 y h1).2.trans (h.2.2.2.1 y h1 h2).2⟩, (F.2.2.2.1 r hr).1.trans h.2.2.2.2.1, (congrFun (F.2.2.2.1 r hr).2 0).trans h.2.2.2.2.2.1, fun k hk => (F.2.2.2.2 k hk).trans (h.2.2.2.2.2.2 k hk)⟩
theorem mI_sx (N : Mm) (r j : Nat) (v : Int32) : mI (sI N r j v) r = sx (mI N r) j v := funext fun k => by
  by_cases e : k = j
  · rw [e, mI_sI_s, sx_s]
  · rw [mI_f e, sx_o e]
theorem hS.pI (h : hS M N r f x) (hr : r ≠ 1) (j : Nat) (v : Int32) : hS M (sI N r j v) r (sx f j v) x := ⟨h.1, h.2.1, h.2.2.1, fun y h1 h2 => ⟨by rw [mI_o h2]; exact (h.2.2.2.1 y h1 h2).1, (h.2.2.2.1 y h1 h2).2⟩, by rw [mI_sx, h.2.2.2.2.1], h.2.2.2.2.2.1, fun k hk => by rw [mI_o (fun z => hr z.symm)]; exact h.2.2.2.2.2.2 k hk⟩
theorem hS.pL (h : hS M N r f x) (v : Int64) : hS M (sL N r 0 v) r f v := ⟨h.1, h.2.1, h.2.2.1, fun y h1 h2 => ⟨(h.2.2.2.1 y h1 h2).1, by rw [mL_o h2]; exact (h.2.2.2.1 y h1 h2).2⟩, h.2.2.2.2.1, mL_s _ _ _ _, h.2.2.2.2.2.2⟩
theorem hS.up (h : hS M N r f x) (hb : b ≠ 1) (hr : b ≠ r) (j : Nat) (v : Int32) : hS (sI M b j v) (sI N b j v) r f x := ⟨h.1, h.2.1, h.2.2.1, fun y h1 h2 => ⟨funext fun k => by
  show (if y = b ∧ k = j then v else mI N y k) = (if y = b ∧ k = j then v else mI M y k)
  rw [(h.2.2.2.1 y h1 h2).1], (h.2.2.2.1 y h1 h2).2⟩, by rw [mI_o (fun z => hr z.symm)]; exact h.2.2.2.2.1, h.2.2.2.2.2.1, fun k hk => by rw [mI_o (fun z => hb z.symm), mI_o (fun z => hb z.symm)]; exact h.2.2.2.2.2.2 k hk⟩
theorem hS.bd (h : hS M N r f x) (B : cBd N N' e) : hB M N' r e := ⟨B.1.1.trans h.1, B.1.2.1.trans h.2.1, B.1.2.2.1.trans h.2.2.1, fun y h1 h2 => ⟨(B.1.2.2.2.1 y h1).1.trans (h.2.2.2.1 y h1 h2).1, (B.1.2.2.2.1 y h1).2.trans (h.2.2.2.1 y h1 h2).2⟩, fun k hk => (B.1.2.2.2.2 k hk).trans (h.2.2.2.2.2.2 k (by omega)), B.2⟩
theorem hS.R (h : hS M N r f x) (R : rdS M q b) : rdS N q b := by
  unfold rdS at *
  rw [h.1, h.2.1]
  exact R
theorem hS.L (h : hS M N r f x) (S : shL M b) : shL N b := shL_same S h.1 h.2.1
theorem CT.o (C : CT N cd n s) (h1 : r ≠ 1) (h2 : r ≠ 2) (h3 : r ≠ 3) (j : Nat) (v : Int32) : CT (sI N r j v) cd n s := by
  obtain ⟨⟨a1, a2, a3, a4, a5, a6, a7, a8, a9⟩, T⟩ := C
  refine ⟨⟨a1, a2, a3, a4, a5, a6, by rw [mI_o (fun z => h1 z.symm)]; exact a7, fun k hk => by rw [mI_o (fun z => h2 z.symm)]; exact a8 k hk, a9⟩, ?_⟩
  unfold TkC at *
  rw [mI_o (fun z => h1 z.symm)]
  exact T
theorem CT.l (C : CT N cd n s) (h1 : r ≠ 1) (h3 : r ≠ 3) (j : Nat) (v : Int64) : CT (sL N r j v) cd n s := by
  obtain ⟨⟨a1, a2, a3, a4, a5, a6, a7, a8, a9⟩, T⟩ := C
  refine ⟨⟨a1, a2, a3, a4, a5, a6, a7, a8, fun w hw => by rw [mL_o (fun z => h3 z.symm)]; exact a9 w hw⟩, ?_⟩
  unfold TkC at *
  rw [mL_o (fun z => h1 z.symm)]
  exact T
theorem rd_0 (R : rdS M q b) {ρ : Type} {K : Option Nat → Option ρ} : gfR M (some q) 5 0 K = K (some 1) := by rw [gfR_s (by rw [R.1]), R.2.1]
theorem rd_1 (R : rdS M q b) {ρ : Type} {K : Option Nat → Option ρ} : gfR M (some q) 5 1 K = K (some b) := by rw [gfR_s (by rw [R.1]), R.2.2]
def cLP (M : Mm) (y : Option (Int32 × Mm)) (cd : Nat → Nat) (n r : Nat) (f : Nat → Int32) (x : Int64) (o : Sum (Nat × Nat) (Nat × Nat × Nat)) : Prop := match o with
  | .inl e => ∃ N, y = some (0, N) ∧ hB M N r e
  | .inr (v5, v6, t) => ∃ N f', y = some (1, N) ∧ hS M N r f' x ∧ CT N cd n t ∧ f' 5 = nI v5 ∧ f' 6 = nI v6 ∧ ∀ j, j ≠ 5 → j ≠ 6 → f' j = f j
theorem c_lp48 (C : CT N cd n s) (h : hS M N r f x) (hr : 4 ≤ r) (k1 : (mK N r).1 = 1) (R : rdS N q b) (v5 : Nat) (h5 : f 5 = nI v5) (h6 : f 6 = 0) : cLP M (zc (f_X5_readLongAndPegs_48 N (some q) (some r))) cd n r f x (Sp (tOp cd n 6 0 9 0 s) fun v6 t6 => .inr (v5, v6, t6)) := by
  unfold f_X5_readLongAndPegs_48 tOp
  rw [rd_0 R, tp_gI C.1, tc_w C.2]
  by_cases q6 : tkW cd n s = nI 6
  · have g := c_takeWN C 6 0 9 (by omega) (by omega)
    rw [if_pos (show tkW cd n s = 6 from q6), if_pos q6, rd_0 R, tp_ck C.1]
    rcases hr' : tWN cd n 6 0 9 s with e | ⟨v, t⟩
    · rw [hr'] at g
      obtain ⟨N', g1, g2⟩ := g
      rw [show f_X6_takeWordAndNumber N (some 1) 6 0 9 = some (0, N') from g1, bd_s, if_pos rfl, zc0, Sp_l]
      exact ⟨N', rfl, h.bd g2⟩
    · rw [hr'] at g
      obtain ⟨N', g1, g2, g3, g4⟩ := g
      have h' := h.v (by omega) g2
      have R' : rdS N' q b := by
        unfold rdS at *
        rw [g2.1, g2.2.1]
        exact R
      rw [show f_X6_takeWordAndNumber N (some 1) 6 0 9 = some (1, N') from g1, bd_s, if_neg (by decide), rd_0 R', tp_gI g3.1, g4, pfI_s (by rw [g2.1]; exact k1), zc1, Sp_r]
      exact ⟨_, _, rfl, h'.pI (by omega) 6 (nI v), g3.o (by omega) (by omega) (by omega) _ _, by rw [sx_o (by decide)]; exact h5, sx_s _ _ _, fun j h1 h2 => sx_o h2⟩
  · rw [if_neg (show ¬ tkW cd n s = 6 from q6), if_neg q6, zc1, Sp_r]
    exact ⟨N, f, rfl, h, C, h5, h6, fun _ _ _ => rfl⟩
theorem c_lp (C : CT N cd n s) (h : hS M N r f x) (hr : 4 ≤ r) (k1 : (mK N r).1 = 1) (R : rdS N q b) : cLP M (f_X5_readLongAndPegs N (some q) (some r)) cd n r f x (tLP cd n s) := by
  have h0 := (h.pI (by omega) 5 4).pI (by omega) 6 0
  have C0 : CT (sI (sI N r 5 4) r 6 0) cd n s := (C.o (by omega) (by omega) (by omega) _ _).o (by omega) (by omega) (by omega) _ _
  have R0 : rdS (sI (sI N r 5 4) r 6 0) q b := R
  have fin : ∀ {f' y o}, (∀ j, j ≠ 5 → j ≠ 6 → f' j = f j) → cLP M y cd n r f' x o → cLP M y cd n r f x o := fun {f' y o} hf z => by
    rcases o with e | ⟨v5, v6, t⟩
    · exact z
    · obtain ⟨N, f'', z1, z2, z3, z4, z5, z6⟩ := z
      exact ⟨N, f'', z1, z2, z3, z4, z5, fun j h1 h2 => (z6 j h1 h2).trans (hf j h1 h2)⟩
  unfold f_X5_readLongAndPegs g_X5_readLongAndPegs tLP
  rw [pfI_s k1, pfI_s (by show (mK N r).1 = 1; exact k1), rd_0 R0, tp_gI C0.1, tc_w C0.2]
  by_cases q5 : tkW cd n s = nI 5
  · have g := c_takeWN C0 5 1 20 (by omega) (by omega)
    have eO : tOp cd n 5 1 20 4 s = tWN cd n 5 1 20 s := if_pos q5
    rw [if_pos (show tkW cd n s = 5 from q5), eO, rd_0 R0, tp_ck C0.1]
    rcases hr' : tWN cd n 5 1 20 s with e | ⟨v, t⟩
    · rw [hr'] at g
      obtain ⟨N', g1, g2⟩ := g
      rw [show f_X6_takeWordAndNumber (sI (sI N r 5 4) r 6 0) (some 1) 5 1 20 = some (0, N') from g1, bd_s, if_pos rfl, zc0, Sp_l]
      exact ⟨N', rfl, h0.bd g2⟩
    · rw [hr'] at g
      obtain ⟨N', g1, g2, g3, g4⟩ := g
      have h' := h0.v (by omega) g2
      have R' : rdS N' q b := by
        unfold rdS at *
        rw [g2.1, g2.2.1]
        exact R0
      have k1' : (mK N' r).1 = 1 := by rw [g2.1]; exact k1
      rw [show f_X6_takeWordAndNumber (sI (sI N r 5 4) r 6 0) (some 1) 5 1 20 = some (1, N') from g1, bd_s, if_neg (by decide), rd_0 R', tp_gI g3.1, g4, pfI_s k1', Sp_r]
      refine fin ?_ (c_lp48 (g3.o (r := r) (by omega) (by omega) (by omega) 5 (nI v)) (h'.pI (by omega) 5 (nI v)) hr k1' R' v (sx_s _ _ _) (by rw [sx_o (by decide), sx_s]))
      intro j h1 h2
      rw [sx_o h1, sx_o h2, sx_o h1]
  · have eO : tOp cd n 5 1 20 4 s = .inr (4, s) := if_neg q5
    rw [if_neg (show ¬ tkW cd n s = 5 from q5), eO, Sp_r]
    refine fin ?_ (c_lp48 C0 h0 hr k1 R0 4 (by rw [sx_o (by decide), sx_s]; rfl) (sx_s _ _ _))
    intro j h1 h2
    rw [sx_o h2, sx_o h1]
end H


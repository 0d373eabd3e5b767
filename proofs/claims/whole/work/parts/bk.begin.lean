/-! TEXTS: the beginning of a shore -/
theorem rdA_fuel {cd : Nat → Nat} {n : Nat} : ∀ f g s c nm tl, dOK c → n - s < f → n - s < g → rdA cd n f c nm tl s = rdA cd n g c nm tl s := by
  intro f
  induction f with
  | zero => intro g s c nm tl _ h; omega
  | succ f ih =>
    intro g s c nm tl ok hf hg
    obtain ⟨g', rfl⟩ : ∃ g', g = g' + 1 := ⟨g - 1, by omega⟩
    rw [rdA, rdA]
    by_cases hK : tkK cd n s = 0
    · rw [if_pos hK, if_pos hK]
    · have hs := tkK_s hK
      rw [if_neg hK, if_neg hK]
      rcases hr : rdP cd n c nm tl s with e | ⟨t, c', nm'⟩
      · rfl
      · dsimp only
        rcases hr2 : tSm cd n t with e | u
        · rfl
        · dsimp only
          obtain ⟨st, ok'⟩ := rdP_ok ok hr
          have tu := tSm_gt hr2
          exact ih g' u c' nm' _ ok' (by omega) (by omega)
def shZ : Nat → Int32 := fun k => if k = 3 then 3 else 0
theorem dOK_0 : dOK shZ := by
  have z : ∀ k, k ≠ 3 → shZ k = nI 0 := fun k hk => by
    show (if k = 3 then (3 : Int32) else 0) = nI 0
    rw [if_neg hk]
    rfl
  have h0 : hN shZ = 0 := na_of (k := 0) (z 0 (by omega)) (by omega)
  have g0 : gN shZ = 0 := na_of (k := 1) (z 1 (by omega)) (by omega)
  have w0 : wN shZ = 0 := na_of (k := 2) (z 2 (by omega)) (by omega)
  refine ⟨⟨bdd_of (z 0 (by omega)) (by omega) (by omega) (by omega), bdd_of (z 1 (by omega)) (by omega) (by omega) (by omega), bdd_of (z 2 (by omega)) (by omega) (by omega) (by omega), bdd_of (n := 3) rfl (by omega) (by omega) (by omega), bdd_of (z 4 (by omega)) (by omega) (by omega) (by omega), fun i hi => by rw [h0] at hi; omega, fun i j hi => by rw [h0] at hi; omega, fun g hg => by rw [g0] at hg; omega, fun w hw => by rw [w0] at hw; omega, fun g g' hg => by rw [g0] at hg; omega⟩, ⟨z 4 (by omega), fun i j hi hj => bdd_of (z _ (by omega)) (by omega) (by omega) (by omega)⟩, fun g hg => ⟨z _ (by omega), z _ (by omega)⟩, fun g hg => by rw [g0] at hg; omega⟩

/-! PURE PART. How the functions' reads and writes go -/
section Ev
variable {ρ : Type} {M : Mm} {a b ci kd k n : Nat}
theorem gfI_s {c : Int32 → Option ρ} (h : (mK M a).1 = ci) : gfI M (some a) ci k c = c (mI M a k) := if_pos h
theorem gfL_s {c : Int64 → Option ρ} (h : (mK M a).1 = ci) : gfL M (some a) ci k c = c (mL M a k) := if_pos h
theorem gfR_s {c : Option Nat → Option ρ} (h : (mK M a).1 = ci) : gfR M (some a) ci k c = c (mR M a k) := if_pos h
theorem pfI_s {v : Int32} {c : Mm → Option ρ} (h : (mK M a).1 = ci) : pfI M (some a) ci k v c = c (sI M a k v) := if_pos h
theorem pfZ_s {v : Int32} {c : Mm → Option ρ} (h : (mK M a).1 = ci) (hv : v = 0 ∨ v = 1) : pfZ M (some a) ci k v c = c (sI M a k v) := if_pos ⟨h, hv⟩
theorem pfL_s {v : Int64} {c : Mm → Option ρ} (h : (mK M a).1 = ci) : pfL M (some a) ci k v c = c (sL M a k v) := if_pos h
theorem pfR_s {v : Option Nat} {c : Mm → Option ρ} (h : (mK M a).1 = ci) : pfR M (some a) ci k v c = c (sR M a k v) := if_pos h
theorem ck_s {x : Option ρ} (h : (mK M a).1 = ci) : ck M (some a) ci x = x := if_pos h
theorem nz_s {x : Option ρ} : nz (some a) x = x := rfl
theorem bd_s {α : Type} {v : α} {c : α → Mm → Option ρ} : bd (some (v, M)) c = c v M := rfl
theorem bv_s {c : Mm → Option ρ} : bv (some M) c = c M := rfl
theorem nmI_s {e : Int32} {c : Int32 → Option ρ} : nmI e c = c e := rfl
theorem nmL_s {e : Int64} {c : Int64 → Option ρ} : nmL e c = c e := rfl
theorem zc1 : zc (some (1, M)) = some (1, M) := by simp [zc]
theorem zc0 : zc (some (0, M)) = some (0, M) := by simp [zc]
theorem dvI_s {y : Int32} {x : Option ρ} (h : ¬ y = 0) : dvI y x = x := if_neg h
theorem dvL_s {y : Int64} {x : Option ρ} (h : ¬ y = 0) : dvL y x = x := if_neg h
theorem ix_ok {i n : Nat} (h : i < n) (hn : n < 2147483648) : ¬ (nI i < 0 ∨ n ≤ (nI i).toNatClampNeg) := nI_in h hn
theorem nI_cl {i : Nat} (h : i < 2147483648) : (nI i).toNatClampNeg = i := nI_clamp h
theorem alI_s {i : Nat} {c : Int32 → Option ρ} (h : mK M a = (kd, n)) (hi : i < n) (hn : n < 2147483648) : alI M (some a) kd (nI i) c = c (mI M a i) := by
  show (if _ then _ else _) = _
  rw [h, nI_cl (by omega)]
  exact if_pos ⟨rfl, by have := ix_ok hi hn; rw [nI_cl (by omega)] at this; exact this⟩
theorem alL_s {i : Nat} {c : Int64 → Option ρ} (h : mK M a = (kd, n)) (hi : i < n) (hn : n < 2147483648) : alL M (some a) kd (nI i) c = c (mL M a i) := by
  show (if _ then _ else _) = _
  rw [h, nI_cl (by omega)]
  exact if_pos ⟨rfl, by have := ix_ok hi hn; rw [nI_cl (by omega)] at this; exact this⟩
theorem alR_s {i : Nat} {c : Option Nat → Option ρ} (h : mK M a = (kd, n)) (hi : i < n) (hn : n < 2147483648) : alR M (some a) kd (nI i) c = c (mR M a i) := by
  show (if _ then _ else _) = _
  rw [h, nI_cl (by omega)]
  exact if_pos ⟨rfl, by have := ix_ok hi hn; rw [nI_cl (by omega)] at this; exact this⟩
theorem asI_s {i : Nat} {v : Int32} {c : Mm → Option ρ} (h : mK M a = (kd, n)) (hi : i < n) (hn : n < 2147483648) : asI M (some a) kd (nI i) v c = c (sI M a i v) := by
  show (if _ then _ else _) = _
  rw [h, nI_cl (by omega)]
  exact if_pos ⟨rfl, by have := ix_ok hi hn; rw [nI_cl (by omega)] at this; exact this⟩
theorem asB_s {i : Nat} {v : Int32} {c : Mm → Option ρ} (h : mK M a = (kd, n)) (hi : i < n) (hn : n < 2147483648) : asB M (some a) kd (nI i) v c = c (sI M a i v.toInt8.toInt32) := by
  show (if _ then _ else _) = _
  rw [h, nI_cl (by omega)]
  exact if_pos ⟨rfl, by have := ix_ok hi hn; rw [nI_cl (by omega)] at this; exact this⟩
theorem asL_s {i : Nat} {v : Int64} {c : Mm → Option ρ} (h : mK M a = (kd, n)) (hi : i < n) (hn : n < 2147483648) : asL M (some a) kd (nI i) v c = c (sL M a i v) := by
  show (if _ then _ else _) = _
  rw [h, nI_cl (by omega)]
  exact if_pos ⟨rfl, by have := ix_ok hi hn; rw [nI_cl (by omega)] at this; exact this⟩
end Ev
/-- a whole row of ints, of longs, is put -/
def sA (M : Mm) (a : Nat) (f : Nat → Int32) : Mm := (mK M, fun x k => if x = a then f k else mI M x k, mL M, mR M, mT M)
def sAL (M : Mm) (a : Nat) (f : Nat → Int64) : Mm := (mK M, mI M, fun x k => if x = a then f k else mL M x k, mR M, mT M)
theorem mm_eta (M : Mm) : (mK M, mI M, mL M, mR M, mT M) = M := rfl
theorem sI_sA (M : Mm) (a k : Nat) (v : Int32) : sI M a k v = sA M a (upd (mI M a) k v) := by
  unfold sI sA
  refine congrArg (fun z => (mK M, z, mL M, mR M, mT M)) (funext fun x => funext fun j => ?_)
  by_cases e : x = a
  · subst e
    by_cases e2 : j = k <;> simp [u2, upd, e2]
  · simp [u2, e]
theorem mI_sA_s (M : Mm) (a : Nat) (f : Nat → Int32) : mI (sA M a f) a = f := funext fun k => if_pos rfl
theorem mI_sA_o (M : Mm) {a b : Nat} (f : Nat → Int32) (h : b ≠ a) : mI (sA M a f) b = mI M b := funext fun k => if_neg h
theorem mI_sA (M : Mm) (a : Nat) (f : Nat → Int32) (b k : Nat) : mI (sA M a f) b k = if b = a then f k else mI M b k := rfl
theorem mK_sA (M : Mm) (a : Nat) (f : Nat → Int32) : mK (sA M a f) = mK M := rfl
theorem mL_sA (M : Mm) (a : Nat) (f : Nat → Int32) : mL (sA M a f) = mL M := rfl
theorem mR_sA (M : Mm) (a : Nat) (f : Nat → Int32) : mR (sA M a f) = mR M := rfl
theorem mT_sA (M : Mm) (a : Nat) (f : Nat → Int32) : mT (sA M a f) = mT M := rfl
theorem mK_sAL (M : Mm) (a : Nat) (f : Nat → Int64) : mK (sAL M a f) = mK M := rfl
theorem mI_sAL (M : Mm) (a : Nat) (f : Nat → Int64) : mI (sAL M a f) = mI M := rfl
theorem mR_sAL (M : Mm) (a : Nat) (f : Nat → Int64) : mR (sAL M a f) = mR M := rfl
theorem mT_sAL (M : Mm) (a : Nat) (f : Nat → Int64) : mT (sAL M a f) = mT M := rfl
theorem mL_sAL (M : Mm) (a : Nat) (f : Nat → Int64) (b k : Nat) : mL (sAL M a f) b k = if b = a then f k else mL M b k := rfl
theorem sA_sA (M : Mm) (a : Nat) (f g : Nat → Int32) : sA (sA M a f) a g = sA M a g := by
  unfold sA
  refine congrArg (fun z => (mK M, z, mL M, mR M, mT M)) (funext fun x => funext fun j => ?_)
  by_cases e : x = a <;> simp [mI, e]
theorem sA_self (M : Mm) (a : Nat) : sA M a (mI M a) = M := by
  unfold sA
  have e : (fun x k => if x = a then mI M a k else mI M x k) = mI M := by
    funext x k
    by_cases e : x = a
    · subst e; simp
    · simp [e]
  rw [e]
  exact mm_eta M
/-- numbers of the language as numbers -/
theorem lit_nI (n : Nat) : (OfNat.ofNat n : Int32) = nI n := rfl
theorem nI_mul (a b : Nat) : nI a * nI b = nI (a * b) := pk_mul a b
theorem nI_sub {a b : Nat} (h : b ≤ a) : nI a - nI b = nI (a - b) := pk_sub h
theorem nI_leI' {a b : Nat} (ha : a < 2147483648) (hb : b < 2147483648) : nI a ≤ nI b ↔ a ≤ b := nI_leI ha hb
theorem nI_ltI' {a b : Nat} (ha : a < 2147483648) (hb : b < 2147483648) : nI a < nI b ↔ a < b := nI_ltI ha hb
theorem nI_eq' {a b : Nat} (ha : a < 2147483648) (hb : b < 2147483648) : nI a = nI b ↔ a = b := nI_eq ha hb
/-- loops that count up -/
theorem lup {β : Type} (L : Nat → Nat → β) (n : Nat) (R : β) (hs : ∀ f k, k < n → L (f + 1) k = L f (k + 1)) (he : ∀ f, L (f + 1) n = R) : ∀ f k, k ≤ n → n - k < f → L f k = R := by
  intro f
  induction f with
  | zero => intro k _ h; omega
  | succ f ih =>
    intro k hk h
    rcases Nat.lt_or_ge k n with q | q
    · rw [hs f k q]
      exact ih (k + 1) q (by omega)
    · have e : k = n := by omega
      subst e
      exact he f
theorem lup0 {β : Type} (L : Nat → Nat → β) (n : Nat) (R : β) (hn : n < 65536) (hs : ∀ f k, k < n → L (f + 1) k = L f (k + 1)) (he : ∀ f, L (f + 1) n = R) : L fu 0 = R := lup L n R hs he fu 0 (Nat.zero_le _) (by unfold fu; omega)
/-- sums, sets -/
def sm (f : Nat → Int32) : Nat → Int32
  | 0 => 0
  | n + 1 => sm f n + f n
theorem sm_cong {f g : Nat → Int32} : ∀ {n : Nat}, (∀ k, k < n → f k = g k) → sm f n = sm g n
  | 0, _ => rfl
  | n + 1, h => by rw [sm, sm, sm_cong (fun k hk => h k (by omega)), h n (by omega)]
/-- a set out of a test, bit by bit -/
def st (p : Nat → Prop) [DecidablePred p] : Nat → Int32
  | 0 => 0
  | n + 1 => if p n then st p n ||| ((1 : Int32) <<< (nI n &&& 31)) else st p n
theorem st_cong {p q : Nat → Prop} [DecidablePred p] [DecidablePred q] : ∀ {n : Nat}, (∀ k, k < n → (p k ↔ q k)) → st p n = st q n
  | 0, _ => rfl
  | n + 1, h => by
    rw [st, st, st_cong (fun k hk => h k (by omega))]
    by_cases e : p n
    · rw [if_pos e, if_pos ((h n (by omega)).mp e)]
    · rw [if_neg e, if_neg (fun z => e ((h n (by omega)).mpr z))]

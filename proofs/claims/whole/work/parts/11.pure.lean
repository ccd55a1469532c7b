/-! loops as folds from the front -/
def fr {α : Type} (g : Int → α → α) : Int → Nat → α → α
  | _, 0, x => x
  | i, k + 1, x => fr g (i + 1) k (g i x)
def rs (f : Int → Int) : Int → Nat → Int
  | _, 0 => 0
  | i, k + 1 => f i + rs f (i + 1) k
theorem fr_s {α : Type} (g : Int → α → α) (i : Int) (k : Nat) (x : α) : fr g i (k + 1) x = fr g (i + 1) k (g i x) := rfl
theorem rs_s (f : Int → Int) (i : Int) (k : Nat) : rs f i (k + 1) = f i + rs f (i + 1) k := rfl
theorem fr_congr {α : Type} {g h : Int → α → α} : ∀ (k : Nat) (i : Int) (x : α), (∀ j x, i ≤ j → j < i + k → g j x = h j x) → fr g i k x = fr h i k x
  | 0, i, x, _ => rfl
  | k + 1, i, x, e => by
    rw [fr_s, fr_s, e i x (by omega) (by omega)]
    exact fr_congr k (i + 1) _ (fun j x h1 h2 => e j x (by omega) (by omega))
theorem rs_congr {f g : Int → Int} : ∀ (k : Nat) (i : Int), (∀ j, i ≤ j → j < i + k → f j = g j) → rs f i k = rs g i k
  | 0, i, _ => rfl
  | k + 1, i, e => by
    rw [rs_s, rs_s, e i (by omega) (by omega), rs_congr k (i + 1) (fun j h1 h2 => e j (by omega) (by omega))]
theorem rs_zero {f : Int → Int} : ∀ (k : Nat) (i : Int), (∀ j, i ≤ j → j < i + k → f j = 0) → rs f i k = 0
  | 0, i, _ => rfl
  | k + 1, i, e => by
    rw [rs_s, e i (by omega) (by omega), rs_zero k (i + 1) (fun j h1 h2 => e j (by omega) (by omega))]
    rfl
theorem rs_split (f : Int → Int) : ∀ (k1 k2 : Nat) (i : Int), rs f i (k1 + k2) = rs f i k1 + rs f (i + k1) k2
  | 0, k2, i => by simp [rs]
  | k1 + 1, k2, i => by
    have e : k1 + 1 + k2 = (k1 + k2) + 1 := by omega
    have e2 : i + ((k1 + 1 : Nat) : Int) = i + 1 + (k1 : Int) := by omega
    rw [e, rs_s, rs_s, rs_split f k1 k2 (i + 1), e2]
    omega
theorem rs_last (f : Int → Int) (k : Nat) (i : Int) : rs f i (k + 1) = rs f i k + f (i + k) := by
  rw [rs_split f k 1 i]
  simp [rs]
theorem rs_add (f g : Int → Int) : ∀ (k : Nat) (i : Int), rs (fun j => f j + g j) i k = rs f i k + rs g i k
  | 0, i => rfl
  | k + 1, i => by rw [rs_s, rs_s, rs_s, rs_add f g k (i + 1)]; omega
theorem rs_bound {f : Int → Int} {lo hi : Int} : ∀ (k : Nat) (i : Int), (∀ j, i ≤ j → j < i + k → lo ≤ f j ∧ f j ≤ hi) → (k : Int) * lo ≤ rs f i k ∧ rs f i k ≤ (k : Int) * hi
  | 0, i, _ => by simp [rs]
  | k + 1, i, e => by
    have h1 := e i (by omega) (by omega)
    have h2 := rs_bound (f := f) (lo := lo) (hi := hi) k (i + 1) (fun j h1 h2 => e j (by omega) (by omega))
    rw [rs_s]
    have e1 : ((k + 1 : Nat) : Int) * lo = (k : Int) * lo + lo := by rw [show ((k + 1 : Nat) : Int) = (k : Int) + 1 from rfl, Int.add_mul, Int.one_mul]
    have e2 : ((k + 1 : Nat) : Int) * hi = (k : Int) * hi + hi := by rw [show ((k + 1 : Nat) : Int) = (k : Int) + 1 from rfl, Int.add_mul, Int.one_mul]
    omega
/-- a sum of ones and noughts -/
theorem rs_01 {f : Int → Int} (k : Nat) (i : Int) (h : ∀ j, i ≤ j → j < i + k → f j = 0 ∨ f j = 1) : 0 ≤ rs f i k ∧ rs f i k ≤ k := by
  have := rs_bound (f := f) (lo := 0) (hi := 1) k i (fun j h1 h2 => by have := h j h1 h2; omega)
  omega
theorem fr_sum (f : Int → Int) : ∀ (k : Nat) (i acc : Int), fr (fun j x => x + f j) i k acc = acc + rs f i k
  | 0, i, acc => by simp [fr, rs]
  | k + 1, i, acc => by rw [fr_s, fr_sum f k, rs_s]; omega
theorem fr_inv {α : Type} {g : Int → α → α} (P : Int → α → Prop) : ∀ (k : Nat) (i : Int) (x : α), P i x → (∀ j x, i ≤ j → j < i + k → P j x → P (j + 1) (g j x)) → P (i + k) (fr g i k x)
  | 0, i, x, h, _ => by simpa [fr] using h
  | k + 1, i, x, h, e => by
    have := fr_inv P k (i + 1) (g i x) (e i x (by omega) (by omega) h) (fun j x h1 h2 => e j x (by omega) (by omega))
    rw [fr_s]
    have e2 : i + ((k + 1 : Nat) : Int) = i + 1 + (k : Int) := by omega
    rw [e2]
    exact this
/-- a drawing: L points, the partner of each, -1 without -/
def WD (L : Int) (m : Int → Int) : Prop := 0 ≤ L ∧ L ≤ 24 ∧ (∀ a, 0 ≤ a → a < L → m a = -1 ∨ (0 ≤ m a ∧ m a < L ∧ m a ≠ a ∧ m (m a) = a)) ∧ (∀ a, L ≤ a → a < 24 → m a = -1)
theorem WD.b {L : Int} {m : Int → Int} (h : WD L m) {a : Int} (h0 : 0 ≤ a) (h1 : a < 24) : -1 ≤ m a ∧ m a < 24 ∧ m a < L ∨ m a = -1 := by
  by_cases q : a < L
  · rcases h.2.2.1 a h0 q with e | e
    · exact Or.inr e
    · exact Or.inl ⟨by omega, by have := h.2.1; omega, e.2.1⟩
  · exact Or.inr (h.2.2.2 a (by omega) h1)
theorem WD.r {L : Int} {m : Int → Int} (h : WD L m) {a : Int} (h0 : 0 ≤ a) (h1 : a < 24) : -1 ≤ m a ∧ m a < 24 := by
  rcases h.b h0 h1 with e | e
  · exact ⟨e.1, e.2.1⟩
  · omega
def ff (σ : Sg) (id lo hi v : Int) : Sg := fun a b => if a = id ∧ lo ≤ b ∧ b < hi then v else σ a b
/-- fewer locals known -/
def lle : Lv → Lv → Prop
  | [], [] => True
  | none :: t, _ :: t' => lle t t'
  | some v :: t, w :: t' => w = some v ∧ lle t t'
  | _, _ => False
theorem lle_get : ∀ (l l' : Lv), lle l l' → ∀ j v, lget l j = some v → lget l' j = some v
  | [], [], _, j, v, h => h
  | none :: t, w :: t', hl, 0, v, h => by simp [lget] at h
  | none :: t, w :: t', hl, j + 1, v, h => lle_get t t' hl j v h
  | some x :: t, w :: t', hl, 0, v, h => by
    obtain ⟨rfl, -⟩ := hl
    exact h
  | some x :: t, w :: t', hl, j + 1, v, h => lle_get t t' hl.2 j v h
theorem V.wk {D : Nat} {mi : MI} {o : Nat} {r : Option AV} {τ : Sg} {pc : Nat} {ls ls' : Lv} {st : List AV} {σ : Sg} (h : V D mi o r τ pc ls st σ) (hl : lle ls ls') : V D mi o r τ pc ls' st σ := by
  obtain ⟨-, h⟩ := h
  refine ⟨(), ?_⟩
  intro p l e s m args below meth c X E hr hlk H locs la hP hS hv
  refine h p l e s m args below meth c X E hr hlk H locs la hP hS ⟨hv.1, hv.2.1, fun q hq => hv.2.2 q ?_⟩
  obtain ⟨j, v, h1, h2⟩ := (lvs_mem X.2.2 ls 0 q).mp hq
  exact (lvs_mem X.2.2 ls' 0 q).mpr ⟨j, v, lle_get ls ls' hl j v h1, h2⟩
/-- the same end, said otherwise -/
theorem V.to {D : Nat} {mi : MI} {o : Nat} {r r' : Option AV} {τ τ' : Sg} {pc : Nat} {ls : Lv} {st : List AV} {σ : Sg} (h : V D mi o r τ pc ls st σ) (e1 : r = r') (e2 : τ = τ') : V D mi o r' τ' pc ls st σ := by
  subst e1 e2
  exact h
theorem Ret.to {d : Nat} {mi : MI} {as : List AV} {r r' : Option AV} {σ τ τ' : Sg} (h : Ret d mi as σ r τ) (e1 : r = r') (e2 : τ = τ') : Ret d mi as σ r' τ' := by
  subst e1 e2
  exact h

/-! the abstract machine: every int, long and reference is a whole number; a state is a map of cells -/
abbrev AV : Type := Int ⊕ (Int ⊕ Int)
abbrev aI (z : Int) : AV := Sum.inl z
abbrev aL (z : Int) : AV := Sum.inr (Sum.inl z)
abbrev aR (z : Int) : AV := Sum.inr (Sum.inr z)
abbrev Sg : Type := Int → Int → Int
abbrev Lv : Type := List (Option AV)
abbrev Cx : Type := va_G × ((Nat → ClassId) × (Nat → Nat))
def cv (A : Nat → Nat) : AV → Value
  | .inl z => .int (Int32.ofInt z)
  | .inr (.inl z) => .long (Int64.ofInt z)
  | .inr (.inr r) => .ref (A r.toNat)
def up (σ : Sg) (id k v : Int) : Sg := fun a b => if a = id ∧ b = k then v else σ a b
/-- the layout: tag, length or class, first row. 0 object, 1 int[], 2 long[], 3 boolean[], 4 int[][], 5 long[][] -/
def KT : List (Nat × (Nat × Nat)) := [(1, 24, 0), (1, 24, 0), (1, 24, 0), (3, 24, 0), (1, 24, 0), (1, 24, 0), (1, 24, 0), (1, 24, 0), (4, 4, 41), (1, 25, 0), (3, 25, 0), (4, 25, 45), (4, 25, 70), (5, 25, 95), (5, 25, 120), (5, 25, 145), (5, 13, 170), (5, 13, 183), (5, 14, 196), (1, 24, 0), (1, 24, 0), (1, 24, 0), (1, 16, 0), (1, 24, 0), (1, 24, 0), (2, 104, 0), (2, 938, 0), (2, 938, 0), (1, 1250, 0), (2, 1250, 0), (2, 625, 0), (1, 24, 0), (1, 24, 0), (1, 24, 0)]
def kd (id : Nat) : Nat × (Nat × Nat) :=
  if id < 7 then (0, id, 0) else if id < 41 then KT.getD (id - 7) (9, 0, 0) else if id < 45 then (1, 4, 0) else if id < 95 then (1, 25, 0) else if id < 170 then (2, 25, 0) else if id < 183 then (2, 7, 0) else if id < 210 then (2, 67, 0) else (9, 0, 0)
def fval (A : Nat → Nat) (σ : Sg) (c k : Nat) (f : Nat) : Value := match f with
  | 0 => .int (Int32.ofInt (σ c k))
  | 1 => .long (Int64.ofInt (σ c k))
  | 2 => .int (Int32.ofInt (σ c k))
  | j + 3 => .ref (A j)
def fav (σ : Sg) (c k : Int) (f : Nat) : AV := match f with
  | 0 => aI (σ c k)
  | 1 => aL (σ c k)
  | 2 => aI (σ c k)
  | j + 3 => aR j
theorem cv_fav (A : Nat → Nat) (σ : Sg) (c k f : Nat) : cv A (fav σ c k f) = fval A σ c k f := by
  unfold fav fval
  split <;> simp [cv]
def fvs (A : Nat → Nat) (σ : Sg) (c : Nat) : List Value := (FK c).mapIdx (fun k f => fval A σ c k f)
def ent (X : Cx) (σ : Sg) (id : Nat) : va_E :=
  match kd id with
  | (0, c, _) => .inr (c, fvs X.2.2 σ c)
  | (1, n, _) => .inl (X.2.1 0, n, .inl (fun k => Int32.ofInt (σ id k)))
  | (2, n, _) => .inl (X.2.1 1, n, .inr (.inl (fun k => Int64.ofInt (σ id k))))
  | (3, n, _) => .inl (X.2.1 2, n, .inl (fun k => Int32.ofInt (σ id k)))
  | (4, n, b) => .inl (X.2.1 3, n, .inr (.inr (.inr (.inr (fun i => if i < n then some (X.2.2 (b + i)) else none)))))
  | (_, n, b) => .inl (X.2.1 4, n, .inr (.inr (.inr (.inr (fun i => if i < n then some (X.2.2 (b + i)) else none)))))
def mkW (X : Cx) (σ : Sg) : va_W := (List.range 210).map (fun id => (X.2.2 id, ent X σ id))
theorem mkW_at (X : Cx) (σ : Sg) {id : Nat} (h : id < 210) : (mkW X σ)[id]? = some (X.2.2 id, ent X σ id) := by
  simp [mkW, h]
theorem kd_obj {id c b : Nat} (h : kd id = (0, c, b)) : id = c ∧ c < 7 := by
  unfold kd at h
  split at h
  · cases h; omega
  · split at h
    · rename_i h1 h2
      have : ∀ j, j < 34 → (KT.getD j (9, 0, 0)).1 ≠ 0 := by decide
      have h3 := this (id - 7) (by omega)
      rw [h] at h3
      exact absurd rfl h3
    · repeat' (first | (split at h) | (cases h; done))
      all_goals first | (cases h; done) | (simp at h)
theorem ent_congr (X : Cx) {σ τ : Sg} {id : Nat} (h : ∀ k, σ id k = τ id k) : ent X σ id = ent X τ id := by
  unfold ent
  split
  · rename_i c b hk
    obtain ⟨rfl, -⟩ := kd_obj hk
    have : fvs X.2.2 σ id = fvs X.2.2 τ id := by
      unfold fvs
      congr 1
      funext k f
      unfold fval
      split <;> simp [h]
    rw [this]
  · simp [h]
  · simp [h]
  · simp [h]
  · rfl
  · rfl
theorem mkW_set (X : Cx) {σ τ : Sg} {id : Nat} (hid : id < 210) {e : va_E} (he : ent X τ id = e) (h : ∀ j, j < 210 → j ≠ id → ∀ k, τ j k = σ j k) : (mkW X σ).set id (X.2.2 id, e) = mkW X τ := by
  apply List.ext_getElem?
  intro n
  by_cases hn : n < 210
  · rw [mkW_at X τ hn]
    by_cases e1 : n = id
    · subst e1
      rw [List.getElem?_set_self (by simp [mkW, hid]), he]
    · rw [List.getElem?_set_ne (fun q => e1 q.symm), mkW_at X σ hn, ent_congr X (fun k => h n hn e1 k)]
  · rw [List.getElem?_eq_none (by simp [mkW]; omega), List.getElem?_eq_none (by simp [mkW]; omega)]
theorem up_ne {σ : Sg} {id k v : Int} {j : Nat} (h : (j : Int) ≠ id) (k' : Int) : up σ id k v j k' = σ j k' := by
  simp [up, h]
def fdv (k : Int) : Int := match k with
  | 0 => 1 | 1 => 1 | 2 => 3 | 3 => 15 | 4 => 105 | 5 => 945 | 6 => 10395 | 7 => 135135 | 8 => 2027025 | 9 => 34459425 | 10 => 654729075 | 11 => 13749310575 | 12 => 316234143225 | _ => 0
abbrev tysX (X : Cx) : List (ClassId × FieldType) := [(X.2.1 0, .int), (X.2.1 1, .long), (X.2.1 2, .boolean), (X.2.1 3, .array .int), (X.2.1 4, .array .long)]
abbrev classes : List vw_C := [(RX0, TX0, 5), (RX1, TX1, 6), (RX2, TX2, 9), (RX3, TX3, 4), (RX4, TX4, 5), (RX5, TX5, 5), (RX6, TX6, 20)]
theorem classes_at {c : Nat} (h : c < 7) : classes[c]? = some (RN c, TT c, NN c) := by
  match c, h with
  | 0, _ => rfl
  | 1, _ => rfl
  | 2, _ => rfl
  | 3, _ => rfl
  | 4, _ => rfl
  | 5, _ => rfl
  | 6, _ => rfl
theorem in_GG {c : Nat} (h : c < 7) : ∀ w ∈ u_ws (RN c) (TT c) (NN c), w ∈ GG := by
  match c, h with
  | 0, _ => exact in_X0
  | 1, _ => exact in_X1
  | 2, _ => exact in_X2
  | 3, _ => exact in_X3
  | 4, _ => exact in_X4
  | 5, _ => exact in_X5
  | 6, _ => exact in_X6
def tyN (c : Nat) : Nat → FieldType := match c with
  | 0 => tyX0 | 1 => tyX1 | 2 => tyX2 | 3 => tyX3 | 4 => tyX4 | 5 => tyX5 | _ => tyX6
theorem tyN_ok {c : Nat} (h : c < 7) : ∀ k, k < NN c → parseFieldDescriptor (TT c k).2.2.1 = some (tyN c k) := by
  match c, h with
  | 0, _ => exact tyX0_ok
  | 1, _ => exact tyX1_ok
  | 2, _ => exact tyX2_ok
  | 3, _ => exact tyX3_ok
  | 4, _ => exact tyX4_ok
  | 5, _ => exact tyX5_ok
  | 6, _ => exact tyX6_ok
theorem nmN {c : Nat} (h : c < 7) : ∀ a, a < NN c → ∀ b, b < NN c → a ≠ b → (TT c a).2.1 ≠ (TT c b).2.1 := by
  match c, h with
  | 0, _ => exact nmX0
  | 1, _ => exact nmX1
  | 2, _ => exact nmX2
  | 3, _ => exact nmX3
  | 4, _ => exact nmX4
  | 5, _ => exact nmX5
  | 6, _ => exact nmX6
def reg (X : Cx) : Nat → Prop := fun q => ∃ id, id < 210 ∧ q = X.2.2 id
def Sx (X : Cx) (s : State) (H : Heap) : Prop := va_K X.1 classes (tysX X) s ∧ (∀ i j, i < 210 → j < 210 → X.2.2 i = X.2.2 j → i = j) ∧ va_Z "ChordFolds" "FULL_DRAWINGS" "[J" (.ref (X.2.2 210)) (reg X) s H ∧ va_T .long (X.2.2 210) 13 (fun j => .long (Int64.ofInt (fdv j))) (reg X) s H ∧ va_Nw (.fieldLinkNest "ChordFolds$Drawing" 99 "ChordFolds" "FULL_DRAWINGS" "[J" "ChordFolds") s
theorem Sx.moved {X : Cx} {s U : State} {H H1 : Heap} (h : Sx X s H) (hW : s.WarmedH U.vm) (hq : ∀ a : Nat, a < H.size → ¬ reg X a → H1[a]? = H[a]?) : Sx X U H1 :=
  ⟨va_K.moved hW.alike h.1, h.2.1, (va_Z.moved hW.alike h.2.2.1).kept hq, (va_T.moved hW.alike h.2.2.2.1).kept hq, va_Nw.warmF hW h.2.2.2.2⟩
theorem mkW_D {X : Cx} (σ : Sg) (h : ∀ i j, i < 210 → j < 210 → X.2.2 i = X.2.2 j → i = j) : va_D (reg X) (mkW X σ) := by
  have key : ∀ (k : Nat) (q : Nat × va_E), (mkW X σ)[k]? = some q → k < 210 ∧ q.1 = X.2.2 k := by
    intro k q hk
    have hl : k < 210 := by
      have := (List.getElem?_eq_some_iff.mp hk).1
      simpa [mkW] using this
    rw [mkW_at X σ hl] at hk
    cases hk
    exact ⟨hl, rfl⟩
  refine ⟨fun i j p q hp hq e => ?_, fun k q hk => ⟨k, key k q hk⟩⟩
  obtain ⟨h1, h2⟩ := key i p hp
  obtain ⟨h3, h4⟩ := key j q hq
  exact h i j h1 h3 (by rw [← h2, ← h4, e])
/-! locals -/
def lget : Lv → Nat → Option AV
  | [], _ => none
  | a :: _, 0 => a
  | _ :: t, n + 1 => lget t n
def lput : Lv → Nat → Option AV → Lv
  | [], _, _ => []
  | _ :: t, 0, v => v :: t
  | a :: t, n + 1, v => a :: lput t n v
def isL : Option AV → Bool
  | some (.inr (.inl _)) => true
  | _ => false
def lkill (ls : Lv) : Nat → Lv
  | 0 => ls
  | k + 1 => if isL (lget ls k) = true then lput ls k none else ls
def lset1 (ls : Lv) (k : Nat) (v : AV) : Lv := lput (lkill ls k) k (some v)
def lset2 (ls : Lv) (k : Nat) (v : AV) : Lv := lput (lput (lkill ls k) (k + 1) none) k (some v)
def lvs (A : Nat → Nat) : Nat → Lv → List (Nat × Value)
  | _, [] => []
  | i, none :: t => lvs A (i + 1) t
  | i, some v :: t => (i, cv A v) :: lvs A (i + 1) t
theorem lvs_mem (A : Nat → Nat) : ∀ (ls : Lv) (i : Nat) (q : Nat × Value), q ∈ lvs A i ls ↔ ∃ j v, lget ls j = some v ∧ q = (i + j, cv A v)
  | [], i, q => by simp [lvs, lget]
  | none :: t, i, q => by
    rw [lvs, lvs_mem A t (i + 1) q]
    constructor
    · rintro ⟨j, v, h1, h2⟩
      exact ⟨j + 1, v, h1, by rw [h2]; congr 1; omega⟩
    · rintro ⟨j, v, h1, h2⟩
      cases j with
      | zero => simp [lget] at h1
      | succ j => exact ⟨j, v, h1, by rw [h2]; congr 1; omega⟩
  | some w :: t, i, q => by
    rw [lvs, List.mem_cons, lvs_mem A t (i + 1) q]
    constructor
    · rintro (h | ⟨j, v, h1, h2⟩)
      · exact ⟨0, w, rfl, by simpa using h⟩
      · exact ⟨j + 1, v, h1, by rw [h2]; congr 1; omega⟩
    · rintro ⟨j, v, h1, h2⟩
      cases j with
      | zero =>
        simp only [lget, Option.some.injEq] at h1
        subst h1
        exact Or.inl (by simpa using h2)
      | succ j => exact Or.inr ⟨j, v, h1, by rw [h2]; congr 1; omega⟩
theorem lget_lput : ∀ (ls : Lv) (k : Nat) (v : Option AV) (j : Nat) (w : AV), lget (lput ls k v) j = some w → (j = k ∧ v = some w) ∨ (j ≠ k ∧ lget ls j = some w)
  | [], k, v, j, w, h => by simp [lput, lget] at h
  | a :: t, 0, v, 0, w, h => by simp only [lput, lget] at h; exact Or.inl ⟨rfl, h⟩
  | a :: t, 0, v, j + 1, w, h => by simp only [lput, lget] at h; exact Or.inr ⟨by omega, h⟩
  | a :: t, k + 1, v, 0, w, h => by simp only [lput, lget] at h; exact Or.inr ⟨by omega, h⟩
  | a :: t, k + 1, v, j + 1, w, h => by
    simp only [lput, lget] at h
    rcases lget_lput t k v j w h with ⟨h1, h2⟩ | ⟨h1, h2⟩
    · exact Or.inl ⟨by omega, h2⟩
    · exact Or.inr ⟨by omega, h2⟩
theorem lget_lkill {ls : Lv} {k j : Nat} {w : AV} (h : lget (lkill ls k) j = some w) : lget ls j = some w ∧ ¬ (j + 1 = k ∧ isL (some w) = true) := by
  cases k with
  | zero => exact ⟨h, by omega⟩
  | succ k =>
    simp only [lkill] at h
    split at h
    · rename_i hl
      rcases lget_lput _ _ _ _ _ h with ⟨-, h2⟩ | ⟨h1, h2⟩
      · cases h2
      · exact ⟨h2, by omega⟩
    · rename_i hl
      refine ⟨h, fun q => hl ?_⟩
      have : j = k := by omega
      subst this
      rw [h]
      exact q.2
theorem cv_cat (A : Nat → Nat) (v : AV) : (cv A v).category = if isL (some v) = true then 2 else 1 := by
  rcases v with z | z | z <;> rfl
theorem lvs_set1 (A : Nat → Nat) {ls : Lv} {k : Nat} {v : AV} {la : Array Slot} {nL : Nat} (h : lv_has la nL ((k, cv A v) :: (lvs A 0 ls).filter (fun q => !(q.1 == k) && !(q.1 + 1 == k && q.2.category == 2)))) : lv_has la nL (lvs A 0 (lset1 ls k v)) := by
  refine ⟨h.1, h.2.1, fun q hq => h.2.2 q ?_⟩
  rw [lvs_mem] at hq
  obtain ⟨j, w, h1, h2⟩ := hq
  rw [Nat.zero_add] at h2
  rcases lget_lput _ _ _ _ _ h1 with ⟨e1, e2⟩ | ⟨e1, e2⟩
  · cases e2
    rw [h2, e1]
    exact List.mem_cons_self
  · obtain ⟨g1, g2⟩ := lget_lkill e2
    refine List.mem_cons_of_mem _ (List.mem_filter.mpr ⟨(lvs_mem A ls 0 q).mpr ⟨j, w, g1, by rw [Nat.zero_add]; exact h2⟩, ?_⟩)
    rw [h2]
    have hc := cv_cat A w
    by_cases hl : isL (some w) = true
    · rw [if_pos hl] at hc
      have hne : ¬ (j + 1 = k) := fun q => g2 ⟨q, hl⟩
      simp [hc, e1, hne]
    · rw [if_neg hl] at hc
      simp [hc, e1]
theorem lvs_set2 (A : Nat → Nat) {ls : Lv} {k : Nat} {v : AV} {la : Array Slot} {nL : Nat} (h : lv_has la nL ((k, cv A v) :: (lvs A 0 ls).filter (fun q => !(q.1 == k) && (!(q.1 == k + 1) && !(q.1 + 1 == k && q.2.category == 2))))) : lv_has la nL (lvs A 0 (lset2 ls k v)) := by
  refine ⟨h.1, h.2.1, fun q hq => h.2.2 q ?_⟩
  rw [lvs_mem] at hq
  obtain ⟨j, w, h1, h2⟩ := hq
  rw [Nat.zero_add] at h2
  rcases lget_lput _ _ _ _ _ h1 with ⟨e1, e2⟩ | ⟨e1, e2⟩
  · cases e2
    rw [h2, e1]
    exact List.mem_cons_self
  · rcases lget_lput _ _ _ _ _ e2 with ⟨e3, e4⟩ | ⟨e3, e4⟩
    · cases e4
    obtain ⟨g1, g2⟩ := lget_lkill e4
    refine List.mem_cons_of_mem _ (List.mem_filter.mpr ⟨(lvs_mem A ls 0 q).mpr ⟨j, w, g1, by rw [Nat.zero_add]; exact h2⟩, ?_⟩)
    rw [h2]
    have hc := cv_cat A w
    by_cases hl : isL (some w) = true
    · rw [if_pos hl] at hc
      have hne : ¬ (j + 1 = k) := fun q => g2 ⟨q, hl⟩
      simp [hc, e1, e3, hne]
    · rw [if_neg hl] at hc
      simp [hc, e1, e3]
theorem lvs_get (A : Nat → Nat) {ls : Lv} {k : Nat} {v : AV} {la : Array Slot} {nL : Nat} (h : lv_has la nL (lvs A 0 ls)) (hk : lget ls k = some v) : la[k]? = some (.val (cv A v)) :=
  h.2.2 (k, cv A v) ((lvs_mem A ls 0 _).mpr ⟨k, v, hk, by rw [Nat.zero_add]⟩)
theorem lvs_idx (A : Nat → Nat) {ls : Lv} {k : Nat} {v : AV} (hk : lget ls k = some v) : ∃ j : Nat, (lvs A 0 ls)[j]? = some (k, cv A v) :=
  List.getElem?_of_mem ((lvs_mem A ls 0 _).mpr ⟨k, v, hk, by rw [Nat.zero_add]⟩)

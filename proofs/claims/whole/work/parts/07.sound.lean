/-! the symbolic step is sound -/
theorem ofI_add (x y : Int) : Int32.ofInt x + Int32.ofInt y = Int32.ofInt (x + y) := (Int32.ofInt_add x y).symm
theorem ofI_sub (x y : Int) : Int32.ofInt x - Int32.ofInt y = Int32.ofInt (x - y) := (Int32.ofInt_sub x y).symm
theorem ofI_mul (x y : Int) : Int32.ofInt x * Int32.ofInt y = Int32.ofInt (x * y) := (Int32.ofInt_mul x y).symm
theorem ofL_add (x y : Int) : Int64.ofInt x + Int64.ofInt y = Int64.ofInt (x + y) := (Int64.ofInt_add x y).symm
theorem ofL_sub (x y : Int) : Int64.ofInt x - Int64.ofInt y = Int64.ofInt (x - y) := (Int64.ofInt_sub x y).symm
theorem ofL_mul (x y : Int) : Int64.ofInt x * Int64.ofInt y = Int64.ofInt (x * y) := (Int64.ofInt_mul x y).symm
theorem ofI_div {x y : Int} (hx : inR x) (hy : inR y) : Int32.ofInt x / Int32.ofInt y = Int32.ofInt (x.tdiv y) := by
  apply Int32.toInt_inj.mp
  rw [Int32.toInt_div, tI hx, tI hy, Int32.toInt_ofInt]
theorem ofL_div {x y : Int} (hx : inL x) (hy : inL y) : Int64.ofInt x / Int64.ofInt y = Int64.ofInt (x.tdiv y) := by
  apply Int64.toInt_inj.mp
  rw [Int64.toInt_div, tL hx, tL hy, Int64.toInt_ofInt]
theorem ofI_rem {x y : Int} (hx : inR x) (hy : inR y) : Int32.ofInt x - Int32.ofInt x / Int32.ofInt y * Int32.ofInt y = Int32.ofInt (x.tmod y) := by
  rw [ofI_div hx hy, ofI_mul, ofI_sub, Int.tmod_def, Int.mul_comm]
theorem ofL_rem {x y : Int} (hx : inL x) (hy : inL y) : Int64.ofInt x - Int64.ofInt x / Int64.ofInt y * Int64.ofInt y = Int64.ofInt (x.tmod y) := by
  rw [ofL_div hx hy, ofL_mul, ofL_sub, Int.tmod_def, Int.mul_comm]
theorem ofI_ne {y : Int} (hy : inR y) (h : y ≠ 0) : ¬ Int32.ofInt y = 0 := fun q => h (by
  have := congrArg Int32.toInt q
  rwa [tI hy] at this)
theorem ofL_ne {y : Int} (hy : inL y) (h : y ≠ 0) : ¬ Int64.ofInt y = 0 := fun q => h (by
  have := congrArg Int64.toInt q
  rwa [tL hy] at this)
theorem ofI_eq {x y : Int} (hx : inR x) (hy : inR y) : Int32.ofInt x = Int32.ofInt y ↔ x = y := ⟨fun q => by have := congrArg Int32.toInt q; rwa [tI hx, tI hy] at this, fun q => by rw [q]⟩
theorem ofI_lt {x y : Int} (hx : inR x) (hy : inR y) : Int32.ofInt x < Int32.ofInt y ↔ x < y := by rw [Int32.lt_iff_toInt_lt, tI hx, tI hy]
theorem ofI_le {x y : Int} (hx : inR x) (hy : inR y) : Int32.ofInt x ≤ Int32.ofInt y ↔ x ≤ y := by rw [Int32.le_iff_toInt_le, tI hx, tI hy]
theorem ofL_eq {x y : Int} (hx : inL x) (hy : inL y) : Int64.ofInt x = Int64.ofInt y ↔ x = y := ⟨fun q => by have := congrArg Int64.toInt q; rwa [tL hx, tL hy] at this, fun q => by rw [q]⟩
theorem ofL_lt {x y : Int} (hx : inL x) (hy : inL y) : Int64.ofInt x < Int64.ofInt y ↔ x < y := by rw [Int64.lt_iff_toInt_lt, tL hx, tL hy]
theorem ofI_0 : Int32.ofInt 0 = 0 := rfl
theorem inR_0 : inR 0 := by decide
theorem ofI_i2l {x : Int} (hx : inR x) : (Int32.ofInt x).toInt64 = Int64.ofInt x := by
  apply Int64.toInt_inj.mp
  rw [Int32.toInt_toInt64, tI hx, tL (by omega)]
theorem ofI_lcm {x y : Int} (hx : inL x) (hy : inL y) : lg_cmp (Int64.ofInt x) (Int64.ofInt y) = Int32.ofInt (lcm x y) := by
  unfold lg_cmp lcm
  simp only [gt_iff_lt, ofL_lt hy hx, ofL_eq hx hy]
  split
  · rfl
  · split <;> rfl
theorem ofI_lcm2 {x y : Int} (h : x = y ∨ (inL x ∧ inL y)) : lg_cmp (Int64.ofInt x) (Int64.ofInt y) = Int32.ofInt (lcm x y) := by
  rcases h with rfl | ⟨h1, h2⟩
  · unfold lg_cmp lcm
    rw [if_neg (Int64.lt_irrefl), if_pos rfl, if_neg (Int.lt_irrefl x), if_pos rfl]
    rfl
  · exact ofI_lcm h1 h2
theorem ofI_b {n : Int} (h1 : -128 ≤ n) (h2 : n < 128) : (Int8.ofInt n).toInt32 = Int32.ofInt n := by
  apply Int32.toInt_inj.mp
  rw [Int8.toInt_toInt32, Int8.toInt_ofInt, tI (by omega)]
  show n.bmod 256 = n
  exact Int.bmod_eq_of_le (by omega) (by omega)
theorem ofI_s {n : Int} (h1 : -32768 ≤ n) (h2 : n < 32768) : (Int16.ofInt n).toInt32 = Int32.ofInt n := by
  apply Int32.toInt_inj.mp
  rw [Int16.toInt_toInt32, Int16.toInt_ofInt, tI (by omega)]
  show n.bmod 65536 = n
  exact Int.bmod_eq_of_le (by omega) (by omega)
theorem ofI_in {i : Int} {n : Nat} (h0 : 0 ≤ i) (h1 : i < n) (hn : n < 2147483648) : vp_in (Int32.ofInt i) n := by
  rw [vp_in_iff, tI (by omega)]
  exact ⟨h0, h1⟩
theorem ofI_cl {i : Int} (h0 : 0 ≤ i) (h1 : i < 2147483648) : (Int32.ofInt i).toNatClampNeg = i.toNat := by
  rw [← Int32.toNat_toInt, tI (by omega)]
theorem kd_len (id : Nat) : (kd id).2.1 < 2000 := by
  unfold kd
  split
  · simp; omega
  · split
    · have : ∀ j, j < 34 → (KT.getD j (9, 0, 0)).2.1 < 2000 := by decide
      exact this (id - 7) (by omega)
    · repeat' split
      all_goals simp
theorem kd_lt {id : Nat} (h : (kd id).1 ≠ 9) : id < 210 := by
  apply Classical.byContradiction
  intro q
  apply h
  unfold kd
  rw [if_neg (by omega), if_neg (by omega), if_neg (by omega), if_neg (by omega), if_neg (by omega), if_neg (by omega), if_neg (by omega)]
/-- an array of a tag: its number, its cell -/
theorem ktag_at {id : Int} {t : Nat} (h : ktag id = t) (ht : t ≠ 9) : ∃ a : Nat, id = a ∧ a < 210 ∧ (kd a).1 = t ∧ klen id = (kd a).2.1 ∧ kbas id = (kd a).2.2 := by
  unfold ktag at h
  split at h
  · refine ⟨id.toNat, by omega, ?_, h, rfl, rfl⟩
    exact kd_lt (by rw [h]; exact ht)
  · exact absurd h.symm ht
theorem ent_1 (X : Cx) (σ : Sg) {a : Nat} (h : (kd a).1 = 1) : ent X σ a = .inl (X.2.1 0, (kd a).2.1, .inl (fun k => Int32.ofInt (σ a k))) := by
  rcases hk : kd a with ⟨t, n, b⟩
  rw [hk] at h
  have h : t = 1 := h
  subst h
  unfold ent
  rw [hk]
  rfl
theorem ent_2 (X : Cx) (σ : Sg) {a : Nat} (h : (kd a).1 = 2) : ent X σ a = .inl (X.2.1 1, (kd a).2.1, .inr (.inl (fun k => Int64.ofInt (σ a k)))) := by
  rcases hk : kd a with ⟨t, n, b⟩
  rw [hk] at h
  have h : t = 2 := h
  subst h
  unfold ent
  rw [hk]
  rfl
theorem ent_3 (X : Cx) (σ : Sg) {a : Nat} (h : (kd a).1 = 3) : ent X σ a = .inl (X.2.1 2, (kd a).2.1, .inl (fun k => Int32.ofInt (σ a k))) := by
  rcases hk : kd a with ⟨t, n, b⟩
  rw [hk] at h
  have h : t = 3 := h
  subst h
  unfold ent
  rw [hk]
  rfl
theorem ent_4 (X : Cx) (σ : Sg) {a : Nat} (h : (kd a).1 = 4) : ent X σ a = .inl (X.2.1 3, (kd a).2.1, .inr (.inr (.inr (.inr (fun i => if i < (kd a).2.1 then some (X.2.2 ((kd a).2.2 + i)) else none))))) := by
  rcases hk : kd a with ⟨t, n, b⟩
  rw [hk] at h
  have h : t = 4 := h
  subst h
  unfold ent
  rw [hk]
  rfl
theorem ent_5 (X : Cx) (σ : Sg) {a : Nat} (h : (kd a).1 = 5) : ent X σ a = .inl (X.2.1 4, (kd a).2.1, .inr (.inr (.inr (.inr (fun i => if i < (kd a).2.1 then some (X.2.2 ((kd a).2.2 + i)) else none))))) := by
  rcases hk : kd a with ⟨t, n, b⟩
  rw [hk] at h
  have h : t = 5 := h
  subst h
  unfold ent
  rw [hk]
  rfl
theorem ent_0 (X : Cx) (σ : Sg) {c : Nat} (h : c < 7) : ent X σ c = .inr (c, fvs X.2.2 σ c) := by
  have hk : kd c = (0, c, 0) := by unfold kd; rw [if_pos h]
  unfold ent
  rw [hk]
  rfl
theorem upd_ofI (σ : Sg) (a : Nat) {i : Int} (h0 : 0 ≤ i) (h1 : i < 2147483648) (x : Int) : upd (fun k : Nat => Int32.ofInt (σ a k)) (Int32.ofInt i).toNatClampNeg (Int32.ofInt x) = fun k : Nat => Int32.ofInt (up σ a i x a k) := by
  funext k
  rw [ofI_cl h0 h1]
  unfold upd up
  by_cases e : k = i.toNat
  · have e2 : (k : Int) = i := by omega
    rw [if_pos e, if_pos ⟨rfl, e2⟩]
  · have e2 : ¬ (k : Int) = i := by omega
    simp [e, e2]
theorem upd_ofL (σ : Sg) (a : Nat) {i : Int} (h0 : 0 ≤ i) (h1 : i < 2147483648) (x : Int) : vp_updL (fun k : Nat => Int64.ofInt (σ a k)) (Int32.ofInt i).toNatClampNeg (Int64.ofInt x) = fun k : Nat => Int64.ofInt (up σ a i x a k) := by
  funext k
  rw [ofI_cl h0 h1]
  unfold vp_updL up
  by_cases e : k = i.toNat
  · have e2 : (k : Int) = i := by omega
    rw [if_pos e, if_pos ⟨rfl, e2⟩]
  · have e2 : ¬ (k : Int) = i := by omega
    simp [e, e2]
theorem fvs_up (A : Nat → Nat) (σ : Sg) {c k f : Nat} {x : Int} (hk : (FK c)[k]? = some f) (hf : f < 3) : (fvs A σ c).set k (fval A (fun _ _ => x) c k f) = fvs A (up σ c k x) c := by
  apply List.ext_getElem?
  intro n
  have hl : k < (FK c).length := (List.getElem?_eq_some_iff.mp hk).1
  unfold fvs
  by_cases e : n = k
  · subst e
    rw [List.getElem?_set_self (by simpa using hl), List.getElem?_mapIdx, hk]
    simp only [Option.map_some]
    congr 1
    unfold fval
    match f, hf with
    | 0, _ => simp [up]
    | 1, _ => simp [up]
    | 2, _ => simp [up]
  · rw [List.getElem?_set_ne (fun q => e q.symm), List.getElem?_mapIdx, List.getElem?_mapIdx]
    cases (FK c)[n]? with
    | none => rfl
    | some g =>
      simp only [Option.map_some]
      congr 1
      unfold fval
      have e2 : ¬ (n : Int) = k := by omega
      split <;> simp [up, e2]
def Ev (p : Program) (s : State) (m : MethodId) (args : Array Value) (c : Code) (X : Cx) (o : Nat) (cc : ByteArray) (nL : Nat) : Prop :=
  p.tables.exec = Jvm.exec ∧ c.code = cc ∧ c.maxLocals = nL ∧ s.vm.findClass (RN o) = some m.cls ∧ (∀ w ∈ GG, w.before args s = true) ∧ Sx X s s.heap
def Vx (p : Program) (l : Launch) (e : Env) (R : Room) (s : State) (m : MethodId) (args : Array Value) (below : List Frame) (meth : Method) (c : Code) (X : Cx) (cells slots : Nat) (Q : State → Prop) (nL : Nat) (pc : Nat) (ls : Lv) (st : List AV) (σ : Sg) : Prop :=
  ∀ (H : Heap) (locs : List Loc) (la : Array Slot), va_P X.1 classes (mkW X σ) H → va_S (reg X) s.heap H locs → lv_has la nL (lvs X.2.2 0 ls) → W p l e R s m args below meth c H locs cells slots Q (F0 m pc la (st.map (cv X.2.2)))

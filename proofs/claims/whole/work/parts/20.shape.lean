/-! shapes: what is kept does not hang on the order in which things go -/
def Adj (m : Int → Int) (x y : Int) : Prop := x < y ∧ m x ≠ -1 ∧ m y ≠ -1 ∧ ∀ z, x < z → z < y → m z = -1
def Inn (m : Int → Int) (a : Int) : Prop := ∃ x, 0 ≤ x ∧ Adj m x a ∧ Adj m (m a) (m x)
def Kp (m : Int → Int) (p : Int) : Prop := m p ≠ -1 ∧ (p < m p → ¬ Inn m p) ∧ (m p < p → ¬ Inn m (m p))
/-- (L, m) comes from (L0, m0) by what may go -/
def SR (L0 : Int) (m0 : Int → Int) (L : Int) (m : Int → Int) : Prop := ∃ f : Int → Int, (∀ i j, 0 ≤ i → i < j → j < L → f i < f j) ∧ (∀ i, 0 ≤ i → i < L → 0 ≤ f i ∧ f i < L0) ∧ (∀ i, 0 ≤ i → i < L → m i ≠ -1 → m0 (f i) = f (m i)) ∧ (∀ q, 0 ≤ q → q < L0 → (Kp m0 q ↔ ∃ i, 0 ≤ i ∧ i < L ∧ f i = q ∧ Kp m i))
theorem SR.rfl' (L : Int) (m : Int → Int) : SR L m L m := ⟨fun i => i, fun i j _ h _ => h, fun i h1 h2 => ⟨h1, h2⟩, fun i _ _ _ => rfl, fun q h1 h2 => ⟨fun h => ⟨q, h1, h2, rfl, h⟩, fun ⟨i, _, _, e, h⟩ => by subst e; exact h⟩⟩
theorem SR.one {L0 L1 L2 : Int} {m0 m1 m2 : Int → Int} (w1 : WD L1 m1) (w2 : WD L2 m2) (h1 : SR L0 m0 L1 m1) (h2 : SR L0 m0 L2 m2) (k1 : ∀ i, 0 ≤ i → i < L1 → Kp m1 i) (k2 : ∀ i, 0 ≤ i → i < L2 → Kp m2 i) : L1 = L2 ∧ ∀ i, 0 ≤ i → i < L1 → m1 i = m2 i := by
  obtain ⟨f, f1, f2, f3, f4⟩ := h1
  obtain ⟨g, g1, g2, g3, g4⟩ := h2
  have im : ∀ {La Lb : Int} {ma mb fa fb : Int → Int}, (∀ i j, 0 ≤ i → i < j → j < La → fa i < fa j) → (∀ i j, 0 ≤ i → i < j → j < Lb → fb i < fb j) → (∀ i, 0 ≤ i → i < La → ∃ j, 0 ≤ j ∧ j < Lb ∧ fb j = fa i) → (∀ i, 0 ≤ i → i < Lb → ∃ j, 0 ≤ j ∧ j < La ∧ fa j = fb i) → ∀ (k : Nat) (i : Int), 0 ≤ i → i < k → i < La → i < Lb ∧ fa i = fb i := by
    intro La Lb ma mb fa fb ha hb hab hba k
    induction k with
    | zero => intro i i0 i1; omega
    | succ k ih =>
      intro i i0 i1 i2
      obtain ⟨j, j0, j1, j2⟩ := hab i i0 i2
      rcases Int.lt_trichotomy j i with q | q | q
      · have e := ih j j0 (by omega) (by omega)
        have := ha j i j0 q i2
        omega
      · subst q
        exact ⟨j1, j2.symm⟩
      · obtain ⟨x, x0, x1, x2⟩ := hba i i0 (by omega)
        have hlt := hb i j i0 q j1
        rcases Int.lt_trichotomy x i with q2 | q2 | q2
        · have e := ih x x0 (by omega) (by omega)
          have := hb x i x0 q2 (by omega)
          omega
        · subst q2
          omega
        · have := ha i x i0 q2 x1
          omega
  have a1 : ∀ i, 0 ≤ i → i < L1 → ∃ j, 0 ≤ j ∧ j < L2 ∧ g j = f i := fun i i0 i1 => by
    have := (f4 (f i) (f2 i i0 i1).1 (f2 i i0 i1).2).mpr ⟨i, i0, i1, rfl, k1 i i0 i1⟩
    obtain ⟨j, j0, j1, j2, -⟩ := (g4 (f i) (f2 i i0 i1).1 (f2 i i0 i1).2).mp this
    exact ⟨j, j0, j1, j2⟩
  have a2 : ∀ i, 0 ≤ i → i < L2 → ∃ j, 0 ≤ j ∧ j < L1 ∧ f j = g i := fun i i0 i1 => by
    have := (g4 (g i) (g2 i i0 i1).1 (g2 i i0 i1).2).mpr ⟨i, i0, i1, rfl, k2 i i0 i1⟩
    obtain ⟨j, j0, j1, j2, -⟩ := (f4 (g i) (g2 i i0 i1).1 (g2 i i0 i1).2).mp this
    exact ⟨j, j0, j1, j2⟩
  have b1 := fun i i0 i1 => im (ma := m1) (mb := m2) f1 g1 a1 a2 (i + 1).toNat i i0 (by omega) i1
  have b2 := fun i i0 i1 => im (ma := m1) (mb := m2) g1 f1 a2 a1 (i + 1).toNat i i0 (by omega) i1
  have eL : L1 = L2 := by
    have c1 := w1.1
    have c2 := w2.1
    rcases Int.lt_trichotomy L1 L2 with q | q | q
    · have := (b2 L1 c1 q).1; omega
    · exact q
    · have := (b1 L2 c2 q).1; omega
  refine ⟨eL, fun i i0 i1 => ?_⟩
  have e1 := f3 i i0 i1 (k1 i i0 i1).1
  have e2 := g3 i i0 (by omega) (k2 i i0 (by omega)).1
  have e3 := b1 i i0 i1
  rw [e3.2, e2] at e1
  rcases w1.2.2.1 i i0 i1 with q | q
  · exact absurd q (k1 i i0 i1).1
  rcases w2.2.2.1 i i0 (by omega) with q2 | q2
  · exact absurd q2 (k2 i i0 (by omega)).1
  have e4 := b1 (m1 i) q.1 q.2.1
  rw [e4.2] at e1
  rcases Int.lt_trichotomy (m1 i) (m2 i) with z | z | z
  · have := g1 _ _ q.1 z q2.2.1; omega
  · exact z
  · have := g1 _ _ q2.1 z (by omega); omega
/-- points without chord go -/
theorem SR.drop {L0 L L' : Int} {m0 m m' : Int → Int} (hw : WD L m) (hw' : WD L' m') (h : SR L0 m0 L m) (g : Int → Int) (g1 : ∀ i j, 0 ≤ i → i < j → j < L' → g i < g j) (g2 : ∀ i, 0 ≤ i → i < L' → 0 ≤ g i ∧ g i < L) (g3 : ∀ p, 0 ≤ p → p < L → m p ≠ -1 → ∃ i, 0 ≤ i ∧ i < L' ∧ g i = p) (g4 : ∀ i, 0 ≤ i → i < L' → (m' i = -1 → m (g i) = -1) ∧ (m' i ≠ -1 → m (g i) = g (m' i))) : SR L0 m0 L' m' := by
  obtain ⟨f, f1, f2, f3, f4⟩ := h
  have inj : ∀ i j, 0 ≤ i → i < L' → 0 ≤ j → j < L' → g i < g j → i < j := fun i j i0 i1 j0 j1 hh => by
    rcases Int.lt_trichotomy i j with q | q | q
    · exact q
    · subst q; omega
    · have := g1 j i j0 q i1; omega
  have jo : ∀ i, 0 ≤ i → i < L' → (m' i ≠ -1 ↔ m (g i) ≠ -1) := fun i i0 i1 => ⟨fun q => by
      have := (g4 i i0 i1).2 q
      rcases hw'.2.2.1 i i0 i1 with e | e
      · exact absurd e q
      · have := g2 _ e.1 e.2.1; omega, fun q z => q ((g4 i i0 i1).1 z)⟩
  have adj : ∀ x y, 0 ≤ x → x < L' → 0 ≤ y → y < L' → (Adj m' x y ↔ Adj m (g x) (g y)) := by
    intro x y x0 x1 y0 y1
    constructor
    · rintro ⟨a1, a2, a3, a4⟩
      refine ⟨g1 x y x0 a1 y1, (jo x x0 x1).mp a2, (jo y y0 y1).mp a3, fun z z0 z1 => ?_⟩
      apply Classical.byContradiction
      intro q
      obtain ⟨i, i0, i1, i2⟩ := g3 z (by have := g2 x x0 x1; omega) (by have := g2 y y0 y1; omega) q
      subst i2
      have := a4 i (inj x i x0 x1 i0 i1 z0) (inj i y i0 i1 y0 y1 z1)
      exact (jo i i0 i1).mpr q this
    · rintro ⟨a1, a2, a3, a4⟩
      refine ⟨inj x y x0 x1 y0 y1 a1, (jo x x0 x1).mpr a2, (jo y y0 y1).mpr a3, fun z z0 z1 => ?_⟩
      apply Classical.byContradiction
      intro q
      exact (jo z (by omega) (by omega)).mp q (a4 (g z) (g1 x z x0 z0 (by omega)) (g1 z y (by omega) z1 y1))
  have inn : ∀ a, 0 ≤ a → a < L' → m' a ≠ -1 → (Inn m' a ↔ Inn m (g a)) := by
    intro a a0 a1 a2
    have ea := (g4 a a0 a1).2 a2
    rcases hw'.2.2.1 a a0 a1 with e | e
    · exact absurd e a2
    constructor
    · rintro ⟨x, x0, x1, x2⟩
      have hx : x < L' := by have := x1.1; omega
      have ex := (g4 x x0 hx).2 x1.2.1
      rcases hw'.2.2.1 x x0 hx with e2 | e2
      · exact absurd e2 x1.2.1
      refine ⟨g x, (g2 x x0 hx).1, (adj x a x0 hx a0 a1).mp x1, ?_⟩
      rw [ea, ex]
      exact (adj _ _ e.1 e.2.1 e2.1 e2.2.1).mp x2
    · rintro ⟨y, y0, y1, y2⟩
      have hy : y < L := by have := y1.1; have := g2 a a0 a1; omega
      obtain ⟨x, x0, x1, x2⟩ := g3 y y0 hy y1.2.1
      subst x2
      have hx := (jo x x0 x1).mpr y1.2.1
      have ex := (g4 x x0 x1).2 hx
      rcases hw'.2.2.1 x x0 x1 with e2 | e2
      · exact absurd e2 hx
      refine ⟨x, x0, (adj x a x0 x1 a0 a1).mpr y1, ?_⟩
      rw [ea, ex] at y2
      exact (adj _ _ e.1 e.2.1 e2.1 e2.2.1).mpr y2
  have kp : ∀ i, 0 ≤ i → i < L' → (Kp m' i ↔ Kp m (g i)) := by
    intro i i0 i1
    by_cases q : m' i = -1
    · have q2 : m (g i) = -1 := (g4 i i0 i1).1 q
      exact ⟨fun hk => absurd q hk.1, fun hk => absurd q2 hk.1⟩
    · have q2 := (jo i i0 i1).mp q
      have ei := (g4 i i0 i1).2 q
      rcases hw'.2.2.1 i i0 i1 with e | e
      · exact absurd e q
      have n2 : m' (m' i) ≠ -1 := by rw [e.2.2.2]; omega
      have l1 : i < m' i ↔ g i < m (g i) := ⟨fun hh => by rw [ei]; exact g1 _ _ i0 hh e.2.1, fun hh => by rw [ei] at hh; exact inj _ _ i0 i1 e.1 e.2.1 hh⟩
      have l2 : m' i < i ↔ m (g i) < g i := ⟨fun hh => by rw [ei]; exact g1 _ _ e.1 hh i1, fun hh => by rw [ei] at hh; exact inj _ _ e.1 e.2.1 i0 i1 hh⟩
      unfold Kp
      rw [l1, l2, inn i i0 i1 q, inn (m' i) e.1 e.2.1 n2, ei]
      exact ⟨fun ⟨_, h2⟩ => ⟨by rw [← ei]; exact q2, h2⟩, fun ⟨_, h2⟩ => ⟨q, h2⟩⟩
  refine ⟨fun i => f (g i), fun i j i0 i1 i2 => f1 _ _ (g2 i i0 (by omega)).1 (g1 i j i0 i1 i2) (g2 j (by omega) i2).2, fun i i0 i1 => f2 _ (g2 i i0 i1).1 (g2 i i0 i1).2, fun i i0 i1 i2 => ?_, fun q q0 q1 => ?_⟩
  · show m0 (f (g i)) = f (g (m' i))
    rw [f3 (g i) (g2 i i0 i1).1 (g2 i i0 i1).2 ((jo i i0 i1).mp i2), (g4 i i0 i1).2 i2]
  · rw [f4 q q0 q1]
    constructor
    · rintro ⟨p, p0, p1, p2, p3⟩
      obtain ⟨i, i0, i1, i2⟩ := g3 p p0 p1 p3.1
      subst i2
      exact ⟨i, i0, i1, p2, (kp i i0 i1).mpr p3⟩
    · rintro ⟨i, i0, i1, i2, i3⟩
      exact ⟨g i, (g2 i i0 i1).1, (g2 i i0 i1).2, i2, (kp i i0 i1).mp i3⟩
def un2 (m : Int → Int) (a b : Int) : Int → Int := fun c => if c = b then -1 else if c = a then -1 else m c
theorem WD.unlink {L : Int} {m : Int → Int} (h : WD L m) {a : Int} (h0 : 0 ≤ a) (h1 : a < L) (ha : m a ≠ -1) : WD L (un2 m a (m a)) := by
  rcases h.2.2.1 a h0 h1 with e | e
  · exact absurd e ha
  refine ⟨h.1, h.2.1, fun c c0 c1 => ?_, fun c c0 c1 => ?_⟩
  · unfold un2
    by_cases q : c = m a
    · rw [if_pos q]; exact Or.inl rfl
    · rw [if_neg q]
      by_cases q2 : c = a
      · rw [if_pos q2]; exact Or.inl rfl
      · rw [if_neg q2]
        rcases h.2.2.1 c c0 c1 with e2 | e2
        · exact Or.inl e2
        · right
          have n1 : m c ≠ m a := fun z => by
            have := e2.2.2.2
            rw [z, e.2.2.2] at this
            omega
          have n2 : m c ≠ a := fun z => by
            have := e2.2.2.2
            rw [z] at this
            omega
          rw [if_neg n1, if_neg n2]
          exact e2
  · unfold un2
    rw [if_neg (by omega), if_neg (by omega)]
    exact h.2.2.2 c c0 c1
/-- an inner chord goes -/
theorem SR.unl {L0 L : Int} {m0 m : Int → Int} (hw : WD L m) (h : SR L0 m0 L m) {a : Int} (a0 : 0 ≤ a) (a1 : a < L) (ha : a < m a) (hi : Inn m a) : SR L0 m0 L (un2 m a (m a)) := by
  obtain ⟨f, f1, f2, f3, f4⟩ := h
  obtain ⟨x0, hx0, ⟨p1, p2, p3, p4⟩, ⟨q1, q2, q3, q4⟩⟩ := hi
  have ea : 0 ≤ m a ∧ m a < L ∧ m a ≠ a ∧ m (m a) = a := by
    rcases hw.2.2.1 a a0 a1 with e | e
    · omega
    · exact e
  have ex0 : 0 ≤ m x0 ∧ m x0 < L ∧ m x0 ≠ x0 ∧ m (m x0) = x0 := by
    rcases hw.2.2.1 x0 hx0 (by omega) with e | e
    · exact absurd e p2
    · exact e
  generalize hb : m a = b at ea ha q1 q2 q3 q4
  have hy0 : b < m x0 := q1
  have un : ∀ z, z ≠ a → z ≠ b → un2 m a b z = m z := fun z h1 h2 => by unfold un2; rw [if_neg h2, if_neg h1]
  have una : un2 m a b a = -1 := by unfold un2; rw [if_neg (by omega), if_pos rfl]
  have unb : un2 m a b b = -1 := by unfold un2; rw [if_pos rfl]
  have keep : ∀ z, un2 m a b z ≠ -1 → z ≠ a ∧ z ≠ b ∧ m z ≠ -1 := fun z hz => by
    refine ⟨fun e => hz (by rw [e]; exact una), fun e => hz (by rw [e]; exact unb), fun e => ?_⟩
    by_cases e1 : z = a
    · rw [e1, una] at hz; exact hz rfl
    · by_cases e2 : z = b
      · rw [e2, unb] at hz; exact hz rfl
      · rw [un z e1 e2] at hz; exact hz e
  have zer : ∀ z, un2 m a b z = -1 → z ≠ a → z ≠ b → m z = -1 := fun z hz h1 h2 => by rw [un z h1 h2] at hz; exact hz
  have inn : ∀ dd, 0 ≤ dd → dd < L → dd ≠ a → dd ≠ b → m dd ≠ -1 → dd < m dd → (Inn (un2 m a b) dd ↔ Inn m dd) := by
    intro dd d0 d1 da db dj dl
    have ed : 0 ≤ m dd ∧ m dd < L ∧ m dd ≠ dd ∧ m (m dd) = dd := by
      rcases hw.2.2.1 dd d0 d1 with e | e
      · exact absurd e dj
      · exact e
    generalize he : m dd = e at ed dl
    have ea1 : e ≠ a := fun z => by have := ed.2.2.2; rw [z, hb] at this; omega
    have eb1 : e ≠ b := fun z => by have := ed.2.2.2; rw [z, ea.2.2.2] at this; omega
    have hmd : un2 m a b dd = e := by rw [un dd da db, he]
    constructor
    · rintro ⟨x, hx, ⟨r1, r2, r3, r4⟩, ⟨s1, s2, s3, s4⟩⟩
      rw [hmd] at s1 s2 s4
      obtain ⟨xa, xb, xj⟩ := keep x r2
      have ex : 0 ≤ m x ∧ m x < L ∧ m x ≠ x ∧ m (m x) = x := by
        rcases hw.2.2.1 x hx (by omega) with z | z
        · exact absurd z xj
        · exact z
      have hmx : un2 m a b x = m x := un x xa xb
      rw [hmx] at s1 s3 s4
      generalize hyy : m x = y at ex s1 s3 s4
      -- a joined point of m between x and dd is a or b
      have nb1 : ∀ z, x < z → z < dd → z ≠ a → z ≠ b → m z = -1 := fun z z0 z1 z2 z3 => zer z (r4 z z0 z1) z2 z3
      have nb2 : ∀ z, e < z → z < y → z ≠ a → z ≠ b → m z = -1 := fun z z0 z1 z2 z3 => zer z (s4 z z0 z1) z2 z3
      by_cases c1 : x < a ∧ a < dd
      · have hxx : x = x0 := by
          rcases Int.lt_trichotomy x x0 with z | z | z
          · exact absurd (nb1 x0 z (by omega) (by omega) (by omega)) p2
          · exact z
          · exact absurd (p4 x z c1.1) xj
        subst hxx
        rw [hyy] at q4 q3 hy0
        have heb : e < b := by
          rcases Int.lt_trichotomy e b with z | z | z
          · exact z
          · exact absurd z eb1
          · have := q4 e z s1
            rw [ed.2.2.2] at this
            omega
        refine ⟨a, a0, ⟨c1.2, p3, dj, fun z z0 z1 => nb1 z (by omega) z1 (by omega) (by omega)⟩, ?_⟩
        rw [he, hb]
        exact ⟨heb, by rw [ed.2.2.2]; omega, q2, fun z z0 z1 => nb2 z z0 (by omega) (by omega) (by omega)⟩
      · by_cases c2 : x < b ∧ b < dd
        · exfalso
          have : m x0 = dd := by
            rcases Int.lt_trichotomy (m x0) dd with z | z | z
            · exact absurd (nb1 (m x0) (by omega) z (by omega) (by omega)) q3
            · exact z
            · exact absurd (q4 dd c2.2 z) dj
          have h9 := ex0.2.2.2
          rw [this, he] at h9
          omega
        · by_cases c3 : e < a ∧ a < y
          · exfalso
            have : x0 = e := by
              rcases Int.lt_trichotomy x0 e with z | z | z
              · have := p4 e z c3.1
                rw [ed.2.2.2] at this
                omega
              · exact z
              · exact absurd (nb2 x0 z (by omega) (by omega) (by omega)) p2
            have h9 := ed.2.2.2
            rw [← this] at h9
            omega
          · by_cases c4 : e < b ∧ b < y
            · exfalso
              have : m x0 = y := by
                rcases Int.lt_trichotomy (m x0) y with z | z | z
                · exact absurd (nb2 (m x0) (by omega) z (by omega) (by omega)) q3
                · exact z
                · have := q4 y c4.2 z
                  rw [ex.2.2.2] at this
                  omega
              have h9 := ex0.2.2.2
              rw [this, ex.2.2.2] at h9
              subst h9
              rcases Int.lt_trichotomy dd a with z | z | z
              · exact absurd (p4 dd (by omega) z) dj
              · exact da z
              · omega
            · refine ⟨x, hx, ⟨r1, xj, dj, fun z z0 z1 => nb1 z z0 z1 (by omega) (by omega)⟩, ?_⟩
              rw [he, hyy]
              exact ⟨s1, by rw [ed.2.2.2]; omega, by rw [ex.2.2.2]; omega, fun z z0 z1 => nb2 z z0 z1 (by omega) (by omega)⟩
    · rintro ⟨x, hx, ⟨r1, r2, r3, r4⟩, ⟨s1, s2, s3, s4⟩⟩
      rw [he] at s1 s2 s4
      have ex : 0 ≤ m x ∧ m x < L ∧ m x ≠ x ∧ m (m x) = x := by
        rcases hw.2.2.1 x hx (by omega) with z | z
        · exact absurd z r2
        · exact z
      have dn : ∀ z, m z = -1 → un2 m a b z = -1 := fun z hz => by
        unfold un2
        split
        · rfl
        · split
          · rfl
          · exact hz
      by_cases c1 : x = a
      · subst c1
        rw [hb] at s1 s3 s4
        refine ⟨x0, hx0, ⟨by omega, by rw [un x0 (by omega) (by omega)]; exact p2, by rw [hmd]; omega, fun z z0 z1 => ?_⟩, ?_⟩
        · by_cases z2 : z = x
          · rw [z2]; exact una
          · rcases Int.lt_trichotomy z x with z3 | z3 | z3
            · exact dn z (p4 z z0 z3)
            · exact absurd z3 z2
            · exact dn z (r4 z z3 z1)
        · rw [hmd, un x0 (by omega) (by omega)]
          refine ⟨by omega, by rw [un e ea1 eb1, ed.2.2.2]; omega, by rw [un _ (by omega) (by omega)]; exact q3, fun z z0 z1 => ?_⟩
          by_cases z2 : z = b
          · rw [z2]; exact unb
          · rcases Int.lt_trichotomy z b with z3 | z3 | z3
            · exact dn z (s4 z z0 z3)
            · exact absurd z3 z2
            · exact dn z (q4 z z3 z1)
      · by_cases c2 : x = b
        · subst c2
          rw [ea.2.2.2] at s1
          omega
        · have n1 : m x ≠ a := fun z => by have := ex.2.2.2; rw [z, hb] at this; omega
          have n2 : m x ≠ b := fun z => by have := ex.2.2.2; rw [z, ea.2.2.2] at this; omega
          refine ⟨x, hx, ⟨r1, by rw [un x c1 c2]; exact r2, by rw [hmd]; omega, fun z z0 z1 => dn z (r4 z z0 z1)⟩, ?_⟩
          rw [hmd, un x c1 c2]
          exact ⟨s1, by rw [un e ea1 eb1]; exact s2, by rw [un _ n1 n2]; exact s3, fun z z0 z1 => dn z (s4 z z0 z1)⟩
  have hia : Inn m a := ⟨x0, hx0, ⟨p1, p2, p3, p4⟩, by rw [hb]; exact ⟨q1, q2, q3, q4⟩⟩
  have kp : ∀ i, 0 ≤ i → i < L → (Kp m i ↔ Kp (un2 m a b) i) := by
    intro i i0 i1
    by_cases e1 : i = a
    · subst e1
      exact ⟨fun hk => absurd hia (hk.2.1 (by omega)), fun hk => absurd una hk.1⟩
    · by_cases e2 : i = b
      · subst e2
        refine ⟨fun hk => ?_, fun hk => absurd unb hk.1⟩
        have h9 := hk.2.2
        rw [ea.2.2.2] at h9
        exact absurd hia (h9 (by omega))
      · by_cases e3 : m i = -1
        · exact ⟨fun hk => absurd e3 hk.1, fun hk => absurd (by rw [un i e1 e2]; exact e3) hk.1⟩
        · have ei : 0 ≤ m i ∧ m i < L ∧ m i ≠ i ∧ m (m i) = i := by
            rcases hw.2.2.1 i i0 i1 with z | z
            · exact absurd z e3
            · exact z
          have n1 : m i ≠ a := fun z => by have := ei.2.2.2; rw [z, hb] at this; omega
          have n2 : m i ≠ b := fun z => by have := ei.2.2.2; rw [z, ea.2.2.2] at this; omega
          unfold Kp
          rw [un i e1 e2]
          constructor
          · rintro ⟨k1, k2, k3⟩
            exact ⟨k1, fun z => fun w => k2 z ((inn i i0 i1 e1 e2 e3 z).mp w), fun z => fun w => k3 z ((inn (m i) ei.1 ei.2.1 n1 n2 (by rw [ei.2.2.2]; omega) (by rw [ei.2.2.2]; exact z)).mp w)⟩
          · rintro ⟨k1, k2, k3⟩
            exact ⟨k1, fun z => fun w => k2 z ((inn i i0 i1 e1 e2 e3 z).mpr w), fun z => fun w => k3 z ((inn (m i) ei.1 ei.2.1 n1 n2 (by rw [ei.2.2.2]; omega) (by rw [ei.2.2.2]; exact z)).mpr w)⟩
  refine ⟨f, f1, f2, fun i i0 i1 i2 => ?_, fun q q0 q1 => ?_⟩
  · obtain ⟨h1, h2, h3⟩ := keep i i2
    rw [un i h1 h2]
    exact f3 i i0 i1 h3
  · rw [f4 q q0 q1]
    exact ⟨fun ⟨i, i0, i1, i2, i3⟩ => ⟨i, i0, i1, i2, (kp i i0 i1).mp i3⟩, fun ⟨i, i0, i1, i2, i3⟩ => ⟨i, i0, i1, i2, (kp i i0 i1).mpr i3⟩⟩
/-- where all points are joined and no chord lies next inside another, all is kept -/
theorem Kp_all {L : Int} {m : Int → Int} (hw : WD L m) (hj : ∀ i, 0 ≤ i → i < L → m i ≠ -1) (hn : ∀ a, 0 ≤ a → a + 1 < L → a + 1 < m (a + 1) → m a = m (a + 1) + 1 → False) : ∀ i, 0 ≤ i → i < L → Kp m i := by
  have key : ∀ a, 0 ≤ a → a < L → a < m a → ¬ Inn m a := by
    rintro a a0 a1 a2 ⟨x, x0, ⟨r1, r2, r3, r4⟩, ⟨s1, s2, s3, s4⟩⟩
    have ea : 0 ≤ m a ∧ m a < L := by
      rcases hw.2.2.1 a a0 a1 with z | z
      · omega
      · exact ⟨z.1, z.2.1⟩
    have ex : 0 ≤ m x ∧ m x < L := by
      rcases hw.2.2.1 x x0 (by omega) with z | z
      · exact absurd z r2
      · exact ⟨z.1, z.2.1⟩
    have e1 : x + 1 = a := by
      apply Classical.byContradiction
      intro q
      exact hj (x + 1) (by omega) (by omega) (r4 (x + 1) (by omega) (by omega))
    have e2 : m a + 1 = m x := by
      apply Classical.byContradiction
      intro q
      exact hj (m a + 1) (by omega) (by omega) (s4 (m a + 1) (by omega) (by omega))
    subst e1
    exact hn x x0 a1 a2 (by omega)
  intro i i0 i1
  refine ⟨hj i i0 i1, key i i0 i1, fun q => ?_⟩
  rcases hw.2.2.1 i i0 i1 with z | z
  · exact absurd z (hj i i0 i1)
  · exact key (m i) z.1 z.2.1 (by rw [z.2.2.2]; exact q)

/-! the full drawing of a number, as a relation -/
def frc (m : Int → Int) (i : Int) (k : Nat) : Int := rs (fun c => if m c = -1 then 1 else 0) i k
theorem frc_r (m : Int → Int) (i : Int) (k : Nat) : 0 ≤ frc m i k ∧ frc m i k ≤ k := rs_01 k i (fun j _ _ => by split <;> omega)
theorem frc_s (m : Int → Int) (i : Int) (k : Nat) : frc m i (k + 1) = (if m i = -1 then 1 else 0) + frc m (i + 1) k := rfl
theorem frc_last (m : Int → Int) (i : Int) (k : Nat) : frc m i (k + 1) = frc m i k + (if m (i + k) = -1 then 1 else 0) := rs_last _ k i
theorem frc_nth (m : Int → Int) : ∀ (k : Nat) (i s : Int), 0 ≤ s → s < frc m i k → ∃ b, i ≤ b ∧ b < i + k ∧ m b = -1 ∧ s = frc m i (b - i).toNat
  | 0, i, s, h0, h => by simp [frc, rs] at h; omega
  | k + 1, i, s, h0, h => by
    by_cases q : s < frc m i k
    · obtain ⟨b, h1, h2, h3, h4⟩ := frc_nth m k i s h0 q
      exact ⟨b, h1, by omega, h3, h4⟩
    · rw [frc_last] at h
      by_cases c : m (i + k) = -1
      · rw [if_pos c] at h
        refine ⟨i + k, by omega, by omega, c, ?_⟩
        have e : (i + (k : Int) - i).toNat = k := by omega
        rw [e]
        omega
      · rw [if_neg c] at h
        omega
theorem frc_split (m : Int → Int) (i : Int) (k1 k2 : Nat) : frc m i (k1 + k2) = frc m i k1 + frc m (i + k1) k2 := rs_split _ k1 k2 i
theorem frc_lt (m : Int → Int) {i b c : Int} (h1 : i ≤ b) (h2 : b < c) (hb : m b = -1) : frc m i (b - i).toNat < frc m i (c - i).toNat := by
  have e : (c - i).toNat = (b - i).toNat + ((c - (b + 1)).toNat + 1) := by omega
  rw [e, frc_split, frc_s]
  have e2 : i + ((b - i).toNat : Int) = b := by omega
  rw [e2, if_pos hb]
  have := frc_r m (b + 1) (c - (b + 1)).toNat
  omega
theorem frc_congr {m m2 : Int → Int} (i : Int) (k : Nat) (h : ∀ j, i ≤ j → j < i + k → m j = m2 j) : frc m i k = frc m2 i k := rs_congr k i (fun j h1 h2 => by rw [h j h1 h2])
def lk2 (m : Int → Int) (a b : Int) : Int → Int := fun c => if c = b then a else if c = a then b else m c
def RowR (L : Int) : Nat → (Int → Int) → Int → (Int → Int) → Prop
  | 0, m, _, m' => ∀ b, 0 ≤ b → b < 24 → m' b = m b
  | j + 1, m, rest, m' => ∃ a b, 0 ≤ a ∧ a < b ∧ b < L ∧ (∀ c, 0 ≤ c → c < a → m c ≠ -1) ∧ m a = -1 ∧ m b = -1 ∧ rest.tdiv (fdv j) = frc m (a + 1) (b - (a + 1)).toNat ∧ RowR L j (lk2 m a b) (rest.tmod (fdv j)) m'
theorem RowR.one {L : Int} (hL : L ≤ 24) : ∀ (j : Nat) (m m2 : Int → Int) (rest : Int) (x y : Int → Int), (∀ b, 0 ≤ b → b < 24 → m b = m2 b) → RowR L j m rest x → RowR L j m2 rest y → ∀ b, 0 ≤ b → b < 24 → x b = y b
  | 0, m, m2, rest, x, y, he, h1, h2 => fun b hb0 hb1 => by rw [h1 b hb0 hb1, h2 b hb0 hb1, he b hb0 hb1]
  | j + 1, m, m2, rest, x, y, he, h1, h2 => by
    obtain ⟨a, b, g1, g2, g3, g4, g5, g6, g7, g8⟩ := h1
    obtain ⟨a', b', k1, k2, k3, k4, k5, k6, k7, k8⟩ := h2
    have ea : a = a' := by
      rcases Int.lt_trichotomy a a' with q | q | q
      · exact absurd (by rw [← he a g1 (by omega)]; exact g5) (k4 a g1 q)
      · exact q
      · exact absurd (by rw [he a' k1 (by omega)]; exact k5) (g4 a' k1 q)
    subst ea
    have ec : frc m2 (a + 1) (b' - (a + 1)).toNat = frc m (a + 1) (b' - (a + 1)).toNat := frc_congr _ _ (fun j h1 h2 => (he j (by omega) (by omega)).symm)
    have eb : b = b' := by
      rcases Int.lt_trichotomy b b' with q | q | q
      · have := frc_lt m (i := a + 1) (by omega) q g6
        omega
      · exact q
      · have h6 : m b' = -1 := by rw [he b' (by omega) (by omega)]; exact k6
        have := frc_lt m (i := a + 1) (by omega) q h6
        omega
    subst eb
    exact RowR.one hL j _ _ _ x y (fun c h1 h2 => by
      unfold lk2
      rw [he c h1 h2]) g8 k8
/-- linking two free points keeps the drawing -/
theorem WD.link {L : Int} {m : Int → Int} (h : WD L m) {a b : Int} (h0 : 0 ≤ a) (h1 : a < L) (h2 : 0 ≤ b) (h3 : b < L) (hab : a ≠ b) (ha : m a = -1) (hb : m b = -1) : WD L (lk2 m a b) := by
  refine ⟨h.1, h.2.1, fun c c0 c1 => ?_, fun c c0 c1 => ?_⟩
  · unfold lk2
    by_cases q : c = b
    · subst q
      right
      rw [if_pos rfl, if_neg hab, if_pos rfl]
      omega
    · rw [if_neg q]
      by_cases q2 : c = a
      · subst q2
        right
        rw [if_pos rfl, if_pos rfl]
        omega
      · rw [if_neg q2]
        rcases h.2.2.1 c c0 c1 with e | ⟨e1, e2, e3, e4⟩
        · exact Or.inl e
        · right
          have n1 : m c ≠ b := fun z => by rw [z] at e4; omega
          have n2 : m c ≠ a := fun z => by rw [z] at e4; omega
          rw [if_neg n1, if_neg n2]
          exact ⟨e1, e2, e3, e4⟩
  · unfold lk2
    rw [if_neg (by omega), if_neg (by omega)]
    exact h.2.2.2 c c0 c1
theorem up_lk2 (σ : Sg) (id a b : Int) : (up (up σ id a b) id b a) id = lk2 (σ id) a b := by
  funext c
  unfold up lk2
  by_cases q : c = b
  · rw [if_pos ⟨rfl, q⟩, if_pos q]
  · rw [if_neg (fun z => q z.2), if_neg q]
    by_cases q2 : c = a
    · rw [if_pos ⟨rfl, q2⟩, if_pos q2]
    · rw [if_neg (fun z => q2 z.2), if_neg q2]
theorem fdv_pos : ∀ j : Nat, j < 13 → 0 < fdv j ∧ fdv j < 1000000000000 ∧ (j = 0 ∨ fdv j = (2 * j - 1) * fdv ((j : Int) - 1)) := by decide
theorem fdv_s {j : Int} (h0 : 0 ≤ j) (h1 : j < 13) : 0 < fdv j ∧ fdv j < 1000000000000 ∧ (j = 0 ∨ fdv j = (2 * j - 1) * fdv (j - 1)) := by
  have := fdv_pos j.toNat (by omega)
  have e : (j.toNat : Int) = j := by omega
  rw [e] at this
  refine ⟨this.1, this.2.1, ?_⟩
  rcases this.2.2 with q | q
  · exact Or.inl (by omega)
  · exact Or.inr q
theorem frc_link {m : Int → Int} {a b L : Int} (h0 : 0 ≤ a) (hab : a < b) (hb : b < L) (ha : m a = -1) (hb1 : m b = -1) : frc (lk2 m a b) 0 L.toNat = frc m 0 L.toNat - 2 := by
  have key : ∀ x : Int → Int, frc x 0 L.toNat = frc x 0 a.toNat + ((if x a = -1 then 1 else 0) + (frc x (a + 1) (b - (a + 1)).toNat + ((if x b = -1 then 1 else 0) + frc x (b + 1) (L - (b + 1)).toNat))) := by
    intro x
    have e : L.toNat = a.toNat + (((b - (a + 1)).toNat + ((L - (b + 1)).toNat + 1)) + 1) := by omega
    rw [e, frc_split, frc_s, frc_split, frc_s]
    have e1 : 0 + (a.toNat : Int) = a := by omega
    rw [e1]
    have e2 : a + 1 + ((b - (a + 1)).toNat : Int) = b := by omega
    rw [e2]
  rw [key m, key (lk2 m a b), if_pos ha, if_pos hb1]
  have f1 : frc (lk2 m a b) 0 a.toNat = frc m 0 a.toNat := frc_congr _ _ (fun j h1 h2 => by unfold lk2; rw [if_neg (by omega), if_neg (by omega)])
  have f2 : frc (lk2 m a b) (a + 1) (b - (a + 1)).toNat = frc m (a + 1) (b - (a + 1)).toNat := frc_congr _ _ (fun j h1 h2 => by unfold lk2; rw [if_neg (by omega), if_neg (by omega)])
  have f3 : frc (lk2 m a b) (b + 1) (L - (b + 1)).toNat = frc m (b + 1) (L - (b + 1)).toNat := frc_congr _ _ (fun j h1 h2 => by unfold lk2; rw [if_neg (by omega), if_neg (by omega)])
  have f4 : lk2 m a b a = b := by unfold lk2; rw [if_neg (by omega), if_pos rfl]
  have f5 : lk2 m a b b = a := by unfold lk2; rw [if_pos rfl]
  rw [f1, f2, f3, f4, f5, if_neg (by omega), if_neg (by omega)]
  omega
/-- with 2 (j + 1) free points there is a first one, and a partner behind any number of blocks -/
theorem row_next {L : Int} {m : Int → Int} {j : Nat} {rest : Int} (hL : 0 ≤ L) (hj : j < 12) (hf : frc m 0 L.toNat = 2 * (j + 1)) (h0 : 0 ≤ rest) (h1 : rest < fdv ((j : Int) + 1)) {a : Int} (ha0 : 0 ≤ a) (ha1 : a < L) (ha : m a = -1) (hall : ∀ c, 0 ≤ c → c < a → m c ≠ -1) :
    (∃ b, a < b ∧ b < L ∧ m b = -1 ∧ rest.tdiv (fdv j) = frc m (a + 1) (b - (a + 1)).toNat) ∧ 0 ≤ rest.tmod (fdv j) ∧ rest.tmod (fdv j) < fdv j := by
  have hp := fdv_s (j := (j : Int)) (by omega) (by omega)
  have hq := fdv_s (j := (j : Int) + 1) (by omega) (by omega)
  have hfa : frc m (a + 1) (L - (a + 1)).toNat = 2 * j + 1 := by
    have e : L.toNat = a.toNat + ((L - (a + 1)).toNat + 1) := by omega
    rw [e, frc_split, frc_s] at hf
    have e1 : 0 + (a.toNat : Int) = a := by omega
    rw [e1, if_pos ha] at hf
    have z : frc m 0 a.toNat = 0 := rs_zero _ _ (fun c c0 c1 => by rw [if_neg (hall c c0 (by omega))])
    omega
  have hq2 : fdv ((j : Int) + 1) = (2 * (j : Int) + 1) * fdv j := by
    rcases hq.2.2 with q | q
    · omega
    · rw [q]
      have e : 2 * ((j : Int) + 1) - 1 = 2 * j + 1 := by omega
      have e2 : (j : Int) + 1 - 1 = j := by omega
      rw [e, e2]
  rw [Int.tdiv_eq_ediv_of_nonneg h0, Int.tmod_eq_emod_of_nonneg h0]
  have hd : rest / fdv j < 2 * j + 1 := by
    rw [Int.ediv_lt_iff_lt_mul hp.1]
    omega
  obtain ⟨b, b1, b2, b3, b4⟩ := frc_nth m (L - (a + 1)).toNat (a + 1) (rest / fdv j) (Int.ediv_nonneg h0 (by omega)) (by omega)
  exact ⟨⟨b, by omega, by omega, b3, b4⟩, Int.emod_nonneg _ (by omega), Int.emod_lt_of_pos _ hp.1⟩
theorem frc_all (m : Int → Int) (i : Int) (k : Nat) (h : ∀ c, i ≤ c → c < i + k → m c = -1) : frc m i k = k := by
  have : ∀ (k : Nat) (i : Int), (∀ c, i ≤ c → c < i + k → m c = -1) → frc m i k = k := by
    intro k
    induction k with
    | zero => intro i _; rfl
    | succ k ih =>
      intro i h
      rw [frc_s, if_pos (h i (by omega) (by omega)), ih (i + 1) (fun c h1 h2 => h c (by omega) (by omega))]
      omega
  exact this k i h
set_option maxRecDepth 100000 in
theorem r_X1_becomeFull (D : Nat) (σ : Sg) (n k : Int) (hn : 0 ≤ n) (hn2 : n ≤ 12) (hk : 0 ≤ k) (hk2 : k < fdv n) : ∃ τ, Ret (D + 3) miX1_becomeFull [aR 1, aI n, aL k] σ none τ ∧ (∀ a b, a ≠ 7 → ¬ (a = 1 ∧ b = 0) → τ a b = σ a b) ∧ τ 1 0 = 2 * n ∧ WD (2 * n) (τ 7) ∧ RowR (2 * n) n.toNat (fun _ => -1) k (τ 7) := by
  have hf0 := (fdv_s hn (by omega)).2.1
  have loop : ∀ (j : Nat) (i : Int) (ρ : Sg) (lf rest : Int), 0 ≤ i → i + j = 2 * n → (∀ a b, a ≠ 7 → ¬ (a = 1 ∧ b = 0) → ρ a b = σ a b) → ρ 1 0 = 2 * n → WD (2 * n) (ρ 7) → (∀ c, 0 ≤ c → c < i → ρ 7 c ≠ -1) → frc (ρ 7) 0 (2 * n).toNat = 2 * lf → 0 ≤ lf → lf ≤ n → 0 ≤ rest → rest < fdv lf →
      ∃ τ, V (D + 2) miX1_becomeFull 1 none τ 16 [some (aR 1), some (aI n), some (aL k), none, some (aL rest), none, some (aI lf), some (aI i)] [] ρ ∧ (∀ a b, a ≠ 7 → ¬ (a = 1 ∧ b = 0) → τ a b = σ a b) ∧ τ 1 0 = 2 * n ∧ WD (2 * n) (τ 7) ∧ RowR (2 * n) lf.toNat (ρ 7) rest (τ 7) := by
    intro j
    induction j with
    | zero =>
      intro i ρ lf rest hi0 hi hρ h1 hw hall hf hl0 hl1 hr0 hr1
      refine ⟨ρ, ?_, hρ, h1, hw, ?_⟩
      · refine vX1_becomeFull 60 ?_
        simp only [↓S_X1_becomeFull, ↓pI_c, ↓pL_c, ↓pR_c, ↓pC_I, ↓pC_R, ↓pE_n, ↓gI_0, ↓gI_s, ↓gL_0, ↓gL_s, ↓gR_0, ↓gR_s, ↓popN_0, ↓popN_s, ↓kl_I, ↓kl_L, ↓kl_R, ↓kl_n, ↓put1_0, ↓put1_s, ↓putk_0, ↓putk_s, ↓put2_0, ↓put2_s, ↓putl_0, ↓putl_s, ↓callK_0, ↓callK_1, ↓callK_2, cats_n, cats_c, catA_I, catA_L, catA_R, KL, LV, lval_f, ltag_f, llen_f, lcm_lt, lcm_le, lcm_gt, lcm_ge, lcm_eq, lcm_R1, lcm_R2, inR, inL, true_and, and_true, eq_self, List.head?_cons, Option.some.injEq, Sum.inr.injEq, Sum.inl.injEq, false_or, or_false, true_or, or_true, Nat.reduceAdd, Nat.reduceLeDiff, Int.reduceLE, Int.reduceLT, Int.reduceEq, Int.reduceNeg, Int.reduceAdd, Int.reduceSub, Int.reduceMul, Int.reduceNe, ne_eq, not_false_eq_true, not_true_eq_false, false_implies, forall_const, Nat.le_refl, Nat.zero_le, implies_true, and_self]
        rw [h1]
        (repeat' (first | apply And.intro | intro _))
        all_goals (try first | omega | trivial | (rfl; done) | assumption | (exfalso; omega) | (split <;> first | omega | (rfl; done) | (exfalso; omega)))
      · have z : frc (ρ 7) 0 (2 * n).toNat = 0 := rs_zero _ _ (fun c c0 c1 => by rw [if_neg (hall c c0 (by omega))])
        have e : lf.toNat = 0 := by omega
        rw [e]
        exact fun b _ _ => rfl
    | succ j ih =>
      intro i ρ lf rest hi0 hi hρ h1 hw hall hf hl0 hl1 hr0 hr1
      have hr := hw.r (a := i) (by omega) (by omega)
      by_cases c1 : ρ 7 i = -1
      · have hpos : 0 < frc (ρ 7) 0 (2 * n).toNat := by
          have := frc_lt (ρ 7) (i := 0) (b := i) (c := 2 * n) (by omega) (by omega) c1
          have h2 := frc_r (ρ 7) 0 (i - 0).toNat
          simp only [Int.sub_zero] at this h2
          omega
        have el : ((lf.toNat - 1 : Nat) : Int) = lf - 1 := by omega
        obtain ⟨hx, hm0, hm1⟩ := row_next (L := 2 * n) (m := ρ 7) (j := lf.toNat - 1) (rest := rest) (by omega) (by omega) (by omega) hr0 (by rw [el, Int.sub_add_cancel]; exact hr1) (a := i) (by omega) (by omega) c1 hall
        rw [el] at hx hm0 hm1
        have hfp := fdv_s (j := lf - 1) (by omega) (by omega)
        have hfq := fdv_s (j := lf) (by omega) (by omega)
        obtain ⟨b, b1, b2, b3, b4, b5⟩ := r_X1_linkInOrder D ρ i rest (fdv (lf - 1)) (by omega) (by omega) (by omega) (fun b h0 h1 => hw.r h0 h1) hr0 hfp.1 (by omega) (by omega) (by rw [h1]; exact hx)
        rw [h1] at b2
        have hw2 := hw.link (a := i) (b := b) (by omega) (by omega) (by omega) b2 (by omega) c1 b3
        have hi7 := up_lk2 ρ 7 i b
        obtain ⟨τ, g1, g2, g3, g4, g5⟩ := ih (i + 1) (up (up ρ 7 i b) 7 b i) (lf - 1) (rest.tmod (fdv (lf - 1))) (by omega) (by omega) (fun x y hx hy => by unfold up; rw [if_neg (fun z => hx z.1), if_neg (fun z => hx z.1)]; exact hρ x y hx hy) (by unfold up; rw [if_neg (by omega), if_neg (by omega)]; exact h1) (by rw [hi7]; exact hw2) (fun c c0 c2 => by
          rw [hi7]
          unfold lk2
          by_cases q : c = b
          · rw [if_pos q]; omega
          · rw [if_neg q]
            by_cases q2 : c = i
            · rw [if_pos q2]; omega
            · rw [if_neg q2]
              exact hall c c0 (by omega)) (by rw [hi7, frc_link (by omega) b1 b2 c1 b3]; omega) (by omega) (by omega) hm0 hm1
        refine ⟨τ, ?_, g2, g3, g4, ?_⟩
        · refine vX1_becomeFull 60 ?_
          simp only [↓S_X1_becomeFull, ↓pI_c, ↓pL_c, ↓pR_c, ↓pC_I, ↓pC_R, ↓pE_n, ↓gI_0, ↓gI_s, ↓gL_0, ↓gL_s, ↓gR_0, ↓gR_s, ↓popN_0, ↓popN_s, ↓kl_I, ↓kl_L, ↓kl_R, ↓kl_n, ↓put1_0, ↓put1_s, ↓putk_0, ↓putk_s, ↓put2_0, ↓put2_s, ↓putl_0, ↓putl_s, ↓callK_0, ↓callK_1, ↓callK_2, cats_n, cats_c, catA_I, catA_L, catA_R, KL, LV, lval_f, ltag_f, llen_f, lcm_lt, lcm_le, lcm_gt, lcm_ge, lcm_eq, lcm_R1, lcm_R2, inR, inL, true_and, and_true, eq_self, List.head?_cons, Option.some.injEq, Sum.inr.injEq, Sum.inl.injEq, false_or, or_false, true_or, or_true, Nat.reduceAdd, Nat.reduceLeDiff, Int.reduceLE, Int.reduceLT, Int.reduceEq, Int.reduceNeg, Int.reduceAdd, Int.reduceSub, Int.reduceMul, Int.reduceNe, ne_eq, not_false_eq_true, not_true_eq_false, false_implies, forall_const, Nat.le_refl, Nat.zero_le, implies_true, and_self]
          rw [h1]
          refine ⟨by omega, by omega, fun q => by omega, fun q => ⟨_, _, r_X1_isJoined (D + 1) ρ i (by omega) (by omega) (by omega), ?_⟩⟩
          rw [if_pos c1]
          have e1 : lf + -1 = lf - 1 := by omega
          rw [e1]
          refine ⟨by omega, fun q => by omega, fun q => ⟨by omega, fun q => by omega, fun q => ⟨by omega, by omega, _, _, b5, ?_⟩⟩⟩
          exact g1
        · have e : lf.toNat = (lf - 1).toNat + 1 := by omega
          rw [e]
          rw [hi7] at g5
          have e2 : (((lf - 1).toNat : Nat) : Int) = lf - 1 := by omega
          refine ⟨i, b, by omega, b1, b2, hall, c1, b3, ?_, ?_⟩
          · rw [e2]; exact b4
          · rw [e2]; exact g5
      · obtain ⟨τ, g1, g2, g3, g4, g5⟩ := ih (i + 1) ρ lf rest (by omega) (by omega) hρ h1 hw (fun c c0 c2 => by
          by_cases q : c = i
          · rw [q]; exact c1
          · exact hall c c0 (by omega)) hf hl0 hl1 hr0 hr1
        refine ⟨τ, ?_, g2, g3, g4, g5⟩
        refine vX1_becomeFull 60 ?_
        simp only [↓S_X1_becomeFull, ↓pI_c, ↓pL_c, ↓pR_c, ↓pC_I, ↓pC_R, ↓pE_n, ↓gI_0, ↓gI_s, ↓gL_0, ↓gL_s, ↓gR_0, ↓gR_s, ↓popN_0, ↓popN_s, ↓kl_I, ↓kl_L, ↓kl_R, ↓kl_n, ↓put1_0, ↓put1_s, ↓putk_0, ↓putk_s, ↓put2_0, ↓put2_s, ↓putl_0, ↓putl_s, ↓callK_0, ↓callK_1, ↓callK_2, cats_n, cats_c, catA_I, catA_L, catA_R, KL, LV, lval_f, ltag_f, llen_f, lcm_lt, lcm_le, lcm_gt, lcm_ge, lcm_eq, lcm_R1, lcm_R2, inR, inL, true_and, and_true, eq_self, List.head?_cons, Option.some.injEq, Sum.inr.injEq, Sum.inl.injEq, false_or, or_false, true_or, or_true, Nat.reduceAdd, Nat.reduceLeDiff, Int.reduceLE, Int.reduceLT, Int.reduceEq, Int.reduceNeg, Int.reduceAdd, Int.reduceSub, Int.reduceMul, Int.reduceNe, ne_eq, not_false_eq_true, not_true_eq_false, false_implies, forall_const, Nat.le_refl, Nat.zero_le, implies_true, and_self]
        rw [h1]
        refine ⟨by omega, by omega, fun q => by omega, fun q => ⟨_, _, r_X1_isJoined (D + 1) ρ i (by omega) (by omega) (by omega), ?_⟩⟩
        rw [if_neg c1]
        (repeat' (first | apply And.intro | intro _))
        all_goals (try first | omega | trivial | (rfl; done) | assumption | (exfalso; omega) | (split <;> first | omega | (rfl; done) | (exfalso; omega)))
  have h7 : ∀ b, 0 ≤ b → b < 24 → (ff (up σ 1 0 (2 * n)) 7 0 24 (-1)) 7 b = -1 := fun b h1 h2 => by
    unfold ff
    rw [if_pos ⟨rfl, h1, h2⟩]
  obtain ⟨τ, g1, g2, g3, g4, g5⟩ := loop (2 * n).toNat 0 (ff (up σ 1 0 (2 * n)) 7 0 24 (-1)) n k (by omega) (by omega) (fun a b h1 h2 => by unfold ff up; rw [if_neg (fun z => h1 z.1), if_neg h2]) (by unfold ff up; rw [if_neg (by omega), if_pos (by omega)]) ⟨by omega, by omega, fun a a0 a1 => Or.inl (h7 a a0 (by omega)), fun a a0 a1 => h7 a (by omega) a1⟩ (fun c c0 c1 => by omega) (by rw [frc_all _ _ _ (fun c c0 c1 => h7 c c0 (by omega))]; omega) (by omega) (by omega) hk hk2
  refine ⟨τ, ?_, g2, g3, g4, ?_⟩
  · refine Ret.of 1 [some (aR 1), some (aI n), some (aL k), none, none, none, none, none] rfl (by decide) rfl (Nat.le_of_ble_eq_true rfl) ?_
    refine vX1_becomeFull 60 ?_
    simp only [↓S_X1_becomeFull, ↓pI_c, ↓pL_c, ↓pR_c, ↓pC_I, ↓pC_R, ↓pE_n, ↓gI_0, ↓gI_s, ↓gL_0, ↓gL_s, ↓gR_0, ↓gR_s, ↓popN_0, ↓popN_s, ↓kl_I, ↓kl_L, ↓kl_R, ↓kl_n, ↓put1_0, ↓put1_s, ↓putk_0, ↓putk_s, ↓put2_0, ↓put2_s, ↓putl_0, ↓putl_s, ↓callK_0, ↓callK_1, ↓callK_2, cats_n, cats_c, catA_I, catA_L, catA_R, KL, LV, lval_f, ltag_f, llen_f, lcm_lt, lcm_le, lcm_gt, lcm_ge, lcm_eq, lcm_R1, lcm_R2, inR, inL, true_and, and_true, eq_self, List.head?_cons, Option.some.injEq, Sum.inr.injEq, Sum.inl.injEq, false_or, or_false, true_or, or_true, Nat.reduceAdd, Nat.reduceLeDiff, Int.reduceLE, Int.reduceLT, Int.reduceEq, Int.reduceNeg, Int.reduceAdd, Int.reduceSub, Int.reduceMul, Int.reduceNe, ne_eq, not_false_eq_true, not_true_eq_false, false_implies, forall_const, Nat.le_refl, Nat.zero_le, implies_true, and_self]
    refine ⟨_, r_X1_clear (D) σ (2 * n), ?_⟩
    exact g1
  · have key : ∀ (j : Nat) (m m2 : Int → Int) (r : Int) (x : Int → Int), j ≤ 12 → (∀ b, 0 ≤ b → b < 24 → m b = m2 b) → RowR (2 * n) j m r x → RowR (2 * n) j m2 r x := by
      intro j
      induction j with
      | zero => intro m m2 r x _ he h b h1 h2; rw [h b h1 h2, he b h1 h2]
      | succ j ih =>
        intro m m2 r x hj he h
        obtain ⟨a, b, q1, q2, q3, q4, q5, q6, q7, q8⟩ := h
        refine ⟨a, b, q1, q2, q3, fun c c0 c1 => by rw [← he c c0 (by omega)]; exact q4 c c0 c1, by rw [← he a q1 (by omega)]; exact q5, by rw [← he b (by omega) (by omega)]; exact q6, ?_, ?_⟩
        · rw [q7]
          exact frc_congr _ _ (fun j h1 h2 => he j (by omega) (by omega))
        · refine ih _ _ _ _ (by omega) (fun c h1 h2 => ?_) q8
          unfold lk2
          rw [he c h1 h2]
    exact key n.toNat _ _ _ _ (by omega) h7 g5

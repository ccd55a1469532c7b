/-! the model's shape -/
def dc (a v : Int) : Int := if a < v then v - 1 else v
def sh (a i : Int) : Int := if i < a then i else i + 1
set_option maxRecDepth 100000 in
theorem r_X6_remove (D : Nat) (σ : Sg) (a : Int) (hw : WD (σ 6 0) (σ 26)) (a0 : 0 ≤ a) (a1 : a < σ 6 0) : ∃ τ, Ret (D + 1) miX6_remove [aR 6, aI a] σ none τ ∧ (∀ x y, x ≠ 26 → ¬ (x = 6 ∧ y = 0) → τ x y = σ x y) ∧ τ 6 0 = σ 6 0 - 1 ∧ (∀ i, 0 ≤ i → i < σ 6 0 - 1 → τ 26 i = dc a (σ 26 (sh a i))) ∧ τ 26 (σ 6 0 - 1) = -1 ∧ (∀ i, σ 6 0 ≤ i → τ 26 i = σ 26 i) := by
  have w1 := hw.1
  have w2 := hw.2.1
  generalize hL : σ 6 0 = L at *
  have loop2 : ∀ (k : Nat) (i : Int) (χ : Sg), a ≤ i → i + k = L - 1 → (∀ x y, x ≠ 26 → ¬ (x = 6 ∧ y = 0) → χ x y = σ x y) → χ 6 0 = L - 1 → (∀ j, 0 ≤ j → j < L → χ 26 j = (if j < a ∨ i ≤ j then dc a (σ 26 j) else dc a (σ 26 (j + 1)))) → (∀ i, L ≤ i → χ 26 i = σ 26 i) → 
      ∃ τ, V D miX6_remove 6 none τ 52 [some (aR 6), some (aI a), some (aI i)] [] χ ∧ (∀ x y, x ≠ 26 → ¬ (x = 6 ∧ y = 0) → τ x y = σ x y) ∧ τ 6 0 = L - 1 ∧ (∀ i, 0 ≤ i → i < L - 1 → τ 26 i = dc a (σ 26 (sh a i))) ∧ τ 26 (L - 1) = -1 ∧ (∀ i, L ≤ i → τ 26 i = σ 26 i) := by
    intro k
    induction k with
    | zero =>
      intro i χ i0 ik hf h6 h26 hh
      refine ⟨up χ 26 (L - 1) (-1), ?_, fun x y x1 x2 => by unfold up; rw [if_neg (by omega)]; exact hf x y x1 x2, by unfold up; rw [if_neg (by omega)]; exact h6, fun j j0 j1 => ?_, by unfold up; rw [if_pos ⟨rfl, rfl⟩], fun j j0 => by unfold up; rw [if_neg (by omega)]; exact hh j j0⟩
      · refine vX6_remove 60 ?_
        simp only [↓S_X6_remove_1, ↓S_X6_remove_2, ↓pI_c, ↓pL_c, ↓pR_c, ↓pC_I, ↓pC_R, ↓pE_n, ↓gI_0, ↓gI_s, ↓gL_0, ↓gL_s, ↓gR_0, ↓gR_s, ↓popN_0, ↓popN_s, ↓kl_I, ↓kl_L, ↓kl_R, ↓kl_n, ↓put1_0, ↓put1_s, ↓putk_0, ↓putk_s, ↓put2_0, ↓put2_s, ↓putl_0, ↓putl_s, ↓callK_0, ↓callK_1, ↓callK_2, cats_n, cats_c, catA_I, catA_L, catA_R, KL, LV, lval_f, ltag_f, llen_f, lcm_lt, lcm_le, lcm_gt, lcm_ge, lcm_eq, lcm_R1, lcm_R2, inR, inL, true_and, and_true, eq_self, List.head?_cons, Option.some.injEq, Sum.inr.injEq, Sum.inl.injEq, false_or, or_false, true_or, or_true, Nat.reduceAdd, Nat.reduceLeDiff, Int.reduceLE, Int.reduceLT, Int.reduceEq, Int.reduceNeg, Int.reduceAdd, Int.reduceSub, Int.reduceMul, Int.reduceNe, ne_eq, not_false_eq_true, not_true_eq_false, false_implies, forall_const, Nat.le_refl, Nat.zero_le, implies_true, and_self]
        rw [h6]
        (repeat' (first | apply And.intro | intro _))
        all_goals (try first | omega | trivial | (rfl; done) | assumption | (exfalso; omega))
      · unfold up
        rw [if_neg (by omega), h26 j j0 (by omega)]
        by_cases c : j < a
        · rw [if_pos (Or.inl c)]; unfold sh; rw [if_pos c]
        · rw [if_neg (by omega)]; unfold sh; rw [if_neg c]
    | succ k ih =>
      intro i χ i0 ik hf h6 h26 hh
      obtain ⟨τ, t, tr⟩ := ih (i + 1) (up χ 26 i (χ 26 (i + 1))) (by omega) (by omega) (fun x y x1 x2 => by unfold up; rw [if_neg (by omega)]; exact hf x y x1 x2) (by unfold up; rw [if_neg (by omega)]; exact h6) (fun j j0 j1 => by
        unfold up
        by_cases c : j = i
        · rw [if_pos ⟨rfl, c⟩, if_neg (by omega), h26 (i + 1) (by omega) (by omega), if_pos (by omega), c]
        · rw [if_neg (by omega), h26 j j0 j1]
          by_cases c2 : j < a ∨ i ≤ j
          · rw [if_pos c2, if_pos (by omega)]
          · rw [if_neg c2, if_neg (by omega)]) (fun j j0 => by unfold up; rw [if_neg (by omega)]; exact hh j j0)
      refine ⟨τ, ?_, tr⟩
      refine vX6_remove 60 ?_
      simp only [↓S_X6_remove_1, ↓S_X6_remove_2, ↓pI_c, ↓pL_c, ↓pR_c, ↓pC_I, ↓pC_R, ↓pE_n, ↓gI_0, ↓gI_s, ↓gL_0, ↓gL_s, ↓gR_0, ↓gR_s, ↓popN_0, ↓popN_s, ↓kl_I, ↓kl_L, ↓kl_R, ↓kl_n, ↓put1_0, ↓put1_s, ↓putk_0, ↓putk_s, ↓put2_0, ↓put2_s, ↓putl_0, ↓putl_s, ↓callK_0, ↓callK_1, ↓callK_2, cats_n, cats_c, catA_I, catA_L, catA_R, KL, LV, lval_f, ltag_f, llen_f, lcm_lt, lcm_le, lcm_gt, lcm_ge, lcm_eq, lcm_R1, lcm_R2, inR, inL, true_and, and_true, eq_self, List.head?_cons, Option.some.injEq, Sum.inr.injEq, Sum.inl.injEq, false_or, or_false, true_or, or_true, Nat.reduceAdd, Nat.reduceLeDiff, Int.reduceLE, Int.reduceLT, Int.reduceEq, Int.reduceNeg, Int.reduceAdd, Int.reduceSub, Int.reduceMul, Int.reduceNe, ne_eq, not_false_eq_true, not_true_eq_false, false_implies, forall_const, Nat.le_refl, Nat.zero_le, implies_true, and_self]
      rw [h6]
      (repeat' (first | apply And.intro | intro _))
      all_goals (try first | omega | trivial | (rfl; done) | assumption | (exfalso; omega) | (exact t) | (refine V.wk t ?_; simp [lle]; done))
  have loop1 : ∀ (k : Nat) (i : Int) (χ : Sg), 0 ≤ i → i + k = L → (∀ x y, x ≠ 26 → χ x y = σ x y) → (∀ j, χ 26 j = (if 0 ≤ j ∧ j < i ∧ a < σ 26 j then σ 26 j - 1 else σ 26 j)) →
      ∃ τ, V D miX6_remove 6 none τ 2 [some (aR 6), some (aI a), some (aI i)] [] χ ∧ (∀ x y, x ≠ 26 → ¬ (x = 6 ∧ y = 0) → τ x y = σ x y) ∧ τ 6 0 = L - 1 ∧ (∀ i, 0 ≤ i → i < L - 1 → τ 26 i = dc a (σ 26 (sh a i))) ∧ τ 26 (L - 1) = -1 ∧ (∀ i, L ≤ i → τ 26 i = σ 26 i) := by
    intro k
    induction k with
    | zero =>
      intro i χ i0 ik hf h26
      have hx : χ 6 0 = L := by rw [hf 6 0 (by omega)]; exact hL
      obtain ⟨τ, t, tr⟩ := loop2 (L - 1 - a).toNat a (up χ 6 0 (L - 1)) (by omega) (by omega) (fun x y x1 x2 => by unfold up; rw [if_neg (by omega)]; exact hf x y x1) (by unfold up; rw [if_pos ⟨rfl, rfl⟩]) (fun j j0 j1 => by
        unfold up dc
        rw [if_neg (by omega), h26 j, if_pos (show j < a ∨ a ≤ j by omega)]
        by_cases c : a < σ 26 j
        · rw [if_pos c, if_pos (by omega)]
        · rw [if_neg c, if_neg (by omega)]) (fun j j0 => by unfold up; rw [if_neg (by omega), h26 j, if_neg (by omega)])
      refine ⟨τ, ?_, tr⟩
      refine vX6_remove 60 ?_
      simp only [↓S_X6_remove_1, ↓S_X6_remove_2, ↓pI_c, ↓pL_c, ↓pR_c, ↓pC_I, ↓pC_R, ↓pE_n, ↓gI_0, ↓gI_s, ↓gL_0, ↓gL_s, ↓gR_0, ↓gR_s, ↓popN_0, ↓popN_s, ↓kl_I, ↓kl_L, ↓kl_R, ↓kl_n, ↓put1_0, ↓put1_s, ↓putk_0, ↓putk_s, ↓put2_0, ↓put2_s, ↓putl_0, ↓putl_s, ↓callK_0, ↓callK_1, ↓callK_2, cats_n, cats_c, catA_I, catA_L, catA_R, KL, LV, lval_f, ltag_f, llen_f, lcm_lt, lcm_le, lcm_gt, lcm_ge, lcm_eq, lcm_R1, lcm_R2, inR, inL, true_and, and_true, eq_self, List.head?_cons, Option.some.injEq, Sum.inr.injEq, Sum.inl.injEq, false_or, or_false, true_or, or_true, Nat.reduceAdd, Nat.reduceLeDiff, Int.reduceLE, Int.reduceLT, Int.reduceEq, Int.reduceNeg, Int.reduceAdd, Int.reduceSub, Int.reduceMul, Int.reduceNe, ne_eq, not_false_eq_true, not_true_eq_false, false_implies, forall_const, Nat.le_refl, Nat.zero_le, implies_true, and_self]
      rw [hx]
      (repeat' (first | apply And.intro | intro _))
      all_goals (try first | omega | trivial | (rfl; done) | assumption | (exfalso; omega) | (exact t) | (refine V.wk t ?_; simp [lle]; done))
    | succ k ih =>
      intro i χ i0 ik hf h26
      have hx : χ 6 0 = L := by rw [hf 6 0 (by omega)]; exact hL
      have hr := hw.r i0 (show i < 24 by omega)
      have hm : χ 26 i = σ 26 i := by rw [h26 i, if_neg (by omega)]
      obtain ⟨τ, t, tr⟩ := ih (i + 1) (up χ 26 i (if a < σ 26 i then σ 26 i - 1 else σ 26 i)) (by omega) (by omega) (fun x y x1 => by unfold up; rw [if_neg (by omega)]; exact hf x y x1) (fun j => by
        unfold up
        by_cases c : j = i
        · rw [if_pos ⟨rfl, c⟩, c]
          by_cases c2 : a < σ 26 i
          · rw [if_pos c2, if_pos (by omega)]
          · rw [if_neg c2, if_neg (by omega)]
        · rw [if_neg (by omega), h26 j]
          by_cases c2 : 0 ≤ j ∧ j < i ∧ a < σ 26 j
          · rw [if_pos c2, if_pos (by omega)]
          · rw [if_neg c2, if_neg (by omega)])
      refine ⟨τ, ?_, tr⟩
      by_cases c : a < σ 26 i
      · rw [if_pos c] at t
        refine vX6_remove 60 ?_
        simp only [↓S_X6_remove_1, ↓S_X6_remove_2, ↓pI_c, ↓pL_c, ↓pR_c, ↓pC_I, ↓pC_R, ↓pE_n, ↓gI_0, ↓gI_s, ↓gL_0, ↓gL_s, ↓gR_0, ↓gR_s, ↓popN_0, ↓popN_s, ↓kl_I, ↓kl_L, ↓kl_R, ↓kl_n, ↓put1_0, ↓put1_s, ↓putk_0, ↓putk_s, ↓put2_0, ↓put2_s, ↓putl_0, ↓putl_s, ↓callK_0, ↓callK_1, ↓callK_2, cats_n, cats_c, catA_I, catA_L, catA_R, KL, LV, lval_f, ltag_f, llen_f, lcm_lt, lcm_le, lcm_gt, lcm_ge, lcm_eq, lcm_R1, lcm_R2, inR, inL, true_and, and_true, eq_self, List.head?_cons, Option.some.injEq, Sum.inr.injEq, Sum.inl.injEq, false_or, or_false, true_or, or_true, Nat.reduceAdd, Nat.reduceLeDiff, Int.reduceLE, Int.reduceLT, Int.reduceEq, Int.reduceNeg, Int.reduceAdd, Int.reduceSub, Int.reduceMul, Int.reduceNe, ne_eq, not_false_eq_true, not_true_eq_false, false_implies, forall_const, Nat.le_refl, Nat.zero_le, implies_true, and_self]
        rw [hx, hm]
        (repeat' (first | apply And.intro | intro _))
        all_goals (try first | omega | trivial | (rfl; done) | assumption | (exfalso; omega) | (exact t) | (refine V.wk t ?_; simp [lle]; done))
      · rw [if_neg c] at t
        refine vX6_remove 60 ?_
        simp only [↓S_X6_remove_1, ↓S_X6_remove_2, ↓pI_c, ↓pL_c, ↓pR_c, ↓pC_I, ↓pC_R, ↓pE_n, ↓gI_0, ↓gI_s, ↓gL_0, ↓gL_s, ↓gR_0, ↓gR_s, ↓popN_0, ↓popN_s, ↓kl_I, ↓kl_L, ↓kl_R, ↓kl_n, ↓put1_0, ↓put1_s, ↓putk_0, ↓putk_s, ↓put2_0, ↓put2_s, ↓putl_0, ↓putl_s, ↓callK_0, ↓callK_1, ↓callK_2, cats_n, cats_c, catA_I, catA_L, catA_R, KL, LV, lval_f, ltag_f, llen_f, lcm_lt, lcm_le, lcm_gt, lcm_ge, lcm_eq, lcm_R1, lcm_R2, inR, inL, true_and, and_true, eq_self, List.head?_cons, Option.some.injEq, Sum.inr.injEq, Sum.inl.injEq, false_or, or_false, true_or, or_true, Nat.reduceAdd, Nat.reduceLeDiff, Int.reduceLE, Int.reduceLT, Int.reduceEq, Int.reduceNeg, Int.reduceAdd, Int.reduceSub, Int.reduceMul, Int.reduceNe, ne_eq, not_false_eq_true, not_true_eq_false, false_implies, forall_const, Nat.le_refl, Nat.zero_le, implies_true, and_self]
        rw [hx, hm]
        simp only [Int.sub_zero]
        (repeat' (first | apply And.intro | intro _))
        all_goals (try first | omega | trivial | (rfl; done) | assumption | (exfalso; omega) | (exact t) | (refine V.wk t ?_; simp [lle]; done))
  obtain ⟨τ, t, tr⟩ := loop1 L.toNat 0 σ (by omega) (by omega) (fun _ _ _ => rfl) (fun j => by rw [if_neg (by omega)])
  refine ⟨τ, ?_, tr⟩
  refine Ret.of 6 [some (aR 6), some (aI a), none] rfl (by decide) rfl (Nat.le_of_ble_eq_true rfl) ?_
  refine vX6_remove 60 ?_
  simp only [↓S_X6_remove_1, ↓S_X6_remove_2, ↓pI_c, ↓pL_c, ↓pR_c, ↓pC_I, ↓pC_R, ↓pE_n, ↓gI_0, ↓gI_s, ↓gL_0, ↓gL_s, ↓gR_0, ↓gR_s, ↓popN_0, ↓popN_s, ↓kl_I, ↓kl_L, ↓kl_R, ↓kl_n, ↓put1_0, ↓put1_s, ↓putk_0, ↓putk_s, ↓put2_0, ↓put2_s, ↓putl_0, ↓putl_s, ↓callK_0, ↓callK_1, ↓callK_2, cats_n, cats_c, catA_I, catA_L, catA_R, KL, LV, lval_f, ltag_f, llen_f, lcm_lt, lcm_le, lcm_gt, lcm_ge, lcm_eq, lcm_R1, lcm_R2, inR, inL, true_and, and_true, eq_self, List.head?_cons, Option.some.injEq, Sum.inr.injEq, Sum.inl.injEq, false_or, or_false, true_or, or_true, Nat.reduceAdd, Nat.reduceLeDiff, Int.reduceLE, Int.reduceLT, Int.reduceEq, Int.reduceNeg, Int.reduceAdd, Int.reduceSub, Int.reduceMul, Int.reduceNe, ne_eq, not_false_eq_true, not_true_eq_false, false_implies, forall_const, Nat.le_refl, Nat.zero_le, implies_true, and_self]
  (repeat' (first | apply And.intro | intro _))
  all_goals (try first | omega | trivial | (rfl; done) | assumption | (exfalso; omega) | (exact t) | (refine V.wk t ?_; simp [lle]; done))
theorem rm_SR {L a : Int} {m m' : Int → Int} (hw : WD L m) (a0 : 0 ≤ a) (a1 : a < L) (ha : m a = -1) (h1 : ∀ i, 0 ≤ i → i < L - 1 → m' i = dc a (m (sh a i))) (h2 : m' (L - 1) = -1) (h3 : ∀ i, L ≤ i → m' i = m i) : WD (L - 1) m' ∧ (∀ L0 m0, SR L0 m0 L m → SR L0 m0 (L - 1) m') := by
  have w1 := hw.1
  have w2 := hw.2.1
  have hne : ∀ i, 0 ≤ i → i < L → m i ≠ a := fun i i0 i1 z => by
    rcases hw.2.2.1 i i0 i1 with q | q
    · omega
    · have := q.2.2.2
      rw [z] at this
      omega
  have hlo : ∀ i, 0 ≤ i → i < a → m' i = if a < m i then m i - 1 else m i := fun i i0 i1 => by
    have := h1 i i0 (by omega)
    unfold dc sh at this
    rw [if_pos i1] at this
    exact this
  have hhi : ∀ i, a ≤ i → i < L - 1 → m' i = if a < m (i + 1) then m (i + 1) - 1 else m (i + 1) := fun i i0 i1 => by
    have := h1 i (by omega) i1
    unfold dc sh at this
    rw [if_neg (show ¬ i < a by omega)] at this
    exact this
  have W : WD (L - 1) m' := by
    refine ⟨by omega, by omega, fun i i0 i1 => ?_, fun i i0 i1 => ?_⟩
    · by_cases c : i < a
      · have e := hlo i i0 c
        rcases hw.2.2.1 i i0 (by omega) with q | ⟨q1, q2, q3, q4⟩
        · left; rw [e, if_neg (by omega)]; exact q
        · right
          have n1 := hne i i0 (by omega)
          by_cases c2 : a < m i
          · rw [if_pos c2] at e
            have e2 := hhi (m i - 1) (by omega) (by omega)
            rw [show m i - 1 + 1 = m i from by omega, q4, if_neg (by omega)] at e2
            rw [e, e2]
            omega
          · rw [if_neg c2] at e
            have e2 := hlo (m i) q1 (by omega)
            rw [q4, if_neg (by omega)] at e2
            rw [e, e2]
            omega
      · have e := hhi i (by omega) i1
        rcases hw.2.2.1 (i + 1) (by omega) (by omega) with q | ⟨q1, q2, q3, q4⟩
        · left; rw [e, if_neg (by omega)]; exact q
        · right
          have n1 := hne (i + 1) (by omega) (by omega)
          by_cases c2 : a < m (i + 1)
          · rw [if_pos c2] at e
            have e2 := hhi (m (i + 1) - 1) (by omega) (by omega)
            rw [show m (i + 1) - 1 + 1 = m (i + 1) from by omega, q4, if_pos (by omega)] at e2
            rw [e, e2]
            omega
          · rw [if_neg c2] at e
            have e2 := hlo (m (i + 1)) q1 (by omega)
            rw [q4, if_pos (by omega)] at e2
            rw [e, e2]
            omega
    · by_cases c : i = L - 1
      · rw [c]; exact h2
      · rw [h3 i (by omega)]
        exact hw.2.2.2 i (by omega) i1
  refine ⟨W, fun L0 m0 h => SR.drop hw W h (fun i => if i < a then i else i + 1) (fun i j i0 ij j1 => ?_) (fun i i0 i1 => ?_) (fun p p0 p1 p2 => ?_) (fun i i0 i1 => ?_)⟩
  · split <;> split <;> omega
  · split <;> omega
  · have : p ≠ a := fun z => p2 (by rw [z]; exact ha)
    by_cases c : p < a
    · exact ⟨p, p0, by omega, by rw [if_pos c]⟩
    · exact ⟨p - 1, by omega, by omega, by rw [if_neg (by omega)]; omega⟩
  · have key : ∀ x, 0 ≤ x → x < L → m' i = (if a < m x then m x - 1 else m x) → (m' i = -1 → m x = -1) ∧ (m' i ≠ -1 → m x = if m' i < a then m' i else m' i + 1) := fun x x0 x1 e => by
      have n1 := hne x x0 x1
      have hr := hw.r x0 (show x < 24 by omega)
      constructor
      · intro z
        by_cases c2 : a < m x
        · rw [if_pos c2] at e; omega
        · rw [if_neg c2] at e; omega
      · intro z
        by_cases c2 : a < m x
        · rw [if_pos c2] at e; rw [if_neg (by omega)]; omega
        · rw [if_neg c2] at e; rw [if_pos (by omega)]; omega
    by_cases c : i < a
    · rw [if_pos c]
      exact key i i0 (by omega) (hlo i i0 c)
    · rw [if_neg c]
      exact key (i + 1) (by omega) (by omega) (hhi i (by omega) i1)
set_option maxRecDepth 100000 in
theorem r_X6_shape (D : Nat) (σ : Sg) (hw : WD (σ 6 0) (σ 26)) : ∃ τ, Ret (D + 3) miX6_shape [aR 6] σ (some (aI (τ 6 0))) τ ∧ (∀ a b, a ≠ 26 → ¬ (a = 6 ∧ b = 0) → τ a b = σ a b) ∧ WD (τ 6 0) (τ 26) ∧ SR (σ 6 0) (σ 26) (τ 6 0) (τ 26) ∧ (∀ i, 0 ≤ i → i < τ 6 0 → Kp (τ 26) i) := by
  have fin : ∀ χ : Sg, V (D + 2) miX6_shape 6 (some (aI (χ 6 0))) χ 2 [some (aR 6), some (aI 0), none, none] [] χ := fun χ => by
    refine vX6_shape 60 ?_
    simp only [↓S_X6_shape_1, ↓S_X6_shape_2, ↓pI_c, ↓pL_c, ↓pR_c, ↓pC_I, ↓pC_R, ↓pE_n, ↓gI_0, ↓gI_s, ↓gL_0, ↓gL_s, ↓gR_0, ↓gR_s, ↓popN_0, ↓popN_s, ↓kl_I, ↓kl_L, ↓kl_R, ↓kl_n, ↓put1_0, ↓put1_s, ↓putk_0, ↓putk_s, ↓put2_0, ↓put2_s, ↓putl_0, ↓putl_s, ↓callK_0, ↓callK_1, ↓callK_2, cats_n, cats_c, catA_I, catA_L, catA_R, KL, LV, lval_f, ltag_f, llen_f, lcm_lt, lcm_le, lcm_gt, lcm_ge, lcm_eq, lcm_R1, lcm_R2, inR, inL, true_and, and_true, eq_self, List.head?_cons, Option.some.injEq, Sum.inr.injEq, Sum.inl.injEq, false_or, or_false, true_or, or_true, Nat.reduceAdd, Nat.reduceLeDiff, Int.reduceLE, Int.reduceLT, Int.reduceEq, Int.reduceNeg, Int.reduceAdd, Int.reduceSub, Int.reduceMul, Int.reduceNe, ne_eq, not_false_eq_true, not_true_eq_false, false_implies, forall_const, Nat.le_refl, Nat.zero_le, implies_true, and_self]
    (repeat' (first | apply And.intro | intro _))
    all_goals (try first | omega | trivial | (rfl; done) | assumption | (exfalso; omega))
  have loop : ∀ (k : Nat) (χ : Sg), (∀ a b, a ≠ 26 → ¬ (a = 6 ∧ b = 0) → χ a b = σ a b) → WD (χ 6 0) (χ 26) → SR (σ 6 0) (σ 26) (χ 6 0) (χ 26) → 100 * χ 6 0 + nj (χ 26) (χ 6 0) ≤ k →
      ∃ τ, V (D + 2) miX6_shape 6 (some (aI (τ 6 0))) τ 2 [some (aR 6), some (aI 1), none, none] [] χ ∧ (∀ a b, a ≠ 26 → ¬ (a = 6 ∧ b = 0) → τ a b = σ a b) ∧ WD (τ 6 0) (τ 26) ∧ SR (σ 6 0) (σ 26) (τ 6 0) (τ 26) ∧ (∀ i, 0 ≤ i → i < τ 6 0 → Kp (τ 26) i) := by
    intro k
    induction k with
    | zero =>
      intro χ hf hw' hs hk
      refine ⟨χ, ?_, hf, hw', hs, fun i i0 i1 => ?_⟩
      all_goals have q1 := hw'.1
      all_goals have q2 := (nj_r (χ 26) hw'.1).1
      all_goals have q3 : χ 6 0 = 0 := by omega
      · obtain ⟨z, t, tz⟩ := r_X6_firstAlone (D + 1) χ hw'
        obtain ⟨y, u, uy⟩ := r_X6_firstInner D χ hw'
        have : z = -1 := by rcases tz with q | q <;> omega
        subst this
        have : y = -1 := by rcases uy with q | q <;> omega
        subst this
        refine vX6_shape 60 ?_
        simp only [↓S_X6_shape_1, ↓S_X6_shape_2, ↓pI_c, ↓pL_c, ↓pR_c, ↓pC_I, ↓pC_R, ↓pE_n, ↓gI_0, ↓gI_s, ↓gL_0, ↓gL_s, ↓gR_0, ↓gR_s, ↓popN_0, ↓popN_s, ↓kl_I, ↓kl_L, ↓kl_R, ↓kl_n, ↓put1_0, ↓put1_s, ↓putk_0, ↓putk_s, ↓put2_0, ↓put2_s, ↓putl_0, ↓putl_s, ↓callK_0, ↓callK_1, ↓callK_2, cats_n, cats_c, catA_I, catA_L, catA_R, KL, LV, lval_f, ltag_f, llen_f, lcm_lt, lcm_le, lcm_gt, lcm_ge, lcm_eq, lcm_R1, lcm_R2, inR, inL, true_and, and_true, eq_self, List.head?_cons, Option.some.injEq, Sum.inr.injEq, Sum.inl.injEq, false_or, or_false, true_or, or_true, Nat.reduceAdd, Nat.reduceLeDiff, Int.reduceLE, Int.reduceLT, Int.reduceEq, Int.reduceNeg, Int.reduceAdd, Int.reduceSub, Int.reduceMul, Int.reduceNe, ne_eq, not_false_eq_true, not_true_eq_false, false_implies, forall_const, Nat.le_refl, Nat.zero_le, implies_true, and_self]
        (repeat' (first | apply And.intro | intro _ | with_reducible refine Exists.intro _ (Exists.intro _ (And.intro t ?_)) | with_reducible refine Exists.intro _ (And.intro t ?_) | with_reducible refine Exists.intro _ (Exists.intro _ (And.intro u ?_)) | with_reducible refine Exists.intro _ (And.intro u ?_)))
        all_goals (try first | omega | trivial | (rfl; done) | assumption | (exfalso; omega) | (exact (fin χ)) | (refine V.wk (fin χ) ?_; simp [lle]; done))
      · omega
    | succ k ih =>
      intro χ hf hw' hs hk
      have w1 := hw'.1
      have w2 := hw'.2.1
      obtain ⟨z, t, tz⟩ := r_X6_firstAlone (D + 1) χ hw'
      rcases tz with ⟨rfl, hz⟩ | ⟨z0, z1, z2, z3⟩
      · obtain ⟨y, u, uy⟩ := r_X6_firstInner D χ hw'
        rcases uy with ⟨rfl, hy⟩ | ⟨y0, y1, ⟨y2, y4⟩, y3⟩
        · refine ⟨χ, ?_, hf, hw', hs, Kp_all hw' hz (fun a a0 a1 a2 a3 => hy (a + 1) (by omega) a1 ⟨a2, by omega, ?_, by rw [show a + 1 - 1 = a from by omega]; exact a3⟩)⟩
          · refine vX6_shape 60 ?_
            simp only [↓S_X6_shape_1, ↓S_X6_shape_2, ↓pI_c, ↓pL_c, ↓pR_c, ↓pC_I, ↓pC_R, ↓pE_n, ↓gI_0, ↓gI_s, ↓gL_0, ↓gL_s, ↓gR_0, ↓gR_s, ↓popN_0, ↓popN_s, ↓kl_I, ↓kl_L, ↓kl_R, ↓kl_n, ↓put1_0, ↓put1_s, ↓putk_0, ↓putk_s, ↓put2_0, ↓put2_s, ↓putl_0, ↓putl_s, ↓callK_0, ↓callK_1, ↓callK_2, cats_n, cats_c, catA_I, catA_L, catA_R, KL, LV, lval_f, ltag_f, llen_f, lcm_lt, lcm_le, lcm_gt, lcm_ge, lcm_eq, lcm_R1, lcm_R2, inR, inL, true_and, and_true, eq_self, List.head?_cons, Option.some.injEq, Sum.inr.injEq, Sum.inl.injEq, false_or, or_false, true_or, or_true, Nat.reduceAdd, Nat.reduceLeDiff, Int.reduceLE, Int.reduceLT, Int.reduceEq, Int.reduceNeg, Int.reduceAdd, Int.reduceSub, Int.reduceMul, Int.reduceNe, ne_eq, not_false_eq_true, not_true_eq_false, false_implies, forall_const, Nat.le_refl, Nat.zero_le, implies_true, and_self]
            (repeat' (first | apply And.intro | intro _ | with_reducible refine Exists.intro _ (Exists.intro _ (And.intro t ?_)) | with_reducible refine Exists.intro _ (And.intro t ?_) | with_reducible refine Exists.intro _ (Exists.intro _ (And.intro u ?_)) | with_reducible refine Exists.intro _ (And.intro u ?_)))
            all_goals (try first | omega | trivial | (rfl; done) | assumption | (exfalso; omega) | (exact (fin χ)) | (refine V.wk (fin χ) ?_; simp [lle]; done))
          · rcases hw'.b a0 (show a < 24 by omega) with q | q <;> omega
        · have hr := hw'.r y0 (show y < 24 by omega)
          have hyL : χ 26 y < χ 6 0 := by rcases hw'.b y0 (show y < 24 by omega) with q | q <;> omega
          have hmm : χ 26 (χ 26 y) = y := by rcases hw'.2.2.1 y y0 y1 with q | q; omega; exact q.2.2.2
          have hmx : χ 26 (y - 1) = χ 26 y + 1 := y4.2.2
          have y5 : 0 < y := y4.1
          have y6 : χ 26 y < χ 6 0 - 1 := y4.2.1
          have hinn : Inn (χ 26) y := ⟨y - 1, by omega, ⟨by omega, by omega, by omega, fun z h1 h2 => by omega⟩, ⟨by omega, by omega, hz _ (by omega) (by omega), fun z h1 h2 => by omega⟩⟩
          have u7 : (up (up χ 26 y (-1)) 26 (χ 26 y) (-1)) 26 = un2 (χ 26) y (χ 26 y) := up_un2 χ 26 y (χ 26 y)
          have u6 : (up (up χ 26 y (-1)) 26 (χ 26 y) (-1)) 6 0 = χ 6 0 := by unfold up; rw [if_neg (by omega), if_neg (by omega)]
          obtain ⟨τ, tt, tr⟩ := ih (up (up χ 26 y (-1)) 26 (χ 26 y) (-1)) (fun a b a1 a2 => by unfold up; rw [if_neg (by omega), if_neg (by omega)]; exact hf a b a1 a2) (by rw [u7, u6]; exact hw'.unlink y0 y1 (by omega)) (by rw [u7, u6]; exact hs.unl hw' y0 y1 y2 hinn) (by rw [u7, u6, nj_un2 y0 y2 hyL (by omega) (by omega)]; omega)
          refine ⟨τ, ?_, tr⟩
          refine vX6_shape 60 ?_
          simp only [↓S_X6_shape_1, ↓S_X6_shape_2, ↓pI_c, ↓pL_c, ↓pR_c, ↓pC_I, ↓pC_R, ↓pE_n, ↓gI_0, ↓gI_s, ↓gL_0, ↓gL_s, ↓gR_0, ↓gR_s, ↓popN_0, ↓popN_s, ↓kl_I, ↓kl_L, ↓kl_R, ↓kl_n, ↓put1_0, ↓put1_s, ↓putk_0, ↓putk_s, ↓put2_0, ↓put2_s, ↓putl_0, ↓putl_s, ↓callK_0, ↓callK_1, ↓callK_2, cats_n, cats_c, catA_I, catA_L, catA_R, KL, LV, lval_f, ltag_f, llen_f, lcm_lt, lcm_le, lcm_gt, lcm_ge, lcm_eq, lcm_R1, lcm_R2, inR, inL, true_and, and_true, eq_self, List.head?_cons, Option.some.injEq, Sum.inr.injEq, Sum.inl.injEq, false_or, or_false, true_or, or_true, Nat.reduceAdd, Nat.reduceLeDiff, Int.reduceLE, Int.reduceLT, Int.reduceEq, Int.reduceNeg, Int.reduceAdd, Int.reduceSub, Int.reduceMul, Int.reduceNe, ne_eq, not_false_eq_true, not_true_eq_false, false_implies, forall_const, Nat.le_refl, Nat.zero_le, implies_true, and_self]
          (repeat' (first | apply And.intro | intro _ | with_reducible refine Exists.intro _ (Exists.intro _ (And.intro t ?_)) | with_reducible refine Exists.intro _ (And.intro t ?_) | with_reducible refine Exists.intro _ (Exists.intro _ (And.intro u ?_)) | with_reducible refine Exists.intro _ (And.intro u ?_)))
          all_goals (try first | omega | trivial | (rfl; done) | assumption | (exfalso; omega) | (exact tt) | (refine V.wk tt ?_; simp [lle]; done))
      · obtain ⟨ψ, p1, p2, p3, p4, p5, p6⟩ := r_X6_remove (D + 1) χ z hw' z0 z1
        obtain ⟨W, S⟩ := rm_SR hw' z0 z1 z2 p4 p5 p6
        obtain ⟨τ, tt, tr⟩ := ih ψ (fun a b a1 a2 => by rw [p2 a b a1 a2]; exact hf a b a1 a2) (by rw [p3]; exact W) (by rw [p3]; exact S _ _ hs) (by
          rw [p3]
          have := nj_r (ψ 26) (show 0 ≤ χ 6 0 - 1 by omega)
          have := nj_r (χ 26) w1
          omega)
        refine ⟨τ, ?_, tr⟩
        refine vX6_shape 60 ?_
        simp only [↓S_X6_shape_1, ↓S_X6_shape_2, ↓pI_c, ↓pL_c, ↓pR_c, ↓pC_I, ↓pC_R, ↓pE_n, ↓gI_0, ↓gI_s, ↓gL_0, ↓gL_s, ↓gR_0, ↓gR_s, ↓popN_0, ↓popN_s, ↓kl_I, ↓kl_L, ↓kl_R, ↓kl_n, ↓put1_0, ↓put1_s, ↓putk_0, ↓putk_s, ↓put2_0, ↓put2_s, ↓putl_0, ↓putl_s, ↓callK_0, ↓callK_1, ↓callK_2, cats_n, cats_c, catA_I, catA_L, catA_R, KL, LV, lval_f, ltag_f, llen_f, lcm_lt, lcm_le, lcm_gt, lcm_ge, lcm_eq, lcm_R1, lcm_R2, inR, inL, true_and, and_true, eq_self, List.head?_cons, Option.some.injEq, Sum.inr.injEq, Sum.inl.injEq, false_or, or_false, true_or, or_true, Nat.reduceAdd, Nat.reduceLeDiff, Int.reduceLE, Int.reduceLT, Int.reduceEq, Int.reduceNeg, Int.reduceAdd, Int.reduceSub, Int.reduceMul, Int.reduceNe, ne_eq, not_false_eq_true, not_true_eq_false, false_implies, forall_const, Nat.le_refl, Nat.zero_le, implies_true, and_self]
        (repeat' (first | apply And.intro | intro _ | with_reducible refine Exists.intro _ (Exists.intro _ (And.intro t ?_)) | with_reducible refine Exists.intro _ (And.intro t ?_) | with_reducible refine Exists.intro _ (Exists.intro _ (And.intro p1 ?_)) | with_reducible refine Exists.intro _ (And.intro p1 ?_)))
        all_goals (try first | omega | trivial | (rfl; done) | assumption | (exfalso; omega) | (exact tt) | (refine V.wk tt ?_; simp [lle]; done))
  obtain ⟨τ, t, tr⟩ := loop (100 * σ 6 0 + nj (σ 26) (σ 6 0)).toNat σ (fun _ _ _ _ => rfl) hw (SR.rfl' _ _) (by have := hw.1; have := nj_r (σ 26) hw.1; omega)
  refine ⟨τ, ?_, tr⟩
  refine Ret.of 6 [some (aR 6), none, none, none] rfl (by decide) rfl (Nat.le_of_ble_eq_true rfl) ?_
  refine vX6_shape 60 ?_
  simp only [↓S_X6_shape_1, ↓S_X6_shape_2, ↓pI_c, ↓pL_c, ↓pR_c, ↓pC_I, ↓pC_R, ↓pE_n, ↓gI_0, ↓gI_s, ↓gL_0, ↓gL_s, ↓gR_0, ↓gR_s, ↓popN_0, ↓popN_s, ↓kl_I, ↓kl_L, ↓kl_R, ↓kl_n, ↓put1_0, ↓put1_s, ↓putk_0, ↓putk_s, ↓put2_0, ↓put2_s, ↓putl_0, ↓putl_s, ↓callK_0, ↓callK_1, ↓callK_2, cats_n, cats_c, catA_I, catA_L, catA_R, KL, LV, lval_f, ltag_f, llen_f, lcm_lt, lcm_le, lcm_gt, lcm_ge, lcm_eq, lcm_R1, lcm_R2, inR, inL, true_and, and_true, eq_self, List.head?_cons, Option.some.injEq, Sum.inr.injEq, Sum.inl.injEq, false_or, or_false, true_or, or_true, Nat.reduceAdd, Nat.reduceLeDiff, Int.reduceLE, Int.reduceLT, Int.reduceEq, Int.reduceNeg, Int.reduceAdd, Int.reduceSub, Int.reduceMul, Int.reduceNe, ne_eq, not_false_eq_true, not_true_eq_false, false_implies, forall_const, Nat.le_refl, Nat.zero_le, implies_true, and_self]
  (repeat' (first | apply And.intro | intro _))
  all_goals (try first | omega | trivial | (rfl; done) | assumption | (exfalso; omega) | (exact t) | (refine V.wk t ?_; simp [lle]; done))

/-! calls without loops: score, set -/
set_option maxRecDepth 100000 in
theorem r_X6_score (D : Nat) (σ : Sg) (x y v : Int) (hx : inR x) (hy : inR y) (hv : inR v) :
    (¬ (0 ≤ x ∧ x < 4 ∧ 0 ≤ y ∧ y < 4 ∧ -20 ≤ v ∧ v ≤ 21) ∧ Ret (D + 2) miX6_score [aR 6, aI x, aI y, aI v] σ (some (aI (-2147483648))) σ) ∨ ((0 ≤ x ∧ x < 4 ∧ 0 ≤ y ∧ y < 4 ∧ -20 ≤ v ∧ v ≤ 21) ∧ Ret (D + 2) miX6_score [aR 6, aI x, aI y, aI v] σ (some (aI (σ 29 (4 * x + y)))) (up (up σ 29 (4 * x + y) v) 29 (4 * y + x) v)) := by
  have i1 := r_X6_in D σ x 0 3 (by unfold inL; omega) (by unfold inL; omega) (by unfold inL; omega)
  have i2 := r_X6_in D σ y 0 3 (by unfold inL; omega) (by unfold inL; omega) (by unfold inL; omega)
  have i3 := r_X6_in D σ v (-20) 21 (by unfold inL; omega) (by unfold inL; omega) (by unfold inL; omega)
  by_cases c1 : 0 ≤ x ∧ x < 4
  · rw [if_pos (by omega)] at i1
    by_cases c2 : 0 ≤ y ∧ y < 4
    · rw [if_pos (by omega)] at i2
      by_cases c3 : -20 ≤ v ∧ v ≤ 21
      · rw [if_pos c3] at i3
        refine Or.inr ⟨by omega, ?_⟩
        refine Ret.of 6 [some (aR 6), some (aI x), some (aI y), some (aI v), none] rfl (by decide) rfl (Nat.le_of_ble_eq_true rfl) ?_
        refine vX6_score 60 ?_
        simp only [↓S_X6_score_1, ↓S_X6_score_2, ↓pI_c, ↓pL_c, ↓pR_c, ↓pC_I, ↓pC_R, ↓pE_n, ↓gI_0, ↓gI_s, ↓gL_0, ↓gL_s, ↓gR_0, ↓gR_s, ↓popN_0, ↓popN_s, ↓kl_I, ↓kl_L, ↓kl_R, ↓kl_n, ↓put1_0, ↓put1_s, ↓putk_0, ↓putk_s, ↓put2_0, ↓put2_s, ↓putl_0, ↓putl_s, ↓callK_0, ↓callK_1, ↓callK_2, cats_n, cats_c, catA_I, catA_L, catA_R, KL, LV, lval_f, ltag_f, llen_f, lcm_lt, lcm_le, lcm_gt, lcm_ge, lcm_eq, lcm_R1, lcm_R2, inR, inL, true_and, and_true, eq_self, List.head?_cons, Option.some.injEq, Sum.inr.injEq, Sum.inl.injEq, false_or, or_false, true_or, or_true, Nat.reduceAdd, Nat.reduceLeDiff, Int.reduceLE, Int.reduceLT, Int.reduceEq, Int.reduceNeg, Int.reduceAdd, Int.reduceSub, Int.reduceMul, Int.reduceNe, ne_eq, not_false_eq_true, not_true_eq_false, false_implies, forall_const, Nat.le_refl, Nat.zero_le, implies_true, and_self]
        (repeat' (first | apply And.intro | intro _ | with_reducible refine Exists.intro _ (Exists.intro _ (And.intro i1 ?_)) | with_reducible refine Exists.intro _ (And.intro i1 ?_) | with_reducible refine Exists.intro _ (Exists.intro _ (And.intro i2 ?_)) | with_reducible refine Exists.intro _ (And.intro i2 ?_) | with_reducible refine Exists.intro _ (Exists.intro _ (And.intro i3 ?_)) | with_reducible refine Exists.intro _ (And.intro i3 ?_)))
        all_goals (try first | omega | trivial | (rfl; done) | assumption | (exfalso; omega))
      · rw [if_neg c3] at i3
        refine Or.inl ⟨by omega, ?_⟩
        refine Ret.of 6 [some (aR 6), some (aI x), some (aI y), some (aI v), none] rfl (by decide) rfl (Nat.le_of_ble_eq_true rfl) ?_
        refine vX6_score 60 ?_
        simp only [↓S_X6_score_1, ↓S_X6_score_2, ↓pI_c, ↓pL_c, ↓pR_c, ↓pC_I, ↓pC_R, ↓pE_n, ↓gI_0, ↓gI_s, ↓gL_0, ↓gL_s, ↓gR_0, ↓gR_s, ↓popN_0, ↓popN_s, ↓kl_I, ↓kl_L, ↓kl_R, ↓kl_n, ↓put1_0, ↓put1_s, ↓putk_0, ↓putk_s, ↓put2_0, ↓put2_s, ↓putl_0, ↓putl_s, ↓callK_0, ↓callK_1, ↓callK_2, cats_n, cats_c, catA_I, catA_L, catA_R, KL, LV, lval_f, ltag_f, llen_f, lcm_lt, lcm_le, lcm_gt, lcm_ge, lcm_eq, lcm_R1, lcm_R2, inR, inL, true_and, and_true, eq_self, List.head?_cons, Option.some.injEq, Sum.inr.injEq, Sum.inl.injEq, false_or, or_false, true_or, or_true, Nat.reduceAdd, Nat.reduceLeDiff, Int.reduceLE, Int.reduceLT, Int.reduceEq, Int.reduceNeg, Int.reduceAdd, Int.reduceSub, Int.reduceMul, Int.reduceNe, ne_eq, not_false_eq_true, not_true_eq_false, false_implies, forall_const, Nat.le_refl, Nat.zero_le, implies_true, and_self]
        (repeat' (first | apply And.intro | intro _ | with_reducible refine Exists.intro _ (Exists.intro _ (And.intro i1 ?_)) | with_reducible refine Exists.intro _ (And.intro i1 ?_) | with_reducible refine Exists.intro _ (Exists.intro _ (And.intro i2 ?_)) | with_reducible refine Exists.intro _ (And.intro i2 ?_) | with_reducible refine Exists.intro _ (Exists.intro _ (And.intro i3 ?_)) | with_reducible refine Exists.intro _ (And.intro i3 ?_)))
        all_goals (try first | omega | trivial | (rfl; done) | assumption | (exfalso; omega))
    · rw [if_neg (by omega)] at i2
      refine Or.inl ⟨by omega, ?_⟩
      refine Ret.of 6 [some (aR 6), some (aI x), some (aI y), some (aI v), none] rfl (by decide) rfl (Nat.le_of_ble_eq_true rfl) ?_
      refine vX6_score 60 ?_
      simp only [↓S_X6_score_1, ↓S_X6_score_2, ↓pI_c, ↓pL_c, ↓pR_c, ↓pC_I, ↓pC_R, ↓pE_n, ↓gI_0, ↓gI_s, ↓gL_0, ↓gL_s, ↓gR_0, ↓gR_s, ↓popN_0, ↓popN_s, ↓kl_I, ↓kl_L, ↓kl_R, ↓kl_n, ↓put1_0, ↓put1_s, ↓putk_0, ↓putk_s, ↓put2_0, ↓put2_s, ↓putl_0, ↓putl_s, ↓callK_0, ↓callK_1, ↓callK_2, cats_n, cats_c, catA_I, catA_L, catA_R, KL, LV, lval_f, ltag_f, llen_f, lcm_lt, lcm_le, lcm_gt, lcm_ge, lcm_eq, lcm_R1, lcm_R2, inR, inL, true_and, and_true, eq_self, List.head?_cons, Option.some.injEq, Sum.inr.injEq, Sum.inl.injEq, false_or, or_false, true_or, or_true, Nat.reduceAdd, Nat.reduceLeDiff, Int.reduceLE, Int.reduceLT, Int.reduceEq, Int.reduceNeg, Int.reduceAdd, Int.reduceSub, Int.reduceMul, Int.reduceNe, ne_eq, not_false_eq_true, not_true_eq_false, false_implies, forall_const, Nat.le_refl, Nat.zero_le, implies_true, and_self]
      (repeat' (first | apply And.intro | intro _ | with_reducible refine Exists.intro _ (Exists.intro _ (And.intro i1 ?_)) | with_reducible refine Exists.intro _ (And.intro i1 ?_) | with_reducible refine Exists.intro _ (Exists.intro _ (And.intro i2 ?_)) | with_reducible refine Exists.intro _ (And.intro i2 ?_)))
      all_goals (try first | omega | trivial | (rfl; done) | assumption | (exfalso; omega))
  · rw [if_neg (by omega)] at i1
    refine Or.inl ⟨by omega, ?_⟩
    refine Ret.of 6 [some (aR 6), some (aI x), some (aI y), some (aI v), none] rfl (by decide) rfl (Nat.le_of_ble_eq_true rfl) ?_
    refine vX6_score 60 ?_
    simp only [↓S_X6_score_1, ↓S_X6_score_2, ↓pI_c, ↓pL_c, ↓pR_c, ↓pC_I, ↓pC_R, ↓pE_n, ↓gI_0, ↓gI_s, ↓gL_0, ↓gL_s, ↓gR_0, ↓gR_s, ↓popN_0, ↓popN_s, ↓kl_I, ↓kl_L, ↓kl_R, ↓kl_n, ↓put1_0, ↓put1_s, ↓putk_0, ↓putk_s, ↓put2_0, ↓put2_s, ↓putl_0, ↓putl_s, ↓callK_0, ↓callK_1, ↓callK_2, cats_n, cats_c, catA_I, catA_L, catA_R, KL, LV, lval_f, ltag_f, llen_f, lcm_lt, lcm_le, lcm_gt, lcm_ge, lcm_eq, lcm_R1, lcm_R2, inR, inL, true_and, and_true, eq_self, List.head?_cons, Option.some.injEq, Sum.inr.injEq, Sum.inl.injEq, false_or, or_false, true_or, or_true, Nat.reduceAdd, Nat.reduceLeDiff, Int.reduceLE, Int.reduceLT, Int.reduceEq, Int.reduceNeg, Int.reduceAdd, Int.reduceSub, Int.reduceMul, Int.reduceNe, ne_eq, not_false_eq_true, not_true_eq_false, false_implies, forall_const, Nat.le_refl, Nat.zero_le, implies_true, and_self]
    (repeat' (first | apply And.intro | intro _ | with_reducible refine Exists.intro _ (Exists.intro _ (And.intro i1 ?_)) | with_reducible refine Exists.intro _ (And.intro i1 ?_)))
    all_goals (try first | omega | trivial | (rfl; done) | assumption | (exfalso; omega))
set_option maxRecDepth 100000 in
theorem r_X5_score (D : Nat) (σ : Sg) (x y v : Int) (hx : inR x) (hy : inR y) (hv : inR v) :
    (¬ (0 ≤ x ∧ x < 4 ∧ 0 ≤ y ∧ y < 4 ∧ -20 ≤ v ∧ v ≤ 21) ∧ Ret (D + 2) miX5_score [aR 5, aI x, aI y, aI v] σ (some (aI (-2147483648))) σ) ∨ ((0 ≤ x ∧ x < 4 ∧ 0 ≤ y ∧ y < 4 ∧ -20 ≤ v ∧ v ≤ 21) ∧ Ret (D + 2) miX5_score [aR 5, aI x, aI y, aI v] σ (some (aI (σ (41 + x) y))) (up (up σ (41 + x) y v) (41 + y) x v)) := by
  have i1 := r_X4_isLetter D σ x hx
  have i2 := r_X4_isLetter D σ y hy
  by_cases c1 : 0 ≤ x ∧ x < 4
  · rw [if_pos c1] at i1
    have kx := (krow (i := x)).1 c1.1 c1.2
    by_cases c2 : 0 ≤ y ∧ y < 4
    · rw [if_pos c2] at i2
      have ky := (krow (i := y)).1 c2.1 c2.2
      by_cases c3 : -20 ≤ v ∧ v ≤ 21
      · refine Or.inr ⟨by omega, ?_⟩
        refine Ret.of 5 [some (aR 5), some (aI x), some (aI y), some (aI v), none] rfl (by decide) rfl (Nat.le_of_ble_eq_true rfl) ?_
        refine vX5_score 60 ?_
        simp only [↓S_X5_score_1, ↓S_X5_score_2, ↓pI_c, ↓pL_c, ↓pR_c, ↓pC_I, ↓pC_R, ↓pE_n, ↓gI_0, ↓gI_s, ↓gL_0, ↓gL_s, ↓gR_0, ↓gR_s, ↓popN_0, ↓popN_s, ↓kl_I, ↓kl_L, ↓kl_R, ↓kl_n, ↓put1_0, ↓put1_s, ↓putk_0, ↓putk_s, ↓put2_0, ↓put2_s, ↓putl_0, ↓putl_s, ↓callK_0, ↓callK_1, ↓callK_2, cats_n, cats_c, catA_I, catA_L, catA_R, KL, LV, lval_f, ltag_f, llen_f, lcm_lt, lcm_le, lcm_gt, lcm_ge, lcm_eq, lcm_R1, lcm_R2, inR, inL, true_and, and_true, eq_self, List.head?_cons, Option.some.injEq, Sum.inr.injEq, Sum.inl.injEq, false_or, or_false, true_or, or_true, Nat.reduceAdd, Nat.reduceLeDiff, Int.reduceLE, Int.reduceLT, Int.reduceEq, Int.reduceNeg, Int.reduceAdd, Int.reduceSub, Int.reduceMul, Int.reduceNe, ne_eq, not_false_eq_true, not_true_eq_false, false_implies, forall_const, Nat.le_refl, Nat.zero_le, implies_true, and_self]
        rw [kx.1, kx.2, ky.1, ky.2]
        (repeat' (first | apply And.intro | intro _ | with_reducible refine Exists.intro _ (Exists.intro _ (And.intro i1 ?_)) | with_reducible refine Exists.intro _ (And.intro i1 ?_) | with_reducible refine Exists.intro _ (Exists.intro _ (And.intro i2 ?_)) | with_reducible refine Exists.intro _ (And.intro i2 ?_)))
        all_goals (try first | omega | trivial | (rfl; done) | assumption | (exfalso; omega))
      · refine Or.inl ⟨by omega, ?_⟩
        refine Ret.of 5 [some (aR 5), some (aI x), some (aI y), some (aI v), none] rfl (by decide) rfl (Nat.le_of_ble_eq_true rfl) ?_
        refine vX5_score 60 ?_
        simp only [↓S_X5_score_1, ↓S_X5_score_2, ↓pI_c, ↓pL_c, ↓pR_c, ↓pC_I, ↓pC_R, ↓pE_n, ↓gI_0, ↓gI_s, ↓gL_0, ↓gL_s, ↓gR_0, ↓gR_s, ↓popN_0, ↓popN_s, ↓kl_I, ↓kl_L, ↓kl_R, ↓kl_n, ↓put1_0, ↓put1_s, ↓putk_0, ↓putk_s, ↓put2_0, ↓put2_s, ↓putl_0, ↓putl_s, ↓callK_0, ↓callK_1, ↓callK_2, cats_n, cats_c, catA_I, catA_L, catA_R, KL, LV, lval_f, ltag_f, llen_f, lcm_lt, lcm_le, lcm_gt, lcm_ge, lcm_eq, lcm_R1, lcm_R2, inR, inL, true_and, and_true, eq_self, List.head?_cons, Option.some.injEq, Sum.inr.injEq, Sum.inl.injEq, false_or, or_false, true_or, or_true, Nat.reduceAdd, Nat.reduceLeDiff, Int.reduceLE, Int.reduceLT, Int.reduceEq, Int.reduceNeg, Int.reduceAdd, Int.reduceSub, Int.reduceMul, Int.reduceNe, ne_eq, not_false_eq_true, not_true_eq_false, false_implies, forall_const, Nat.le_refl, Nat.zero_le, implies_true, and_self]
        (repeat' (first | apply And.intro | intro _ | with_reducible refine Exists.intro _ (Exists.intro _ (And.intro i1 ?_)) | with_reducible refine Exists.intro _ (And.intro i1 ?_) | with_reducible refine Exists.intro _ (Exists.intro _ (And.intro i2 ?_)) | with_reducible refine Exists.intro _ (And.intro i2 ?_)))
        all_goals (try first | omega | trivial | (rfl; done) | assumption | (exfalso; omega))
    · rw [if_neg c2] at i2
      refine Or.inl ⟨by omega, ?_⟩
      refine Ret.of 5 [some (aR 5), some (aI x), some (aI y), some (aI v), none] rfl (by decide) rfl (Nat.le_of_ble_eq_true rfl) ?_
      refine vX5_score 60 ?_
      simp only [↓S_X5_score_1, ↓S_X5_score_2, ↓pI_c, ↓pL_c, ↓pR_c, ↓pC_I, ↓pC_R, ↓pE_n, ↓gI_0, ↓gI_s, ↓gL_0, ↓gL_s, ↓gR_0, ↓gR_s, ↓popN_0, ↓popN_s, ↓kl_I, ↓kl_L, ↓kl_R, ↓kl_n, ↓put1_0, ↓put1_s, ↓putk_0, ↓putk_s, ↓put2_0, ↓put2_s, ↓putl_0, ↓putl_s, ↓callK_0, ↓callK_1, ↓callK_2, cats_n, cats_c, catA_I, catA_L, catA_R, KL, LV, lval_f, ltag_f, llen_f, lcm_lt, lcm_le, lcm_gt, lcm_ge, lcm_eq, lcm_R1, lcm_R2, inR, inL, true_and, and_true, eq_self, List.head?_cons, Option.some.injEq, Sum.inr.injEq, Sum.inl.injEq, false_or, or_false, true_or, or_true, Nat.reduceAdd, Nat.reduceLeDiff, Int.reduceLE, Int.reduceLT, Int.reduceEq, Int.reduceNeg, Int.reduceAdd, Int.reduceSub, Int.reduceMul, Int.reduceNe, ne_eq, not_false_eq_true, not_true_eq_false, false_implies, forall_const, Nat.le_refl, Nat.zero_le, implies_true, and_self]
      (repeat' (first | apply And.intro | intro _ | with_reducible refine Exists.intro _ (Exists.intro _ (And.intro i1 ?_)) | with_reducible refine Exists.intro _ (And.intro i1 ?_) | with_reducible refine Exists.intro _ (Exists.intro _ (And.intro i2 ?_)) | with_reducible refine Exists.intro _ (And.intro i2 ?_)))
      all_goals (try first | omega | trivial | (rfl; done) | assumption | (exfalso; omega))
  · rw [if_neg c1] at i1
    refine Or.inl ⟨by omega, ?_⟩
    refine Ret.of 5 [some (aR 5), some (aI x), some (aI y), some (aI v), none] rfl (by decide) rfl (Nat.le_of_ble_eq_true rfl) ?_
    refine vX5_score 60 ?_
    simp only [↓S_X5_score_1, ↓S_X5_score_2, ↓pI_c, ↓pL_c, ↓pR_c, ↓pC_I, ↓pC_R, ↓pE_n, ↓gI_0, ↓gI_s, ↓gL_0, ↓gL_s, ↓gR_0, ↓gR_s, ↓popN_0, ↓popN_s, ↓kl_I, ↓kl_L, ↓kl_R, ↓kl_n, ↓put1_0, ↓put1_s, ↓putk_0, ↓putk_s, ↓put2_0, ↓put2_s, ↓putl_0, ↓putl_s, ↓callK_0, ↓callK_1, ↓callK_2, cats_n, cats_c, catA_I, catA_L, catA_R, KL, LV, lval_f, ltag_f, llen_f, lcm_lt, lcm_le, lcm_gt, lcm_ge, lcm_eq, lcm_R1, lcm_R2, inR, inL, true_and, and_true, eq_self, List.head?_cons, Option.some.injEq, Sum.inr.injEq, Sum.inl.injEq, false_or, or_false, true_or, or_true, Nat.reduceAdd, Nat.reduceLeDiff, Int.reduceLE, Int.reduceLT, Int.reduceEq, Int.reduceNeg, Int.reduceAdd, Int.reduceSub, Int.reduceMul, Int.reduceNe, ne_eq, not_false_eq_true, not_true_eq_false, false_implies, forall_const, Nat.le_refl, Nat.zero_le, implies_true, and_self]
    (repeat' (first | apply And.intro | intro _ | with_reducible refine Exists.intro _ (Exists.intro _ (And.intro i1 ?_)) | with_reducible refine Exists.intro _ (And.intro i1 ?_)))
    all_goals (try first | omega | trivial | (rfl; done) | assumption | (exfalso; omega))

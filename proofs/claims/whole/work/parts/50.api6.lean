/-! calls without loops: set -/
set_option maxRecDepth 100000 in
theorem r_X6_set (D : Nat) (σ : Sg) (x v : Int) (hx : inR x) (hv : inR v) : ∃ z τ, Ret (D + 2) miX6_set [aR 6, aI x, aI v] σ (some (aI z)) τ ∧ ((x = 0 ∧ 0 ≤ v ∧ v ≤ 8 ∧ z = σ 6 7 ∧ τ = up (up σ 6 7 v) 6 8 (σ 6 8)) ∨ (x = 1 ∧ -20 ≤ v ∧ v ≤ 20 ∧ z = σ 6 8 ∧ τ = up (up σ 6 7 (σ 6 7)) 6 8 v) ∨ (¬ (x = 0 ∧ 0 ≤ v ∧ v ≤ 8) ∧ ¬ (x = 1 ∧ -20 ≤ v ∧ v ≤ 20) ∧ z = -2147483648 ∧ τ = σ)) := by
  have i1 := r_X6_in D σ x 0 1 (by unfold inL; omega) (by unfold inL; omega) (by unfold inL; omega)
  have i2 := r_X6_in D σ v 0 8 (by unfold inL; omega) (by unfold inL; omega) (by unfold inL; omega)
  have i3 := r_X6_in D σ v (-20) 20 (by unfold inL; omega) (by unfold inL; omega) (by unfold inL; omega)
  by_cases c0 : x = 0
  · subst c0
    rw [if_pos (by omega)] at i1
    by_cases c1 : 0 ≤ v ∧ v ≤ 8
    · rw [if_pos c1] at i2
      refine ⟨_, _, ?_, Or.inl ⟨rfl, c1.1, c1.2, rfl, rfl⟩⟩
      have e1 : up σ 6 7 v 6 8 = σ 6 8 := by unfold up; rw [if_neg (by omega)]
      refine Ret.of 6 [some (aR 6), some (aI 0), some (aI v), none] rfl (by decide) rfl (Nat.le_of_ble_eq_true rfl) ?_
      refine vX6_set 60 ?_
      simp only [↓S_X6_set_1, ↓S_X6_set_2, ↓pI_c, ↓pL_c, ↓pR_c, ↓pC_I, ↓pC_R, ↓pE_n, ↓gI_0, ↓gI_s, ↓gL_0, ↓gL_s, ↓gR_0, ↓gR_s, ↓popN_0, ↓popN_s, ↓kl_I, ↓kl_L, ↓kl_R, ↓kl_n, ↓put1_0, ↓put1_s, ↓putk_0, ↓putk_s, ↓put2_0, ↓put2_s, ↓putl_0, ↓putl_s, ↓callK_0, ↓callK_1, ↓callK_2, cats_n, cats_c, catA_I, catA_L, catA_R, KL, LV, lval_f, ltag_f, llen_f, lcm_lt, lcm_le, lcm_gt, lcm_ge, lcm_eq, lcm_R1, lcm_R2, inR, inL, true_and, and_true, eq_self, List.head?_cons, Option.some.injEq, Sum.inr.injEq, Sum.inl.injEq, false_or, or_false, true_or, or_true, Nat.reduceAdd, Nat.reduceLeDiff, Int.reduceLE, Int.reduceLT, Int.reduceEq, Int.reduceNeg, Int.reduceAdd, Int.reduceSub, Int.reduceMul, Int.reduceNe, ne_eq, not_false_eq_true, not_true_eq_false, false_implies, forall_const, Nat.le_refl, Nat.zero_le, implies_true, and_self]
      (repeat' (first | apply And.intro | intro _ | with_reducible refine Exists.intro _ (Exists.intro _ (And.intro i1 ?_)) | with_reducible refine Exists.intro _ (And.intro i1 ?_) | with_reducible refine Exists.intro _ (Exists.intro _ (And.intro i2 ?_)) | with_reducible refine Exists.intro _ (And.intro i2 ?_)))
      all_goals (try first | omega | trivial | (rfl; done) | assumption | (exfalso; omega) | (simp only [e1]; done) | (simp only [e1]; first | omega | (rfl; done)))
    · rw [if_neg c1] at i2
      refine ⟨_, _, ?_, Or.inr (Or.inr ⟨by omega, by omega, rfl, rfl⟩)⟩
      refine Ret.of 6 [some (aR 6), some (aI 0), some (aI v), none] rfl (by decide) rfl (Nat.le_of_ble_eq_true rfl) ?_
      refine vX6_set 60 ?_
      simp only [↓S_X6_set_1, ↓S_X6_set_2, ↓pI_c, ↓pL_c, ↓pR_c, ↓pC_I, ↓pC_R, ↓pE_n, ↓gI_0, ↓gI_s, ↓gL_0, ↓gL_s, ↓gR_0, ↓gR_s, ↓popN_0, ↓popN_s, ↓kl_I, ↓kl_L, ↓kl_R, ↓kl_n, ↓put1_0, ↓put1_s, ↓putk_0, ↓putk_s, ↓put2_0, ↓put2_s, ↓putl_0, ↓putl_s, ↓callK_0, ↓callK_1, ↓callK_2, cats_n, cats_c, catA_I, catA_L, catA_R, KL, LV, lval_f, ltag_f, llen_f, lcm_lt, lcm_le, lcm_gt, lcm_ge, lcm_eq, lcm_R1, lcm_R2, inR, inL, true_and, and_true, eq_self, List.head?_cons, Option.some.injEq, Sum.inr.injEq, Sum.inl.injEq, false_or, or_false, true_or, or_true, Nat.reduceAdd, Nat.reduceLeDiff, Int.reduceLE, Int.reduceLT, Int.reduceEq, Int.reduceNeg, Int.reduceAdd, Int.reduceSub, Int.reduceMul, Int.reduceNe, ne_eq, not_false_eq_true, not_true_eq_false, false_implies, forall_const, Nat.le_refl, Nat.zero_le, implies_true, and_self]
      (repeat' (first | apply And.intro | intro _ | with_reducible refine Exists.intro _ (Exists.intro _ (And.intro i1 ?_)) | with_reducible refine Exists.intro _ (And.intro i1 ?_) | with_reducible refine Exists.intro _ (Exists.intro _ (And.intro i2 ?_)) | with_reducible refine Exists.intro _ (And.intro i2 ?_)))
      all_goals (try first | omega | trivial | (rfl; done) | assumption | (exfalso; omega))
  · by_cases c1 : x = 1
    · subst c1
      rw [if_pos (by omega)] at i1
      by_cases c1 : -20 ≤ v ∧ v ≤ 20
      · rw [if_pos c1] at i3
        refine ⟨_, _, ?_, Or.inr (Or.inl ⟨rfl, c1.1, c1.2, rfl, rfl⟩)⟩
        refine Ret.of 6 [some (aR 6), some (aI 1), some (aI v), none] rfl (by decide) rfl (Nat.le_of_ble_eq_true rfl) ?_
        refine vX6_set 60 ?_
        simp only [↓S_X6_set_1, ↓S_X6_set_2, ↓pI_c, ↓pL_c, ↓pR_c, ↓pC_I, ↓pC_R, ↓pE_n, ↓gI_0, ↓gI_s, ↓gL_0, ↓gL_s, ↓gR_0, ↓gR_s, ↓popN_0, ↓popN_s, ↓kl_I, ↓kl_L, ↓kl_R, ↓kl_n, ↓put1_0, ↓put1_s, ↓putk_0, ↓putk_s, ↓put2_0, ↓put2_s, ↓putl_0, ↓putl_s, ↓callK_0, ↓callK_1, ↓callK_2, cats_n, cats_c, catA_I, catA_L, catA_R, KL, LV, lval_f, ltag_f, llen_f, lcm_lt, lcm_le, lcm_gt, lcm_ge, lcm_eq, lcm_R1, lcm_R2, inR, inL, true_and, and_true, eq_self, List.head?_cons, Option.some.injEq, Sum.inr.injEq, Sum.inl.injEq, false_or, or_false, true_or, or_true, Nat.reduceAdd, Nat.reduceLeDiff, Int.reduceLE, Int.reduceLT, Int.reduceEq, Int.reduceNeg, Int.reduceAdd, Int.reduceSub, Int.reduceMul, Int.reduceNe, ne_eq, not_false_eq_true, not_true_eq_false, false_implies, forall_const, Nat.le_refl, Nat.zero_le, implies_true, and_self]
        (repeat' (first | apply And.intro | intro _ | with_reducible refine Exists.intro _ (Exists.intro _ (And.intro i1 ?_)) | with_reducible refine Exists.intro _ (And.intro i1 ?_) | with_reducible refine Exists.intro _ (Exists.intro _ (And.intro i3 ?_)) | with_reducible refine Exists.intro _ (And.intro i3 ?_)))
        all_goals (try first | omega | trivial | (rfl; done) | assumption | (exfalso; omega))
      · rw [if_neg c1] at i3
        refine ⟨_, _, ?_, Or.inr (Or.inr ⟨by omega, by omega, rfl, rfl⟩)⟩
        refine Ret.of 6 [some (aR 6), some (aI 1), some (aI v), none] rfl (by decide) rfl (Nat.le_of_ble_eq_true rfl) ?_
        refine vX6_set 60 ?_
        simp only [↓S_X6_set_1, ↓S_X6_set_2, ↓pI_c, ↓pL_c, ↓pR_c, ↓pC_I, ↓pC_R, ↓pE_n, ↓gI_0, ↓gI_s, ↓gL_0, ↓gL_s, ↓gR_0, ↓gR_s, ↓popN_0, ↓popN_s, ↓kl_I, ↓kl_L, ↓kl_R, ↓kl_n, ↓put1_0, ↓put1_s, ↓putk_0, ↓putk_s, ↓put2_0, ↓put2_s, ↓putl_0, ↓putl_s, ↓callK_0, ↓callK_1, ↓callK_2, cats_n, cats_c, catA_I, catA_L, catA_R, KL, LV, lval_f, ltag_f, llen_f, lcm_lt, lcm_le, lcm_gt, lcm_ge, lcm_eq, lcm_R1, lcm_R2, inR, inL, true_and, and_true, eq_self, List.head?_cons, Option.some.injEq, Sum.inr.injEq, Sum.inl.injEq, false_or, or_false, true_or, or_true, Nat.reduceAdd, Nat.reduceLeDiff, Int.reduceLE, Int.reduceLT, Int.reduceEq, Int.reduceNeg, Int.reduceAdd, Int.reduceSub, Int.reduceMul, Int.reduceNe, ne_eq, not_false_eq_true, not_true_eq_false, false_implies, forall_const, Nat.le_refl, Nat.zero_le, implies_true, and_self]
        (repeat' (first | apply And.intro | intro _ | with_reducible refine Exists.intro _ (Exists.intro _ (And.intro i1 ?_)) | with_reducible refine Exists.intro _ (And.intro i1 ?_) | with_reducible refine Exists.intro _ (Exists.intro _ (And.intro i3 ?_)) | with_reducible refine Exists.intro _ (And.intro i3 ?_)))
        all_goals (try first | omega | trivial | (rfl; done) | assumption | (exfalso; omega))
    · rw [if_neg (by omega)] at i1
      refine ⟨_, _, ?_, Or.inr (Or.inr ⟨by omega, by omega, rfl, rfl⟩)⟩
      refine Ret.of 6 [some (aR 6), some (aI x), some (aI v), none] rfl (by decide) rfl (Nat.le_of_ble_eq_true rfl) ?_
      refine vX6_set 60 ?_
      simp only [↓S_X6_set_1, ↓S_X6_set_2, ↓pI_c, ↓pL_c, ↓pR_c, ↓pC_I, ↓pC_R, ↓pE_n, ↓gI_0, ↓gI_s, ↓gL_0, ↓gL_s, ↓gR_0, ↓gR_s, ↓popN_0, ↓popN_s, ↓kl_I, ↓kl_L, ↓kl_R, ↓kl_n, ↓put1_0, ↓put1_s, ↓putk_0, ↓putk_s, ↓put2_0, ↓put2_s, ↓putl_0, ↓putl_s, ↓callK_0, ↓callK_1, ↓callK_2, cats_n, cats_c, catA_I, catA_L, catA_R, KL, LV, lval_f, ltag_f, llen_f, lcm_lt, lcm_le, lcm_gt, lcm_ge, lcm_eq, lcm_R1, lcm_R2, inR, inL, true_and, and_true, eq_self, List.head?_cons, Option.some.injEq, Sum.inr.injEq, Sum.inl.injEq, false_or, or_false, true_or, or_true, Nat.reduceAdd, Nat.reduceLeDiff, Int.reduceLE, Int.reduceLT, Int.reduceEq, Int.reduceNeg, Int.reduceAdd, Int.reduceSub, Int.reduceMul, Int.reduceNe, ne_eq, not_false_eq_true, not_true_eq_false, false_implies, forall_const, Nat.le_refl, Nat.zero_le, implies_true, and_self]
      (repeat' (first | apply And.intro | intro _ | with_reducible refine Exists.intro _ (Exists.intro _ (And.intro i1 ?_)) | with_reducible refine Exists.intro _ (And.intro i1 ?_)))
      all_goals (try first | omega | trivial | (rfl; done) | assumption | (exfalso; omega))
set_option maxRecDepth 100000 in
theorem r_X5_set (D : Nat) (σ : Sg) (x v : Int) (hx : inR x) (hv : inR v) : ∃ z τ, Ret (D + 2) miX5_set [aR 5, aI x, aI v] σ (some (aI z)) τ ∧ ((x = 0 ∧ 0 ≤ v ∧ v ≤ 8 ∧ z = σ 4 1 ∧ τ = up σ 4 1 v) ∨ (x = 1 ∧ -20 ≤ v ∧ v ≤ 20 ∧ z = σ 4 2 ∧ τ = up σ 4 2 v) ∨ (¬ (x = 0 ∧ 0 ≤ v ∧ v ≤ 8) ∧ ¬ (x = 1 ∧ -20 ≤ v ∧ v ≤ 20) ∧ z = -2147483648 ∧ τ = σ)) := by
  by_cases c0 : x = 0 ∧ 0 ≤ v ∧ v ≤ 8
  · refine ⟨_, _, ?_, Or.inl ⟨c0.1, c0.2.1, c0.2.2, rfl, rfl⟩⟩
    refine Ret.of 5 [some (aR 5), some (aI x), some (aI v), none] rfl (by decide) rfl (Nat.le_of_ble_eq_true rfl) ?_
    refine vX5_set 60 ?_
    simp only [↓S_X5_set, ↓pI_c, ↓pL_c, ↓pR_c, ↓pC_I, ↓pC_R, ↓pE_n, ↓gI_0, ↓gI_s, ↓gL_0, ↓gL_s, ↓gR_0, ↓gR_s, ↓popN_0, ↓popN_s, ↓kl_I, ↓kl_L, ↓kl_R, ↓kl_n, ↓put1_0, ↓put1_s, ↓putk_0, ↓putk_s, ↓put2_0, ↓put2_s, ↓putl_0, ↓putl_s, ↓callK_0, ↓callK_1, ↓callK_2, cats_n, cats_c, catA_I, catA_L, catA_R, KL, LV, lval_f, ltag_f, llen_f, lcm_lt, lcm_le, lcm_gt, lcm_ge, lcm_eq, lcm_R1, lcm_R2, inR, inL, true_and, and_true, eq_self, List.head?_cons, Option.some.injEq, Sum.inr.injEq, Sum.inl.injEq, false_or, or_false, true_or, or_true, Nat.reduceAdd, Nat.reduceLeDiff, Int.reduceLE, Int.reduceLT, Int.reduceEq, Int.reduceNeg, Int.reduceAdd, Int.reduceSub, Int.reduceMul, Int.reduceNe, ne_eq, not_false_eq_true, not_true_eq_false, false_implies, forall_const, Nat.le_refl, Nat.zero_le, implies_true, and_self]
    (repeat' (first | apply And.intro | intro _))
    all_goals (try first | omega | trivial | (rfl; done) | assumption | (exfalso; omega))
  · by_cases c1 : x = 1 ∧ -20 ≤ v ∧ v ≤ 20
    · refine ⟨_, _, ?_, Or.inr (Or.inl ⟨c1.1, c1.2.1, c1.2.2, rfl, rfl⟩)⟩
      refine Ret.of 5 [some (aR 5), some (aI x), some (aI v), none] rfl (by decide) rfl (Nat.le_of_ble_eq_true rfl) ?_
      refine vX5_set 60 ?_
      simp only [↓S_X5_set, ↓pI_c, ↓pL_c, ↓pR_c, ↓pC_I, ↓pC_R, ↓pE_n, ↓gI_0, ↓gI_s, ↓gL_0, ↓gL_s, ↓gR_0, ↓gR_s, ↓popN_0, ↓popN_s, ↓kl_I, ↓kl_L, ↓kl_R, ↓kl_n, ↓put1_0, ↓put1_s, ↓putk_0, ↓putk_s, ↓put2_0, ↓put2_s, ↓putl_0, ↓putl_s, ↓callK_0, ↓callK_1, ↓callK_2, cats_n, cats_c, catA_I, catA_L, catA_R, KL, LV, lval_f, ltag_f, llen_f, lcm_lt, lcm_le, lcm_gt, lcm_ge, lcm_eq, lcm_R1, lcm_R2, inR, inL, true_and, and_true, eq_self, List.head?_cons, Option.some.injEq, Sum.inr.injEq, Sum.inl.injEq, false_or, or_false, true_or, or_true, Nat.reduceAdd, Nat.reduceLeDiff, Int.reduceLE, Int.reduceLT, Int.reduceEq, Int.reduceNeg, Int.reduceAdd, Int.reduceSub, Int.reduceMul, Int.reduceNe, ne_eq, not_false_eq_true, not_true_eq_false, false_implies, forall_const, Nat.le_refl, Nat.zero_le, implies_true, and_self]
      (repeat' (first | apply And.intro | intro _))
      all_goals (try first | omega | trivial | (rfl; done) | assumption | (exfalso; omega))
    · refine ⟨_, _, ?_, Or.inr (Or.inr ⟨c0, c1, rfl, rfl⟩)⟩
      refine Ret.of 5 [some (aR 5), some (aI x), some (aI v), none] rfl (by decide) rfl (Nat.le_of_ble_eq_true rfl) ?_
      refine vX5_set 60 ?_
      simp only [↓S_X5_set, ↓pI_c, ↓pL_c, ↓pR_c, ↓pC_I, ↓pC_R, ↓pE_n, ↓gI_0, ↓gI_s, ↓gL_0, ↓gL_s, ↓gR_0, ↓gR_s, ↓popN_0, ↓popN_s, ↓kl_I, ↓kl_L, ↓kl_R, ↓kl_n, ↓put1_0, ↓put1_s, ↓putk_0, ↓putk_s, ↓put2_0, ↓put2_s, ↓putl_0, ↓putl_s, ↓callK_0, ↓callK_1, ↓callK_2, cats_n, cats_c, catA_I, catA_L, catA_R, KL, LV, lval_f, ltag_f, llen_f, lcm_lt, lcm_le, lcm_gt, lcm_ge, lcm_eq, lcm_R1, lcm_R2, inR, inL, true_and, and_true, eq_self, List.head?_cons, Option.some.injEq, Sum.inr.injEq, Sum.inl.injEq, false_or, or_false, true_or, or_true, Nat.reduceAdd, Nat.reduceLeDiff, Int.reduceLE, Int.reduceLT, Int.reduceEq, Int.reduceNeg, Int.reduceAdd, Int.reduceSub, Int.reduceMul, Int.reduceNe, ne_eq, not_false_eq_true, not_true_eq_false, false_implies, forall_const, Nat.le_refl, Nat.zero_le, implies_true, and_self]
      (repeat' (first | apply And.intro | intro _))
      all_goals (try first | omega | trivial | (rfl; done) | assumption | (exfalso; omega))

/-! calls without loops: part, height -/
set_option maxRecDepth 100000 in
theorem r_X6_part (D : Nat) (σ : Sg) (a : Int) (h : inR a) (hw : WD (σ 6 0) (σ 26)) :
    (¬ (0 ≤ a ∧ a < σ 6 0) ∧ Ret (D + 3) miX6_part [aR 6, aI a] σ (some (aI (-2))) σ) ∨ ((0 ≤ a ∧ a < σ 6 0) ∧ ((σ 26 a = -1 ∧ Ret (D + 3) miX6_part [aR 6, aI a] σ (some (aI (-3))) σ) ∨ (σ 26 a ≠ -1 ∧ Ret (D + 3) miX6_part [aR 6, aI a] σ (some (aI (σ 26 a))) (up (up σ 26 a (-1)) 26 (σ 26 a) (-1))))) := by
  have w1 := hw.1
  have w2 := hw.2.1
  have ia := r_X6_isPoint D σ a h w1 w2
  by_cases c1 : 0 ≤ a ∧ a < σ 6 0
  · rw [if_pos c1] at ia
    have ra := hw.r c1.1 (show a < 24 by omega)
    refine Or.inr ⟨c1, ?_⟩
    by_cases c2 : σ 26 a = -1
    · refine Or.inl ⟨c2, ?_⟩
      refine Ret.of 6 [some (aR 6), some (aI a), none] rfl (by decide) rfl (Nat.le_of_ble_eq_true rfl) ?_
      refine vX6_part 60 ?_
      simp only [↓S_X6_part, ↓pI_c, ↓pL_c, ↓pR_c, ↓pC_I, ↓pC_R, ↓pE_n, ↓gI_0, ↓gI_s, ↓gL_0, ↓gL_s, ↓gR_0, ↓gR_s, ↓popN_0, ↓popN_s, ↓kl_I, ↓kl_L, ↓kl_R, ↓kl_n, ↓put1_0, ↓put1_s, ↓putk_0, ↓putk_s, ↓put2_0, ↓put2_s, ↓putl_0, ↓putl_s, ↓callK_0, ↓callK_1, ↓callK_2, cats_n, cats_c, catA_I, catA_L, catA_R, KL, LV, lval_f, ltag_f, llen_f, lcm_lt, lcm_le, lcm_gt, lcm_ge, lcm_eq, lcm_R1, lcm_R2, inR, inL, true_and, and_true, eq_self, List.head?_cons, Option.some.injEq, Sum.inr.injEq, Sum.inl.injEq, false_or, or_false, true_or, or_true, Nat.reduceAdd, Nat.reduceLeDiff, Int.reduceLE, Int.reduceLT, Int.reduceEq, Int.reduceNeg, Int.reduceAdd, Int.reduceSub, Int.reduceMul, Int.reduceNe, ne_eq, not_false_eq_true, not_true_eq_false, false_implies, forall_const, Nat.le_refl, Nat.zero_le, implies_true, and_self]
      (repeat' (first | apply And.intro | intro _ | with_reducible refine Exists.intro _ (Exists.intro _ (And.intro ia ?_)) | with_reducible refine Exists.intro _ (And.intro ia ?_)))
      all_goals (try first | omega | trivial | (rfl; done) | assumption | (exfalso; omega))
    · refine Or.inr ⟨c2, ?_⟩
      refine Ret.of 6 [some (aR 6), some (aI a), none] rfl (by decide) rfl (Nat.le_of_ble_eq_true rfl) ?_
      refine vX6_part 60 ?_
      simp only [↓S_X6_part, ↓pI_c, ↓pL_c, ↓pR_c, ↓pC_I, ↓pC_R, ↓pE_n, ↓gI_0, ↓gI_s, ↓gL_0, ↓gL_s, ↓gR_0, ↓gR_s, ↓popN_0, ↓popN_s, ↓kl_I, ↓kl_L, ↓kl_R, ↓kl_n, ↓put1_0, ↓put1_s, ↓putk_0, ↓putk_s, ↓put2_0, ↓put2_s, ↓putl_0, ↓putl_s, ↓callK_0, ↓callK_1, ↓callK_2, cats_n, cats_c, catA_I, catA_L, catA_R, KL, LV, lval_f, ltag_f, llen_f, lcm_lt, lcm_le, lcm_gt, lcm_ge, lcm_eq, lcm_R1, lcm_R2, inR, inL, true_and, and_true, eq_self, List.head?_cons, Option.some.injEq, Sum.inr.injEq, Sum.inl.injEq, false_or, or_false, true_or, or_true, Nat.reduceAdd, Nat.reduceLeDiff, Int.reduceLE, Int.reduceLT, Int.reduceEq, Int.reduceNeg, Int.reduceAdd, Int.reduceSub, Int.reduceMul, Int.reduceNe, ne_eq, not_false_eq_true, not_true_eq_false, false_implies, forall_const, Nat.le_refl, Nat.zero_le, implies_true, and_self]
      (repeat' (first | apply And.intro | intro _ | with_reducible refine Exists.intro _ (Exists.intro _ (And.intro ia ?_)) | with_reducible refine Exists.intro _ (And.intro ia ?_)))
      all_goals (try first | omega | trivial | (rfl; done) | assumption | (exfalso; omega))
  · rw [if_neg c1] at ia
    refine Or.inl ⟨c1, ?_⟩
    refine Ret.of 6 [some (aR 6), some (aI a), none] rfl (by decide) rfl (Nat.le_of_ble_eq_true rfl) ?_
    refine vX6_part 60 ?_
    simp only [↓S_X6_part, ↓pI_c, ↓pL_c, ↓pR_c, ↓pC_I, ↓pC_R, ↓pE_n, ↓gI_0, ↓gI_s, ↓gL_0, ↓gL_s, ↓gR_0, ↓gR_s, ↓popN_0, ↓popN_s, ↓kl_I, ↓kl_L, ↓kl_R, ↓kl_n, ↓put1_0, ↓put1_s, ↓putk_0, ↓putk_s, ↓put2_0, ↓put2_s, ↓putl_0, ↓putl_s, ↓callK_0, ↓callK_1, ↓callK_2, cats_n, cats_c, catA_I, catA_L, catA_R, KL, LV, lval_f, ltag_f, llen_f, lcm_lt, lcm_le, lcm_gt, lcm_ge, lcm_eq, lcm_R1, lcm_R2, inR, inL, true_and, and_true, eq_self, List.head?_cons, Option.some.injEq, Sum.inr.injEq, Sum.inl.injEq, false_or, or_false, true_or, or_true, Nat.reduceAdd, Nat.reduceLeDiff, Int.reduceLE, Int.reduceLT, Int.reduceEq, Int.reduceNeg, Int.reduceAdd, Int.reduceSub, Int.reduceMul, Int.reduceNe, ne_eq, not_false_eq_true, not_true_eq_false, false_implies, forall_const, Nat.le_refl, Nat.zero_le, implies_true, and_self]
    (repeat' (first | apply And.intro | intro _ | with_reducible refine Exists.intro _ (Exists.intro _ (And.intro ia ?_)) | with_reducible refine Exists.intro _ (And.intro ia ?_)))
    all_goals (try first | omega | trivial | (rfl; done) | assumption | (exfalso; omega))
set_option maxRecDepth 100000 in
theorem r_X5_part (D : Nat) (σ : Sg) (a : Int) (h : inR a) (hw : WD (σ 1 0) (σ 7)) :
    (¬ (0 ≤ a ∧ a < σ 1 0) ∧ Ret (D + 3) miX5_part [aR 5, aI a] σ (some (aI (-2))) σ) ∨ ((0 ≤ a ∧ a < σ 1 0) ∧ ((σ 7 a = -1 ∧ Ret (D + 3) miX5_part [aR 5, aI a] σ (some (aI (-3))) σ) ∨ (σ 7 a ≠ -1 ∧ Ret (D + 3) miX5_part [aR 5, aI a] σ (some (aI (σ 7 a))) (up (up σ 7 a (-1)) 7 (σ 7 a) (-1))))) := by
  have w1 := hw.1
  have w2 := hw.2.1
  have ia := r_X1_hasPoint (D + 1) σ a h (by unfold inR; omega)
  by_cases c1 : 0 ≤ a ∧ a < σ 1 0
  · rw [if_pos c1] at ia
    have ra := hw.r c1.1 (show a < 24 by omega)
    have ja := r_X1_isJoined (D + 1) σ a c1.1 (by omega) (by unfold inR; omega)
    refine Or.inr ⟨c1, ?_⟩
    by_cases c2 : σ 7 a = -1
    · refine Or.inl ⟨c2, ?_⟩
      rw [if_pos c2] at ja
      refine Ret.of 5 [some (aR 5), some (aI a)] rfl (by decide) rfl (Nat.le_of_ble_eq_true rfl) ?_
      refine vX5_part 60 ?_
      simp only [↓S_X5_part, ↓pI_c, ↓pL_c, ↓pR_c, ↓pC_I, ↓pC_R, ↓pE_n, ↓gI_0, ↓gI_s, ↓gL_0, ↓gL_s, ↓gR_0, ↓gR_s, ↓popN_0, ↓popN_s, ↓kl_I, ↓kl_L, ↓kl_R, ↓kl_n, ↓put1_0, ↓put1_s, ↓putk_0, ↓putk_s, ↓put2_0, ↓put2_s, ↓putl_0, ↓putl_s, ↓callK_0, ↓callK_1, ↓callK_2, cats_n, cats_c, catA_I, catA_L, catA_R, KL, LV, lval_f, ltag_f, llen_f, lcm_lt, lcm_le, lcm_gt, lcm_ge, lcm_eq, lcm_R1, lcm_R2, inR, inL, true_and, and_true, eq_self, List.head?_cons, Option.some.injEq, Sum.inr.injEq, Sum.inl.injEq, false_or, or_false, true_or, or_true, Nat.reduceAdd, Nat.reduceLeDiff, Int.reduceLE, Int.reduceLT, Int.reduceEq, Int.reduceNeg, Int.reduceAdd, Int.reduceSub, Int.reduceMul, Int.reduceNe, ne_eq, not_false_eq_true, not_true_eq_false, false_implies, forall_const, Nat.le_refl, Nat.zero_le, implies_true, and_self]
      (repeat' (first | apply And.intro | intro _ | with_reducible refine Exists.intro _ (Exists.intro _ (And.intro ia ?_)) | with_reducible refine Exists.intro _ (And.intro ia ?_) | with_reducible refine Exists.intro _ (Exists.intro _ (And.intro ja ?_)) | with_reducible refine Exists.intro _ (And.intro ja ?_)))
      all_goals (try first | omega | trivial | (rfl; done) | assumption | (exfalso; omega))
    · refine Or.inr ⟨c2, ?_⟩
      rw [if_neg c2] at ja
      have ul := r_X1_unlink (D + 1) σ a c1.1 (by omega) (by omega) (by omega)
      refine Ret.of 5 [some (aR 5), some (aI a)] rfl (by decide) rfl (Nat.le_of_ble_eq_true rfl) ?_
      refine vX5_part 60 ?_
      simp only [↓S_X5_part, ↓pI_c, ↓pL_c, ↓pR_c, ↓pC_I, ↓pC_R, ↓pE_n, ↓gI_0, ↓gI_s, ↓gL_0, ↓gL_s, ↓gR_0, ↓gR_s, ↓popN_0, ↓popN_s, ↓kl_I, ↓kl_L, ↓kl_R, ↓kl_n, ↓put1_0, ↓put1_s, ↓putk_0, ↓putk_s, ↓put2_0, ↓put2_s, ↓putl_0, ↓putl_s, ↓callK_0, ↓callK_1, ↓callK_2, cats_n, cats_c, catA_I, catA_L, catA_R, KL, LV, lval_f, ltag_f, llen_f, lcm_lt, lcm_le, lcm_gt, lcm_ge, lcm_eq, lcm_R1, lcm_R2, inR, inL, true_and, and_true, eq_self, List.head?_cons, Option.some.injEq, Sum.inr.injEq, Sum.inl.injEq, false_or, or_false, true_or, or_true, Nat.reduceAdd, Nat.reduceLeDiff, Int.reduceLE, Int.reduceLT, Int.reduceEq, Int.reduceNeg, Int.reduceAdd, Int.reduceSub, Int.reduceMul, Int.reduceNe, ne_eq, not_false_eq_true, not_true_eq_false, false_implies, forall_const, Nat.le_refl, Nat.zero_le, implies_true, and_self]
      (repeat' (first | apply And.intro | intro _ | with_reducible refine Exists.intro _ (Exists.intro _ (And.intro ia ?_)) | with_reducible refine Exists.intro _ (And.intro ia ?_) | with_reducible refine Exists.intro _ (Exists.intro _ (And.intro ja ?_)) | with_reducible refine Exists.intro _ (And.intro ja ?_) | with_reducible refine Exists.intro _ (Exists.intro _ (And.intro ul ?_)) | with_reducible refine Exists.intro _ (And.intro ul ?_)))
      all_goals (try first | omega | trivial | (rfl; done) | assumption | (exfalso; omega))
  · rw [if_neg c1] at ia
    refine Or.inl ⟨c1, ?_⟩
    refine Ret.of 5 [some (aR 5), some (aI a)] rfl (by decide) rfl (Nat.le_of_ble_eq_true rfl) ?_
    refine vX5_part 60 ?_
    simp only [↓S_X5_part, ↓pI_c, ↓pL_c, ↓pR_c, ↓pC_I, ↓pC_R, ↓pE_n, ↓gI_0, ↓gI_s, ↓gL_0, ↓gL_s, ↓gR_0, ↓gR_s, ↓popN_0, ↓popN_s, ↓kl_I, ↓kl_L, ↓kl_R, ↓kl_n, ↓put1_0, ↓put1_s, ↓putk_0, ↓putk_s, ↓put2_0, ↓put2_s, ↓putl_0, ↓putl_s, ↓callK_0, ↓callK_1, ↓callK_2, cats_n, cats_c, catA_I, catA_L, catA_R, KL, LV, lval_f, ltag_f, llen_f, lcm_lt, lcm_le, lcm_gt, lcm_ge, lcm_eq, lcm_R1, lcm_R2, inR, inL, true_and, and_true, eq_self, List.head?_cons, Option.some.injEq, Sum.inr.injEq, Sum.inl.injEq, false_or, or_false, true_or, or_true, Nat.reduceAdd, Nat.reduceLeDiff, Int.reduceLE, Int.reduceLT, Int.reduceEq, Int.reduceNeg, Int.reduceAdd, Int.reduceSub, Int.reduceMul, Int.reduceNe, ne_eq, not_false_eq_true, not_true_eq_false, false_implies, forall_const, Nat.le_refl, Nat.zero_le, implies_true, and_self]
    (repeat' (first | apply And.intro | intro _ | with_reducible refine Exists.intro _ (Exists.intro _ (And.intro ia ?_)) | with_reducible refine Exists.intro _ (And.intro ia ?_)))
    all_goals (try first | omega | trivial | (rfl; done) | assumption | (exfalso; omega))
set_option maxRecDepth 100000 in
theorem r_X6_height (D : Nat) (σ : Sg) (a : Int) (h : inR a) (hw : WD (σ 6 0) (σ 26)) : Ret (D + 3) miX6_height [aR 6, aI a] σ (some (aI (if 0 ≤ a ∧ a < σ 6 0 then rs (fun c => if a < σ 26 c then 1 else 0) 0 (a + 1).toNat else -2))) σ := by
  have w1 := hw.1
  have w2 := hw.2.1
  have ia := r_X6_isPoint D σ a h w1 w2
  by_cases c1 : 0 ≤ a ∧ a < σ 6 0
  · rw [if_pos c1] at ia
    rw [if_pos c1]
    have hh := r_X6_heightOf D σ a hw c1.1 (by omega)
    rw [hgt_open hw c1.1 c1.2] at hh
    refine Ret.of 6 [some (aR 6), some (aI a)] rfl (by decide) rfl (Nat.le_of_ble_eq_true rfl) ?_
    refine vX6_height 60 ?_
    simp only [↓S_X6_height, ↓pI_c, ↓pL_c, ↓pR_c, ↓pC_I, ↓pC_R, ↓pE_n, ↓gI_0, ↓gI_s, ↓gL_0, ↓gL_s, ↓gR_0, ↓gR_s, ↓popN_0, ↓popN_s, ↓kl_I, ↓kl_L, ↓kl_R, ↓kl_n, ↓put1_0, ↓put1_s, ↓putk_0, ↓putk_s, ↓put2_0, ↓put2_s, ↓putl_0, ↓putl_s, ↓callK_0, ↓callK_1, ↓callK_2, cats_n, cats_c, catA_I, catA_L, catA_R, KL, LV, lval_f, ltag_f, llen_f, lcm_lt, lcm_le, lcm_gt, lcm_ge, lcm_eq, lcm_R1, lcm_R2, inR, inL, true_and, and_true, eq_self, List.head?_cons, Option.some.injEq, Sum.inr.injEq, Sum.inl.injEq, false_or, or_false, true_or, or_true, Nat.reduceAdd, Nat.reduceLeDiff, Int.reduceLE, Int.reduceLT, Int.reduceEq, Int.reduceNeg, Int.reduceAdd, Int.reduceSub, Int.reduceMul, Int.reduceNe, ne_eq, not_false_eq_true, not_true_eq_false, false_implies, forall_const, Nat.le_refl, Nat.zero_le, implies_true, and_self]
    (repeat' (first | apply And.intro | intro _ | with_reducible refine Exists.intro _ (Exists.intro _ (And.intro ia ?_)) | with_reducible refine Exists.intro _ (And.intro ia ?_) | with_reducible refine Exists.intro _ (Exists.intro _ (And.intro hh ?_)) | with_reducible refine Exists.intro _ (And.intro hh ?_)))
    all_goals (try first | omega | trivial | (rfl; done) | assumption | (exfalso; omega))
  · rw [if_neg c1] at ia
    rw [if_neg c1]
    refine Ret.of 6 [some (aR 6), some (aI a)] rfl (by decide) rfl (Nat.le_of_ble_eq_true rfl) ?_
    refine vX6_height 60 ?_
    simp only [↓S_X6_height, ↓pI_c, ↓pL_c, ↓pR_c, ↓pC_I, ↓pC_R, ↓pE_n, ↓gI_0, ↓gI_s, ↓gL_0, ↓gL_s, ↓gR_0, ↓gR_s, ↓popN_0, ↓popN_s, ↓kl_I, ↓kl_L, ↓kl_R, ↓kl_n, ↓put1_0, ↓put1_s, ↓putk_0, ↓putk_s, ↓put2_0, ↓put2_s, ↓putl_0, ↓putl_s, ↓callK_0, ↓callK_1, ↓callK_2, cats_n, cats_c, catA_I, catA_L, catA_R, KL, LV, lval_f, ltag_f, llen_f, lcm_lt, lcm_le, lcm_gt, lcm_ge, lcm_eq, lcm_R1, lcm_R2, inR, inL, true_and, and_true, eq_self, List.head?_cons, Option.some.injEq, Sum.inr.injEq, Sum.inl.injEq, false_or, or_false, true_or, or_true, Nat.reduceAdd, Nat.reduceLeDiff, Int.reduceLE, Int.reduceLT, Int.reduceEq, Int.reduceNeg, Int.reduceAdd, Int.reduceSub, Int.reduceMul, Int.reduceNe, ne_eq, not_false_eq_true, not_true_eq_false, false_implies, forall_const, Nat.le_refl, Nat.zero_le, implies_true, and_self]
    (repeat' (first | apply And.intro | intro _ | with_reducible refine Exists.intro _ (Exists.intro _ (And.intro ia ?_)) | with_reducible refine Exists.intro _ (And.intro ia ?_)))
    all_goals (try first | omega | trivial | (rfl; done) | assumption | (exfalso; omega))
set_option maxRecDepth 100000 in
theorem r_X5_height (D : Nat) (σ : Sg) (a : Int) (h : inR a) (hw : WD (σ 1 0) (σ 7)) : Ret (D + 3) miX5_height [aR 5, aI a] σ (some (aI (if 0 ≤ a ∧ a < σ 1 0 then rs (fun c => if a < σ 7 c then 1 else 0) 0 (a + 1).toNat else -2))) σ := by
  have w1 := hw.1
  have w2 := hw.2.1
  have ia := r_X1_hasPoint (D + 1) σ a h (by unfold inR; omega)
  by_cases c1 : 0 ≤ a ∧ a < σ 1 0
  · rw [if_pos c1] at ia
    rw [if_pos c1]
    have hh := r_X1_openBehind (D + 1) σ a hw c1.1 (by omega)
    refine Ret.of 5 [some (aR 5), some (aI a)] rfl (by decide) rfl (Nat.le_of_ble_eq_true rfl) ?_
    refine vX5_height 60 ?_
    simp only [↓S_X5_height, ↓pI_c, ↓pL_c, ↓pR_c, ↓pC_I, ↓pC_R, ↓pE_n, ↓gI_0, ↓gI_s, ↓gL_0, ↓gL_s, ↓gR_0, ↓gR_s, ↓popN_0, ↓popN_s, ↓kl_I, ↓kl_L, ↓kl_R, ↓kl_n, ↓put1_0, ↓put1_s, ↓putk_0, ↓putk_s, ↓put2_0, ↓put2_s, ↓putl_0, ↓putl_s, ↓callK_0, ↓callK_1, ↓callK_2, cats_n, cats_c, catA_I, catA_L, catA_R, KL, LV, lval_f, ltag_f, llen_f, lcm_lt, lcm_le, lcm_gt, lcm_ge, lcm_eq, lcm_R1, lcm_R2, inR, inL, true_and, and_true, eq_self, List.head?_cons, Option.some.injEq, Sum.inr.injEq, Sum.inl.injEq, false_or, or_false, true_or, or_true, Nat.reduceAdd, Nat.reduceLeDiff, Int.reduceLE, Int.reduceLT, Int.reduceEq, Int.reduceNeg, Int.reduceAdd, Int.reduceSub, Int.reduceMul, Int.reduceNe, ne_eq, not_false_eq_true, not_true_eq_false, false_implies, forall_const, Nat.le_refl, Nat.zero_le, implies_true, and_self]
    (repeat' (first | apply And.intro | intro _ | with_reducible refine Exists.intro _ (Exists.intro _ (And.intro ia ?_)) | with_reducible refine Exists.intro _ (And.intro ia ?_) | with_reducible refine Exists.intro _ (Exists.intro _ (And.intro hh ?_)) | with_reducible refine Exists.intro _ (And.intro hh ?_)))
    all_goals (try first | omega | trivial | (rfl; done) | assumption | (exfalso; omega))
  · rw [if_neg c1] at ia
    rw [if_neg c1]
    refine Ret.of 5 [some (aR 5), some (aI a)] rfl (by decide) rfl (Nat.le_of_ble_eq_true rfl) ?_
    refine vX5_height 60 ?_
    simp only [↓S_X5_height, ↓pI_c, ↓pL_c, ↓pR_c, ↓pC_I, ↓pC_R, ↓pE_n, ↓gI_0, ↓gI_s, ↓gL_0, ↓gL_s, ↓gR_0, ↓gR_s, ↓popN_0, ↓popN_s, ↓kl_I, ↓kl_L, ↓kl_R, ↓kl_n, ↓put1_0, ↓put1_s, ↓putk_0, ↓putk_s, ↓put2_0, ↓put2_s, ↓putl_0, ↓putl_s, ↓callK_0, ↓callK_1, ↓callK_2, cats_n, cats_c, catA_I, catA_L, catA_R, KL, LV, lval_f, ltag_f, llen_f, lcm_lt, lcm_le, lcm_gt, lcm_ge, lcm_eq, lcm_R1, lcm_R2, inR, inL, true_and, and_true, eq_self, List.head?_cons, Option.some.injEq, Sum.inr.injEq, Sum.inl.injEq, false_or, or_false, true_or, or_true, Nat.reduceAdd, Nat.reduceLeDiff, Int.reduceLE, Int.reduceLT, Int.reduceEq, Int.reduceNeg, Int.reduceAdd, Int.reduceSub, Int.reduceMul, Int.reduceNe, ne_eq, not_false_eq_true, not_true_eq_false, false_implies, forall_const, Nat.le_refl, Nat.zero_le, implies_true, and_self]
    (repeat' (first | apply And.intro | intro _ | with_reducible refine Exists.intro _ (Exists.intro _ (And.intro ia ?_)) | with_reducible refine Exists.intro _ (And.intro ia ?_)))
    all_goals (try first | omega | trivial | (rfl; done) | assumption | (exfalso; omega))

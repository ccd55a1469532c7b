/-! folds: both sides -/
set_option maxRecDepth 100000 in
theorem r_X6_folds (D : Nat) (σ : Sg) (x : Int) (hx : inR x) (h : WM σ) : (¬ (x = 0 ∨ x = 1) ∧ Ret (D + 5) miX6_folds [aR 6, aI x] σ (some (aL (-2))) σ) ∨ ((x = 0 ∨ x = 1) ∧ ∃ τ, Ret (D + 5) miX6_folds [aR 6, aI x] σ (some (aL (if x = 0 then mA τ 0 (σ 6 4) else mW0 τ 0 (σ 6 4)))) τ ∧ KpL σ τ ∧ ∀ a e, 0 ≤ a → a ≤ e → e ≤ σ 6 4 → ME (msc σ) (mmj σ) (σ 6 8) τ a e) := by
  have i1 := r_X6_in (D + 3) σ x 0 1 (by unfold inL; omega) (by unfold inL; omega) (by unfold inL; omega)
  have hn := h.1
  by_cases c : x = 0 ∨ x = 1
  · rw [if_pos (by omega)] at i1
    obtain ⟨τ, la, kl, hM⟩ := r_X6_layAll D σ h
    have e6 := kl.sc.2.2.2
    have ca := r_X6_cellAt (D + 3) τ 0 (τ 6 4) 0
    have l36 : llen 36 = 1250 := rfl
    have l37 : llen 37 = 625 := rfl
    refine Or.inr ⟨c, τ, ?_, kl, hM⟩
    have eA : mA τ 0 (σ 6 4) = τ 37 (σ 6 4) := by show τ 37 (25 * 0 + σ 6 4) = _; rw [Int.mul_zero, Int.zero_add]
    by_cases c2 : x = 0
    · rw [if_pos c2, eA]
      refine Ret.of 6 [some (aR 6), some (aI x)] rfl (by decide) rfl (Nat.le_of_ble_eq_true rfl) ?_
      refine vX6_folds 60 ?_
      simp only [↓S_X6_folds, ↓pI_c, ↓pL_c, ↓pR_c, ↓pC_I, ↓pC_R, ↓pE_n, ↓gI_0, ↓gI_s, ↓gL_0, ↓gL_s, ↓gR_0, ↓gR_s, ↓popN_0, ↓popN_s, ↓kl_I, ↓kl_L, ↓kl_R, ↓kl_n, ↓put1_0, ↓put1_s, ↓putk_0, ↓putk_s, ↓put2_0, ↓put2_s, ↓putl_0, ↓putl_s, ↓callK_0, ↓callK_1, ↓callK_2, cats_n, cats_c, catA_I, catA_L, catA_R, KL, LV, lval_f, ltag_f, llen_f, lcm_lt, lcm_le, lcm_gt, lcm_ge, lcm_eq, lcm_R1, lcm_R2, inR, inL, true_and, and_true, eq_self, List.head?_cons, Option.some.injEq, Sum.inr.injEq, Sum.inl.injEq, false_or, or_false, true_or, or_true, Nat.reduceAdd, Nat.reduceLeDiff, Int.reduceLE, Int.reduceLT, Int.reduceEq, Int.reduceNeg, Int.reduceAdd, Int.reduceSub, Int.reduceMul, Int.reduceNe, ne_eq, not_false_eq_true, not_true_eq_false, false_implies, forall_const, Nat.le_refl, Nat.zero_le, implies_true, and_self]
      (repeat' (first | apply And.intro | intro _ | with_reducible refine Exists.intro _ (Exists.intro _ (And.intro i1 ?_)) | with_reducible refine Exists.intro _ (And.intro i1 ?_) | with_reducible refine Exists.intro _ (Exists.intro _ (And.intro la ?_)) | with_reducible refine Exists.intro _ (And.intro la ?_) | with_reducible refine Exists.intro _ (Exists.intro _ (And.intro ca ?_)) | with_reducible refine Exists.intro _ (And.intro ca ?_)))
      all_goals (try first | omega | trivial | (rfl; done) | assumption | (exfalso; omega) | (simp only [e6]; done) | (simp only [e6]; first | omega | (rfl; done)))
    · rw [if_neg c2]
      refine Ret.of 6 [some (aR 6), some (aI x)] rfl (by decide) rfl (Nat.le_of_ble_eq_true rfl) ?_
      refine vX6_folds 60 ?_
      simp only [↓S_X6_folds, ↓pI_c, ↓pL_c, ↓pR_c, ↓pC_I, ↓pC_R, ↓pE_n, ↓gI_0, ↓gI_s, ↓gL_0, ↓gL_s, ↓gR_0, ↓gR_s, ↓popN_0, ↓popN_s, ↓kl_I, ↓kl_L, ↓kl_R, ↓kl_n, ↓put1_0, ↓put1_s, ↓putk_0, ↓putk_s, ↓put2_0, ↓put2_s, ↓putl_0, ↓putl_s, ↓callK_0, ↓callK_1, ↓callK_2, cats_n, cats_c, catA_I, catA_L, catA_R, KL, LV, lval_f, ltag_f, llen_f, lcm_lt, lcm_le, lcm_gt, lcm_ge, lcm_eq, lcm_R1, lcm_R2, inR, inL, true_and, and_true, eq_self, List.head?_cons, Option.some.injEq, Sum.inr.injEq, Sum.inl.injEq, false_or, or_false, true_or, or_true, Nat.reduceAdd, Nat.reduceLeDiff, Int.reduceLE, Int.reduceLT, Int.reduceEq, Int.reduceNeg, Int.reduceAdd, Int.reduceSub, Int.reduceMul, Int.reduceNe, ne_eq, not_false_eq_true, not_true_eq_false, false_implies, forall_const, Nat.le_refl, Nat.zero_le, implies_true, and_self]
      (repeat' (first | apply And.intro | intro _ | with_reducible refine Exists.intro _ (Exists.intro _ (And.intro i1 ?_)) | with_reducible refine Exists.intro _ (And.intro i1 ?_) | with_reducible refine Exists.intro _ (Exists.intro _ (And.intro la ?_)) | with_reducible refine Exists.intro _ (And.intro la ?_) | with_reducible refine Exists.intro _ (Exists.intro _ (And.intro ca ?_)) | with_reducible refine Exists.intro _ (And.intro ca ?_)))
      all_goals (try first | omega | trivial | (rfl; done) | assumption | (exfalso; omega) | (simp only [e6]; done) | (simp only [e6]; first | omega | (rfl; done)))
  · rw [if_neg (by omega)] at i1
    refine Or.inl ⟨c, ?_⟩
    refine Ret.of 6 [some (aR 6), some (aI x)] rfl (by decide) rfl (Nat.le_of_ble_eq_true rfl) ?_
    refine vX6_folds 60 ?_
    simp only [↓S_X6_folds, ↓pI_c, ↓pL_c, ↓pR_c, ↓pC_I, ↓pC_R, ↓pE_n, ↓gI_0, ↓gI_s, ↓gL_0, ↓gL_s, ↓gR_0, ↓gR_s, ↓popN_0, ↓popN_s, ↓kl_I, ↓kl_L, ↓kl_R, ↓kl_n, ↓put1_0, ↓put1_s, ↓putk_0, ↓putk_s, ↓put2_0, ↓put2_s, ↓putl_0, ↓putl_s, ↓callK_0, ↓callK_1, ↓callK_2, cats_n, cats_c, catA_I, catA_L, catA_R, KL, LV, lval_f, ltag_f, llen_f, lcm_lt, lcm_le, lcm_gt, lcm_ge, lcm_eq, lcm_R1, lcm_R2, inR, inL, true_and, and_true, eq_self, List.head?_cons, Option.some.injEq, Sum.inr.injEq, Sum.inl.injEq, false_or, or_false, true_or, or_true, Nat.reduceAdd, Nat.reduceLeDiff, Int.reduceLE, Int.reduceLT, Int.reduceEq, Int.reduceNeg, Int.reduceAdd, Int.reduceSub, Int.reduceMul, Int.reduceNe, ne_eq, not_false_eq_true, not_true_eq_false, false_implies, forall_const, Nat.le_refl, Nat.zero_le, implies_true, and_self]
    (repeat' (first | apply And.intro | intro _ | with_reducible refine Exists.intro _ (Exists.intro _ (And.intro i1 ?_)) | with_reducible refine Exists.intro _ (And.intro i1 ?_)))
    all_goals (try first | omega | trivial | (rfl; done) | assumption | (exfalso; omega))
set_option maxRecDepth 100000 in
theorem r_X5_folds0 (D : Nat) (σ : Sg) (h : WS σ) : ∃ τ, Ret (D + 5) miX5_folds [aR 5, aI 0] σ (some (aL (τ 145 (σ 4 0)))) τ ∧ (∀ x y, ¬ (145 ≤ x ∧ x < 170) → τ x y = σ x y) ∧ (∀ a e, 0 ≤ a → a ≤ e → e ≤ σ 4 0 → AEQ (σ 4 0) (cmj σ) (fun x y => τ (145 + x) y) a e) := by
  obtain ⟨τ, ca, hf, hA⟩ := r_X2_countAll (D + 1) σ h
  refine ⟨τ, ?_, hf, hA⟩
  refine Ret.of 5 [some (aR 5), some (aI 0)] rfl (by decide) rfl (Nat.le_of_ble_eq_true rfl) ?_
  refine vX5_folds 60 ?_
  simp only [↓S_X5_folds, ↓pI_c, ↓pL_c, ↓pR_c, ↓pC_I, ↓pC_R, ↓pE_n, ↓gI_0, ↓gI_s, ↓gL_0, ↓gL_s, ↓gR_0, ↓gR_s, ↓popN_0, ↓popN_s, ↓kl_I, ↓kl_L, ↓kl_R, ↓kl_n, ↓put1_0, ↓put1_s, ↓putk_0, ↓putk_s, ↓put2_0, ↓put2_s, ↓putl_0, ↓putl_s, ↓callK_0, ↓callK_1, ↓callK_2, cats_n, cats_c, catA_I, catA_L, catA_R, KL, LV, lval_f, ltag_f, llen_f, lcm_lt, lcm_le, lcm_gt, lcm_ge, lcm_eq, lcm_R1, lcm_R2, inR, inL, true_and, and_true, eq_self, List.head?_cons, Option.some.injEq, Sum.inr.injEq, Sum.inl.injEq, false_or, or_false, true_or, or_true, Nat.reduceAdd, Nat.reduceLeDiff, Int.reduceLE, Int.reduceLT, Int.reduceEq, Int.reduceNeg, Int.reduceAdd, Int.reduceSub, Int.reduceMul, Int.reduceNe, ne_eq, not_false_eq_true, not_true_eq_false, false_implies, forall_const, Nat.le_refl, Nat.zero_le, implies_true, and_self]
  (repeat' (first | apply And.intro | intro _ | with_reducible refine Exists.intro _ (Exists.intro _ (And.intro ca ?_)) | with_reducible refine Exists.intro _ (And.intro ca ?_)))
  all_goals (try first | omega | trivial | (rfl; done) | assumption | (exfalso; omega))
set_option maxRecDepth 100000 in
theorem r_X5_folds1 (D : Nat) (σ : Sg) (h : WS σ) : ∃ τ, Ret (D + 5) miX5_folds [aR 5, aI 1] σ (some (aL (cW0 τ 0 (σ 4 0)))) τ ∧ (∀ x y, x ≠ 2 → ¬ (45 ≤ x ∧ x < 145) → τ x y = σ x y) ∧ (∀ x y, 0 ≤ x → x ≤ y → y ≤ σ 4 0 → EQ τ x y) := by
  obtain ⟨τ, wa, hf, hE⟩ := r_X2_weighAll D σ h
  have hse : SE σ τ := fun x y hx => hf x y (by omega) (by omega)
  have ls := r_X2_leastWays (D + 3) τ (hse.ws h)
  rw [hf 4 0 (by omega) (by omega)] at ls
  refine ⟨τ, ?_, hf, hE⟩
  refine Ret.of 5 [some (aR 5), some (aI 1)] rfl (by decide) rfl (Nat.le_of_ble_eq_true rfl) ?_
  refine vX5_folds 60 ?_
  simp only [↓S_X5_folds, ↓pI_c, ↓pL_c, ↓pR_c, ↓pC_I, ↓pC_R, ↓pE_n, ↓gI_0, ↓gI_s, ↓gL_0, ↓gL_s, ↓gR_0, ↓gR_s, ↓popN_0, ↓popN_s, ↓kl_I, ↓kl_L, ↓kl_R, ↓kl_n, ↓put1_0, ↓put1_s, ↓putk_0, ↓putk_s, ↓put2_0, ↓put2_s, ↓putl_0, ↓putl_s, ↓callK_0, ↓callK_1, ↓callK_2, cats_n, cats_c, catA_I, catA_L, catA_R, KL, LV, lval_f, ltag_f, llen_f, lcm_lt, lcm_le, lcm_gt, lcm_ge, lcm_eq, lcm_R1, lcm_R2, inR, inL, true_and, and_true, eq_self, List.head?_cons, Option.some.injEq, Sum.inr.injEq, Sum.inl.injEq, false_or, or_false, true_or, or_true, Nat.reduceAdd, Nat.reduceLeDiff, Int.reduceLE, Int.reduceLT, Int.reduceEq, Int.reduceNeg, Int.reduceAdd, Int.reduceSub, Int.reduceMul, Int.reduceNe, ne_eq, not_false_eq_true, not_true_eq_false, false_implies, forall_const, Nat.le_refl, Nat.zero_le, implies_true, and_self]
  (repeat' (first | apply And.intro | intro _ | with_reducible refine Exists.intro _ (Exists.intro _ (And.intro wa ?_)) | with_reducible refine Exists.intro _ (And.intro wa ?_) | with_reducible refine Exists.intro _ (Exists.intro _ (And.intro ls ?_)) | with_reducible refine Exists.intro _ (And.intro ls ?_)))
  all_goals (try first | omega | trivial | (rfl; done) | assumption | (exfalso; omega))
set_option maxRecDepth 100000 in
theorem r_X5_folds2 (D : Nat) (σ : Sg) (x : Int) (hx : inR x) (h : ¬ (x = 0 ∨ x = 1)) : Ret (D + 5) miX5_folds [aR 5, aI x] σ (some (aL (-2))) σ := by
  refine Ret.of 5 [some (aR 5), some (aI x)] rfl (by decide) rfl (Nat.le_of_ble_eq_true rfl) ?_
  refine vX5_folds 60 ?_
  simp only [↓S_X5_folds, ↓pI_c, ↓pL_c, ↓pR_c, ↓pC_I, ↓pC_R, ↓pE_n, ↓gI_0, ↓gI_s, ↓gL_0, ↓gL_s, ↓gR_0, ↓gR_s, ↓popN_0, ↓popN_s, ↓kl_I, ↓kl_L, ↓kl_R, ↓kl_n, ↓put1_0, ↓put1_s, ↓putk_0, ↓putk_s, ↓put2_0, ↓put2_s, ↓putl_0, ↓putl_s, ↓callK_0, ↓callK_1, ↓callK_2, cats_n, cats_c, catA_I, catA_L, catA_R, KL, LV, lval_f, ltag_f, llen_f, lcm_lt, lcm_le, lcm_gt, lcm_ge, lcm_eq, lcm_R1, lcm_R2, inR, inL, true_and, and_true, eq_self, List.head?_cons, Option.some.injEq, Sum.inr.injEq, Sum.inl.injEq, false_or, or_false, true_or, or_true, Nat.reduceAdd, Nat.reduceLeDiff, Int.reduceLE, Int.reduceLT, Int.reduceEq, Int.reduceNeg, Int.reduceAdd, Int.reduceSub, Int.reduceMul, Int.reduceNe, ne_eq, not_false_eq_true, not_true_eq_false, false_implies, forall_const, Nat.le_refl, Nat.zero_le, implies_true, and_self]
  (repeat' (first | apply And.intro | intro _))
  all_goals (try first | omega | trivial | (rfl; done) | assumption | (exfalso; omega))

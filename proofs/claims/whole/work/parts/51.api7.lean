/-! best, folds, fold: both sides -/
set_option maxRecDepth 100000 in
theorem r_X6_best (D : Nat) (σ : Sg) (h : WM σ) : ∃ τ, Ret (D + 5) miX6_best [aR 6] σ (some (aI (mT0 τ 0 (σ 6 4)))) τ ∧ KpL σ τ ∧ ∀ a e, 0 ≤ a → a ≤ e → e ≤ σ 6 4 → ME (msc σ) (mmj σ) (σ 6 8) τ a e := by
  obtain ⟨τ, la, kl, hM⟩ := r_X6_layAll D σ h
  have hn := h.1
  have e6 := kl.sc.2.2.2
  have ca := r_X6_cellAt (D + 3) τ 0 (σ 6 4) 0
  refine ⟨τ, ?_, kl, hM⟩
  refine Ret.of 6 [some (aR 6)] rfl (by decide) rfl (Nat.le_of_ble_eq_true rfl) ?_
  refine vX6_best 60 ?_
  simp only [↓S_X6_best, ↓pI_c, ↓pL_c, ↓pR_c, ↓pC_I, ↓pC_R, ↓pE_n, ↓gI_0, ↓gI_s, ↓gL_0, ↓gL_s, ↓gR_0, ↓gR_s, ↓popN_0, ↓popN_s, ↓kl_I, ↓kl_L, ↓kl_R, ↓kl_n, ↓put1_0, ↓put1_s, ↓putk_0, ↓putk_s, ↓put2_0, ↓put2_s, ↓putl_0, ↓putl_s, ↓callK_0, ↓callK_1, ↓callK_2, cats_n, cats_c, catA_I, catA_L, catA_R, KL, LV, lval_f, ltag_f, llen_f, lcm_lt, lcm_le, lcm_gt, lcm_ge, lcm_eq, lcm_R1, lcm_R2, inR, inL, true_and, and_true, eq_self, List.head?_cons, Option.some.injEq, Sum.inr.injEq, Sum.inl.injEq, false_or, or_false, true_or, or_true, Nat.reduceAdd, Nat.reduceLeDiff, Int.reduceLE, Int.reduceLT, Int.reduceEq, Int.reduceNeg, Int.reduceAdd, Int.reduceSub, Int.reduceMul, Int.reduceNe, ne_eq, not_false_eq_true, not_true_eq_false, false_implies, forall_const, Nat.le_refl, Nat.zero_le, implies_true, and_self]
  refine ⟨_, la, ?_⟩
  rw [e6]
  (repeat' (first | apply And.intro | intro _ | with_reducible refine Exists.intro _ (Exists.intro _ (And.intro ca ?_)) | with_reducible refine Exists.intro _ (And.intro ca ?_)))
  all_goals (try first | omega | trivial | (rfl; done) | assumption | (exfalso; omega))
set_option maxRecDepth 100000 in
theorem r_X5_best (D : Nat) (σ : Sg) (h : WS σ) : ∃ τ, Ret (D + 5) miX5_best [aR 5] σ (some (aI (cT0 τ 0 (σ 4 0)))) τ ∧ (∀ x y, x ≠ 2 → ¬ (45 ≤ x ∧ x < 145) → τ x y = σ x y) ∧ (∀ x y, 0 ≤ x → x ≤ y → y ≤ σ 4 0 → EQ τ x y) := by
  obtain ⟨τ, wa, hf, hE⟩ := r_X2_weighAll D σ h
  have hse : SE σ τ := fun x y hx => hf x y (by omega) (by omega)
  have ls := r_X2_leastScore (D + 3) τ (hse.ws h)
  rw [hf 4 0 (by omega) (by omega)] at ls
  refine ⟨τ, ?_, hf, hE⟩
  refine Ret.of 5 [some (aR 5)] rfl (by decide) rfl (Nat.le_of_ble_eq_true rfl) ?_
  refine vX5_best 60 ?_
  simp only [↓S_X5_best, ↓pI_c, ↓pL_c, ↓pR_c, ↓pC_I, ↓pC_R, ↓pE_n, ↓gI_0, ↓gI_s, ↓gL_0, ↓gL_s, ↓gR_0, ↓gR_s, ↓popN_0, ↓popN_s, ↓kl_I, ↓kl_L, ↓kl_R, ↓kl_n, ↓put1_0, ↓put1_s, ↓putk_0, ↓putk_s, ↓put2_0, ↓put2_s, ↓putl_0, ↓putl_s, ↓callK_0, ↓callK_1, ↓callK_2, cats_n, cats_c, catA_I, catA_L, catA_R, KL, LV, lval_f, ltag_f, llen_f, lcm_lt, lcm_le, lcm_gt, lcm_ge, lcm_eq, lcm_R1, lcm_R2, inR, inL, true_and, and_true, eq_self, List.head?_cons, Option.some.injEq, Sum.inr.injEq, Sum.inl.injEq, false_or, or_false, true_or, or_true, Nat.reduceAdd, Nat.reduceLeDiff, Int.reduceLE, Int.reduceLT, Int.reduceEq, Int.reduceNeg, Int.reduceAdd, Int.reduceSub, Int.reduceMul, Int.reduceNe, ne_eq, not_false_eq_true, not_true_eq_false, false_implies, forall_const, Nat.le_refl, Nat.zero_le, implies_true, and_self]
  (repeat' (first | apply And.intro | intro _ | with_reducible refine Exists.intro _ (Exists.intro _ (And.intro wa ?_)) | with_reducible refine Exists.intro _ (And.intro wa ?_) | with_reducible refine Exists.intro _ (Exists.intro _ (And.intro ls ?_)) | with_reducible refine Exists.intro _ (And.intro ls ?_)))
  all_goals (try first | omega | trivial | (rfl; done) | assumption | (exfalso; omega))
set_option maxRecDepth 100000 in
theorem r_X5_fold (D : Nat) (σ : Sg) (h : WS σ) : ∃ ρ τ, Ret (D + 5) miX5_fold [aR 5] σ (some (aI (cT0 ρ 0 (σ 4 0)))) τ ∧ SE σ ρ ∧ (∀ x y, 0 ≤ x → x ≤ y → y ≤ σ 4 0 → EQ ρ x y) ∧ (∀ x y, x ≠ 2 → x ≠ 7 → x ≠ 16 → x ≠ 17 → ¬ (45 ≤ x ∧ x < 145) → ¬ (x = 1 ∧ y = 0) → τ x y = σ x y) ∧ τ 1 0 = σ 4 0 ∧ WD (σ 4 0) (τ 7) ∧ Gd (csc ρ) (cmj ρ) (ρ 4 2) (cT0 ρ) (cT1 ρ) (τ 7) 0 (σ 4 0) 0 := by
  obtain ⟨ρ, wa, hf, hE⟩ := r_X2_weighAll D σ h
  have hse : SE σ ρ := fun x y hx => hf x y (by omega) (by omega)
  have hws := hse.ws h
  have e40 : ρ 4 0 = σ 4 0 := hf 4 0 (by omega) (by omega)
  obtain ⟨τ, df, g1, g2, g3, g4⟩ := r_X2_drawFirst D ρ hws (by rw [e40]; exact hE)
  have hse2 : SE ρ τ := fun x y hx => g1 x y (by omega) (by omega) (by omega) (by omega)
  have ls := r_X2_leastScore (D + 3) τ (hse2.ws hws)
  have e41 : τ 4 0 = σ 4 0 := by rw [g1 4 0 (by omega) (by omega) (by omega) (by omega)]; exact e40
  rw [e41, g1 45 _ (by omega) (by omega) (by omega) (by omega)] at ls
  rw [e40] at g2 g3 g4
  refine ⟨ρ, τ, ?_, hse, hE, fun x y x1 x2 x3 x4 x5 x6 => by rw [g1 x y x2 x3 x4 x6]; exact hf x y x1 x5, g2, g3, g4⟩
  refine Ret.of 5 [some (aR 5)] rfl (by decide) rfl (Nat.le_of_ble_eq_true rfl) ?_
  refine vX5_fold 60 ?_
  simp only [↓S_X5_fold, ↓pI_c, ↓pL_c, ↓pR_c, ↓pC_I, ↓pC_R, ↓pE_n, ↓gI_0, ↓gI_s, ↓gL_0, ↓gL_s, ↓gR_0, ↓gR_s, ↓popN_0, ↓popN_s, ↓kl_I, ↓kl_L, ↓kl_R, ↓kl_n, ↓put1_0, ↓put1_s, ↓putk_0, ↓putk_s, ↓put2_0, ↓put2_s, ↓putl_0, ↓putl_s, ↓callK_0, ↓callK_1, ↓callK_2, cats_n, cats_c, catA_I, catA_L, catA_R, KL, LV, lval_f, ltag_f, llen_f, lcm_lt, lcm_le, lcm_gt, lcm_ge, lcm_eq, lcm_R1, lcm_R2, inR, inL, true_and, and_true, eq_self, List.head?_cons, Option.some.injEq, Sum.inr.injEq, Sum.inl.injEq, false_or, or_false, true_or, or_true, Nat.reduceAdd, Nat.reduceLeDiff, Int.reduceLE, Int.reduceLT, Int.reduceEq, Int.reduceNeg, Int.reduceAdd, Int.reduceSub, Int.reduceMul, Int.reduceNe, ne_eq, not_false_eq_true, not_true_eq_false, false_implies, forall_const, Nat.le_refl, Nat.zero_le, implies_true, and_self]
  (repeat' (first | apply And.intro | intro _ | with_reducible refine Exists.intro _ (Exists.intro _ (And.intro wa ?_)) | with_reducible refine Exists.intro _ (And.intro wa ?_) | with_reducible refine Exists.intro _ (Exists.intro _ (And.intro df ?_)) | with_reducible refine Exists.intro _ (And.intro df ?_) | with_reducible refine Exists.intro _ (Exists.intro _ (And.intro ls ?_)) | with_reducible refine Exists.intro _ (And.intro ls ?_)))
  all_goals (try first | omega | trivial | (rfl; done) | assumption | (exfalso; omega))

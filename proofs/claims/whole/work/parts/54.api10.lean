/-! shape, mirror, row, place, worth, judge -/
set_option maxRecDepth 100000 in
theorem r_X5_shape (D : Nat) (σ : Sg) (hw : WD (σ 1 0) (σ 7)) : ∃ τ, Ret (D + 5) miX5_shape [aR 5] σ (some (aI (τ 1 0))) τ ∧ (∀ a b, a ≠ 7 → a ≠ 8 → a ≠ 9 → ¬ (a = 1 ∧ b = 0) → τ a b = σ a b) ∧ WD (τ 1 0) (τ 7) ∧ SR (σ 1 0) (σ 7) (τ 1 0) (τ 7) ∧ (∀ i, 0 ≤ i → i < τ 1 0 → Kp (τ 7) i) := by
  obtain ⟨τ, re, h1⟩ := r_X1_reduce D σ hw
  refine ⟨τ, ?_, h1⟩
  refine Ret.of 5 [some (aR 5)] rfl (by decide) rfl (Nat.le_of_ble_eq_true rfl) ?_
  refine vX5_shape 60 ?_
  simp only [↓S_X5_shape, ↓pI_c, ↓pL_c, ↓pR_c, ↓pC_I, ↓pC_R, ↓pE_n, ↓gI_0, ↓gI_s, ↓gL_0, ↓gL_s, ↓gR_0, ↓gR_s, ↓popN_0, ↓popN_s, ↓kl_I, ↓kl_L, ↓kl_R, ↓kl_n, ↓put1_0, ↓put1_s, ↓putk_0, ↓putk_s, ↓put2_0, ↓put2_s, ↓putl_0, ↓putl_s, ↓callK_0, ↓callK_1, ↓callK_2, cats_n, cats_c, catA_I, catA_L, catA_R, KL, LV, lval_f, ltag_f, llen_f, lcm_lt, lcm_le, lcm_gt, lcm_ge, lcm_eq, lcm_R1, lcm_R2, inR, inL, true_and, and_true, eq_self, List.head?_cons, Option.some.injEq, Sum.inr.injEq, Sum.inl.injEq, false_or, or_false, true_or, or_true, Nat.reduceAdd, Nat.reduceLeDiff, Int.reduceLE, Int.reduceLT, Int.reduceEq, Int.reduceNeg, Int.reduceAdd, Int.reduceSub, Int.reduceMul, Int.reduceNe, ne_eq, not_false_eq_true, not_true_eq_false, false_implies, forall_const, Nat.le_refl, Nat.zero_le, implies_true, and_self]
  (repeat' (first | apply And.intro | intro _ | with_reducible refine Exists.intro _ (Exists.intro _ (And.intro re ?_)) | with_reducible refine Exists.intro _ (And.intro re ?_)))
  all_goals (try first | omega | trivial | (rfl; done) | assumption | (exfalso; omega))
set_option maxRecDepth 100000 in
theorem r_X5_mirror (D : Nat) (σ : Sg) (hw : WD (σ 1 0) (σ 7)) : ∃ τ, Ret (D + 2) miX5_mirror [aR 5] σ (some (aI 1)) τ ∧ (∀ a b, a ≠ 7 → a ≠ 11 → τ a b = σ a b) ∧ ∀ b, τ 7 b = if 0 ≤ b ∧ b < σ 1 0 then (if σ 7 (σ 1 0 - 1 - b) = -1 then -1 else σ 1 0 - 1 - σ 7 (σ 1 0 - 1 - b)) else σ 7 b := by
  obtain ⟨τ, re, h1⟩ := r_X1_turnAbout D σ hw
  refine ⟨τ, ?_, h1⟩
  refine Ret.of 5 [some (aR 5)] rfl (by decide) rfl (Nat.le_of_ble_eq_true rfl) ?_
  refine vX5_mirror 60 ?_
  simp only [↓S_X5_mirror, ↓pI_c, ↓pL_c, ↓pR_c, ↓pC_I, ↓pC_R, ↓pE_n, ↓gI_0, ↓gI_s, ↓gL_0, ↓gL_s, ↓gR_0, ↓gR_s, ↓popN_0, ↓popN_s, ↓kl_I, ↓kl_L, ↓kl_R, ↓kl_n, ↓put1_0, ↓put1_s, ↓putk_0, ↓putk_s, ↓put2_0, ↓put2_s, ↓putl_0, ↓putl_s, ↓callK_0, ↓callK_1, ↓callK_2, cats_n, cats_c, catA_I, catA_L, catA_R, KL, LV, lval_f, ltag_f, llen_f, lcm_lt, lcm_le, lcm_gt, lcm_ge, lcm_eq, lcm_R1, lcm_R2, inR, inL, true_and, and_true, eq_self, List.head?_cons, Option.some.injEq, Sum.inr.injEq, Sum.inl.injEq, false_or, or_false, true_or, or_true, Nat.reduceAdd, Nat.reduceLeDiff, Int.reduceLE, Int.reduceLT, Int.reduceEq, Int.reduceNeg, Int.reduceAdd, Int.reduceSub, Int.reduceMul, Int.reduceNe, ne_eq, not_false_eq_true, not_true_eq_false, false_implies, forall_const, Nat.le_refl, Nat.zero_le, implies_true, and_self]
  (repeat' (first | apply And.intro | intro _ | with_reducible refine Exists.intro _ (Exists.intro _ (And.intro re ?_)) | with_reducible refine Exists.intro _ (And.intro re ?_)))
  all_goals (try first | omega | trivial | (rfl; done) | assumption | (exfalso; omega))
set_option maxRecDepth 100000 in
theorem r_X5_row (D : Nat) (σ : Sg) (n k : Int) (hn : 0 ≤ n) (hn2 : n ≤ 12) (hk : 0 ≤ k) (hk2 : k < fdv n) : ∃ τ, Ret (D + 4) miX5_row [aR 5, aI n, aL k] σ (some (aI 1)) τ ∧ (∀ a b, a ≠ 7 → ¬ (a = 1 ∧ b = 0) → τ a b = σ a b) ∧ τ 1 0 = 2 * n ∧ WD (2 * n) (τ 7) ∧ RowR (2 * n) n.toNat (fun _ => -1) k (τ 7) := by
  obtain ⟨τ, re, h1⟩ := r_X1_becomeFull D σ n k hn hn2 hk hk2
  have hf := fdv_s hn (by omega)
  refine ⟨τ, ?_, h1⟩
  refine Ret.of 5 [some (aR 5), some (aI n), some (aL k), none] rfl (by decide) rfl (Nat.le_of_ble_eq_true rfl) ?_
  refine vX5_row 60 ?_
  simp only [↓S_X5_row, ↓pI_c, ↓pL_c, ↓pR_c, ↓pC_I, ↓pC_R, ↓pE_n, ↓gI_0, ↓gI_s, ↓gL_0, ↓gL_s, ↓gR_0, ↓gR_s, ↓popN_0, ↓popN_s, ↓kl_I, ↓kl_L, ↓kl_R, ↓kl_n, ↓put1_0, ↓put1_s, ↓putk_0, ↓putk_s, ↓put2_0, ↓put2_s, ↓putl_0, ↓putl_s, ↓callK_0, ↓callK_1, ↓callK_2, cats_n, cats_c, catA_I, catA_L, catA_R, KL, LV, lval_f, ltag_f, llen_f, lcm_lt, lcm_le, lcm_gt, lcm_ge, lcm_eq, lcm_R1, lcm_R2, inR, inL, true_and, and_true, eq_self, List.head?_cons, Option.some.injEq, Sum.inr.injEq, Sum.inl.injEq, false_or, or_false, true_or, or_true, Nat.reduceAdd, Nat.reduceLeDiff, Int.reduceLE, Int.reduceLT, Int.reduceEq, Int.reduceNeg, Int.reduceAdd, Int.reduceSub, Int.reduceMul, Int.reduceNe, ne_eq, not_false_eq_true, not_true_eq_false, false_implies, forall_const, Nat.le_refl, Nat.zero_le, implies_true, and_self]
  (repeat' (first | apply And.intro | intro _ | with_reducible refine Exists.intro _ (Exists.intro _ (And.intro re ?_)) | with_reducible refine Exists.intro _ (And.intro re ?_)))
  all_goals (try first | omega | trivial | (rfl; done) | assumption | (exfalso; omega))
set_option maxRecDepth 100000 in
theorem r_X5_row_bad (D : Nat) (σ : Sg) (n k : Int) (hn : inR n) (hk : inL k) (h : ¬ (0 ≤ n ∧ n ≤ 12 ∧ 0 ≤ k ∧ k < fdv n)) : Ret (D + 1) miX5_row [aR 5, aI n, aL k] σ (some (aI (-2))) σ := by
  by_cases c : 0 ≤ n ∧ n ≤ 12
  · have hf0 := fdv_s c.1 (by omega)
    refine Ret.of 5 [some (aR 5), some (aI n), some (aL k), none] rfl (by decide) rfl (Nat.le_of_ble_eq_true rfl) ?_
    refine vX5_row 60 ?_
    simp only [↓S_X5_row, ↓pI_c, ↓pL_c, ↓pR_c, ↓pC_I, ↓pC_R, ↓pE_n, ↓gI_0, ↓gI_s, ↓gL_0, ↓gL_s, ↓gR_0, ↓gR_s, ↓popN_0, ↓popN_s, ↓kl_I, ↓kl_L, ↓kl_R, ↓kl_n, ↓put1_0, ↓put1_s, ↓putk_0, ↓putk_s, ↓put2_0, ↓put2_s, ↓putl_0, ↓putl_s, ↓callK_0, ↓callK_1, ↓callK_2, cats_n, cats_c, catA_I, catA_L, catA_R, KL, LV, lval_f, ltag_f, llen_f, lcm_lt, lcm_le, lcm_gt, lcm_ge, lcm_eq, lcm_R1, lcm_R2, inR, inL, true_and, and_true, eq_self, List.head?_cons, Option.some.injEq, Sum.inr.injEq, Sum.inl.injEq, false_or, or_false, true_or, or_true, Nat.reduceAdd, Nat.reduceLeDiff, Int.reduceLE, Int.reduceLT, Int.reduceEq, Int.reduceNeg, Int.reduceAdd, Int.reduceSub, Int.reduceMul, Int.reduceNe, ne_eq, not_false_eq_true, not_true_eq_false, false_implies, forall_const, Nat.le_refl, Nat.zero_le, implies_true, and_self]
    (repeat' (first | apply And.intro | intro _))
    all_goals (try first | omega | trivial | (rfl; done) | assumption | (exfalso; omega))
  · refine Ret.of 5 [some (aR 5), some (aI n), some (aL k), none] rfl (by decide) rfl (Nat.le_of_ble_eq_true rfl) ?_
    refine vX5_row 60 ?_
    simp only [↓S_X5_row, ↓pI_c, ↓pL_c, ↓pR_c, ↓pC_I, ↓pC_R, ↓pE_n, ↓gI_0, ↓gI_s, ↓gL_0, ↓gL_s, ↓gR_0, ↓gR_s, ↓popN_0, ↓popN_s, ↓kl_I, ↓kl_L, ↓kl_R, ↓kl_n, ↓put1_0, ↓put1_s, ↓putk_0, ↓putk_s, ↓put2_0, ↓put2_s, ↓putl_0, ↓putl_s, ↓callK_0, ↓callK_1, ↓callK_2, cats_n, cats_c, catA_I, catA_L, catA_R, KL, LV, lval_f, ltag_f, llen_f, lcm_lt, lcm_le, lcm_gt, lcm_ge, lcm_eq, lcm_R1, lcm_R2, inR, inL, true_and, and_true, eq_self, List.head?_cons, Option.some.injEq, Sum.inr.injEq, Sum.inl.injEq, false_or, or_false, true_or, or_true, Nat.reduceAdd, Nat.reduceLeDiff, Int.reduceLE, Int.reduceLT, Int.reduceEq, Int.reduceNeg, Int.reduceAdd, Int.reduceSub, Int.reduceMul, Int.reduceNe, ne_eq, not_false_eq_true, not_true_eq_false, false_implies, forall_const, Nat.le_refl, Nat.zero_le, implies_true, and_self]
    (repeat' (first | apply And.intro | intro _))
    all_goals (try first | omega | trivial | (rfl; done) | assumption | (exfalso; omega))
set_option maxRecDepth 100000 in
theorem r_X5_place (D : Nat) (σ : Sg) (hw : WD (σ 1 0) (σ 7)) (hf : 2 * nb (σ 7) (σ 1 0) = σ 1 0) : Ret (D + 4) miX5_place [aR 5] σ (some (aL (rs (pl (σ 7) (nb (σ 7) (σ 1 0))) 0 (σ 1 0).toNat))) σ := by
  have fu := r_X1_isFull D σ hw
  have hfull : 2 * rs (fun a => if a < σ 7 a then 1 else 0) 0 (σ 1 0).toNat = σ 1 0 := hf
  rw [if_pos hfull] at fu
  have fo := r_X1_fullOnesAhead (D + 1) σ hw hf
  generalize rs (pl (σ 7) (nb (σ 7) (σ 1 0))) 0 (σ 1 0).toNat = R at fo ⊢
  refine Ret.of 5 [some (aR 5)] rfl (by decide) rfl (Nat.le_of_ble_eq_true rfl) ?_
  refine vX5_place 60 ?_
  simp only [↓S_X5_place, ↓pI_c, ↓pL_c, ↓pR_c, ↓pC_I, ↓pC_R, ↓pE_n, ↓gI_0, ↓gI_s, ↓gL_0, ↓gL_s, ↓gR_0, ↓gR_s, ↓popN_0, ↓popN_s, ↓kl_I, ↓kl_L, ↓kl_R, ↓kl_n, ↓put1_0, ↓put1_s, ↓putk_0, ↓putk_s, ↓put2_0, ↓put2_s, ↓putl_0, ↓putl_s, ↓callK_0, ↓callK_1, ↓callK_2, cats_n, cats_c, catA_I, catA_L, catA_R, KL, LV, lval_f, ltag_f, llen_f, lcm_lt, lcm_le, lcm_gt, lcm_ge, lcm_eq, lcm_R1, lcm_R2, inR, inL, true_and, and_true, eq_self, List.head?_cons, Option.some.injEq, Sum.inr.injEq, Sum.inl.injEq, false_or, or_false, true_or, or_true, Nat.reduceAdd, Nat.reduceLeDiff, Int.reduceLE, Int.reduceLT, Int.reduceEq, Int.reduceNeg, Int.reduceAdd, Int.reduceSub, Int.reduceMul, Int.reduceNe, ne_eq, not_false_eq_true, not_true_eq_false, false_implies, forall_const, Nat.le_refl, Nat.zero_le, implies_true, and_self]
  (repeat' (first | apply And.intro | intro _ | with_reducible refine Exists.intro _ (Exists.intro _ (And.intro fu ?_)) | with_reducible refine Exists.intro _ (And.intro fu ?_) | with_reducible refine Exists.intro _ (Exists.intro _ (And.intro fo ?_)) | with_reducible refine Exists.intro _ (And.intro fo ?_)))
  all_goals (try first | omega | trivial | (rfl; done) | assumption | (exfalso; omega))
set_option maxRecDepth 100000 in
theorem r_X5_place_not (D : Nat) (σ : Sg) (hw : WD (σ 1 0) (σ 7)) (hf : ¬ 2 * nb (σ 7) (σ 1 0) = σ 1 0) : Ret (D + 4) miX5_place [aR 5] σ (some (aL (-3))) σ := by
  have fu := r_X1_isFull D σ hw
  have hfull : ¬ 2 * rs (fun a => if a < σ 7 a then 1 else 0) 0 (σ 1 0).toNat = σ 1 0 := hf
  rw [if_neg hfull] at fu
  refine Ret.of 5 [some (aR 5)] rfl (by decide) rfl (Nat.le_of_ble_eq_true rfl) ?_
  refine vX5_place 60 ?_
  simp only [↓S_X5_place, ↓pI_c, ↓pL_c, ↓pR_c, ↓pC_I, ↓pC_R, ↓pE_n, ↓gI_0, ↓gI_s, ↓gL_0, ↓gL_s, ↓gR_0, ↓gR_s, ↓popN_0, ↓popN_s, ↓kl_I, ↓kl_L, ↓kl_R, ↓kl_n, ↓put1_0, ↓put1_s, ↓putk_0, ↓putk_s, ↓put2_0, ↓put2_s, ↓putl_0, ↓putl_s, ↓callK_0, ↓callK_1, ↓callK_2, cats_n, cats_c, catA_I, catA_L, catA_R, KL, LV, lval_f, ltag_f, llen_f, lcm_lt, lcm_le, lcm_gt, lcm_ge, lcm_eq, lcm_R1, lcm_R2, inR, inL, true_and, and_true, eq_self, List.head?_cons, Option.some.injEq, Sum.inr.injEq, Sum.inl.injEq, false_or, or_false, true_or, or_true, Nat.reduceAdd, Nat.reduceLeDiff, Int.reduceLE, Int.reduceLT, Int.reduceEq, Int.reduceNeg, Int.reduceAdd, Int.reduceSub, Int.reduceMul, Int.reduceNe, ne_eq, not_false_eq_true, not_true_eq_false, false_implies, forall_const, Nat.le_refl, Nat.zero_le, implies_true, and_self]
  (repeat' (first | apply And.intro | intro _ | with_reducible refine Exists.intro _ (Exists.intro _ (And.intro fu ?_)) | with_reducible refine Exists.intro _ (And.intro fu ?_)))
  all_goals (try first | omega | trivial | (rfl; done) | assumption | (exfalso; omega))
set_option maxRecDepth 100000 in
theorem r_X6_place_not (D : Nat) (σ : Sg) (hw : WD (σ 6 0) (σ 26)) (hf : ¬ 2 * nb (σ 26) (σ 6 0) = σ 6 0) : Ret (D + 3) miX6_place [aR 6] σ (some (aL (-3))) σ := by
  have fu := r_X6_isFull D σ hw
  have hfull : ¬ 2 * rs (fun a => if a < σ 26 a then 1 else 0) 0 (σ 6 0).toNat = σ 6 0 := hf
  rw [if_neg hfull] at fu
  refine Ret.of 6 [some (aR 6), none, none, none, none, none, none, none] rfl (by decide) rfl (Nat.le_of_ble_eq_true rfl) ?_
  refine vX6_place 60 ?_
  simp only [↓S_X6_place_1, ↓S_X6_place_2, ↓pI_c, ↓pL_c, ↓pR_c, ↓pC_I, ↓pC_R, ↓pE_n, ↓gI_0, ↓gI_s, ↓gL_0, ↓gL_s, ↓gR_0, ↓gR_s, ↓popN_0, ↓popN_s, ↓kl_I, ↓kl_L, ↓kl_R, ↓kl_n, ↓put1_0, ↓put1_s, ↓putk_0, ↓putk_s, ↓put2_0, ↓put2_s, ↓putl_0, ↓putl_s, ↓callK_0, ↓callK_1, ↓callK_2, cats_n, cats_c, catA_I, catA_L, catA_R, KL, LV, lval_f, ltag_f, llen_f, lcm_lt, lcm_le, lcm_gt, lcm_ge, lcm_eq, lcm_R1, lcm_R2, inR, inL, true_and, and_true, eq_self, List.head?_cons, Option.some.injEq, Sum.inr.injEq, Sum.inl.injEq, false_or, or_false, true_or, or_true, Nat.reduceAdd, Nat.reduceLeDiff, Int.reduceLE, Int.reduceLT, Int.reduceEq, Int.reduceNeg, Int.reduceAdd, Int.reduceSub, Int.reduceMul, Int.reduceNe, ne_eq, not_false_eq_true, not_true_eq_false, false_implies, forall_const, Nat.le_refl, Nat.zero_le, implies_true, and_self]
  (repeat' (first | apply And.intro | intro _ | with_reducible refine Exists.intro _ (Exists.intro _ (And.intro fu ?_)) | with_reducible refine Exists.intro _ (And.intro fu ?_)))
  all_goals (try first | omega | trivial | (rfl; done) | assumption | (exfalso; omega))
set_option maxRecDepth 100000 in
theorem r_X5_worth (D : Nat) (σ : Sg) (i : Int) (hi : inR i) (hw : WD (σ 1 0) (σ 7)) : Ret (D + 4) miX5_worth [aR 5, aI i] σ (some (aI (if 2 * rs (fun a => if a < σ 7 a then 1 else 0) 0 (σ 1 0).toNat = σ 1 0 then (if 0 ≤ i ∧ i < σ 1 0 then (if i < σ 7 i then 1 else 2 + rs (fun c => if i < σ 7 c then 1 else 0) (σ 7 i + 1) (i - (σ 7 i + 1)).toNat) else -2) else -3))) σ := by
  have w1 := hw.1
  have w2 := hw.2.1
  have fu := r_X1_isFull D σ hw
  have ip := r_X1_hasPoint (D + 2) σ i hi (by unfold inR; omega)
  by_cases c1 : 2 * rs (fun a => if a < σ 7 a then 1 else 0) 0 (σ 1 0).toNat = σ 1 0
  · rw [if_pos c1] at fu
    rw [if_pos c1]
    by_cases c2 : 0 ≤ i ∧ i < σ 1 0
    · rw [if_pos c2] at ip
      rw [if_pos c2]
      have sa := r_X1_signAt (D + 1) σ i hw c2.1 c2.2
      generalize (if i < σ 7 i then 1 else 2 + rs (fun c => if i < σ 7 c then 1 else 0) (σ 7 i + 1) (i - (σ 7 i + 1)).toNat) = R at sa ⊢
      refine Ret.of 5 [some (aR 5), some (aI i)] rfl (by decide) rfl (Nat.le_of_ble_eq_true rfl) ?_
      refine vX5_worth 60 ?_
      simp only [↓S_X5_worth, ↓pI_c, ↓pL_c, ↓pR_c, ↓pC_I, ↓pC_R, ↓pE_n, ↓gI_0, ↓gI_s, ↓gL_0, ↓gL_s, ↓gR_0, ↓gR_s, ↓popN_0, ↓popN_s, ↓kl_I, ↓kl_L, ↓kl_R, ↓kl_n, ↓put1_0, ↓put1_s, ↓putk_0, ↓putk_s, ↓put2_0, ↓put2_s, ↓putl_0, ↓putl_s, ↓callK_0, ↓callK_1, ↓callK_2, cats_n, cats_c, catA_I, catA_L, catA_R, KL, LV, lval_f, ltag_f, llen_f, lcm_lt, lcm_le, lcm_gt, lcm_ge, lcm_eq, lcm_R1, lcm_R2, inR, inL, true_and, and_true, eq_self, List.head?_cons, Option.some.injEq, Sum.inr.injEq, Sum.inl.injEq, false_or, or_false, true_or, or_true, Nat.reduceAdd, Nat.reduceLeDiff, Int.reduceLE, Int.reduceLT, Int.reduceEq, Int.reduceNeg, Int.reduceAdd, Int.reduceSub, Int.reduceMul, Int.reduceNe, ne_eq, not_false_eq_true, not_true_eq_false, false_implies, forall_const, Nat.le_refl, Nat.zero_le, implies_true, and_self]
      (repeat' (first | apply And.intro | intro _ | with_reducible refine Exists.intro _ (Exists.intro _ (And.intro fu ?_)) | with_reducible refine Exists.intro _ (And.intro fu ?_) | with_reducible refine Exists.intro _ (Exists.intro _ (And.intro ip ?_)) | with_reducible refine Exists.intro _ (And.intro ip ?_) | with_reducible refine Exists.intro _ (Exists.intro _ (And.intro sa ?_)) | with_reducible refine Exists.intro _ (And.intro sa ?_)))
      all_goals (try first | omega | trivial | (rfl; done) | assumption | (exfalso; omega))
    · rw [if_neg c2] at ip
      rw [if_neg c2]
      refine Ret.of 5 [some (aR 5), some (aI i)] rfl (by decide) rfl (Nat.le_of_ble_eq_true rfl) ?_
      refine vX5_worth 60 ?_
      simp only [↓S_X5_worth, ↓pI_c, ↓pL_c, ↓pR_c, ↓pC_I, ↓pC_R, ↓pE_n, ↓gI_0, ↓gI_s, ↓gL_0, ↓gL_s, ↓gR_0, ↓gR_s, ↓popN_0, ↓popN_s, ↓kl_I, ↓kl_L, ↓kl_R, ↓kl_n, ↓put1_0, ↓put1_s, ↓putk_0, ↓putk_s, ↓put2_0, ↓put2_s, ↓putl_0, ↓putl_s, ↓callK_0, ↓callK_1, ↓callK_2, cats_n, cats_c, catA_I, catA_L, catA_R, KL, LV, lval_f, ltag_f, llen_f, lcm_lt, lcm_le, lcm_gt, lcm_ge, lcm_eq, lcm_R1, lcm_R2, inR, inL, true_and, and_true, eq_self, List.head?_cons, Option.some.injEq, Sum.inr.injEq, Sum.inl.injEq, false_or, or_false, true_or, or_true, Nat.reduceAdd, Nat.reduceLeDiff, Int.reduceLE, Int.reduceLT, Int.reduceEq, Int.reduceNeg, Int.reduceAdd, Int.reduceSub, Int.reduceMul, Int.reduceNe, ne_eq, not_false_eq_true, not_true_eq_false, false_implies, forall_const, Nat.le_refl, Nat.zero_le, implies_true, and_self]
      (repeat' (first | apply And.intro | intro _ | with_reducible refine Exists.intro _ (Exists.intro _ (And.intro fu ?_)) | with_reducible refine Exists.intro _ (And.intro fu ?_) | with_reducible refine Exists.intro _ (Exists.intro _ (And.intro ip ?_)) | with_reducible refine Exists.intro _ (And.intro ip ?_)))
      all_goals (try first | omega | trivial | (rfl; done) | assumption | (exfalso; omega))
  · rw [if_neg c1] at fu
    rw [if_neg c1]
    refine Ret.of 5 [some (aR 5), some (aI i)] rfl (by decide) rfl (Nat.le_of_ble_eq_true rfl) ?_
    refine vX5_worth 60 ?_
    simp only [↓S_X5_worth, ↓pI_c, ↓pL_c, ↓pR_c, ↓pC_I, ↓pC_R, ↓pE_n, ↓gI_0, ↓gI_s, ↓gL_0, ↓gL_s, ↓gR_0, ↓gR_s, ↓popN_0, ↓popN_s, ↓kl_I, ↓kl_L, ↓kl_R, ↓kl_n, ↓put1_0, ↓put1_s, ↓putk_0, ↓putk_s, ↓put2_0, ↓put2_s, ↓putl_0, ↓putl_s, ↓callK_0, ↓callK_1, ↓callK_2, cats_n, cats_c, catA_I, catA_L, catA_R, KL, LV, lval_f, ltag_f, llen_f, lcm_lt, lcm_le, lcm_gt, lcm_ge, lcm_eq, lcm_R1, lcm_R2, inR, inL, true_and, and_true, eq_self, List.head?_cons, Option.some.injEq, Sum.inr.injEq, Sum.inl.injEq, false_or, or_false, true_or, or_true, Nat.reduceAdd, Nat.reduceLeDiff, Int.reduceLE, Int.reduceLT, Int.reduceEq, Int.reduceNeg, Int.reduceAdd, Int.reduceSub, Int.reduceMul, Int.reduceNe, ne_eq, not_false_eq_true, not_true_eq_false, false_implies, forall_const, Nat.le_refl, Nat.zero_le, implies_true, and_self]
    (repeat' (first | apply And.intro | intro _ | with_reducible refine Exists.intro _ (Exists.intro _ (And.intro fu ?_)) | with_reducible refine Exists.intro _ (And.intro fu ?_)))
    all_goals (try first | omega | trivial | (rfl; done) | assumption | (exfalso; omega))
set_option maxRecDepth 100000 in
theorem r_X5_judge (D : Nat) (σ : Sg) (h : WS σ) (hw : WD (σ 1 0) (σ 7)) : ∃ z, Ret (D + 5) miX5_judge [aR 5] σ (some (aI z)) σ ∧ ((z = σ 4 2 * (chd (σ 1 0) (σ 7) - stk (σ 1 0) (σ 7)) + rs (fun a => if a < σ 7 a then csc σ a (σ 7 a) else 0) 0 (σ 1 0).toNat ∧ σ 1 0 = σ 4 0 ∧ crs (σ 1 0) (σ 7) ≤ 0 ∧ okF (cmj σ) (σ 1 0) (σ 7)) ∨ (z = -2147483648 ∧ ¬ (σ 1 0 = σ 4 0 ∧ crs (σ 1 0) (σ 7) ≤ 0 ∧ okF (cmj σ) (σ 1 0) (σ 7)))) := by
  obtain ⟨z, fo, hz⟩ := r_X4_isFold (D + 1) σ h hw
  rcases hz with ⟨q1, q2⟩ | ⟨q1, q2⟩
  · have sc := r_X4_scoreOfFold D σ h hw q2.1
    generalize σ 4 2 * (chd (σ 1 0) (σ 7) - stk (σ 1 0) (σ 7)) + rs (fun a => if a < σ 7 a then csc σ a (σ 7 a) else 0) 0 (σ 1 0).toNat = R at sc ⊢
    refine ⟨R, ?_, Or.inl ⟨rfl, q2⟩⟩
    subst q1
    refine Ret.of 5 [some (aR 5)] rfl (by decide) rfl (Nat.le_of_ble_eq_true rfl) ?_
    refine vX5_judge 60 ?_
    simp only [↓S_X5_judge, ↓pI_c, ↓pL_c, ↓pR_c, ↓pC_I, ↓pC_R, ↓pE_n, ↓gI_0, ↓gI_s, ↓gL_0, ↓gL_s, ↓gR_0, ↓gR_s, ↓popN_0, ↓popN_s, ↓kl_I, ↓kl_L, ↓kl_R, ↓kl_n, ↓put1_0, ↓put1_s, ↓putk_0, ↓putk_s, ↓put2_0, ↓put2_s, ↓putl_0, ↓putl_s, ↓callK_0, ↓callK_1, ↓callK_2, cats_n, cats_c, catA_I, catA_L, catA_R, KL, LV, lval_f, ltag_f, llen_f, lcm_lt, lcm_le, lcm_gt, lcm_ge, lcm_eq, lcm_R1, lcm_R2, inR, inL, true_and, and_true, eq_self, List.head?_cons, Option.some.injEq, Sum.inr.injEq, Sum.inl.injEq, false_or, or_false, true_or, or_true, Nat.reduceAdd, Nat.reduceLeDiff, Int.reduceLE, Int.reduceLT, Int.reduceEq, Int.reduceNeg, Int.reduceAdd, Int.reduceSub, Int.reduceMul, Int.reduceNe, ne_eq, not_false_eq_true, not_true_eq_false, false_implies, forall_const, Nat.le_refl, Nat.zero_le, implies_true, and_self]
    (repeat' (first | apply And.intro | intro _ | with_reducible refine Exists.intro _ (Exists.intro _ (And.intro fo ?_)) | with_reducible refine Exists.intro _ (And.intro fo ?_) | with_reducible refine Exists.intro _ (Exists.intro _ (And.intro sc ?_)) | with_reducible refine Exists.intro _ (And.intro sc ?_)))
    all_goals (try first | omega | trivial | (rfl; done) | assumption | (exfalso; omega))
  · refine ⟨_, ?_, Or.inr ⟨rfl, q2⟩⟩
    subst q1
    refine Ret.of 5 [some (aR 5)] rfl (by decide) rfl (Nat.le_of_ble_eq_true rfl) ?_
    refine vX5_judge 60 ?_
    simp only [↓S_X5_judge, ↓pI_c, ↓pL_c, ↓pR_c, ↓pC_I, ↓pC_R, ↓pE_n, ↓gI_0, ↓gI_s, ↓gL_0, ↓gL_s, ↓gR_0, ↓gR_s, ↓popN_0, ↓popN_s, ↓kl_I, ↓kl_L, ↓kl_R, ↓kl_n, ↓put1_0, ↓put1_s, ↓putk_0, ↓putk_s, ↓put2_0, ↓put2_s, ↓putl_0, ↓putl_s, ↓callK_0, ↓callK_1, ↓callK_2, cats_n, cats_c, catA_I, catA_L, catA_R, KL, LV, lval_f, ltag_f, llen_f, lcm_lt, lcm_le, lcm_gt, lcm_ge, lcm_eq, lcm_R1, lcm_R2, inR, inL, true_and, and_true, eq_self, List.head?_cons, Option.some.injEq, Sum.inr.injEq, Sum.inl.injEq, false_or, or_false, true_or, or_true, Nat.reduceAdd, Nat.reduceLeDiff, Int.reduceLE, Int.reduceLT, Int.reduceEq, Int.reduceNeg, Int.reduceAdd, Int.reduceSub, Int.reduceMul, Int.reduceNe, ne_eq, not_false_eq_true, not_true_eq_false, false_implies, forall_const, Nat.le_refl, Nat.zero_le, implies_true, and_self]
    (repeat' (first | apply And.intro | intro _ | with_reducible refine Exists.intro _ (Exists.intro _ (And.intro fo ?_)) | with_reducible refine Exists.intro _ (And.intro fo ?_)))
    all_goals (try first | omega | trivial | (rfl; done) | assumption | (exfalso; omega))
/-- the two ways to add up a fold's score -/
theorem judge_eq {L : Int} {m : Int → Int} (hw : WD L m) (sc : Int → Int → Int) (bn : Int) : rs (jg sc bn L m) 0 L.toNat = bn * (chd L m - stk L m) + rs (fun a => if a < m a then sc a (m a) else 0) 0 L.toNat := by
  have key : ∀ (k : Nat) (i : Int), 0 ≤ i → i + k ≤ L → rs (jg sc bn L m) i k = bn * (rs (fun a => if a < m a then 1 else 0) i k - rs (fun a => if a < m a ∧ ¬ (0 < a ∧ m a < L - 1 ∧ m (a - 1) = m a + 1) then 1 else 0) i k) + rs (fun a => if a < m a then sc a (m a) else 0) i k := by
    intro k
    induction k with
    | zero =>
      intro i i0 i1
      show (0 : Int) = bn * (0 - 0) + 0
      omega
    | succ k ih =>
      intro i i0 i1
      rw [rs_s, rs_s, rs_s, rs_s, ih (i + 1) (by omega) (by omega)]
      generalize rs (fun a => if a < m a then 1 else 0) (i + 1) k = A
      generalize rs (fun a => if a < m a ∧ ¬ (0 < a ∧ m a < L - 1 ∧ m (a - 1) = m a + 1) then 1 else 0) (i + 1) k = B
      generalize rs (fun a => if a < m a then sc a (m a) else 0) (i + 1) k = C
      unfold jg
      by_cases c1 : i < m i
      · by_cases c2 : 0 < i ∧ m i < L - 1 ∧ m (i - 1) = m i + 1
        · rw [if_pos c1, if_pos c2, if_pos c1, if_neg (fun z => z.2 c2), if_pos c1, show bn * (1 + A - (0 + B)) = bn * (A - B) + bn from by rw [show 1 + A - (0 + B) = (A - B) + 1 from by omega, Int.mul_add, Int.mul_one]]
          omega
        · rw [if_pos c1, if_neg c2, if_pos c1, if_pos ⟨c1, c2⟩, if_pos c1, show 1 + A - (1 + B) = A - B from by omega]
          omega
      · rw [if_neg c1, if_neg c1, if_neg (fun z => c1 z.1), if_neg c1, show 0 + A - (0 + B) = A - B from by omega]
        omega
  have w1 := hw.1
  rw [key L.toNat 0 (by omega) (by omega), stk_eq hw]
  rfl

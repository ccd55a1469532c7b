/-! signs: what is open -/
def sop (s : Int → Int) (k : Nat) : Int := rs (fun i => if s i = 1 then 1 else -1) 0 k
set_option maxRecDepth 100000 in
theorem r_X6_open (D : Nat) (σ : Sg) (h0 : 0 ≤ σ 6 2) (h1 : σ 6 2 ≤ 24) (hs : ∀ i, 0 ≤ i → i < σ 6 2 → 1 ≤ σ 27 i ∧ σ 27 i ≤ 100) : Ret (D + 1) miX6_open [aR 6] σ (some (aI (sop (σ 27) (σ 6 2).toNat))) σ := by
  have loop : ∀ (k : Nat) (i acc : Int), 0 ≤ i → i + k = σ 6 2 → V D miX6_open 6 (some (aI (acc + rs (fun i => if σ 27 i = 1 then 1 else -1) i k))) σ 4 [some (aR 6), some (aI acc), some (aI i)] [] σ := by
    intro k
    induction k with
    | zero =>
      intro i acc i0 ik
      rw [show rs (fun i => if σ 27 i = 1 then 1 else -1) i 0 = 0 from rfl, Int.add_zero]
      refine vX6_open 60 ?_
      simp only [↓S_X6_open, ↓pI_c, ↓pL_c, ↓pR_c, ↓pC_I, ↓pC_R, ↓pE_n, ↓gI_0, ↓gI_s, ↓gL_0, ↓gL_s, ↓gR_0, ↓gR_s, ↓popN_0, ↓popN_s, ↓kl_I, ↓kl_L, ↓kl_R, ↓kl_n, ↓put1_0, ↓put1_s, ↓putk_0, ↓putk_s, ↓put2_0, ↓put2_s, ↓putl_0, ↓putl_s, ↓callK_0, ↓callK_1, ↓callK_2, cats_n, cats_c, catA_I, catA_L, catA_R, KL, LV, lval_f, ltag_f, llen_f, lcm_lt, lcm_le, lcm_gt, lcm_ge, lcm_eq, lcm_R1, lcm_R2, inR, inL, true_and, and_true, eq_self, List.head?_cons, Option.some.injEq, Sum.inr.injEq, Sum.inl.injEq, false_or, or_false, true_or, or_true, Nat.reduceAdd, Nat.reduceLeDiff, Int.reduceLE, Int.reduceLT, Int.reduceEq, Int.reduceNeg, Int.reduceAdd, Int.reduceSub, Int.reduceMul, Int.reduceNe, ne_eq, not_false_eq_true, not_true_eq_false, false_implies, forall_const, Nat.le_refl, Nat.zero_le, implies_true, and_self]
      (repeat' (first | apply And.intro | intro _))
      all_goals (try first | omega | trivial | (rfl; done) | assumption | (exfalso; omega))
    | succ k ih =>
      intro i acc i0 ik
      have hi := hs i i0 (by omega)
      have t := ih (i + 1) (acc + if σ 27 i = 1 then 1 else -1) (by omega) (by omega)
      rw [rs_s, ← Int.add_assoc]
      by_cases c : σ 27 i = 1
      · rw [if_pos c] at t
        rw [if_pos c]
        refine vX6_open 60 ?_
        simp only [↓S_X6_open, ↓pI_c, ↓pL_c, ↓pR_c, ↓pC_I, ↓pC_R, ↓pE_n, ↓gI_0, ↓gI_s, ↓gL_0, ↓gL_s, ↓gR_0, ↓gR_s, ↓popN_0, ↓popN_s, ↓kl_I, ↓kl_L, ↓kl_R, ↓kl_n, ↓put1_0, ↓put1_s, ↓putk_0, ↓putk_s, ↓put2_0, ↓put2_s, ↓putl_0, ↓putl_s, ↓callK_0, ↓callK_1, ↓callK_2, cats_n, cats_c, catA_I, catA_L, catA_R, KL, LV, lval_f, ltag_f, llen_f, lcm_lt, lcm_le, lcm_gt, lcm_ge, lcm_eq, lcm_R1, lcm_R2, inR, inL, true_and, and_true, eq_self, List.head?_cons, Option.some.injEq, Sum.inr.injEq, Sum.inl.injEq, false_or, or_false, true_or, or_true, Nat.reduceAdd, Nat.reduceLeDiff, Int.reduceLE, Int.reduceLT, Int.reduceEq, Int.reduceNeg, Int.reduceAdd, Int.reduceSub, Int.reduceMul, Int.reduceNe, ne_eq, not_false_eq_true, not_true_eq_false, false_implies, forall_const, Nat.le_refl, Nat.zero_le, implies_true, and_self]
        (repeat' (first | apply And.intro | intro _))
        all_goals (try first | omega | trivial | (rfl; done) | assumption | (exfalso; omega) | (exact t) | (refine V.wk t ?_; simp [lle]; done))
      · rw [if_neg c] at t
        rw [if_neg c]
        refine vX6_open 60 ?_
        simp only [↓S_X6_open, ↓pI_c, ↓pL_c, ↓pR_c, ↓pC_I, ↓pC_R, ↓pE_n, ↓gI_0, ↓gI_s, ↓gL_0, ↓gL_s, ↓gR_0, ↓gR_s, ↓popN_0, ↓popN_s, ↓kl_I, ↓kl_L, ↓kl_R, ↓kl_n, ↓put1_0, ↓put1_s, ↓putk_0, ↓putk_s, ↓put2_0, ↓put2_s, ↓putl_0, ↓putl_s, ↓callK_0, ↓callK_1, ↓callK_2, cats_n, cats_c, catA_I, catA_L, catA_R, KL, LV, lval_f, ltag_f, llen_f, lcm_lt, lcm_le, lcm_gt, lcm_ge, lcm_eq, lcm_R1, lcm_R2, inR, inL, true_and, and_true, eq_self, List.head?_cons, Option.some.injEq, Sum.inr.injEq, Sum.inl.injEq, false_or, or_false, true_or, or_true, Nat.reduceAdd, Nat.reduceLeDiff, Int.reduceLE, Int.reduceLT, Int.reduceEq, Int.reduceNeg, Int.reduceAdd, Int.reduceSub, Int.reduceMul, Int.reduceNe, ne_eq, not_false_eq_true, not_true_eq_false, false_implies, forall_const, Nat.le_refl, Nat.zero_le, implies_true, and_self]
        (repeat' (first | apply And.intro | intro _))
        all_goals (try first | omega | trivial | (rfl; done) | assumption | (exfalso; omega) | (exact t) | (refine V.wk t ?_; simp [lle]; done))
  have t := loop (σ 6 2).toNat 0 0 (by omega) (by omega)
  rw [Int.zero_add] at t
  unfold sop
  refine Ret.of 6 [some (aR 6), none, none] rfl (by decide) rfl (Nat.le_of_ble_eq_true rfl) ?_
  refine vX6_open 60 ?_
  simp only [↓S_X6_open, ↓pI_c, ↓pL_c, ↓pR_c, ↓pC_I, ↓pC_R, ↓pE_n, ↓gI_0, ↓gI_s, ↓gL_0, ↓gL_s, ↓gR_0, ↓gR_s, ↓popN_0, ↓popN_s, ↓kl_I, ↓kl_L, ↓kl_R, ↓kl_n, ↓put1_0, ↓put1_s, ↓putk_0, ↓putk_s, ↓put2_0, ↓put2_s, ↓putl_0, ↓putl_s, ↓callK_0, ↓callK_1, ↓callK_2, cats_n, cats_c, catA_I, catA_L, catA_R, KL, LV, lval_f, ltag_f, llen_f, lcm_lt, lcm_le, lcm_gt, lcm_ge, lcm_eq, lcm_R1, lcm_R2, inR, inL, true_and, and_true, eq_self, List.head?_cons, Option.some.injEq, Sum.inr.injEq, Sum.inl.injEq, false_or, or_false, true_or, or_true, Nat.reduceAdd, Nat.reduceLeDiff, Int.reduceLE, Int.reduceLT, Int.reduceEq, Int.reduceNeg, Int.reduceAdd, Int.reduceSub, Int.reduceMul, Int.reduceNe, ne_eq, not_false_eq_true, not_true_eq_false, false_implies, forall_const, Nat.le_refl, Nat.zero_le, implies_true, and_self]
  (repeat' (first | apply And.intro | intro _))
  all_goals (try first | omega | trivial | (rfl; done) | assumption | (exfalso; omega) | (exact t) | (refine V.wk t ?_; simp [lle]; done))
set_option maxRecDepth 100000 in
theorem r_X3_canTake (D : Nat) (σ : Sg) (v : Int) (hv : inR v) (h0 : 0 ≤ σ 3 0) (h1 : σ 3 0 ≤ 24) (h2 : 0 ≤ σ 3 1) (h3 : σ 3 1 ≤ 24) : Ret (D + 1) miX3_canTake [aR 3, aI v] σ (some (aI (if σ 3 0 < 24 ∧ 1 ≤ v ∧ (v = 1 ∨ v - 2 < σ 3 1) then 1 else 0))) σ := by
  by_cases c : σ 3 0 < 24 ∧ 1 ≤ v ∧ (v = 1 ∨ v - 2 < σ 3 1)
  · rw [if_pos c]
    refine Ret.of 3 [some (aR 3), some (aI v)] rfl (by decide) rfl (Nat.le_of_ble_eq_true rfl) ?_
    refine vX3_canTake 60 ?_
    simp only [↓S_X3_canTake, ↓pI_c, ↓pL_c, ↓pR_c, ↓pC_I, ↓pC_R, ↓pE_n, ↓gI_0, ↓gI_s, ↓gL_0, ↓gL_s, ↓gR_0, ↓gR_s, ↓popN_0, ↓popN_s, ↓kl_I, ↓kl_L, ↓kl_R, ↓kl_n, ↓put1_0, ↓put1_s, ↓putk_0, ↓putk_s, ↓put2_0, ↓put2_s, ↓putl_0, ↓putl_s, ↓callK_0, ↓callK_1, ↓callK_2, cats_n, cats_c, catA_I, catA_L, catA_R, KL, LV, lval_f, ltag_f, llen_f, lcm_lt, lcm_le, lcm_gt, lcm_ge, lcm_eq, lcm_R1, lcm_R2, inR, inL, true_and, and_true, eq_self, List.head?_cons, Option.some.injEq, Sum.inr.injEq, Sum.inl.injEq, false_or, or_false, true_or, or_true, Nat.reduceAdd, Nat.reduceLeDiff, Int.reduceLE, Int.reduceLT, Int.reduceEq, Int.reduceNeg, Int.reduceAdd, Int.reduceSub, Int.reduceMul, Int.reduceNe, ne_eq, not_false_eq_true, not_true_eq_false, false_implies, forall_const, Nat.le_refl, Nat.zero_le, implies_true, and_self]
    (repeat' (first | apply And.intro | intro _))
    all_goals (try first | omega | trivial | (rfl; done) | assumption | (exfalso; omega))
  · rw [if_neg c]
    refine Ret.of 3 [some (aR 3), some (aI v)] rfl (by decide) rfl (Nat.le_of_ble_eq_true rfl) ?_
    refine vX3_canTake 60 ?_
    simp only [↓S_X3_canTake, ↓pI_c, ↓pL_c, ↓pR_c, ↓pC_I, ↓pC_R, ↓pE_n, ↓gI_0, ↓gI_s, ↓gL_0, ↓gL_s, ↓gR_0, ↓gR_s, ↓popN_0, ↓popN_s, ↓kl_I, ↓kl_L, ↓kl_R, ↓kl_n, ↓put1_0, ↓put1_s, ↓putk_0, ↓putk_s, ↓put2_0, ↓put2_s, ↓putl_0, ↓putl_s, ↓callK_0, ↓callK_1, ↓callK_2, cats_n, cats_c, catA_I, catA_L, catA_R, KL, LV, lval_f, ltag_f, llen_f, lcm_lt, lcm_le, lcm_gt, lcm_ge, lcm_eq, lcm_R1, lcm_R2, inR, inL, true_and, and_true, eq_self, List.head?_cons, Option.some.injEq, Sum.inr.injEq, Sum.inl.injEq, false_or, or_false, true_or, or_true, Nat.reduceAdd, Nat.reduceLeDiff, Int.reduceLE, Int.reduceLT, Int.reduceEq, Int.reduceNeg, Int.reduceAdd, Int.reduceSub, Int.reduceMul, Int.reduceNe, ne_eq, not_false_eq_true, not_true_eq_false, false_implies, forall_const, Nat.le_refl, Nat.zero_le, implies_true, and_self]
    (repeat' (first | apply And.intro | intro _))
    all_goals (try first | omega | trivial | (rfl; done) | assumption | (exfalso; omega))

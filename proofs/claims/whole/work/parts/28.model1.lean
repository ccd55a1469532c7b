/-! the model's drawing, part 1 -/
set_option maxRecDepth 100000 in
theorem r_X6_in (D : Nat) (σ : Sg) (v lo hi : Int) (h : inL v) (h1 : inL lo) (h2 : inL hi) : Ret (D + 1) miX6_in [aL v, aL lo, aL hi] σ (some (aI (if lo ≤ v ∧ v ≤ hi then 1 else 0))) σ := by
  refine Ret.of 6 [some (aL v), none, some (aL lo), none, some (aL hi), none] rfl (by decide) rfl (Nat.le_of_ble_eq_true rfl) ?_
  refine vX6_in 60 ?_
  simp only [↓S_X6_in, ↓pI_c, ↓pL_c, ↓pR_c, ↓pC_I, ↓pC_R, ↓pE_n, ↓gI_0, ↓gI_s, ↓gL_0, ↓gL_s, ↓gR_0, ↓gR_s, ↓popN_0, ↓popN_s, ↓kl_I, ↓kl_L, ↓kl_R, ↓kl_n, ↓put1_0, ↓put1_s, ↓putk_0, ↓putk_s, ↓put2_0, ↓put2_s, ↓putl_0, ↓putl_s, ↓callK_0, ↓callK_1, ↓callK_2, cats_n, cats_c, catA_I, catA_L, catA_R, KL, LV, lval_f, ltag_f, llen_f, lcm_lt, lcm_le, lcm_gt, lcm_ge, lcm_eq, lcm_R1, lcm_R2, inR, inL, true_and, and_true, eq_self, List.head?_cons, Option.some.injEq, Sum.inr.injEq, Sum.inl.injEq, false_or, or_false, true_or, or_true, Nat.reduceAdd, Nat.reduceLeDiff, Int.reduceLE, Int.reduceLT, Int.reduceEq, Int.reduceNeg, Int.reduceAdd, Int.reduceSub, Int.reduceMul, Int.reduceNe, ne_eq, not_false_eq_true, not_true_eq_false, false_implies, forall_const, Nat.le_refl, Nat.zero_le, implies_true, and_self]
  (repeat' (first | apply And.intro | intro _))
  all_goals (try first | omega | trivial | (rfl; done) | assumption | (exfalso; omega) | (split <;> first | omega | (rfl; done) | (exfalso; omega)))
set_option maxRecDepth 100000 in
theorem r_X6_isPoint (D : Nat) (σ : Sg) (a : Int) (h : inR a) (h1 : 0 ≤ σ 6 0) (h2 : σ 6 0 ≤ 24) : Ret (D + 2) miX6_isPoint [aR 6, aI a] σ (some (aI (if 0 ≤ a ∧ a < σ 6 0 then 1 else 0))) σ := by
  have t := r_X6_in D σ a 0 (σ 6 0 - 1) (by unfold inL; omega) (by unfold inL; omega) (by unfold inL; omega)
  rw [show (if 0 ≤ a ∧ a ≤ σ 6 0 - 1 then (1 : Int) else 0) = if 0 ≤ a ∧ a < σ 6 0 then 1 else 0 from by split <;> split <;> omega] at t
  refine Ret.of 6 [some (aR 6), some (aI a)] rfl (by decide) rfl (Nat.le_of_ble_eq_true rfl) ?_
  refine vX6_isPoint 60 ?_
  simp only [↓S_X6_isPoint, ↓pI_c, ↓pL_c, ↓pR_c, ↓pC_I, ↓pC_R, ↓pE_n, ↓gI_0, ↓gI_s, ↓gL_0, ↓gL_s, ↓gR_0, ↓gR_s, ↓popN_0, ↓popN_s, ↓kl_I, ↓kl_L, ↓kl_R, ↓kl_n, ↓put1_0, ↓put1_s, ↓putk_0, ↓putk_s, ↓put2_0, ↓put2_s, ↓putl_0, ↓putl_s, ↓callK_0, ↓callK_1, ↓callK_2, cats_n, cats_c, catA_I, catA_L, catA_R, KL, LV, lval_f, ltag_f, llen_f, lcm_lt, lcm_le, lcm_gt, lcm_ge, lcm_eq, lcm_R1, lcm_R2, inR, inL, true_and, and_true, eq_self, List.head?_cons, Option.some.injEq, Sum.inr.injEq, Sum.inl.injEq, false_or, or_false, true_or, or_true, Nat.reduceAdd, Nat.reduceLeDiff, Int.reduceLE, Int.reduceLT, Int.reduceEq, Int.reduceNeg, Int.reduceAdd, Int.reduceSub, Int.reduceMul, Int.reduceNe, ne_eq, not_false_eq_true, not_true_eq_false, false_implies, forall_const, Nat.le_refl, Nat.zero_le, implies_true, and_self]
  (repeat' (first | apply And.intro | intro _ | with_reducible refine Exists.intro _ (Exists.intro _ (And.intro t ?_)) | with_reducible refine Exists.intro _ (And.intro t ?_)))
  all_goals (try first | omega | trivial | (rfl; done) | assumption | (exfalso; omega))
set_option maxRecDepth 100000 in
theorem r_X6_begins (D : Nat) (σ : Sg) (a : Int) (h0 : 0 ≤ a) (h1 : a < 24) (hm : inR (σ 26 a)) : Ret (D + 1) miX6_begins [aR 6, aI a] σ (some (aI (if a < σ 26 a then 1 else 0))) σ := by
  refine Ret.of 6 [some (aR 6), some (aI a)] rfl (by decide) rfl (Nat.le_of_ble_eq_true rfl) ?_
  refine vX6_begins 60 ?_
  simp only [↓S_X6_begins, ↓pI_c, ↓pL_c, ↓pR_c, ↓pC_I, ↓pC_R, ↓pE_n, ↓gI_0, ↓gI_s, ↓gL_0, ↓gL_s, ↓gR_0, ↓gR_s, ↓popN_0, ↓popN_s, ↓kl_I, ↓kl_L, ↓kl_R, ↓kl_n, ↓put1_0, ↓put1_s, ↓putk_0, ↓putk_s, ↓put2_0, ↓put2_s, ↓putl_0, ↓putl_s, ↓callK_0, ↓callK_1, ↓callK_2, cats_n, cats_c, catA_I, catA_L, catA_R, KL, LV, lval_f, ltag_f, llen_f, lcm_lt, lcm_le, lcm_gt, lcm_ge, lcm_eq, lcm_R1, lcm_R2, inR, inL, true_and, and_true, eq_self, List.head?_cons, Option.some.injEq, Sum.inr.injEq, Sum.inl.injEq, false_or, or_false, true_or, or_true, Nat.reduceAdd, Nat.reduceLeDiff, Int.reduceLE, Int.reduceLT, Int.reduceEq, Int.reduceNeg, Int.reduceAdd, Int.reduceSub, Int.reduceMul, Int.reduceNe, ne_eq, not_false_eq_true, not_true_eq_false, false_implies, forall_const, Nat.le_refl, Nat.zero_le, implies_true, and_self]
  refine ⟨h0, h1, hm, by omega, fun q => by rw [if_neg (by omega)], fun q => by rw [if_pos (by omega)]⟩
set_option maxRecDepth 100000 in
theorem r_X6_tie (D : Nat) (σ : Sg) (a b : Int) (h0 : 0 ≤ a) (h1 : a < 24) (h2 : 0 ≤ b) (h3 : b < 24) : Ret (D + 1) miX6_tie [aR 6, aI a, aI b] σ none (up (up σ 26 a b) 26 b a) := by
  refine Ret.of 6 [some (aR 6), some (aI a), some (aI b)] rfl (by decide) rfl (Nat.le_of_ble_eq_true rfl) ?_
  refine vX6_tie 60 ?_
  simp only [↓S_X6_tie, ↓pI_c, ↓pL_c, ↓pR_c, ↓pC_I, ↓pC_R, ↓pE_n, ↓gI_0, ↓gI_s, ↓gL_0, ↓gL_s, ↓gR_0, ↓gR_s, ↓popN_0, ↓popN_s, ↓kl_I, ↓kl_L, ↓kl_R, ↓kl_n, ↓put1_0, ↓put1_s, ↓putk_0, ↓putk_s, ↓put2_0, ↓put2_s, ↓putl_0, ↓putl_s, ↓callK_0, ↓callK_1, ↓callK_2, cats_n, cats_c, catA_I, catA_L, catA_R, KL, LV, lval_f, ltag_f, llen_f, lcm_lt, lcm_le, lcm_gt, lcm_ge, lcm_eq, lcm_R1, lcm_R2, inR, inL, true_and, and_true, eq_self, List.head?_cons, Option.some.injEq, Sum.inr.injEq, Sum.inl.injEq, false_or, or_false, true_or, or_true, Nat.reduceAdd, Nat.reduceLeDiff, Int.reduceLE, Int.reduceLT, Int.reduceEq, Int.reduceNeg, Int.reduceAdd, Int.reduceSub, Int.reduceMul, Int.reduceNe, ne_eq, not_false_eq_true, not_true_eq_false, false_implies, forall_const, Nat.le_refl, Nat.zero_le, implies_true, and_self]
  exact ⟨h0, h1, h2, h3⟩
set_option maxRecDepth 100000 in
theorem r_X6_clear (D : Nat) (σ : Sg) (n : Int) : Ret (D + 1) miX6_clear [aR 6, aI n] σ none (ff (up σ 6 0 n) 26 0 24 (-1)) := by
  refine Ret.of 6 [some (aR 6), some (aI n), none] rfl (by decide) rfl (Nat.le_of_ble_eq_true rfl) ?_
  have loop : ∀ (k : Nat) (i : Int), 0 ≤ i → i + k = 24 → V (D) miX6_clear 6 none (ff (up σ 6 0 n) 26 0 24 (-1)) 7 [some (aR 6), some (aI n), some (aI i)] [] (ff (up σ 6 0 n) 26 0 i (-1)) := by
    intro k
    induction k with
    | zero =>
      intro i h0 hi
      refine vX6_clear 60 ?_
      simp only [↓S_X6_clear, ↓pI_c, ↓pL_c, ↓pR_c, ↓pC_I, ↓pC_R, ↓pE_n, ↓gI_0, ↓gI_s, ↓gL_0, ↓gL_s, ↓gR_0, ↓gR_s, ↓popN_0, ↓popN_s, ↓kl_I, ↓kl_L, ↓kl_R, ↓kl_n, ↓put1_0, ↓put1_s, ↓putk_0, ↓putk_s, ↓put2_0, ↓put2_s, ↓putl_0, ↓putl_s, ↓callK_0, ↓callK_1, ↓callK_2, cats_n, cats_c, catA_I, catA_L, catA_R, KL, LV, lval_f, ltag_f, llen_f, lcm_lt, lcm_le, lcm_gt, lcm_ge, lcm_eq, lcm_R1, lcm_R2, inR, inL, true_and, and_true, eq_self, List.head?_cons, Option.some.injEq, Sum.inr.injEq, Sum.inl.injEq, false_or, or_false, true_or, or_true, Nat.reduceAdd, Nat.reduceLeDiff, Int.reduceLE, Int.reduceLT, Int.reduceEq, Int.reduceNeg, Int.reduceAdd, Int.reduceSub, Int.reduceMul, Int.reduceNe, ne_eq, not_false_eq_true, not_true_eq_false, false_implies, forall_const, Nat.le_refl, Nat.zero_le, implies_true, and_self]
      have : i = 24 := by omega
      subst this
      exact ⟨by omega, fun q => rfl, fun q => by omega⟩
    | succ k ih =>
      intro i h0 hi
      have t := ih (i + 1) (by omega) (by omega)
      have e : up (ff (up σ 6 0 n) 26 0 i (-1)) 26 i (-1) = ff (up σ 6 0 n) 26 0 (i + 1) (-1) := by
        funext x y
        unfold ff
        show (if x = 26 ∧ y = i then (-1 : Int) else (if x = 26 ∧ 0 ≤ y ∧ y < i then -1 else up σ 6 0 n x y)) = _
        by_cases c : x = 26 ∧ y = i
        · rw [if_pos c, if_pos (by omega)]
        · rw [if_neg c]
          by_cases c2 : x = 26 ∧ 0 ≤ y ∧ y < i
          · rw [if_pos c2, if_pos (by omega)]
          · rw [if_neg c2, if_neg (by omega)]
      rw [← e] at t
      refine vX6_clear 60 ?_
      simp only [↓S_X6_clear, ↓pI_c, ↓pL_c, ↓pR_c, ↓pC_I, ↓pC_R, ↓pE_n, ↓gI_0, ↓gI_s, ↓gL_0, ↓gL_s, ↓gR_0, ↓gR_s, ↓popN_0, ↓popN_s, ↓kl_I, ↓kl_L, ↓kl_R, ↓kl_n, ↓put1_0, ↓put1_s, ↓putk_0, ↓putk_s, ↓put2_0, ↓put2_s, ↓putl_0, ↓putl_s, ↓callK_0, ↓callK_1, ↓callK_2, cats_n, cats_c, catA_I, catA_L, catA_R, KL, LV, lval_f, ltag_f, llen_f, lcm_lt, lcm_le, lcm_gt, lcm_ge, lcm_eq, lcm_R1, lcm_R2, inR, inL, true_and, and_true, eq_self, List.head?_cons, Option.some.injEq, Sum.inr.injEq, Sum.inl.injEq, false_or, or_false, true_or, or_true, Nat.reduceAdd, Nat.reduceLeDiff, Int.reduceLE, Int.reduceLT, Int.reduceEq, Int.reduceNeg, Int.reduceAdd, Int.reduceSub, Int.reduceMul, Int.reduceNe, ne_eq, not_false_eq_true, not_true_eq_false, false_implies, forall_const, Nat.le_refl, Nat.zero_le, implies_true, and_self]
      exact ⟨by omega, fun q => by omega, fun q => ⟨by omega, by omega, t⟩⟩
  have t := loop 24 0 (by omega) (by omega)
  have e : ff (up σ 6 0 n) 26 0 0 (-1) = up σ 6 0 n := by
    funext x y
    unfold ff
    rw [if_neg (by omega)]
  rw [e] at t
  refine vX6_clear 60 ?_
  simp only [↓S_X6_clear, ↓pI_c, ↓pL_c, ↓pR_c, ↓pC_I, ↓pC_R, ↓pE_n, ↓gI_0, ↓gI_s, ↓gL_0, ↓gL_s, ↓gR_0, ↓gR_s, ↓popN_0, ↓popN_s, ↓kl_I, ↓kl_L, ↓kl_R, ↓kl_n, ↓put1_0, ↓put1_s, ↓putk_0, ↓putk_s, ↓put2_0, ↓put2_s, ↓putl_0, ↓putl_s, ↓callK_0, ↓callK_1, ↓callK_2, cats_n, cats_c, catA_I, catA_L, catA_R, KL, LV, lval_f, ltag_f, llen_f, lcm_lt, lcm_le, lcm_gt, lcm_ge, lcm_eq, lcm_R1, lcm_R2, inR, inL, true_and, and_true, eq_self, List.head?_cons, Option.some.injEq, Sum.inr.injEq, Sum.inl.injEq, false_or, or_false, true_or, or_true, Nat.reduceAdd, Nat.reduceLeDiff, Int.reduceLE, Int.reduceLT, Int.reduceEq, Int.reduceNeg, Int.reduceAdd, Int.reduceSub, Int.reduceMul, Int.reduceNe, ne_eq, not_false_eq_true, not_true_eq_false, false_implies, forall_const, Nat.le_refl, Nat.zero_le, implies_true, and_self]
  exact t
set_option maxRecDepth 100000 in
theorem r_X6_chords (D : Nat) (σ : Sg) (hw : WD (σ 6 0) (σ 26)) : Ret (D + 2) miX6_chords [aR 6] σ (some (aI (rs (fun a => if a < σ 26 a then 1 else 0) 0 (σ 6 0).toNat))) σ := by
  have w1 := hw.1
  have w2 := hw.2.1
  refine Ret.of 6 [some (aR 6), none, none] rfl (by decide) rfl (Nat.le_of_ble_eq_true rfl) ?_
  have loop : ∀ (k : Nat) (i acc : Int), 0 ≤ i → i + k = σ 6 0 → V (D + 1) miX6_chords 6 (some (aI (acc + rs (fun a => if a < σ 26 a then 1 else 0) i k))) σ 4 [some (aR 6), some (aI acc), some (aI i)] [] σ := by
    intro k
    induction k with
    | zero =>
      intro i acc h0 hi
      refine vX6_chords 60 ?_
      simp only [↓S_X6_chords, ↓pI_c, ↓pL_c, ↓pR_c, ↓pC_I, ↓pC_R, ↓pE_n, ↓gI_0, ↓gI_s, ↓gL_0, ↓gL_s, ↓gR_0, ↓gR_s, ↓popN_0, ↓popN_s, ↓kl_I, ↓kl_L, ↓kl_R, ↓kl_n, ↓put1_0, ↓put1_s, ↓putk_0, ↓putk_s, ↓put2_0, ↓put2_s, ↓putl_0, ↓putl_s, ↓callK_0, ↓callK_1, ↓callK_2, cats_n, cats_c, catA_I, catA_L, catA_R, KL, LV, lval_f, ltag_f, llen_f, lcm_lt, lcm_le, lcm_gt, lcm_ge, lcm_eq, lcm_R1, lcm_R2, inR, inL, true_and, and_true, eq_self, List.head?_cons, Option.some.injEq, Sum.inr.injEq, Sum.inl.injEq, false_or, or_false, true_or, or_true, Nat.reduceAdd, Nat.reduceLeDiff, Int.reduceLE, Int.reduceLT, Int.reduceEq, Int.reduceNeg, Int.reduceAdd, Int.reduceSub, Int.reduceMul, Int.reduceNe, ne_eq, not_false_eq_true, not_true_eq_false, false_implies, forall_const, Nat.le_refl, Nat.zero_le, implies_true, and_self]
      exact ⟨by omega, by omega, fun _ => by simp [rs], fun q => by omega⟩
    | succ k ih =>
      intro i acc h0 hi
      have hr := hw.r h0 (by omega)
      have hb := r_X6_begins D σ i h0 (by omega) (by unfold inR; omega)
      have t := ih (i + 1) (acc + if i < σ 26 i then 1 else 0) (by omega) (by omega)
      rw [rs_s, ← Int.add_assoc]
      refine vX6_chords 60 ?_
      simp only [↓S_X6_chords, ↓pI_c, ↓pL_c, ↓pR_c, ↓pC_I, ↓pC_R, ↓pE_n, ↓gI_0, ↓gI_s, ↓gL_0, ↓gL_s, ↓gR_0, ↓gR_s, ↓popN_0, ↓popN_s, ↓kl_I, ↓kl_L, ↓kl_R, ↓kl_n, ↓put1_0, ↓put1_s, ↓putk_0, ↓putk_s, ↓put2_0, ↓put2_s, ↓putl_0, ↓putl_s, ↓callK_0, ↓callK_1, ↓callK_2, cats_n, cats_c, catA_I, catA_L, catA_R, KL, LV, lval_f, ltag_f, llen_f, lcm_lt, lcm_le, lcm_gt, lcm_ge, lcm_eq, lcm_R1, lcm_R2, inR, inL, true_and, and_true, eq_self, List.head?_cons, Option.some.injEq, Sum.inr.injEq, Sum.inl.injEq, false_or, or_false, true_or, or_true, Nat.reduceAdd, Nat.reduceLeDiff, Int.reduceLE, Int.reduceLT, Int.reduceEq, Int.reduceNeg, Int.reduceAdd, Int.reduceSub, Int.reduceMul, Int.reduceNe, ne_eq, not_false_eq_true, not_true_eq_false, false_implies, forall_const, Nat.le_refl, Nat.zero_le, implies_true, and_self]
      by_cases c : i < σ 26 i
      · rw [if_pos c] at hb t
        rw [if_pos c]
        (repeat' (first | apply And.intro | intro _ | with_reducible refine Exists.intro _ (Exists.intro _ (And.intro hb ?_)) | with_reducible refine Exists.intro _ (And.intro hb ?_)))
        all_goals (try first | omega | trivial | (rfl; done) | assumption | (exfalso; omega) | (exact t) | (refine V.wk t ?_; simp [lle]; done))
      · rw [if_neg c] at hb t
        rw [if_neg c]
        (repeat' (first | apply And.intro | intro _ | with_reducible refine Exists.intro _ (Exists.intro _ (And.intro hb ?_)) | with_reducible refine Exists.intro _ (And.intro hb ?_)))
        all_goals (try first | omega | trivial | (rfl; done) | assumption | (exfalso; omega) | (exact t) | (refine V.wk t ?_; simp [lle]; done))
  refine vX6_chords 60 ?_
  simp only [↓S_X6_chords, ↓pI_c, ↓pL_c, ↓pR_c, ↓pC_I, ↓pC_R, ↓pE_n, ↓gI_0, ↓gI_s, ↓gL_0, ↓gL_s, ↓gR_0, ↓gR_s, ↓popN_0, ↓popN_s, ↓kl_I, ↓kl_L, ↓kl_R, ↓kl_n, ↓put1_0, ↓put1_s, ↓putk_0, ↓putk_s, ↓put2_0, ↓put2_s, ↓putl_0, ↓putl_s, ↓callK_0, ↓callK_1, ↓callK_2, cats_n, cats_c, catA_I, catA_L, catA_R, KL, LV, lval_f, ltag_f, llen_f, lcm_lt, lcm_le, lcm_gt, lcm_ge, lcm_eq, lcm_R1, lcm_R2, inR, inL, true_and, and_true, eq_self, List.head?_cons, Option.some.injEq, Sum.inr.injEq, Sum.inl.injEq, false_or, or_false, true_or, or_true, Nat.reduceAdd, Nat.reduceLeDiff, Int.reduceLE, Int.reduceLT, Int.reduceEq, Int.reduceNeg, Int.reduceAdd, Int.reduceSub, Int.reduceMul, Int.reduceNe, ne_eq, not_false_eq_true, not_true_eq_false, false_implies, forall_const, Nat.le_refl, Nat.zero_le, implies_true, and_self]
  have := loop (σ 6 0).toNat 0 0 (by omega) (by omega)
  rw [Int.zero_add] at this
  exact this
set_option maxRecDepth 100000 in
theorem r_X6_isInner (D : Nat) (σ : Sg) (a : Int) (hw : WD (σ 6 0) (σ 26)) (h0 : 0 ≤ a) (h1 : a < σ 6 0) : Ret (D + 1) miX6_isInner [aR 6, aI a] σ (some (aI (if 0 < a ∧ σ 26 a < σ 6 0 - 1 ∧ σ 26 (a - 1) = σ 26 a + 1 then 1 else 0))) σ := by
  have w1 := hw.1
  have w2 := hw.2.1
  have hr := hw.r h0 (by omega)
  by_cases c : 0 < a
  · have hr2 := hw.r (show 0 ≤ a - 1 by omega) (by omega)
    refine Ret.of 6 [some (aR 6), some (aI a), none] rfl (by decide) rfl (Nat.le_of_ble_eq_true rfl) ?_
    refine vX6_isInner 60 ?_
    simp only [↓S_X6_isInner, ↓pI_c, ↓pL_c, ↓pR_c, ↓pC_I, ↓pC_R, ↓pE_n, ↓gI_0, ↓gI_s, ↓gL_0, ↓gL_s, ↓gR_0, ↓gR_s, ↓popN_0, ↓popN_s, ↓kl_I, ↓kl_L, ↓kl_R, ↓kl_n, ↓put1_0, ↓put1_s, ↓putk_0, ↓putk_s, ↓put2_0, ↓put2_s, ↓putl_0, ↓putl_s, ↓callK_0, ↓callK_1, ↓callK_2, cats_n, cats_c, catA_I, catA_L, catA_R, KL, LV, lval_f, ltag_f, llen_f, lcm_lt, lcm_le, lcm_gt, lcm_ge, lcm_eq, lcm_R1, lcm_R2, inR, inL, true_and, and_true, eq_self, List.head?_cons, Option.some.injEq, Sum.inr.injEq, Sum.inl.injEq, false_or, or_false, true_or, or_true, Nat.reduceAdd, Nat.reduceLeDiff, Int.reduceLE, Int.reduceLT, Int.reduceEq, Int.reduceNeg, Int.reduceAdd, Int.reduceSub, Int.reduceMul, Int.reduceNe, ne_eq, not_false_eq_true, not_true_eq_false, false_implies, forall_const, Nat.le_refl, Nat.zero_le, implies_true, and_self]
    (repeat' (first | apply And.intro | intro _))
    all_goals (try first | omega | trivial | (rfl; done) | assumption | (exfalso; omega) | (split <;> first | omega | (rfl; done) | (exfalso; omega)))
  · refine Ret.of 6 [some (aR 6), some (aI a), none] rfl (by decide) rfl (Nat.le_of_ble_eq_true rfl) ?_
    refine vX6_isInner 60 ?_
    simp only [↓S_X6_isInner, ↓pI_c, ↓pL_c, ↓pR_c, ↓pC_I, ↓pC_R, ↓pE_n, ↓gI_0, ↓gI_s, ↓gL_0, ↓gL_s, ↓gR_0, ↓gR_s, ↓popN_0, ↓popN_s, ↓kl_I, ↓kl_L, ↓kl_R, ↓kl_n, ↓put1_0, ↓put1_s, ↓putk_0, ↓putk_s, ↓put2_0, ↓put2_s, ↓putl_0, ↓putl_s, ↓callK_0, ↓callK_1, ↓callK_2, cats_n, cats_c, catA_I, catA_L, catA_R, KL, LV, lval_f, ltag_f, llen_f, lcm_lt, lcm_le, lcm_gt, lcm_ge, lcm_eq, lcm_R1, lcm_R2, inR, inL, true_and, and_true, eq_self, List.head?_cons, Option.some.injEq, Sum.inr.injEq, Sum.inl.injEq, false_or, or_false, true_or, or_true, Nat.reduceAdd, Nat.reduceLeDiff, Int.reduceLE, Int.reduceLT, Int.reduceEq, Int.reduceNeg, Int.reduceAdd, Int.reduceSub, Int.reduceMul, Int.reduceNe, ne_eq, not_false_eq_true, not_true_eq_false, false_implies, forall_const, Nat.le_refl, Nat.zero_le, implies_true, and_self]
    (repeat' (first | apply And.intro | intro _))
    all_goals (try first | omega | trivial | (rfl; done) | assumption | (exfalso; omega) | (split <;> first | omega | (rfl; done) | (exfalso; omega)))
set_option maxRecDepth 100000 in
theorem r_X6_heightOf (D : Nat) (σ : Sg) (p : Int) (hw : WD (σ 6 0) (σ 26)) (h0 : 0 ≤ p) (h1 : p < 24) : Ret (D + 2) miX6_heightOf [aR 6, aI p] σ (some (aI (rs (fun c => if σ 26 c = -1 then 0 else if c < σ 26 c then 1 else -1) 0 (p + 1).toNat))) σ := by
  have w1 := hw.1
  have w2 := hw.2.1
  refine Ret.of 6 [some (aR 6), some (aI p), none, none] rfl (by decide) rfl (Nat.le_of_ble_eq_true rfl) ?_
  have loop : ∀ (k : Nat) (i acc : Int), 0 ≤ i → i + k = p + 1 → V (D + 1) miX6_heightOf 6 (some (aI (acc + rs (fun c => if σ 26 c = -1 then 0 else if c < σ 26 c then 1 else -1) i k))) σ 4 [some (aR 6), some (aI p), some (aI acc), some (aI i)] [] σ := by
    intro k
    induction k with
    | zero =>
      intro i acc h0 hi
      refine vX6_heightOf 60 ?_
      simp only [↓S_X6_heightOf, ↓pI_c, ↓pL_c, ↓pR_c, ↓pC_I, ↓pC_R, ↓pE_n, ↓gI_0, ↓gI_s, ↓gL_0, ↓gL_s, ↓gR_0, ↓gR_s, ↓popN_0, ↓popN_s, ↓kl_I, ↓kl_L, ↓kl_R, ↓kl_n, ↓put1_0, ↓put1_s, ↓putk_0, ↓putk_s, ↓put2_0, ↓put2_s, ↓putl_0, ↓putl_s, ↓callK_0, ↓callK_1, ↓callK_2, cats_n, cats_c, catA_I, catA_L, catA_R, KL, LV, lval_f, ltag_f, llen_f, lcm_lt, lcm_le, lcm_gt, lcm_ge, lcm_eq, lcm_R1, lcm_R2, inR, inL, true_and, and_true, eq_self, List.head?_cons, Option.some.injEq, Sum.inr.injEq, Sum.inl.injEq, false_or, or_false, true_or, or_true, Nat.reduceAdd, Nat.reduceLeDiff, Int.reduceLE, Int.reduceLT, Int.reduceEq, Int.reduceNeg, Int.reduceAdd, Int.reduceSub, Int.reduceMul, Int.reduceNe, ne_eq, not_false_eq_true, not_true_eq_false, false_implies, forall_const, Nat.le_refl, Nat.zero_le, implies_true, and_self]
      exact ⟨by omega, by omega, fun _ => by simp [rs], fun q => by omega⟩
    | succ k ih =>
      intro i acc h0 hi
      have hr := hw.r h0 (by omega)
      have hb := r_X6_begins D σ i h0 (by omega) (by unfold inR; omega)
      have t := ih (i + 1) (acc + if σ 26 i = -1 then 0 else if i < σ 26 i then 1 else -1) (by omega) (by omega)
      rw [rs_s, ← Int.add_assoc]
      refine vX6_heightOf 60 ?_
      simp only [↓S_X6_heightOf, ↓pI_c, ↓pL_c, ↓pR_c, ↓pC_I, ↓pC_R, ↓pE_n, ↓gI_0, ↓gI_s, ↓gL_0, ↓gL_s, ↓gR_0, ↓gR_s, ↓popN_0, ↓popN_s, ↓kl_I, ↓kl_L, ↓kl_R, ↓kl_n, ↓put1_0, ↓put1_s, ↓putk_0, ↓putk_s, ↓put2_0, ↓put2_s, ↓putl_0, ↓putl_s, ↓callK_0, ↓callK_1, ↓callK_2, cats_n, cats_c, catA_I, catA_L, catA_R, KL, LV, lval_f, ltag_f, llen_f, lcm_lt, lcm_le, lcm_gt, lcm_ge, lcm_eq, lcm_R1, lcm_R2, inR, inL, true_and, and_true, eq_self, List.head?_cons, Option.some.injEq, Sum.inr.injEq, Sum.inl.injEq, false_or, or_false, true_or, or_true, Nat.reduceAdd, Nat.reduceLeDiff, Int.reduceLE, Int.reduceLT, Int.reduceEq, Int.reduceNeg, Int.reduceAdd, Int.reduceSub, Int.reduceMul, Int.reduceNe, ne_eq, not_false_eq_true, not_true_eq_false, false_implies, forall_const, Nat.le_refl, Nat.zero_le, implies_true, and_self]
      by_cases c : σ 26 i = -1
      · rw [if_pos c] at t
        rw [if_pos c]
        (repeat' (first | apply And.intro | intro _ | with_reducible refine Exists.intro _ (Exists.intro _ (And.intro hb ?_)) | with_reducible refine Exists.intro _ (And.intro hb ?_)))
        all_goals (try first | omega | trivial | (rfl; done) | assumption | (exfalso; omega) | (exact t) | (refine V.wk t ?_; simp [lle]; done))
      · rw [if_neg c] at t
        rw [if_neg c]
        by_cases c2 : i < σ 26 i
        · rw [if_pos c2] at hb t
          rw [if_pos c2]
          (repeat' (first | apply And.intro | intro _ | with_reducible refine Exists.intro _ (Exists.intro _ (And.intro hb ?_)) | with_reducible refine Exists.intro _ (And.intro hb ?_)))
          all_goals (try first | omega | trivial | (rfl; done) | assumption | (exfalso; omega) | (exact t) | (refine V.wk t ?_; simp [lle]; done))
        · rw [if_neg c2] at hb t
          rw [if_neg c2]
          (repeat' (first | apply And.intro | intro _ | with_reducible refine Exists.intro _ (Exists.intro _ (And.intro hb ?_)) | with_reducible refine Exists.intro _ (And.intro hb ?_)))
          all_goals (try first | omega | trivial | (rfl; done) | assumption | (exfalso; omega) | (exact t) | (refine V.wk t ?_; simp [lle]; done))
  refine vX6_heightOf 60 ?_
  simp only [↓S_X6_heightOf, ↓pI_c, ↓pL_c, ↓pR_c, ↓pC_I, ↓pC_R, ↓pE_n, ↓gI_0, ↓gI_s, ↓gL_0, ↓gL_s, ↓gR_0, ↓gR_s, ↓popN_0, ↓popN_s, ↓kl_I, ↓kl_L, ↓kl_R, ↓kl_n, ↓put1_0, ↓put1_s, ↓putk_0, ↓putk_s, ↓put2_0, ↓put2_s, ↓putl_0, ↓putl_s, ↓callK_0, ↓callK_1, ↓callK_2, cats_n, cats_c, catA_I, catA_L, catA_R, KL, LV, lval_f, ltag_f, llen_f, lcm_lt, lcm_le, lcm_gt, lcm_ge, lcm_eq, lcm_R1, lcm_R2, inR, inL, true_and, and_true, eq_self, List.head?_cons, Option.some.injEq, Sum.inr.injEq, Sum.inl.injEq, false_or, or_false, true_or, or_true, Nat.reduceAdd, Nat.reduceLeDiff, Int.reduceLE, Int.reduceLT, Int.reduceEq, Int.reduceNeg, Int.reduceAdd, Int.reduceSub, Int.reduceMul, Int.reduceNe, ne_eq, not_false_eq_true, not_true_eq_false, false_implies, forall_const, Nat.le_refl, Nat.zero_le, implies_true, and_self]
  have := loop (p + 1).toNat 0 0 (by omega) (by omega)
  rw [Int.zero_add] at this
  exact this

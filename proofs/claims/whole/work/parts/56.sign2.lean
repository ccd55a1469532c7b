/-! sign, draw: both sides -/
set_option maxRecDepth 100000 in
theorem r_X5_sign_bad (D : Nat) (σ : Sg) (v : Int) (hv : inR v) (h0 : 0 ≤ σ 3 0) (h1 : σ 3 0 ≤ 24) (h2 : 0 ≤ σ 3 1) (h3 : σ 3 1 ≤ 24) (h : ¬ (σ 3 0 < 24 ∧ 1 ≤ v ∧ (v = 1 ∨ v - 2 < σ 3 1))) : Ret (D + 2) miX5_sign [aR 5, aI v] σ (some (aI (-2))) σ := by
  have ct := r_X3_canTake D σ v hv h0 h1 h2 h3
  rw [if_neg h] at ct
  refine Ret.of 5 [some (aR 5), some (aI v)] rfl (by decide) rfl (Nat.le_of_ble_eq_true rfl) ?_
  refine vX5_sign 60 ?_
  simp only [↓S_X5_sign, ↓pI_c, ↓pL_c, ↓pR_c, ↓pC_I, ↓pC_R, ↓pE_n, ↓gI_0, ↓gI_s, ↓gL_0, ↓gL_s, ↓gR_0, ↓gR_s, ↓popN_0, ↓popN_s, ↓kl_I, ↓kl_L, ↓kl_R, ↓kl_n, ↓put1_0, ↓put1_s, ↓putk_0, ↓putk_s, ↓put2_0, ↓put2_s, ↓putl_0, ↓putl_s, ↓callK_0, ↓callK_1, ↓callK_2, cats_n, cats_c, catA_I, catA_L, catA_R, KL, LV, lval_f, ltag_f, llen_f, lcm_lt, lcm_le, lcm_gt, lcm_ge, lcm_eq, lcm_R1, lcm_R2, inR, inL, true_and, and_true, eq_self, List.head?_cons, Option.some.injEq, Sum.inr.injEq, Sum.inl.injEq, false_or, or_false, true_or, or_true, Nat.reduceAdd, Nat.reduceLeDiff, Int.reduceLE, Int.reduceLT, Int.reduceEq, Int.reduceNeg, Int.reduceAdd, Int.reduceSub, Int.reduceMul, Int.reduceNe, ne_eq, not_false_eq_true, not_true_eq_false, false_implies, forall_const, Nat.le_refl, Nat.zero_le, implies_true, and_self]
  (repeat' (first | apply And.intro | intro _ | with_reducible refine Exists.intro _ (Exists.intro _ (And.intro ct ?_)) | with_reducible refine Exists.intro _ (And.intro ct ?_)))
  all_goals (try first | omega | trivial | (rfl; done) | assumption | (exfalso; omega))
set_option maxRecDepth 100000 in
theorem r_X5_sign (D : Nat) (σ τ : Sg) (v : Int) (hv : inR v) (h0 : 0 ≤ σ 3 0) (h1 : σ 3 0 ≤ 24) (h2 : 0 ≤ σ 3 1) (h3 : σ 3 1 ≤ 24) (h : σ 3 0 < 24 ∧ 1 ≤ v ∧ (v = 1 ∨ v - 2 < σ 3 1)) (tk : Ret (D + 1) miX3_take [aR 3, aI v] σ none τ) : Ret (D + 2) miX5_sign [aR 5, aI v] σ (some (aI (τ 3 0))) τ := by
  have ct := r_X3_canTake D σ v hv h0 h1 h2 h3
  rw [if_pos h] at ct
  refine Ret.of 5 [some (aR 5), some (aI v)] rfl (by decide) rfl (Nat.le_of_ble_eq_true rfl) ?_
  refine vX5_sign 60 ?_
  simp only [↓S_X5_sign, ↓pI_c, ↓pL_c, ↓pR_c, ↓pC_I, ↓pC_R, ↓pE_n, ↓gI_0, ↓gI_s, ↓gL_0, ↓gL_s, ↓gR_0, ↓gR_s, ↓popN_0, ↓popN_s, ↓kl_I, ↓kl_L, ↓kl_R, ↓kl_n, ↓put1_0, ↓put1_s, ↓putk_0, ↓putk_s, ↓put2_0, ↓put2_s, ↓putl_0, ↓putl_s, ↓callK_0, ↓callK_1, ↓callK_2, cats_n, cats_c, catA_I, catA_L, catA_R, KL, LV, lval_f, ltag_f, llen_f, lcm_lt, lcm_le, lcm_gt, lcm_ge, lcm_eq, lcm_R1, lcm_R2, inR, inL, true_and, and_true, eq_self, List.head?_cons, Option.some.injEq, Sum.inr.injEq, Sum.inl.injEq, false_or, or_false, true_or, or_true, Nat.reduceAdd, Nat.reduceLeDiff, Int.reduceLE, Int.reduceLT, Int.reduceEq, Int.reduceNeg, Int.reduceAdd, Int.reduceSub, Int.reduceMul, Int.reduceNe, ne_eq, not_false_eq_true, not_true_eq_false, false_implies, forall_const, Nat.le_refl, Nat.zero_le, implies_true, and_self]
  (repeat' (first | apply And.intro | intro _ | with_reducible refine Exists.intro _ (Exists.intro _ (And.intro ct ?_)) | with_reducible refine Exists.intro _ (And.intro ct ?_) | with_reducible refine Exists.intro _ (Exists.intro _ (And.intro tk ?_)) | with_reducible refine Exists.intro _ (And.intro tk ?_)))
  all_goals (try first | omega | trivial | (rfl; done) | assumption | (exfalso; omega))
set_option maxRecDepth 100000 in
theorem r_X6_sign_bad (D : Nat) (σ : Sg) (v O : Int) (hv : inR v) (h0 : 0 ≤ σ 6 2) (h1 : σ 6 2 ≤ 24) (h3 : 0 ≤ O ∧ O ≤ 24) (op : Ret (D + 1) miX6_open [aR 6] σ (some (aI O)) σ) (h : ¬ (σ 6 2 < 24 ∧ 1 ≤ v ∧ (v = 1 ∨ v - 2 < O))) : Ret (D + 2) miX6_sign [aR 6, aI v] σ (some (aI (-2))) σ := by
  refine Ret.of 6 [some (aR 6), some (aI v)] rfl (by decide) rfl (Nat.le_of_ble_eq_true rfl) ?_
  refine vX6_sign 60 ?_
  simp only [↓S_X6_sign, ↓pI_c, ↓pL_c, ↓pR_c, ↓pC_I, ↓pC_R, ↓pE_n, ↓gI_0, ↓gI_s, ↓gL_0, ↓gL_s, ↓gR_0, ↓gR_s, ↓popN_0, ↓popN_s, ↓kl_I, ↓kl_L, ↓kl_R, ↓kl_n, ↓put1_0, ↓put1_s, ↓putk_0, ↓putk_s, ↓put2_0, ↓put2_s, ↓putl_0, ↓putl_s, ↓callK_0, ↓callK_1, ↓callK_2, cats_n, cats_c, catA_I, catA_L, catA_R, KL, LV, lval_f, ltag_f, llen_f, lcm_lt, lcm_le, lcm_gt, lcm_ge, lcm_eq, lcm_R1, lcm_R2, inR, inL, true_and, and_true, eq_self, List.head?_cons, Option.some.injEq, Sum.inr.injEq, Sum.inl.injEq, false_or, or_false, true_or, or_true, Nat.reduceAdd, Nat.reduceLeDiff, Int.reduceLE, Int.reduceLT, Int.reduceEq, Int.reduceNeg, Int.reduceAdd, Int.reduceSub, Int.reduceMul, Int.reduceNe, ne_eq, not_false_eq_true, not_true_eq_false, false_implies, forall_const, Nat.le_refl, Nat.zero_le, implies_true, and_self]
  (repeat' (first | apply And.intro | intro _ | with_reducible refine Exists.intro _ (Exists.intro _ (And.intro op ?_)) | with_reducible refine Exists.intro _ (And.intro op ?_)))
  all_goals (try first | omega | trivial | (rfl; done) | assumption | (exfalso; omega))
set_option maxRecDepth 100000 in
theorem r_X6_sign (D : Nat) (σ : Sg) (v O : Int) (hv : inR v) (h0 : 0 ≤ σ 6 2) (h1 : σ 6 2 ≤ 24) (h3 : 0 ≤ O ∧ O ≤ 24) (op : Ret (D + 1) miX6_open [aR 6] σ (some (aI O)) σ) (h : σ 6 2 < 24 ∧ 1 ≤ v ∧ (v = 1 ∨ v - 2 < O)) : Ret (D + 2) miX6_sign [aR 6, aI v] σ (some (aI (σ 6 2 + 1))) (up (up σ 27 (σ 6 2) v) 6 2 (σ 6 2 + 1)) := by
  have e1 : up σ 27 (σ 6 2) v 6 2 = σ 6 2 := by unfold up; rw [if_neg (by omega)]
  have e2 : up (up σ 27 (σ 6 2) v) 6 2 (σ 6 2 + 1) 6 2 = σ 6 2 + 1 := by unfold up; rw [if_pos ⟨rfl, rfl⟩]
  refine Ret.of 6 [some (aR 6), some (aI v)] rfl (by decide) rfl (Nat.le_of_ble_eq_true rfl) ?_
  refine vX6_sign 60 ?_
  simp only [↓S_X6_sign, ↓pI_c, ↓pL_c, ↓pR_c, ↓pC_I, ↓pC_R, ↓pE_n, ↓gI_0, ↓gI_s, ↓gL_0, ↓gL_s, ↓gR_0, ↓gR_s, ↓popN_0, ↓popN_s, ↓kl_I, ↓kl_L, ↓kl_R, ↓kl_n, ↓put1_0, ↓put1_s, ↓putk_0, ↓putk_s, ↓put2_0, ↓put2_s, ↓putl_0, ↓putl_s, ↓callK_0, ↓callK_1, ↓callK_2, cats_n, cats_c, catA_I, catA_L, catA_R, KL, LV, lval_f, ltag_f, llen_f, lcm_lt, lcm_le, lcm_gt, lcm_ge, lcm_eq, lcm_R1, lcm_R2, inR, inL, true_and, and_true, eq_self, List.head?_cons, Option.some.injEq, Sum.inr.injEq, Sum.inl.injEq, false_or, or_false, true_or, or_true, Nat.reduceAdd, Nat.reduceLeDiff, Int.reduceLE, Int.reduceLT, Int.reduceEq, Int.reduceNeg, Int.reduceAdd, Int.reduceSub, Int.reduceMul, Int.reduceNe, ne_eq, not_false_eq_true, not_true_eq_false, false_implies, forall_const, Nat.le_refl, Nat.zero_le, implies_true, and_self]
  (repeat' (first | apply And.intro | intro _ | with_reducible refine Exists.intro _ (Exists.intro _ (And.intro op ?_)) | with_reducible refine Exists.intro _ (And.intro op ?_)))
  all_goals (try first | omega | trivial | (rfl; done) | assumption | (exfalso; omega) | (simp only [e1, e2]; done) | (simp only [e1, e2]; first | omega | (rfl; done)))
set_option maxRecDepth 100000 in
theorem r_X5_draw_not (D : Nat) (σ : Sg) (h : 0 < σ 3 1) (h3 : σ 3 1 ≤ 24) : Ret (D + 1) miX5_draw [aR 5] σ (some (aI (-3))) σ := by
  refine Ret.of 5 [some (aR 5)] rfl (by decide) rfl (Nat.le_of_ble_eq_true rfl) ?_
  refine vX5_draw 60 ?_
  simp only [↓S_X5_draw, ↓pI_c, ↓pL_c, ↓pR_c, ↓pC_I, ↓pC_R, ↓pE_n, ↓gI_0, ↓gI_s, ↓gL_0, ↓gL_s, ↓gR_0, ↓gR_s, ↓popN_0, ↓popN_s, ↓kl_I, ↓kl_L, ↓kl_R, ↓kl_n, ↓put1_0, ↓put1_s, ↓putk_0, ↓putk_s, ↓put2_0, ↓put2_s, ↓putl_0, ↓putl_s, ↓callK_0, ↓callK_1, ↓callK_2, cats_n, cats_c, catA_I, catA_L, catA_R, KL, LV, lval_f, ltag_f, llen_f, lcm_lt, lcm_le, lcm_gt, lcm_ge, lcm_eq, lcm_R1, lcm_R2, inR, inL, true_and, and_true, eq_self, List.head?_cons, Option.some.injEq, Sum.inr.injEq, Sum.inl.injEq, false_or, or_false, true_or, or_true, Nat.reduceAdd, Nat.reduceLeDiff, Int.reduceLE, Int.reduceLT, Int.reduceEq, Int.reduceNeg, Int.reduceAdd, Int.reduceSub, Int.reduceMul, Int.reduceNe, ne_eq, not_false_eq_true, not_true_eq_false, false_implies, forall_const, Nat.le_refl, Nat.zero_le, implies_true, and_self]
  (repeat' (first | apply And.intro | intro _))
  all_goals (try first | omega | trivial | (rfl; done) | assumption | (exfalso; omega))
set_option maxRecDepth 100000 in
theorem r_X5_draw (D : Nat) (σ : Sg) (n : Nat) (s : Int → Int) (hL : σ 3 0 = n) (hO : σ 3 1 = 0) (h : SI n 0 s (σ 13) (σ 12)) : ∃ τ, Ret (D + 4) miX5_draw [aR 5] σ (some (aI ((n : Int) / 2))) τ ∧ (∀ a b, a ≠ 7 → ¬ (a = 1 ∧ b = 0) → ¬ (a = 3 ∧ b = 0) → τ a b = σ a b) ∧ τ 1 0 = n ∧ τ 3 0 = 0 ∧ WD n (τ 7) ∧ (∀ p, 0 ≤ p → p < 24 → τ 7 p = mkd (σ 13) n p) := by
  have hn := h.1
  obtain ⟨τ, mv, g1, g2, g3, g4⟩ := r_X3_moveTo D σ (by omega) (by omega) (fun i i0 i1 => by
    obtain ⟨j, rfl⟩ := Int.eq_ofNat_of_zero_le i0
    have := (h.2.2.1 j (by omega)).bo
    omega)
  rw [hL] at g2 g4
  rw [show ((n : Int)).toNat = n from by omega] at g4
  have wd0 := mkd_WD (s := s) (bo := σ 13) (L := n) (by omega) (by omega) n (by omega) h.2.2.1
  have wd : WD n (τ 7) := by
    refine ⟨wd0.1, wd0.2.1, fun a a0 a1 => ?_, fun a a0 a1 => ?_⟩
    · rcases wd0.2.2.1 a a0 a1 with q | ⟨q1, q2, q3, q4⟩
      · exact Or.inl (by rw [g4 a a0 (by omega)]; exact q)
      · refine Or.inr ?_
        rw [g4 a a0 (by omega)]
        refine ⟨q1, q2, q3, ?_⟩
        rw [g4 _ q1 (by omega)]
        exact q4
    · rw [g4 a (by omega) a1]
      exact wd0.2.2.2 a a0 a1
  have ch := r_X1_chords (D + 1) τ (by rw [g2]; exact wd)
  rw [g2] at ch
  have e : rs (fun a => if a < τ 7 a then 1 else 0) 0 ((n : Int)).toNat = (n : Int) / 2 := by
    have := (full_iff wd).2 (fun a a0 a1 => by rw [g4 a a0 (by omega)]; exact h.full a a0 a1)
    omega
  rw [e] at ch
  refine ⟨τ, ?_, g1, g2, g3, wd, g4⟩
  refine Ret.of 5 [some (aR 5)] rfl (by decide) rfl (Nat.le_of_ble_eq_true rfl) ?_
  refine vX5_draw 60 ?_
  simp only [↓S_X5_draw, ↓pI_c, ↓pL_c, ↓pR_c, ↓pC_I, ↓pC_R, ↓pE_n, ↓gI_0, ↓gI_s, ↓gL_0, ↓gL_s, ↓gR_0, ↓gR_s, ↓popN_0, ↓popN_s, ↓kl_I, ↓kl_L, ↓kl_R, ↓kl_n, ↓put1_0, ↓put1_s, ↓putk_0, ↓putk_s, ↓put2_0, ↓put2_s, ↓putl_0, ↓putl_s, ↓callK_0, ↓callK_1, ↓callK_2, cats_n, cats_c, catA_I, catA_L, catA_R, KL, LV, lval_f, ltag_f, llen_f, lcm_lt, lcm_le, lcm_gt, lcm_ge, lcm_eq, lcm_R1, lcm_R2, inR, inL, true_and, and_true, eq_self, List.head?_cons, Option.some.injEq, Sum.inr.injEq, Sum.inl.injEq, false_or, or_false, true_or, or_true, Nat.reduceAdd, Nat.reduceLeDiff, Int.reduceLE, Int.reduceLT, Int.reduceEq, Int.reduceNeg, Int.reduceAdd, Int.reduceSub, Int.reduceMul, Int.reduceNe, ne_eq, not_false_eq_true, not_true_eq_false, false_implies, forall_const, Nat.le_refl, Nat.zero_le, implies_true, and_self]
  rw [hO]
  (repeat' (first | apply And.intro | intro _ | with_reducible refine Exists.intro _ (Exists.intro _ (And.intro mv ?_)) | with_reducible refine Exists.intro _ (And.intro mv ?_) | with_reducible refine Exists.intro _ (Exists.intro _ (And.intro ch ?_)) | with_reducible refine Exists.intro _ (And.intro ch ?_)))
  all_goals (try first | omega | trivial | (rfl; done) | assumption | (exfalso; omega))
set_option maxRecDepth 100000 in
theorem r_X6_draw_not (D : Nat) (σ : Sg) (O : Int) (h3 : O ≤ 24) (h : 0 < O) (op : Ret (D + 1) miX6_open [aR 6] σ (some (aI O)) σ) : Ret (D + 2) miX6_draw [aR 6] σ (some (aI (-3))) σ := by
  refine Ret.of 6 [some (aR 6), none, none, none] rfl (by decide) rfl (Nat.le_of_ble_eq_true rfl) ?_
  refine vX6_draw 60 ?_
  simp only [↓S_X6_draw_1, ↓S_X6_draw_2, ↓pI_c, ↓pL_c, ↓pR_c, ↓pC_I, ↓pC_R, ↓pE_n, ↓gI_0, ↓gI_s, ↓gL_0, ↓gL_s, ↓gR_0, ↓gR_s, ↓popN_0, ↓popN_s, ↓kl_I, ↓kl_L, ↓kl_R, ↓kl_n, ↓put1_0, ↓put1_s, ↓putk_0, ↓putk_s, ↓put2_0, ↓put2_s, ↓putl_0, ↓putl_s, ↓callK_0, ↓callK_1, ↓callK_2, cats_n, cats_c, catA_I, catA_L, catA_R, KL, LV, lval_f, ltag_f, llen_f, lcm_lt, lcm_le, lcm_gt, lcm_ge, lcm_eq, lcm_R1, lcm_R2, inR, inL, true_and, and_true, eq_self, List.head?_cons, Option.some.injEq, Sum.inr.injEq, Sum.inl.injEq, false_or, or_false, true_or, or_true, Nat.reduceAdd, Nat.reduceLeDiff, Int.reduceLE, Int.reduceLT, Int.reduceEq, Int.reduceNeg, Int.reduceAdd, Int.reduceSub, Int.reduceMul, Int.reduceNe, ne_eq, not_false_eq_true, not_true_eq_false, false_implies, forall_const, Nat.le_refl, Nat.zero_le, implies_true, and_self]
  (repeat' (first | apply And.intro | intro _ | with_reducible refine Exists.intro _ (Exists.intro _ (And.intro op ?_)) | with_reducible refine Exists.intro _ (And.intro op ?_)))
  all_goals (try first | omega | trivial | (rfl; done) | assumption | (exfalso; omega))
set_option maxRecDepth 100000 in
theorem r_X6_draw (D : Nat) (σ : Sg) (n : Nat) (bo bg : Int → Int) (hL : σ 6 2 = n) (h : SI n 0 (σ 27) bo bg) (op : Ret (D + 1) miX6_open [aR 6] σ (some (aI 0)) σ) : ∃ τ, Ret (D + 2) miX6_draw [aR 6] σ (some (aI ((n : Int) / 2))) τ ∧ (∀ a b, a ≠ 26 → ¬ (a = 6 ∧ b = 0) → ¬ (a = 6 ∧ b = 2) → τ a b = σ a b) ∧ τ 6 0 = n ∧ τ 6 2 = 0 ∧ (∀ p, 0 ≤ p → p < 24 → τ 26 p = mkd bo n p) := by
  have hn := h.1
  have hSr := h.2.2.1
  have inner : ∀ (r : Option AV) (τ χ : Sg) (j : Nat), j < n → (∀ a b, a ≠ 26 → ¬ (a = 6 ∧ b = 0) → χ a b = σ a b) → (∀ p, 0 ≤ p → p < 24 → χ 26 p = mkd bo j p) → 2 ≤ σ 27 j → V (D + 1) miX6_draw 6 r τ 20 [some (aR 6), some (aI ((j : Int) + 1)), none, none] [] (up (up χ 26 (bo j) j) 26 j (bo j)) → ∀ (k : Nat) (a sk : Int), a < j → a = bo j + k → sk = rs (opn (σ 27) bo j) (bo j + 1) k → V (D + 1) miX6_draw 6 r τ 51 [some (aR 6), some (aI j), some (aI sk), some (aI a)] [] χ := by
    intro r τ χ j hj hf h26 hs2 t k
    rcases hSr j hj with q | ⟨s1, s2, s3, s4, s5, s6, s7⟩
    · omega
    induction k with
    | zero =>
      intro a sk a1 a2 hsk
      have ea : a = bo j := by omega
      subst ea
      have hsk : sk = 0 := hsk
      subst hsk
      have e27 : χ 27 (bo j) = 1 := by rw [hf 27 _ (by omega) (by omega)]; exact s5
      have e26 : χ 26 (bo j) = -1 := by rw [h26 _ s3 (by omega)]; exact s6
      have ti := r_X6_tie D χ (bo j) j s3 (by omega) (by omega) (by omega)
      refine vX6_draw 60 ?_
      simp only [↓S_X6_draw_1, ↓S_X6_draw_2, ↓pI_c, ↓pL_c, ↓pR_c, ↓pC_I, ↓pC_R, ↓pE_n, ↓gI_0, ↓gI_s, ↓gL_0, ↓gL_s, ↓gR_0, ↓gR_s, ↓popN_0, ↓popN_s, ↓kl_I, ↓kl_L, ↓kl_R, ↓kl_n, ↓put1_0, ↓put1_s, ↓putk_0, ↓putk_s, ↓put2_0, ↓put2_s, ↓putl_0, ↓putl_s, ↓callK_0, ↓callK_1, ↓callK_2, cats_n, cats_c, catA_I, catA_L, catA_R, KL, LV, lval_f, ltag_f, llen_f, lcm_lt, lcm_le, lcm_gt, lcm_ge, lcm_eq, lcm_R1, lcm_R2, inR, inL, true_and, and_true, eq_self, List.head?_cons, Option.some.injEq, Sum.inr.injEq, Sum.inl.injEq, false_or, or_false, true_or, or_true, Nat.reduceAdd, Nat.reduceLeDiff, Int.reduceLE, Int.reduceLT, Int.reduceEq, Int.reduceNeg, Int.reduceAdd, Int.reduceSub, Int.reduceMul, Int.reduceNe, ne_eq, not_false_eq_true, not_true_eq_false, false_implies, forall_const, Nat.le_refl, Nat.zero_le, implies_true, and_self]
      rw [e27, e26]
      (repeat' (first | apply And.intro | intro _ | with_reducible refine Exists.intro _ (Exists.intro _ (And.intro ti ?_)) | with_reducible refine Exists.intro _ (And.intro ti ?_)))
      all_goals (try first | omega | trivial | (rfl; done) | assumption | (exfalso; omega) | (exact t) | (refine V.wk t ?_; simp [lle]; done))
    | succ k ih =>
      intro a sk a1 a2 hsk
      rw [rs_last, show bo j + 1 + (k : Int) = a from by omega] at hsk
      have e27 : χ 27 a = σ 27 a := hf 27 _ (by omega) (by omega)
      have e26 : χ 26 a = mkd bo j a := h26 _ (by omega) (by omega)
      have hrs := rs_01 (f := opn (σ 27) bo j) k (bo j + 1) (fun j' _ _ => opn_01 _ _ _ _)
      have ha : 1 ≤ σ 27 a ∧ σ 27 a ≤ 25 := by
        obtain ⟨i, rfl⟩ := Int.eq_ofNat_of_zero_le (show 0 ≤ a by omega)
        rcases hSr i (by omega) with q | q <;> omega
      have hm : -1 ≤ mkd bo j a ∧ mkd bo j a < 24 := by
        have wd := mkd_WD (s := σ 27) (bo := bo) (L := 24) (by omega) (by omega) j (by omega) (fun i hi => hSr i (by omega))
        exact wd.r (by omega) (by omega)
      have t2 := ih (a - 1) (rs (opn (σ 27) bo j) (bo j + 1) k) (by omega) (by omega) rfl
      unfold opn at hsk
      by_cases c : σ 27 a = 1 ∧ mkd bo j a = -1
      · rw [if_pos c] at hsk
        change sk = rs (opn (σ 27) bo j) (bo j + 1) k + 1 at hsk
        generalize rs (opn (σ 27) bo j) (bo j + 1) k = S at *
        subst hsk
        have e1 : S + 1 - 1 = S := by omega
        have e2 : a + -1 = a - 1 := by omega
        refine vX6_draw 60 ?_
        simp only [↓S_X6_draw_1, ↓S_X6_draw_2, ↓pI_c, ↓pL_c, ↓pR_c, ↓pC_I, ↓pC_R, ↓pE_n, ↓gI_0, ↓gI_s, ↓gL_0, ↓gL_s, ↓gR_0, ↓gR_s, ↓popN_0, ↓popN_s, ↓kl_I, ↓kl_L, ↓kl_R, ↓kl_n, ↓put1_0, ↓put1_s, ↓putk_0, ↓putk_s, ↓put2_0, ↓put2_s, ↓putl_0, ↓putl_s, ↓callK_0, ↓callK_1, ↓callK_2, cats_n, cats_c, catA_I, catA_L, catA_R, KL, LV, lval_f, ltag_f, llen_f, lcm_lt, lcm_le, lcm_gt, lcm_ge, lcm_eq, lcm_R1, lcm_R2, inR, inL, true_and, and_true, eq_self, List.head?_cons, Option.some.injEq, Sum.inr.injEq, Sum.inl.injEq, false_or, or_false, true_or, or_true, Nat.reduceAdd, Nat.reduceLeDiff, Int.reduceLE, Int.reduceLT, Int.reduceEq, Int.reduceNeg, Int.reduceAdd, Int.reduceSub, Int.reduceMul, Int.reduceNe, ne_eq, not_false_eq_true, not_true_eq_false, false_implies, forall_const, Nat.le_refl, Nat.zero_le, implies_true, and_self]
        rw [e27, e26, e1, e2]
        (repeat' (first | apply And.intro | intro _))
        all_goals (try first | omega | trivial | (rfl; done) | assumption | (exfalso; omega) | (exact t2) | (refine V.wk t2 ?_; simp [lle]; done))
      · rw [if_neg c] at hsk
        change sk = rs (opn (σ 27) bo j) (bo j + 1) k + 0 at hsk
        generalize rs (opn (σ 27) bo j) (bo j + 1) k = S at *
        have hsk2 : sk = S := by omega
        subst hsk2
        have e1 : sk - 0 = sk := by omega
        have e2 : a + -1 = a - 1 := by omega
        refine vX6_draw 60 ?_
        simp only [↓S_X6_draw_1, ↓S_X6_draw_2, ↓pI_c, ↓pL_c, ↓pR_c, ↓pC_I, ↓pC_R, ↓pE_n, ↓gI_0, ↓gI_s, ↓gL_0, ↓gL_s, ↓gR_0, ↓gR_s, ↓popN_0, ↓popN_s, ↓kl_I, ↓kl_L, ↓kl_R, ↓kl_n, ↓put1_0, ↓put1_s, ↓putk_0, ↓putk_s, ↓put2_0, ↓put2_s, ↓putl_0, ↓putl_s, ↓callK_0, ↓callK_1, ↓callK_2, cats_n, cats_c, catA_I, catA_L, catA_R, KL, LV, lval_f, ltag_f, llen_f, lcm_lt, lcm_le, lcm_gt, lcm_ge, lcm_eq, lcm_R1, lcm_R2, inR, inL, true_and, and_true, eq_self, List.head?_cons, Option.some.injEq, Sum.inr.injEq, Sum.inl.injEq, false_or, or_false, true_or, or_true, Nat.reduceAdd, Nat.reduceLeDiff, Int.reduceLE, Int.reduceLT, Int.reduceEq, Int.reduceNeg, Int.reduceAdd, Int.reduceSub, Int.reduceMul, Int.reduceNe, ne_eq, not_false_eq_true, not_true_eq_false, false_implies, forall_const, Nat.le_refl, Nat.zero_le, implies_true, and_self]
        rw [e27, e26, e1, e2]
        (repeat' (first | apply And.intro | intro _))
        all_goals (try first | omega | trivial | (rfl; done) | assumption | (exfalso; omega) | (exact t2) | (refine V.wk t2 ?_; simp [lle]; done))
  have loop : ∀ (k j : Nat) (χ : Sg), j + k = n → (∀ a b, a ≠ 26 → ¬ (a = 6 ∧ b = 0) → χ a b = σ a b) → χ 6 0 = n → (∀ p, 0 ≤ p → p < 24 → χ 26 p = mkd bo j p) → ∃ τ, V (D + 1) miX6_draw 6 (some (aI ((n : Int) / 2))) τ 20 [some (aR 6), some (aI j), none, none] [] χ ∧ (∀ a b, a ≠ 26 → ¬ (a = 6 ∧ b = 0) → ¬ (a = 6 ∧ b = 2) → τ a b = σ a b) ∧ τ 6 0 = n ∧ τ 6 2 = 0 ∧ (∀ p, 0 ≤ p → p < 24 → τ 26 p = mkd bo n p) := by
    intro k
    induction k with
    | zero =>
      intro j χ jk hf c1 h26
      have ej : j = n := by omega
      subst ej
      have e2 : χ 6 2 = j := by rw [hf 6 2 (by omega) (by omega)]; exact hL
      have e0 : up χ 6 2 0 6 0 = j := by unfold up; rw [if_neg (by omega)]; exact c1
      refine ⟨up χ 6 2 0, ?_, fun a b a1 a2 a3 => by unfold up; rw [if_neg a3]; exact hf a b a1 a2, e0, by unfold up; rw [if_pos ⟨rfl, rfl⟩], fun p p0 p1 => by unfold up; rw [if_neg (by omega)]; exact h26 p p0 p1⟩
      have ed : ((j : Int)).tdiv 2 = (j : Int) / 2 := Int.tdiv_eq_ediv_of_nonneg (by omega)
      refine vX6_draw 60 ?_
      simp only [↓S_X6_draw_1, ↓S_X6_draw_2, ↓pI_c, ↓pL_c, ↓pR_c, ↓pC_I, ↓pC_R, ↓pE_n, ↓gI_0, ↓gI_s, ↓gL_0, ↓gL_s, ↓gR_0, ↓gR_s, ↓popN_0, ↓popN_s, ↓kl_I, ↓kl_L, ↓kl_R, ↓kl_n, ↓put1_0, ↓put1_s, ↓putk_0, ↓putk_s, ↓put2_0, ↓put2_s, ↓putl_0, ↓putl_s, ↓callK_0, ↓callK_1, ↓callK_2, cats_n, cats_c, catA_I, catA_L, catA_R, KL, LV, lval_f, ltag_f, llen_f, lcm_lt, lcm_le, lcm_gt, lcm_ge, lcm_eq, lcm_R1, lcm_R2, inR, inL, true_and, and_true, eq_self, List.head?_cons, Option.some.injEq, Sum.inr.injEq, Sum.inl.injEq, false_or, or_false, true_or, or_true, Nat.reduceAdd, Nat.reduceLeDiff, Int.reduceLE, Int.reduceLT, Int.reduceEq, Int.reduceNeg, Int.reduceAdd, Int.reduceSub, Int.reduceMul, Int.reduceNe, ne_eq, not_false_eq_true, not_true_eq_false, false_implies, forall_const, Nat.le_refl, Nat.zero_le, implies_true, and_self]
      rw [e2, e0, ed]
      (repeat' (first | apply And.intro | intro _))
      all_goals (try first | omega | trivial | (rfl; done) | assumption | (exfalso; omega))
    | succ k ih =>
      intro j χ jk hf c1 h26
      have e2 : χ 6 2 = n := by rw [hf 6 2 (by omega) (by omega)]; exact hL
      have e27 : χ 27 j = σ 27 j := hf 27 _ (by omega) (by omega)
      have ej : ((j + 1 : Nat) : Int) = (j : Int) + 1 := by omega
      rcases hSr j (by omega) with q | ⟨s1, s2, s3, s4, s5, s6, s7⟩
      · obtain ⟨τ, t, tr⟩ := ih (j + 1) χ (by omega) hf c1 (fun p p0 p1 => by rw [mkd_s, if_pos q.2]; exact h26 p p0 p1)
        rw [ej] at t
        refine ⟨τ, ?_, tr⟩
        have q1 := q.1
        refine vX6_draw 60 ?_
        simp only [↓S_X6_draw_1, ↓S_X6_draw_2, ↓pI_c, ↓pL_c, ↓pR_c, ↓pC_I, ↓pC_R, ↓pE_n, ↓gI_0, ↓gI_s, ↓gL_0, ↓gL_s, ↓gR_0, ↓gR_s, ↓popN_0, ↓popN_s, ↓kl_I, ↓kl_L, ↓kl_R, ↓kl_n, ↓put1_0, ↓put1_s, ↓putk_0, ↓putk_s, ↓put2_0, ↓put2_s, ↓putl_0, ↓putl_s, ↓callK_0, ↓callK_1, ↓callK_2, cats_n, cats_c, catA_I, catA_L, catA_R, KL, LV, lval_f, ltag_f, llen_f, lcm_lt, lcm_le, lcm_gt, lcm_ge, lcm_eq, lcm_R1, lcm_R2, inR, inL, true_and, and_true, eq_self, List.head?_cons, Option.some.injEq, Sum.inr.injEq, Sum.inl.injEq, false_or, or_false, true_or, or_true, Nat.reduceAdd, Nat.reduceLeDiff, Int.reduceLE, Int.reduceLT, Int.reduceEq, Int.reduceNeg, Int.reduceAdd, Int.reduceSub, Int.reduceMul, Int.reduceNe, ne_eq, not_false_eq_true, not_true_eq_false, false_implies, forall_const, Nat.le_refl, Nat.zero_le, implies_true, and_self]
        rw [e2, e27]
        (repeat' (first | apply And.intro | intro _))
        all_goals (try first | omega | trivial | (rfl; done) | assumption | (exfalso; omega) | (exact t) | (refine V.wk t ?_; simp [lle]; done))
      · have u26 := up_lk2 χ 26 (bo j) j
        obtain ⟨τ, t, tr⟩ := ih (j + 1) (up (up χ 26 (bo j) j) 26 j (bo j)) (by omega) (fun a b a1 a2 => by unfold up; rw [if_neg (by omega), if_neg (by omega)]; exact hf a b a1 a2) (by unfold up; rw [if_neg (by omega), if_neg (by omega)]; exact c1) (fun p p0 p1 => by
          rw [u26, mkd_s, if_neg (by omega)]
          unfold lk2
          by_cases q : p = (j : Int)
          · rw [if_pos q, if_pos q]
          · rw [if_neg q, if_neg q]
            by_cases q2 : p = bo j
            · rw [if_pos q2, if_pos q2]
            · rw [if_neg q2, if_neg q2]
              exact h26 p p0 p1)
        rw [ej] at t
        refine ⟨τ, ?_, tr⟩
        have t2 := inner _ τ χ j (by omega) hf h26 (by omega) t ((j : Int) - (bo j + 1)).toNat ((j : Int) - 1) (σ 27 j - 2) (by omega) (by omega) s7.symm
        refine vX6_draw 60 ?_
        simp only [↓S_X6_draw_1, ↓S_X6_draw_2, ↓pI_c, ↓pL_c, ↓pR_c, ↓pC_I, ↓pC_R, ↓pE_n, ↓gI_0, ↓gI_s, ↓gL_0, ↓gL_s, ↓gR_0, ↓gR_s, ↓popN_0, ↓popN_s, ↓kl_I, ↓kl_L, ↓kl_R, ↓kl_n, ↓put1_0, ↓put1_s, ↓putk_0, ↓putk_s, ↓put2_0, ↓put2_s, ↓putl_0, ↓putl_s, ↓callK_0, ↓callK_1, ↓callK_2, cats_n, cats_c, catA_I, catA_L, catA_R, KL, LV, lval_f, ltag_f, llen_f, lcm_lt, lcm_le, lcm_gt, lcm_ge, lcm_eq, lcm_R1, lcm_R2, inR, inL, true_and, and_true, eq_self, List.head?_cons, Option.some.injEq, Sum.inr.injEq, Sum.inl.injEq, false_or, or_false, true_or, or_true, Nat.reduceAdd, Nat.reduceLeDiff, Int.reduceLE, Int.reduceLT, Int.reduceEq, Int.reduceNeg, Int.reduceAdd, Int.reduceSub, Int.reduceMul, Int.reduceNe, ne_eq, not_false_eq_true, not_true_eq_false, false_implies, forall_const, Nat.le_refl, Nat.zero_le, implies_true, and_self]
        rw [e2, e27]
        (repeat' (first | apply And.intro | intro _))
        all_goals (try first | omega | trivial | (rfl; done) | assumption | (exfalso; omega) | (exact t2) | (refine V.wk t2 ?_; simp [lle]; done))
  have cl : Ret (D + 1) miX6_clear [aR 6, aI (σ 6 2)] σ none (ff (up σ 6 0 n) 26 0 24 (-1)) := by
    rw [hL]
    exact r_X6_clear D σ (n : Int)
  obtain ⟨τ, t, tr⟩ := loop n 0 (ff (up σ 6 0 n) 26 0 24 (-1)) (by omega) (fun a b a1 a2 => by unfold ff up; rw [if_neg (fun z => a1 z.1), if_neg a2]) (by unfold ff up; rw [if_neg (by omega), if_pos (by omega)]) (fun p p0 p1 => by unfold ff; rw [if_pos ⟨rfl, p0, p1⟩]; rfl)
  refine ⟨τ, ?_, tr⟩
  refine Ret.of 6 [some (aR 6), none, none, none] rfl (by decide) rfl (Nat.le_of_ble_eq_true rfl) ?_
  refine vX6_draw 60 ?_
  simp only [↓S_X6_draw_1, ↓S_X6_draw_2, ↓pI_c, ↓pL_c, ↓pR_c, ↓pC_I, ↓pC_R, ↓pE_n, ↓gI_0, ↓gI_s, ↓gL_0, ↓gL_s, ↓gR_0, ↓gR_s, ↓popN_0, ↓popN_s, ↓kl_I, ↓kl_L, ↓kl_R, ↓kl_n, ↓put1_0, ↓put1_s, ↓putk_0, ↓putk_s, ↓put2_0, ↓put2_s, ↓putl_0, ↓putl_s, ↓callK_0, ↓callK_1, ↓callK_2, cats_n, cats_c, catA_I, catA_L, catA_R, KL, LV, lval_f, ltag_f, llen_f, lcm_lt, lcm_le, lcm_gt, lcm_ge, lcm_eq, lcm_R1, lcm_R2, inR, inL, true_and, and_true, eq_self, List.head?_cons, Option.some.injEq, Sum.inr.injEq, Sum.inl.injEq, false_or, or_false, true_or, or_true, Nat.reduceAdd, Nat.reduceLeDiff, Int.reduceLE, Int.reduceLT, Int.reduceEq, Int.reduceNeg, Int.reduceAdd, Int.reduceSub, Int.reduceMul, Int.reduceNe, ne_eq, not_false_eq_true, not_true_eq_false, false_implies, forall_const, Nat.le_refl, Nat.zero_le, implies_true, and_self]
  (repeat' (first | apply And.intro | intro _ | with_reducible refine Exists.intro _ (Exists.intro _ (And.intro op ?_)) | with_reducible refine Exists.intro _ (And.intro op ?_) | with_reducible refine Exists.intro _ (Exists.intro _ (And.intro cl ?_)) | with_reducible refine Exists.intro _ (And.intro cl ?_)))
  all_goals (try first | omega | trivial | (rfl; done) | assumption | (exfalso; omega) | (exact t) | (refine V.wk t ?_; simp [lle]; done))

/-! calls without loops: join, part -/
set_option maxRecDepth 100000 in
theorem r_X6_join (D : Nat) (σ : Sg) (a b : Int) (h : inR a) (h2 : inR b) (hw : WD (σ 6 0) (σ 26)) :
    (¬ (0 ≤ a ∧ a < σ 6 0 ∧ 0 ≤ b ∧ b < σ 6 0 ∧ a ≠ b) ∧ Ret (D + 3) miX6_join [aR 6, aI a, aI b] σ (some (aI (-2))) σ) ∨ ((0 ≤ a ∧ a < σ 6 0 ∧ 0 ≤ b ∧ b < σ 6 0 ∧ a ≠ b) ∧ ((¬ (σ 26 a = -1 ∧ σ 26 b = -1) ∧ Ret (D + 3) miX6_join [aR 6, aI a, aI b] σ (some (aI (-3))) σ) ∨ ((σ 26 a = -1 ∧ σ 26 b = -1) ∧ Ret (D + 3) miX6_join [aR 6, aI a, aI b] σ (some (aI (rs (fun c => if c < lk2 (σ 26) a b c then 1 else 0) 0 (σ 6 0).toNat))) (up (up σ 26 a b) 26 b a)))) := by
  have w1 := hw.1
  have w2 := hw.2.1
  have ia := r_X6_isPoint D σ a h w1 w2
  have ib := r_X6_isPoint D σ b h2 w1 w2
  by_cases c1 : 0 ≤ a ∧ a < σ 6 0
  · rw [if_pos c1] at ia
    by_cases c2 : 0 ≤ b ∧ b < σ 6 0
    · rw [if_pos c2] at ib
      by_cases c3 : a = b
      · refine Or.inl ⟨by omega, ?_⟩
        refine Ret.of 6 [some (aR 6), some (aI a), some (aI b)] rfl (by decide) rfl (Nat.le_of_ble_eq_true rfl) ?_
        refine vX6_join 60 ?_
        simp only [↓S_X6_join, ↓pI_c, ↓pL_c, ↓pR_c, ↓pC_I, ↓pC_R, ↓pE_n, ↓gI_0, ↓gI_s, ↓gL_0, ↓gL_s, ↓gR_0, ↓gR_s, ↓popN_0, ↓popN_s, ↓kl_I, ↓kl_L, ↓kl_R, ↓kl_n, ↓put1_0, ↓put1_s, ↓putk_0, ↓putk_s, ↓put2_0, ↓put2_s, ↓putl_0, ↓putl_s, ↓callK_0, ↓callK_1, ↓callK_2, cats_n, cats_c, catA_I, catA_L, catA_R, KL, LV, lval_f, ltag_f, llen_f, lcm_lt, lcm_le, lcm_gt, lcm_ge, lcm_eq, lcm_R1, lcm_R2, inR, inL, true_and, and_true, eq_self, List.head?_cons, Option.some.injEq, Sum.inr.injEq, Sum.inl.injEq, false_or, or_false, true_or, or_true, Nat.reduceAdd, Nat.reduceLeDiff, Int.reduceLE, Int.reduceLT, Int.reduceEq, Int.reduceNeg, Int.reduceAdd, Int.reduceSub, Int.reduceMul, Int.reduceNe, ne_eq, not_false_eq_true, not_true_eq_false, false_implies, forall_const, Nat.le_refl, Nat.zero_le, implies_true, and_self]
        (repeat' (first | apply And.intro | intro _ | with_reducible refine Exists.intro _ (Exists.intro _ (And.intro ia ?_)) | with_reducible refine Exists.intro _ (And.intro ia ?_) | with_reducible refine Exists.intro _ (Exists.intro _ (And.intro ib ?_)) | with_reducible refine Exists.intro _ (And.intro ib ?_)))
        all_goals (try first | omega | trivial | (rfl; done) | assumption | (exfalso; omega))
      · refine Or.inr ⟨⟨c1.1, c1.2, c2.1, c2.2, c3⟩, ?_⟩
        have ra := hw.r c1.1 (show a < 24 by omega)
        have rb := hw.r c2.1 (show b < 24 by omega)
        by_cases c4 : σ 26 a = -1 ∧ σ 26 b = -1
        · refine Or.inr ⟨c4, ?_⟩
          have ti := r_X6_tie (D + 1) σ a b c1.1 (by omega) c2.1 (by omega)
          have u26 := up_lk2 σ 26 a b
          have u6 : (up (up σ 26 a b) 26 b a) 6 0 = σ 6 0 := by unfold up; rw [if_neg (by omega), if_neg (by omega)]
          have ch := r_X6_chords D (up (up σ 26 a b) 26 b a) (by rw [u26, u6]; exact hw.link c1.1 c1.2 c2.1 c2.2 c3 c4.1 c4.2)
          rw [u26, u6] at ch
          refine Ret.of 6 [some (aR 6), some (aI a), some (aI b)] rfl (by decide) rfl (Nat.le_of_ble_eq_true rfl) ?_
          refine vX6_join 60 ?_
          simp only [↓S_X6_join, ↓pI_c, ↓pL_c, ↓pR_c, ↓pC_I, ↓pC_R, ↓pE_n, ↓gI_0, ↓gI_s, ↓gL_0, ↓gL_s, ↓gR_0, ↓gR_s, ↓popN_0, ↓popN_s, ↓kl_I, ↓kl_L, ↓kl_R, ↓kl_n, ↓put1_0, ↓put1_s, ↓putk_0, ↓putk_s, ↓put2_0, ↓put2_s, ↓putl_0, ↓putl_s, ↓callK_0, ↓callK_1, ↓callK_2, cats_n, cats_c, catA_I, catA_L, catA_R, KL, LV, lval_f, ltag_f, llen_f, lcm_lt, lcm_le, lcm_gt, lcm_ge, lcm_eq, lcm_R1, lcm_R2, inR, inL, true_and, and_true, eq_self, List.head?_cons, Option.some.injEq, Sum.inr.injEq, Sum.inl.injEq, false_or, or_false, true_or, or_true, Nat.reduceAdd, Nat.reduceLeDiff, Int.reduceLE, Int.reduceLT, Int.reduceEq, Int.reduceNeg, Int.reduceAdd, Int.reduceSub, Int.reduceMul, Int.reduceNe, ne_eq, not_false_eq_true, not_true_eq_false, false_implies, forall_const, Nat.le_refl, Nat.zero_le, implies_true, and_self]
          (repeat' (first | apply And.intro | intro _ | with_reducible refine Exists.intro _ (Exists.intro _ (And.intro ia ?_)) | with_reducible refine Exists.intro _ (And.intro ia ?_) | with_reducible refine Exists.intro _ (Exists.intro _ (And.intro ib ?_)) | with_reducible refine Exists.intro _ (And.intro ib ?_) | with_reducible refine Exists.intro _ (Exists.intro _ (And.intro ti ?_)) | with_reducible refine Exists.intro _ (And.intro ti ?_) | with_reducible refine Exists.intro _ (Exists.intro _ (And.intro ch ?_)) | with_reducible refine Exists.intro _ (And.intro ch ?_)))
          all_goals (try first | omega | trivial | (rfl; done) | assumption | (exfalso; omega))
        · refine Or.inl ⟨c4, ?_⟩
          refine Ret.of 6 [some (aR 6), some (aI a), some (aI b)] rfl (by decide) rfl (Nat.le_of_ble_eq_true rfl) ?_
          refine vX6_join 60 ?_
          simp only [↓S_X6_join, ↓pI_c, ↓pL_c, ↓pR_c, ↓pC_I, ↓pC_R, ↓pE_n, ↓gI_0, ↓gI_s, ↓gL_0, ↓gL_s, ↓gR_0, ↓gR_s, ↓popN_0, ↓popN_s, ↓kl_I, ↓kl_L, ↓kl_R, ↓kl_n, ↓put1_0, ↓put1_s, ↓putk_0, ↓putk_s, ↓put2_0, ↓put2_s, ↓putl_0, ↓putl_s, ↓callK_0, ↓callK_1, ↓callK_2, cats_n, cats_c, catA_I, catA_L, catA_R, KL, LV, lval_f, ltag_f, llen_f, lcm_lt, lcm_le, lcm_gt, lcm_ge, lcm_eq, lcm_R1, lcm_R2, inR, inL, true_and, and_true, eq_self, List.head?_cons, Option.some.injEq, Sum.inr.injEq, Sum.inl.injEq, false_or, or_false, true_or, or_true, Nat.reduceAdd, Nat.reduceLeDiff, Int.reduceLE, Int.reduceLT, Int.reduceEq, Int.reduceNeg, Int.reduceAdd, Int.reduceSub, Int.reduceMul, Int.reduceNe, ne_eq, not_false_eq_true, not_true_eq_false, false_implies, forall_const, Nat.le_refl, Nat.zero_le, implies_true, and_self]
          (repeat' (first | apply And.intro | intro _ | with_reducible refine Exists.intro _ (Exists.intro _ (And.intro ia ?_)) | with_reducible refine Exists.intro _ (And.intro ia ?_) | with_reducible refine Exists.intro _ (Exists.intro _ (And.intro ib ?_)) | with_reducible refine Exists.intro _ (And.intro ib ?_)))
          all_goals (try first | omega | trivial | (rfl; done) | assumption | (exfalso; omega))
    · rw [if_neg c2] at ib
      refine Or.inl ⟨by omega, ?_⟩
      refine Ret.of 6 [some (aR 6), some (aI a), some (aI b)] rfl (by decide) rfl (Nat.le_of_ble_eq_true rfl) ?_
      refine vX6_join 60 ?_
      simp only [↓S_X6_join, ↓pI_c, ↓pL_c, ↓pR_c, ↓pC_I, ↓pC_R, ↓pE_n, ↓gI_0, ↓gI_s, ↓gL_0, ↓gL_s, ↓gR_0, ↓gR_s, ↓popN_0, ↓popN_s, ↓kl_I, ↓kl_L, ↓kl_R, ↓kl_n, ↓put1_0, ↓put1_s, ↓putk_0, ↓putk_s, ↓put2_0, ↓put2_s, ↓putl_0, ↓putl_s, ↓callK_0, ↓callK_1, ↓callK_2, cats_n, cats_c, catA_I, catA_L, catA_R, KL, LV, lval_f, ltag_f, llen_f, lcm_lt, lcm_le, lcm_gt, lcm_ge, lcm_eq, lcm_R1, lcm_R2, inR, inL, true_and, and_true, eq_self, List.head?_cons, Option.some.injEq, Sum.inr.injEq, Sum.inl.injEq, false_or, or_false, true_or, or_true, Nat.reduceAdd, Nat.reduceLeDiff, Int.reduceLE, Int.reduceLT, Int.reduceEq, Int.reduceNeg, Int.reduceAdd, Int.reduceSub, Int.reduceMul, Int.reduceNe, ne_eq, not_false_eq_true, not_true_eq_false, false_implies, forall_const, Nat.le_refl, Nat.zero_le, implies_true, and_self]
      (repeat' (first | apply And.intro | intro _ | with_reducible refine Exists.intro _ (Exists.intro _ (And.intro ia ?_)) | with_reducible refine Exists.intro _ (And.intro ia ?_) | with_reducible refine Exists.intro _ (Exists.intro _ (And.intro ib ?_)) | with_reducible refine Exists.intro _ (And.intro ib ?_)))
      all_goals (try first | omega | trivial | (rfl; done) | assumption | (exfalso; omega))
  · rw [if_neg c1] at ia
    refine Or.inl ⟨by omega, ?_⟩
    refine Ret.of 6 [some (aR 6), some (aI a), some (aI b)] rfl (by decide) rfl (Nat.le_of_ble_eq_true rfl) ?_
    refine vX6_join 60 ?_
    simp only [↓S_X6_join, ↓pI_c, ↓pL_c, ↓pR_c, ↓pC_I, ↓pC_R, ↓pE_n, ↓gI_0, ↓gI_s, ↓gL_0, ↓gL_s, ↓gR_0, ↓gR_s, ↓popN_0, ↓popN_s, ↓kl_I, ↓kl_L, ↓kl_R, ↓kl_n, ↓put1_0, ↓put1_s, ↓putk_0, ↓putk_s, ↓put2_0, ↓put2_s, ↓putl_0, ↓putl_s, ↓callK_0, ↓callK_1, ↓callK_2, cats_n, cats_c, catA_I, catA_L, catA_R, KL, LV, lval_f, ltag_f, llen_f, lcm_lt, lcm_le, lcm_gt, lcm_ge, lcm_eq, lcm_R1, lcm_R2, inR, inL, true_and, and_true, eq_self, List.head?_cons, Option.some.injEq, Sum.inr.injEq, Sum.inl.injEq, false_or, or_false, true_or, or_true, Nat.reduceAdd, Nat.reduceLeDiff, Int.reduceLE, Int.reduceLT, Int.reduceEq, Int.reduceNeg, Int.reduceAdd, Int.reduceSub, Int.reduceMul, Int.reduceNe, ne_eq, not_false_eq_true, not_true_eq_false, false_implies, forall_const, Nat.le_refl, Nat.zero_le, implies_true, and_self]
    (repeat' (first | apply And.intro | intro _ | with_reducible refine Exists.intro _ (Exists.intro _ (And.intro ia ?_)) | with_reducible refine Exists.intro _ (And.intro ia ?_) | with_reducible refine Exists.intro _ (Exists.intro _ (And.intro ib ?_)) | with_reducible refine Exists.intro _ (And.intro ib ?_)))
    all_goals (try first | omega | trivial | (rfl; done) | assumption | (exfalso; omega))
set_option maxRecDepth 100000 in
theorem r_X5_join (D : Nat) (σ : Sg) (a b : Int) (h : inR a) (h2 : inR b) (hw : WD (σ 1 0) (σ 7)) :
    (¬ (0 ≤ a ∧ a < σ 1 0 ∧ 0 ≤ b ∧ b < σ 1 0 ∧ a ≠ b) ∧ Ret (D + 3) miX5_join [aR 5, aI a, aI b] σ (some (aI (-2))) σ) ∨ ((0 ≤ a ∧ a < σ 1 0 ∧ 0 ≤ b ∧ b < σ 1 0 ∧ a ≠ b) ∧ ((¬ (σ 7 a = -1 ∧ σ 7 b = -1) ∧ Ret (D + 3) miX5_join [aR 5, aI a, aI b] σ (some (aI (-3))) σ) ∨ ((σ 7 a = -1 ∧ σ 7 b = -1) ∧ Ret (D + 3) miX5_join [aR 5, aI a, aI b] σ (some (aI (rs (fun c => if c < lk2 (σ 7) a b c then 1 else 0) 0 (σ 1 0).toNat))) (up (up σ 7 a b) 7 b a)))) := by
  have w1 := hw.1
  have w2 := hw.2.1
  have ia := r_X1_hasPoint (D + 1) σ a h (by unfold inR; omega)
  have ib := r_X1_hasPoint (D + 1) σ b h2 (by unfold inR; omega)
  by_cases c1 : 0 ≤ a ∧ a < σ 1 0
  · rw [if_pos c1] at ia
    by_cases c2 : 0 ≤ b ∧ b < σ 1 0
    · rw [if_pos c2] at ib
      by_cases c3 : a = b
      · refine Or.inl ⟨by omega, ?_⟩
        refine Ret.of 5 [some (aR 5), some (aI a), some (aI b)] rfl (by decide) rfl (Nat.le_of_ble_eq_true rfl) ?_
        refine vX5_join 60 ?_
        simp only [↓S_X5_join, ↓pI_c, ↓pL_c, ↓pR_c, ↓pC_I, ↓pC_R, ↓pE_n, ↓gI_0, ↓gI_s, ↓gL_0, ↓gL_s, ↓gR_0, ↓gR_s, ↓popN_0, ↓popN_s, ↓kl_I, ↓kl_L, ↓kl_R, ↓kl_n, ↓put1_0, ↓put1_s, ↓putk_0, ↓putk_s, ↓put2_0, ↓put2_s, ↓putl_0, ↓putl_s, ↓callK_0, ↓callK_1, ↓callK_2, cats_n, cats_c, catA_I, catA_L, catA_R, KL, LV, lval_f, ltag_f, llen_f, lcm_lt, lcm_le, lcm_gt, lcm_ge, lcm_eq, lcm_R1, lcm_R2, inR, inL, true_and, and_true, eq_self, List.head?_cons, Option.some.injEq, Sum.inr.injEq, Sum.inl.injEq, false_or, or_false, true_or, or_true, Nat.reduceAdd, Nat.reduceLeDiff, Int.reduceLE, Int.reduceLT, Int.reduceEq, Int.reduceNeg, Int.reduceAdd, Int.reduceSub, Int.reduceMul, Int.reduceNe, ne_eq, not_false_eq_true, not_true_eq_false, false_implies, forall_const, Nat.le_refl, Nat.zero_le, implies_true, and_self]
        (repeat' (first | apply And.intro | intro _ | with_reducible refine Exists.intro _ (Exists.intro _ (And.intro ia ?_)) | with_reducible refine Exists.intro _ (And.intro ia ?_) | with_reducible refine Exists.intro _ (Exists.intro _ (And.intro ib ?_)) | with_reducible refine Exists.intro _ (And.intro ib ?_)))
        all_goals (try first | omega | trivial | (rfl; done) | assumption | (exfalso; omega))
      · refine Or.inr ⟨⟨c1.1, c1.2, c2.1, c2.2, c3⟩, ?_⟩
        have ra := hw.r c1.1 (show a < 24 by omega)
        have rb := hw.r c2.1 (show b < 24 by omega)
        have ja := r_X1_isJoined (D + 1) σ a c1.1 (by omega) (by unfold inR; omega)
        have jb := r_X1_isJoined (D + 1) σ b c2.1 (by omega) (by unfold inR; omega)
        by_cases c4 : σ 7 a = -1 ∧ σ 7 b = -1
        · refine Or.inr ⟨c4, ?_⟩
          rw [if_pos c4.1] at ja
          rw [if_pos c4.2] at jb
          have ti := r_X1_link (D + 1) σ a b c1.1 (by omega) c2.1 (by omega)
          have u26 := up_lk2 σ 7 a b
          have u6 : (up (up σ 7 a b) 7 b a) 1 0 = σ 1 0 := by unfold up; rw [if_neg (by omega), if_neg (by omega)]
          have ch := r_X1_chords D (up (up σ 7 a b) 7 b a) (by rw [u26, u6]; exact hw.link c1.1 c1.2 c2.1 c2.2 c3 c4.1 c4.2)
          rw [u26, u6] at ch
          refine Ret.of 5 [some (aR 5), some (aI a), some (aI b)] rfl (by decide) rfl (Nat.le_of_ble_eq_true rfl) ?_
          refine vX5_join 60 ?_
          simp only [↓S_X5_join, ↓pI_c, ↓pL_c, ↓pR_c, ↓pC_I, ↓pC_R, ↓pE_n, ↓gI_0, ↓gI_s, ↓gL_0, ↓gL_s, ↓gR_0, ↓gR_s, ↓popN_0, ↓popN_s, ↓kl_I, ↓kl_L, ↓kl_R, ↓kl_n, ↓put1_0, ↓put1_s, ↓putk_0, ↓putk_s, ↓put2_0, ↓put2_s, ↓putl_0, ↓putl_s, ↓callK_0, ↓callK_1, ↓callK_2, cats_n, cats_c, catA_I, catA_L, catA_R, KL, LV, lval_f, ltag_f, llen_f, lcm_lt, lcm_le, lcm_gt, lcm_ge, lcm_eq, lcm_R1, lcm_R2, inR, inL, true_and, and_true, eq_self, List.head?_cons, Option.some.injEq, Sum.inr.injEq, Sum.inl.injEq, false_or, or_false, true_or, or_true, Nat.reduceAdd, Nat.reduceLeDiff, Int.reduceLE, Int.reduceLT, Int.reduceEq, Int.reduceNeg, Int.reduceAdd, Int.reduceSub, Int.reduceMul, Int.reduceNe, ne_eq, not_false_eq_true, not_true_eq_false, false_implies, forall_const, Nat.le_refl, Nat.zero_le, implies_true, and_self]
          (repeat' (first | apply And.intro | intro _ | with_reducible refine Exists.intro _ (Exists.intro _ (And.intro ia ?_)) | with_reducible refine Exists.intro _ (And.intro ia ?_) | with_reducible refine Exists.intro _ (Exists.intro _ (And.intro ib ?_)) | with_reducible refine Exists.intro _ (And.intro ib ?_) | with_reducible refine Exists.intro _ (Exists.intro _ (And.intro ja ?_)) | with_reducible refine Exists.intro _ (And.intro ja ?_) | with_reducible refine Exists.intro _ (Exists.intro _ (And.intro jb ?_)) | with_reducible refine Exists.intro _ (And.intro jb ?_) | with_reducible refine Exists.intro _ (Exists.intro _ (And.intro ti ?_)) | with_reducible refine Exists.intro _ (And.intro ti ?_) | with_reducible refine Exists.intro _ (Exists.intro _ (And.intro ch ?_)) | with_reducible refine Exists.intro _ (And.intro ch ?_)))
          all_goals (try first | omega | trivial | (rfl; done) | assumption | (exfalso; omega))
        · refine Or.inl ⟨c4, ?_⟩
          by_cases c5 : σ 7 a = -1
          · rw [if_pos c5] at ja
            rw [if_neg (fun z => c4 ⟨c5, z⟩)] at jb
            refine Ret.of 5 [some (aR 5), some (aI a), some (aI b)] rfl (by decide) rfl (Nat.le_of_ble_eq_true rfl) ?_
            refine vX5_join 60 ?_
            simp only [↓S_X5_join, ↓pI_c, ↓pL_c, ↓pR_c, ↓pC_I, ↓pC_R, ↓pE_n, ↓gI_0, ↓gI_s, ↓gL_0, ↓gL_s, ↓gR_0, ↓gR_s, ↓popN_0, ↓popN_s, ↓kl_I, ↓kl_L, ↓kl_R, ↓kl_n, ↓put1_0, ↓put1_s, ↓putk_0, ↓putk_s, ↓put2_0, ↓put2_s, ↓putl_0, ↓putl_s, ↓callK_0, ↓callK_1, ↓callK_2, cats_n, cats_c, catA_I, catA_L, catA_R, KL, LV, lval_f, ltag_f, llen_f, lcm_lt, lcm_le, lcm_gt, lcm_ge, lcm_eq, lcm_R1, lcm_R2, inR, inL, true_and, and_true, eq_self, List.head?_cons, Option.some.injEq, Sum.inr.injEq, Sum.inl.injEq, false_or, or_false, true_or, or_true, Nat.reduceAdd, Nat.reduceLeDiff, Int.reduceLE, Int.reduceLT, Int.reduceEq, Int.reduceNeg, Int.reduceAdd, Int.reduceSub, Int.reduceMul, Int.reduceNe, ne_eq, not_false_eq_true, not_true_eq_false, false_implies, forall_const, Nat.le_refl, Nat.zero_le, implies_true, and_self]
            (repeat' (first | apply And.intro | intro _ | with_reducible refine Exists.intro _ (Exists.intro _ (And.intro ia ?_)) | with_reducible refine Exists.intro _ (And.intro ia ?_) | with_reducible refine Exists.intro _ (Exists.intro _ (And.intro ib ?_)) | with_reducible refine Exists.intro _ (And.intro ib ?_) | with_reducible refine Exists.intro _ (Exists.intro _ (And.intro ja ?_)) | with_reducible refine Exists.intro _ (And.intro ja ?_) | with_reducible refine Exists.intro _ (Exists.intro _ (And.intro jb ?_)) | with_reducible refine Exists.intro _ (And.intro jb ?_)))
            all_goals (try first | omega | trivial | (rfl; done) | assumption | (exfalso; omega))
          · rw [if_neg c5] at ja
            refine Ret.of 5 [some (aR 5), some (aI a), some (aI b)] rfl (by decide) rfl (Nat.le_of_ble_eq_true rfl) ?_
            refine vX5_join 60 ?_
            simp only [↓S_X5_join, ↓pI_c, ↓pL_c, ↓pR_c, ↓pC_I, ↓pC_R, ↓pE_n, ↓gI_0, ↓gI_s, ↓gL_0, ↓gL_s, ↓gR_0, ↓gR_s, ↓popN_0, ↓popN_s, ↓kl_I, ↓kl_L, ↓kl_R, ↓kl_n, ↓put1_0, ↓put1_s, ↓putk_0, ↓putk_s, ↓put2_0, ↓put2_s, ↓putl_0, ↓putl_s, ↓callK_0, ↓callK_1, ↓callK_2, cats_n, cats_c, catA_I, catA_L, catA_R, KL, LV, lval_f, ltag_f, llen_f, lcm_lt, lcm_le, lcm_gt, lcm_ge, lcm_eq, lcm_R1, lcm_R2, inR, inL, true_and, and_true, eq_self, List.head?_cons, Option.some.injEq, Sum.inr.injEq, Sum.inl.injEq, false_or, or_false, true_or, or_true, Nat.reduceAdd, Nat.reduceLeDiff, Int.reduceLE, Int.reduceLT, Int.reduceEq, Int.reduceNeg, Int.reduceAdd, Int.reduceSub, Int.reduceMul, Int.reduceNe, ne_eq, not_false_eq_true, not_true_eq_false, false_implies, forall_const, Nat.le_refl, Nat.zero_le, implies_true, and_self]
            (repeat' (first | apply And.intro | intro _ | with_reducible refine Exists.intro _ (Exists.intro _ (And.intro ia ?_)) | with_reducible refine Exists.intro _ (And.intro ia ?_) | with_reducible refine Exists.intro _ (Exists.intro _ (And.intro ib ?_)) | with_reducible refine Exists.intro _ (And.intro ib ?_) | with_reducible refine Exists.intro _ (Exists.intro _ (And.intro ja ?_)) | with_reducible refine Exists.intro _ (And.intro ja ?_) | with_reducible refine Exists.intro _ (Exists.intro _ (And.intro jb ?_)) | with_reducible refine Exists.intro _ (And.intro jb ?_)))
            all_goals (try first | omega | trivial | (rfl; done) | assumption | (exfalso; omega))
    · rw [if_neg c2] at ib
      refine Or.inl ⟨by omega, ?_⟩
      refine Ret.of 5 [some (aR 5), some (aI a), some (aI b)] rfl (by decide) rfl (Nat.le_of_ble_eq_true rfl) ?_
      refine vX5_join 60 ?_
      simp only [↓S_X5_join, ↓pI_c, ↓pL_c, ↓pR_c, ↓pC_I, ↓pC_R, ↓pE_n, ↓gI_0, ↓gI_s, ↓gL_0, ↓gL_s, ↓gR_0, ↓gR_s, ↓popN_0, ↓popN_s, ↓kl_I, ↓kl_L, ↓kl_R, ↓kl_n, ↓put1_0, ↓put1_s, ↓putk_0, ↓putk_s, ↓put2_0, ↓put2_s, ↓putl_0, ↓putl_s, ↓callK_0, ↓callK_1, ↓callK_2, cats_n, cats_c, catA_I, catA_L, catA_R, KL, LV, lval_f, ltag_f, llen_f, lcm_lt, lcm_le, lcm_gt, lcm_ge, lcm_eq, lcm_R1, lcm_R2, inR, inL, true_and, and_true, eq_self, List.head?_cons, Option.some.injEq, Sum.inr.injEq, Sum.inl.injEq, false_or, or_false, true_or, or_true, Nat.reduceAdd, Nat.reduceLeDiff, Int.reduceLE, Int.reduceLT, Int.reduceEq, Int.reduceNeg, Int.reduceAdd, Int.reduceSub, Int.reduceMul, Int.reduceNe, ne_eq, not_false_eq_true, not_true_eq_false, false_implies, forall_const, Nat.le_refl, Nat.zero_le, implies_true, and_self]
      (repeat' (first | apply And.intro | intro _ | with_reducible refine Exists.intro _ (Exists.intro _ (And.intro ia ?_)) | with_reducible refine Exists.intro _ (And.intro ia ?_) | with_reducible refine Exists.intro _ (Exists.intro _ (And.intro ib ?_)) | with_reducible refine Exists.intro _ (And.intro ib ?_)))
      all_goals (try first | omega | trivial | (rfl; done) | assumption | (exfalso; omega))
  · rw [if_neg c1] at ia
    refine Or.inl ⟨by omega, ?_⟩
    refine Ret.of 5 [some (aR 5), some (aI a), some (aI b)] rfl (by decide) rfl (Nat.le_of_ble_eq_true rfl) ?_
    refine vX5_join 60 ?_
    simp only [↓S_X5_join, ↓pI_c, ↓pL_c, ↓pR_c, ↓pC_I, ↓pC_R, ↓pE_n, ↓gI_0, ↓gI_s, ↓gL_0, ↓gL_s, ↓gR_0, ↓gR_s, ↓popN_0, ↓popN_s, ↓kl_I, ↓kl_L, ↓kl_R, ↓kl_n, ↓put1_0, ↓put1_s, ↓putk_0, ↓putk_s, ↓put2_0, ↓put2_s, ↓putl_0, ↓putl_s, ↓callK_0, ↓callK_1, ↓callK_2, cats_n, cats_c, catA_I, catA_L, catA_R, KL, LV, lval_f, ltag_f, llen_f, lcm_lt, lcm_le, lcm_gt, lcm_ge, lcm_eq, lcm_R1, lcm_R2, inR, inL, true_and, and_true, eq_self, List.head?_cons, Option.some.injEq, Sum.inr.injEq, Sum.inl.injEq, false_or, or_false, true_or, or_true, Nat.reduceAdd, Nat.reduceLeDiff, Int.reduceLE, Int.reduceLT, Int.reduceEq, Int.reduceNeg, Int.reduceAdd, Int.reduceSub, Int.reduceMul, Int.reduceNe, ne_eq, not_false_eq_true, not_true_eq_false, false_implies, forall_const, Nat.le_refl, Nat.zero_le, implies_true, and_self]
    (repeat' (first | apply And.intro | intro _ | with_reducible refine Exists.intro _ (Exists.intro _ (And.intro ia ?_)) | with_reducible refine Exists.intro _ (And.intro ia ?_) | with_reducible refine Exists.intro _ (Exists.intro _ (And.intro ib ?_)) | with_reducible refine Exists.intro _ (And.intro ib ?_)))
    all_goals (try first | omega | trivial | (rfl; done) | assumption | (exfalso; omega))

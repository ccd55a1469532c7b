/-! the model's judge -/
def jg (sc : Int → Int → Int) (bn L : Int) (m : Int → Int) (a : Int) : Int := if a < m a then sc a (m a) + (if 0 < a ∧ m a < L - 1 ∧ m (a - 1) = m a + 1 then bn else 0) else 0
set_option maxRecDepth 100000 in
theorem r_X6_judge (D : Nat) (σ : Sg) (h : WM σ) (hw : WD (σ 6 0) (σ 26)) : ∃ z, Ret (D + 3) miX6_judge [aR 6] σ (some (aI z)) σ ∧ ((z = rs (jg (msc σ) (σ 6 8) (σ 6 0) (σ 26)) 0 (σ 6 0).toNat ∧ σ 6 0 = σ 6 4 ∧ crs (σ 6 0) (σ 26) ≤ 0 ∧ okF (mmj σ) (σ 6 0) (σ 26)) ∨ (z = -2147483648 ∧ ¬ (σ 6 0 = σ 6 4 ∧ crs (σ 6 0) (σ 26) ≤ 0 ∧ okF (mmj σ) (σ 6 0) (σ 26)))) := by
  have w1 := hw.1
  have w2 := hw.2.1
  have hn := h.1
  have pr := r_X6_pairs D σ 1 (Or.inr rfl) hw
  rw [pairs_x hw] at pr
  have hcr := crs_r hw
  have ecr : rs (fun a => rs (fun c => if σ 26 a < σ 26 c then 1 else 0) (a + 1) (σ 26 a - (a + 1)).toNat) 0 (σ 6 0).toNat = crs (σ 6 0) (σ 26) := rfl
  rw [ecr] at pr
  generalize crs (σ 6 0) (σ 26) = C at *
  by_cases c1 : σ 6 0 = σ 6 4
  · by_cases c2 : C ≤ 0
    · have loop : ∀ (k : Nat) (a acc : Int), 0 ≤ a → a + k = σ 6 0 → (∀ c, 0 ≤ c → c < a → c < σ 26 c → mmj σ c (σ 26 c) = true) → ∃ z, V (D + 2) miX6_judge 6 (some (aI z)) σ 26 [some (aR 6), some (aI acc), some (aI a)] [] σ ∧ ((z = acc + rs (jg (msc σ) (σ 6 8) (σ 6 0) (σ 26)) a k ∧ okF (mmj σ) (σ 6 0) (σ 26)) ∨ (z = -2147483648 ∧ ¬ okF (mmj σ) (σ 6 0) (σ 26))) := by
        intro k
        induction k with
        | zero =>
          intro a acc a0 ak hp
          refine ⟨acc, ?_, Or.inl ⟨by show acc = acc + 0; omega, fun c c0 c1 c2 => hp c c0 (by omega) c2⟩⟩
          refine vX6_judge 100 ?_
          simp only [↓S_X6_judge_1, ↓S_X6_judge_2, ↓pI_c, ↓pL_c, ↓pR_c, ↓pC_I, ↓pC_R, ↓pE_n, ↓gI_0, ↓gI_s, ↓gL_0, ↓gL_s, ↓gR_0, ↓gR_s, ↓popN_0, ↓popN_s, ↓kl_I, ↓kl_L, ↓kl_R, ↓kl_n, ↓put1_0, ↓put1_s, ↓putk_0, ↓putk_s, ↓put2_0, ↓put2_s, ↓putl_0, ↓putl_s, ↓callK_0, ↓callK_1, ↓callK_2, cats_n, cats_c, catA_I, catA_L, catA_R, KL, LV, lval_f, ltag_f, llen_f, lcm_lt, lcm_le, lcm_gt, lcm_ge, lcm_eq, lcm_R1, lcm_R2, inR, inL, true_and, and_true, eq_self, List.head?_cons, Option.some.injEq, Sum.inr.injEq, Sum.inl.injEq, false_or, or_false, true_or, or_true, Nat.reduceAdd, Nat.reduceLeDiff, Int.reduceLE, Int.reduceLT, Int.reduceEq, Int.reduceNeg, Int.reduceAdd, Int.reduceSub, Int.reduceMul, Int.reduceNe, ne_eq, not_false_eq_true, not_true_eq_false, false_implies, forall_const, Nat.le_refl, Nat.zero_le, implies_true, and_self]
          (repeat' (first | apply And.intro | intro _))
          all_goals (try first | omega | trivial | (rfl; done) | assumption | (exfalso; omega))
        | succ k ih =>
          intro a acc a0 ak hp
          have hr := hw.r a0 (show a < 24 by omega)
          have be := r_X6_begins (D + 1) σ a a0 (by omega) (by unfold inR; omega)
          by_cases c3 : a < σ 26 a
          · have hL : σ 26 a < σ 6 0 := by rcases hw.b a0 (show a < 24 by omega) with q | q <;> omega
            have mj := r_X6_mayJoin (D + 1) σ a (σ 26 a) h a0 (by omega) (by omega) (by omega)
            have iI := r_X6_isInner (D + 1) σ a hw a0 (by omega)
            have l1 := h.2.1 a a0 (by omega)
            have l2 := h.2.1 (σ 26 a) (by omega) (by omega)
            rw [if_pos c3] at be
            by_cases c4 : mmj σ a (σ 26 a) = true
            · rw [if_pos c4] at mj
              obtain ⟨z, t, tz⟩ := ih (a + 1) (acc + jg (msc σ) (σ 6 8) (σ 6 0) (σ 26) a) (by omega) (by omega) (fun c c0 c1 c2 => by
                by_cases q : c = a
                · rw [q]; exact c4
                · exact hp c c0 (by omega) c2)
              rw [rs_s, ← Int.add_assoc]
              refine ⟨z, ?_, tz⟩
              unfold jg at t
              rw [if_pos c3] at t
              unfold msc at t
              by_cases c5 : 0 < a ∧ σ 26 a < σ 6 0 - 1 ∧ σ 26 (a - 1) = σ 26 a + 1
              · rw [if_pos c5] at t iI
                refine vX6_judge 100 ?_
                simp only [↓S_X6_judge_1, ↓S_X6_judge_2, ↓pI_c, ↓pL_c, ↓pR_c, ↓pC_I, ↓pC_R, ↓pE_n, ↓gI_0, ↓gI_s, ↓gL_0, ↓gL_s, ↓gR_0, ↓gR_s, ↓popN_0, ↓popN_s, ↓kl_I, ↓kl_L, ↓kl_R, ↓kl_n, ↓put1_0, ↓put1_s, ↓putk_0, ↓putk_s, ↓put2_0, ↓put2_s, ↓putl_0, ↓putl_s, ↓callK_0, ↓callK_1, ↓callK_2, cats_n, cats_c, catA_I, catA_L, catA_R, KL, LV, lval_f, ltag_f, llen_f, lcm_lt, lcm_le, lcm_gt, lcm_ge, lcm_eq, lcm_R1, lcm_R2, inR, inL, true_and, and_true, eq_self, List.head?_cons, Option.some.injEq, Sum.inr.injEq, Sum.inl.injEq, false_or, or_false, true_or, or_true, Nat.reduceAdd, Nat.reduceLeDiff, Int.reduceLE, Int.reduceLT, Int.reduceEq, Int.reduceNeg, Int.reduceAdd, Int.reduceSub, Int.reduceMul, Int.reduceNe, ne_eq, not_false_eq_true, not_true_eq_false, false_implies, forall_const, Nat.le_refl, Nat.zero_le, implies_true, and_self]
                (repeat' (first | apply And.intro | intro _ | with_reducible refine Exists.intro _ (Exists.intro _ (And.intro be ?_)) | with_reducible refine Exists.intro _ (And.intro be ?_) | with_reducible refine Exists.intro _ (Exists.intro _ (And.intro mj ?_)) | with_reducible refine Exists.intro _ (And.intro mj ?_) | with_reducible refine Exists.intro _ (Exists.intro _ (And.intro iI ?_)) | with_reducible refine Exists.intro _ (And.intro iI ?_)))
                all_goals (try first | omega | trivial | (rfl; done) | assumption | (exfalso; omega) | (exact t) | (refine V.wk t ?_; simp [lle]; done))
              · rw [if_neg c5] at t iI
                refine vX6_judge 100 ?_
                simp only [↓S_X6_judge_1, ↓S_X6_judge_2, ↓pI_c, ↓pL_c, ↓pR_c, ↓pC_I, ↓pC_R, ↓pE_n, ↓gI_0, ↓gI_s, ↓gL_0, ↓gL_s, ↓gR_0, ↓gR_s, ↓popN_0, ↓popN_s, ↓kl_I, ↓kl_L, ↓kl_R, ↓kl_n, ↓put1_0, ↓put1_s, ↓putk_0, ↓putk_s, ↓put2_0, ↓put2_s, ↓putl_0, ↓putl_s, ↓callK_0, ↓callK_1, ↓callK_2, cats_n, cats_c, catA_I, catA_L, catA_R, KL, LV, lval_f, ltag_f, llen_f, lcm_lt, lcm_le, lcm_gt, lcm_ge, lcm_eq, lcm_R1, lcm_R2, inR, inL, true_and, and_true, eq_self, List.head?_cons, Option.some.injEq, Sum.inr.injEq, Sum.inl.injEq, false_or, or_false, true_or, or_true, Nat.reduceAdd, Nat.reduceLeDiff, Int.reduceLE, Int.reduceLT, Int.reduceEq, Int.reduceNeg, Int.reduceAdd, Int.reduceSub, Int.reduceMul, Int.reduceNe, ne_eq, not_false_eq_true, not_true_eq_false, false_implies, forall_const, Nat.le_refl, Nat.zero_le, implies_true, and_self]
                (repeat' (first | apply And.intro | intro _ | with_reducible refine Exists.intro _ (Exists.intro _ (And.intro be ?_)) | with_reducible refine Exists.intro _ (And.intro be ?_) | with_reducible refine Exists.intro _ (Exists.intro _ (And.intro mj ?_)) | with_reducible refine Exists.intro _ (And.intro mj ?_) | with_reducible refine Exists.intro _ (Exists.intro _ (And.intro iI ?_)) | with_reducible refine Exists.intro _ (And.intro iI ?_)))
                all_goals (try first | omega | trivial | (rfl; done) | assumption | (exfalso; omega) | (exact t) | (refine V.wk t ?_; simp [lle]; done))
            · rw [if_neg c4] at mj
              refine ⟨-2147483648, ?_, Or.inr ⟨rfl, fun q => c4 (q a a0 (by omega) c3)⟩⟩
              refine vX6_judge 100 ?_
              simp only [↓S_X6_judge_1, ↓S_X6_judge_2, ↓pI_c, ↓pL_c, ↓pR_c, ↓pC_I, ↓pC_R, ↓pE_n, ↓gI_0, ↓gI_s, ↓gL_0, ↓gL_s, ↓gR_0, ↓gR_s, ↓popN_0, ↓popN_s, ↓kl_I, ↓kl_L, ↓kl_R, ↓kl_n, ↓put1_0, ↓put1_s, ↓putk_0, ↓putk_s, ↓put2_0, ↓put2_s, ↓putl_0, ↓putl_s, ↓callK_0, ↓callK_1, ↓callK_2, cats_n, cats_c, catA_I, catA_L, catA_R, KL, LV, lval_f, ltag_f, llen_f, lcm_lt, lcm_le, lcm_gt, lcm_ge, lcm_eq, lcm_R1, lcm_R2, inR, inL, true_and, and_true, eq_self, List.head?_cons, Option.some.injEq, Sum.inr.injEq, Sum.inl.injEq, false_or, or_false, true_or, or_true, Nat.reduceAdd, Nat.reduceLeDiff, Int.reduceLE, Int.reduceLT, Int.reduceEq, Int.reduceNeg, Int.reduceAdd, Int.reduceSub, Int.reduceMul, Int.reduceNe, ne_eq, not_false_eq_true, not_true_eq_false, false_implies, forall_const, Nat.le_refl, Nat.zero_le, implies_true, and_self]
              (repeat' (first | apply And.intro | intro _ | with_reducible refine Exists.intro _ (Exists.intro _ (And.intro be ?_)) | with_reducible refine Exists.intro _ (And.intro be ?_) | with_reducible refine Exists.intro _ (Exists.intro _ (And.intro mj ?_)) | with_reducible refine Exists.intro _ (And.intro mj ?_)))
              all_goals (try first | omega | trivial | (rfl; done) | assumption | (exfalso; omega))
          · rw [if_neg c3] at be
            obtain ⟨z, t, tz⟩ := ih (a + 1) acc (by omega) (by omega) (fun c c0 c1 c2 => by
              by_cases q : c = a
              · rw [q] at c2; exact absurd c2 c3
              · exact hp c c0 (by omega) c2)
            have ej : jg (msc σ) (σ 6 8) (σ 6 0) (σ 26) a = 0 := by unfold jg; rw [if_neg c3]
            rw [rs_s, ej, Int.zero_add]
            refine ⟨z, ?_, tz⟩
            refine vX6_judge 100 ?_
            simp only [↓S_X6_judge_1, ↓S_X6_judge_2, ↓pI_c, ↓pL_c, ↓pR_c, ↓pC_I, ↓pC_R, ↓pE_n, ↓gI_0, ↓gI_s, ↓gL_0, ↓gL_s, ↓gR_0, ↓gR_s, ↓popN_0, ↓popN_s, ↓kl_I, ↓kl_L, ↓kl_R, ↓kl_n, ↓put1_0, ↓put1_s, ↓putk_0, ↓putk_s, ↓put2_0, ↓put2_s, ↓putl_0, ↓putl_s, ↓callK_0, ↓callK_1, ↓callK_2, cats_n, cats_c, catA_I, catA_L, catA_R, KL, LV, lval_f, ltag_f, llen_f, lcm_lt, lcm_le, lcm_gt, lcm_ge, lcm_eq, lcm_R1, lcm_R2, inR, inL, true_and, and_true, eq_self, List.head?_cons, Option.some.injEq, Sum.inr.injEq, Sum.inl.injEq, false_or, or_false, true_or, or_true, Nat.reduceAdd, Nat.reduceLeDiff, Int.reduceLE, Int.reduceLT, Int.reduceEq, Int.reduceNeg, Int.reduceAdd, Int.reduceSub, Int.reduceMul, Int.reduceNe, ne_eq, not_false_eq_true, not_true_eq_false, false_implies, forall_const, Nat.le_refl, Nat.zero_le, implies_true, and_self]
            (repeat' (first | apply And.intro | intro _ | with_reducible refine Exists.intro _ (Exists.intro _ (And.intro be ?_)) | with_reducible refine Exists.intro _ (And.intro be ?_)))
            all_goals (try first | omega | trivial | (rfl; done) | assumption | (exfalso; omega) | (exact t) | (refine V.wk t ?_; simp [lle]; done))
      obtain ⟨z, t, tz⟩ := loop (σ 6 0).toNat 0 0 (by omega) (by omega) (fun c c0 c1 => by omega)
      rw [Int.zero_add] at tz
      refine ⟨z, ?_, ?_⟩
      · refine Ret.of 6 [some (aR 6), none, none] rfl (by decide) rfl (Nat.le_of_ble_eq_true rfl) ?_
        refine vX6_judge 100 ?_
        simp only [↓S_X6_judge_1, ↓S_X6_judge_2, ↓pI_c, ↓pL_c, ↓pR_c, ↓pC_I, ↓pC_R, ↓pE_n, ↓gI_0, ↓gI_s, ↓gL_0, ↓gL_s, ↓gR_0, ↓gR_s, ↓popN_0, ↓popN_s, ↓kl_I, ↓kl_L, ↓kl_R, ↓kl_n, ↓put1_0, ↓put1_s, ↓putk_0, ↓putk_s, ↓put2_0, ↓put2_s, ↓putl_0, ↓putl_s, ↓callK_0, ↓callK_1, ↓callK_2, cats_n, cats_c, catA_I, catA_L, catA_R, KL, LV, lval_f, ltag_f, llen_f, lcm_lt, lcm_le, lcm_gt, lcm_ge, lcm_eq, lcm_R1, lcm_R2, inR, inL, true_and, and_true, eq_self, List.head?_cons, Option.some.injEq, Sum.inr.injEq, Sum.inl.injEq, false_or, or_false, true_or, or_true, Nat.reduceAdd, Nat.reduceLeDiff, Int.reduceLE, Int.reduceLT, Int.reduceEq, Int.reduceNeg, Int.reduceAdd, Int.reduceSub, Int.reduceMul, Int.reduceNe, ne_eq, not_false_eq_true, not_true_eq_false, false_implies, forall_const, Nat.le_refl, Nat.zero_le, implies_true, and_self]
        (repeat' (first | apply And.intro | intro _ | with_reducible refine Exists.intro _ (Exists.intro _ (And.intro pr ?_)) | with_reducible refine Exists.intro _ (And.intro pr ?_)))
        all_goals (try first | omega | trivial | (rfl; done) | assumption | (exfalso; omega) | (exact t) | (refine V.wk t ?_; simp [lle]; done))
      · rcases tz with ⟨q1, q2⟩ | ⟨q1, q2⟩
        · exact Or.inl ⟨q1, c1, c2, q2⟩
        · exact Or.inr ⟨q1, fun z => q2 z.2.2⟩
    · refine ⟨-2147483648, ?_, Or.inr ⟨rfl, fun z => c2 z.2.1⟩⟩
      refine Ret.of 6 [some (aR 6), none, none] rfl (by decide) rfl (Nat.le_of_ble_eq_true rfl) ?_
      refine vX6_judge 100 ?_
      simp only [↓S_X6_judge_1, ↓S_X6_judge_2, ↓pI_c, ↓pL_c, ↓pR_c, ↓pC_I, ↓pC_R, ↓pE_n, ↓gI_0, ↓gI_s, ↓gL_0, ↓gL_s, ↓gR_0, ↓gR_s, ↓popN_0, ↓popN_s, ↓kl_I, ↓kl_L, ↓kl_R, ↓kl_n, ↓put1_0, ↓put1_s, ↓putk_0, ↓putk_s, ↓put2_0, ↓put2_s, ↓putl_0, ↓putl_s, ↓callK_0, ↓callK_1, ↓callK_2, cats_n, cats_c, catA_I, catA_L, catA_R, KL, LV, lval_f, ltag_f, llen_f, lcm_lt, lcm_le, lcm_gt, lcm_ge, lcm_eq, lcm_R1, lcm_R2, inR, inL, true_and, and_true, eq_self, List.head?_cons, Option.some.injEq, Sum.inr.injEq, Sum.inl.injEq, false_or, or_false, true_or, or_true, Nat.reduceAdd, Nat.reduceLeDiff, Int.reduceLE, Int.reduceLT, Int.reduceEq, Int.reduceNeg, Int.reduceAdd, Int.reduceSub, Int.reduceMul, Int.reduceNe, ne_eq, not_false_eq_true, not_true_eq_false, false_implies, forall_const, Nat.le_refl, Nat.zero_le, implies_true, and_self]
      (repeat' (first | apply And.intro | intro _ | with_reducible refine Exists.intro _ (Exists.intro _ (And.intro pr ?_)) | with_reducible refine Exists.intro _ (And.intro pr ?_)))
      all_goals (try first | omega | trivial | (rfl; done) | assumption | (exfalso; omega))
  · refine ⟨-2147483648, ?_, Or.inr ⟨rfl, fun z => c1 z.1⟩⟩
    refine Ret.of 6 [some (aR 6), none, none] rfl (by decide) rfl (Nat.le_of_ble_eq_true rfl) ?_
    refine vX6_judge 100 ?_
    simp only [↓S_X6_judge_1, ↓S_X6_judge_2, ↓pI_c, ↓pL_c, ↓pR_c, ↓pC_I, ↓pC_R, ↓pE_n, ↓gI_0, ↓gI_s, ↓gL_0, ↓gL_s, ↓gR_0, ↓gR_s, ↓popN_0, ↓popN_s, ↓kl_I, ↓kl_L, ↓kl_R, ↓kl_n, ↓put1_0, ↓put1_s, ↓putk_0, ↓putk_s, ↓put2_0, ↓put2_s, ↓putl_0, ↓putl_s, ↓callK_0, ↓callK_1, ↓callK_2, cats_n, cats_c, catA_I, catA_L, catA_R, KL, LV, lval_f, ltag_f, llen_f, lcm_lt, lcm_le, lcm_gt, lcm_ge, lcm_eq, lcm_R1, lcm_R2, inR, inL, true_and, and_true, eq_self, List.head?_cons, Option.some.injEq, Sum.inr.injEq, Sum.inl.injEq, false_or, or_false, true_or, or_true, Nat.reduceAdd, Nat.reduceLeDiff, Int.reduceLE, Int.reduceLT, Int.reduceEq, Int.reduceNeg, Int.reduceAdd, Int.reduceSub, Int.reduceMul, Int.reduceNe, ne_eq, not_false_eq_true, not_true_eq_false, false_implies, forall_const, Nat.le_refl, Nat.zero_le, implies_true, and_self]
    (repeat' (first | apply And.intro | intro _ | with_reducible refine Exists.intro _ (Exists.intro _ (And.intro pr ?_)) | with_reducible refine Exists.intro _ (And.intro pr ?_)))
    all_goals (try first | omega | trivial | (rfl; done) | assumption | (exfalso; omega))

/-! the model's rows of full drawings -/
set_option maxRecDepth 100000 in
theorem r_X6_allOf (D : Nat) (σ : Sg) (n : Int) (n0 : 0 ≤ n) (n1 : n ≤ 12) : Ret (D + 1) miX6_allOf [aI n] σ (some (aL (fdv n))) σ := by
  have loop : ∀ (j : Nat) (k : Int), 2 ≤ k → k + j = n + 1 → V D miX6_allOf 6 (some (aL (fdv n))) σ 4 [some (aI n), some (aL (fdv (k - 1))), none, some (aI k)] [] σ := by
    intro j
    induction j with
    | zero =>
      intro k k0 kj
      have : k - 1 = n := by omega
      rw [this]
      refine vX6_allOf 60 ?_
      simp only [↓S_X6_allOf, ↓pI_c, ↓pL_c, ↓pR_c, ↓pC_I, ↓pC_R, ↓pE_n, ↓gI_0, ↓gI_s, ↓gL_0, ↓gL_s, ↓gR_0, ↓gR_s, ↓popN_0, ↓popN_s, ↓kl_I, ↓kl_L, ↓kl_R, ↓kl_n, ↓put1_0, ↓put1_s, ↓putk_0, ↓putk_s, ↓put2_0, ↓put2_s, ↓putl_0, ↓putl_s, ↓callK_0, ↓callK_1, ↓callK_2, cats_n, cats_c, catA_I, catA_L, catA_R, KL, LV, lval_f, ltag_f, llen_f, lcm_lt, lcm_le, lcm_gt, lcm_ge, lcm_eq, lcm_R1, lcm_R2, inR, inL, true_and, and_true, eq_self, List.head?_cons, Option.some.injEq, Sum.inr.injEq, Sum.inl.injEq, false_or, or_false, true_or, or_true, Nat.reduceAdd, Nat.reduceLeDiff, Int.reduceLE, Int.reduceLT, Int.reduceEq, Int.reduceNeg, Int.reduceAdd, Int.reduceSub, Int.reduceMul, Int.reduceNe, ne_eq, not_false_eq_true, not_true_eq_false, false_implies, forall_const, Nat.le_refl, Nat.zero_le, implies_true, and_self]
      (repeat' (first | apply And.intro | intro _))
      all_goals (try first | omega | trivial | (rfl; done) | assumption | (exfalso; omega))
    | succ j ih =>
      intro k k0 kj
      have t := ih (k + 1) (by omega) (by omega)
      have f1 := fdv_s (j := k) (by omega) (by omega)
      have f2 := fdv_s (j := k - 1) (by omega) (by omega)
      rw [show k + 1 - 1 = k from by omega, show fdv k = fdv (k - 1) * (2 * k - 1) from by rcases f1.2.2 with q | q; omega; rw [q, Int.mul_comm]] at t
      refine vX6_allOf 60 ?_
      simp only [↓S_X6_allOf, ↓pI_c, ↓pL_c, ↓pR_c, ↓pC_I, ↓pC_R, ↓pE_n, ↓gI_0, ↓gI_s, ↓gL_0, ↓gL_s, ↓gR_0, ↓gR_s, ↓popN_0, ↓popN_s, ↓kl_I, ↓kl_L, ↓kl_R, ↓kl_n, ↓put1_0, ↓put1_s, ↓putk_0, ↓putk_s, ↓put2_0, ↓put2_s, ↓putl_0, ↓putl_s, ↓callK_0, ↓callK_1, ↓callK_2, cats_n, cats_c, catA_I, catA_L, catA_R, KL, LV, lval_f, ltag_f, llen_f, lcm_lt, lcm_le, lcm_gt, lcm_ge, lcm_eq, lcm_R1, lcm_R2, inR, inL, true_and, and_true, eq_self, List.head?_cons, Option.some.injEq, Sum.inr.injEq, Sum.inl.injEq, false_or, or_false, true_or, or_true, Nat.reduceAdd, Nat.reduceLeDiff, Int.reduceLE, Int.reduceLT, Int.reduceEq, Int.reduceNeg, Int.reduceAdd, Int.reduceSub, Int.reduceMul, Int.reduceNe, ne_eq, not_false_eq_true, not_true_eq_false, false_implies, forall_const, Nat.le_refl, Nat.zero_le, implies_true, and_self]
      (repeat' (first | apply And.intro | intro _))
      all_goals (try first | omega | trivial | (rfl; done) | assumption | (exfalso; omega) | (exact t) | (refine V.wk t ?_; simp [lle]; done))
  by_cases c : n ≤ 1
  · have e : fdv n = 1 := by
      have : n = 0 ∨ n = 1 := by omega
      rcases this with rfl | rfl <;> rfl
    rw [e]
    have t : V D miX6_allOf 6 (some (aL 1)) σ 4 [some (aI n), some (aL 1), none, some (aI 2)] [] σ := by
      refine vX6_allOf 60 ?_
      simp only [↓S_X6_allOf, ↓pI_c, ↓pL_c, ↓pR_c, ↓pC_I, ↓pC_R, ↓pE_n, ↓gI_0, ↓gI_s, ↓gL_0, ↓gL_s, ↓gR_0, ↓gR_s, ↓popN_0, ↓popN_s, ↓kl_I, ↓kl_L, ↓kl_R, ↓kl_n, ↓put1_0, ↓put1_s, ↓putk_0, ↓putk_s, ↓put2_0, ↓put2_s, ↓putl_0, ↓putl_s, ↓callK_0, ↓callK_1, ↓callK_2, cats_n, cats_c, catA_I, catA_L, catA_R, KL, LV, lval_f, ltag_f, llen_f, lcm_lt, lcm_le, lcm_gt, lcm_ge, lcm_eq, lcm_R1, lcm_R2, inR, inL, true_and, and_true, eq_self, List.head?_cons, Option.some.injEq, Sum.inr.injEq, Sum.inl.injEq, false_or, or_false, true_or, or_true, Nat.reduceAdd, Nat.reduceLeDiff, Int.reduceLE, Int.reduceLT, Int.reduceEq, Int.reduceNeg, Int.reduceAdd, Int.reduceSub, Int.reduceMul, Int.reduceNe, ne_eq, not_false_eq_true, not_true_eq_false, false_implies, forall_const, Nat.le_refl, Nat.zero_le, implies_true, and_self]
      (repeat' (first | apply And.intro | intro _))
      all_goals (try first | omega | trivial | (rfl; done) | assumption | (exfalso; omega))
    refine Ret.of 6 [some (aI n), none, none, none] rfl (by decide) rfl (Nat.le_of_ble_eq_true rfl) ?_
    refine vX6_allOf 60 ?_
    simp only [↓S_X6_allOf, ↓pI_c, ↓pL_c, ↓pR_c, ↓pC_I, ↓pC_R, ↓pE_n, ↓gI_0, ↓gI_s, ↓gL_0, ↓gL_s, ↓gR_0, ↓gR_s, ↓popN_0, ↓popN_s, ↓kl_I, ↓kl_L, ↓kl_R, ↓kl_n, ↓put1_0, ↓put1_s, ↓putk_0, ↓putk_s, ↓put2_0, ↓put2_s, ↓putl_0, ↓putl_s, ↓callK_0, ↓callK_1, ↓callK_2, cats_n, cats_c, catA_I, catA_L, catA_R, KL, LV, lval_f, ltag_f, llen_f, lcm_lt, lcm_le, lcm_gt, lcm_ge, lcm_eq, lcm_R1, lcm_R2, inR, inL, true_and, and_true, eq_self, List.head?_cons, Option.some.injEq, Sum.inr.injEq, Sum.inl.injEq, false_or, or_false, true_or, or_true, Nat.reduceAdd, Nat.reduceLeDiff, Int.reduceLE, Int.reduceLT, Int.reduceEq, Int.reduceNeg, Int.reduceAdd, Int.reduceSub, Int.reduceMul, Int.reduceNe, ne_eq, not_false_eq_true, not_true_eq_false, false_implies, forall_const, Nat.le_refl, Nat.zero_le, implies_true, and_self]
    (repeat' (first | apply And.intro | intro _))
    all_goals (try first | omega | trivial | (rfl; done) | assumption | (exfalso; omega) | (exact t) | (refine V.wk t ?_; simp [lle]; done))
  · have t := loop (n - 1).toNat 2 (by omega) (by omega)
    rw [show fdv (2 - 1) = 1 from rfl] at t
    refine Ret.of 6 [some (aI n), none, none, none] rfl (by decide) rfl (Nat.le_of_ble_eq_true rfl) ?_
    refine vX6_allOf 60 ?_
    simp only [↓S_X6_allOf, ↓pI_c, ↓pL_c, ↓pR_c, ↓pC_I, ↓pC_R, ↓pE_n, ↓gI_0, ↓gI_s, ↓gL_0, ↓gL_s, ↓gR_0, ↓gR_s, ↓popN_0, ↓popN_s, ↓kl_I, ↓kl_L, ↓kl_R, ↓kl_n, ↓put1_0, ↓put1_s, ↓putk_0, ↓putk_s, ↓put2_0, ↓put2_s, ↓putl_0, ↓putl_s, ↓callK_0, ↓callK_1, ↓callK_2, cats_n, cats_c, catA_I, catA_L, catA_R, KL, LV, lval_f, ltag_f, llen_f, lcm_lt, lcm_le, lcm_gt, lcm_ge, lcm_eq, lcm_R1, lcm_R2, inR, inL, true_and, and_true, eq_self, List.head?_cons, Option.some.injEq, Sum.inr.injEq, Sum.inl.injEq, false_or, or_false, true_or, or_true, Nat.reduceAdd, Nat.reduceLeDiff, Int.reduceLE, Int.reduceLT, Int.reduceEq, Int.reduceNeg, Int.reduceAdd, Int.reduceSub, Int.reduceMul, Int.reduceNe, ne_eq, not_false_eq_true, not_true_eq_false, false_implies, forall_const, Nat.le_refl, Nat.zero_le, implies_true, and_self]
    (repeat' (first | apply And.intro | intro _))
    all_goals (try first | omega | trivial | (rfl; done) | assumption | (exfalso; omega) | (exact t) | (refine V.wk t ?_; simp [lle]; done))
set_option maxRecDepth 100000 in
theorem r_X6_row (D : Nat) (σ : Sg) (n k : Int) (hn : 0 ≤ n) (hn2 : n ≤ 12) (hk : 0 ≤ k) (hk2 : k < fdv n) : ∃ τ, Ret (D + 2) miX6_row [aR 6, aI n, aL k] σ (some (aI 1)) τ ∧ (∀ a b, a ≠ 26 → ¬ (a = 6 ∧ b = 0) → τ a b = σ a b) ∧ τ 6 0 = 2 * n ∧ WD (2 * n) (τ 26) ∧ RowR (2 * n) n.toNat (ff (up σ 6 0 (2 * n)) 26 0 24 (-1) 26) k (τ 26) := by
  have hf0 := (fdv_s hn (by omega)).2.1
  have loop : ∀ (j : Nat) (ρ : Sg) (rest : Int), (j : Int) ≤ n → (∀ a b, a ≠ 26 → ¬ (a = 6 ∧ b = 0) → ρ a b = σ a b) → ρ 6 0 = 2 * n → WD (2 * n) (ρ 26) → frc (ρ 26) 0 (2 * n).toNat = 2 * j → 0 ≤ rest → rest < fdv j →
      ∃ τ, V (D + 1) miX6_row 6 (some (aI 1)) τ 42 [some (aR 6), some (aI n), some (aL k), none, some (aL rest), none, some (aI j), none, none, none, none, none, none] [] ρ ∧ (∀ a b, a ≠ 26 → ¬ (a = 6 ∧ b = 0) → τ a b = σ a b) ∧ τ 6 0 = 2 * n ∧ WD (2 * n) (τ 26) ∧ RowR (2 * n) j (ρ 26) rest (τ 26) := by
    intro j
    induction j with
    | zero =>
      intro ρ rest hj hρ h1 hw hf r0 r1
      refine ⟨ρ, ?_, hρ, h1, hw, fun b _ _ => rfl⟩
      refine vX6_row 60 ?_
      simp only [↓S_X6_row_1, ↓S_X6_row_2, ↓pI_c, ↓pL_c, ↓pR_c, ↓pC_I, ↓pC_R, ↓pE_n, ↓gI_0, ↓gI_s, ↓gL_0, ↓gL_s, ↓gR_0, ↓gR_s, ↓popN_0, ↓popN_s, ↓kl_I, ↓kl_L, ↓kl_R, ↓kl_n, ↓put1_0, ↓put1_s, ↓putk_0, ↓putk_s, ↓put2_0, ↓put2_s, ↓putl_0, ↓putl_s, ↓callK_0, ↓callK_1, ↓callK_2, cats_n, cats_c, catA_I, catA_L, catA_R, KL, LV, lval_f, ltag_f, llen_f, lcm_lt, lcm_le, lcm_gt, lcm_ge, lcm_eq, lcm_R1, lcm_R2, inR, inL, true_and, and_true, eq_self, List.head?_cons, Option.some.injEq, Sum.inr.injEq, Sum.inl.injEq, false_or, or_false, true_or, or_true, Nat.reduceAdd, Nat.reduceLeDiff, Int.reduceLE, Int.reduceLT, Int.reduceEq, Int.reduceNeg, Int.reduceAdd, Int.reduceSub, Int.reduceMul, Int.reduceNe, ne_eq, not_false_eq_true, not_true_eq_false, false_implies, forall_const, Nat.le_refl, Nat.zero_le, implies_true, and_self]
      (repeat' (first | apply And.intro | intro _))
      all_goals (try first | omega | trivial | (rfl; done) | assumption | (exfalso; omega))
    | succ j ih =>
      intro ρ rest hj hρ h1 hw hf r0 r1
      obtain ⟨z, fa, fz⟩ := r_X6_firstAlone D ρ (by rw [h1]; exact hw)
      rw [h1] at fz
      rcases fz with ⟨rfl, hz⟩ | ⟨z0, z1, z2, z3⟩
      · have : frc (ρ 26) 0 (2 * n).toNat = 0 := rs_zero _ _ (fun c c0 c1 => by rw [if_neg (hz c c0 (by omega))])
        omega
      · have ej : ((j + 1 : Nat) : Int) = (j : Int) + 1 := by omega
        rw [ej] at r1
        obtain ⟨⟨b, b1, b2, b3, b4⟩, hm0, hm1⟩ := row_next (L := 2 * n) (m := ρ 26) (j := j) (rest := rest) (by omega) (by omega) (by omega) r0 r1 (a := z) z0 z1 z2 z3
        have ao := r_X6_allOf D ρ (j : Int) (by omega) (by omega)
        have hfp := fdv_s (j := (j : Int)) (by omega) (by omega)
        have hfq := fdv_s (j := (j : Int) + 1) (by omega) (by omega)
        have hw2 := hw.link z0 z1 (by omega) b2 (by omega) z2 b3
        have hi := up_lk2 ρ 26 z b
        obtain ⟨τ, g1, g2, g3, g4, g5⟩ := ih (up (up ρ 26 z b) 26 b z) (rest.tmod (fdv j)) (by omega) (fun x y hx hy => by unfold up; rw [if_neg (by omega), if_neg (by omega)]; exact hρ x y hx hy) (by unfold up; rw [if_neg (by omega), if_neg (by omega)]; exact h1) (by rw [hi]; exact hw2) (by rw [hi, frc_link z0 b1 b2 z2 b3]; omega) hm0 hm1
        rw [hi] at g5
        refine ⟨τ, ?_, g2, g3, g4, ⟨z, b, z0, b1, b2, z3, z2, b3, b4, g5⟩⟩
        have ti := r_X6_tie D ρ z b z0 (by omega) (by omega) (by omega)
        have e0 : 0 ≤ rest.tdiv (fdv j) := by rw [b4]; exact (frc_r _ _ _).1
        have e1 : rest.tdiv (fdv j) ≤ 24 := by rw [b4]; have := (frc_r (ρ 26) (z + 1) (b - (z + 1)).toNat).2; omega
        have wh : ∀ (i : Nat) (c s : Int), z < c → c + i = b → s = frc (ρ 26) c i → V (D + 1) miX6_row 6 (some (aI 1)) τ 82 [some (aR 6), some (aI n), some (aL k), none, some (aL (rest.tmod (fdv j))), none, some (aI ((j + 1 : Nat) : Int)), some (aI z), some (aL (fdv j)), none, some (aL s), none, some (aI c)] [] ρ := by
          intro i
          induction i with
          | zero =>
            intro c s c0 ci hs
            have : c = b := by omega
            subst this
            have hs : s = 0 := hs
            subst hs
            have e2 : ((j + 1 : Nat) : Int) + -1 = (j : Int) := by omega
            refine vX6_row 60 ?_
            simp only [↓S_X6_row_1, ↓S_X6_row_2, ↓pI_c, ↓pL_c, ↓pR_c, ↓pC_I, ↓pC_R, ↓pE_n, ↓gI_0, ↓gI_s, ↓gL_0, ↓gL_s, ↓gR_0, ↓gR_s, ↓popN_0, ↓popN_s, ↓kl_I, ↓kl_L, ↓kl_R, ↓kl_n, ↓put1_0, ↓put1_s, ↓putk_0, ↓putk_s, ↓put2_0, ↓put2_s, ↓putl_0, ↓putl_s, ↓callK_0, ↓callK_1, ↓callK_2, cats_n, cats_c, catA_I, catA_L, catA_R, KL, LV, lval_f, ltag_f, llen_f, lcm_lt, lcm_le, lcm_gt, lcm_ge, lcm_eq, lcm_R1, lcm_R2, inR, inL, true_and, and_true, eq_self, List.head?_cons, Option.some.injEq, Sum.inr.injEq, Sum.inl.injEq, false_or, or_false, true_or, or_true, Nat.reduceAdd, Nat.reduceLeDiff, Int.reduceLE, Int.reduceLT, Int.reduceEq, Int.reduceNeg, Int.reduceAdd, Int.reduceSub, Int.reduceMul, Int.reduceNe, ne_eq, not_false_eq_true, not_true_eq_false, false_implies, forall_const, Nat.le_refl, Nat.zero_le, implies_true, and_self]
            simp only [e2]
            (repeat' (first | apply And.intro | intro _ | with_reducible refine Exists.intro _ (Exists.intro _ (And.intro ti ?_)) | with_reducible refine Exists.intro _ (And.intro ti ?_)))
            all_goals (try first | omega | trivial | (rfl; done) | assumption | (exfalso; omega) | (exact g1) | (refine V.wk g1 ?_; simp [lle]; done))
          | succ i ih2 =>
            intro c s c0 ci hs
            rw [frc_s] at hs
            have hr := hw.r (show 0 ≤ c by omega) (show c < 24 by omega)
            have hf1 := frc_r (ρ 26) (c + 1) i
            have hf2 : frc (ρ 26) (c + 1) i ≤ 24 := by omega
            by_cases c3 : ρ 26 c = -1
            · rw [if_pos c3] at hs
              have t := ih2 (c + 1) (s - 1) (by omega) (by omega) (by omega)
              refine vX6_row 60 ?_
              simp only [↓S_X6_row_1, ↓S_X6_row_2, ↓pI_c, ↓pL_c, ↓pR_c, ↓pC_I, ↓pC_R, ↓pE_n, ↓gI_0, ↓gI_s, ↓gL_0, ↓gL_s, ↓gR_0, ↓gR_s, ↓popN_0, ↓popN_s, ↓kl_I, ↓kl_L, ↓kl_R, ↓kl_n, ↓put1_0, ↓put1_s, ↓putk_0, ↓putk_s, ↓put2_0, ↓put2_s, ↓putl_0, ↓putl_s, ↓callK_0, ↓callK_1, ↓callK_2, cats_n, cats_c, catA_I, catA_L, catA_R, KL, LV, lval_f, ltag_f, llen_f, lcm_lt, lcm_le, lcm_gt, lcm_ge, lcm_eq, lcm_R1, lcm_R2, inR, inL, true_and, and_true, eq_self, List.head?_cons, Option.some.injEq, Sum.inr.injEq, Sum.inl.injEq, false_or, or_false, true_or, or_true, Nat.reduceAdd, Nat.reduceLeDiff, Int.reduceLE, Int.reduceLT, Int.reduceEq, Int.reduceNeg, Int.reduceAdd, Int.reduceSub, Int.reduceMul, Int.reduceNe, ne_eq, not_false_eq_true, not_true_eq_false, false_implies, forall_const, Nat.le_refl, Nat.zero_le, implies_true, and_self]
              (repeat' (first | apply And.intro | intro _))
              all_goals (try first | omega | trivial | (rfl; done) | assumption | (exfalso; omega) | (exact t) | (refine V.wk t ?_; simp [lle]; done))
            · rw [if_neg c3] at hs
              have t := ih2 (c + 1) s (by omega) (by omega) (by omega)
              refine vX6_row 60 ?_
              simp only [↓S_X6_row_1, ↓S_X6_row_2, ↓pI_c, ↓pL_c, ↓pR_c, ↓pC_I, ↓pC_R, ↓pE_n, ↓gI_0, ↓gI_s, ↓gL_0, ↓gL_s, ↓gR_0, ↓gR_s, ↓popN_0, ↓popN_s, ↓kl_I, ↓kl_L, ↓kl_R, ↓kl_n, ↓put1_0, ↓put1_s, ↓putk_0, ↓putk_s, ↓put2_0, ↓put2_s, ↓putl_0, ↓putl_s, ↓callK_0, ↓callK_1, ↓callK_2, cats_n, cats_c, catA_I, catA_L, catA_R, KL, LV, lval_f, ltag_f, llen_f, lcm_lt, lcm_le, lcm_gt, lcm_ge, lcm_eq, lcm_R1, lcm_R2, inR, inL, true_and, and_true, eq_self, List.head?_cons, Option.some.injEq, Sum.inr.injEq, Sum.inl.injEq, false_or, or_false, true_or, or_true, Nat.reduceAdd, Nat.reduceLeDiff, Int.reduceLE, Int.reduceLT, Int.reduceEq, Int.reduceNeg, Int.reduceAdd, Int.reduceSub, Int.reduceMul, Int.reduceNe, ne_eq, not_false_eq_true, not_true_eq_false, false_implies, forall_const, Nat.le_refl, Nat.zero_le, implies_true, and_self]
              simp only [Int.sub_zero]
              (repeat' (first | apply And.intro | intro _))
              all_goals (try first | omega | trivial | (rfl; done) | assumption | (exfalso; omega) | (exact t) | (refine V.wk t ?_; simp [lle]; done))
        have t := wh (b - (z + 1)).toNat (z + 1) (rest.tdiv (fdv j)) (by omega) (by omega) b4
        have e3 : ((j + 1 : Nat) : Int) - 1 = (j : Int) := by omega
        refine vX6_row 60 ?_
        simp only [↓S_X6_row_1, ↓S_X6_row_2, ↓pI_c, ↓pL_c, ↓pR_c, ↓pC_I, ↓pC_R, ↓pE_n, ↓gI_0, ↓gI_s, ↓gL_0, ↓gL_s, ↓gR_0, ↓gR_s, ↓popN_0, ↓popN_s, ↓kl_I, ↓kl_L, ↓kl_R, ↓kl_n, ↓put1_0, ↓put1_s, ↓putk_0, ↓putk_s, ↓put2_0, ↓put2_s, ↓putl_0, ↓putl_s, ↓callK_0, ↓callK_1, ↓callK_2, cats_n, cats_c, catA_I, catA_L, catA_R, KL, LV, lval_f, ltag_f, llen_f, lcm_lt, lcm_le, lcm_gt, lcm_ge, lcm_eq, lcm_R1, lcm_R2, inR, inL, true_and, and_true, eq_self, List.head?_cons, Option.some.injEq, Sum.inr.injEq, Sum.inl.injEq, false_or, or_false, true_or, or_true, Nat.reduceAdd, Nat.reduceLeDiff, Int.reduceLE, Int.reduceLT, Int.reduceEq, Int.reduceNeg, Int.reduceAdd, Int.reduceSub, Int.reduceMul, Int.reduceNe, ne_eq, not_false_eq_true, not_true_eq_false, false_implies, forall_const, Nat.le_refl, Nat.zero_le, implies_true, and_self]
        simp only [e3]
        (repeat' (first | apply And.intro | intro _ | with_reducible refine Exists.intro _ (Exists.intro _ (And.intro fa ?_)) | with_reducible refine Exists.intro _ (And.intro fa ?_) | with_reducible refine Exists.intro _ (Exists.intro _ (And.intro ao ?_)) | with_reducible refine Exists.intro _ (And.intro ao ?_)))
        all_goals (try first | omega | trivial | (rfl; done) | assumption | (exfalso; omega) | (exact t) | (refine V.wk t ?_; simp [lle]; done))
  have h26 : ∀ b, 0 ≤ b → b < 24 → (ff (up σ 6 0 (2 * n)) 26 0 24 (-1)) 26 b = -1 := fun b h1 h2 => by
    unfold ff
    rw [if_pos ⟨rfl, h1, h2⟩]
  obtain ⟨τ, g1, g2, g3, g4, g5⟩ := loop n.toNat (ff (up σ 6 0 (2 * n)) 26 0 24 (-1)) k (by omega) (fun a b h1 h2 => by unfold ff up; rw [if_neg (fun z => h1 z.1), if_neg h2]) (by unfold ff up; rw [if_neg (by omega), if_pos (by omega)]) ⟨by omega, by omega, fun a a0 a1 => Or.inl (h26 a a0 (by omega)), fun a a0 a1 => h26 a (by omega) a1⟩ (by rw [frc_all _ _ _ (fun c c0 c1 => h26 c c0 (by omega))]; omega) hk (by rw [show ((n.toNat : Nat) : Int) = n from by omega]; exact hk2)
  refine ⟨τ, ?_, g2, g3, g4, g5⟩
  rw [show ((n.toNat : Nat) : Int) = n from by omega] at g1
  have i1 := r_X6_in D σ n 0 12 (by unfold inL; omega) (by unfold inL; omega) (by unfold inL; omega)
  have i2 := r_X6_in D σ k 0 (fdv n - 1) (by unfold inL; omega) (by unfold inL; omega) (by unfold inL; omega)
  rw [if_pos (by omega)] at i1
  rw [if_pos (by omega)] at i2
  have ao := r_X6_allOf D σ n hn hn2
  have cl := r_X6_clear D σ (2 * n)
  refine Ret.of 6 [some (aR 6), some (aI n), some (aL k), none, none, none, none, none, none, none, none, none, none] rfl (by decide) rfl (Nat.le_of_ble_eq_true rfl) ?_
  refine vX6_row 60 ?_
  simp only [↓S_X6_row_1, ↓S_X6_row_2, ↓pI_c, ↓pL_c, ↓pR_c, ↓pC_I, ↓pC_R, ↓pE_n, ↓gI_0, ↓gI_s, ↓gL_0, ↓gL_s, ↓gR_0, ↓gR_s, ↓popN_0, ↓popN_s, ↓kl_I, ↓kl_L, ↓kl_R, ↓kl_n, ↓put1_0, ↓put1_s, ↓putk_0, ↓putk_s, ↓put2_0, ↓put2_s, ↓putl_0, ↓putl_s, ↓callK_0, ↓callK_1, ↓callK_2, cats_n, cats_c, catA_I, catA_L, catA_R, KL, LV, lval_f, ltag_f, llen_f, lcm_lt, lcm_le, lcm_gt, lcm_ge, lcm_eq, lcm_R1, lcm_R2, inR, inL, true_and, and_true, eq_self, List.head?_cons, Option.some.injEq, Sum.inr.injEq, Sum.inl.injEq, false_or, or_false, true_or, or_true, Nat.reduceAdd, Nat.reduceLeDiff, Int.reduceLE, Int.reduceLT, Int.reduceEq, Int.reduceNeg, Int.reduceAdd, Int.reduceSub, Int.reduceMul, Int.reduceNe, ne_eq, not_false_eq_true, not_true_eq_false, false_implies, forall_const, Nat.le_refl, Nat.zero_le, implies_true, and_self]
  (repeat' (first | apply And.intro | intro _ | with_reducible refine Exists.intro _ (Exists.intro _ (And.intro i1 ?_)) | with_reducible refine Exists.intro _ (And.intro i1 ?_) | with_reducible refine Exists.intro _ (Exists.intro _ (And.intro ao ?_)) | with_reducible refine Exists.intro _ (And.intro ao ?_) | with_reducible refine Exists.intro _ (Exists.intro _ (And.intro i2 ?_)) | with_reducible refine Exists.intro _ (And.intro i2 ?_) | with_reducible refine Exists.intro _ (Exists.intro _ (And.intro cl ?_)) | with_reducible refine Exists.intro _ (And.intro cl ?_)))
  all_goals (try first | omega | trivial | (rfl; done) | assumption | (exfalso; omega) | (exact g1) | (refine V.wk g1 ?_; simp [lle]; done))
set_option maxRecDepth 100000 in
theorem r_X6_row_bad (D : Nat) (σ : Sg) (n k : Int) (hn : inR n) (hk : inL k) (h : ¬ (0 ≤ n ∧ n ≤ 12 ∧ 0 ≤ k ∧ k < fdv n)) : Ret (D + 2) miX6_row [aR 6, aI n, aL k] σ (some (aI (-2))) σ := by
  have i1 := r_X6_in D σ n 0 12 (by unfold inL; omega) (by unfold inL; omega) (by unfold inL; omega)
  by_cases c : 0 ≤ n ∧ n ≤ 12
  · have hf0 := fdv_s c.1 (by omega)
    have i2 := r_X6_in D σ k 0 (fdv n - 1) hk (by unfold inL; omega) (by unfold inL; omega)
    rw [if_pos c] at i1
    rw [if_neg (by omega)] at i2
    have ao := r_X6_allOf D σ n c.1 c.2
    refine Ret.of 6 [some (aR 6), some (aI n), some (aL k), none, none, none, none, none, none, none, none, none, none] rfl (by decide) rfl (Nat.le_of_ble_eq_true rfl) ?_
    refine vX6_row 60 ?_
    simp only [↓S_X6_row_1, ↓S_X6_row_2, ↓pI_c, ↓pL_c, ↓pR_c, ↓pC_I, ↓pC_R, ↓pE_n, ↓gI_0, ↓gI_s, ↓gL_0, ↓gL_s, ↓gR_0, ↓gR_s, ↓popN_0, ↓popN_s, ↓kl_I, ↓kl_L, ↓kl_R, ↓kl_n, ↓put1_0, ↓put1_s, ↓putk_0, ↓putk_s, ↓put2_0, ↓put2_s, ↓putl_0, ↓putl_s, ↓callK_0, ↓callK_1, ↓callK_2, cats_n, cats_c, catA_I, catA_L, catA_R, KL, LV, lval_f, ltag_f, llen_f, lcm_lt, lcm_le, lcm_gt, lcm_ge, lcm_eq, lcm_R1, lcm_R2, inR, inL, true_and, and_true, eq_self, List.head?_cons, Option.some.injEq, Sum.inr.injEq, Sum.inl.injEq, false_or, or_false, true_or, or_true, Nat.reduceAdd, Nat.reduceLeDiff, Int.reduceLE, Int.reduceLT, Int.reduceEq, Int.reduceNeg, Int.reduceAdd, Int.reduceSub, Int.reduceMul, Int.reduceNe, ne_eq, not_false_eq_true, not_true_eq_false, false_implies, forall_const, Nat.le_refl, Nat.zero_le, implies_true, and_self]
    (repeat' (first | apply And.intro | intro _ | with_reducible refine Exists.intro _ (Exists.intro _ (And.intro i1 ?_)) | with_reducible refine Exists.intro _ (And.intro i1 ?_) | with_reducible refine Exists.intro _ (Exists.intro _ (And.intro ao ?_)) | with_reducible refine Exists.intro _ (And.intro ao ?_) | with_reducible refine Exists.intro _ (Exists.intro _ (And.intro i2 ?_)) | with_reducible refine Exists.intro _ (And.intro i2 ?_)))
    all_goals (try first | omega | trivial | (rfl; done) | assumption | (exfalso; omega))
  · rw [if_neg c] at i1
    refine Ret.of 6 [some (aR 6), some (aI n), some (aL k), none, none, none, none, none, none, none, none, none, none] rfl (by decide) rfl (Nat.le_of_ble_eq_true rfl) ?_
    refine vX6_row 60 ?_
    simp only [↓S_X6_row_1, ↓S_X6_row_2, ↓pI_c, ↓pL_c, ↓pR_c, ↓pC_I, ↓pC_R, ↓pE_n, ↓gI_0, ↓gI_s, ↓gL_0, ↓gL_s, ↓gR_0, ↓gR_s, ↓popN_0, ↓popN_s, ↓kl_I, ↓kl_L, ↓kl_R, ↓kl_n, ↓put1_0, ↓put1_s, ↓putk_0, ↓putk_s, ↓put2_0, ↓put2_s, ↓putl_0, ↓putl_s, ↓callK_0, ↓callK_1, ↓callK_2, cats_n, cats_c, catA_I, catA_L, catA_R, KL, LV, lval_f, ltag_f, llen_f, lcm_lt, lcm_le, lcm_gt, lcm_ge, lcm_eq, lcm_R1, lcm_R2, inR, inL, true_and, and_true, eq_self, List.head?_cons, Option.some.injEq, Sum.inr.injEq, Sum.inl.injEq, false_or, or_false, true_or, or_true, Nat.reduceAdd, Nat.reduceLeDiff, Int.reduceLE, Int.reduceLT, Int.reduceEq, Int.reduceNeg, Int.reduceAdd, Int.reduceSub, Int.reduceMul, Int.reduceNe, ne_eq, not_false_eq_true, not_true_eq_false, false_implies, forall_const, Nat.le_refl, Nat.zero_le, implies_true, and_self]
    (repeat' (first | apply And.intro | intro _ | with_reducible refine Exists.intro _ (Exists.intro _ (And.intro i1 ?_)) | with_reducible refine Exists.intro _ (And.intro i1 ?_)))
    all_goals (try first | omega | trivial | (rfl; done) | assumption | (exfalso; omega))

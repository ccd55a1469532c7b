/-! the model's layCrossings: its outer loops; many on both sides -/
set_option maxRecDepth 100000 in
theorem lc_h (D : Nat) (σ : Sg) (n s : Int) (B : Int → Int → Int) (n0 : 0 ≤ n) (n1 : n ≤ 12) (hB : ∀ H X, 0 ≤ H → H < 14 → 0 ≤ B H X ∧ B H X < 1000000000000000000)
    (cont : ∀ χ', LF σ χ' → Rw χ' 33 (Gq n B (n + 1) 0) → ∃ τ, V D miX6_layCrossings 6 none τ 32 [some (aR 6), some (aI n), some (aI (s + 1)), none, none, none, none, none] [] χ' ∧ LQ σ n τ) : ∀ (k : Nat) (h0 : Int) (χ : Sg), 0 ≤ h0 → h0 + k = n + 1 → LF σ χ → Rw χ 34 B → Rw χ 33 (Gq n B h0 0) → ∃ τ, V D miX6_layCrossings 6 none τ 75 [some (aR 6), some (aI n), some (aI s), some (aI h0), none, none, none, none] [] χ ∧ LQ σ n τ := by
  intro k
  induction k with
  | zero =>
    intro h0 χ h00 hk hf hb hq
    rw [show h0 = n + 1 from by omega] at hq ⊢
    obtain ⟨τ, t, tr⟩ := cont χ hf hq
    refine ⟨τ, ?_, tr⟩
    refine vX6_layCrossings 100 ?_
    simp only [↓S_X6_layCrossings_1, ↓S_X6_layCrossings_2, ↓S_X6_layCrossings_3, ↓S_X6_layCrossings_4, ↓pI_c, ↓pL_c, ↓pR_c, ↓pC_I, ↓pC_R, ↓pE_n, ↓gI_0, ↓gI_s, ↓gL_0, ↓gL_s, ↓gR_0, ↓gR_s, ↓popN_0, ↓popN_s, ↓kl_I, ↓kl_L, ↓kl_R, ↓kl_n, ↓put1_0, ↓put1_s, ↓putk_0, ↓putk_s, ↓put2_0, ↓put2_s, ↓putl_0, ↓putl_s, ↓callK_0, ↓callK_1, ↓callK_2, cats_n, cats_c, catA_I, catA_L, catA_R, KL, LV, lval_f, ltag_f, llen_f, lcm_lt, lcm_le, lcm_gt, lcm_ge, lcm_eq, lcm_R1, lcm_R2, inR, inL, true_and, and_true, eq_self, List.head?_cons, Option.some.injEq, Sum.inr.injEq, Sum.inl.injEq, false_or, or_false, true_or, or_true, Nat.reduceAdd, Nat.reduceLeDiff, Int.reduceLE, Int.reduceLT, Int.reduceEq, Int.reduceNeg, Int.reduceAdd, Int.reduceSub, Int.reduceMul, Int.reduceNe, ne_eq, not_false_eq_true, not_true_eq_false, false_implies, forall_const, Nat.le_refl, Nat.zero_le, implies_true, and_self]
    (repeat' (first | apply And.intro | intro _))
    all_goals (try first | omega | trivial | (rfl; done) | assumption | (exfalso; omega) | (exact t) | (refine V.wk t ?_; simp [lle]; done))
  | succ k ih =>
    intro h0 χ h00 hk hf hb hq
    have xl : ∀ (j : Nat) (x0 : Int) (χ : Sg), 0 ≤ x0 → x0 + j = 67 → LF σ χ → Rw χ 34 B → Rw χ 33 (Gq n B h0 x0) → ∃ τ, V D miX6_layCrossings 6 none τ 83 [some (aR 6), some (aI n), some (aI s), some (aI h0), some (aI x0), none, none, none] [] χ ∧ LQ σ n τ := by
      intro j
      induction j with
      | zero =>
        intro x0 χ x00 xj hf hb hq
        rw [show x0 = 67 from by omega] at hq ⊢
        obtain ⟨τ, t, tr⟩ := ih (h0 + 1) χ (by omega) (by omega) hf hb (fun H X H0 H1 X0 X1 => by rw [hq H X H0 H1 X0 X1, Gq_row X0 X1 H0])
        refine ⟨τ, ?_, tr⟩
        refine vX6_layCrossings 100 ?_
        simp only [↓S_X6_layCrossings_1, ↓S_X6_layCrossings_2, ↓S_X6_layCrossings_3, ↓S_X6_layCrossings_4, ↓pI_c, ↓pL_c, ↓pR_c, ↓pC_I, ↓pC_R, ↓pE_n, ↓gI_0, ↓gI_s, ↓gL_0, ↓gL_s, ↓gR_0, ↓gR_s, ↓popN_0, ↓popN_s, ↓kl_I, ↓kl_L, ↓kl_R, ↓kl_n, ↓put1_0, ↓put1_s, ↓putk_0, ↓putk_s, ↓put2_0, ↓put2_s, ↓putl_0, ↓putl_s, ↓callK_0, ↓callK_1, ↓callK_2, cats_n, cats_c, catA_I, catA_L, catA_R, KL, LV, lval_f, ltag_f, llen_f, lcm_lt, lcm_le, lcm_gt, lcm_ge, lcm_eq, lcm_R1, lcm_R2, inR, inL, true_and, and_true, eq_self, List.head?_cons, Option.some.injEq, Sum.inr.injEq, Sum.inl.injEq, false_or, or_false, true_or, or_true, Nat.reduceAdd, Nat.reduceLeDiff, Int.reduceLE, Int.reduceLT, Int.reduceEq, Int.reduceNeg, Int.reduceAdd, Int.reduceSub, Int.reduceMul, Int.reduceNe, ne_eq, not_false_eq_true, not_true_eq_false, false_implies, forall_const, Nat.le_refl, Nat.zero_le, implies_true, and_self]
        (repeat' (first | apply And.intro | intro _))
        all_goals (try first | omega | trivial | (rfl; done) | assumption | (exfalso; omega) | (exact t) | (refine V.wk t ?_; simp [lle]; done))
      | succ j ihj =>
        intro x0 χ x00 xj hf hb hq
        exact lc_x D σ χ n s h0 x0 B n0 n1 h00 (by omega) x00 (by omega) hB hf hb hq (fun χ' a b c => ihj (x0 + 1) χ' (by omega) (by omega) a b c)
    obtain ⟨τ, t, tr⟩ := xl 67 0 χ (by omega) (by omega) hf hb hq
    refine ⟨τ, ?_, tr⟩
    refine vX6_layCrossings 100 ?_
    simp only [↓S_X6_layCrossings_1, ↓S_X6_layCrossings_2, ↓S_X6_layCrossings_3, ↓S_X6_layCrossings_4, ↓pI_c, ↓pL_c, ↓pR_c, ↓pC_I, ↓pC_R, ↓pE_n, ↓gI_0, ↓gI_s, ↓gL_0, ↓gL_s, ↓gR_0, ↓gR_s, ↓popN_0, ↓popN_s, ↓kl_I, ↓kl_L, ↓kl_R, ↓kl_n, ↓put1_0, ↓put1_s, ↓putk_0, ↓putk_s, ↓put2_0, ↓put2_s, ↓putl_0, ↓putl_s, ↓callK_0, ↓callK_1, ↓callK_2, cats_n, cats_c, catA_I, catA_L, catA_R, KL, LV, lval_f, ltag_f, llen_f, lcm_lt, lcm_le, lcm_gt, lcm_ge, lcm_eq, lcm_R1, lcm_R2, inR, inL, true_and, and_true, eq_self, List.head?_cons, Option.some.injEq, Sum.inr.injEq, Sum.inl.injEq, false_or, or_false, true_or, or_true, Nat.reduceAdd, Nat.reduceLeDiff, Int.reduceLE, Int.reduceLT, Int.reduceEq, Int.reduceNeg, Int.reduceAdd, Int.reduceSub, Int.reduceMul, Int.reduceNe, ne_eq, not_false_eq_true, not_true_eq_false, false_implies, forall_const, Nat.le_refl, Nat.zero_le, implies_true, and_self]
    (repeat' (first | apply And.intro | intro _))
    all_goals (try first | omega | trivial | (rfl; done) | assumption | (exfalso; omega) | (exact t) | (refine V.wk t ?_; simp [lle]; done))
set_option maxRecDepth 100000 in
theorem r_X6_layCrossings (D : Nat) (σ : Sg) (n : Int) (n0 : 0 ≤ n) (n1 : n ≤ 12) : ∃ τ, Ret (D + 1) miX6_layCrossings [aR 6, aI n] σ none τ ∧ LQ σ n τ := by
  have l33 : llen 33 = 938 := rfl
  have c33 : klen 33 = 938 := rfl
  have c34 : klen 34 = 938 := rfl
  have steps : ∀ (k s : Nat) (χ : Sg), (s : Int) + k = 2 * n → LF σ χ → Rw χ 33 (Pn n s) → ∃ τ, V D miX6_layCrossings 6 none τ 32 [some (aR 6), some (aI n), some (aI s), none, none, none, none, none] [] χ ∧ LQ σ n τ := by
    intro k
    induction k with
    | zero =>
      intro s χ sk hf hq
      refine ⟨χ, ?_, hf, fun v v0 v1 => ?_⟩
      · refine vX6_layCrossings 100 ?_
        simp only [↓S_X6_layCrossings_1, ↓S_X6_layCrossings_2, ↓S_X6_layCrossings_3, ↓S_X6_layCrossings_4, ↓pI_c, ↓pL_c, ↓pR_c, ↓pC_I, ↓pC_R, ↓pE_n, ↓gI_0, ↓gI_s, ↓gL_0, ↓gL_s, ↓gR_0, ↓gR_s, ↓popN_0, ↓popN_s, ↓kl_I, ↓kl_L, ↓kl_R, ↓kl_n, ↓put1_0, ↓put1_s, ↓putk_0, ↓putk_s, ↓put2_0, ↓put2_s, ↓putl_0, ↓putl_s, ↓callK_0, ↓callK_1, ↓callK_2, cats_n, cats_c, catA_I, catA_L, catA_R, KL, LV, lval_f, ltag_f, llen_f, lcm_lt, lcm_le, lcm_gt, lcm_ge, lcm_eq, lcm_R1, lcm_R2, inR, inL, true_and, and_true, eq_self, List.head?_cons, Option.some.injEq, Sum.inr.injEq, Sum.inl.injEq, false_or, or_false, true_or, or_true, Nat.reduceAdd, Nat.reduceLeDiff, Int.reduceLE, Int.reduceLT, Int.reduceEq, Int.reduceNeg, Int.reduceAdd, Int.reduceSub, Int.reduceMul, Int.reduceNe, ne_eq, not_false_eq_true, not_true_eq_false, false_implies, forall_const, Nat.le_refl, Nat.zero_le, implies_true, and_self]
        (repeat' (first | apply And.intro | intro _))
        all_goals (try first | omega | trivial | (rfl; done) | assumption | (exfalso; omega))
      · have := hq 0 v (by omega) (by omega) v0 v1
        rw [show (67 * 0 + v : Int) = v from by omega] at this
        rw [this, Pn_eq n0 s 0 v (by omega) (by omega), show (2 * n).toNat = s from by omega]
    | succ k ih =>
      intro s χ sk hf hq
      have hB : ∀ H X, 0 ≤ H → H < 14 → 0 ≤ Pn n s H X ∧ Pn n s H X < 1000000000000000000 := fun H X H0 H1 => by
        have h1 := Pn_le n s H X
        have h2 := Pc_L (s := s) (h := H) (x := X) (by omega) H0 (by omega)
        omega
      have hl := lc_h D σ n s (Pn n s) n0 n1 hB (fun χ' a b => by
        obtain ⟨τ, t, tr⟩ := ih (s + 1) χ' (by omega) a (fun H X H0 H1 X0 X1 => by rw [b H X H0 H1 X0 X1, Gq_end n0 H0])
        rw [show ((s + 1 : Nat) : Int) = (s : Int) + 1 from by omega] at t
        exact ⟨τ, t, tr⟩)
      have cp : ∀ (j : Nat) (i : Int) (ψ : Sg), 0 ≤ i → i + j = 938 → LF σ ψ → (∀ q, 0 ≤ q → q < i → ψ 34 q = χ 33 q ∧ ψ 33 q = 0) → (∀ q, i ≤ q → ψ 33 q = χ 33 q) → ∃ τ, V D miX6_layCrossings 6 none τ 41 [some (aR 6), some (aI n), some (aI s), some (aI i), none, none, none, none] [] ψ ∧ LQ σ n τ := by
        intro j
        induction j with
        | zero =>
          intro i ψ i0 ij hf h1 h2
          obtain ⟨τ, t, tr⟩ := hl (n + 1).toNat 0 ψ (by omega) (by omega) hf (fun H X H0 H1 X0 X1 => by rw [(h1 (67 * H + X) (by omega) (by omega)).1]; exact hq H X H0 H1 X0 X1) (fun H X H0 H1 X0 X1 => by rw [(h1 (67 * H + X) (by omega) (by omega)).2, Gq_0 H0 X0])
          refine ⟨τ, ?_, tr⟩
          refine vX6_layCrossings 100 ?_
          simp only [↓S_X6_layCrossings_1, ↓S_X6_layCrossings_2, ↓S_X6_layCrossings_3, ↓S_X6_layCrossings_4, ↓pI_c, ↓pL_c, ↓pR_c, ↓pC_I, ↓pC_R, ↓pE_n, ↓gI_0, ↓gI_s, ↓gL_0, ↓gL_s, ↓gR_0, ↓gR_s, ↓popN_0, ↓popN_s, ↓kl_I, ↓kl_L, ↓kl_R, ↓kl_n, ↓put1_0, ↓put1_s, ↓putk_0, ↓putk_s, ↓put2_0, ↓put2_s, ↓putl_0, ↓putl_s, ↓callK_0, ↓callK_1, ↓callK_2, cats_n, cats_c, catA_I, catA_L, catA_R, KL, LV, lval_f, ltag_f, llen_f, lcm_lt, lcm_le, lcm_gt, lcm_ge, lcm_eq, lcm_R1, lcm_R2, inR, inL, true_and, and_true, eq_self, List.head?_cons, Option.some.injEq, Sum.inr.injEq, Sum.inl.injEq, false_or, or_false, true_or, or_true, Nat.reduceAdd, Nat.reduceLeDiff, Int.reduceLE, Int.reduceLT, Int.reduceEq, Int.reduceNeg, Int.reduceAdd, Int.reduceSub, Int.reduceMul, Int.reduceNe, ne_eq, not_false_eq_true, not_true_eq_false, false_implies, forall_const, Nat.le_refl, Nat.zero_le, implies_true, and_self]
          (repeat' (first | apply And.intro | intro _))
          all_goals (try first | omega | trivial | (rfl; done) | assumption | (exfalso; omega) | (exact t) | (refine V.wk t ?_; simp [lle]; done))
        | succ j ihj =>
          intro i ψ i0 ij hf h1 h2
          obtain ⟨τ, t, tr⟩ := ihj (i + 1) (up (up ψ 34 i (ψ 33 i)) 33 i 0) (by omega) (by omega) (fun x y x1 x2 => by unfold up; rw [if_neg (by omega), if_neg (by omega)]; exact hf x y x1 x2) (fun q q0 q1 => by
            unfold up
            by_cases c : q = i
            · rw [if_neg (by omega), if_pos ⟨rfl, c⟩, if_pos ⟨rfl, c⟩]
              subst c
              exact ⟨h2 q (by omega), rfl⟩
            · rw [if_neg (by omega), if_neg (by omega), if_neg (by omega), if_neg (by omega)]
              exact h1 q q0 (by omega)) (fun q q0 => by unfold up; rw [if_neg (by omega), if_neg (by omega)]; exact h2 q (by omega))
          refine ⟨τ, ?_, tr⟩
          refine vX6_layCrossings 100 ?_
          simp only [↓S_X6_layCrossings_1, ↓S_X6_layCrossings_2, ↓S_X6_layCrossings_3, ↓S_X6_layCrossings_4, ↓pI_c, ↓pL_c, ↓pR_c, ↓pC_I, ↓pC_R, ↓pE_n, ↓gI_0, ↓gI_s, ↓gL_0, ↓gL_s, ↓gR_0, ↓gR_s, ↓popN_0, ↓popN_s, ↓kl_I, ↓kl_L, ↓kl_R, ↓kl_n, ↓put1_0, ↓put1_s, ↓putk_0, ↓putk_s, ↓put2_0, ↓put2_s, ↓putl_0, ↓putl_s, ↓callK_0, ↓callK_1, ↓callK_2, cats_n, cats_c, catA_I, catA_L, catA_R, KL, LV, lval_f, ltag_f, llen_f, lcm_lt, lcm_le, lcm_gt, lcm_ge, lcm_eq, lcm_R1, lcm_R2, inR, inL, true_and, and_true, eq_self, List.head?_cons, Option.some.injEq, Sum.inr.injEq, Sum.inl.injEq, false_or, or_false, true_or, or_true, Nat.reduceAdd, Nat.reduceLeDiff, Int.reduceLE, Int.reduceLT, Int.reduceEq, Int.reduceNeg, Int.reduceAdd, Int.reduceSub, Int.reduceMul, Int.reduceNe, ne_eq, not_false_eq_true, not_true_eq_false, false_implies, forall_const, Nat.le_refl, Nat.zero_le, implies_true, and_self]
          simp only [l33, c33, c34]
          (repeat' (first | apply And.intro | intro _))
          all_goals (try first | omega | trivial | (rfl; done) | assumption | (exfalso; omega) | (exact t) | (refine V.wk t ?_; simp [lle]; done))
      obtain ⟨τ, t, tr⟩ := cp 938 0 χ (by omega) (by omega) hf (fun q q0 q1 => by omega) (fun q q0 => rfl)
      refine ⟨τ, ?_, tr⟩
      refine vX6_layCrossings 100 ?_
      simp only [↓S_X6_layCrossings_1, ↓S_X6_layCrossings_2, ↓S_X6_layCrossings_3, ↓S_X6_layCrossings_4, ↓pI_c, ↓pL_c, ↓pR_c, ↓pC_I, ↓pC_R, ↓pE_n, ↓gI_0, ↓gI_s, ↓gL_0, ↓gL_s, ↓gR_0, ↓gR_s, ↓popN_0, ↓popN_s, ↓kl_I, ↓kl_L, ↓kl_R, ↓kl_n, ↓put1_0, ↓put1_s, ↓putk_0, ↓putk_s, ↓put2_0, ↓put2_s, ↓putl_0, ↓putl_s, ↓callK_0, ↓callK_1, ↓callK_2, cats_n, cats_c, catA_I, catA_L, catA_R, KL, LV, lval_f, ltag_f, llen_f, lcm_lt, lcm_le, lcm_gt, lcm_ge, lcm_eq, lcm_R1, lcm_R2, inR, inL, true_and, and_true, eq_self, List.head?_cons, Option.some.injEq, Sum.inr.injEq, Sum.inl.injEq, false_or, or_false, true_or, or_true, Nat.reduceAdd, Nat.reduceLeDiff, Int.reduceLE, Int.reduceLT, Int.reduceEq, Int.reduceNeg, Int.reduceAdd, Int.reduceSub, Int.reduceMul, Int.reduceNe, ne_eq, not_false_eq_true, not_true_eq_false, false_implies, forall_const, Nat.le_refl, Nat.zero_le, implies_true, and_self]
      (repeat' (first | apply And.intro | intro _))
      all_goals (try first | omega | trivial | (rfl; done) | assumption | (exfalso; omega) | (exact t) | (refine V.wk t ?_; simp [lle]; done))
  have init : ∀ (j : Nat) (i : Int) (ψ : Sg), 0 ≤ i → i + j = 938 → LF σ ψ → (∀ q, 0 ≤ q → q < i → ψ 33 q = if q = 0 then 1 else 0) → ∃ τ, V D miX6_layCrossings 6 none τ 2 [some (aR 6), some (aI n), some (aI i), none, none, none, none, none] [] ψ ∧ LQ σ n τ := by
    intro j
    induction j with
    | zero =>
      intro i ψ i0 ij hf h1
      obtain ⟨τ, t, tr⟩ := steps (2 * n).toNat 0 ψ (by omega) hf (fun H X H0 H1 X0 X1 => by
        rw [h1 _ (by omega) (by omega)]
        show _ = (if H = 0 ∧ X = 0 then 1 else 0 : Int)
        by_cases c : H = 0 ∧ X = 0
        · rw [if_pos c, if_pos (by omega)]
        · rw [if_neg c, if_neg (by omega)])
      refine ⟨τ, ?_, tr⟩
      refine vX6_layCrossings 100 ?_
      simp only [↓S_X6_layCrossings_1, ↓S_X6_layCrossings_2, ↓S_X6_layCrossings_3, ↓S_X6_layCrossings_4, ↓pI_c, ↓pL_c, ↓pR_c, ↓pC_I, ↓pC_R, ↓pE_n, ↓gI_0, ↓gI_s, ↓gL_0, ↓gL_s, ↓gR_0, ↓gR_s, ↓popN_0, ↓popN_s, ↓kl_I, ↓kl_L, ↓kl_R, ↓kl_n, ↓put1_0, ↓put1_s, ↓putk_0, ↓putk_s, ↓put2_0, ↓put2_s, ↓putl_0, ↓putl_s, ↓callK_0, ↓callK_1, ↓callK_2, cats_n, cats_c, catA_I, catA_L, catA_R, KL, LV, lval_f, ltag_f, llen_f, lcm_lt, lcm_le, lcm_gt, lcm_ge, lcm_eq, lcm_R1, lcm_R2, inR, inL, true_and, and_true, eq_self, List.head?_cons, Option.some.injEq, Sum.inr.injEq, Sum.inl.injEq, false_or, or_false, true_or, or_true, Nat.reduceAdd, Nat.reduceLeDiff, Int.reduceLE, Int.reduceLT, Int.reduceEq, Int.reduceNeg, Int.reduceAdd, Int.reduceSub, Int.reduceMul, Int.reduceNe, ne_eq, not_false_eq_true, not_true_eq_false, false_implies, forall_const, Nat.le_refl, Nat.zero_le, implies_true, and_self]
      (repeat' (first | apply And.intro | intro _))
      all_goals (try first | omega | trivial | (rfl; done) | assumption | (exfalso; omega) | (exact t) | (refine V.wk t ?_; simp [lle]; done))
    | succ j ihj =>
      intro i ψ i0 ij hf h1
      obtain ⟨τ, t, tr⟩ := ihj (i + 1) (up ψ 33 i (if i = 0 then 1 else 0)) (by omega) (by omega) (fun x y x1 x2 => by unfold up; rw [if_neg (by omega)]; exact hf x y x1 x2) (fun q q0 q1 => by
        unfold up
        by_cases c : q = i
        · rw [if_pos ⟨rfl, c⟩, c]
        · rw [if_neg (by omega)]
          exact h1 q q0 (by omega))
      refine ⟨τ, ?_, tr⟩
      by_cases c : i = 0
      · rw [if_pos c] at t
        refine vX6_layCrossings 100 ?_
        simp only [↓S_X6_layCrossings_1, ↓S_X6_layCrossings_2, ↓S_X6_layCrossings_3, ↓S_X6_layCrossings_4, ↓pI_c, ↓pL_c, ↓pR_c, ↓pC_I, ↓pC_R, ↓pE_n, ↓gI_0, ↓gI_s, ↓gL_0, ↓gL_s, ↓gR_0, ↓gR_s, ↓popN_0, ↓popN_s, ↓kl_I, ↓kl_L, ↓kl_R, ↓kl_n, ↓put1_0, ↓put1_s, ↓putk_0, ↓putk_s, ↓put2_0, ↓put2_s, ↓putl_0, ↓putl_s, ↓callK_0, ↓callK_1, ↓callK_2, cats_n, cats_c, catA_I, catA_L, catA_R, KL, LV, lval_f, ltag_f, llen_f, lcm_lt, lcm_le, lcm_gt, lcm_ge, lcm_eq, lcm_R1, lcm_R2, inR, inL, true_and, and_true, eq_self, List.head?_cons, Option.some.injEq, Sum.inr.injEq, Sum.inl.injEq, false_or, or_false, true_or, or_true, Nat.reduceAdd, Nat.reduceLeDiff, Int.reduceLE, Int.reduceLT, Int.reduceEq, Int.reduceNeg, Int.reduceAdd, Int.reduceSub, Int.reduceMul, Int.reduceNe, ne_eq, not_false_eq_true, not_true_eq_false, false_implies, forall_const, Nat.le_refl, Nat.zero_le, implies_true, and_self]
        (repeat' (first | apply And.intro | intro _))
        all_goals (try first | omega | trivial | (rfl; done) | assumption | (exfalso; omega) | (exact t) | (refine V.wk t ?_; simp [lle]; done))
      · rw [if_neg c] at t
        refine vX6_layCrossings 100 ?_
        simp only [↓S_X6_layCrossings_1, ↓S_X6_layCrossings_2, ↓S_X6_layCrossings_3, ↓S_X6_layCrossings_4, ↓pI_c, ↓pL_c, ↓pR_c, ↓pC_I, ↓pC_R, ↓pE_n, ↓gI_0, ↓gI_s, ↓gL_0, ↓gL_s, ↓gR_0, ↓gR_s, ↓popN_0, ↓popN_s, ↓kl_I, ↓kl_L, ↓kl_R, ↓kl_n, ↓put1_0, ↓put1_s, ↓putk_0, ↓putk_s, ↓put2_0, ↓put2_s, ↓putl_0, ↓putl_s, ↓callK_0, ↓callK_1, ↓callK_2, cats_n, cats_c, catA_I, catA_L, catA_R, KL, LV, lval_f, ltag_f, llen_f, lcm_lt, lcm_le, lcm_gt, lcm_ge, lcm_eq, lcm_R1, lcm_R2, inR, inL, true_and, and_true, eq_self, List.head?_cons, Option.some.injEq, Sum.inr.injEq, Sum.inl.injEq, false_or, or_false, true_or, or_true, Nat.reduceAdd, Nat.reduceLeDiff, Int.reduceLE, Int.reduceLT, Int.reduceEq, Int.reduceNeg, Int.reduceAdd, Int.reduceSub, Int.reduceMul, Int.reduceNe, ne_eq, not_false_eq_true, not_true_eq_false, false_implies, forall_const, Nat.le_refl, Nat.zero_le, implies_true, and_self]
        (repeat' (first | apply And.intro | intro _))
        all_goals (try first | omega | trivial | (rfl; done) | assumption | (exfalso; omega) | (exact t) | (refine V.wk t ?_; simp [lle]; done))
  obtain ⟨τ, t, tr⟩ := init 938 0 σ (by omega) (by omega) (fun _ _ _ _ => rfl) (fun q q0 q1 => by omega)
  refine ⟨τ, ?_, tr⟩
  refine Ret.of 6 [some (aR 6), some (aI n), none, none, none, none, none, none] rfl (by decide) rfl (Nat.le_of_ble_eq_true rfl) ?_
  refine vX6_layCrossings 100 ?_
  simp only [↓S_X6_layCrossings_1, ↓S_X6_layCrossings_2, ↓S_X6_layCrossings_3, ↓S_X6_layCrossings_4, ↓pI_c, ↓pL_c, ↓pR_c, ↓pC_I, ↓pC_R, ↓pE_n, ↓gI_0, ↓gI_s, ↓gL_0, ↓gL_s, ↓gR_0, ↓gR_s, ↓popN_0, ↓popN_s, ↓kl_I, ↓kl_L, ↓kl_R, ↓kl_n, ↓put1_0, ↓put1_s, ↓putk_0, ↓putk_s, ↓put2_0, ↓put2_s, ↓putl_0, ↓putl_s, ↓callK_0, ↓callK_1, ↓callK_2, cats_n, cats_c, catA_I, catA_L, catA_R, KL, LV, lval_f, ltag_f, llen_f, lcm_lt, lcm_le, lcm_gt, lcm_ge, lcm_eq, lcm_R1, lcm_R2, inR, inL, true_and, and_true, eq_self, List.head?_cons, Option.some.injEq, Sum.inr.injEq, Sum.inl.injEq, false_or, or_false, true_or, or_true, Nat.reduceAdd, Nat.reduceLeDiff, Int.reduceLE, Int.reduceLT, Int.reduceEq, Int.reduceNeg, Int.reduceAdd, Int.reduceSub, Int.reduceMul, Int.reduceNe, ne_eq, not_false_eq_true, not_true_eq_false, false_implies, forall_const, Nat.le_refl, Nat.zero_le, implies_true, and_self]
  (repeat' (first | apply And.intro | intro _))
  all_goals (try first | omega | trivial | (rfl; done) | assumption | (exfalso; omega) | (exact t) | (refine V.wk t ?_; simp [lle]; done))
/-- the value of many -/
def mny (w n v : Int) : Int := if 0 ≤ w ∧ w ≤ 2 ∧ 0 ≤ n ∧ n ≤ 12 then (if w = 0 then (if 0 ≤ v ∧ v ≤ 6 then hq (8 * n + v) else 0) else (if 0 ≤ v ∧ v ≤ 66 then Pc (2 * n).toNat 0 v else 0)) else -2
set_option maxRecDepth 100000 in
theorem r_X6_many (D : Nat) (σ : Sg) (w n v : Int) (hw : inR w) (hn : inR n) (hv : inR v) : ∃ τ, Ret (D + 2) miX6_many [aR 6, aI w, aI n, aI v] σ (some (aL (mny w n v))) τ ∧ (∀ x y, x ≠ 32 → x ≠ 33 → x ≠ 34 → τ x y = σ x y) := by
  have l32 : llen 32 = 104 := rfl
  have l33 : llen 33 = 938 := rfl
  have i1 := r_X6_in D σ w 0 2 (by unfold inL; omega) (by unfold inL; omega) (by unfold inL; omega)
  have i2 := r_X6_in D σ n 0 12 (by unfold inL; omega) (by unfold inL; omega) (by unfold inL; omega)
  unfold mny
  by_cases c1 : 0 ≤ w ∧ w ≤ 2
  · rw [if_pos c1] at i1
    by_cases c2 : 0 ≤ n ∧ n ≤ 12
    · rw [if_pos c2] at i2
      rw [if_pos (by omega)]
      by_cases c3 : w = 0
      · rw [if_pos c3]
        obtain ⟨τ, lh, g1, g2⟩ := r_X6_layHandles D σ
        have i3 := r_X6_in D τ v 0 7 (by unfold inL; omega) (by unfold inL; omega) (by unfold inL; omega)
        refine ⟨τ, ?_, fun x y x1 _ _ => g1 x y x1⟩
        by_cases c4 : 0 ≤ v ∧ v ≤ 7
        · rw [if_pos c4] at i3
          have e : τ 32 (8 * n + v) = if 0 ≤ v ∧ v ≤ 6 then hq (8 * n + v) else 0 := by
            rw [g2 _ (by omega) (by omega)]
            by_cases c5 : v ≤ 6
            · rw [if_pos (by omega)]
            · rw [if_neg (by omega)]
              have := hq_70 n.toNat (by omega)
              rw [show ((n.toNat : Nat) : Int) = n from by omega] at this
              rw [show v = 7 from by omega]
              exact this
          rw [← e]
          refine Ret.of 6 [some (aR 6), some (aI w), some (aI n), some (aI v)] rfl (by decide) rfl (Nat.le_of_ble_eq_true rfl) ?_
          refine vX6_many 60 ?_
          simp only [↓S_X6_many_1, ↓S_X6_many_2, ↓pI_c, ↓pL_c, ↓pR_c, ↓pC_I, ↓pC_R, ↓pE_n, ↓gI_0, ↓gI_s, ↓gL_0, ↓gL_s, ↓gR_0, ↓gR_s, ↓popN_0, ↓popN_s, ↓kl_I, ↓kl_L, ↓kl_R, ↓kl_n, ↓put1_0, ↓put1_s, ↓putk_0, ↓putk_s, ↓put2_0, ↓put2_s, ↓putl_0, ↓putl_s, ↓callK_0, ↓callK_1, ↓callK_2, cats_n, cats_c, catA_I, catA_L, catA_R, KL, LV, lval_f, ltag_f, llen_f, lcm_lt, lcm_le, lcm_gt, lcm_ge, lcm_eq, lcm_R1, lcm_R2, inR, inL, true_and, and_true, eq_self, List.head?_cons, Option.some.injEq, Sum.inr.injEq, Sum.inl.injEq, false_or, or_false, true_or, or_true, Nat.reduceAdd, Nat.reduceLeDiff, Int.reduceLE, Int.reduceLT, Int.reduceEq, Int.reduceNeg, Int.reduceAdd, Int.reduceSub, Int.reduceMul, Int.reduceNe, ne_eq, not_false_eq_true, not_true_eq_false, false_implies, forall_const, Nat.le_refl, Nat.zero_le, implies_true, and_self]
          simp only [l32]
          (repeat' (first | apply And.intro | intro _ | with_reducible refine Exists.intro _ (Exists.intro _ (And.intro i1 ?_)) | with_reducible refine Exists.intro _ (And.intro i1 ?_) | with_reducible refine Exists.intro _ (Exists.intro _ (And.intro i2 ?_)) | with_reducible refine Exists.intro _ (And.intro i2 ?_) | with_reducible refine Exists.intro _ (Exists.intro _ (And.intro lh ?_)) | with_reducible refine Exists.intro _ (And.intro lh ?_) | with_reducible refine Exists.intro _ (Exists.intro _ (And.intro i3 ?_)) | with_reducible refine Exists.intro _ (And.intro i3 ?_)))
          all_goals (try first | omega | trivial | (rfl; done) | assumption | (exfalso; omega))
        · rw [if_neg c4] at i3
          rw [if_neg (by omega)]
          refine Ret.of 6 [some (aR 6), some (aI w), some (aI n), some (aI v)] rfl (by decide) rfl (Nat.le_of_ble_eq_true rfl) ?_
          refine vX6_many 60 ?_
          simp only [↓S_X6_many_1, ↓S_X6_many_2, ↓pI_c, ↓pL_c, ↓pR_c, ↓pC_I, ↓pC_R, ↓pE_n, ↓gI_0, ↓gI_s, ↓gL_0, ↓gL_s, ↓gR_0, ↓gR_s, ↓popN_0, ↓popN_s, ↓kl_I, ↓kl_L, ↓kl_R, ↓kl_n, ↓put1_0, ↓put1_s, ↓putk_0, ↓putk_s, ↓put2_0, ↓put2_s, ↓putl_0, ↓putl_s, ↓callK_0, ↓callK_1, ↓callK_2, cats_n, cats_c, catA_I, catA_L, catA_R, KL, LV, lval_f, ltag_f, llen_f, lcm_lt, lcm_le, lcm_gt, lcm_ge, lcm_eq, lcm_R1, lcm_R2, inR, inL, true_and, and_true, eq_self, List.head?_cons, Option.some.injEq, Sum.inr.injEq, Sum.inl.injEq, false_or, or_false, true_or, or_true, Nat.reduceAdd, Nat.reduceLeDiff, Int.reduceLE, Int.reduceLT, Int.reduceEq, Int.reduceNeg, Int.reduceAdd, Int.reduceSub, Int.reduceMul, Int.reduceNe, ne_eq, not_false_eq_true, not_true_eq_false, false_implies, forall_const, Nat.le_refl, Nat.zero_le, implies_true, and_self]
          simp only [l32]
          (repeat' (first | apply And.intro | intro _ | with_reducible refine Exists.intro _ (Exists.intro _ (And.intro i1 ?_)) | with_reducible refine Exists.intro _ (And.intro i1 ?_) | with_reducible refine Exists.intro _ (Exists.intro _ (And.intro i2 ?_)) | with_reducible refine Exists.intro _ (And.intro i2 ?_) | with_reducible refine Exists.intro _ (Exists.intro _ (And.intro lh ?_)) | with_reducible refine Exists.intro _ (And.intro lh ?_) | with_reducible refine Exists.intro _ (Exists.intro _ (And.intro i3 ?_)) | with_reducible refine Exists.intro _ (And.intro i3 ?_)))
          all_goals (try first | omega | trivial | (rfl; done) | assumption | (exfalso; omega))
      · rw [if_neg c3]
        obtain ⟨τ, lc, g1, g2⟩ := r_X6_layCrossings D σ n c2.1 c2.2
        have i3 := r_X6_in D τ v 0 66 (by unfold inL; omega) (by unfold inL; omega) (by unfold inL; omega)
        refine ⟨τ, ?_, fun x y _ x1 x2 => g1 x y x1 x2⟩
        by_cases c4 : 0 ≤ v ∧ v ≤ 66
        · rw [if_pos c4] at i3
          rw [if_pos c4, ← g2 v c4.1 (by omega)]
          refine Ret.of 6 [some (aR 6), some (aI w), some (aI n), some (aI v)] rfl (by decide) rfl (Nat.le_of_ble_eq_true rfl) ?_
          refine vX6_many 60 ?_
          simp only [↓S_X6_many_1, ↓S_X6_many_2, ↓pI_c, ↓pL_c, ↓pR_c, ↓pC_I, ↓pC_R, ↓pE_n, ↓gI_0, ↓gI_s, ↓gL_0, ↓gL_s, ↓gR_0, ↓gR_s, ↓popN_0, ↓popN_s, ↓kl_I, ↓kl_L, ↓kl_R, ↓kl_n, ↓put1_0, ↓put1_s, ↓putk_0, ↓putk_s, ↓put2_0, ↓put2_s, ↓putl_0, ↓putl_s, ↓callK_0, ↓callK_1, ↓callK_2, cats_n, cats_c, catA_I, catA_L, catA_R, KL, LV, lval_f, ltag_f, llen_f, lcm_lt, lcm_le, lcm_gt, lcm_ge, lcm_eq, lcm_R1, lcm_R2, inR, inL, true_and, and_true, eq_self, List.head?_cons, Option.some.injEq, Sum.inr.injEq, Sum.inl.injEq, false_or, or_false, true_or, or_true, Nat.reduceAdd, Nat.reduceLeDiff, Int.reduceLE, Int.reduceLT, Int.reduceEq, Int.reduceNeg, Int.reduceAdd, Int.reduceSub, Int.reduceMul, Int.reduceNe, ne_eq, not_false_eq_true, not_true_eq_false, false_implies, forall_const, Nat.le_refl, Nat.zero_le, implies_true, and_self]
          simp only [l33]
          (repeat' (first | apply And.intro | intro _ | with_reducible refine Exists.intro _ (Exists.intro _ (And.intro i1 ?_)) | with_reducible refine Exists.intro _ (And.intro i1 ?_) | with_reducible refine Exists.intro _ (Exists.intro _ (And.intro i2 ?_)) | with_reducible refine Exists.intro _ (And.intro i2 ?_) | with_reducible refine Exists.intro _ (Exists.intro _ (And.intro lc ?_)) | with_reducible refine Exists.intro _ (And.intro lc ?_) | with_reducible refine Exists.intro _ (Exists.intro _ (And.intro i3 ?_)) | with_reducible refine Exists.intro _ (And.intro i3 ?_)))
          all_goals (try first | omega | trivial | (rfl; done) | assumption | (exfalso; omega))
        · rw [if_neg c4] at i3
          rw [if_neg c4]
          refine Ret.of 6 [some (aR 6), some (aI w), some (aI n), some (aI v)] rfl (by decide) rfl (Nat.le_of_ble_eq_true rfl) ?_
          refine vX6_many 60 ?_
          simp only [↓S_X6_many_1, ↓S_X6_many_2, ↓pI_c, ↓pL_c, ↓pR_c, ↓pC_I, ↓pC_R, ↓pE_n, ↓gI_0, ↓gI_s, ↓gL_0, ↓gL_s, ↓gR_0, ↓gR_s, ↓popN_0, ↓popN_s, ↓kl_I, ↓kl_L, ↓kl_R, ↓kl_n, ↓put1_0, ↓put1_s, ↓putk_0, ↓putk_s, ↓put2_0, ↓put2_s, ↓putl_0, ↓putl_s, ↓callK_0, ↓callK_1, ↓callK_2, cats_n, cats_c, catA_I, catA_L, catA_R, KL, LV, lval_f, ltag_f, llen_f, lcm_lt, lcm_le, lcm_gt, lcm_ge, lcm_eq, lcm_R1, lcm_R2, inR, inL, true_and, and_true, eq_self, List.head?_cons, Option.some.injEq, Sum.inr.injEq, Sum.inl.injEq, false_or, or_false, true_or, or_true, Nat.reduceAdd, Nat.reduceLeDiff, Int.reduceLE, Int.reduceLT, Int.reduceEq, Int.reduceNeg, Int.reduceAdd, Int.reduceSub, Int.reduceMul, Int.reduceNe, ne_eq, not_false_eq_true, not_true_eq_false, false_implies, forall_const, Nat.le_refl, Nat.zero_le, implies_true, and_self]
          simp only [l33]
          (repeat' (first | apply And.intro | intro _ | with_reducible refine Exists.intro _ (Exists.intro _ (And.intro i1 ?_)) | with_reducible refine Exists.intro _ (And.intro i1 ?_) | with_reducible refine Exists.intro _ (Exists.intro _ (And.intro i2 ?_)) | with_reducible refine Exists.intro _ (And.intro i2 ?_) | with_reducible refine Exists.intro _ (Exists.intro _ (And.intro lc ?_)) | with_reducible refine Exists.intro _ (And.intro lc ?_) | with_reducible refine Exists.intro _ (Exists.intro _ (And.intro i3 ?_)) | with_reducible refine Exists.intro _ (And.intro i3 ?_)))
          all_goals (try first | omega | trivial | (rfl; done) | assumption | (exfalso; omega))
    · rw [if_neg c2] at i2
      rw [if_neg (by omega)]
      refine ⟨σ, ?_, fun _ _ _ _ _ => rfl⟩
      refine Ret.of 6 [some (aR 6), some (aI w), some (aI n), some (aI v)] rfl (by decide) rfl (Nat.le_of_ble_eq_true rfl) ?_
      refine vX6_many 60 ?_
      simp only [↓S_X6_many_1, ↓S_X6_many_2, ↓pI_c, ↓pL_c, ↓pR_c, ↓pC_I, ↓pC_R, ↓pE_n, ↓gI_0, ↓gI_s, ↓gL_0, ↓gL_s, ↓gR_0, ↓gR_s, ↓popN_0, ↓popN_s, ↓kl_I, ↓kl_L, ↓kl_R, ↓kl_n, ↓put1_0, ↓put1_s, ↓putk_0, ↓putk_s, ↓put2_0, ↓put2_s, ↓putl_0, ↓putl_s, ↓callK_0, ↓callK_1, ↓callK_2, cats_n, cats_c, catA_I, catA_L, catA_R, KL, LV, lval_f, ltag_f, llen_f, lcm_lt, lcm_le, lcm_gt, lcm_ge, lcm_eq, lcm_R1, lcm_R2, inR, inL, true_and, and_true, eq_self, List.head?_cons, Option.some.injEq, Sum.inr.injEq, Sum.inl.injEq, false_or, or_false, true_or, or_true, Nat.reduceAdd, Nat.reduceLeDiff, Int.reduceLE, Int.reduceLT, Int.reduceEq, Int.reduceNeg, Int.reduceAdd, Int.reduceSub, Int.reduceMul, Int.reduceNe, ne_eq, not_false_eq_true, not_true_eq_false, false_implies, forall_const, Nat.le_refl, Nat.zero_le, implies_true, and_self]
      (repeat' (first | apply And.intro | intro _ | with_reducible refine Exists.intro _ (Exists.intro _ (And.intro i1 ?_)) | with_reducible refine Exists.intro _ (And.intro i1 ?_) | with_reducible refine Exists.intro _ (Exists.intro _ (And.intro i2 ?_)) | with_reducible refine Exists.intro _ (And.intro i2 ?_)))
      all_goals (try first | omega | trivial | (rfl; done) | assumption | (exfalso; omega))
  · rw [if_neg c1] at i1
    rw [if_neg (by omega)]
    refine ⟨σ, ?_, fun _ _ _ _ _ => rfl⟩
    refine Ret.of 6 [some (aR 6), some (aI w), some (aI n), some (aI v)] rfl (by decide) rfl (Nat.le_of_ble_eq_true rfl) ?_
    refine vX6_many 60 ?_
    simp only [↓S_X6_many_1, ↓S_X6_many_2, ↓pI_c, ↓pL_c, ↓pR_c, ↓pC_I, ↓pC_R, ↓pE_n, ↓gI_0, ↓gI_s, ↓gL_0, ↓gL_s, ↓gR_0, ↓gR_s, ↓popN_0, ↓popN_s, ↓kl_I, ↓kl_L, ↓kl_R, ↓kl_n, ↓put1_0, ↓put1_s, ↓putk_0, ↓putk_s, ↓put2_0, ↓put2_s, ↓putl_0, ↓putl_s, ↓callK_0, ↓callK_1, ↓callK_2, cats_n, cats_c, catA_I, catA_L, catA_R, KL, LV, lval_f, ltag_f, llen_f, lcm_lt, lcm_le, lcm_gt, lcm_ge, lcm_eq, lcm_R1, lcm_R2, inR, inL, true_and, and_true, eq_self, List.head?_cons, Option.some.injEq, Sum.inr.injEq, Sum.inl.injEq, false_or, or_false, true_or, or_true, Nat.reduceAdd, Nat.reduceLeDiff, Int.reduceLE, Int.reduceLT, Int.reduceEq, Int.reduceNeg, Int.reduceAdd, Int.reduceSub, Int.reduceMul, Int.reduceNe, ne_eq, not_false_eq_true, not_true_eq_false, false_implies, forall_const, Nat.le_refl, Nat.zero_le, implies_true, and_self]
    (repeat' (first | apply And.intro | intro _ | with_reducible refine Exists.intro _ (Exists.intro _ (And.intro i1 ?_)) | with_reducible refine Exists.intro _ (And.intro i1 ?_)))
    all_goals (try first | omega | trivial | (rfl; done) | assumption | (exfalso; omega))
/-- the census at hand: not asked for yet, or right -/
def CI (σ : Sg) : Prop := ((σ 0 3 = 0 ∧ ∀ g, 0 ≤ g → g < 7 → σ 170 g = 0) ∨ (σ 0 3 = 1 ∧ ∀ n g, 0 ≤ n → n < 13 → 0 ≤ g → g < 7 → σ (170 + n) g = hq (8 * n + g))) ∧ ((σ 0 4 = 0 ∧ (∀ (h x : Int), 0 ≤ h → h < 14 → 0 ≤ x → x < 67 → σ (196 + h) x = 0) ∧ ∀ x, 0 ≤ x → x < 67 → σ 183 x = 0) ∨ (σ 0 4 = 1 ∧ ∀ (n : Nat) (v : Int), n ≤ 12 → 0 ≤ v → v < 67 → σ (183 + n) v = Pc (2 * n) 0 v))
theorem CI.tr {σ τ : Sg} (h : CI σ) (h0 : τ 0 3 = σ 0 3 ∧ τ 0 4 = σ 0 4) (h1 : ∀ x y, 170 ≤ x → x < 210 → τ x y = σ x y) : CI τ := by
  obtain ⟨a, b⟩ := h
  refine ⟨?_, ?_⟩
  · rw [h0.1]
    rcases a with ⟨a1, a2⟩ | ⟨a1, a2⟩
    · exact Or.inl ⟨a1, fun g g0 g1 => by rw [h1 _ _ (by omega) (by omega)]; exact a2 g g0 g1⟩
    · exact Or.inr ⟨a1, fun n g n0 n1 g0 g1 => by rw [h1 _ _ (by omega) (by omega)]; exact a2 n g n0 n1 g0 g1⟩
  · rw [h0.2]
    rcases b with ⟨a1, a2, a3⟩ | ⟨a1, a2⟩
    · exact Or.inl ⟨a1, fun h x c0 c1 c2 c3 => by rw [h1 _ _ (by omega) (by omega)]; exact a2 h x c0 c1 c2 c3, fun x c0 c1 => by rw [h1 _ _ (by omega) (by omega)]; exact a3 x c0 c1⟩
    · exact Or.inr ⟨a1, fun n v c0 c1 c2 => by rw [h1 _ _ (by omega) (by omega)]; exact a2 n v c0 c1 c2⟩
set_option maxRecDepth 100000 in
theorem r_X0_withHandles (D : Nat) (σ : Sg) (n v : Int) (h : CI σ) (n0 : 0 ≤ n) (n1 : n ≤ 12) (hv : inR v) : ∃ τ, Ret (D + 2) miX0_withHandles [aR 0, aI n, aI v] σ (some (aL (if 0 ≤ v ∧ v ≤ 6 then hq (8 * n + v) else 0))) τ ∧ (∀ x y, ¬ (x = 0 ∧ y = 3) → ¬ (170 ≤ x ∧ x < 183) → τ x y = σ x y) ∧ CI τ := by
  by_cases c : 0 ≤ v ∧ v ≤ 6
  · rw [if_pos c]
    have kn := (krow (i := n)).2.2.1 (by omega) (by omega)
    have tn : ltag (170 + n) = 2 := by rw [ltag_n (by omega)]; exact kn.1
    have ln : llen (170 + n) = 7 := by rw [llen_n (by omega)]; exact kn.2.1
    rcases h.1 with ⟨a1, a2⟩ | ⟨a1, a2⟩
    · obtain ⟨τ, fh, g1, g2⟩ := r_X0_findHandles D σ a2
      have e : lval (up τ 0 3 1) (170 + n) v = hq (8 * n + v) := by
        rw [lval_n (by omega)]
        unfold up
        rw [if_neg (by omega)]
        exact g2 n v n0 (by omega) c.1 (by omega)
      refine ⟨up τ 0 3 1, ?_, fun x y x1 x2 => by unfold up; rw [if_neg x1]; exact g1 x y x2, ?_, ?_⟩
      · refine Ret.of 0 [some (aR 0), some (aI n), some (aI v)] rfl (by decide) rfl (Nat.le_of_ble_eq_true rfl) ?_
        refine vX0_withHandles 60 ?_
        simp only [↓S_X0_withHandles, ↓pI_c, ↓pL_c, ↓pR_c, ↓pC_I, ↓pC_R, ↓pE_n, ↓gI_0, ↓gI_s, ↓gL_0, ↓gL_s, ↓gR_0, ↓gR_s, ↓popN_0, ↓popN_s, ↓kl_I, ↓kl_L, ↓kl_R, ↓kl_n, ↓put1_0, ↓put1_s, ↓putk_0, ↓putk_s, ↓put2_0, ↓put2_s, ↓putl_0, ↓putl_s, ↓callK_0, ↓callK_1, ↓callK_2, cats_n, cats_c, catA_I, catA_L, catA_R, KL, LV, lval_f, ltag_f, llen_f, lcm_lt, lcm_le, lcm_gt, lcm_ge, lcm_eq, lcm_R1, lcm_R2, inR, inL, true_and, and_true, eq_self, List.head?_cons, Option.some.injEq, Sum.inr.injEq, Sum.inl.injEq, false_or, or_false, true_or, or_true, Nat.reduceAdd, Nat.reduceLeDiff, Int.reduceLE, Int.reduceLT, Int.reduceEq, Int.reduceNeg, Int.reduceAdd, Int.reduceSub, Int.reduceMul, Int.reduceNe, ne_eq, not_false_eq_true, not_true_eq_false, false_implies, forall_const, Nat.le_refl, Nat.zero_le, implies_true, and_self]
        rw [a1]
        simp only [tn, ln]
        (repeat' (first | apply And.intro | intro _ | with_reducible refine Exists.intro _ (Exists.intro _ (And.intro fh ?_)) | with_reducible refine Exists.intro _ (And.intro fh ?_)))
        all_goals (try first | omega | trivial | (rfl; done) | assumption | (exfalso; omega) | (simp only [e]; done) | (simp only [e]; first | omega | (rfl; done)))
      · refine Or.inr ⟨by unfold up; rw [if_pos ⟨rfl, rfl⟩], fun m g m0 m1 g0 g2' => ?_⟩
        unfold up
        rw [if_neg (by omega)]
        exact g2 m g m0 m1 g0 g2'
      · have e4 : up τ 0 3 1 0 4 = σ 0 4 := by unfold up; rw [if_neg (by omega)]; exact g1 0 4 (by omega)
        have e5 : ∀ x y, 183 ≤ x → x < 210 → up τ 0 3 1 x y = σ x y := fun x y x0 x1 => by unfold up; rw [if_neg (by omega)]; exact g1 x y (by omega)
        rw [e4]
        rcases h.2 with ⟨b1, b2, b3⟩ | ⟨b1, b2⟩
        · exact Or.inl ⟨b1, fun h x c0 c1 c2 c3 => by rw [e5 _ _ (by omega) (by omega)]; exact b2 h x c0 c1 c2 c3, fun x c0 c1 => by rw [e5 _ _ (by omega) (by omega)]; exact b3 x c0 c1⟩
        · exact Or.inr ⟨b1, fun n v c0 c1 c2 => by rw [e5 _ _ (by omega) (by omega)]; exact b2 n v c0 c1 c2⟩
    · refine ⟨σ, ?_, fun _ _ _ _ => rfl, h⟩
      have e : lval σ (170 + n) v = hq (8 * n + v) := by
        rw [lval_n (by omega)]
        exact a2 n v n0 (by omega) c.1 (by omega)
      refine Ret.of 0 [some (aR 0), some (aI n), some (aI v)] rfl (by decide) rfl (Nat.le_of_ble_eq_true rfl) ?_
      refine vX0_withHandles 60 ?_
      simp only [↓S_X0_withHandles, ↓pI_c, ↓pL_c, ↓pR_c, ↓pC_I, ↓pC_R, ↓pE_n, ↓gI_0, ↓gI_s, ↓gL_0, ↓gL_s, ↓gR_0, ↓gR_s, ↓popN_0, ↓popN_s, ↓kl_I, ↓kl_L, ↓kl_R, ↓kl_n, ↓put1_0, ↓put1_s, ↓putk_0, ↓putk_s, ↓put2_0, ↓put2_s, ↓putl_0, ↓putl_s, ↓callK_0, ↓callK_1, ↓callK_2, cats_n, cats_c, catA_I, catA_L, catA_R, KL, LV, lval_f, ltag_f, llen_f, lcm_lt, lcm_le, lcm_gt, lcm_ge, lcm_eq, lcm_R1, lcm_R2, inR, inL, true_and, and_true, eq_self, List.head?_cons, Option.some.injEq, Sum.inr.injEq, Sum.inl.injEq, false_or, or_false, true_or, or_true, Nat.reduceAdd, Nat.reduceLeDiff, Int.reduceLE, Int.reduceLT, Int.reduceEq, Int.reduceNeg, Int.reduceAdd, Int.reduceSub, Int.reduceMul, Int.reduceNe, ne_eq, not_false_eq_true, not_true_eq_false, false_implies, forall_const, Nat.le_refl, Nat.zero_le, implies_true, and_self]
      rw [a1]
      simp only [tn, ln, e]
      (repeat' (first | apply And.intro | intro _))
      all_goals (try first | omega | trivial | (rfl; done) | assumption | (exfalso; omega))
  · rw [if_neg c]
    refine ⟨σ, ?_, fun _ _ _ _ => rfl, h⟩
    refine Ret.of 0 [some (aR 0), some (aI n), some (aI v)] rfl (by decide) rfl (Nat.le_of_ble_eq_true rfl) ?_
    refine vX0_withHandles 60 ?_
    simp only [↓S_X0_withHandles, ↓pI_c, ↓pL_c, ↓pR_c, ↓pC_I, ↓pC_R, ↓pE_n, ↓gI_0, ↓gI_s, ↓gL_0, ↓gL_s, ↓gR_0, ↓gR_s, ↓popN_0, ↓popN_s, ↓kl_I, ↓kl_L, ↓kl_R, ↓kl_n, ↓put1_0, ↓put1_s, ↓putk_0, ↓putk_s, ↓put2_0, ↓put2_s, ↓putl_0, ↓putl_s, ↓callK_0, ↓callK_1, ↓callK_2, cats_n, cats_c, catA_I, catA_L, catA_R, KL, LV, lval_f, ltag_f, llen_f, lcm_lt, lcm_le, lcm_gt, lcm_ge, lcm_eq, lcm_R1, lcm_R2, inR, inL, true_and, and_true, eq_self, List.head?_cons, Option.some.injEq, Sum.inr.injEq, Sum.inl.injEq, false_or, or_false, true_or, or_true, Nat.reduceAdd, Nat.reduceLeDiff, Int.reduceLE, Int.reduceLT, Int.reduceEq, Int.reduceNeg, Int.reduceAdd, Int.reduceSub, Int.reduceMul, Int.reduceNe, ne_eq, not_false_eq_true, not_true_eq_false, false_implies, forall_const, Nat.le_refl, Nat.zero_le, implies_true, and_self]
    (repeat' (first | apply And.intro | intro _))
    all_goals (try first | omega | trivial | (rfl; done) | assumption | (exfalso; omega))
set_option maxRecDepth 100000 in
theorem r_X0_withCrossings (D : Nat) (σ : Sg) (n v : Int) (h : CI σ) (n0 : 0 ≤ n) (n1 : n ≤ 12) (hv : inR v) : ∃ τ, Ret (D + 3) miX0_withCrossings [aR 0, aI n, aI v] σ (some (aL (if 0 ≤ v ∧ v ≤ 66 then Pc (2 * n).toNat 0 v else 0))) τ ∧ (∀ x y, ¬ (x = 0 ∧ y = 4) → ¬ (183 ≤ x ∧ x < 210) → τ x y = σ x y) ∧ CI τ := by
  by_cases c : 0 ≤ v ∧ v ≤ 66
  · rw [if_pos c]
    have kn := (krow (i := n)).2.2.1 (by omega) (by omega)
    have tn : ltag (183 + n) = 2 := by rw [ltag_n (by omega)]; exact kn.2.2.1
    have ln : llen (183 + n) = 67 := by rw [llen_n (by omega)]; exact kn.2.2.2
    have en : ((n.toNat : Nat) : Int) = n := by omega
    have e2 : (2 * n).toNat = 2 * n.toNat := by omega
    rcases h.2 with ⟨a1, a2, a3⟩ | ⟨a1, a2⟩
    · obtain ⟨τ, fh, g1, g2⟩ := r_X0_findCrossings D σ a2 a3
      have e : lval (up τ 0 4 1) (183 + n) v = Pc (2 * n).toNat 0 v := by
        rw [lval_n (by omega)]
        unfold up
        rw [if_neg (by omega), e2]
        have := g2 n.toNat v (by omega) c.1 (by omega)
        rw [en] at this
        exact this
      refine ⟨up τ 0 4 1, ?_, fun x y x1 x2 => by unfold up; rw [if_neg x1]; exact g1 x y x2, ?_, ?_⟩
      · refine Ret.of 0 [some (aR 0), some (aI n), some (aI v)] rfl (by decide) rfl (Nat.le_of_ble_eq_true rfl) ?_
        refine vX0_withCrossings 60 ?_
        simp only [↓S_X0_withCrossings, ↓pI_c, ↓pL_c, ↓pR_c, ↓pC_I, ↓pC_R, ↓pE_n, ↓gI_0, ↓gI_s, ↓gL_0, ↓gL_s, ↓gR_0, ↓gR_s, ↓popN_0, ↓popN_s, ↓kl_I, ↓kl_L, ↓kl_R, ↓kl_n, ↓put1_0, ↓put1_s, ↓putk_0, ↓putk_s, ↓put2_0, ↓put2_s, ↓putl_0, ↓putl_s, ↓callK_0, ↓callK_1, ↓callK_2, cats_n, cats_c, catA_I, catA_L, catA_R, KL, LV, lval_f, ltag_f, llen_f, lcm_lt, lcm_le, lcm_gt, lcm_ge, lcm_eq, lcm_R1, lcm_R2, inR, inL, true_and, and_true, eq_self, List.head?_cons, Option.some.injEq, Sum.inr.injEq, Sum.inl.injEq, false_or, or_false, true_or, or_true, Nat.reduceAdd, Nat.reduceLeDiff, Int.reduceLE, Int.reduceLT, Int.reduceEq, Int.reduceNeg, Int.reduceAdd, Int.reduceSub, Int.reduceMul, Int.reduceNe, ne_eq, not_false_eq_true, not_true_eq_false, false_implies, forall_const, Nat.le_refl, Nat.zero_le, implies_true, and_self]
        rw [a1]
        simp only [tn, ln]
        (repeat' (first | apply And.intro | intro _ | with_reducible refine Exists.intro _ (Exists.intro _ (And.intro fh ?_)) | with_reducible refine Exists.intro _ (And.intro fh ?_)))
        all_goals (try first | omega | trivial | (rfl; done) | assumption | (exfalso; omega) | (simp only [e]; done) | (simp only [e]; first | omega | (rfl; done)))
      · have e4 : up τ 0 4 1 0 3 = σ 0 3 := by unfold up; rw [if_neg (by omega)]; exact g1 0 3 (by omega)
        have e5 : ∀ x y, 170 ≤ x → x < 183 → up τ 0 4 1 x y = σ x y := fun x y x0 x1 => by unfold up; rw [if_neg (by omega)]; exact g1 x y (by omega)
        rw [e4]
        rcases h.1 with ⟨b1, b2⟩ | ⟨b1, b2⟩
        · exact Or.inl ⟨b1, fun g g0 g1 => by rw [e5 _ _ (by omega) (by omega)]; exact b2 g g0 g1⟩
        · exact Or.inr ⟨b1, fun n g n0 n1 g0 g1 => by rw [e5 _ _ (by omega) (by omega)]; exact b2 n g n0 n1 g0 g1⟩
      · refine Or.inr ⟨by unfold up; rw [if_pos ⟨rfl, rfl⟩], fun m w m0 w0 w1 => ?_⟩
        unfold up
        rw [if_neg (by omega)]
        exact g2 m w m0 w0 w1
    · refine ⟨σ, ?_, fun _ _ _ _ => rfl, h⟩
      have e : lval σ (183 + n) v = Pc (2 * n).toNat 0 v := by
        rw [lval_n (by omega), e2]
        have := a2 n.toNat v (by omega) c.1 (by omega)
        rw [en] at this
        exact this
      refine Ret.of 0 [some (aR 0), some (aI n), some (aI v)] rfl (by decide) rfl (Nat.le_of_ble_eq_true rfl) ?_
      refine vX0_withCrossings 60 ?_
      simp only [↓S_X0_withCrossings, ↓pI_c, ↓pL_c, ↓pR_c, ↓pC_I, ↓pC_R, ↓pE_n, ↓gI_0, ↓gI_s, ↓gL_0, ↓gL_s, ↓gR_0, ↓gR_s, ↓popN_0, ↓popN_s, ↓kl_I, ↓kl_L, ↓kl_R, ↓kl_n, ↓put1_0, ↓put1_s, ↓putk_0, ↓putk_s, ↓put2_0, ↓put2_s, ↓putl_0, ↓putl_s, ↓callK_0, ↓callK_1, ↓callK_2, cats_n, cats_c, catA_I, catA_L, catA_R, KL, LV, lval_f, ltag_f, llen_f, lcm_lt, lcm_le, lcm_gt, lcm_ge, lcm_eq, lcm_R1, lcm_R2, inR, inL, true_and, and_true, eq_self, List.head?_cons, Option.some.injEq, Sum.inr.injEq, Sum.inl.injEq, false_or, or_false, true_or, or_true, Nat.reduceAdd, Nat.reduceLeDiff, Int.reduceLE, Int.reduceLT, Int.reduceEq, Int.reduceNeg, Int.reduceAdd, Int.reduceSub, Int.reduceMul, Int.reduceNe, ne_eq, not_false_eq_true, not_true_eq_false, false_implies, forall_const, Nat.le_refl, Nat.zero_le, implies_true, and_self]
      rw [a1]
      simp only [tn, ln, e]
      (repeat' (first | apply And.intro | intro _))
      all_goals (try first | omega | trivial | (rfl; done) | assumption | (exfalso; omega))
  · rw [if_neg c]
    refine ⟨σ, ?_, fun _ _ _ _ => rfl, h⟩
    refine Ret.of 0 [some (aR 0), some (aI n), some (aI v)] rfl (by decide) rfl (Nat.le_of_ble_eq_true rfl) ?_
    refine vX0_withCrossings 60 ?_
    simp only [↓S_X0_withCrossings, ↓pI_c, ↓pL_c, ↓pR_c, ↓pC_I, ↓pC_R, ↓pE_n, ↓gI_0, ↓gI_s, ↓gL_0, ↓gL_s, ↓gR_0, ↓gR_s, ↓popN_0, ↓popN_s, ↓kl_I, ↓kl_L, ↓kl_R, ↓kl_n, ↓put1_0, ↓put1_s, ↓putk_0, ↓putk_s, ↓put2_0, ↓put2_s, ↓putl_0, ↓putl_s, ↓callK_0, ↓callK_1, ↓callK_2, cats_n, cats_c, catA_I, catA_L, catA_R, KL, LV, lval_f, ltag_f, llen_f, lcm_lt, lcm_le, lcm_gt, lcm_ge, lcm_eq, lcm_R1, lcm_R2, inR, inL, true_and, and_true, eq_self, List.head?_cons, Option.some.injEq, Sum.inr.injEq, Sum.inl.injEq, false_or, or_false, true_or, or_true, Nat.reduceAdd, Nat.reduceLeDiff, Int.reduceLE, Int.reduceLT, Int.reduceEq, Int.reduceNeg, Int.reduceAdd, Int.reduceSub, Int.reduceMul, Int.reduceNe, ne_eq, not_false_eq_true, not_true_eq_false, false_implies, forall_const, Nat.le_refl, Nat.zero_le, implies_true, and_self]
    (repeat' (first | apply And.intro | intro _))
    all_goals (try first | omega | trivial | (rfl; done) | assumption | (exfalso; omega))
set_option maxRecDepth 100000 in
theorem r_X5_many (D : Nat) (σ : Sg) (w n v : Int) (h : CI σ) (hw : inR w) (hn : inR n) (hv : inR v) : ∃ τ, Ret (D + 4) miX5_many [aR 5, aI w, aI n, aI v] σ (some (aL (mny w n v))) τ ∧ (∀ x y, ¬ (x = 0 ∧ (y = 3 ∨ y = 4)) → ¬ (170 ≤ x ∧ x < 210) → τ x y = σ x y) ∧ CI τ := by
  unfold mny
  by_cases c1 : 0 ≤ w ∧ w ≤ 2 ∧ 0 ≤ n ∧ n ≤ 12
  · rw [if_pos c1]
    by_cases c3 : w = 0
    · rw [if_pos c3]
      obtain ⟨τ, wh, g1, g2⟩ := r_X0_withHandles (D + 1) σ n v h c1.2.2.1 c1.2.2.2 hv
      refine ⟨τ, ?_, fun x y x1 x2 => g1 x y (by omega) (by omega), g2⟩
      generalize (if 0 ≤ v ∧ v ≤ 6 then hq (8 * n + v) else 0) = R at wh ⊢
      refine Ret.of 5 [some (aR 5), some (aI w), some (aI n), some (aI v)] rfl (by decide) rfl (Nat.le_of_ble_eq_true rfl) ?_
      refine vX5_many 60 ?_
      simp only [↓S_X5_many, ↓pI_c, ↓pL_c, ↓pR_c, ↓pC_I, ↓pC_R, ↓pE_n, ↓gI_0, ↓gI_s, ↓gL_0, ↓gL_s, ↓gR_0, ↓gR_s, ↓popN_0, ↓popN_s, ↓kl_I, ↓kl_L, ↓kl_R, ↓kl_n, ↓put1_0, ↓put1_s, ↓putk_0, ↓putk_s, ↓put2_0, ↓put2_s, ↓putl_0, ↓putl_s, ↓callK_0, ↓callK_1, ↓callK_2, cats_n, cats_c, catA_I, catA_L, catA_R, KL, LV, lval_f, ltag_f, llen_f, lcm_lt, lcm_le, lcm_gt, lcm_ge, lcm_eq, lcm_R1, lcm_R2, inR, inL, true_and, and_true, eq_self, List.head?_cons, Option.some.injEq, Sum.inr.injEq, Sum.inl.injEq, false_or, or_false, true_or, or_true, Nat.reduceAdd, Nat.reduceLeDiff, Int.reduceLE, Int.reduceLT, Int.reduceEq, Int.reduceNeg, Int.reduceAdd, Int.reduceSub, Int.reduceMul, Int.reduceNe, ne_eq, not_false_eq_true, not_true_eq_false, false_implies, forall_const, Nat.le_refl, Nat.zero_le, implies_true, and_self]
      (repeat' (first | apply And.intro | intro _ | with_reducible refine Exists.intro _ (Exists.intro _ (And.intro wh ?_)) | with_reducible refine Exists.intro _ (And.intro wh ?_)))
      all_goals (try first | omega | trivial | (rfl; done) | assumption | (exfalso; omega))
    · rw [if_neg c3]
      obtain ⟨τ, wh, g1, g2⟩ := r_X0_withCrossings D σ n v h c1.2.2.1 c1.2.2.2 hv
      refine ⟨τ, ?_, fun x y x1 x2 => g1 x y (by omega) (by omega), g2⟩
      generalize (if 0 ≤ v ∧ v ≤ 66 then Pc (2 * n).toNat 0 v else 0) = R at wh ⊢
      refine Ret.of 5 [some (aR 5), some (aI w), some (aI n), some (aI v)] rfl (by decide) rfl (Nat.le_of_ble_eq_true rfl) ?_
      refine vX5_many 60 ?_
      simp only [↓S_X5_many, ↓pI_c, ↓pL_c, ↓pR_c, ↓pC_I, ↓pC_R, ↓pE_n, ↓gI_0, ↓gI_s, ↓gL_0, ↓gL_s, ↓gR_0, ↓gR_s, ↓popN_0, ↓popN_s, ↓kl_I, ↓kl_L, ↓kl_R, ↓kl_n, ↓put1_0, ↓put1_s, ↓putk_0, ↓putk_s, ↓put2_0, ↓put2_s, ↓putl_0, ↓putl_s, ↓callK_0, ↓callK_1, ↓callK_2, cats_n, cats_c, catA_I, catA_L, catA_R, KL, LV, lval_f, ltag_f, llen_f, lcm_lt, lcm_le, lcm_gt, lcm_ge, lcm_eq, lcm_R1, lcm_R2, inR, inL, true_and, and_true, eq_self, List.head?_cons, Option.some.injEq, Sum.inr.injEq, Sum.inl.injEq, false_or, or_false, true_or, or_true, Nat.reduceAdd, Nat.reduceLeDiff, Int.reduceLE, Int.reduceLT, Int.reduceEq, Int.reduceNeg, Int.reduceAdd, Int.reduceSub, Int.reduceMul, Int.reduceNe, ne_eq, not_false_eq_true, not_true_eq_false, false_implies, forall_const, Nat.le_refl, Nat.zero_le, implies_true, and_self]
      (repeat' (first | apply And.intro | intro _ | with_reducible refine Exists.intro _ (Exists.intro _ (And.intro wh ?_)) | with_reducible refine Exists.intro _ (And.intro wh ?_)))
      all_goals (try first | omega | trivial | (rfl; done) | assumption | (exfalso; omega))
  · rw [if_neg c1]
    refine ⟨σ, ?_, fun _ _ _ _ => rfl, h⟩
    refine Ret.of 5 [some (aR 5), some (aI w), some (aI n), some (aI v)] rfl (by decide) rfl (Nat.le_of_ble_eq_true rfl) ?_
    refine vX5_many 60 ?_
    simp only [↓S_X5_many, ↓pI_c, ↓pL_c, ↓pR_c, ↓pC_I, ↓pC_R, ↓pE_n, ↓gI_0, ↓gI_s, ↓gL_0, ↓gL_s, ↓gR_0, ↓gR_s, ↓popN_0, ↓popN_s, ↓kl_I, ↓kl_L, ↓kl_R, ↓kl_n, ↓put1_0, ↓put1_s, ↓putk_0, ↓putk_s, ↓put2_0, ↓put2_s, ↓putl_0, ↓putl_s, ↓callK_0, ↓callK_1, ↓callK_2, cats_n, cats_c, catA_I, catA_L, catA_R, KL, LV, lval_f, ltag_f, llen_f, lcm_lt, lcm_le, lcm_gt, lcm_ge, lcm_eq, lcm_R1, lcm_R2, inR, inL, true_and, and_true, eq_self, List.head?_cons, Option.some.injEq, Sum.inr.injEq, Sum.inl.injEq, false_or, or_false, true_or, or_true, Nat.reduceAdd, Nat.reduceLeDiff, Int.reduceLE, Int.reduceLT, Int.reduceEq, Int.reduceNeg, Int.reduceAdd, Int.reduceSub, Int.reduceMul, Int.reduceNe, ne_eq, not_false_eq_true, not_true_eq_false, false_implies, forall_const, Nat.le_refl, Nat.zero_le, implies_true, and_self]
    (repeat' (first | apply And.intro | intro _))
    all_goals (try first | omega | trivial | (rfl; done) | assumption | (exfalso; omega))

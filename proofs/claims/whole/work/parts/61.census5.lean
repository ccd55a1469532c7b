/-! the model's layCrossings: its walk -/
def LQ (σ : Sg) (n : Int) (τ : Sg) : Prop := (∀ x y, x ≠ 33 → x ≠ 34 → τ x y = σ x y) ∧ ∀ v, 0 ≤ v → v < 67 → τ 33 v = Pc (2 * n).toNat 0 v
def LF (σ χ : Sg) : Prop := ∀ x y, x ≠ 33 → x ≠ 34 → χ x y = σ x y
def Rw (χ : Sg) (id : Int) (B : Int → Int → Int) : Prop := ∀ H X, 0 ≤ H → H < 14 → 0 ≤ X → X < 67 → χ id (67 * H + X) = B H X
set_option maxRecDepth 100000 in
theorem lc_x (D : Nat) (σ χ : Sg) (n s h0 x0 : Int) (B : Int → Int → Int) (n0 : 0 ≤ n) (n1 : n ≤ 12) (h00 : 0 ≤ h0) (h01 : h0 ≤ n) (x00 : 0 ≤ x0) (x01 : x0 < 67) (hB : ∀ H X, 0 ≤ H → H < 14 → 0 ≤ B H X ∧ B H X < 1000000000000000000) (hf : LF σ χ) (hb : Rw χ 34 B) (hq : Rw χ 33 (Gq n B h0 x0))
    (cont : ∀ χ', LF σ χ' → Rw χ' 34 B → Rw χ' 33 (Gq n B h0 (x0 + 1)) → ∃ τ, V D miX6_layCrossings 6 none τ 83 [some (aR 6), some (aI n), some (aI s), some (aI h0), some (aI (x0 + 1)), none, none, none] [] χ' ∧ LQ σ n τ) : ∃ τ, V D miX6_layCrossings 6 none τ 83 [some (aR 6), some (aI n), some (aI s), some (aI h0), some (aI x0), none, none, none] [] χ ∧ LQ σ n τ := by
  have hv := hB h0 x0 h00 (by omega)
  have l33 : llen 33 = 938 := rfl
  have l34 : llen 34 = 938 := rfl
  have c33 : klen 33 = 938 := rfl
  have ev : χ 34 (67 * h0 + x0) = B h0 x0 := hb h0 x0 h00 (by omega) x00 x01
  generalize hvv : B h0 x0 = v at *
  have jl : ∀ (k : Nat) (j : Int) (χ : Sg), 0 ≤ j → j + k = h0 → LF σ χ → Rw χ 34 B → Rw χ 33 (fun H X => Gq n B h0 x0 H X + (if H = h0 + 1 ∧ X = x0 ∧ h0 < n then v else 0) + (if H = h0 - 1 ∧ x0 ≤ X ∧ X < x0 + j then v else 0)) → ∃ τ, V D miX6_layCrossings 6 none τ 138 [some (aR 6), some (aI n), some (aI s), some (aI h0), some (aI x0), some (aL v), none, some (aI j)] [] χ ∧ LQ σ n τ := by
    intro k
    have ex : ∀ (j : Int) (χ : Sg), 0 ≤ j → j ≤ h0 → ¬ (j < h0 ∧ 0 < v ∧ x0 + j < 67) → LF σ χ → Rw χ 34 B → Rw χ 33 (fun H X => Gq n B h0 x0 H X + (if H = h0 + 1 ∧ X = x0 ∧ h0 < n then v else 0) + (if H = h0 - 1 ∧ x0 ≤ X ∧ X < x0 + j then v else 0)) → ∃ τ, V D miX6_layCrossings 6 none τ 138 [some (aR 6), some (aI n), some (aI s), some (aI h0), some (aI x0), some (aL v), none, some (aI j)] [] χ ∧ LQ σ n τ := by
      intro j χ j0 j1 hx hf hb hq
      obtain ⟨τ, t, tr⟩ := cont χ hf hb (fun H X H0 H1 X0 X1 => by
        rw [hq H X H0 H1 X0 X1, Gq_step h00 x00 H0, hvv]
        show Gq n B h0 x0 H X + (if H = h0 + 1 ∧ X = x0 ∧ h0 < n then v else 0) + (if H = h0 - 1 ∧ x0 ≤ X ∧ X < x0 + j then v else 0) = _
        congr 1
        by_cases c : v = 0
        · rw [c]
          simp only [ite_self]
        · by_cases c2 : H = h0 - 1 ∧ x0 ≤ X ∧ X < x0 + j
          · rw [if_pos c2, if_pos (by omega)]
          · rw [if_neg c2, if_neg (by omega)])
      refine ⟨τ, ?_, tr⟩
      refine vX6_layCrossings 100 ?_
      simp only [↓S_X6_layCrossings_1, ↓S_X6_layCrossings_2, ↓S_X6_layCrossings_3, ↓S_X6_layCrossings_4, ↓pI_c, ↓pL_c, ↓pR_c, ↓pC_I, ↓pC_R, ↓pE_n, ↓gI_0, ↓gI_s, ↓gL_0, ↓gL_s, ↓gR_0, ↓gR_s, ↓popN_0, ↓popN_s, ↓kl_I, ↓kl_L, ↓kl_R, ↓kl_n, ↓put1_0, ↓put1_s, ↓putk_0, ↓putk_s, ↓put2_0, ↓put2_s, ↓putl_0, ↓putl_s, ↓callK_0, ↓callK_1, ↓callK_2, cats_n, cats_c, catA_I, catA_L, catA_R, KL, LV, lval_f, ltag_f, llen_f, lcm_lt, lcm_le, lcm_gt, lcm_ge, lcm_eq, lcm_R1, lcm_R2, inR, inL, true_and, and_true, eq_self, List.head?_cons, Option.some.injEq, Sum.inr.injEq, Sum.inl.injEq, false_or, or_false, true_or, or_true, Nat.reduceAdd, Nat.reduceLeDiff, Int.reduceLE, Int.reduceLT, Int.reduceEq, Int.reduceNeg, Int.reduceAdd, Int.reduceSub, Int.reduceMul, Int.reduceNe, ne_eq, not_false_eq_true, not_true_eq_false, false_implies, forall_const, Nat.le_refl, Nat.zero_le, implies_true, and_self]
      (repeat' (first | apply And.intro | intro _))
      all_goals (try first | omega | trivial | (rfl; done) | assumption | (exfalso; omega) | (exact t) | (refine V.wk t ?_; simp [lle]; done))
    induction k with
    | zero =>
      intro j χ j0 jk hf hb hq
      exact ex j χ j0 (by omega) (by omega) hf hb hq
    | succ k ih =>
      intro j χ j0 jk hf hb hq
      by_cases c : 0 < v ∧ x0 + j < 67
      · have e1 := hq (h0 - 1) (x0 + j) (by omega) (by omega) (by omega) c.2
        obtain ⟨τ, t, tr⟩ := ih (j + 1) (up χ 33 (67 * (h0 - 1) + x0 + j) (χ 33 (67 * (h0 - 1) + x0 + j) + v)) (by omega) (by omega) (fun x y x1 x2 => by unfold up; rw [if_neg (by omega)]; exact hf x y x1 x2) (fun H X H0 H1 X0 X1 => by unfold up; rw [if_neg (by omega)]; exact hb H X H0 H1 X0 X1) (fun H X H0 H1 X0 X1 => by
          show up χ 33 (67 * (h0 - 1) + x0 + j) (χ 33 (67 * (h0 - 1) + x0 + j) + v) 33 (67 * H + X) = Gq n B h0 x0 H X + (if H = h0 + 1 ∧ X = x0 ∧ h0 < n then v else 0) + (if H = h0 - 1 ∧ x0 ≤ X ∧ X < x0 + (j + 1) then v else 0)
          have e2 := hq H X H0 H1 X0 X1
          unfold up
          by_cases q : H = h0 - 1 ∧ X = x0 + j
          · rw [if_pos ⟨rfl, by omega⟩, show 67 * (h0 - 1) + x0 + j = 67 * H + X from by omega, e2]
            show Gq n B h0 x0 H X + (if H = h0 + 1 ∧ X = x0 ∧ h0 < n then v else 0) + (if H = h0 - 1 ∧ x0 ≤ X ∧ X < x0 + j then v else 0) + v = _
            rw [if_neg (c := H = h0 - 1 ∧ x0 ≤ X ∧ X < x0 + j) (by omega), if_pos (c := H = h0 - 1 ∧ x0 ≤ X ∧ X < x0 + (j + 1)) (by omega)]
            omega
          · rw [if_neg (by omega), e2]
            show Gq n B h0 x0 H X + (if H = h0 + 1 ∧ X = x0 ∧ h0 < n then v else 0) + (if H = h0 - 1 ∧ x0 ≤ X ∧ X < x0 + j then v else 0) = _
            congr 1
            by_cases c2 : H = h0 - 1 ∧ x0 ≤ X ∧ X < x0 + j
            · rw [if_pos c2, if_pos (by omega)]
            · rw [if_neg c2, if_neg (by omega)])
        refine ⟨τ, ?_, tr⟩
        refine vX6_layCrossings 100 ?_
        simp only [↓S_X6_layCrossings_1, ↓S_X6_layCrossings_2, ↓S_X6_layCrossings_3, ↓S_X6_layCrossings_4, ↓pI_c, ↓pL_c, ↓pR_c, ↓pC_I, ↓pC_R, ↓pE_n, ↓gI_0, ↓gI_s, ↓gL_0, ↓gL_s, ↓gR_0, ↓gR_s, ↓popN_0, ↓popN_s, ↓kl_I, ↓kl_L, ↓kl_R, ↓kl_n, ↓put1_0, ↓put1_s, ↓putk_0, ↓putk_s, ↓put2_0, ↓put2_s, ↓putl_0, ↓putl_s, ↓callK_0, ↓callK_1, ↓callK_2, cats_n, cats_c, catA_I, catA_L, catA_R, KL, LV, lval_f, ltag_f, llen_f, lcm_lt, lcm_le, lcm_gt, lcm_ge, lcm_eq, lcm_R1, lcm_R2, inR, inL, true_and, and_true, eq_self, List.head?_cons, Option.some.injEq, Sum.inr.injEq, Sum.inl.injEq, false_or, or_false, true_or, or_true, Nat.reduceAdd, Nat.reduceLeDiff, Int.reduceLE, Int.reduceLT, Int.reduceEq, Int.reduceNeg, Int.reduceAdd, Int.reduceSub, Int.reduceMul, Int.reduceNe, ne_eq, not_false_eq_true, not_true_eq_false, false_implies, forall_const, Nat.le_refl, Nat.zero_le, implies_true, and_self]
        simp only [l33, c33]
        (repeat' (first | apply And.intro | intro _))
        all_goals (try first | omega | trivial | (rfl; done) | assumption | (exfalso; omega) | (exact t) | (refine V.wk t ?_; simp [lle]; done))
      · exact ex j χ j0 (by omega) (by omega) hf hb hq
  by_cases c : 0 < v ∧ h0 < n
  · obtain ⟨τ, t, tr⟩ := jl h0.toNat 0 (up χ 33 (67 * (h0 + 1) + x0) (χ 33 (67 * (h0 + 1) + x0) + v)) (by omega) (by omega) (fun x y x1 x2 => by unfold up; rw [if_neg (by omega)]; exact hf x y x1 x2) (fun H X H0 H1 X0 X1 => by unfold up; rw [if_neg (by omega)]; exact hb H X H0 H1 X0 X1) (fun H X H0 H1 X0 X1 => by
      show up χ 33 (67 * (h0 + 1) + x0) (χ 33 (67 * (h0 + 1) + x0) + v) 33 (67 * H + X) = Gq n B h0 x0 H X + (if H = h0 + 1 ∧ X = x0 ∧ h0 < n then v else 0) + (if H = h0 - 1 ∧ x0 ≤ X ∧ X < x0 + 0 then v else 0)
      have e2 := hq H X H0 H1 X0 X1
      rw [if_neg (c := H = h0 - 1 ∧ x0 ≤ X ∧ X < x0 + 0) (by omega), Int.add_zero]
      unfold up
      by_cases q : H = h0 + 1 ∧ X = x0
      · rw [if_pos ⟨rfl, by omega⟩, show 67 * (h0 + 1) + x0 = 67 * H + X from by omega, e2, if_pos (by omega)]
      · rw [if_neg (by omega), e2, if_neg (by omega), Int.add_zero])
    refine ⟨τ, ?_, tr⟩
    refine vX6_layCrossings 100 ?_
    simp only [↓S_X6_layCrossings_1, ↓S_X6_layCrossings_2, ↓S_X6_layCrossings_3, ↓S_X6_layCrossings_4, ↓pI_c, ↓pL_c, ↓pR_c, ↓pC_I, ↓pC_R, ↓pE_n, ↓gI_0, ↓gI_s, ↓gL_0, ↓gL_s, ↓gR_0, ↓gR_s, ↓popN_0, ↓popN_s, ↓kl_I, ↓kl_L, ↓kl_R, ↓kl_n, ↓put1_0, ↓put1_s, ↓putk_0, ↓putk_s, ↓put2_0, ↓put2_s, ↓putl_0, ↓putl_s, ↓callK_0, ↓callK_1, ↓callK_2, cats_n, cats_c, catA_I, catA_L, catA_R, KL, LV, lval_f, ltag_f, llen_f, lcm_lt, lcm_le, lcm_gt, lcm_ge, lcm_eq, lcm_R1, lcm_R2, inR, inL, true_and, and_true, eq_self, List.head?_cons, Option.some.injEq, Sum.inr.injEq, Sum.inl.injEq, false_or, or_false, true_or, or_true, Nat.reduceAdd, Nat.reduceLeDiff, Int.reduceLE, Int.reduceLT, Int.reduceEq, Int.reduceNeg, Int.reduceAdd, Int.reduceSub, Int.reduceMul, Int.reduceNe, ne_eq, not_false_eq_true, not_true_eq_false, false_implies, forall_const, Nat.le_refl, Nat.zero_le, implies_true, and_self]
    simp only [l33, l34, c33, ev]
    (repeat' (first | apply And.intro | intro _))
    all_goals (try first | omega | trivial | (rfl; done) | assumption | (exfalso; omega) | (exact t) | (refine V.wk t ?_; simp [lle]; done))
  · obtain ⟨τ, t, tr⟩ := jl h0.toNat 0 χ (by omega) (by omega) hf hb (fun H X H0 H1 X0 X1 => by
      show _ = Gq n B h0 x0 H X + (if H = h0 + 1 ∧ X = x0 ∧ h0 < n then v else 0) + (if H = h0 - 1 ∧ x0 ≤ X ∧ X < x0 + 0 then v else 0)
      rw [if_neg (c := H = h0 - 1 ∧ x0 ≤ X ∧ X < x0 + 0) (by omega), Int.add_zero, hq H X H0 H1 X0 X1]
      by_cases q : v = 0
      · rw [q, ite_self, Int.add_zero]
      · rw [if_neg (by omega), Int.add_zero])
    refine ⟨τ, ?_, tr⟩
    refine vX6_layCrossings 100 ?_
    simp only [↓S_X6_layCrossings_1, ↓S_X6_layCrossings_2, ↓S_X6_layCrossings_3, ↓S_X6_layCrossings_4, ↓pI_c, ↓pL_c, ↓pR_c, ↓pC_I, ↓pC_R, ↓pE_n, ↓gI_0, ↓gI_s, ↓gL_0, ↓gL_s, ↓gR_0, ↓gR_s, ↓popN_0, ↓popN_s, ↓kl_I, ↓kl_L, ↓kl_R, ↓kl_n, ↓put1_0, ↓put1_s, ↓putk_0, ↓putk_s, ↓put2_0, ↓put2_s, ↓putl_0, ↓putl_s, ↓callK_0, ↓callK_1, ↓callK_2, cats_n, cats_c, catA_I, catA_L, catA_R, KL, LV, lval_f, ltag_f, llen_f, lcm_lt, lcm_le, lcm_gt, lcm_ge, lcm_eq, lcm_R1, lcm_R2, inR, inL, true_and, and_true, eq_self, List.head?_cons, Option.some.injEq, Sum.inr.injEq, Sum.inl.injEq, false_or, or_false, true_or, or_true, Nat.reduceAdd, Nat.reduceLeDiff, Int.reduceLE, Int.reduceLT, Int.reduceEq, Int.reduceNeg, Int.reduceAdd, Int.reduceSub, Int.reduceMul, Int.reduceNe, ne_eq, not_false_eq_true, not_true_eq_false, false_implies, forall_const, Nat.le_refl, Nat.zero_le, implies_true, and_self]
    simp only [l34, ev]
    (repeat' (first | apply And.intro | intro _))
    all_goals (try first | omega | trivial | (rfl; done) | assumption | (exfalso; omega) | (exact t) | (refine V.wk t ?_; simp [lle]; done))

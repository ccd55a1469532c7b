/-! the model's drawing, part 2: its numbers -/
set_option maxRecDepth 100000 in
theorem r_X6_pairs (D : Nat) (σ : Sg) (w : Int) (hv : w = 0 ∨ w = 1) (hw : WD (σ 6 0) (σ 26)) : Ret (D + 2) miX6_pairs [aR 6, aI w] σ (some (aI (rs (fun a => rs (fun b => if a < σ 26 a ∧ b < σ 26 b ∧ b < σ 26 a ∧ (σ 26 a < σ 26 b ↔ w = 1) then 1 else 0) (a + 1) (σ 6 0 - (a + 1)).toNat) 0 (σ 6 0).toNat))) σ := by
  have w1 := hw.1
  have w2 := hw.2.1
  refine Ret.of 6 [some (aR 6), some (aI w), none, none, none] rfl (by decide) rfl (Nat.le_of_ble_eq_true rfl) ?_
  have inner : ∀ (r : Option AV) (k : Nat) (a b acc : Int), 0 ≤ a → a < σ 6 0 → a < b → b + k = σ 6 0 → V (D + 1) miX6_pairs 6 r σ 4 [some (aR 6), some (aI w), some (aI (acc + rs (fun b => if a < σ 26 a ∧ b < σ 26 b ∧ b < σ 26 a ∧ (σ 26 a < σ 26 b ↔ w = 1) then 1 else 0) b k)), some (aI (a + 1)), none] [] σ → V (D + 1) miX6_pairs 6 r σ 17 [some (aR 6), some (aI w), some (aI acc), some (aI a), some (aI b)] [] σ := by
    intro r k
    induction k with
    | zero =>
      intro a b acc a0 a1 ab hb t
      rw [show rs (fun b => if a < σ 26 a ∧ b < σ 26 b ∧ b < σ 26 a ∧ (σ 26 a < σ 26 b ↔ w = 1) then 1 else 0) b 0 = 0 from rfl, Int.add_zero] at t
      refine vX6_pairs 100 ?_
      simp only [↓S_X6_pairs_1, ↓S_X6_pairs_2, ↓pI_c, ↓pL_c, ↓pR_c, ↓pC_I, ↓pC_R, ↓pE_n, ↓gI_0, ↓gI_s, ↓gL_0, ↓gL_s, ↓gR_0, ↓gR_s, ↓popN_0, ↓popN_s, ↓kl_I, ↓kl_L, ↓kl_R, ↓kl_n, ↓put1_0, ↓put1_s, ↓putk_0, ↓putk_s, ↓put2_0, ↓put2_s, ↓putl_0, ↓putl_s, ↓callK_0, ↓callK_1, ↓callK_2, cats_n, cats_c, catA_I, catA_L, catA_R, KL, LV, lval_f, ltag_f, llen_f, lcm_lt, lcm_le, lcm_gt, lcm_ge, lcm_eq, lcm_R1, lcm_R2, inR, inL, true_and, and_true, eq_self, List.head?_cons, Option.some.injEq, Sum.inr.injEq, Sum.inl.injEq, false_or, or_false, true_or, or_true, Nat.reduceAdd, Nat.reduceLeDiff, Int.reduceLE, Int.reduceLT, Int.reduceEq, Int.reduceNeg, Int.reduceAdd, Int.reduceSub, Int.reduceMul, Int.reduceNe, ne_eq, not_false_eq_true, not_true_eq_false, false_implies, forall_const, Nat.le_refl, Nat.zero_le, implies_true, and_self]
      (repeat' (first | apply And.intro | intro _))
      all_goals (try first | omega | trivial | (rfl; done) | assumption | (exfalso; omega) | (exact t) | (refine V.wk t ?_; simp [lle]; done))
    | succ k ih =>
      intro a b acc a0 a1 ab hb t
      have hra := hw.r a0 (show a < 24 by omega)
      have hrb := hw.r (show 0 ≤ b by omega) (show b < 24 by omega)
      have ba := r_X6_begins D σ a a0 (by omega) (by unfold inR; omega)
      have bb := r_X6_begins D σ b (by omega) (by omega) (by unfold inR; omega)
      rw [rs_s, ← Int.add_assoc] at t
      have t2 := ih a (b + 1) _ a0 a1 (by omega) (by omega) t
      by_cases c1 : a < σ 26 a
      · by_cases c2 : b < σ 26 b
        · rw [if_pos c1] at ba
          rw [if_pos c2] at bb
          by_cases c3 : b < σ 26 a
          · by_cases c4 : (σ 26 a < σ 26 b ↔ w = 1)
            · rw [if_pos ⟨c1, c2, c3, c4⟩] at t2
              refine vX6_pairs 100 ?_
              simp only [↓S_X6_pairs_1, ↓S_X6_pairs_2, ↓pI_c, ↓pL_c, ↓pR_c, ↓pC_I, ↓pC_R, ↓pE_n, ↓gI_0, ↓gI_s, ↓gL_0, ↓gL_s, ↓gR_0, ↓gR_s, ↓popN_0, ↓popN_s, ↓kl_I, ↓kl_L, ↓kl_R, ↓kl_n, ↓put1_0, ↓put1_s, ↓putk_0, ↓putk_s, ↓put2_0, ↓put2_s, ↓putl_0, ↓putl_s, ↓callK_0, ↓callK_1, ↓callK_2, cats_n, cats_c, catA_I, catA_L, catA_R, KL, LV, lval_f, ltag_f, llen_f, lcm_lt, lcm_le, lcm_gt, lcm_ge, lcm_eq, lcm_R1, lcm_R2, inR, inL, true_and, and_true, eq_self, List.head?_cons, Option.some.injEq, Sum.inr.injEq, Sum.inl.injEq, false_or, or_false, true_or, or_true, Nat.reduceAdd, Nat.reduceLeDiff, Int.reduceLE, Int.reduceLT, Int.reduceEq, Int.reduceNeg, Int.reduceAdd, Int.reduceSub, Int.reduceMul, Int.reduceNe, ne_eq, not_false_eq_true, not_true_eq_false, false_implies, forall_const, Nat.le_refl, Nat.zero_le, implies_true, and_self]
              (repeat' (first | apply And.intro | intro _ | with_reducible refine Exists.intro _ (Exists.intro _ (And.intro ba ?_)) | with_reducible refine Exists.intro _ (And.intro ba ?_) | with_reducible refine Exists.intro _ (Exists.intro _ (And.intro bb ?_)) | with_reducible refine Exists.intro _ (And.intro bb ?_)))
              all_goals (try first | omega | trivial | (rfl; done) | assumption | (exfalso; omega) | (exact t2) | (refine V.wk t2 ?_; simp [lle]; done))
            · rw [if_neg (by omega), Int.add_zero] at t2
              refine vX6_pairs 100 ?_
              simp only [↓S_X6_pairs_1, ↓S_X6_pairs_2, ↓pI_c, ↓pL_c, ↓pR_c, ↓pC_I, ↓pC_R, ↓pE_n, ↓gI_0, ↓gI_s, ↓gL_0, ↓gL_s, ↓gR_0, ↓gR_s, ↓popN_0, ↓popN_s, ↓kl_I, ↓kl_L, ↓kl_R, ↓kl_n, ↓put1_0, ↓put1_s, ↓putk_0, ↓putk_s, ↓put2_0, ↓put2_s, ↓putl_0, ↓putl_s, ↓callK_0, ↓callK_1, ↓callK_2, cats_n, cats_c, catA_I, catA_L, catA_R, KL, LV, lval_f, ltag_f, llen_f, lcm_lt, lcm_le, lcm_gt, lcm_ge, lcm_eq, lcm_R1, lcm_R2, inR, inL, true_and, and_true, eq_self, List.head?_cons, Option.some.injEq, Sum.inr.injEq, Sum.inl.injEq, false_or, or_false, true_or, or_true, Nat.reduceAdd, Nat.reduceLeDiff, Int.reduceLE, Int.reduceLT, Int.reduceEq, Int.reduceNeg, Int.reduceAdd, Int.reduceSub, Int.reduceMul, Int.reduceNe, ne_eq, not_false_eq_true, not_true_eq_false, false_implies, forall_const, Nat.le_refl, Nat.zero_le, implies_true, and_self]
              (repeat' (first | apply And.intro | intro _ | with_reducible refine Exists.intro _ (Exists.intro _ (And.intro ba ?_)) | with_reducible refine Exists.intro _ (And.intro ba ?_) | with_reducible refine Exists.intro _ (Exists.intro _ (And.intro bb ?_)) | with_reducible refine Exists.intro _ (And.intro bb ?_)))
              all_goals (try first | omega | trivial | (rfl; done) | assumption | (exfalso; omega) | (exact t2) | (refine V.wk t2 ?_; simp [lle]; done))
          · rw [if_neg (by omega), Int.add_zero] at t2
            refine vX6_pairs 100 ?_
            simp only [↓S_X6_pairs_1, ↓S_X6_pairs_2, ↓pI_c, ↓pL_c, ↓pR_c, ↓pC_I, ↓pC_R, ↓pE_n, ↓gI_0, ↓gI_s, ↓gL_0, ↓gL_s, ↓gR_0, ↓gR_s, ↓popN_0, ↓popN_s, ↓kl_I, ↓kl_L, ↓kl_R, ↓kl_n, ↓put1_0, ↓put1_s, ↓putk_0, ↓putk_s, ↓put2_0, ↓put2_s, ↓putl_0, ↓putl_s, ↓callK_0, ↓callK_1, ↓callK_2, cats_n, cats_c, catA_I, catA_L, catA_R, KL, LV, lval_f, ltag_f, llen_f, lcm_lt, lcm_le, lcm_gt, lcm_ge, lcm_eq, lcm_R1, lcm_R2, inR, inL, true_and, and_true, eq_self, List.head?_cons, Option.some.injEq, Sum.inr.injEq, Sum.inl.injEq, false_or, or_false, true_or, or_true, Nat.reduceAdd, Nat.reduceLeDiff, Int.reduceLE, Int.reduceLT, Int.reduceEq, Int.reduceNeg, Int.reduceAdd, Int.reduceSub, Int.reduceMul, Int.reduceNe, ne_eq, not_false_eq_true, not_true_eq_false, false_implies, forall_const, Nat.le_refl, Nat.zero_le, implies_true, and_self]
            (repeat' (first | apply And.intro | intro _ | with_reducible refine Exists.intro _ (Exists.intro _ (And.intro ba ?_)) | with_reducible refine Exists.intro _ (And.intro ba ?_) | with_reducible refine Exists.intro _ (Exists.intro _ (And.intro bb ?_)) | with_reducible refine Exists.intro _ (And.intro bb ?_)))
            all_goals (try first | omega | trivial | (rfl; done) | assumption | (exfalso; omega) | (exact t2) | (refine V.wk t2 ?_; simp [lle]; done))
        · rw [if_neg (by omega), Int.add_zero] at t2
          rw [if_pos c1] at ba
          rw [if_neg c2] at bb
          refine vX6_pairs 100 ?_
          simp only [↓S_X6_pairs_1, ↓S_X6_pairs_2, ↓pI_c, ↓pL_c, ↓pR_c, ↓pC_I, ↓pC_R, ↓pE_n, ↓gI_0, ↓gI_s, ↓gL_0, ↓gL_s, ↓gR_0, ↓gR_s, ↓popN_0, ↓popN_s, ↓kl_I, ↓kl_L, ↓kl_R, ↓kl_n, ↓put1_0, ↓put1_s, ↓putk_0, ↓putk_s, ↓put2_0, ↓put2_s, ↓putl_0, ↓putl_s, ↓callK_0, ↓callK_1, ↓callK_2, cats_n, cats_c, catA_I, catA_L, catA_R, KL, LV, lval_f, ltag_f, llen_f, lcm_lt, lcm_le, lcm_gt, lcm_ge, lcm_eq, lcm_R1, lcm_R2, inR, inL, true_and, and_true, eq_self, List.head?_cons, Option.some.injEq, Sum.inr.injEq, Sum.inl.injEq, false_or, or_false, true_or, or_true, Nat.reduceAdd, Nat.reduceLeDiff, Int.reduceLE, Int.reduceLT, Int.reduceEq, Int.reduceNeg, Int.reduceAdd, Int.reduceSub, Int.reduceMul, Int.reduceNe, ne_eq, not_false_eq_true, not_true_eq_false, false_implies, forall_const, Nat.le_refl, Nat.zero_le, implies_true, and_self]
          (repeat' (first | apply And.intro | intro _ | with_reducible refine Exists.intro _ (Exists.intro _ (And.intro ba ?_)) | with_reducible refine Exists.intro _ (And.intro ba ?_) | with_reducible refine Exists.intro _ (Exists.intro _ (And.intro bb ?_)) | with_reducible refine Exists.intro _ (And.intro bb ?_)))
          all_goals (try first | omega | trivial | (rfl; done) | assumption | (exfalso; omega) | (exact t2) | (refine V.wk t2 ?_; simp [lle]; done))
      · rw [if_neg (by omega), Int.add_zero] at t2
        rw [if_neg c1] at ba
        refine vX6_pairs 100 ?_
        simp only [↓S_X6_pairs_1, ↓S_X6_pairs_2, ↓pI_c, ↓pL_c, ↓pR_c, ↓pC_I, ↓pC_R, ↓pE_n, ↓gI_0, ↓gI_s, ↓gL_0, ↓gL_s, ↓gR_0, ↓gR_s, ↓popN_0, ↓popN_s, ↓kl_I, ↓kl_L, ↓kl_R, ↓kl_n, ↓put1_0, ↓put1_s, ↓putk_0, ↓putk_s, ↓put2_0, ↓put2_s, ↓putl_0, ↓putl_s, ↓callK_0, ↓callK_1, ↓callK_2, cats_n, cats_c, catA_I, catA_L, catA_R, KL, LV, lval_f, ltag_f, llen_f, lcm_lt, lcm_le, lcm_gt, lcm_ge, lcm_eq, lcm_R1, lcm_R2, inR, inL, true_and, and_true, eq_self, List.head?_cons, Option.some.injEq, Sum.inr.injEq, Sum.inl.injEq, false_or, or_false, true_or, or_true, Nat.reduceAdd, Nat.reduceLeDiff, Int.reduceLE, Int.reduceLT, Int.reduceEq, Int.reduceNeg, Int.reduceAdd, Int.reduceSub, Int.reduceMul, Int.reduceNe, ne_eq, not_false_eq_true, not_true_eq_false, false_implies, forall_const, Nat.le_refl, Nat.zero_le, implies_true, and_self]
        (repeat' (first | apply And.intro | intro _ | with_reducible refine Exists.intro _ (Exists.intro _ (And.intro ba ?_)) | with_reducible refine Exists.intro _ (And.intro ba ?_) | with_reducible refine Exists.intro _ (Exists.intro _ (And.intro bb ?_)) | with_reducible refine Exists.intro _ (And.intro bb ?_)))
        all_goals (try first | omega | trivial | (rfl; done) | assumption | (exfalso; omega) | (exact t2) | (refine V.wk t2 ?_; simp [lle]; done))
  have loop : ∀ (k : Nat) (a acc : Int), 0 ≤ a → a + k = σ 6 0 → V (D + 1) miX6_pairs 6 (some (aI (acc + rs (fun a => rs (fun b => if a < σ 26 a ∧ b < σ 26 b ∧ b < σ 26 a ∧ (σ 26 a < σ 26 b ↔ w = 1) then 1 else 0) (a + 1) (σ 6 0 - (a + 1)).toNat) a k))) σ 4 [some (aR 6), some (aI w), some (aI acc), some (aI a), none] [] σ := by
    intro k
    induction k with
    | zero =>
      intro a acc a0 hk
      refine vX6_pairs 100 ?_
      simp only [↓S_X6_pairs_1, ↓S_X6_pairs_2, ↓pI_c, ↓pL_c, ↓pR_c, ↓pC_I, ↓pC_R, ↓pE_n, ↓gI_0, ↓gI_s, ↓gL_0, ↓gL_s, ↓gR_0, ↓gR_s, ↓popN_0, ↓popN_s, ↓kl_I, ↓kl_L, ↓kl_R, ↓kl_n, ↓put1_0, ↓put1_s, ↓putk_0, ↓putk_s, ↓put2_0, ↓put2_s, ↓putl_0, ↓putl_s, ↓callK_0, ↓callK_1, ↓callK_2, cats_n, cats_c, catA_I, catA_L, catA_R, KL, LV, lval_f, ltag_f, llen_f, lcm_lt, lcm_le, lcm_gt, lcm_ge, lcm_eq, lcm_R1, lcm_R2, inR, inL, true_and, and_true, eq_self, List.head?_cons, Option.some.injEq, Sum.inr.injEq, Sum.inl.injEq, false_or, or_false, true_or, or_true, Nat.reduceAdd, Nat.reduceLeDiff, Int.reduceLE, Int.reduceLT, Int.reduceEq, Int.reduceNeg, Int.reduceAdd, Int.reduceSub, Int.reduceMul, Int.reduceNe, ne_eq, not_false_eq_true, not_true_eq_false, false_implies, forall_const, Nat.le_refl, Nat.zero_le, implies_true, and_self]
      (repeat' (first | apply And.intro | intro _))
      all_goals (try first | omega | trivial | (rfl; done) | assumption | (exfalso; omega))
      rename_i h
      simp [rs]
    | succ k ih =>
      intro a acc a0 hk
      have t := ih (a + 1) (acc + rs (fun b => if a < σ 26 a ∧ b < σ 26 b ∧ b < σ 26 a ∧ (σ 26 a < σ 26 b ↔ w = 1) then 1 else 0) (a + 1) (σ 6 0 - (a + 1)).toNat) (by omega) (by omega)
      rw [rs_s, ← Int.add_assoc]
      have t2 := inner _ (σ 6 0 - (a + 1)).toNat a (a + 1) acc a0 (by omega) (by omega) (by omega) t
      refine vX6_pairs 100 ?_
      simp only [↓S_X6_pairs_1, ↓S_X6_pairs_2, ↓pI_c, ↓pL_c, ↓pR_c, ↓pC_I, ↓pC_R, ↓pE_n, ↓gI_0, ↓gI_s, ↓gL_0, ↓gL_s, ↓gR_0, ↓gR_s, ↓popN_0, ↓popN_s, ↓kl_I, ↓kl_L, ↓kl_R, ↓kl_n, ↓put1_0, ↓put1_s, ↓putk_0, ↓putk_s, ↓put2_0, ↓put2_s, ↓putl_0, ↓putl_s, ↓callK_0, ↓callK_1, ↓callK_2, cats_n, cats_c, catA_I, catA_L, catA_R, KL, LV, lval_f, ltag_f, llen_f, lcm_lt, lcm_le, lcm_gt, lcm_ge, lcm_eq, lcm_R1, lcm_R2, inR, inL, true_and, and_true, eq_self, List.head?_cons, Option.some.injEq, Sum.inr.injEq, Sum.inl.injEq, false_or, or_false, true_or, or_true, Nat.reduceAdd, Nat.reduceLeDiff, Int.reduceLE, Int.reduceLT, Int.reduceEq, Int.reduceNeg, Int.reduceAdd, Int.reduceSub, Int.reduceMul, Int.reduceNe, ne_eq, not_false_eq_true, not_true_eq_false, false_implies, forall_const, Nat.le_refl, Nat.zero_le, implies_true, and_self]
      (repeat' (first | apply And.intro | intro _))
      all_goals (try first | omega | trivial | (rfl; done) | assumption | (exfalso; omega) | (exact t2) | (refine V.wk t2 ?_; simp [lle]; done))
  have t := loop (σ 6 0).toNat 0 0 (by omega) (by omega)
  rw [Int.zero_add] at t
  refine vX6_pairs 100 ?_
  simp only [↓S_X6_pairs_1, ↓S_X6_pairs_2, ↓pI_c, ↓pL_c, ↓pR_c, ↓pC_I, ↓pC_R, ↓pE_n, ↓gI_0, ↓gI_s, ↓gL_0, ↓gL_s, ↓gR_0, ↓gR_s, ↓popN_0, ↓popN_s, ↓kl_I, ↓kl_L, ↓kl_R, ↓kl_n, ↓put1_0, ↓put1_s, ↓putk_0, ↓putk_s, ↓put2_0, ↓put2_s, ↓putl_0, ↓putl_s, ↓callK_0, ↓callK_1, ↓callK_2, cats_n, cats_c, catA_I, catA_L, catA_R, KL, LV, lval_f, ltag_f, llen_f, lcm_lt, lcm_le, lcm_gt, lcm_ge, lcm_eq, lcm_R1, lcm_R2, inR, inL, true_and, and_true, eq_self, List.head?_cons, Option.some.injEq, Sum.inr.injEq, Sum.inl.injEq, false_or, or_false, true_or, or_true, Nat.reduceAdd, Nat.reduceLeDiff, Int.reduceLE, Int.reduceLT, Int.reduceEq, Int.reduceNeg, Int.reduceAdd, Int.reduceSub, Int.reduceMul, Int.reduceNe, ne_eq, not_false_eq_true, not_true_eq_false, false_implies, forall_const, Nat.le_refl, Nat.zero_le, implies_true, and_self]
  (repeat' (first | apply And.intro | intro _))
  all_goals (try first | omega | trivial | (rfl; done) | assumption | (exfalso; omega) | (exact t) | (refine V.wk t ?_; simp [lle]; done))
theorem pairs_row {L : Int} {m : Int → Int} (hw : WD L m) {a : Int} (a0 : 0 ≤ a) (a1 : a < L) (f : Int → Int) (g : Int → Int) (hfg : ∀ b, a < b → b < m a → f b = g b) (hg : ∀ b, a < b → m a ≤ b → b < L → g b = 0) : rs g (a + 1) (L - (a + 1)).toNat = rs f (a + 1) (m a - (a + 1)).toNat := by
  have hL := hw.2.1
  have h24 : m a < L ∨ m a = -1 := by
    rcases hw.b a0 (by omega) with q | q
    · exact Or.inl q.2.2
    · exact Or.inr q
  by_cases c : a < m a
  · rw [show (L - (a + 1)).toNat = (m a - (a + 1)).toNat + (L - m a).toNat from by omega, rs_split]
    rw [rs_congr (g := f) (m a - (a + 1)).toNat (a + 1) (fun j j0 j1 => (hfg j (by omega) (by omega)).symm), rs_zero (f := g) (L - m a).toNat _ (fun j j0 j1 => hg j (by omega) (by omega) (by omega)), Int.add_zero]
  · rw [show (m a - (a + 1)).toNat = 0 from by omega, rs_zero (f := g) _ _ (fun j j0 j1 => hg j (by omega) (by omega) (by omega))]
    rfl
theorem pairs_x {L : Int} {m : Int → Int} (hw : WD L m) : rs (fun a => rs (fun b => if a < m a ∧ b < m b ∧ b < m a ∧ (m a < m b ↔ (1 : Int) = 1) then 1 else 0) (a + 1) (L - (a + 1)).toNat) 0 L.toNat = rs (fun a => rs (fun c => if m a < m c then 1 else 0) (a + 1) (m a - (a + 1)).toNat) 0 L.toNat := by
  refine rs_congr _ _ (fun a a0 a1 => pairs_row hw a0 (by have := hw.1; omega) _ _ (fun b b0 b1 => ?_) (fun b b0 b1 b2 => ?_))
  · by_cases c : m a < m b
    · rw [if_pos c, if_pos (by omega)]
    · rw [if_neg c, if_neg (by omega)]
  · rw [if_neg (by omega)]
theorem pairs_n {L : Int} {m : Int → Int} (hw : WD L m) : rs (fun a => rs (fun b => if a < m a ∧ b < m b ∧ b < m a ∧ (m a < m b ↔ (0 : Int) = 1) then 1 else 0) (a + 1) (L - (a + 1)).toNat) 0 L.toNat = rs (fun a => rs (fun c => if c < m c ∧ m c < m a then 1 else 0) (a + 1) (m a - (a + 1)).toNat) 0 L.toNat := by
  have hL := hw.1
  have hL2 := hw.2.1
  refine rs_congr _ _ (fun a a0 a1 => pairs_row hw a0 (by omega) _ _ (fun b b0 b1 => ?_) (fun b b0 b1 b2 => ?_))
  · by_cases c : b < m b ∧ m b < m a
    · rw [if_pos c, if_pos (by omega)]
    · have hne : m b ≠ m a := fun z => by
        have hb : b < L := by
          rcases hw.b a0 (show a < 24 by omega) with q | q <;> omega
        have h1 := hw.2.2.1 a a0 (by omega)
        have h2 := hw.2.2.1 b (by omega) hb
        rcases h1 with h1 | h1
        · omega
        · rcases h2 with h2 | h2
          · omega
          · have e1 := h1.2.2.2
            have e2 := h2.2.2.2
            rw [z, e1] at e2
            omega
      rw [if_neg c, if_neg (by omega)]
  · rw [if_neg (by omega)]
set_option maxRecDepth 100000 in
theorem r_X6_stacks (D : Nat) (σ : Sg) (hw : WD (σ 6 0) (σ 26)) : Ret (D + 2) miX6_stacks [aR 6] σ (some (aI (rs (fun a => if a < σ 26 a ∧ ¬ (0 < a ∧ σ 26 a < σ 6 0 - 1 ∧ σ 26 (a - 1) = σ 26 a + 1) then 1 else 0) 0 (σ 6 0).toNat))) σ := by
  have w1 := hw.1
  have w2 := hw.2.1
  refine Ret.of 6 [some (aR 6), none, none] rfl (by decide) rfl (Nat.le_of_ble_eq_true rfl) ?_
  have loop : ∀ (k : Nat) (a acc : Int), 0 ≤ a → a + k = σ 6 0 → V (D + 1) miX6_stacks 6 (some (aI (acc + rs (fun a => if a < σ 26 a ∧ ¬ (0 < a ∧ σ 26 a < σ 6 0 - 1 ∧ σ 26 (a - 1) = σ 26 a + 1) then 1 else 0) a k))) σ 4 [some (aR 6), some (aI acc), some (aI a)] [] σ := by
    intro k
    induction k with
    | zero =>
      intro a acc a0 hk
      refine vX6_stacks 100 ?_
      simp only [↓S_X6_stacks, ↓pI_c, ↓pL_c, ↓pR_c, ↓pC_I, ↓pC_R, ↓pE_n, ↓gI_0, ↓gI_s, ↓gL_0, ↓gL_s, ↓gR_0, ↓gR_s, ↓popN_0, ↓popN_s, ↓kl_I, ↓kl_L, ↓kl_R, ↓kl_n, ↓put1_0, ↓put1_s, ↓putk_0, ↓putk_s, ↓put2_0, ↓put2_s, ↓putl_0, ↓putl_s, ↓callK_0, ↓callK_1, ↓callK_2, cats_n, cats_c, catA_I, catA_L, catA_R, KL, LV, lval_f, ltag_f, llen_f, lcm_lt, lcm_le, lcm_gt, lcm_ge, lcm_eq, lcm_R1, lcm_R2, inR, inL, true_and, and_true, eq_self, List.head?_cons, Option.some.injEq, Sum.inr.injEq, Sum.inl.injEq, false_or, or_false, true_or, or_true, Nat.reduceAdd, Nat.reduceLeDiff, Int.reduceLE, Int.reduceLT, Int.reduceEq, Int.reduceNeg, Int.reduceAdd, Int.reduceSub, Int.reduceMul, Int.reduceNe, ne_eq, not_false_eq_true, not_true_eq_false, false_implies, forall_const, Nat.le_refl, Nat.zero_le, implies_true, and_self]
      (repeat' (first | apply And.intro | intro _))
      all_goals (try first | omega | trivial | (rfl; done) | assumption | (exfalso; omega))
      simp [rs]
    | succ k ih =>
      intro a acc a0 hk
      have hra := hw.r a0 (show a < 24 by omega)
      have ba := r_X6_begins D σ a a0 (by omega) (by unfold inR; omega)
      have bi := r_X6_isInner D σ a hw a0 (by omega)
      rw [rs_s, ← Int.add_assoc]
      have t := ih (a + 1) (acc + if a < σ 26 a ∧ ¬ (0 < a ∧ σ 26 a < σ 6 0 - 1 ∧ σ 26 (a - 1) = σ 26 a + 1) then 1 else 0) (by omega) (by omega)
      by_cases c1 : a < σ 26 a
      · rw [if_pos c1] at ba
        by_cases c2 : 0 < a ∧ σ 26 a < σ 6 0 - 1 ∧ σ 26 (a - 1) = σ 26 a + 1
        · rw [if_pos c2] at bi
          rw [if_neg (by omega)] at t
          rw [if_neg (by omega)]
          refine vX6_stacks 100 ?_
          simp only [↓S_X6_stacks, ↓pI_c, ↓pL_c, ↓pR_c, ↓pC_I, ↓pC_R, ↓pE_n, ↓gI_0, ↓gI_s, ↓gL_0, ↓gL_s, ↓gR_0, ↓gR_s, ↓popN_0, ↓popN_s, ↓kl_I, ↓kl_L, ↓kl_R, ↓kl_n, ↓put1_0, ↓put1_s, ↓putk_0, ↓putk_s, ↓put2_0, ↓put2_s, ↓putl_0, ↓putl_s, ↓callK_0, ↓callK_1, ↓callK_2, cats_n, cats_c, catA_I, catA_L, catA_R, KL, LV, lval_f, ltag_f, llen_f, lcm_lt, lcm_le, lcm_gt, lcm_ge, lcm_eq, lcm_R1, lcm_R2, inR, inL, true_and, and_true, eq_self, List.head?_cons, Option.some.injEq, Sum.inr.injEq, Sum.inl.injEq, false_or, or_false, true_or, or_true, Nat.reduceAdd, Nat.reduceLeDiff, Int.reduceLE, Int.reduceLT, Int.reduceEq, Int.reduceNeg, Int.reduceAdd, Int.reduceSub, Int.reduceMul, Int.reduceNe, ne_eq, not_false_eq_true, not_true_eq_false, false_implies, forall_const, Nat.le_refl, Nat.zero_le, implies_true, and_self]
          (repeat' (first | apply And.intro | intro _ | with_reducible refine Exists.intro _ (Exists.intro _ (And.intro ba ?_)) | with_reducible refine Exists.intro _ (And.intro ba ?_) | with_reducible refine Exists.intro _ (Exists.intro _ (And.intro bi ?_)) | with_reducible refine Exists.intro _ (And.intro bi ?_)))
          all_goals (try first | omega | trivial | (rfl; done) | assumption | (exfalso; omega) | (exact t) | (refine V.wk t ?_; simp [lle]; done))
        · rw [if_neg c2] at bi
          rw [if_pos (by omega)] at t
          rw [if_pos (by omega)]
          refine vX6_stacks 100 ?_
          simp only [↓S_X6_stacks, ↓pI_c, ↓pL_c, ↓pR_c, ↓pC_I, ↓pC_R, ↓pE_n, ↓gI_0, ↓gI_s, ↓gL_0, ↓gL_s, ↓gR_0, ↓gR_s, ↓popN_0, ↓popN_s, ↓kl_I, ↓kl_L, ↓kl_R, ↓kl_n, ↓put1_0, ↓put1_s, ↓putk_0, ↓putk_s, ↓put2_0, ↓put2_s, ↓putl_0, ↓putl_s, ↓callK_0, ↓callK_1, ↓callK_2, cats_n, cats_c, catA_I, catA_L, catA_R, KL, LV, lval_f, ltag_f, llen_f, lcm_lt, lcm_le, lcm_gt, lcm_ge, lcm_eq, lcm_R1, lcm_R2, inR, inL, true_and, and_true, eq_self, List.head?_cons, Option.some.injEq, Sum.inr.injEq, Sum.inl.injEq, false_or, or_false, true_or, or_true, Nat.reduceAdd, Nat.reduceLeDiff, Int.reduceLE, Int.reduceLT, Int.reduceEq, Int.reduceNeg, Int.reduceAdd, Int.reduceSub, Int.reduceMul, Int.reduceNe, ne_eq, not_false_eq_true, not_true_eq_false, false_implies, forall_const, Nat.le_refl, Nat.zero_le, implies_true, and_self]
          (repeat' (first | apply And.intro | intro _ | with_reducible refine Exists.intro _ (Exists.intro _ (And.intro ba ?_)) | with_reducible refine Exists.intro _ (And.intro ba ?_) | with_reducible refine Exists.intro _ (Exists.intro _ (And.intro bi ?_)) | with_reducible refine Exists.intro _ (And.intro bi ?_)))
          all_goals (try first | omega | trivial | (rfl; done) | assumption | (exfalso; omega) | (exact t) | (refine V.wk t ?_; simp [lle]; done))
      · rw [if_neg c1] at ba
        rw [if_neg (by omega)] at t
        rw [if_neg (by omega)]
        refine vX6_stacks 100 ?_
        simp only [↓S_X6_stacks, ↓pI_c, ↓pL_c, ↓pR_c, ↓pC_I, ↓pC_R, ↓pE_n, ↓gI_0, ↓gI_s, ↓gL_0, ↓gL_s, ↓gR_0, ↓gR_s, ↓popN_0, ↓popN_s, ↓kl_I, ↓kl_L, ↓kl_R, ↓kl_n, ↓put1_0, ↓put1_s, ↓putk_0, ↓putk_s, ↓put2_0, ↓put2_s, ↓putl_0, ↓putl_s, ↓callK_0, ↓callK_1, ↓callK_2, cats_n, cats_c, catA_I, catA_L, catA_R, KL, LV, lval_f, ltag_f, llen_f, lcm_lt, lcm_le, lcm_gt, lcm_ge, lcm_eq, lcm_R1, lcm_R2, inR, inL, true_and, and_true, eq_self, List.head?_cons, Option.some.injEq, Sum.inr.injEq, Sum.inl.injEq, false_or, or_false, true_or, or_true, Nat.reduceAdd, Nat.reduceLeDiff, Int.reduceLE, Int.reduceLT, Int.reduceEq, Int.reduceNeg, Int.reduceAdd, Int.reduceSub, Int.reduceMul, Int.reduceNe, ne_eq, not_false_eq_true, not_true_eq_false, false_implies, forall_const, Nat.le_refl, Nat.zero_le, implies_true, and_self]
        (repeat' (first | apply And.intro | intro _ | with_reducible refine Exists.intro _ (Exists.intro _ (And.intro ba ?_)) | with_reducible refine Exists.intro _ (And.intro ba ?_) | with_reducible refine Exists.intro _ (Exists.intro _ (And.intro bi ?_)) | with_reducible refine Exists.intro _ (And.intro bi ?_)))
        all_goals (try first | omega | trivial | (rfl; done) | assumption | (exfalso; omega) | (exact t) | (refine V.wk t ?_; simp [lle]; done))
  have t := loop (σ 6 0).toNat 0 0 (by omega) (by omega)
  rw [Int.zero_add] at t
  refine vX6_stacks 100 ?_
  simp only [↓S_X6_stacks, ↓pI_c, ↓pL_c, ↓pR_c, ↓pC_I, ↓pC_R, ↓pE_n, ↓gI_0, ↓gI_s, ↓gL_0, ↓gL_s, ↓gR_0, ↓gR_s, ↓popN_0, ↓popN_s, ↓kl_I, ↓kl_L, ↓kl_R, ↓kl_n, ↓put1_0, ↓put1_s, ↓putk_0, ↓putk_s, ↓put2_0, ↓put2_s, ↓putl_0, ↓putl_s, ↓callK_0, ↓callK_1, ↓callK_2, cats_n, cats_c, catA_I, catA_L, catA_R, KL, LV, lval_f, ltag_f, llen_f, lcm_lt, lcm_le, lcm_gt, lcm_ge, lcm_eq, lcm_R1, lcm_R2, inR, inL, true_and, and_true, eq_self, List.head?_cons, Option.some.injEq, Sum.inr.injEq, Sum.inl.injEq, false_or, or_false, true_or, or_true, Nat.reduceAdd, Nat.reduceLeDiff, Int.reduceLE, Int.reduceLT, Int.reduceEq, Int.reduceNeg, Int.reduceAdd, Int.reduceSub, Int.reduceMul, Int.reduceNe, ne_eq, not_false_eq_true, not_true_eq_false, false_implies, forall_const, Nat.le_refl, Nat.zero_le, implies_true, and_self]
  (repeat' (first | apply And.intro | intro _))
  all_goals (try first | omega | trivial | (rfl; done) | assumption | (exfalso; omega) | (exact t) | (refine V.wk t ?_; simp [lle]; done))
theorem stk_eq {L : Int} {m : Int → Int} (hw : WD L m) : rs (fun a => if a < m a ∧ ¬ (0 < a ∧ m a < L - 1 ∧ m (a - 1) = m a + 1) then 1 else 0) 0 L.toNat = rs (fun a => if a < m a ∧ ¬ (0 ≤ a - 1 ∧ a - 1 < L ∧ 0 ≤ m a + 1 ∧ m a + 1 < L ∧ m (a - 1) = m a + 1) then 1 else 0) 0 L.toNat := by
  have hL := hw.1
  refine rs_congr _ _ (fun a a0 a1 => ?_)
  by_cases c : a < m a ∧ ¬ (0 < a ∧ m a < L - 1 ∧ m (a - 1) = m a + 1)
  · rw [if_pos c, if_pos (by omega)]
  · rw [if_neg c, if_neg (by omega)]
set_option maxRecDepth 100000 in
theorem r_X6_shortest (D : Nat) (σ : Sg) (hw : WD (σ 6 0) (σ 26)) : Ret (D + 2) miX6_shortest [aR 6] σ (some (aI (fr (fun a l => if a < σ 26 a ∧ (l = 0 ∨ σ 26 a - a < l) then σ 26 a - a else l) 0 (σ 6 0).toNat 0))) σ := by
  have w1 := hw.1
  have w2 := hw.2.1
  refine Ret.of 6 [some (aR 6), none, none, none] rfl (by decide) rfl (Nat.le_of_ble_eq_true rfl) ?_
  have loop : ∀ (k : Nat) (a acc : Int), 0 ≤ a → a + k = σ 6 0 → 0 ≤ acc → acc ≤ 24 → V (D + 1) miX6_shortest 6 (some (aI (fr (fun a l => if a < σ 26 a ∧ (l = 0 ∨ σ 26 a - a < l) then σ 26 a - a else l) a k acc))) σ 4 [some (aR 6), some (aI acc), some (aI a), none] [] σ := by
    intro k
    induction k with
    | zero =>
      intro a acc a0 hk c0 c1
      refine vX6_shortest 100 ?_
      simp only [↓S_X6_shortest, ↓pI_c, ↓pL_c, ↓pR_c, ↓pC_I, ↓pC_R, ↓pE_n, ↓gI_0, ↓gI_s, ↓gL_0, ↓gL_s, ↓gR_0, ↓gR_s, ↓popN_0, ↓popN_s, ↓kl_I, ↓kl_L, ↓kl_R, ↓kl_n, ↓put1_0, ↓put1_s, ↓putk_0, ↓putk_s, ↓put2_0, ↓put2_s, ↓putl_0, ↓putl_s, ↓callK_0, ↓callK_1, ↓callK_2, cats_n, cats_c, catA_I, catA_L, catA_R, KL, LV, lval_f, ltag_f, llen_f, lcm_lt, lcm_le, lcm_gt, lcm_ge, lcm_eq, lcm_R1, lcm_R2, inR, inL, true_and, and_true, eq_self, List.head?_cons, Option.some.injEq, Sum.inr.injEq, Sum.inl.injEq, false_or, or_false, true_or, or_true, Nat.reduceAdd, Nat.reduceLeDiff, Int.reduceLE, Int.reduceLT, Int.reduceEq, Int.reduceNeg, Int.reduceAdd, Int.reduceSub, Int.reduceMul, Int.reduceNe, ne_eq, not_false_eq_true, not_true_eq_false, false_implies, forall_const, Nat.le_refl, Nat.zero_le, implies_true, and_self]
      (repeat' (first | apply And.intro | intro _))
      all_goals (try first | omega | trivial | (rfl; done) | assumption | (exfalso; omega))
    | succ k ih =>
      intro a acc a0 hk c0 c1
      have hra := hw.r a0 (show a < 24 by omega)
      have ba := r_X6_begins D σ a a0 (by omega) (by unfold inR; omega)
      rw [fr_s]
      by_cases c1 : a < σ 26 a
      · rw [if_pos c1] at ba
        by_cases c2 : acc = 0 ∨ σ 26 a - a < acc
        · rw [if_pos ⟨c1, c2⟩]
          have t := ih (a + 1) (σ 26 a - a) (by omega) (by omega) (by omega) (by omega)
          refine vX6_shortest 100 ?_
          simp only [↓S_X6_shortest, ↓pI_c, ↓pL_c, ↓pR_c, ↓pC_I, ↓pC_R, ↓pE_n, ↓gI_0, ↓gI_s, ↓gL_0, ↓gL_s, ↓gR_0, ↓gR_s, ↓popN_0, ↓popN_s, ↓kl_I, ↓kl_L, ↓kl_R, ↓kl_n, ↓put1_0, ↓put1_s, ↓putk_0, ↓putk_s, ↓put2_0, ↓put2_s, ↓putl_0, ↓putl_s, ↓callK_0, ↓callK_1, ↓callK_2, cats_n, cats_c, catA_I, catA_L, catA_R, KL, LV, lval_f, ltag_f, llen_f, lcm_lt, lcm_le, lcm_gt, lcm_ge, lcm_eq, lcm_R1, lcm_R2, inR, inL, true_and, and_true, eq_self, List.head?_cons, Option.some.injEq, Sum.inr.injEq, Sum.inl.injEq, false_or, or_false, true_or, or_true, Nat.reduceAdd, Nat.reduceLeDiff, Int.reduceLE, Int.reduceLT, Int.reduceEq, Int.reduceNeg, Int.reduceAdd, Int.reduceSub, Int.reduceMul, Int.reduceNe, ne_eq, not_false_eq_true, not_true_eq_false, false_implies, forall_const, Nat.le_refl, Nat.zero_le, implies_true, and_self]
          (repeat' (first | apply And.intro | intro _ | with_reducible refine Exists.intro _ (Exists.intro _ (And.intro ba ?_)) | with_reducible refine Exists.intro _ (And.intro ba ?_)))
          all_goals (try first | omega | trivial | (rfl; done) | assumption | (exfalso; omega) | (exact t) | (refine V.wk t ?_; simp [lle]; done))
        · rw [if_neg (by omega)]
          have t := ih (a + 1) acc (by omega) (by omega) (by omega) (by omega)
          refine vX6_shortest 100 ?_
          simp only [↓S_X6_shortest, ↓pI_c, ↓pL_c, ↓pR_c, ↓pC_I, ↓pC_R, ↓pE_n, ↓gI_0, ↓gI_s, ↓gL_0, ↓gL_s, ↓gR_0, ↓gR_s, ↓popN_0, ↓popN_s, ↓kl_I, ↓kl_L, ↓kl_R, ↓kl_n, ↓put1_0, ↓put1_s, ↓putk_0, ↓putk_s, ↓put2_0, ↓put2_s, ↓putl_0, ↓putl_s, ↓callK_0, ↓callK_1, ↓callK_2, cats_n, cats_c, catA_I, catA_L, catA_R, KL, LV, lval_f, ltag_f, llen_f, lcm_lt, lcm_le, lcm_gt, lcm_ge, lcm_eq, lcm_R1, lcm_R2, inR, inL, true_and, and_true, eq_self, List.head?_cons, Option.some.injEq, Sum.inr.injEq, Sum.inl.injEq, false_or, or_false, true_or, or_true, Nat.reduceAdd, Nat.reduceLeDiff, Int.reduceLE, Int.reduceLT, Int.reduceEq, Int.reduceNeg, Int.reduceAdd, Int.reduceSub, Int.reduceMul, Int.reduceNe, ne_eq, not_false_eq_true, not_true_eq_false, false_implies, forall_const, Nat.le_refl, Nat.zero_le, implies_true, and_self]
          (repeat' (first | apply And.intro | intro _ | with_reducible refine Exists.intro _ (Exists.intro _ (And.intro ba ?_)) | with_reducible refine Exists.intro _ (And.intro ba ?_)))
          all_goals (try first | omega | trivial | (rfl; done) | assumption | (exfalso; omega) | (exact t) | (refine V.wk t ?_; simp [lle]; done))
      · rw [if_neg c1] at ba
        rw [if_neg (by omega)]
        have t := ih (a + 1) acc (by omega) (by omega) (by omega) (by omega)
        refine vX6_shortest 100 ?_
        simp only [↓S_X6_shortest, ↓pI_c, ↓pL_c, ↓pR_c, ↓pC_I, ↓pC_R, ↓pE_n, ↓gI_0, ↓gI_s, ↓gL_0, ↓gL_s, ↓gR_0, ↓gR_s, ↓popN_0, ↓popN_s, ↓kl_I, ↓kl_L, ↓kl_R, ↓kl_n, ↓put1_0, ↓put1_s, ↓putk_0, ↓putk_s, ↓put2_0, ↓put2_s, ↓putl_0, ↓putl_s, ↓callK_0, ↓callK_1, ↓callK_2, cats_n, cats_c, catA_I, catA_L, catA_R, KL, LV, lval_f, ltag_f, llen_f, lcm_lt, lcm_le, lcm_gt, lcm_ge, lcm_eq, lcm_R1, lcm_R2, inR, inL, true_and, and_true, eq_self, List.head?_cons, Option.some.injEq, Sum.inr.injEq, Sum.inl.injEq, false_or, or_false, true_or, or_true, Nat.reduceAdd, Nat.reduceLeDiff, Int.reduceLE, Int.reduceLT, Int.reduceEq, Int.reduceNeg, Int.reduceAdd, Int.reduceSub, Int.reduceMul, Int.reduceNe, ne_eq, not_false_eq_true, not_true_eq_false, false_implies, forall_const, Nat.le_refl, Nat.zero_le, implies_true, and_self]
        (repeat' (first | apply And.intro | intro _ | with_reducible refine Exists.intro _ (Exists.intro _ (And.intro ba ?_)) | with_reducible refine Exists.intro _ (And.intro ba ?_)))
        all_goals (try first | omega | trivial | (rfl; done) | assumption | (exfalso; omega) | (exact t) | (refine V.wk t ?_; simp [lle]; done))
  have t := loop (σ 6 0).toNat 0 0 (by omega) (by omega) (by omega) (by omega)
  refine vX6_shortest 100 ?_
  simp only [↓S_X6_shortest, ↓pI_c, ↓pL_c, ↓pR_c, ↓pC_I, ↓pC_R, ↓pE_n, ↓gI_0, ↓gI_s, ↓gL_0, ↓gL_s, ↓gR_0, ↓gR_s, ↓popN_0, ↓popN_s, ↓kl_I, ↓kl_L, ↓kl_R, ↓kl_n, ↓put1_0, ↓put1_s, ↓putk_0, ↓putk_s, ↓put2_0, ↓put2_s, ↓putl_0, ↓putl_s, ↓callK_0, ↓callK_1, ↓callK_2, cats_n, cats_c, catA_I, catA_L, catA_R, KL, LV, lval_f, ltag_f, llen_f, lcm_lt, lcm_le, lcm_gt, lcm_ge, lcm_eq, lcm_R1, lcm_R2, inR, inL, true_and, and_true, eq_self, List.head?_cons, Option.some.injEq, Sum.inr.injEq, Sum.inl.injEq, false_or, or_false, true_or, or_true, Nat.reduceAdd, Nat.reduceLeDiff, Int.reduceLE, Int.reduceLT, Int.reduceEq, Int.reduceNeg, Int.reduceAdd, Int.reduceSub, Int.reduceMul, Int.reduceNe, ne_eq, not_false_eq_true, not_true_eq_false, false_implies, forall_const, Nat.le_refl, Nat.zero_le, implies_true, and_self]
  (repeat' (first | apply And.intro | intro _))
  all_goals (try first | omega | trivial | (rfl; done) | assumption | (exfalso; omega) | (exact t) | (refine V.wk t ?_; simp [lle]; done))
set_option maxRecDepth 100000 in
theorem r_X6_parts (D : Nat) (σ : Sg) (hw : WD (σ 6 0) (σ 26)) : Ret (D + 3) miX6_parts [aR 6] σ (some (aI (rs (fun a => if (σ 26 a ≠ -1 ∧ σ 26 a < a) ∧ rs (fun c => if σ 26 c = -1 then 0 else if c < σ 26 c then 1 else -1) 0 (a + 1).toNat = 0 then 1 else 0) 0 (σ 6 0).toNat))) σ := by
  have w1 := hw.1
  have w2 := hw.2.1
  refine Ret.of 6 [some (aR 6), none, none] rfl (by decide) rfl (Nat.le_of_ble_eq_true rfl) ?_
  have loop : ∀ (k : Nat) (a acc : Int), 0 ≤ a → a + k = σ 6 0 → V (D + 2) miX6_parts 6 (some (aI (acc + rs (fun a => if (σ 26 a ≠ -1 ∧ σ 26 a < a) ∧ rs (fun c => if σ 26 c = -1 then 0 else if c < σ 26 c then 1 else -1) 0 (a + 1).toNat = 0 then 1 else 0) a k))) σ 4 [some (aR 6), some (aI acc), some (aI a)] [] σ := by
    intro k
    induction k with
    | zero =>
      intro a acc a0 hk
      refine vX6_parts 100 ?_
      simp only [↓S_X6_parts, ↓pI_c, ↓pL_c, ↓pR_c, ↓pC_I, ↓pC_R, ↓pE_n, ↓gI_0, ↓gI_s, ↓gL_0, ↓gL_s, ↓gR_0, ↓gR_s, ↓popN_0, ↓popN_s, ↓kl_I, ↓kl_L, ↓kl_R, ↓kl_n, ↓put1_0, ↓put1_s, ↓putk_0, ↓putk_s, ↓put2_0, ↓put2_s, ↓putl_0, ↓putl_s, ↓callK_0, ↓callK_1, ↓callK_2, cats_n, cats_c, catA_I, catA_L, catA_R, KL, LV, lval_f, ltag_f, llen_f, lcm_lt, lcm_le, lcm_gt, lcm_ge, lcm_eq, lcm_R1, lcm_R2, inR, inL, true_and, and_true, eq_self, List.head?_cons, Option.some.injEq, Sum.inr.injEq, Sum.inl.injEq, false_or, or_false, true_or, or_true, Nat.reduceAdd, Nat.reduceLeDiff, Int.reduceLE, Int.reduceLT, Int.reduceEq, Int.reduceNeg, Int.reduceAdd, Int.reduceSub, Int.reduceMul, Int.reduceNe, ne_eq, not_false_eq_true, not_true_eq_false, false_implies, forall_const, Nat.le_refl, Nat.zero_le, implies_true, and_self]
      (repeat' (first | apply And.intro | intro _))
      all_goals (try first | omega | trivial | (rfl; done) | assumption | (exfalso; omega))
      simp [rs]
    | succ k ih =>
      intro a acc a0 hk
      have hra := hw.r a0 (show a < 24 by omega)
      have hh := r_X6_heightOf D σ a hw a0 (by omega)
      rw [rs_s, ← Int.add_assoc]
      have t := ih (a + 1) (acc + if (σ 26 a ≠ -1 ∧ σ 26 a < a) ∧ rs (fun c => if σ 26 c = -1 then 0 else if c < σ 26 c then 1 else -1) 0 (a + 1).toNat = 0 then 1 else 0) (by omega) (by omega)
      have hB := rs_bound (f := fun c => if σ 26 c = -1 then 0 else if c < σ 26 c then 1 else -1) (lo := -1) (hi := 1) (a + 1).toNat 0 (fun j _ _ => by omega)
      generalize rs (fun c => if σ 26 c = -1 then 0 else if c < σ 26 c then 1 else -1) 0 (a + 1).toNat = H at *
      by_cases c : (σ 26 a ≠ -1 ∧ σ 26 a < a) ∧ H = 0
      · rw [if_pos c] at t
        rw [if_pos c]
        refine vX6_parts 100 ?_
        simp only [↓S_X6_parts, ↓pI_c, ↓pL_c, ↓pR_c, ↓pC_I, ↓pC_R, ↓pE_n, ↓gI_0, ↓gI_s, ↓gL_0, ↓gL_s, ↓gR_0, ↓gR_s, ↓popN_0, ↓popN_s, ↓kl_I, ↓kl_L, ↓kl_R, ↓kl_n, ↓put1_0, ↓put1_s, ↓putk_0, ↓putk_s, ↓put2_0, ↓put2_s, ↓putl_0, ↓putl_s, ↓callK_0, ↓callK_1, ↓callK_2, cats_n, cats_c, catA_I, catA_L, catA_R, KL, LV, lval_f, ltag_f, llen_f, lcm_lt, lcm_le, lcm_gt, lcm_ge, lcm_eq, lcm_R1, lcm_R2, inR, inL, true_and, and_true, eq_self, List.head?_cons, Option.some.injEq, Sum.inr.injEq, Sum.inl.injEq, false_or, or_false, true_or, or_true, Nat.reduceAdd, Nat.reduceLeDiff, Int.reduceLE, Int.reduceLT, Int.reduceEq, Int.reduceNeg, Int.reduceAdd, Int.reduceSub, Int.reduceMul, Int.reduceNe, ne_eq, not_false_eq_true, not_true_eq_false, false_implies, forall_const, Nat.le_refl, Nat.zero_le, implies_true, and_self]
        (repeat' (first | apply And.intro | intro _ | with_reducible refine Exists.intro _ (Exists.intro _ (And.intro hh ?_)) | with_reducible refine Exists.intro _ (And.intro hh ?_)))
        all_goals (try first | omega | trivial | (rfl; done) | assumption | (exfalso; omega) | (exact t) | (refine V.wk t ?_; simp [lle]; done))
      · rw [if_neg c] at t
        rw [if_neg c]
        refine vX6_parts 100 ?_
        simp only [↓S_X6_parts, ↓pI_c, ↓pL_c, ↓pR_c, ↓pC_I, ↓pC_R, ↓pE_n, ↓gI_0, ↓gI_s, ↓gL_0, ↓gL_s, ↓gR_0, ↓gR_s, ↓popN_0, ↓popN_s, ↓kl_I, ↓kl_L, ↓kl_R, ↓kl_n, ↓put1_0, ↓put1_s, ↓putk_0, ↓putk_s, ↓put2_0, ↓put2_s, ↓putl_0, ↓putl_s, ↓callK_0, ↓callK_1, ↓callK_2, cats_n, cats_c, catA_I, catA_L, catA_R, KL, LV, lval_f, ltag_f, llen_f, lcm_lt, lcm_le, lcm_gt, lcm_ge, lcm_eq, lcm_R1, lcm_R2, inR, inL, true_and, and_true, eq_self, List.head?_cons, Option.some.injEq, Sum.inr.injEq, Sum.inl.injEq, false_or, or_false, true_or, or_true, Nat.reduceAdd, Nat.reduceLeDiff, Int.reduceLE, Int.reduceLT, Int.reduceEq, Int.reduceNeg, Int.reduceAdd, Int.reduceSub, Int.reduceMul, Int.reduceNe, ne_eq, not_false_eq_true, not_true_eq_false, false_implies, forall_const, Nat.le_refl, Nat.zero_le, implies_true, and_self]
        (repeat' (first | apply And.intro | intro _ | with_reducible refine Exists.intro _ (Exists.intro _ (And.intro hh ?_)) | with_reducible refine Exists.intro _ (And.intro hh ?_)))
        all_goals (try first | omega | trivial | (rfl; done) | assumption | (exfalso; omega) | (exact t) | (refine V.wk t ?_; simp [lle]; done))
  have t := loop (σ 6 0).toNat 0 0 (by omega) (by omega)
  rw [Int.zero_add] at t
  refine vX6_parts 100 ?_
  simp only [↓S_X6_parts, ↓pI_c, ↓pL_c, ↓pR_c, ↓pC_I, ↓pC_R, ↓pE_n, ↓gI_0, ↓gI_s, ↓gL_0, ↓gL_s, ↓gR_0, ↓gR_s, ↓popN_0, ↓popN_s, ↓kl_I, ↓kl_L, ↓kl_R, ↓kl_n, ↓put1_0, ↓put1_s, ↓putk_0, ↓putk_s, ↓put2_0, ↓put2_s, ↓putl_0, ↓putl_s, ↓callK_0, ↓callK_1, ↓callK_2, cats_n, cats_c, catA_I, catA_L, catA_R, KL, LV, lval_f, ltag_f, llen_f, lcm_lt, lcm_le, lcm_gt, lcm_ge, lcm_eq, lcm_R1, lcm_R2, inR, inL, true_and, and_true, eq_self, List.head?_cons, Option.some.injEq, Sum.inr.injEq, Sum.inl.injEq, false_or, or_false, true_or, or_true, Nat.reduceAdd, Nat.reduceLeDiff, Int.reduceLE, Int.reduceLT, Int.reduceEq, Int.reduceNeg, Int.reduceAdd, Int.reduceSub, Int.reduceMul, Int.reduceNe, ne_eq, not_false_eq_true, not_true_eq_false, false_implies, forall_const, Nat.le_refl, Nat.zero_le, implies_true, and_self]
  (repeat' (first | apply And.intro | intro _))
  all_goals (try first | omega | trivial | (rfl; done) | assumption | (exfalso; omega) | (exact t) | (refine V.wk t ?_; simp [lle]; done))

/-! the model's nest and tangle -/
set_option maxRecDepth 100000 in
theorem r_X6_nest (D : Nat) (σ : Sg) (h : Int → Int) (hw : WD (σ 6 0) (σ 26)) (hn : nestE (σ 26) h) : ∃ τ, Ret (D + 2) miX6_nest [aR 6] σ (some (aI (fr (fun a mo => if a < σ 26 a then mx mo (h a) else mo) 0 (σ 6 0).toNat 0))) τ ∧ (∀ a b, a ≠ 30 → τ a b = σ a b) := by
  have w1 := hw.1
  have w2 := hw.2.1
  have hbd := fun b h0 h1 h2 => nestE.bd hw hn 24 b h0 h1 (by omega) h2
  have loop : ∀ (k : Nat) (i mo : Int) (ρ : Sg), 0 ≤ i → i + k = σ 6 0 → 0 ≤ mo → mo ≤ 25 → (∀ a b, a ≠ 30 → ρ a b = σ a b) → (∀ b, 0 ≤ b → b < i → ρ 30 b = if b < σ 26 b then h b else 0) →
      ∃ τ, V (D + 1) miX6_nest 6 (some (aI (fr (fun a mo => if a < σ 26 a then mx mo (h a) else mo) i k mo))) τ 4 [some (aR 6), some (aI mo), some (aI i), none] [] ρ ∧ (∀ a b, a ≠ 30 → τ a b = σ a b) := by
    intro k
    induction k with
    | zero =>
      intro i mo ρ i0 i1 m0 m1 hρ hc
      have e1 := hρ 6 0 (by decide)
      refine ⟨ρ, ?_, hρ⟩
      refine vX6_nest 60 ?_
      simp only [↓S_X6_nest_1, ↓S_X6_nest_2, ↓S_X6_nest_3, ↓pI_c, ↓pL_c, ↓pR_c, ↓pC_I, ↓pC_R, ↓pE_n, ↓gI_0, ↓gI_s, ↓gL_0, ↓gL_s, ↓gR_0, ↓gR_s, ↓popN_0, ↓popN_s, ↓kl_I, ↓kl_L, ↓kl_R, ↓kl_n, ↓put1_0, ↓put1_s, ↓putk_0, ↓putk_s, ↓put2_0, ↓put2_s, ↓putl_0, ↓putl_s, ↓callK_0, ↓callK_1, ↓callK_2, cats_n, cats_c, catA_I, catA_L, catA_R, KL, LV, lval_f, ltag_f, llen_f, lcm_lt, lcm_le, lcm_gt, lcm_ge, lcm_eq, lcm_R1, lcm_R2, inR, inL, true_and, and_true, eq_self, List.head?_cons, Option.some.injEq, Sum.inr.injEq, Sum.inl.injEq, false_or, or_false, true_or, or_true, Nat.reduceAdd, Nat.reduceLeDiff, Int.reduceLE, Int.reduceLT, Int.reduceEq, Int.reduceNeg, Int.reduceAdd, Int.reduceSub, Int.reduceMul, Int.reduceNe, ne_eq, not_false_eq_true, not_true_eq_false, false_implies, forall_const, Nat.le_refl, Nat.zero_le, implies_true, and_self]
      simp only [fr]
      rw [e1]
      (repeat' (first | apply And.intro | intro _))
      all_goals (try first | omega | trivial | (rfl; done) | assumption | (exfalso; omega))
    | succ k ih =>
      intro i mo ρ i0 i1 m0 m1 hρ hc
      have e1 := hρ 6 0 (by decide)
      have hr := hw.r i0 (show i < 24 by omega)
      have hb0 : ∀ ψ : Sg, (∀ a b, a ≠ 30 → ψ a b = σ a b) → Ret (D + 1) miX6_begins [aR 6, aI i] ψ (some (aI (if i < σ 26 i then 1 else 0))) ψ := fun ψ hψ => by
        have t := r_X6_begins D ψ i i0 (by omega) (by rw [hψ 26 i (by omega)]; unfold inR; omega)
        rw [hψ 26 i (by omega)] at t
        exact t
      have hu : ∀ v, ∀ a b, a ≠ 30 → up ρ 30 i v a b = σ a b := fun v a b ha => by unfold up; rw [if_neg (by omega)]; exact hρ a b ha
      have hv : ∀ v, up ρ 30 i v 30 i = v := fun v => by unfold up; rw [if_pos ⟨rfl, rfl⟩]
      rw [fr_s]
      by_cases c : i < σ 26 i
      · rw [if_pos c]
        rw [if_pos c] at hb0
        have hb1 := hbd i i0 (by omega) c
        obtain ⟨τ, t1, t2⟩ := ih (i + 1) (mx mo (h i)) (up ρ 30 i (h i)) (by omega) (by omega) (by unfold mx; split <;> omega) (by unfold mx; split <;> omega) (hu _) (fun b b0 b1 => by
          by_cases q : b = i
          · rw [q, hv, if_pos c]
          · unfold up
            rw [if_neg (fun z => q z.2)]
            exact hc b b0 (by omega))
        refine ⟨τ, ?_, t2⟩
        have hei := hn i i0 (by omega) c
        have inner : ∀ (n : Nat) (x dp : Int), 0 ≤ x → x + n = i → 0 ≤ dp → dp ≤ 24 → h i = fr (fun c d => if σ 26 i < σ 26 c then mx d (h c) else d) x n dp + 1 → V (D + 1) miX6_nest 6 (some (aI (fr (fun a mo => if a < σ 26 a then mx mo (h a) else mo) (i + 1) k (mx mo (h i))))) τ 33 [some (aR 6), some (aI mo), some (aI i), some (aI x)] [] (up ρ 30 i (dp + 1)) := by
          intro n
          induction n with
          | zero =>
            intro x dp x0 x1 d0 d1 he
            simp only [fr] at he
            have h1 := hv (dp + 1)
            rw [he] at t1
            rw [he]
            by_cases c3 : mo < dp + 1
            · rw [show mx mo (dp + 1) = dp + 1 from if_pos c3] at t1
              rw [show mx mo (dp + 1) = dp + 1 from if_pos c3]
              refine vX6_nest 60 ?_
              simp only [↓S_X6_nest_1, ↓S_X6_nest_2, ↓S_X6_nest_3, ↓pI_c, ↓pL_c, ↓pR_c, ↓pC_I, ↓pC_R, ↓pE_n, ↓gI_0, ↓gI_s, ↓gL_0, ↓gL_s, ↓gR_0, ↓gR_s, ↓popN_0, ↓popN_s, ↓kl_I, ↓kl_L, ↓kl_R, ↓kl_n, ↓put1_0, ↓put1_s, ↓putk_0, ↓putk_s, ↓put2_0, ↓put2_s, ↓putl_0, ↓putl_s, ↓callK_0, ↓callK_1, ↓callK_2, cats_n, cats_c, catA_I, catA_L, catA_R, KL, LV, lval_f, ltag_f, llen_f, lcm_lt, lcm_le, lcm_gt, lcm_ge, lcm_eq, lcm_R1, lcm_R2, inR, inL, true_and, and_true, eq_self, List.head?_cons, Option.some.injEq, Sum.inr.injEq, Sum.inl.injEq, false_or, or_false, true_or, or_true, Nat.reduceAdd, Nat.reduceLeDiff, Int.reduceLE, Int.reduceLT, Int.reduceEq, Int.reduceNeg, Int.reduceAdd, Int.reduceSub, Int.reduceMul, Int.reduceNe, ne_eq, not_false_eq_true, not_true_eq_false, false_implies, forall_const, Nat.le_refl, Nat.zero_le, implies_true, and_self]
              rw [h1]
              (repeat' (first | apply And.intro | intro _))
              all_goals (try first | omega | trivial | (rfl; done) | assumption | (exfalso; omega) | (exact t1) | (refine V.wk t1 ?_; simp [lle]; done))
            · rw [show mx mo (dp + 1) = mo from if_neg c3] at t1
              rw [show mx mo (dp + 1) = mo from if_neg c3]
              refine vX6_nest 60 ?_
              simp only [↓S_X6_nest_1, ↓S_X6_nest_2, ↓S_X6_nest_3, ↓pI_c, ↓pL_c, ↓pR_c, ↓pC_I, ↓pC_R, ↓pE_n, ↓gI_0, ↓gI_s, ↓gL_0, ↓gL_s, ↓gR_0, ↓gR_s, ↓popN_0, ↓popN_s, ↓kl_I, ↓kl_L, ↓kl_R, ↓kl_n, ↓put1_0, ↓put1_s, ↓putk_0, ↓putk_s, ↓put2_0, ↓put2_s, ↓putl_0, ↓putl_s, ↓callK_0, ↓callK_1, ↓callK_2, cats_n, cats_c, catA_I, catA_L, catA_R, KL, LV, lval_f, ltag_f, llen_f, lcm_lt, lcm_le, lcm_gt, lcm_ge, lcm_eq, lcm_R1, lcm_R2, inR, inL, true_and, and_true, eq_self, List.head?_cons, Option.some.injEq, Sum.inr.injEq, Sum.inl.injEq, false_or, or_false, true_or, or_true, Nat.reduceAdd, Nat.reduceLeDiff, Int.reduceLE, Int.reduceLT, Int.reduceEq, Int.reduceNeg, Int.reduceAdd, Int.reduceSub, Int.reduceMul, Int.reduceNe, ne_eq, not_false_eq_true, not_true_eq_false, false_implies, forall_const, Nat.le_refl, Nat.zero_le, implies_true, and_self]
              rw [h1]
              (repeat' (first | apply And.intro | intro _))
              all_goals (try first | omega | trivial | (rfl; done) | assumption | (exfalso; omega) | (exact t1) | (refine V.wk t1 ?_; simp [lle]; done))
          | succ n ih2 =>
            intro x dp x0 x1 d0 d1 he
            rw [fr_s] at he
            have hrx := hw.r (a := x) x0 (by omega)
            have bi := hb0 (up ρ 30 i (dp + 1)) (hu _)
            have bx := r_X6_begins D (up ρ 30 i (dp + 1)) x x0 (by omega) (by rw [hu _ 26 x (by omega)]; unfold inR; omega)
            rw [hu _ 26 x (by omega)] at bx
            have hx30 : up ρ 30 i (dp + 1) 30 x = if x < σ 26 x then h x else 0 := by
              unfold up
              rw [if_neg (by omega)]
              exact hc x x0 (by omega)
            have h1 := hv (dp + 1)
            have m1 := hu (dp + 1) 26 x (by omega)
            have m2 := hu (dp + 1) 26 i (by omega)
            have hup : ∀ v, up (up ρ 30 i (dp + 1)) 30 i v = up ρ 30 i v := fun v => by
              funext y z
              unfold up
              by_cases q : y = 30 ∧ z = i
              · rw [if_pos q, if_pos q]
              · rw [if_neg q, if_neg q, if_neg q]
            by_cases c2 : σ 26 i < σ 26 x
            · have c3 : x < σ 26 x := by omega
              rw [if_pos c2] at he
              rw [if_pos c3] at bx hx30
              have hbx := hbd x x0 (by omega) c3
              by_cases c4 : dp < h x
              · rw [show mx dp (h x) = h x from if_pos c4] at he
                have t := ih2 (x + 1) (h x) (by omega) (by omega) (by omega) (by omega) he
                rw [← hup] at t
                refine vX6_nest 100 ?_
                simp only [↓S_X6_nest_1, ↓S_X6_nest_2, ↓S_X6_nest_3, ↓pI_c, ↓pL_c, ↓pR_c, ↓pC_I, ↓pC_R, ↓pE_n, ↓gI_0, ↓gI_s, ↓gL_0, ↓gL_s, ↓gR_0, ↓gR_s, ↓popN_0, ↓popN_s, ↓kl_I, ↓kl_L, ↓kl_R, ↓kl_n, ↓put1_0, ↓put1_s, ↓putk_0, ↓putk_s, ↓put2_0, ↓put2_s, ↓putl_0, ↓putl_s, ↓callK_0, ↓callK_1, ↓callK_2, cats_n, cats_c, catA_I, catA_L, catA_R, KL, LV, lval_f, ltag_f, llen_f, lcm_lt, lcm_le, lcm_gt, lcm_ge, lcm_eq, lcm_R1, lcm_R2, inR, inL, true_and, and_true, eq_self, List.head?_cons, Option.some.injEq, Sum.inr.injEq, Sum.inl.injEq, false_or, or_false, true_or, or_true, Nat.reduceAdd, Nat.reduceLeDiff, Int.reduceLE, Int.reduceLT, Int.reduceEq, Int.reduceNeg, Int.reduceAdd, Int.reduceSub, Int.reduceMul, Int.reduceNe, ne_eq, not_false_eq_true, not_true_eq_false, false_implies, forall_const, Nat.le_refl, Nat.zero_le, implies_true, and_self]
                (repeat' (first | apply And.intro | intro _ | with_reducible refine Exists.intro _ (Exists.intro _ (And.intro bi ?_)) | with_reducible refine Exists.intro _ (And.intro bi ?_) | with_reducible refine Exists.intro _ (Exists.intro _ (And.intro bx ?_)) | with_reducible refine Exists.intro _ (And.intro bx ?_)))
                all_goals (try first | omega | trivial | (rfl; done) | assumption | (exfalso; omega) | (exact t) | (refine V.wk t ?_; simp [lle]; done) | (simp only [h1, m1, m2, hx30]; done) | (simp only [h1, m1, m2, hx30]; first | omega | (rfl; done) | (exact t) | (refine V.wk t ?_; simp [lle]; done)))
              · rw [show mx dp (h x) = dp from if_neg c4] at he
                have t := ih2 (x + 1) dp (by omega) (by omega) (by omega) (by omega) he
                rw [← hup] at t
                refine vX6_nest 100 ?_
                simp only [↓S_X6_nest_1, ↓S_X6_nest_2, ↓S_X6_nest_3, ↓pI_c, ↓pL_c, ↓pR_c, ↓pC_I, ↓pC_R, ↓pE_n, ↓gI_0, ↓gI_s, ↓gL_0, ↓gL_s, ↓gR_0, ↓gR_s, ↓popN_0, ↓popN_s, ↓kl_I, ↓kl_L, ↓kl_R, ↓kl_n, ↓put1_0, ↓put1_s, ↓putk_0, ↓putk_s, ↓put2_0, ↓put2_s, ↓putl_0, ↓putl_s, ↓callK_0, ↓callK_1, ↓callK_2, cats_n, cats_c, catA_I, catA_L, catA_R, KL, LV, lval_f, ltag_f, llen_f, lcm_lt, lcm_le, lcm_gt, lcm_ge, lcm_eq, lcm_R1, lcm_R2, inR, inL, true_and, and_true, eq_self, List.head?_cons, Option.some.injEq, Sum.inr.injEq, Sum.inl.injEq, false_or, or_false, true_or, or_true, Nat.reduceAdd, Nat.reduceLeDiff, Int.reduceLE, Int.reduceLT, Int.reduceEq, Int.reduceNeg, Int.reduceAdd, Int.reduceSub, Int.reduceMul, Int.reduceNe, ne_eq, not_false_eq_true, not_true_eq_false, false_implies, forall_const, Nat.le_refl, Nat.zero_le, implies_true, and_self]
                (repeat' (first | apply And.intro | intro _ | with_reducible refine Exists.intro _ (Exists.intro _ (And.intro bi ?_)) | with_reducible refine Exists.intro _ (And.intro bi ?_) | with_reducible refine Exists.intro _ (Exists.intro _ (And.intro bx ?_)) | with_reducible refine Exists.intro _ (And.intro bx ?_)))
                all_goals (try first | omega | trivial | (rfl; done) | assumption | (exfalso; omega) | (exact t) | (refine V.wk t ?_; simp [lle]; done) | (simp only [h1, m1, m2, hx30]; done) | (simp only [h1, m1, m2, hx30]; first | omega | (rfl; done) | (exact t) | (refine V.wk t ?_; simp [lle]; done)))
            · rw [if_neg c2] at he
              have t := ih2 (x + 1) dp (by omega) (by omega) (by omega) (by omega) he
              rw [← hup] at t
              by_cases c3 : x < σ 26 x
              · rw [if_pos c3] at bx hx30
                refine vX6_nest 100 ?_
                simp only [↓S_X6_nest_1, ↓S_X6_nest_2, ↓S_X6_nest_3, ↓pI_c, ↓pL_c, ↓pR_c, ↓pC_I, ↓pC_R, ↓pE_n, ↓gI_0, ↓gI_s, ↓gL_0, ↓gL_s, ↓gR_0, ↓gR_s, ↓popN_0, ↓popN_s, ↓kl_I, ↓kl_L, ↓kl_R, ↓kl_n, ↓put1_0, ↓put1_s, ↓putk_0, ↓putk_s, ↓put2_0, ↓put2_s, ↓putl_0, ↓putl_s, ↓callK_0, ↓callK_1, ↓callK_2, cats_n, cats_c, catA_I, catA_L, catA_R, KL, LV, lval_f, ltag_f, llen_f, lcm_lt, lcm_le, lcm_gt, lcm_ge, lcm_eq, lcm_R1, lcm_R2, inR, inL, true_and, and_true, eq_self, List.head?_cons, Option.some.injEq, Sum.inr.injEq, Sum.inl.injEq, false_or, or_false, true_or, or_true, Nat.reduceAdd, Nat.reduceLeDiff, Int.reduceLE, Int.reduceLT, Int.reduceEq, Int.reduceNeg, Int.reduceAdd, Int.reduceSub, Int.reduceMul, Int.reduceNe, ne_eq, not_false_eq_true, not_true_eq_false, false_implies, forall_const, Nat.le_refl, Nat.zero_le, implies_true, and_self]
                (repeat' (first | apply And.intro | intro _ | with_reducible refine Exists.intro _ (Exists.intro _ (And.intro bi ?_)) | with_reducible refine Exists.intro _ (And.intro bi ?_) | with_reducible refine Exists.intro _ (Exists.intro _ (And.intro bx ?_)) | with_reducible refine Exists.intro _ (And.intro bx ?_)))
                all_goals (try first | omega | trivial | (rfl; done) | assumption | (exfalso; omega) | (exact t) | (refine V.wk t ?_; simp [lle]; done) | (simp only [h1, m1, m2, hx30]; done) | (simp only [h1, m1, m2, hx30]; first | omega | (rfl; done) | (exact t) | (refine V.wk t ?_; simp [lle]; done)))
              · rw [if_neg c3] at bx hx30
                refine vX6_nest 100 ?_
                simp only [↓S_X6_nest_1, ↓S_X6_nest_2, ↓S_X6_nest_3, ↓pI_c, ↓pL_c, ↓pR_c, ↓pC_I, ↓pC_R, ↓pE_n, ↓gI_0, ↓gI_s, ↓gL_0, ↓gL_s, ↓gR_0, ↓gR_s, ↓popN_0, ↓popN_s, ↓kl_I, ↓kl_L, ↓kl_R, ↓kl_n, ↓put1_0, ↓put1_s, ↓putk_0, ↓putk_s, ↓put2_0, ↓put2_s, ↓putl_0, ↓putl_s, ↓callK_0, ↓callK_1, ↓callK_2, cats_n, cats_c, catA_I, catA_L, catA_R, KL, LV, lval_f, ltag_f, llen_f, lcm_lt, lcm_le, lcm_gt, lcm_ge, lcm_eq, lcm_R1, lcm_R2, inR, inL, true_and, and_true, eq_self, List.head?_cons, Option.some.injEq, Sum.inr.injEq, Sum.inl.injEq, false_or, or_false, true_or, or_true, Nat.reduceAdd, Nat.reduceLeDiff, Int.reduceLE, Int.reduceLT, Int.reduceEq, Int.reduceNeg, Int.reduceAdd, Int.reduceSub, Int.reduceMul, Int.reduceNe, ne_eq, not_false_eq_true, not_true_eq_false, false_implies, forall_const, Nat.le_refl, Nat.zero_le, implies_true, and_self]
                (repeat' (first | apply And.intro | intro _ | with_reducible refine Exists.intro _ (Exists.intro _ (And.intro bi ?_)) | with_reducible refine Exists.intro _ (And.intro bi ?_) | with_reducible refine Exists.intro _ (Exists.intro _ (And.intro bx ?_)) | with_reducible refine Exists.intro _ (And.intro bx ?_)))
                all_goals (try first | omega | trivial | (rfl; done) | assumption | (exfalso; omega) | (exact t) | (refine V.wk t ?_; simp [lle]; done) | (simp only [h1, m1, m2, hx30]; done) | (simp only [h1, m1, m2, hx30]; first | omega | (rfl; done) | (exact t) | (refine V.wk t ?_; simp [lle]; done)))
        have t := inner i.toNat 0 0 (by omega) (by omega) (by omega) (by omega) hei
        have bi := hb0 ρ hρ
        refine vX6_nest 60 ?_
        simp only [↓S_X6_nest_1, ↓S_X6_nest_2, ↓S_X6_nest_3, ↓pI_c, ↓pL_c, ↓pR_c, ↓pC_I, ↓pC_R, ↓pE_n, ↓gI_0, ↓gI_s, ↓gL_0, ↓gL_s, ↓gR_0, ↓gR_s, ↓popN_0, ↓popN_s, ↓kl_I, ↓kl_L, ↓kl_R, ↓kl_n, ↓put1_0, ↓put1_s, ↓putk_0, ↓putk_s, ↓put2_0, ↓put2_s, ↓putl_0, ↓putl_s, ↓callK_0, ↓callK_1, ↓callK_2, cats_n, cats_c, catA_I, catA_L, catA_R, KL, LV, lval_f, ltag_f, llen_f, lcm_lt, lcm_le, lcm_gt, lcm_ge, lcm_eq, lcm_R1, lcm_R2, inR, inL, true_and, and_true, eq_self, List.head?_cons, Option.some.injEq, Sum.inr.injEq, Sum.inl.injEq, false_or, or_false, true_or, or_true, Nat.reduceAdd, Nat.reduceLeDiff, Int.reduceLE, Int.reduceLT, Int.reduceEq, Int.reduceNeg, Int.reduceAdd, Int.reduceSub, Int.reduceMul, Int.reduceNe, ne_eq, not_false_eq_true, not_true_eq_false, false_implies, forall_const, Nat.le_refl, Nat.zero_le, implies_true, and_self]
        rw [e1]
        (repeat' (first | apply And.intro | intro _ | with_reducible refine Exists.intro _ (Exists.intro _ (And.intro bi ?_)) | with_reducible refine Exists.intro _ (And.intro bi ?_)))
        all_goals (try first | omega | trivial | (rfl; done) | assumption | (exfalso; omega) | (exact t) | (refine V.wk t ?_; simp [lle]; done))
      · rw [if_neg c]
        rw [if_neg c] at hb0
        obtain ⟨τ, t1, t2⟩ := ih (i + 1) mo (up ρ 30 i 0) (by omega) (by omega) m0 m1 (hu _) (fun b b0 b1 => by
          by_cases q : b = i
          · rw [q, hv, if_neg c]
          · unfold up
            rw [if_neg (fun z => q z.2)]
            exact hc b b0 (by omega))
        refine ⟨τ, ?_, t2⟩
        have bi := hb0 ρ hρ
        have bi2 := hb0 (up ρ 30 i 0) (hu _)
        have h1 := hv 0
        have t : V (D + 1) miX6_nest 6 (some (aI (fr (fun a mo => if a < σ 26 a then mx mo (h a) else mo) (i + 1) k mo))) τ 33 [some (aR 6), some (aI mo), some (aI i), some (aI 0)] [] (up ρ 30 i 0) := by
          refine vX6_nest 60 ?_
          simp only [↓S_X6_nest_1, ↓S_X6_nest_2, ↓S_X6_nest_3, ↓pI_c, ↓pL_c, ↓pR_c, ↓pC_I, ↓pC_R, ↓pE_n, ↓gI_0, ↓gI_s, ↓gL_0, ↓gL_s, ↓gR_0, ↓gR_s, ↓popN_0, ↓popN_s, ↓kl_I, ↓kl_L, ↓kl_R, ↓kl_n, ↓put1_0, ↓put1_s, ↓putk_0, ↓putk_s, ↓put2_0, ↓put2_s, ↓putl_0, ↓putl_s, ↓callK_0, ↓callK_1, ↓callK_2, cats_n, cats_c, catA_I, catA_L, catA_R, KL, LV, lval_f, ltag_f, llen_f, lcm_lt, lcm_le, lcm_gt, lcm_ge, lcm_eq, lcm_R1, lcm_R2, inR, inL, true_and, and_true, eq_self, List.head?_cons, Option.some.injEq, Sum.inr.injEq, Sum.inl.injEq, false_or, or_false, true_or, or_true, Nat.reduceAdd, Nat.reduceLeDiff, Int.reduceLE, Int.reduceLT, Int.reduceEq, Int.reduceNeg, Int.reduceAdd, Int.reduceSub, Int.reduceMul, Int.reduceNe, ne_eq, not_false_eq_true, not_true_eq_false, false_implies, forall_const, Nat.le_refl, Nat.zero_le, implies_true, and_self]
          rw [h1]
          (repeat' (first | apply And.intro | intro _ | with_reducible refine Exists.intro _ (Exists.intro _ (And.intro bi2 ?_)) | with_reducible refine Exists.intro _ (And.intro bi2 ?_)))
          all_goals (try first | omega | trivial | (rfl; done) | assumption | (exfalso; omega) | (exact t1) | (refine V.wk t1 ?_; simp [lle]; done))
        refine vX6_nest 60 ?_
        simp only [↓S_X6_nest_1, ↓S_X6_nest_2, ↓S_X6_nest_3, ↓pI_c, ↓pL_c, ↓pR_c, ↓pC_I, ↓pC_R, ↓pE_n, ↓gI_0, ↓gI_s, ↓gL_0, ↓gL_s, ↓gR_0, ↓gR_s, ↓popN_0, ↓popN_s, ↓kl_I, ↓kl_L, ↓kl_R, ↓kl_n, ↓put1_0, ↓put1_s, ↓putk_0, ↓putk_s, ↓put2_0, ↓put2_s, ↓putl_0, ↓putl_s, ↓callK_0, ↓callK_1, ↓callK_2, cats_n, cats_c, catA_I, catA_L, catA_R, KL, LV, lval_f, ltag_f, llen_f, lcm_lt, lcm_le, lcm_gt, lcm_ge, lcm_eq, lcm_R1, lcm_R2, inR, inL, true_and, and_true, eq_self, List.head?_cons, Option.some.injEq, Sum.inr.injEq, Sum.inl.injEq, false_or, or_false, true_or, or_true, Nat.reduceAdd, Nat.reduceLeDiff, Int.reduceLE, Int.reduceLT, Int.reduceEq, Int.reduceNeg, Int.reduceAdd, Int.reduceSub, Int.reduceMul, Int.reduceNe, ne_eq, not_false_eq_true, not_true_eq_false, false_implies, forall_const, Nat.le_refl, Nat.zero_le, implies_true, and_self]
        rw [e1]
        (repeat' (first | apply And.intro | intro _ | with_reducible refine Exists.intro _ (Exists.intro _ (And.intro bi ?_)) | with_reducible refine Exists.intro _ (And.intro bi ?_)))
        all_goals (try first | omega | trivial | (rfl; done) | assumption | (exfalso; omega) | (exact t) | (refine V.wk t ?_; simp [lle]; done))
  obtain ⟨τ, t, tr⟩ := loop (σ 6 0).toNat 0 0 σ (by omega) (by omega) (by omega) (by omega) (fun _ _ _ => rfl) (fun b b0 b1 => by omega)
  refine ⟨τ, ?_, tr⟩
  refine Ret.of 6 [some (aR 6), none, none, none] rfl (by decide) rfl (Nat.le_of_ble_eq_true rfl) ?_
  refine vX6_nest 60 ?_
  simp only [↓S_X6_nest_1, ↓S_X6_nest_2, ↓S_X6_nest_3, ↓pI_c, ↓pL_c, ↓pR_c, ↓pC_I, ↓pC_R, ↓pE_n, ↓gI_0, ↓gI_s, ↓gL_0, ↓gL_s, ↓gR_0, ↓gR_s, ↓popN_0, ↓popN_s, ↓kl_I, ↓kl_L, ↓kl_R, ↓kl_n, ↓put1_0, ↓put1_s, ↓putk_0, ↓putk_s, ↓put2_0, ↓put2_s, ↓putl_0, ↓putl_s, ↓callK_0, ↓callK_1, ↓callK_2, cats_n, cats_c, catA_I, catA_L, catA_R, KL, LV, lval_f, ltag_f, llen_f, lcm_lt, lcm_le, lcm_gt, lcm_ge, lcm_eq, lcm_R1, lcm_R2, inR, inL, true_and, and_true, eq_self, List.head?_cons, Option.some.injEq, Sum.inr.injEq, Sum.inl.injEq, false_or, or_false, true_or, or_true, Nat.reduceAdd, Nat.reduceLeDiff, Int.reduceLE, Int.reduceLT, Int.reduceEq, Int.reduceNeg, Int.reduceAdd, Int.reduceSub, Int.reduceMul, Int.reduceNe, ne_eq, not_false_eq_true, not_true_eq_false, false_implies, forall_const, Nat.le_refl, Nat.zero_le, implies_true, and_self]
  (repeat' (first | apply And.intro | intro _))
  all_goals (try first | omega | trivial | (rfl; done) | assumption | (exfalso; omega) | (exact t) | (refine V.wk t ?_; simp [lle]; done))

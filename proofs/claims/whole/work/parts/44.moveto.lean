/-! SignRow.moveTo -/
def mkd (bo : Int → Int) : Nat → Int → Int
  | 0 => fun _ => -1
  | k + 1 => if bo k = -1 then mkd bo k else lk2 (mkd bo k) (bo k) k
set_option maxRecDepth 100000 in
theorem r_X3_moveTo (D : Nat) (σ : Sg) (h0 : 0 ≤ σ 3 0) (h1 : σ 3 0 ≤ 24) (hb : ∀ i, 0 ≤ i → i < σ 3 0 → -1 ≤ σ 13 i ∧ σ 13 i < 24) : ∃ τ, Ret (D + 3) miX3_moveTo [aR 3, aR 1] σ none τ ∧ (∀ a b, a ≠ 7 → ¬ (a = 1 ∧ b = 0) → ¬ (a = 3 ∧ b = 0) → τ a b = σ a b) ∧ τ 1 0 = σ 3 0 ∧ τ 3 0 = 0 ∧ (∀ p, 0 ≤ p → p < 24 → τ 7 p = mkd (σ 13) (σ 3 0).toNat p) := by
  generalize hL : σ 3 0 = L at *
  have loop : ∀ (k j : Nat) (χ : Sg), (j : Int) + k = L → (∀ a b, a ≠ 7 → ¬ (a = 1 ∧ b = 0) → χ a b = σ a b) → χ 1 0 = L → (∀ p, 0 ≤ p → p < 24 → χ 7 p = mkd (σ 13) j p) → ∃ τ, V (D + 2) miX3_moveTo 3 none τ 10 [some (aR 3), some (aR 1), some (aI j)] [] χ ∧ (∀ a b, a ≠ 7 → ¬ (a = 1 ∧ b = 0) → ¬ (a = 3 ∧ b = 0) → τ a b = σ a b) ∧ τ 1 0 = L ∧ τ 3 0 = 0 ∧ (∀ p, 0 ≤ p → p < 24 → τ 7 p = mkd (σ 13) L.toNat p) := by
    intro k
    induction k with
    | zero =>
      intro j χ jk hf c1 h7
      have e3 : χ 3 0 = L := by rw [hf 3 0 (by omega) (by omega)]; exact hL
      refine ⟨up χ 3 0 0, ?_, fun a b a1 a2 a3 => by unfold up; rw [if_neg a3]; exact hf a b a1 a2, by unfold up; rw [if_neg (by omega)]; exact c1, by unfold up; rw [if_pos ⟨rfl, rfl⟩], fun p p0 p1 => ?_⟩
      · refine vX3_moveTo 60 ?_
        simp only [↓S_X3_moveTo, ↓pI_c, ↓pL_c, ↓pR_c, ↓pC_I, ↓pC_R, ↓pE_n, ↓gI_0, ↓gI_s, ↓gL_0, ↓gL_s, ↓gR_0, ↓gR_s, ↓popN_0, ↓popN_s, ↓kl_I, ↓kl_L, ↓kl_R, ↓kl_n, ↓put1_0, ↓put1_s, ↓putk_0, ↓putk_s, ↓put2_0, ↓put2_s, ↓putl_0, ↓putl_s, ↓callK_0, ↓callK_1, ↓callK_2, cats_n, cats_c, catA_I, catA_L, catA_R, KL, LV, lval_f, ltag_f, llen_f, lcm_lt, lcm_le, lcm_gt, lcm_ge, lcm_eq, lcm_R1, lcm_R2, inR, inL, true_and, and_true, eq_self, List.head?_cons, Option.some.injEq, Sum.inr.injEq, Sum.inl.injEq, false_or, or_false, true_or, or_true, Nat.reduceAdd, Nat.reduceLeDiff, Int.reduceLE, Int.reduceLT, Int.reduceEq, Int.reduceNeg, Int.reduceAdd, Int.reduceSub, Int.reduceMul, Int.reduceNe, ne_eq, not_false_eq_true, not_true_eq_false, false_implies, forall_const, Nat.le_refl, Nat.zero_le, implies_true, and_self]
        rw [e3]
        (repeat' (first | apply And.intro | intro _))
        all_goals (try first | omega | trivial | (rfl; done) | assumption | (exfalso; omega))
      · unfold up
        rw [if_neg (by omega), show L.toNat = j from by omega]
        exact h7 p p0 p1
    | succ k ih =>
      intro j χ jk hf c1 h7
      have e3 : χ 3 0 = L := by rw [hf 3 0 (by omega) (by omega)]; exact hL
      have e13 : χ 13 j = σ 13 j := hf 13 j (by omega) (by omega)
      have hbj := hb j (by omega) (by omega)
      have ej : ((j + 1 : Nat) : Int) = (j : Int) + 1 := by omega
      by_cases c : σ 13 (j : Int) = -1
      · obtain ⟨τ, t, tr⟩ := ih (j + 1) χ (by omega) hf c1 (fun p p0 p1 => by
          rw [h7 p p0 p1]
          show _ = (if σ 13 (j : Int) = -1 then mkd (σ 13) j else lk2 (mkd (σ 13) j) (σ 13 j) j) p
          rw [if_pos c])
        rw [ej] at t
        refine ⟨τ, ?_, tr⟩
        refine vX3_moveTo 60 ?_
        simp only [↓S_X3_moveTo, ↓pI_c, ↓pL_c, ↓pR_c, ↓pC_I, ↓pC_R, ↓pE_n, ↓gI_0, ↓gI_s, ↓gL_0, ↓gL_s, ↓gR_0, ↓gR_s, ↓popN_0, ↓popN_s, ↓kl_I, ↓kl_L, ↓kl_R, ↓kl_n, ↓put1_0, ↓put1_s, ↓putk_0, ↓putk_s, ↓put2_0, ↓put2_s, ↓putl_0, ↓putl_s, ↓callK_0, ↓callK_1, ↓callK_2, cats_n, cats_c, catA_I, catA_L, catA_R, KL, LV, lval_f, ltag_f, llen_f, lcm_lt, lcm_le, lcm_gt, lcm_ge, lcm_eq, lcm_R1, lcm_R2, inR, inL, true_and, and_true, eq_self, List.head?_cons, Option.some.injEq, Sum.inr.injEq, Sum.inl.injEq, false_or, or_false, true_or, or_true, Nat.reduceAdd, Nat.reduceLeDiff, Int.reduceLE, Int.reduceLT, Int.reduceEq, Int.reduceNeg, Int.reduceAdd, Int.reduceSub, Int.reduceMul, Int.reduceNe, ne_eq, not_false_eq_true, not_true_eq_false, false_implies, forall_const, Nat.le_refl, Nat.zero_le, implies_true, and_self]
        rw [e3, e13]
        (repeat' (first | apply And.intro | intro _))
        all_goals (try first | omega | trivial | (rfl; done) | assumption | (exfalso; omega) | (exact t) | (refine V.wk t ?_; simp [lle]; done))
      · have li := r_X1_link (D + 1) χ (σ 13 j) j (by omega) (by omega) (by omega) (by omega)
        have u7 := up_lk2 χ 7 (σ 13 j) j
        obtain ⟨τ, t, tr⟩ := ih (j + 1) (up (up χ 7 (σ 13 j) j) 7 j (σ 13 j)) (by omega) (fun a b a1 a2 => by unfold up; rw [if_neg (by omega), if_neg (by omega)]; exact hf a b a1 a2) (by unfold up; rw [if_neg (by omega), if_neg (by omega)]; exact c1) (fun p p0 p1 => by
          rw [u7]
          show _ = (if σ 13 (j : Int) = -1 then mkd (σ 13) j else lk2 (mkd (σ 13) j) (σ 13 j) j) p
          rw [if_neg c]
          unfold lk2
          by_cases q : p = (j : Int)
          · rw [if_pos q, if_pos q]
          · rw [if_neg q, if_neg q]
            by_cases q2 : p = σ 13 (j : Int)
            · rw [if_pos q2, if_pos q2]
            · rw [if_neg q2, if_neg q2]
              exact h7 p p0 p1)
        rw [ej] at t
        refine ⟨τ, ?_, tr⟩
        refine vX3_moveTo 60 ?_
        simp only [↓S_X3_moveTo, ↓pI_c, ↓pL_c, ↓pR_c, ↓pC_I, ↓pC_R, ↓pE_n, ↓gI_0, ↓gI_s, ↓gL_0, ↓gL_s, ↓gR_0, ↓gR_s, ↓popN_0, ↓popN_s, ↓kl_I, ↓kl_L, ↓kl_R, ↓kl_n, ↓put1_0, ↓put1_s, ↓putk_0, ↓putk_s, ↓put2_0, ↓put2_s, ↓putl_0, ↓putl_s, ↓callK_0, ↓callK_1, ↓callK_2, cats_n, cats_c, catA_I, catA_L, catA_R, KL, LV, lval_f, ltag_f, llen_f, lcm_lt, lcm_le, lcm_gt, lcm_ge, lcm_eq, lcm_R1, lcm_R2, inR, inL, true_and, and_true, eq_self, List.head?_cons, Option.some.injEq, Sum.inr.injEq, Sum.inl.injEq, false_or, or_false, true_or, or_true, Nat.reduceAdd, Nat.reduceLeDiff, Int.reduceLE, Int.reduceLT, Int.reduceEq, Int.reduceNeg, Int.reduceAdd, Int.reduceSub, Int.reduceMul, Int.reduceNe, ne_eq, not_false_eq_true, not_true_eq_false, false_implies, forall_const, Nat.le_refl, Nat.zero_le, implies_true, and_self]
        rw [e3, e13]
        (repeat' (first | apply And.intro | intro _ | with_reducible refine Exists.intro _ (Exists.intro _ (And.intro li ?_)) | with_reducible refine Exists.intro _ (And.intro li ?_)))
        all_goals (try first | omega | trivial | (rfl; done) | assumption | (exfalso; omega) | (exact t) | (refine V.wk t ?_; simp [lle]; done))
  have cl := r_X1_clear D σ L
  obtain ⟨τ, t, tr⟩ := loop L.toNat 0 (ff (up σ 1 0 L) 7 0 24 (-1)) (by omega) (fun a b a1 a2 => by unfold ff up; rw [if_neg (fun z => a1 z.1), if_neg a2]) (by unfold ff up; rw [if_neg (by omega), if_pos (by omega)]) (fun p p0 p1 => by unfold ff; rw [if_pos ⟨rfl, p0, p1⟩]; rfl)
  refine ⟨τ, ?_, tr⟩
  refine Ret.of 3 [some (aR 3), some (aR 1), none] rfl (by decide) rfl (Nat.le_of_ble_eq_true rfl) ?_
  refine vX3_moveTo 60 ?_
  simp only [↓S_X3_moveTo, ↓pI_c, ↓pL_c, ↓pR_c, ↓pC_I, ↓pC_R, ↓pE_n, ↓gI_0, ↓gI_s, ↓gL_0, ↓gL_s, ↓gR_0, ↓gR_s, ↓popN_0, ↓popN_s, ↓kl_I, ↓kl_L, ↓kl_R, ↓kl_n, ↓put1_0, ↓put1_s, ↓putk_0, ↓putk_s, ↓put2_0, ↓put2_s, ↓putl_0, ↓putl_s, ↓callK_0, ↓callK_1, ↓callK_2, cats_n, cats_c, catA_I, catA_L, catA_R, KL, LV, lval_f, ltag_f, llen_f, lcm_lt, lcm_le, lcm_gt, lcm_ge, lcm_eq, lcm_R1, lcm_R2, inR, inL, true_and, and_true, eq_self, List.head?_cons, Option.some.injEq, Sum.inr.injEq, Sum.inl.injEq, false_or, or_false, true_or, or_true, Nat.reduceAdd, Nat.reduceLeDiff, Int.reduceLE, Int.reduceLT, Int.reduceEq, Int.reduceNeg, Int.reduceAdd, Int.reduceSub, Int.reduceMul, Int.reduceNe, ne_eq, not_false_eq_true, not_true_eq_false, false_implies, forall_const, Nat.le_refl, Nat.zero_le, implies_true, and_self]
  rw [hL]
  (repeat' (first | apply And.intro | intro _ | with_reducible refine Exists.intro _ (Exists.intro _ (And.intro cl ?_)) | with_reducible refine Exists.intro _ (And.intro cl ?_)))
  all_goals (try first | omega | trivial | (rfl; done) | assumption | (exfalso; omega) | (exact t) | (refine V.wk t ?_; simp [lle]; done))

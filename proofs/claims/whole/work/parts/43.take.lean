/-! SignRow.take -/
set_option maxRecDepth 100000 in
theorem r_X3_take1 (D : Nat) (σ : Sg) (h0 : 0 ≤ σ 3 0) (h1 : σ 3 0 < 24) (h2 : 0 ≤ σ 3 1) (h3 : σ 3 1 < 24) : ∃ τ, Ret (D + 1) miX3_take [aR 3, aI 1] σ none τ ∧ (∀ a b, a ≠ 3 → a ≠ 12 → a ≠ 13 → τ a b = σ a b) ∧ τ 3 0 = σ 3 0 + 1 ∧ τ 3 1 = σ 3 1 + 1 ∧ (∀ x, τ 13 x = if x = σ 3 0 then -1 else σ 13 x) ∧ (∀ x, τ 12 x = if x = σ 3 1 then σ 3 0 else σ 12 x) := by
  refine ⟨up (up (up (up σ 12 (σ 3 1) (σ 3 0)) 13 (σ 3 0) (-1)) 3 1 (σ 3 1 + 1)) 3 0 (σ 3 0 + 1), ?_, fun a b a1 a2 a3 => by unfold up; rw [if_neg (by omega), if_neg (by omega), if_neg (by omega), if_neg (by omega)], by unfold up; rw [if_pos ⟨rfl, rfl⟩], by unfold up; rw [if_neg (by omega), if_pos ⟨rfl, rfl⟩], fun x => ?_, fun x => ?_⟩
  · have e1 : up σ 12 (σ 3 1) (σ 3 0) 3 0 = σ 3 0 := by unfold up; rw [if_neg (by omega)]
    have e2 : up (up σ 12 (σ 3 1) (σ 3 0)) 13 (σ 3 0) (-1) 3 1 = σ 3 1 := by unfold up; rw [if_neg (by omega), if_neg (by omega)]
    have e3 : up (up (up σ 12 (σ 3 1) (σ 3 0)) 13 (σ 3 0) (-1)) 3 1 (σ 3 1 + 1) 3 0 = σ 3 0 := by unfold up; rw [if_neg (by omega), if_neg (by omega), if_neg (by omega)]
    refine Ret.of 3 [some (aR 3), some (aI 1), none, none] rfl (by decide) rfl (Nat.le_of_ble_eq_true rfl) ?_
    refine vX3_take 100 ?_
    simp only [↓S_X3_take_1, ↓S_X3_take_2, ↓pI_c, ↓pL_c, ↓pR_c, ↓pC_I, ↓pC_R, ↓pE_n, ↓gI_0, ↓gI_s, ↓gL_0, ↓gL_s, ↓gR_0, ↓gR_s, ↓popN_0, ↓popN_s, ↓kl_I, ↓kl_L, ↓kl_R, ↓kl_n, ↓put1_0, ↓put1_s, ↓putk_0, ↓putk_s, ↓put2_0, ↓put2_s, ↓putl_0, ↓putl_s, ↓callK_0, ↓callK_1, ↓callK_2, cats_n, cats_c, catA_I, catA_L, catA_R, KL, LV, lval_f, ltag_f, llen_f, lcm_lt, lcm_le, lcm_gt, lcm_ge, lcm_eq, lcm_R1, lcm_R2, inR, inL, true_and, and_true, eq_self, List.head?_cons, Option.some.injEq, Sum.inr.injEq, Sum.inl.injEq, false_or, or_false, true_or, or_true, Nat.reduceAdd, Nat.reduceLeDiff, Int.reduceLE, Int.reduceLT, Int.reduceEq, Int.reduceNeg, Int.reduceAdd, Int.reduceSub, Int.reduceMul, Int.reduceNe, ne_eq, not_false_eq_true, not_true_eq_false, false_implies, forall_const, Nat.le_refl, Nat.zero_le, implies_true, and_self]
    simp only [e1, e2, e3]
    (repeat' (first | apply And.intro | intro _))
    all_goals (try first | omega | trivial | (rfl; done) | assumption | (exfalso; omega))
  · unfold up
    rw [if_neg (by omega), if_neg (by omega)]
    by_cases c : x = σ 3 0
    · rw [if_pos ⟨rfl, c⟩, if_pos c]
    · rw [if_neg (by omega), if_neg c, if_neg (by omega)]
  · unfold up
    rw [if_neg (by omega), if_neg (by omega), if_neg (by omega)]
    by_cases c : x = σ 3 1
    · rw [if_pos ⟨rfl, c⟩, if_pos c]
    · rw [if_neg (by omega), if_neg c]
set_option maxRecDepth 100000 in
theorem r_X3_take2 (D : Nat) (σ : Sg) (v : Int) (hv : 2 ≤ v) (hv2 : v - 2 < σ 3 1) (h0 : 0 ≤ σ 3 0) (h1 : σ 3 0 < 24) (h3 : σ 3 1 ≤ 24) : ∃ τ, Ret (D + 1) miX3_take [aR 3, aI v] σ none τ ∧ (∀ a b, a ≠ 3 → a ≠ 12 → a ≠ 13 → τ a b = σ a b) ∧ τ 3 0 = σ 3 0 + 1 ∧ τ 3 1 = σ 3 1 - 1 ∧ (∀ x, τ 13 x = if x = σ 3 0 then σ 12 (σ 3 1 - 1 - (v - 2)) else σ 13 x) ∧ (∀ x, 0 ≤ x → x < σ 3 1 - 1 → τ 12 x = if x < σ 3 1 - 1 - (v - 2) then σ 12 x else σ 12 (x + 1)) := by
  generalize hO : σ 3 1 = O at *
  generalize hL : σ 3 0 = L at *
  generalize hq : O - 1 - (v - 2) = q at *
  have loop : ∀ (k : Nat) (i : Int) (χ : Sg), q ≤ i → i + k = O - 1 → (∀ a b, a ≠ 3 → a ≠ 12 → a ≠ 13 → χ a b = σ a b) → χ 3 0 = L → χ 3 1 = O - 1 → (∀ x, χ 13 x = if x = L then σ 12 q else σ 13 x) → (∀ x, χ 12 x = if q ≤ x ∧ x < i then σ 12 (x + 1) else σ 12 x) → ∃ τ, V D miX3_take 3 none τ 79 [some (aR 3), some (aI v), some (aI q), some (aI i)] [] χ ∧ (∀ a b, a ≠ 3 → a ≠ 12 → a ≠ 13 → τ a b = σ a b) ∧ τ 3 0 = L + 1 ∧ τ 3 1 = O - 1 ∧ (∀ x, τ 13 x = if x = L then σ 12 q else σ 13 x) ∧ (∀ x, 0 ≤ x → x < O - 1 → τ 12 x = if x < q then σ 12 x else σ 12 (x + 1)) := by
    intro k
    induction k with
    | zero =>
      intro i χ i0 ik hf c0 c1 h13 h12
      refine ⟨up χ 3 0 (L + 1), ?_, fun a b a1 a2 a3 => by unfold up; rw [if_neg (by omega)]; exact hf a b a1 a2 a3, by unfold up; rw [if_pos ⟨rfl, rfl⟩], by unfold up; rw [if_neg (by omega)]; exact c1, fun x => by unfold up; rw [if_neg (by omega)]; exact h13 x, fun x x0 x1 => ?_⟩
      · refine vX3_take 100 ?_
        simp only [↓S_X3_take_1, ↓S_X3_take_2, ↓pI_c, ↓pL_c, ↓pR_c, ↓pC_I, ↓pC_R, ↓pE_n, ↓gI_0, ↓gI_s, ↓gL_0, ↓gL_s, ↓gR_0, ↓gR_s, ↓popN_0, ↓popN_s, ↓kl_I, ↓kl_L, ↓kl_R, ↓kl_n, ↓put1_0, ↓put1_s, ↓putk_0, ↓putk_s, ↓put2_0, ↓put2_s, ↓putl_0, ↓putl_s, ↓callK_0, ↓callK_1, ↓callK_2, cats_n, cats_c, catA_I, catA_L, catA_R, KL, LV, lval_f, ltag_f, llen_f, lcm_lt, lcm_le, lcm_gt, lcm_ge, lcm_eq, lcm_R1, lcm_R2, inR, inL, true_and, and_true, eq_self, List.head?_cons, Option.some.injEq, Sum.inr.injEq, Sum.inl.injEq, false_or, or_false, true_or, or_true, Nat.reduceAdd, Nat.reduceLeDiff, Int.reduceLE, Int.reduceLT, Int.reduceEq, Int.reduceNeg, Int.reduceAdd, Int.reduceSub, Int.reduceMul, Int.reduceNe, ne_eq, not_false_eq_true, not_true_eq_false, false_implies, forall_const, Nat.le_refl, Nat.zero_le, implies_true, and_self]
        rw [c0, c1]
        (repeat' (first | apply And.intro | intro _))
        all_goals (try first | omega | trivial | (rfl; done) | assumption | (exfalso; omega))
      · unfold up
        rw [if_neg (by omega), h12 x]
        by_cases c : x < q
        · rw [if_pos c, if_neg (by omega)]
        · rw [if_neg c, if_pos (by omega)]
    | succ k ih =>
      intro i χ i0 ik hf c0 c1 h13 h12
      have e : χ 12 (i + 1) = σ 12 (i + 1) := by rw [h12, if_neg (by omega)]
      obtain ⟨τ, t, tr⟩ := ih (i + 1) (up χ 12 i (σ 12 (i + 1))) (by omega) (by omega) (fun a b a1 a2 a3 => by unfold up; rw [if_neg (by omega)]; exact hf a b a1 a2 a3) (by unfold up; rw [if_neg (by omega)]; exact c0) (by unfold up; rw [if_neg (by omega)]; exact c1) (fun x => by unfold up; rw [if_neg (by omega)]; exact h13 x) (fun x => by
        unfold up
        by_cases c : x = i
        · rw [if_pos ⟨rfl, c⟩, if_pos (by omega), c]
        · rw [if_neg (by omega), h12 x]
          by_cases c2 : q ≤ x ∧ x < i
          · rw [if_pos c2, if_pos (by omega)]
          · rw [if_neg c2, if_neg (by omega)])
      refine ⟨τ, ?_, tr⟩
      refine vX3_take 100 ?_
      simp only [↓S_X3_take_1, ↓S_X3_take_2, ↓pI_c, ↓pL_c, ↓pR_c, ↓pC_I, ↓pC_R, ↓pE_n, ↓gI_0, ↓gI_s, ↓gL_0, ↓gL_s, ↓gR_0, ↓gR_s, ↓popN_0, ↓popN_s, ↓kl_I, ↓kl_L, ↓kl_R, ↓kl_n, ↓put1_0, ↓put1_s, ↓putk_0, ↓putk_s, ↓put2_0, ↓put2_s, ↓putl_0, ↓putl_s, ↓callK_0, ↓callK_1, ↓callK_2, cats_n, cats_c, catA_I, catA_L, catA_R, KL, LV, lval_f, ltag_f, llen_f, lcm_lt, lcm_le, lcm_gt, lcm_ge, lcm_eq, lcm_R1, lcm_R2, inR, inL, true_and, and_true, eq_self, List.head?_cons, Option.some.injEq, Sum.inr.injEq, Sum.inl.injEq, false_or, or_false, true_or, or_true, Nat.reduceAdd, Nat.reduceLeDiff, Int.reduceLE, Int.reduceLT, Int.reduceEq, Int.reduceNeg, Int.reduceAdd, Int.reduceSub, Int.reduceMul, Int.reduceNe, ne_eq, not_false_eq_true, not_true_eq_false, false_implies, forall_const, Nat.le_refl, Nat.zero_le, implies_true, and_self]
      rw [c1, e]
      (repeat' (first | apply And.intro | intro _))
      all_goals (try first | omega | trivial | (rfl; done) | assumption | (exfalso; omega) | (exact t) | (refine V.wk t ?_; simp [lle]; done))
  obtain ⟨τ, t, tr⟩ := loop (O - 1 - q).toNat q (up (up σ 13 L (σ 12 q)) 3 1 (O - 1)) (by omega) (by omega) (fun a b a1 a2 a3 => by unfold up; rw [if_neg (by omega), if_neg (by omega)]) (by unfold up; rw [if_neg (by omega), if_neg (by omega)]; exact hL) (by unfold up; rw [if_pos ⟨rfl, rfl⟩]) (fun x => by
    unfold up
    rw [if_neg (by omega)]
    by_cases c : x = L
    · rw [if_pos ⟨rfl, c⟩, if_pos c]
    · rw [if_neg (by omega), if_neg c]) (fun x => by unfold up; rw [if_neg (by omega), if_neg (by omega), if_neg (by omega)])
  refine ⟨τ, ?_, tr⟩
  have e1 : up σ 13 L (σ 12 q) 3 1 = O := by unfold up; rw [if_neg (by omega)]; exact hO
  refine Ret.of 3 [some (aR 3), some (aI v), none, none] rfl (by decide) rfl (Nat.le_of_ble_eq_true rfl) ?_
  refine vX3_take 100 ?_
  simp only [↓S_X3_take_1, ↓S_X3_take_2, ↓pI_c, ↓pL_c, ↓pR_c, ↓pC_I, ↓pC_R, ↓pE_n, ↓gI_0, ↓gI_s, ↓gL_0, ↓gL_s, ↓gR_0, ↓gR_s, ↓popN_0, ↓popN_s, ↓kl_I, ↓kl_L, ↓kl_R, ↓kl_n, ↓put1_0, ↓put1_s, ↓putk_0, ↓putk_s, ↓put2_0, ↓put2_s, ↓putl_0, ↓putl_s, ↓callK_0, ↓callK_1, ↓callK_2, cats_n, cats_c, catA_I, catA_L, catA_R, KL, LV, lval_f, ltag_f, llen_f, lcm_lt, lcm_le, lcm_gt, lcm_ge, lcm_eq, lcm_R1, lcm_R2, inR, inL, true_and, and_true, eq_self, List.head?_cons, Option.some.injEq, Sum.inr.injEq, Sum.inl.injEq, false_or, or_false, true_or, or_true, Nat.reduceAdd, Nat.reduceLeDiff, Int.reduceLE, Int.reduceLT, Int.reduceEq, Int.reduceNeg, Int.reduceAdd, Int.reduceSub, Int.reduceMul, Int.reduceNe, ne_eq, not_false_eq_true, not_true_eq_false, false_implies, forall_const, Nat.le_refl, Nat.zero_le, implies_true, and_self]
  simp only [hO, hL, hq, e1]
  (repeat' (first | apply And.intro | intro _))
  all_goals (try first | omega | trivial | (rfl; done) | assumption | (exfalso; omega) | (exact t) | (refine V.wk t ?_; simp [lle]; done))

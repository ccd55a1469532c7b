/-! Drawing: small methods -/
set_option maxRecDepth 100000 in
theorem r_J7_fill (D : Nat) (σ : Sg) (id v : Int) (h : ktag id = 1) (h2 : klen id < 2000) (h3 : 0 ≤ klen id) : Ret (D + 1) miJ7_fill_53178 [aR id, aI v] σ none (ff σ id 0 (klen id) v) := by
  refine Ret.of 8 [some (aR id), some (aI v), none, none] rfl (by decide) rfl (Nat.le_of_ble_eq_true rfl) ?_
  have loop : ∀ (k : Nat) (i : Int) (ρ : Sg), 0 ≤ i → i + k = klen id → ff ρ id i (klen id) v = ff σ id 0 (klen id) v → V D miJ7_fill_53178 8 none (ff σ id 0 (klen id) v) 5 [some (aR id), some (aI v), some (aI i), some (aI (klen id))] [] ρ := by
    intro k
    induction k with
    | zero =>
      intro i ρ h0 hi he
      refine vJ7_fill_53178 60 ?_
      simp only [↓S_J7_fill_53178, ↓pI_c, ↓pL_c, ↓pR_c, ↓pC_I, ↓pC_R, ↓pE_n, ↓gI_0, ↓gI_s, ↓gL_0, ↓gL_s, ↓gR_0, ↓gR_s, ↓popN_0, ↓popN_s, ↓kl_I, ↓kl_L, ↓kl_R, ↓kl_n, ↓put1_0, ↓put1_s, ↓putk_0, ↓putk_s, ↓put2_0, ↓put2_s, ↓putl_0, ↓putl_s, ↓callK_0, ↓callK_1, ↓callK_2, cats_n, cats_c, catA_I, catA_L, catA_R, KL, LV, lval_f, ltag_f, llen_f, lcm_lt, lcm_le, lcm_gt, lcm_ge, lcm_eq, lcm_R1, lcm_R2, inR, inL, true_and, and_true, eq_self, List.head?_cons, Option.some.injEq, Sum.inr.injEq, Sum.inl.injEq, false_or, or_false, true_or, or_true, Nat.reduceAdd, Nat.reduceLeDiff, Int.reduceLE, Int.reduceLT, Int.reduceEq, Int.reduceNeg, Int.reduceAdd, Int.reduceSub, Int.reduceMul, Int.reduceNe, ne_eq, not_false_eq_true, not_true_eq_false, false_implies, forall_const, Nat.le_refl, Nat.zero_le, implies_true, and_self]
      have e2 : ρ = ff σ id 0 (klen id) v := by
        rw [← he]
        funext a b
        unfold ff
        rw [if_neg (by omega)]
      exact ⟨by omega, by omega, fun _ => e2, fun q => by omega⟩
    | succ k ih =>
      intro i ρ h0 hi he
      refine vJ7_fill_53178 60 ?_
      simp only [↓S_J7_fill_53178, ↓pI_c, ↓pL_c, ↓pR_c, ↓pC_I, ↓pC_R, ↓pE_n, ↓gI_0, ↓gI_s, ↓gL_0, ↓gL_s, ↓gR_0, ↓gR_s, ↓popN_0, ↓popN_s, ↓kl_I, ↓kl_L, ↓kl_R, ↓kl_n, ↓put1_0, ↓put1_s, ↓putk_0, ↓putk_s, ↓put2_0, ↓put2_s, ↓putl_0, ↓putl_s, ↓callK_0, ↓callK_1, ↓callK_2, cats_n, cats_c, catA_I, catA_L, catA_R, KL, LV, lval_f, ltag_f, llen_f, lcm_lt, lcm_le, lcm_gt, lcm_ge, lcm_eq, lcm_R1, lcm_R2, inR, inL, true_and, and_true, eq_self, List.head?_cons, Option.some.injEq, Sum.inr.injEq, Sum.inl.injEq, false_or, or_false, true_or, or_true, Nat.reduceAdd, Nat.reduceLeDiff, Int.reduceLE, Int.reduceLT, Int.reduceEq, Int.reduceNeg, Int.reduceAdd, Int.reduceSub, Int.reduceMul, Int.reduceNe, ne_eq, not_false_eq_true, not_true_eq_false, false_implies, forall_const, Nat.le_refl, Nat.zero_le, implies_true, and_self]
      refine ⟨by omega, by omega, fun _ => by omega, fun q => ⟨h, h0, by omega, ?_⟩⟩
      refine ih (i + 1) _ (by omega) (by omega) ?_
      rw [← he]
      funext a b
      unfold ff up
      by_cases e1 : a = id
      · by_cases e2 : b = i
        · subst e1 e2
          rw [if_neg (by omega), if_pos ⟨rfl, rfl⟩, if_pos (by omega)]
        · by_cases e3 : i + 1 ≤ b ∧ b < klen id
          · rw [if_pos ⟨e1, e3⟩, if_pos (by omega)]
          · rw [if_neg (by omega), if_neg (by omega), if_neg (by omega)]
      · rw [if_neg (by omega), if_neg (by omega), if_neg (by omega)]
  refine vJ7_fill_53178 60 ?_
  simp only [↓S_J7_fill_53178, ↓pI_c, ↓pL_c, ↓pR_c, ↓pC_I, ↓pC_R, ↓pE_n, ↓gI_0, ↓gI_s, ↓gL_0, ↓gL_s, ↓gR_0, ↓gR_s, ↓popN_0, ↓popN_s, ↓kl_I, ↓kl_L, ↓kl_R, ↓kl_n, ↓put1_0, ↓put1_s, ↓putk_0, ↓putk_s, ↓put2_0, ↓put2_s, ↓putl_0, ↓putl_s, ↓callK_0, ↓callK_1, ↓callK_2, cats_n, cats_c, catA_I, catA_L, catA_R, KL, LV, lval_f, ltag_f, llen_f, lcm_lt, lcm_le, lcm_gt, lcm_ge, lcm_eq, lcm_R1, lcm_R2, inR, inL, true_and, and_true, eq_self, List.head?_cons, Option.some.injEq, Sum.inr.injEq, Sum.inl.injEq, false_or, or_false, true_or, or_true, Nat.reduceAdd, Nat.reduceLeDiff, Int.reduceLE, Int.reduceLT, Int.reduceEq, Int.reduceNeg, Int.reduceAdd, Int.reduceSub, Int.reduceMul, Int.reduceNe, ne_eq, not_false_eq_true, not_true_eq_false, false_implies, forall_const, Nat.le_refl, Nat.zero_le, implies_true, and_self]
  refine ⟨h, ?_⟩
  exact loop (klen id).toNat 0 σ (by omega) (by omega) rfl
set_option maxRecDepth 100000 in
theorem r_X1_clear (D : Nat) (σ : Sg) (n : Int) : Ret (D + 2) miX1_clear [aR 1, aI n] σ none (ff (up σ 1 0 n) 7 0 24 (-1)) := by
  refine Ret.of 1 [some (aR 1), some (aI n)] rfl (by decide) rfl (Nat.le_of_ble_eq_true rfl) ?_
  refine vX1_clear 60 ?_
  simp only [↓S_X1_clear, ↓pI_c, ↓pL_c, ↓pR_c, ↓pC_I, ↓pC_R, ↓pE_n, ↓gI_0, ↓gI_s, ↓gL_0, ↓gL_s, ↓gR_0, ↓gR_s, ↓popN_0, ↓popN_s, ↓kl_I, ↓kl_L, ↓kl_R, ↓kl_n, ↓put1_0, ↓put1_s, ↓putk_0, ↓putk_s, ↓put2_0, ↓put2_s, ↓putl_0, ↓putl_s, ↓callK_0, ↓callK_1, ↓callK_2, cats_n, cats_c, catA_I, catA_L, catA_R, KL, LV, lval_f, ltag_f, llen_f, lcm_lt, lcm_le, lcm_gt, lcm_ge, lcm_eq, lcm_R1, lcm_R2, inR, inL, true_and, and_true, eq_self, List.head?_cons, Option.some.injEq, Sum.inr.injEq, Sum.inl.injEq, false_or, or_false, true_or, or_true, Nat.reduceAdd, Nat.reduceLeDiff, Int.reduceLE, Int.reduceLT, Int.reduceEq, Int.reduceNeg, Int.reduceAdd, Int.reduceSub, Int.reduceMul, Int.reduceNe, ne_eq, not_false_eq_true, not_true_eq_false, false_implies, forall_const, Nat.le_refl, Nat.zero_le, implies_true, and_self]
  exact ⟨_, r_J7_fill D _ 7 (-1) rfl (by decide) (by decide), rfl⟩
set_option maxRecDepth 100000 in
theorem r_X1_hasPoint (D : Nat) (σ : Sg) (a : Int) (h : inR a) (h2 : inR (σ 1 0)) : Ret (D + 1) miX1_hasPoint [aR 1, aI a] σ (some (aI (if 0 ≤ a ∧ a < σ 1 0 then 1 else 0))) σ := by
  refine Ret.of 1 [some (aR 1), some (aI a)] rfl (by decide) rfl (Nat.le_of_ble_eq_true rfl) ?_
  refine vX1_hasPoint 60 ?_
  simp only [↓S_X1_hasPoint, ↓pI_c, ↓pL_c, ↓pR_c, ↓pC_I, ↓pC_R, ↓pE_n, ↓gI_0, ↓gI_s, ↓gL_0, ↓gL_s, ↓gR_0, ↓gR_s, ↓popN_0, ↓popN_s, ↓kl_I, ↓kl_L, ↓kl_R, ↓kl_n, ↓put1_0, ↓put1_s, ↓putk_0, ↓putk_s, ↓put2_0, ↓put2_s, ↓putl_0, ↓putl_s, ↓callK_0, ↓callK_1, ↓callK_2, cats_n, cats_c, catA_I, catA_L, catA_R, KL, LV, lval_f, ltag_f, llen_f, lcm_lt, lcm_le, lcm_gt, lcm_ge, lcm_eq, lcm_R1, lcm_R2, inR, inL, true_and, and_true, eq_self, List.head?_cons, Option.some.injEq, Sum.inr.injEq, Sum.inl.injEq, false_or, or_false, true_or, or_true, Nat.reduceAdd, Nat.reduceLeDiff, Int.reduceLE, Int.reduceLT, Int.reduceEq, Int.reduceNeg, Int.reduceAdd, Int.reduceSub, Int.reduceMul, Int.reduceNe, ne_eq, not_false_eq_true, not_true_eq_false, false_implies, forall_const, Nat.le_refl, Nat.zero_le, implies_true, and_self]
  refine ⟨h, fun q => by rw [if_neg (by omega)], fun q => ⟨h, h2, fun q2 => by rw [if_neg (by omega)], fun q2 => by rw [if_pos (by omega)]⟩⟩
set_option maxRecDepth 100000 in
theorem r_X1_isJoined (D : Nat) (σ : Sg) (a : Int) (h0 : 0 ≤ a) (h1 : a < 24) (hm : inR (σ 7 a)) : Ret (D + 1) miX1_isJoined [aR 1, aI a] σ (some (aI (if σ 7 a = -1 then 0 else 1))) σ := by
  refine Ret.of 1 [some (aR 1), some (aI a)] rfl (by decide) rfl (Nat.le_of_ble_eq_true rfl) ?_
  refine vX1_isJoined 60 ?_
  simp only [↓S_X1_isJoined, ↓pI_c, ↓pL_c, ↓pR_c, ↓pC_I, ↓pC_R, ↓pE_n, ↓gI_0, ↓gI_s, ↓gL_0, ↓gL_s, ↓gR_0, ↓gR_s, ↓popN_0, ↓popN_s, ↓kl_I, ↓kl_L, ↓kl_R, ↓kl_n, ↓put1_0, ↓put1_s, ↓putk_0, ↓putk_s, ↓put2_0, ↓put2_s, ↓putl_0, ↓putl_s, ↓callK_0, ↓callK_1, ↓callK_2, cats_n, cats_c, catA_I, catA_L, catA_R, KL, LV, lval_f, ltag_f, llen_f, lcm_lt, lcm_le, lcm_gt, lcm_ge, lcm_eq, lcm_R1, lcm_R2, inR, inL, true_and, and_true, eq_self, List.head?_cons, Option.some.injEq, Sum.inr.injEq, Sum.inl.injEq, false_or, or_false, true_or, or_true, Nat.reduceAdd, Nat.reduceLeDiff, Int.reduceLE, Int.reduceLT, Int.reduceEq, Int.reduceNeg, Int.reduceAdd, Int.reduceSub, Int.reduceMul, Int.reduceNe, ne_eq, not_false_eq_true, not_true_eq_false, false_implies, forall_const, Nat.le_refl, Nat.zero_le, implies_true, and_self]
  refine ⟨h0, h1, hm, fun q => by rw [if_pos q], fun q => by rw [if_neg q]⟩
set_option maxRecDepth 100000 in
theorem r_X1_begins (D : Nat) (σ : Sg) (a : Int) (h0 : 0 ≤ a) (h1 : a < 24) (hm : inR (σ 7 a)) : Ret (D + 1) miX1_begins [aR 1, aI a] σ (some (aI (if a < σ 7 a then 1 else 0))) σ := by
  refine Ret.of 1 [some (aR 1), some (aI a)] rfl (by decide) rfl (Nat.le_of_ble_eq_true rfl) ?_
  refine vX1_begins 60 ?_
  simp only [↓S_X1_begins, ↓pI_c, ↓pL_c, ↓pR_c, ↓pC_I, ↓pC_R, ↓pE_n, ↓gI_0, ↓gI_s, ↓gL_0, ↓gL_s, ↓gR_0, ↓gR_s, ↓popN_0, ↓popN_s, ↓kl_I, ↓kl_L, ↓kl_R, ↓kl_n, ↓put1_0, ↓put1_s, ↓putk_0, ↓putk_s, ↓put2_0, ↓put2_s, ↓putl_0, ↓putl_s, ↓callK_0, ↓callK_1, ↓callK_2, cats_n, cats_c, catA_I, catA_L, catA_R, KL, LV, lval_f, ltag_f, llen_f, lcm_lt, lcm_le, lcm_gt, lcm_ge, lcm_eq, lcm_R1, lcm_R2, inR, inL, true_and, and_true, eq_self, List.head?_cons, Option.some.injEq, Sum.inr.injEq, Sum.inl.injEq, false_or, or_false, true_or, or_true, Nat.reduceAdd, Nat.reduceLeDiff, Int.reduceLE, Int.reduceLT, Int.reduceEq, Int.reduceNeg, Int.reduceAdd, Int.reduceSub, Int.reduceMul, Int.reduceNe, ne_eq, not_false_eq_true, not_true_eq_false, false_implies, forall_const, Nat.le_refl, Nat.zero_le, implies_true, and_self]
  refine ⟨h0, h1, hm, by omega, fun q => by rw [if_neg (by omega)], fun q => by rw [if_pos (by omega)]⟩
set_option maxRecDepth 100000 in
theorem r_X1_ends (D : Nat) (σ : Sg) (a : Int) (h0 : 0 ≤ a) (h1 : a < 24) (hm : inR (σ 7 a)) : Ret (D + 1) miX1_ends [aR 1, aI a] σ (some (aI (if σ 7 a ≠ -1 ∧ σ 7 a < a then 1 else 0))) σ := by
  refine Ret.of 1 [some (aR 1), some (aI a)] rfl (by decide) rfl (Nat.le_of_ble_eq_true rfl) ?_
  refine vX1_ends 60 ?_
  simp only [↓S_X1_ends, ↓pI_c, ↓pL_c, ↓pR_c, ↓pC_I, ↓pC_R, ↓pE_n, ↓gI_0, ↓gI_s, ↓gL_0, ↓gL_s, ↓gR_0, ↓gR_s, ↓popN_0, ↓popN_s, ↓kl_I, ↓kl_L, ↓kl_R, ↓kl_n, ↓put1_0, ↓put1_s, ↓putk_0, ↓putk_s, ↓put2_0, ↓put2_s, ↓putl_0, ↓putl_s, ↓callK_0, ↓callK_1, ↓callK_2, cats_n, cats_c, catA_I, catA_L, catA_R, KL, LV, lval_f, ltag_f, llen_f, lcm_lt, lcm_le, lcm_gt, lcm_ge, lcm_eq, lcm_R1, lcm_R2, inR, inL, true_and, and_true, eq_self, List.head?_cons, Option.some.injEq, Sum.inr.injEq, Sum.inl.injEq, false_or, or_false, true_or, or_true, Nat.reduceAdd, Nat.reduceLeDiff, Int.reduceLE, Int.reduceLT, Int.reduceEq, Int.reduceNeg, Int.reduceAdd, Int.reduceSub, Int.reduceMul, Int.reduceNe, ne_eq, not_false_eq_true, not_true_eq_false, false_implies, forall_const, Nat.le_refl, Nat.zero_le, implies_true, and_self]
  (repeat' (first | apply And.intro | intro _))
  all_goals (try first | omega | trivial | (rfl; done) | assumption | (exfalso; omega) | (split <;> first | omega | (rfl; done) | (exfalso; omega)))
set_option maxRecDepth 100000 in
theorem r_X1_isChord (D : Nat) (σ : Sg) (a b : Int) (h : inR a) (hb : inR b) (hw : WD (σ 1 0) (σ 7)) : Ret (D + 2) miX1_isChord [aR 1, aI a, aI b] σ (some (aI (if 0 ≤ a ∧ a < σ 1 0 ∧ 0 ≤ b ∧ b < σ 1 0 ∧ σ 7 a = b then 1 else 0))) σ := by
  have h1 := hw.1
  have h2 := hw.2.1
  refine Ret.of 1 [some (aR 1), some (aI a), some (aI b)] rfl (by decide) rfl (Nat.le_of_ble_eq_true rfl) ?_
  refine vX1_isChord 60 ?_
  simp only [↓S_X1_isChord, ↓pI_c, ↓pL_c, ↓pR_c, ↓pC_I, ↓pC_R, ↓pE_n, ↓gI_0, ↓gI_s, ↓gL_0, ↓gL_s, ↓gR_0, ↓gR_s, ↓popN_0, ↓popN_s, ↓kl_I, ↓kl_L, ↓kl_R, ↓kl_n, ↓put1_0, ↓put1_s, ↓putk_0, ↓putk_s, ↓put2_0, ↓put2_s, ↓putl_0, ↓putl_s, ↓callK_0, ↓callK_1, ↓callK_2, cats_n, cats_c, catA_I, catA_L, catA_R, KL, LV, lval_f, ltag_f, llen_f, lcm_lt, lcm_le, lcm_gt, lcm_ge, lcm_eq, lcm_R1, lcm_R2, inR, inL, true_and, and_true, eq_self, List.head?_cons, Option.some.injEq, Sum.inr.injEq, Sum.inl.injEq, false_or, or_false, true_or, or_true, Nat.reduceAdd, Nat.reduceLeDiff, Int.reduceLE, Int.reduceLT, Int.reduceEq, Int.reduceNeg, Int.reduceAdd, Int.reduceSub, Int.reduceMul, Int.reduceNe, ne_eq, not_false_eq_true, not_true_eq_false, false_implies, forall_const, Nat.le_refl, Nat.zero_le, implies_true, and_self]
  refine ⟨_, _, r_X1_hasPoint D σ a h (by omega), ?_⟩
  split
  · rename_i q
    have := hw.r q.1 (by omega)
    refine ⟨by omega, fun q => by omega, fun q => ?_⟩
    refine ⟨_, _, r_X1_hasPoint D σ b hb (by omega), ?_⟩
    split
    · (repeat' (first | apply And.intro | intro _))
      all_goals (try first | omega | trivial | (rfl; done) | assumption | (exfalso; omega) | (split <;> first | omega | (rfl; done) | (exfalso; omega)))
    · (repeat' (first | apply And.intro | intro _))
      all_goals (try first | omega | trivial | (rfl; done) | assumption | (exfalso; omega) | (split <;> first | omega | (rfl; done) | (exfalso; omega)))
  · (repeat' (first | apply And.intro | intro _))
    all_goals (try first | omega | trivial | (rfl; done) | assumption | (exfalso; omega) | (split <;> first | omega | (rfl; done) | (exfalso; omega)))
set_option maxRecDepth 100000 in
theorem r_X1_link (D : Nat) (σ : Sg) (a b : Int) (h0 : 0 ≤ a) (h1 : a < 24) (h2 : 0 ≤ b) (h3 : b < 24) : Ret (D + 1) miX1_link [aR 1, aI a, aI b] σ none (up (up σ 7 a b) 7 b a) := by
  refine Ret.of 1 [some (aR 1), some (aI a), some (aI b)] rfl (by decide) rfl (Nat.le_of_ble_eq_true rfl) ?_
  refine vX1_link 60 ?_
  simp only [↓S_X1_link, ↓pI_c, ↓pL_c, ↓pR_c, ↓pC_I, ↓pC_R, ↓pE_n, ↓gI_0, ↓gI_s, ↓gL_0, ↓gL_s, ↓gR_0, ↓gR_s, ↓popN_0, ↓popN_s, ↓kl_I, ↓kl_L, ↓kl_R, ↓kl_n, ↓put1_0, ↓put1_s, ↓putk_0, ↓putk_s, ↓put2_0, ↓put2_s, ↓putl_0, ↓putl_s, ↓callK_0, ↓callK_1, ↓callK_2, cats_n, cats_c, catA_I, catA_L, catA_R, KL, LV, lval_f, ltag_f, llen_f, lcm_lt, lcm_le, lcm_gt, lcm_ge, lcm_eq, lcm_R1, lcm_R2, inR, inL, true_and, and_true, eq_self, List.head?_cons, Option.some.injEq, Sum.inr.injEq, Sum.inl.injEq, false_or, or_false, true_or, or_true, Nat.reduceAdd, Nat.reduceLeDiff, Int.reduceLE, Int.reduceLT, Int.reduceEq, Int.reduceNeg, Int.reduceAdd, Int.reduceSub, Int.reduceMul, Int.reduceNe, ne_eq, not_false_eq_true, not_true_eq_false, false_implies, forall_const, Nat.le_refl, Nat.zero_le, implies_true, and_self]
  exact ⟨h0, h1, h2, h3⟩
set_option maxRecDepth 100000 in
theorem r_X1_unlink (D : Nat) (σ : Sg) (a : Int) (h0 : 0 ≤ a) (h1 : a < 24) (h2 : 0 ≤ σ 7 a) (h3 : σ 7 a < 24) : Ret (D + 1) miX1_unlink [aR 1, aI a] σ (some (aI (σ 7 a))) (up (up σ 7 a (-1)) 7 (σ 7 a) (-1)) := by
  refine Ret.of 1 [some (aR 1), some (aI a), none] rfl (by decide) rfl (Nat.le_of_ble_eq_true rfl) ?_
  refine vX1_unlink 60 ?_
  simp only [↓S_X1_unlink, ↓pI_c, ↓pL_c, ↓pR_c, ↓pC_I, ↓pC_R, ↓pE_n, ↓gI_0, ↓gI_s, ↓gL_0, ↓gL_s, ↓gR_0, ↓gR_s, ↓popN_0, ↓popN_s, ↓kl_I, ↓kl_L, ↓kl_R, ↓kl_n, ↓put1_0, ↓put1_s, ↓putk_0, ↓putk_s, ↓put2_0, ↓put2_s, ↓putl_0, ↓putl_s, ↓callK_0, ↓callK_1, ↓callK_2, cats_n, cats_c, catA_I, catA_L, catA_R, KL, LV, lval_f, ltag_f, llen_f, lcm_lt, lcm_le, lcm_gt, lcm_ge, lcm_eq, lcm_R1, lcm_R2, inR, inL, true_and, and_true, eq_self, List.head?_cons, Option.some.injEq, Sum.inr.injEq, Sum.inl.injEq, false_or, or_false, true_or, or_true, Nat.reduceAdd, Nat.reduceLeDiff, Int.reduceLE, Int.reduceLT, Int.reduceEq, Int.reduceNeg, Int.reduceAdd, Int.reduceSub, Int.reduceMul, Int.reduceNe, ne_eq, not_false_eq_true, not_true_eq_false, false_implies, forall_const, Nat.le_refl, Nat.zero_le, implies_true, and_self]
  exact ⟨h0, h1, h0, h1, h2, h3⟩
set_option maxRecDepth 100000 in
theorem r_X1_chords (D : Nat) (σ : Sg) (hw : WD (σ 1 0) (σ 7)) : Ret (D + 2) miX1_chords [aR 1] σ (some (aI (rs (fun a => if a < σ 7 a then 1 else 0) 0 (σ 1 0).toNat))) σ := by
  have w1 := hw.1
  have w2 := hw.2.1
  refine Ret.of 1 [some (aR 1), none, none] rfl (by decide) rfl (Nat.le_of_ble_eq_true rfl) ?_
  have loop : ∀ (k : Nat) (i acc : Int), 0 ≤ i → i + k = σ 1 0 → V (D + 1) miX1_chords 1 (some (aI (acc + rs (fun a => if a < σ 7 a then 1 else 0) i k))) σ 4 [some (aR 1), some (aI acc), some (aI i)] [] σ := by
    intro k
    induction k with
    | zero =>
      intro i acc h0 hi
      refine vX1_chords 60 ?_
      simp only [↓S_X1_chords, ↓pI_c, ↓pL_c, ↓pR_c, ↓pC_I, ↓pC_R, ↓pE_n, ↓gI_0, ↓gI_s, ↓gL_0, ↓gL_s, ↓gR_0, ↓gR_s, ↓popN_0, ↓popN_s, ↓kl_I, ↓kl_L, ↓kl_R, ↓kl_n, ↓put1_0, ↓put1_s, ↓putk_0, ↓putk_s, ↓put2_0, ↓put2_s, ↓putl_0, ↓putl_s, ↓callK_0, ↓callK_1, ↓callK_2, cats_n, cats_c, catA_I, catA_L, catA_R, KL, LV, lval_f, ltag_f, llen_f, lcm_lt, lcm_le, lcm_gt, lcm_ge, lcm_eq, lcm_R1, lcm_R2, inR, inL, true_and, and_true, eq_self, List.head?_cons, Option.some.injEq, Sum.inr.injEq, Sum.inl.injEq, false_or, or_false, true_or, or_true, Nat.reduceAdd, Nat.reduceLeDiff, Int.reduceLE, Int.reduceLT, Int.reduceEq, Int.reduceNeg, Int.reduceAdd, Int.reduceSub, Int.reduceMul, Int.reduceNe, ne_eq, not_false_eq_true, not_true_eq_false, false_implies, forall_const, Nat.le_refl, Nat.zero_le, implies_true, and_self]
      exact ⟨by omega, by omega, fun _ => by simp [rs], fun q => by omega⟩
    | succ k ih =>
      intro i acc h0 hi
      have hr := hw.r h0 (by omega)
      refine vX1_chords 60 ?_
      simp only [↓S_X1_chords, ↓pI_c, ↓pL_c, ↓pR_c, ↓pC_I, ↓pC_R, ↓pE_n, ↓gI_0, ↓gI_s, ↓gL_0, ↓gL_s, ↓gR_0, ↓gR_s, ↓popN_0, ↓popN_s, ↓kl_I, ↓kl_L, ↓kl_R, ↓kl_n, ↓put1_0, ↓put1_s, ↓putk_0, ↓putk_s, ↓put2_0, ↓put2_s, ↓putl_0, ↓putl_s, ↓callK_0, ↓callK_1, ↓callK_2, cats_n, cats_c, catA_I, catA_L, catA_R, KL, LV, lval_f, ltag_f, llen_f, lcm_lt, lcm_le, lcm_gt, lcm_ge, lcm_eq, lcm_R1, lcm_R2, inR, inL, true_and, and_true, eq_self, List.head?_cons, Option.some.injEq, Sum.inr.injEq, Sum.inl.injEq, false_or, or_false, true_or, or_true, Nat.reduceAdd, Nat.reduceLeDiff, Int.reduceLE, Int.reduceLT, Int.reduceEq, Int.reduceNeg, Int.reduceAdd, Int.reduceSub, Int.reduceMul, Int.reduceNe, ne_eq, not_false_eq_true, not_true_eq_false, false_implies, forall_const, Nat.le_refl, Nat.zero_le, implies_true, and_self]
      refine ⟨by omega, by omega, fun _ => by omega, fun q => ⟨_, _, r_X1_begins D σ i h0 (by omega) (by omega), by split <;> omega, fun q2 => ?_, fun q2 => ?_⟩⟩
      · have := ih (i + 1) acc (by omega) (by omega)
        rw [rs_s, q2, Int.zero_add]
        exact this
      · have := ih (i + 1) (acc + 1) (by omega) (by omega)
        rw [rs_s, show (if i < σ 7 i then (1 : Int) else 0) = 1 from by split at q2 <;> omega, ← Int.add_assoc]
        exact this
  refine vX1_chords 60 ?_
  simp only [↓S_X1_chords, ↓pI_c, ↓pL_c, ↓pR_c, ↓pC_I, ↓pC_R, ↓pE_n, ↓gI_0, ↓gI_s, ↓gL_0, ↓gL_s, ↓gR_0, ↓gR_s, ↓popN_0, ↓popN_s, ↓kl_I, ↓kl_L, ↓kl_R, ↓kl_n, ↓put1_0, ↓put1_s, ↓putk_0, ↓putk_s, ↓put2_0, ↓put2_s, ↓putl_0, ↓putl_s, ↓callK_0, ↓callK_1, ↓callK_2, cats_n, cats_c, catA_I, catA_L, catA_R, KL, LV, lval_f, ltag_f, llen_f, lcm_lt, lcm_le, lcm_gt, lcm_ge, lcm_eq, lcm_R1, lcm_R2, inR, inL, true_and, and_true, eq_self, List.head?_cons, Option.some.injEq, Sum.inr.injEq, Sum.inl.injEq, false_or, or_false, true_or, or_true, Nat.reduceAdd, Nat.reduceLeDiff, Int.reduceLE, Int.reduceLT, Int.reduceEq, Int.reduceNeg, Int.reduceAdd, Int.reduceSub, Int.reduceMul, Int.reduceNe, ne_eq, not_false_eq_true, not_true_eq_false, false_implies, forall_const, Nat.le_refl, Nat.zero_le, implies_true, and_self]
  have := loop (σ 1 0).toNat 0 0 (by omega) (by omega)
  rw [Int.zero_add] at this
  exact this

/-! the law: each case, the loop -/
section LAWS
variable {p : Program} {l : Launch} {e : Env} {s : State} {m : MethodId} {below : List Frame} {meth : Method} {c : Code} {X : Cx} {b L : Nat} {xs : Nat → Int32} {cells slots : Nat}
set_option maxRecDepth 100000 in
theorem law_points (C : LawC p s m meth c X b L xs cells slots) {σ : Sg} (h : Inv σ) {i : Int} (i0 : 0 ≤ i) (i1 : i + 4 ≤ L) (k : ∀ τ, InvW τ → VLx p l e s m below meth c X b cells slots 692 [some (aR 211), some (aR 5), some (aR 6), some (aI i)] [] τ) : VLx p l e s m below meth c X b cells slots 140 [some (aR 211), some (aR 5), some (aR 6), some (aI i)] [] σ := by
  have h1 := svx_R xs (i + 1)
  have h2 := svx_R xs (i + 2)
  have h3 := svx_R xs (i + 3)
  obtain ⟨z, ρ, τ, r5, r6, hI⟩ := c_points h h1
  have t := k τ hI
  refine vL_law C 60 ?_
  simp only [↓S_L_law_1, ↓S_L_law_2, ↓S_L_law_3, ↓S_L_law_4, ↓S_L_law_5, ↓S_L_law_6, ↓S_L_law_7, ↓S_L_law_8, ↓S_L_law_9, ↓S_L_law_10, ↓S_L_law_11, ↓pI_c, ↓pL_c, ↓pR_c, ↓pC_I, ↓pC_R, ↓pE_n, ↓gI_0, ↓gI_s, ↓gL_0, ↓gL_s, ↓gR_0, ↓gR_s, ↓popN_0, ↓popN_s, ↓kl_I, ↓kl_L, ↓kl_R, ↓kl_n, ↓put1_0, ↓put1_s, ↓putk_0, ↓putk_s, ↓put2_0, ↓put2_s, ↓putl_0, ↓putl_s, ↓callK_0, ↓callK_1, ↓callK_2, cats_n, cats_c, catA_I, catA_L, catA_R, KL, LV, lval_f, ltag_f, llen_f, lcm_lt, lcm_le, lcm_gt, lcm_ge, lcm_eq, lcm_R1, lcm_R2, inR, inL, true_and, and_true, eq_self, List.head?_cons, Option.some.injEq, Sum.inr.injEq, Sum.inl.injEq, false_or, or_false, true_or, or_true, Nat.reduceAdd, Nat.reduceLeDiff, Int.reduceLE, Int.reduceLT, Int.reduceEq, Int.reduceNeg, Int.reduceAdd, Int.reduceSub, Int.reduceMul, Int.reduceNe, ne_eq, not_false_eq_true, not_true_eq_false, false_implies, forall_const, Nat.le_refl, Nat.zero_le, implies_true, and_self]
  (repeat' (first | apply And.intro | intro _ | with_reducible refine Exists.intro _ (Exists.intro _ (And.intro r5 ?_)) | with_reducible refine Exists.intro _ (And.intro r5 ?_) | with_reducible refine Exists.intro _ (Exists.intro _ (And.intro r6 ?_)) | with_reducible refine Exists.intro _ (And.intro r6 ?_)))
  all_goals (try first | omega | trivial | (rfl; done) | assumption | (exfalso; omega) | (exact t) | (refine V.wk t ?_; simp [lle]; done))
set_option maxRecDepth 100000 in
theorem law_join (C : LawC p s m meth c X b L xs cells slots) {σ : Sg} (h : Inv σ) {i : Int} (i0 : 0 ≤ i) (i1 : i + 4 ≤ L) (k : ∀ τ, InvW τ → VLx p l e s m below meth c X b cells slots 692 [some (aR 211), some (aR 5), some (aR 6), some (aI i)] [] τ) : VLx p l e s m below meth c X b cells slots 163 [some (aR 211), some (aR 5), some (aR 6), some (aI i)] [] σ := by
  have h1 := svx_R xs (i + 1)
  have h2 := svx_R xs (i + 2)
  have h3 := svx_R xs (i + 3)
  obtain ⟨z, ρ, τ, r5, r6, hI⟩ := c_join h h1 h2
  have t := k τ hI
  refine vL_law C 60 ?_
  simp only [↓S_L_law_1, ↓S_L_law_2, ↓S_L_law_3, ↓S_L_law_4, ↓S_L_law_5, ↓S_L_law_6, ↓S_L_law_7, ↓S_L_law_8, ↓S_L_law_9, ↓S_L_law_10, ↓S_L_law_11, ↓pI_c, ↓pL_c, ↓pR_c, ↓pC_I, ↓pC_R, ↓pE_n, ↓gI_0, ↓gI_s, ↓gL_0, ↓gL_s, ↓gR_0, ↓gR_s, ↓popN_0, ↓popN_s, ↓kl_I, ↓kl_L, ↓kl_R, ↓kl_n, ↓put1_0, ↓put1_s, ↓putk_0, ↓putk_s, ↓put2_0, ↓put2_s, ↓putl_0, ↓putl_s, ↓callK_0, ↓callK_1, ↓callK_2, cats_n, cats_c, catA_I, catA_L, catA_R, KL, LV, lval_f, ltag_f, llen_f, lcm_lt, lcm_le, lcm_gt, lcm_ge, lcm_eq, lcm_R1, lcm_R2, inR, inL, true_and, and_true, eq_self, List.head?_cons, Option.some.injEq, Sum.inr.injEq, Sum.inl.injEq, false_or, or_false, true_or, or_true, Nat.reduceAdd, Nat.reduceLeDiff, Int.reduceLE, Int.reduceLT, Int.reduceEq, Int.reduceNeg, Int.reduceAdd, Int.reduceSub, Int.reduceMul, Int.reduceNe, ne_eq, not_false_eq_true, not_true_eq_false, false_implies, forall_const, Nat.le_refl, Nat.zero_le, implies_true, and_self]
  (repeat' (first | apply And.intro | intro _ | with_reducible refine Exists.intro _ (Exists.intro _ (And.intro r5 ?_)) | with_reducible refine Exists.intro _ (And.intro r5 ?_) | with_reducible refine Exists.intro _ (Exists.intro _ (And.intro r6 ?_)) | with_reducible refine Exists.intro _ (And.intro r6 ?_)))
  all_goals (try first | omega | trivial | (rfl; done) | assumption | (exfalso; omega) | (exact t) | (refine V.wk t ?_; simp [lle]; done))
set_option maxRecDepth 100000 in
theorem law_part (C : LawC p s m meth c X b L xs cells slots) {σ : Sg} (h : Inv σ) {i : Int} (i0 : 0 ≤ i) (i1 : i + 4 ≤ L) (k : ∀ τ, InvW τ → VLx p l e s m below meth c X b cells slots 692 [some (aR 211), some (aR 5), some (aR 6), some (aI i)] [] τ) : VLx p l e s m below meth c X b cells slots 196 [some (aR 211), some (aR 5), some (aR 6), some (aI i)] [] σ := by
  have h1 := svx_R xs (i + 1)
  have h2 := svx_R xs (i + 2)
  have h3 := svx_R xs (i + 3)
  obtain ⟨z, ρ, τ, r5, r6, hI⟩ := c_part h h1
  have t := k τ hI
  refine vL_law C 60 ?_
  simp only [↓S_L_law_1, ↓S_L_law_2, ↓S_L_law_3, ↓S_L_law_4, ↓S_L_law_5, ↓S_L_law_6, ↓S_L_law_7, ↓S_L_law_8, ↓S_L_law_9, ↓S_L_law_10, ↓S_L_law_11, ↓pI_c, ↓pL_c, ↓pR_c, ↓pC_I, ↓pC_R, ↓pE_n, ↓gI_0, ↓gI_s, ↓gL_0, ↓gL_s, ↓gR_0, ↓gR_s, ↓popN_0, ↓popN_s, ↓kl_I, ↓kl_L, ↓kl_R, ↓kl_n, ↓put1_0, ↓put1_s, ↓putk_0, ↓putk_s, ↓put2_0, ↓put2_s, ↓putl_0, ↓putl_s, ↓callK_0, ↓callK_1, ↓callK_2, cats_n, cats_c, catA_I, catA_L, catA_R, KL, LV, lval_f, ltag_f, llen_f, lcm_lt, lcm_le, lcm_gt, lcm_ge, lcm_eq, lcm_R1, lcm_R2, inR, inL, true_and, and_true, eq_self, List.head?_cons, Option.some.injEq, Sum.inr.injEq, Sum.inl.injEq, false_or, or_false, true_or, or_true, Nat.reduceAdd, Nat.reduceLeDiff, Int.reduceLE, Int.reduceLT, Int.reduceEq, Int.reduceNeg, Int.reduceAdd, Int.reduceSub, Int.reduceMul, Int.reduceNe, ne_eq, not_false_eq_true, not_true_eq_false, false_implies, forall_const, Nat.le_refl, Nat.zero_le, implies_true, and_self]
  (repeat' (first | apply And.intro | intro _ | with_reducible refine Exists.intro _ (Exists.intro _ (And.intro r5 ?_)) | with_reducible refine Exists.intro _ (And.intro r5 ?_) | with_reducible refine Exists.intro _ (Exists.intro _ (And.intro r6 ?_)) | with_reducible refine Exists.intro _ (And.intro r6 ?_)))
  all_goals (try first | omega | trivial | (rfl; done) | assumption | (exfalso; omega) | (exact t) | (refine V.wk t ?_; simp [lle]; done))
set_option maxRecDepth 100000 in
theorem law_at (C : LawC p s m meth c X b L xs cells slots) {σ : Sg} (h : Inv σ) {i : Int} (i0 : 0 ≤ i) (i1 : i + 4 ≤ L) (k : ∀ τ, InvW τ → VLx p l e s m below meth c X b cells slots 692 [some (aR 211), some (aR 5), some (aR 6), some (aI i)] [] τ) : VLx p l e s m below meth c X b cells slots 219 [some (aR 211), some (aR 5), some (aR 6), some (aI i)] [] σ := by
  have h1 := svx_R xs (i + 1)
  have h2 := svx_R xs (i + 2)
  have h3 := svx_R xs (i + 3)
  obtain ⟨z, ρ, τ, r5, r6, hI⟩ := c_at h h1
  have t := k τ hI
  refine vL_law C 60 ?_
  simp only [↓S_L_law_1, ↓S_L_law_2, ↓S_L_law_3, ↓S_L_law_4, ↓S_L_law_5, ↓S_L_law_6, ↓S_L_law_7, ↓S_L_law_8, ↓S_L_law_9, ↓S_L_law_10, ↓S_L_law_11, ↓pI_c, ↓pL_c, ↓pR_c, ↓pC_I, ↓pC_R, ↓pE_n, ↓gI_0, ↓gI_s, ↓gL_0, ↓gL_s, ↓gR_0, ↓gR_s, ↓popN_0, ↓popN_s, ↓kl_I, ↓kl_L, ↓kl_R, ↓kl_n, ↓put1_0, ↓put1_s, ↓putk_0, ↓putk_s, ↓put2_0, ↓put2_s, ↓putl_0, ↓putl_s, ↓callK_0, ↓callK_1, ↓callK_2, cats_n, cats_c, catA_I, catA_L, catA_R, KL, LV, lval_f, ltag_f, llen_f, lcm_lt, lcm_le, lcm_gt, lcm_ge, lcm_eq, lcm_R1, lcm_R2, inR, inL, true_and, and_true, eq_self, List.head?_cons, Option.some.injEq, Sum.inr.injEq, Sum.inl.injEq, false_or, or_false, true_or, or_true, Nat.reduceAdd, Nat.reduceLeDiff, Int.reduceLE, Int.reduceLT, Int.reduceEq, Int.reduceNeg, Int.reduceAdd, Int.reduceSub, Int.reduceMul, Int.reduceNe, ne_eq, not_false_eq_true, not_true_eq_false, false_implies, forall_const, Nat.le_refl, Nat.zero_le, implies_true, and_self]
  (repeat' (first | apply And.intro | intro _ | with_reducible refine Exists.intro _ (Exists.intro _ (And.intro r5 ?_)) | with_reducible refine Exists.intro _ (And.intro r5 ?_) | with_reducible refine Exists.intro _ (Exists.intro _ (And.intro r6 ?_)) | with_reducible refine Exists.intro _ (And.intro r6 ?_)))
  all_goals (try first | omega | trivial | (rfl; done) | assumption | (exfalso; omega) | (exact t) | (refine V.wk t ?_; simp [lle]; done))
set_option maxRecDepth 100000 in
theorem law_number (C : LawC p s m meth c X b L xs cells slots) {σ : Sg} (h : Inv σ) {i : Int} (i0 : 0 ≤ i) (i1 : i + 4 ≤ L) (k : ∀ τ, InvW τ → VLx p l e s m below meth c X b cells slots 692 [some (aR 211), some (aR 5), some (aR 6), some (aI i)] [] τ) : VLx p l e s m below meth c X b cells slots 242 [some (aR 211), some (aR 5), some (aR 6), some (aI i)] [] σ := by
  have h1 := svx_R xs (i + 1)
  have h2 := svx_R xs (i + 2)
  have h3 := svx_R xs (i + 3)
  obtain ⟨z, ρ, τ, r5, r6, hI⟩ := c_number h h1
  have t := k τ hI
  refine vL_law C 60 ?_
  simp only [↓S_L_law_1, ↓S_L_law_2, ↓S_L_law_3, ↓S_L_law_4, ↓S_L_law_5, ↓S_L_law_6, ↓S_L_law_7, ↓S_L_law_8, ↓S_L_law_9, ↓S_L_law_10, ↓S_L_law_11, ↓pI_c, ↓pL_c, ↓pR_c, ↓pC_I, ↓pC_R, ↓pE_n, ↓gI_0, ↓gI_s, ↓gL_0, ↓gL_s, ↓gR_0, ↓gR_s, ↓popN_0, ↓popN_s, ↓kl_I, ↓kl_L, ↓kl_R, ↓kl_n, ↓put1_0, ↓put1_s, ↓putk_0, ↓putk_s, ↓put2_0, ↓put2_s, ↓putl_0, ↓putl_s, ↓callK_0, ↓callK_1, ↓callK_2, cats_n, cats_c, catA_I, catA_L, catA_R, KL, LV, lval_f, ltag_f, llen_f, lcm_lt, lcm_le, lcm_gt, lcm_ge, lcm_eq, lcm_R1, lcm_R2, inR, inL, true_and, and_true, eq_self, List.head?_cons, Option.some.injEq, Sum.inr.injEq, Sum.inl.injEq, false_or, or_false, true_or, or_true, Nat.reduceAdd, Nat.reduceLeDiff, Int.reduceLE, Int.reduceLT, Int.reduceEq, Int.reduceNeg, Int.reduceAdd, Int.reduceSub, Int.reduceMul, Int.reduceNe, ne_eq, not_false_eq_true, not_true_eq_false, false_implies, forall_const, Nat.le_refl, Nat.zero_le, implies_true, and_self]
  (repeat' (first | apply And.intro | intro _ | with_reducible refine Exists.intro _ (Exists.intro _ (And.intro r5 ?_)) | with_reducible refine Exists.intro _ (And.intro r5 ?_) | with_reducible refine Exists.intro _ (Exists.intro _ (And.intro r6 ?_)) | with_reducible refine Exists.intro _ (And.intro r6 ?_)))
  all_goals (try first | omega | trivial | (rfl; done) | assumption | (exfalso; omega) | (exact t) | (refine V.wk t ?_; simp [lle]; done))
set_option maxRecDepth 100000 in
theorem law_height (C : LawC p s m meth c X b L xs cells slots) {σ : Sg} (h : Inv σ) {i : Int} (i0 : 0 ≤ i) (i1 : i + 4 ≤ L) (k : ∀ τ, InvW τ → VLx p l e s m below meth c X b cells slots 692 [some (aR 211), some (aR 5), some (aR 6), some (aI i)] [] τ) : VLx p l e s m below meth c X b cells slots 265 [some (aR 211), some (aR 5), some (aR 6), some (aI i)] [] σ := by
  have h1 := svx_R xs (i + 1)
  have h2 := svx_R xs (i + 2)
  have h3 := svx_R xs (i + 3)
  obtain ⟨z, ρ, τ, r5, r6, hI⟩ := c_height h h1
  have t := k τ hI
  refine vL_law C 60 ?_
  simp only [↓S_L_law_1, ↓S_L_law_2, ↓S_L_law_3, ↓S_L_law_4, ↓S_L_law_5, ↓S_L_law_6, ↓S_L_law_7, ↓S_L_law_8, ↓S_L_law_9, ↓S_L_law_10, ↓S_L_law_11, ↓pI_c, ↓pL_c, ↓pR_c, ↓pC_I, ↓pC_R, ↓pE_n, ↓gI_0, ↓gI_s, ↓gL_0, ↓gL_s, ↓gR_0, ↓gR_s, ↓popN_0, ↓popN_s, ↓kl_I, ↓kl_L, ↓kl_R, ↓kl_n, ↓put1_0, ↓put1_s, ↓putk_0, ↓putk_s, ↓put2_0, ↓put2_s, ↓putl_0, ↓putl_s, ↓callK_0, ↓callK_1, ↓callK_2, cats_n, cats_c, catA_I, catA_L, catA_R, KL, LV, lval_f, ltag_f, llen_f, lcm_lt, lcm_le, lcm_gt, lcm_ge, lcm_eq, lcm_R1, lcm_R2, inR, inL, true_and, and_true, eq_self, List.head?_cons, Option.some.injEq, Sum.inr.injEq, Sum.inl.injEq, false_or, or_false, true_or, or_true, Nat.reduceAdd, Nat.reduceLeDiff, Int.reduceLE, Int.reduceLT, Int.reduceEq, Int.reduceNeg, Int.reduceAdd, Int.reduceSub, Int.reduceMul, Int.reduceNe, ne_eq, not_false_eq_true, not_true_eq_false, false_implies, forall_const, Nat.le_refl, Nat.zero_le, implies_true, and_self]
  (repeat' (first | apply And.intro | intro _ | with_reducible refine Exists.intro _ (Exists.intro _ (And.intro r5 ?_)) | with_reducible refine Exists.intro _ (And.intro r5 ?_) | with_reducible refine Exists.intro _ (Exists.intro _ (And.intro r6 ?_)) | with_reducible refine Exists.intro _ (And.intro r6 ?_)))
  all_goals (try first | omega | trivial | (rfl; done) | assumption | (exfalso; omega) | (exact t) | (refine V.wk t ?_; simp [lle]; done))
set_option maxRecDepth 100000 in
theorem law_shape (C : LawC p s m meth c X b L xs cells slots) {σ : Sg} (h : Inv σ) {i : Int} (i0 : 0 ≤ i) (i1 : i + 4 ≤ L) (k : ∀ τ, InvW τ → VLx p l e s m below meth c X b cells slots 692 [some (aR 211), some (aR 5), some (aR 6), some (aI i)] [] τ) : VLx p l e s m below meth c X b cells slots 288 [some (aR 211), some (aR 5), some (aR 6), some (aI i)] [] σ := by
  have h1 := svx_R xs (i + 1)
  have h2 := svx_R xs (i + 2)
  have h3 := svx_R xs (i + 3)
  obtain ⟨z, ρ, τ, r5, r6, hI⟩ := c_shape h
  have t := k τ hI
  refine vL_law C 60 ?_
  simp only [↓S_L_law_1, ↓S_L_law_2, ↓S_L_law_3, ↓S_L_law_4, ↓S_L_law_5, ↓S_L_law_6, ↓S_L_law_7, ↓S_L_law_8, ↓S_L_law_9, ↓S_L_law_10, ↓S_L_law_11, ↓pI_c, ↓pL_c, ↓pR_c, ↓pC_I, ↓pC_R, ↓pE_n, ↓gI_0, ↓gI_s, ↓gL_0, ↓gL_s, ↓gR_0, ↓gR_s, ↓popN_0, ↓popN_s, ↓kl_I, ↓kl_L, ↓kl_R, ↓kl_n, ↓put1_0, ↓put1_s, ↓putk_0, ↓putk_s, ↓put2_0, ↓put2_s, ↓putl_0, ↓putl_s, ↓callK_0, ↓callK_1, ↓callK_2, cats_n, cats_c, catA_I, catA_L, catA_R, KL, LV, lval_f, ltag_f, llen_f, lcm_lt, lcm_le, lcm_gt, lcm_ge, lcm_eq, lcm_R1, lcm_R2, inR, inL, true_and, and_true, eq_self, List.head?_cons, Option.some.injEq, Sum.inr.injEq, Sum.inl.injEq, false_or, or_false, true_or, or_true, Nat.reduceAdd, Nat.reduceLeDiff, Int.reduceLE, Int.reduceLT, Int.reduceEq, Int.reduceNeg, Int.reduceAdd, Int.reduceSub, Int.reduceMul, Int.reduceNe, ne_eq, not_false_eq_true, not_true_eq_false, false_implies, forall_const, Nat.le_refl, Nat.zero_le, implies_true, and_self]
  (repeat' (first | apply And.intro | intro _ | with_reducible refine Exists.intro _ (Exists.intro _ (And.intro r5 ?_)) | with_reducible refine Exists.intro _ (And.intro r5 ?_) | with_reducible refine Exists.intro _ (Exists.intro _ (And.intro r6 ?_)) | with_reducible refine Exists.intro _ (And.intro r6 ?_)))
  all_goals (try first | omega | trivial | (rfl; done) | assumption | (exfalso; omega) | (exact t) | (refine V.wk t ?_; simp [lle]; done))
set_option maxRecDepth 100000 in
theorem law_mirror (C : LawC p s m meth c X b L xs cells slots) {σ : Sg} (h : Inv σ) {i : Int} (i0 : 0 ≤ i) (i1 : i + 4 ≤ L) (k : ∀ τ, InvW τ → VLx p l e s m below meth c X b cells slots 692 [some (aR 211), some (aR 5), some (aR 6), some (aI i)] [] τ) : VLx p l e s m below meth c X b cells slots 301 [some (aR 211), some (aR 5), some (aR 6), some (aI i)] [] σ := by
  have h1 := svx_R xs (i + 1)
  have h2 := svx_R xs (i + 2)
  have h3 := svx_R xs (i + 3)
  obtain ⟨z, ρ, τ, r5, r6, hI⟩ := c_mirror h
  have t := k τ hI
  refine vL_law C 60 ?_
  simp only [↓S_L_law_1, ↓S_L_law_2, ↓S_L_law_3, ↓S_L_law_4, ↓S_L_law_5, ↓S_L_law_6, ↓S_L_law_7, ↓S_L_law_8, ↓S_L_law_9, ↓S_L_law_10, ↓S_L_law_11, ↓pI_c, ↓pL_c, ↓pR_c, ↓pC_I, ↓pC_R, ↓pE_n, ↓gI_0, ↓gI_s, ↓gL_0, ↓gL_s, ↓gR_0, ↓gR_s, ↓popN_0, ↓popN_s, ↓kl_I, ↓kl_L, ↓kl_R, ↓kl_n, ↓put1_0, ↓put1_s, ↓putk_0, ↓putk_s, ↓put2_0, ↓put2_s, ↓putl_0, ↓putl_s, ↓callK_0, ↓callK_1, ↓callK_2, cats_n, cats_c, catA_I, catA_L, catA_R, KL, LV, lval_f, ltag_f, llen_f, lcm_lt, lcm_le, lcm_gt, lcm_ge, lcm_eq, lcm_R1, lcm_R2, inR, inL, true_and, and_true, eq_self, List.head?_cons, Option.some.injEq, Sum.inr.injEq, Sum.inl.injEq, false_or, or_false, true_or, or_true, Nat.reduceAdd, Nat.reduceLeDiff, Int.reduceLE, Int.reduceLT, Int.reduceEq, Int.reduceNeg, Int.reduceAdd, Int.reduceSub, Int.reduceMul, Int.reduceNe, ne_eq, not_false_eq_true, not_true_eq_false, false_implies, forall_const, Nat.le_refl, Nat.zero_le, implies_true, and_self]
  (repeat' (first | apply And.intro | intro _ | with_reducible refine Exists.intro _ (Exists.intro _ (And.intro r5 ?_)) | with_reducible refine Exists.intro _ (And.intro r5 ?_) | with_reducible refine Exists.intro _ (Exists.intro _ (And.intro r6 ?_)) | with_reducible refine Exists.intro _ (And.intro r6 ?_)))
  all_goals (try first | omega | trivial | (rfl; done) | assumption | (exfalso; omega) | (exact t) | (refine V.wk t ?_; simp [lle]; done))
set_option maxRecDepth 100000 in
theorem law_many (C : LawC p s m meth c X b L xs cells slots) {σ : Sg} (h : Inv σ) {i : Int} (i0 : 0 ≤ i) (i1 : i + 4 ≤ L) (k : ∀ τ, InvW τ → VLx p l e s m below meth c X b cells slots 692 [some (aR 211), some (aR 5), some (aR 6), some (aI i)] [] τ) : VLx p l e s m below meth c X b cells slots 314 [some (aR 211), some (aR 5), some (aR 6), some (aI i)] [] σ := by
  have h1 := svx_R xs (i + 1)
  have h2 := svx_R xs (i + 2)
  have h3 := svx_R xs (i + 3)
  obtain ⟨z, ρ, τ, r5, r6, hI⟩ := c_many h h1 h2 h3
  have t := k τ hI
  refine vL_law C 60 ?_
  simp only [↓S_L_law_1, ↓S_L_law_2, ↓S_L_law_3, ↓S_L_law_4, ↓S_L_law_5, ↓S_L_law_6, ↓S_L_law_7, ↓S_L_law_8, ↓S_L_law_9, ↓S_L_law_10, ↓S_L_law_11, ↓pI_c, ↓pL_c, ↓pR_c, ↓pC_I, ↓pC_R, ↓pE_n, ↓gI_0, ↓gI_s, ↓gL_0, ↓gL_s, ↓gR_0, ↓gR_s, ↓popN_0, ↓popN_s, ↓kl_I, ↓kl_L, ↓kl_R, ↓kl_n, ↓put1_0, ↓put1_s, ↓putk_0, ↓putk_s, ↓put2_0, ↓put2_s, ↓putl_0, ↓putl_s, ↓callK_0, ↓callK_1, ↓callK_2, cats_n, cats_c, catA_I, catA_L, catA_R, KL, LV, lval_f, ltag_f, llen_f, lcm_lt, lcm_le, lcm_gt, lcm_ge, lcm_eq, lcm_R1, lcm_R2, inR, inL, true_and, and_true, eq_self, List.head?_cons, Option.some.injEq, Sum.inr.injEq, Sum.inl.injEq, false_or, or_false, true_or, or_true, Nat.reduceAdd, Nat.reduceLeDiff, Int.reduceLE, Int.reduceLT, Int.reduceEq, Int.reduceNeg, Int.reduceAdd, Int.reduceSub, Int.reduceMul, Int.reduceNe, ne_eq, not_false_eq_true, not_true_eq_false, false_implies, forall_const, Nat.le_refl, Nat.zero_le, implies_true, and_self]
  (repeat' (first | apply And.intro | intro _ | with_reducible refine Exists.intro _ (Exists.intro _ (And.intro r5 ?_)) | with_reducible refine Exists.intro _ (And.intro r5 ?_) | with_reducible refine Exists.intro _ (Exists.intro _ (And.intro r6 ?_)) | with_reducible refine Exists.intro _ (And.intro r6 ?_)))
  all_goals (try first | omega | trivial | (rfl; done) | assumption | (exfalso; omega) | (exact t) | (refine V.wk t ?_; simp [lle]; done))
set_option maxRecDepth 100000 in
theorem law_row (C : LawC p s m meth c X b L xs cells slots) {σ : Sg} (h : Inv σ) {i : Int} (i0 : 0 ≤ i) (i1 : i + 4 ≤ L) (k : ∀ τ, InvW τ → VLx p l e s m below meth c X b cells slots 692 [some (aR 211), some (aR 5), some (aR 6), some (aI i)] [] τ) : VLx p l e s m below meth c X b cells slots 358 [some (aR 211), some (aR 5), some (aR 6), some (aI i)] [] σ := by
  have h1 := svx_R xs (i + 1)
  have h2 := svx_R xs (i + 2)
  have h3 := svx_R xs (i + 3)
  obtain ⟨z, ρ, τ, r5, r6, hI⟩ := c_row h (n := svx xs (i + 1)) (k := lor64 (lshl64 (svx xs (i + 2)) 32) (land64 (svx xs (i + 3)) 4294967295)) h1 (lor64_L _ _)
  have t := k τ hI
  refine vL_law C 60 ?_
  simp only [↓S_L_law_1, ↓S_L_law_2, ↓S_L_law_3, ↓S_L_law_4, ↓S_L_law_5, ↓S_L_law_6, ↓S_L_law_7, ↓S_L_law_8, ↓S_L_law_9, ↓S_L_law_10, ↓S_L_law_11, ↓pI_c, ↓pL_c, ↓pR_c, ↓pC_I, ↓pC_R, ↓pE_n, ↓gI_0, ↓gI_s, ↓gL_0, ↓gL_s, ↓gR_0, ↓gR_s, ↓popN_0, ↓popN_s, ↓kl_I, ↓kl_L, ↓kl_R, ↓kl_n, ↓put1_0, ↓put1_s, ↓putk_0, ↓putk_s, ↓put2_0, ↓put2_s, ↓putl_0, ↓putl_s, ↓callK_0, ↓callK_1, ↓callK_2, cats_n, cats_c, catA_I, catA_L, catA_R, KL, LV, lval_f, ltag_f, llen_f, lcm_lt, lcm_le, lcm_gt, lcm_ge, lcm_eq, lcm_R1, lcm_R2, inR, inL, true_and, and_true, eq_self, List.head?_cons, Option.some.injEq, Sum.inr.injEq, Sum.inl.injEq, false_or, or_false, true_or, or_true, Nat.reduceAdd, Nat.reduceLeDiff, Int.reduceLE, Int.reduceLT, Int.reduceEq, Int.reduceNeg, Int.reduceAdd, Int.reduceSub, Int.reduceMul, Int.reduceNe, ne_eq, not_false_eq_true, not_true_eq_false, false_implies, forall_const, Nat.le_refl, Nat.zero_le, implies_true, and_self]
  (repeat' (first | apply And.intro | intro _ | with_reducible refine Exists.intro _ (Exists.intro _ (And.intro r5 ?_)) | with_reducible refine Exists.intro _ (And.intro r5 ?_) | with_reducible refine Exists.intro _ (Exists.intro _ (And.intro r6 ?_)) | with_reducible refine Exists.intro _ (And.intro r6 ?_)))
  all_goals (try first | omega | trivial | (rfl; done) | assumption | (exfalso; omega) | (exact t) | (refine V.wk t ?_; simp [lle]; done))
set_option maxRecDepth 100000 in
theorem law_place (C : LawC p s m meth c X b L xs cells slots) {σ : Sg} (h : Inv σ) {i : Int} (i0 : 0 ≤ i) (i1 : i + 4 ≤ L) (k : ∀ τ, InvW τ → VLx p l e s m below meth c X b cells slots 692 [some (aR 211), some (aR 5), some (aR 6), some (aI i)] [] τ) : VLx p l e s m below meth c X b cells slots 421 [some (aR 211), some (aR 5), some (aR 6), some (aI i)] [] σ := by
  have h1 := svx_R xs (i + 1)
  have h2 := svx_R xs (i + 2)
  have h3 := svx_R xs (i + 3)
  obtain ⟨z, ρ, τ, r5, r6, hI⟩ := c_place h
  have t := k τ hI
  refine vL_law C 60 ?_
  simp only [↓S_L_law_1, ↓S_L_law_2, ↓S_L_law_3, ↓S_L_law_4, ↓S_L_law_5, ↓S_L_law_6, ↓S_L_law_7, ↓S_L_law_8, ↓S_L_law_9, ↓S_L_law_10, ↓S_L_law_11, ↓pI_c, ↓pL_c, ↓pR_c, ↓pC_I, ↓pC_R, ↓pE_n, ↓gI_0, ↓gI_s, ↓gL_0, ↓gL_s, ↓gR_0, ↓gR_s, ↓popN_0, ↓popN_s, ↓kl_I, ↓kl_L, ↓kl_R, ↓kl_n, ↓put1_0, ↓put1_s, ↓putk_0, ↓putk_s, ↓put2_0, ↓put2_s, ↓putl_0, ↓putl_s, ↓callK_0, ↓callK_1, ↓callK_2, cats_n, cats_c, catA_I, catA_L, catA_R, KL, LV, lval_f, ltag_f, llen_f, lcm_lt, lcm_le, lcm_gt, lcm_ge, lcm_eq, lcm_R1, lcm_R2, inR, inL, true_and, and_true, eq_self, List.head?_cons, Option.some.injEq, Sum.inr.injEq, Sum.inl.injEq, false_or, or_false, true_or, or_true, Nat.reduceAdd, Nat.reduceLeDiff, Int.reduceLE, Int.reduceLT, Int.reduceEq, Int.reduceNeg, Int.reduceAdd, Int.reduceSub, Int.reduceMul, Int.reduceNe, ne_eq, not_false_eq_true, not_true_eq_false, false_implies, forall_const, Nat.le_refl, Nat.zero_le, implies_true, and_self]
  (repeat' (first | apply And.intro | intro _ | with_reducible refine Exists.intro _ (Exists.intro _ (And.intro r5 ?_)) | with_reducible refine Exists.intro _ (And.intro r5 ?_) | with_reducible refine Exists.intro _ (Exists.intro _ (And.intro r6 ?_)) | with_reducible refine Exists.intro _ (And.intro r6 ?_)))
  all_goals (try first | omega | trivial | (rfl; done) | assumption | (exfalso; omega) | (exact t) | (refine V.wk t ?_; simp [lle]; done))
set_option maxRecDepth 100000 in
theorem law_worth (C : LawC p s m meth c X b L xs cells slots) {σ : Sg} (h : Inv σ) {i : Int} (i0 : 0 ≤ i) (i1 : i + 4 ≤ L) (k : ∀ τ, InvW τ → VLx p l e s m below meth c X b cells slots 692 [some (aR 211), some (aR 5), some (aR 6), some (aI i)] [] τ) : VLx p l e s m below meth c X b cells slots 435 [some (aR 211), some (aR 5), some (aR 6), some (aI i)] [] σ := by
  have h1 := svx_R xs (i + 1)
  have h2 := svx_R xs (i + 2)
  have h3 := svx_R xs (i + 3)
  obtain ⟨z, ρ, τ, r5, r6, hI⟩ := c_worth h h1
  have t := k τ hI
  refine vL_law C 60 ?_
  simp only [↓S_L_law_1, ↓S_L_law_2, ↓S_L_law_3, ↓S_L_law_4, ↓S_L_law_5, ↓S_L_law_6, ↓S_L_law_7, ↓S_L_law_8, ↓S_L_law_9, ↓S_L_law_10, ↓S_L_law_11, ↓pI_c, ↓pL_c, ↓pR_c, ↓pC_I, ↓pC_R, ↓pE_n, ↓gI_0, ↓gI_s, ↓gL_0, ↓gL_s, ↓gR_0, ↓gR_s, ↓popN_0, ↓popN_s, ↓kl_I, ↓kl_L, ↓kl_R, ↓kl_n, ↓put1_0, ↓put1_s, ↓putk_0, ↓putk_s, ↓put2_0, ↓put2_s, ↓putl_0, ↓putl_s, ↓callK_0, ↓callK_1, ↓callK_2, cats_n, cats_c, catA_I, catA_L, catA_R, KL, LV, lval_f, ltag_f, llen_f, lcm_lt, lcm_le, lcm_gt, lcm_ge, lcm_eq, lcm_R1, lcm_R2, inR, inL, true_and, and_true, eq_self, List.head?_cons, Option.some.injEq, Sum.inr.injEq, Sum.inl.injEq, false_or, or_false, true_or, or_true, Nat.reduceAdd, Nat.reduceLeDiff, Int.reduceLE, Int.reduceLT, Int.reduceEq, Int.reduceNeg, Int.reduceAdd, Int.reduceSub, Int.reduceMul, Int.reduceNe, ne_eq, not_false_eq_true, not_true_eq_false, false_implies, forall_const, Nat.le_refl, Nat.zero_le, implies_true, and_self]
  (repeat' (first | apply And.intro | intro _ | with_reducible refine Exists.intro _ (Exists.intro _ (And.intro r5 ?_)) | with_reducible refine Exists.intro _ (And.intro r5 ?_) | with_reducible refine Exists.intro _ (Exists.intro _ (And.intro r6 ?_)) | with_reducible refine Exists.intro _ (And.intro r6 ?_)))
  all_goals (try first | omega | trivial | (rfl; done) | assumption | (exfalso; omega) | (exact t) | (refine V.wk t ?_; simp [lle]; done))
set_option maxRecDepth 100000 in
theorem law_sign (C : LawC p s m meth c X b L xs cells slots) {σ : Sg} (h : Inv σ) {i : Int} (i0 : 0 ≤ i) (i1 : i + 4 ≤ L) (k : ∀ τ, InvW τ → VLx p l e s m below meth c X b cells slots 692 [some (aR 211), some (aR 5), some (aR 6), some (aI i)] [] τ) : VLx p l e s m below meth c X b cells slots 458 [some (aR 211), some (aR 5), some (aR 6), some (aI i)] [] σ := by
  have h1 := svx_R xs (i + 1)
  have h2 := svx_R xs (i + 2)
  have h3 := svx_R xs (i + 3)
  obtain ⟨z, ρ, τ, r5, r6, hI⟩ := c_sign h h1
  have t := k τ hI
  refine vL_law C 60 ?_
  simp only [↓S_L_law_1, ↓S_L_law_2, ↓S_L_law_3, ↓S_L_law_4, ↓S_L_law_5, ↓S_L_law_6, ↓S_L_law_7, ↓S_L_law_8, ↓S_L_law_9, ↓S_L_law_10, ↓S_L_law_11, ↓pI_c, ↓pL_c, ↓pR_c, ↓pC_I, ↓pC_R, ↓pE_n, ↓gI_0, ↓gI_s, ↓gL_0, ↓gL_s, ↓gR_0, ↓gR_s, ↓popN_0, ↓popN_s, ↓kl_I, ↓kl_L, ↓kl_R, ↓kl_n, ↓put1_0, ↓put1_s, ↓putk_0, ↓putk_s, ↓put2_0, ↓put2_s, ↓putl_0, ↓putl_s, ↓callK_0, ↓callK_1, ↓callK_2, cats_n, cats_c, catA_I, catA_L, catA_R, KL, LV, lval_f, ltag_f, llen_f, lcm_lt, lcm_le, lcm_gt, lcm_ge, lcm_eq, lcm_R1, lcm_R2, inR, inL, true_and, and_true, eq_self, List.head?_cons, Option.some.injEq, Sum.inr.injEq, Sum.inl.injEq, false_or, or_false, true_or, or_true, Nat.reduceAdd, Nat.reduceLeDiff, Int.reduceLE, Int.reduceLT, Int.reduceEq, Int.reduceNeg, Int.reduceAdd, Int.reduceSub, Int.reduceMul, Int.reduceNe, ne_eq, not_false_eq_true, not_true_eq_false, false_implies, forall_const, Nat.le_refl, Nat.zero_le, implies_true, and_self]
  (repeat' (first | apply And.intro | intro _ | with_reducible refine Exists.intro _ (Exists.intro _ (And.intro r5 ?_)) | with_reducible refine Exists.intro _ (And.intro r5 ?_) | with_reducible refine Exists.intro _ (Exists.intro _ (And.intro r6 ?_)) | with_reducible refine Exists.intro _ (And.intro r6 ?_)))
  all_goals (try first | omega | trivial | (rfl; done) | assumption | (exfalso; omega) | (exact t) | (refine V.wk t ?_; simp [lle]; done))
set_option maxRecDepth 100000 in
theorem law_draw (C : LawC p s m meth c X b L xs cells slots) {σ : Sg} (h : Inv σ) {i : Int} (i0 : 0 ≤ i) (i1 : i + 4 ≤ L) (k : ∀ τ, InvW τ → VLx p l e s m below meth c X b cells slots 692 [some (aR 211), some (aR 5), some (aR 6), some (aI i)] [] τ) : VLx p l e s m below meth c X b cells slots 481 [some (aR 211), some (aR 5), some (aR 6), some (aI i)] [] σ := by
  have h1 := svx_R xs (i + 1)
  have h2 := svx_R xs (i + 2)
  have h3 := svx_R xs (i + 3)
  obtain ⟨z, ρ, τ, r5, r6, hI⟩ := c_draw h
  have t := k τ hI
  refine vL_law C 60 ?_
  simp only [↓S_L_law_1, ↓S_L_law_2, ↓S_L_law_3, ↓S_L_law_4, ↓S_L_law_5, ↓S_L_law_6, ↓S_L_law_7, ↓S_L_law_8, ↓S_L_law_9, ↓S_L_law_10, ↓S_L_law_11, ↓pI_c, ↓pL_c, ↓pR_c, ↓pC_I, ↓pC_R, ↓pE_n, ↓gI_0, ↓gI_s, ↓gL_0, ↓gL_s, ↓gR_0, ↓gR_s, ↓popN_0, ↓popN_s, ↓kl_I, ↓kl_L, ↓kl_R, ↓kl_n, ↓put1_0, ↓put1_s, ↓putk_0, ↓putk_s, ↓put2_0, ↓put2_s, ↓putl_0, ↓putl_s, ↓callK_0, ↓callK_1, ↓callK_2, cats_n, cats_c, catA_I, catA_L, catA_R, KL, LV, lval_f, ltag_f, llen_f, lcm_lt, lcm_le, lcm_gt, lcm_ge, lcm_eq, lcm_R1, lcm_R2, inR, inL, true_and, and_true, eq_self, List.head?_cons, Option.some.injEq, Sum.inr.injEq, Sum.inl.injEq, false_or, or_false, true_or, or_true, Nat.reduceAdd, Nat.reduceLeDiff, Int.reduceLE, Int.reduceLT, Int.reduceEq, Int.reduceNeg, Int.reduceAdd, Int.reduceSub, Int.reduceMul, Int.reduceNe, ne_eq, not_false_eq_true, not_true_eq_false, false_implies, forall_const, Nat.le_refl, Nat.zero_le, implies_true, and_self]
  (repeat' (first | apply And.intro | intro _ | with_reducible refine Exists.intro _ (Exists.intro _ (And.intro r5 ?_)) | with_reducible refine Exists.intro _ (And.intro r5 ?_) | with_reducible refine Exists.intro _ (Exists.intro _ (And.intro r6 ?_)) | with_reducible refine Exists.intro _ (And.intro r6 ?_)))
  all_goals (try first | omega | trivial | (rfl; done) | assumption | (exfalso; omega) | (exact t) | (refine V.wk t ?_; simp [lle]; done))
set_option maxRecDepth 100000 in
theorem law_letter (C : LawC p s m meth c X b L xs cells slots) {σ : Sg} (h : Inv σ) {i : Int} (i0 : 0 ≤ i) (i1 : i + 4 ≤ L) (k : ∀ τ, InvW τ → VLx p l e s m below meth c X b cells slots 692 [some (aR 211), some (aR 5), some (aR 6), some (aI i)] [] τ) : VLx p l e s m below meth c X b cells slots 494 [some (aR 211), some (aR 5), some (aR 6), some (aI i)] [] σ := by
  have h1 := svx_R xs (i + 1)
  have h2 := svx_R xs (i + 2)
  have h3 := svx_R xs (i + 3)
  obtain ⟨z, ρ, τ, r5, r6, hI⟩ := c_letter h h1
  have t := k τ hI
  refine vL_law C 60 ?_
  simp only [↓S_L_law_1, ↓S_L_law_2, ↓S_L_law_3, ↓S_L_law_4, ↓S_L_law_5, ↓S_L_law_6, ↓S_L_law_7, ↓S_L_law_8, ↓S_L_law_9, ↓S_L_law_10, ↓S_L_law_11, ↓pI_c, ↓pL_c, ↓pR_c, ↓pC_I, ↓pC_R, ↓pE_n, ↓gI_0, ↓gI_s, ↓gL_0, ↓gL_s, ↓gR_0, ↓gR_s, ↓popN_0, ↓popN_s, ↓kl_I, ↓kl_L, ↓kl_R, ↓kl_n, ↓put1_0, ↓put1_s, ↓putk_0, ↓putk_s, ↓put2_0, ↓put2_s, ↓putl_0, ↓putl_s, ↓callK_0, ↓callK_1, ↓callK_2, cats_n, cats_c, catA_I, catA_L, catA_R, KL, LV, lval_f, ltag_f, llen_f, lcm_lt, lcm_le, lcm_gt, lcm_ge, lcm_eq, lcm_R1, lcm_R2, inR, inL, true_and, and_true, eq_self, List.head?_cons, Option.some.injEq, Sum.inr.injEq, Sum.inl.injEq, false_or, or_false, true_or, or_true, Nat.reduceAdd, Nat.reduceLeDiff, Int.reduceLE, Int.reduceLT, Int.reduceEq, Int.reduceNeg, Int.reduceAdd, Int.reduceSub, Int.reduceMul, Int.reduceNe, ne_eq, not_false_eq_true, not_true_eq_false, false_implies, forall_const, Nat.le_refl, Nat.zero_le, implies_true, and_self]
  (repeat' (first | apply And.intro | intro _ | with_reducible refine Exists.intro _ (Exists.intro _ (And.intro r5 ?_)) | with_reducible refine Exists.intro _ (And.intro r5 ?_) | with_reducible refine Exists.intro _ (Exists.intro _ (And.intro r6 ?_)) | with_reducible refine Exists.intro _ (And.intro r6 ?_)))
  all_goals (try first | omega | trivial | (rfl; done) | assumption | (exfalso; omega) | (exact t) | (refine V.wk t ?_; simp [lle]; done))
set_option maxRecDepth 100000 in
theorem law_wipe (C : LawC p s m meth c X b L xs cells slots) {σ : Sg} (h : Inv σ) {i : Int} (i0 : 0 ≤ i) (i1 : i + 4 ≤ L) (k : ∀ τ, InvW τ → VLx p l e s m below meth c X b cells slots 692 [some (aR 211), some (aR 5), some (aR 6), some (aI i)] [] τ) : VLx p l e s m below meth c X b cells slots 517 [some (aR 211), some (aR 5), some (aR 6), some (aI i)] [] σ := by
  have h1 := svx_R xs (i + 1)
  have h2 := svx_R xs (i + 2)
  have h3 := svx_R xs (i + 3)
  obtain ⟨z, ρ, τ, r5, r6, hI⟩ := c_wipe h
  have t := k τ hI
  refine vL_law C 60 ?_
  simp only [↓S_L_law_1, ↓S_L_law_2, ↓S_L_law_3, ↓S_L_law_4, ↓S_L_law_5, ↓S_L_law_6, ↓S_L_law_7, ↓S_L_law_8, ↓S_L_law_9, ↓S_L_law_10, ↓S_L_law_11, ↓pI_c, ↓pL_c, ↓pR_c, ↓pC_I, ↓pC_R, ↓pE_n, ↓gI_0, ↓gI_s, ↓gL_0, ↓gL_s, ↓gR_0, ↓gR_s, ↓popN_0, ↓popN_s, ↓kl_I, ↓kl_L, ↓kl_R, ↓kl_n, ↓put1_0, ↓put1_s, ↓putk_0, ↓putk_s, ↓put2_0, ↓put2_s, ↓putl_0, ↓putl_s, ↓callK_0, ↓callK_1, ↓callK_2, cats_n, cats_c, catA_I, catA_L, catA_R, KL, LV, lval_f, ltag_f, llen_f, lcm_lt, lcm_le, lcm_gt, lcm_ge, lcm_eq, lcm_R1, lcm_R2, inR, inL, true_and, and_true, eq_self, List.head?_cons, Option.some.injEq, Sum.inr.injEq, Sum.inl.injEq, false_or, or_false, true_or, or_true, Nat.reduceAdd, Nat.reduceLeDiff, Int.reduceLE, Int.reduceLT, Int.reduceEq, Int.reduceNeg, Int.reduceAdd, Int.reduceSub, Int.reduceMul, Int.reduceNe, ne_eq, not_false_eq_true, not_true_eq_false, false_implies, forall_const, Nat.le_refl, Nat.zero_le, implies_true, and_self]
  (repeat' (first | apply And.intro | intro _ | with_reducible refine Exists.intro _ (Exists.intro _ (And.intro r5 ?_)) | with_reducible refine Exists.intro _ (And.intro r5 ?_) | with_reducible refine Exists.intro _ (Exists.intro _ (And.intro r6 ?_)) | with_reducible refine Exists.intro _ (And.intro r6 ?_)))
  all_goals (try first | omega | trivial | (rfl; done) | assumption | (exfalso; omega) | (exact t) | (refine V.wk t ?_; simp [lle]; done))
set_option maxRecDepth 100000 in
theorem law_score (C : LawC p s m meth c X b L xs cells slots) {σ : Sg} (h : Inv σ) {i : Int} (i0 : 0 ≤ i) (i1 : i + 4 ≤ L) (k : ∀ τ, InvW τ → VLx p l e s m below meth c X b cells slots 692 [some (aR 211), some (aR 5), some (aR 6), some (aI i)] [] τ) : VLx p l e s m below meth c X b cells slots 530 [some (aR 211), some (aR 5), some (aR 6), some (aI i)] [] σ := by
  have h1 := svx_R xs (i + 1)
  have h2 := svx_R xs (i + 2)
  have h3 := svx_R xs (i + 3)
  obtain ⟨z, ρ, τ, r5, r6, hI⟩ := c_score h h1 h2 h3
  have t := k τ hI
  refine vL_law C 60 ?_
  simp only [↓S_L_law_1, ↓S_L_law_2, ↓S_L_law_3, ↓S_L_law_4, ↓S_L_law_5, ↓S_L_law_6, ↓S_L_law_7, ↓S_L_law_8, ↓S_L_law_9, ↓S_L_law_10, ↓S_L_law_11, ↓pI_c, ↓pL_c, ↓pR_c, ↓pC_I, ↓pC_R, ↓pE_n, ↓gI_0, ↓gI_s, ↓gL_0, ↓gL_s, ↓gR_0, ↓gR_s, ↓popN_0, ↓popN_s, ↓kl_I, ↓kl_L, ↓kl_R, ↓kl_n, ↓put1_0, ↓put1_s, ↓putk_0, ↓putk_s, ↓put2_0, ↓put2_s, ↓putl_0, ↓putl_s, ↓callK_0, ↓callK_1, ↓callK_2, cats_n, cats_c, catA_I, catA_L, catA_R, KL, LV, lval_f, ltag_f, llen_f, lcm_lt, lcm_le, lcm_gt, lcm_ge, lcm_eq, lcm_R1, lcm_R2, inR, inL, true_and, and_true, eq_self, List.head?_cons, Option.some.injEq, Sum.inr.injEq, Sum.inl.injEq, false_or, or_false, true_or, or_true, Nat.reduceAdd, Nat.reduceLeDiff, Int.reduceLE, Int.reduceLT, Int.reduceEq, Int.reduceNeg, Int.reduceAdd, Int.reduceSub, Int.reduceMul, Int.reduceNe, ne_eq, not_false_eq_true, not_true_eq_false, false_implies, forall_const, Nat.le_refl, Nat.zero_le, implies_true, and_self]
  (repeat' (first | apply And.intro | intro _ | with_reducible refine Exists.intro _ (Exists.intro _ (And.intro r5 ?_)) | with_reducible refine Exists.intro _ (And.intro r5 ?_) | with_reducible refine Exists.intro _ (Exists.intro _ (And.intro r6 ?_)) | with_reducible refine Exists.intro _ (And.intro r6 ?_)))
  all_goals (try first | omega | trivial | (rfl; done) | assumption | (exfalso; omega) | (exact t) | (refine V.wk t ?_; simp [lle]; done))
set_option maxRecDepth 100000 in
theorem law_set (C : LawC p s m meth c X b L xs cells slots) {σ : Sg} (h : Inv σ) {i : Int} (i0 : 0 ≤ i) (i1 : i + 4 ≤ L) (k : ∀ τ, InvW τ → VLx p l e s m below meth c X b cells slots 692 [some (aR 211), some (aR 5), some (aR 6), some (aI i)] [] τ) : VLx p l e s m below meth c X b cells slots 573 [some (aR 211), some (aR 5), some (aR 6), some (aI i)] [] σ := by
  have h1 := svx_R xs (i + 1)
  have h2 := svx_R xs (i + 2)
  have h3 := svx_R xs (i + 3)
  obtain ⟨z, ρ, τ, r5, r6, hI⟩ := c_set h h1 h2
  have t := k τ hI
  refine vL_law C 60 ?_
  simp only [↓S_L_law_1, ↓S_L_law_2, ↓S_L_law_3, ↓S_L_law_4, ↓S_L_law_5, ↓S_L_law_6, ↓S_L_law_7, ↓S_L_law_8, ↓S_L_law_9, ↓S_L_law_10, ↓S_L_law_11, ↓pI_c, ↓pL_c, ↓pR_c, ↓pC_I, ↓pC_R, ↓pE_n, ↓gI_0, ↓gI_s, ↓gL_0, ↓gL_s, ↓gR_0, ↓gR_s, ↓popN_0, ↓popN_s, ↓kl_I, ↓kl_L, ↓kl_R, ↓kl_n, ↓put1_0, ↓put1_s, ↓putk_0, ↓putk_s, ↓put2_0, ↓put2_s, ↓putl_0, ↓putl_s, ↓callK_0, ↓callK_1, ↓callK_2, cats_n, cats_c, catA_I, catA_L, catA_R, KL, LV, lval_f, ltag_f, llen_f, lcm_lt, lcm_le, lcm_gt, lcm_ge, lcm_eq, lcm_R1, lcm_R2, inR, inL, true_and, and_true, eq_self, List.head?_cons, Option.some.injEq, Sum.inr.injEq, Sum.inl.injEq, false_or, or_false, true_or, or_true, Nat.reduceAdd, Nat.reduceLeDiff, Int.reduceLE, Int.reduceLT, Int.reduceEq, Int.reduceNeg, Int.reduceAdd, Int.reduceSub, Int.reduceMul, Int.reduceNe, ne_eq, not_false_eq_true, not_true_eq_false, false_implies, forall_const, Nat.le_refl, Nat.zero_le, implies_true, and_self]
  (repeat' (first | apply And.intro | intro _ | with_reducible refine Exists.intro _ (Exists.intro _ (And.intro r5 ?_)) | with_reducible refine Exists.intro _ (And.intro r5 ?_) | with_reducible refine Exists.intro _ (Exists.intro _ (And.intro r6 ?_)) | with_reducible refine Exists.intro _ (And.intro r6 ?_)))
  all_goals (try first | omega | trivial | (rfl; done) | assumption | (exfalso; omega) | (exact t) | (refine V.wk t ?_; simp [lle]; done))
set_option maxRecDepth 100000 in
theorem law_best (C : LawC p s m meth c X b L xs cells slots) {σ : Sg} (h : Inv σ) {i : Int} (i0 : 0 ≤ i) (i1 : i + 4 ≤ L) (k : ∀ τ, InvW τ → VLx p l e s m below meth c X b cells slots 692 [some (aR 211), some (aR 5), some (aR 6), some (aI i)] [] τ) : VLx p l e s m below meth c X b cells slots 606 [some (aR 211), some (aR 5), some (aR 6), some (aI i)] [] σ := by
  have h1 := svx_R xs (i + 1)
  have h2 := svx_R xs (i + 2)
  have h3 := svx_R xs (i + 3)
  obtain ⟨z, ρ, τ, r5, r6, hI⟩ := c_best h
  have t := k τ hI
  refine vL_law C 60 ?_
  simp only [↓S_L_law_1, ↓S_L_law_2, ↓S_L_law_3, ↓S_L_law_4, ↓S_L_law_5, ↓S_L_law_6, ↓S_L_law_7, ↓S_L_law_8, ↓S_L_law_9, ↓S_L_law_10, ↓S_L_law_11, ↓pI_c, ↓pL_c, ↓pR_c, ↓pC_I, ↓pC_R, ↓pE_n, ↓gI_0, ↓gI_s, ↓gL_0, ↓gL_s, ↓gR_0, ↓gR_s, ↓popN_0, ↓popN_s, ↓kl_I, ↓kl_L, ↓kl_R, ↓kl_n, ↓put1_0, ↓put1_s, ↓putk_0, ↓putk_s, ↓put2_0, ↓put2_s, ↓putl_0, ↓putl_s, ↓callK_0, ↓callK_1, ↓callK_2, cats_n, cats_c, catA_I, catA_L, catA_R, KL, LV, lval_f, ltag_f, llen_f, lcm_lt, lcm_le, lcm_gt, lcm_ge, lcm_eq, lcm_R1, lcm_R2, inR, inL, true_and, and_true, eq_self, List.head?_cons, Option.some.injEq, Sum.inr.injEq, Sum.inl.injEq, false_or, or_false, true_or, or_true, Nat.reduceAdd, Nat.reduceLeDiff, Int.reduceLE, Int.reduceLT, Int.reduceEq, Int.reduceNeg, Int.reduceAdd, Int.reduceSub, Int.reduceMul, Int.reduceNe, ne_eq, not_false_eq_true, not_true_eq_false, false_implies, forall_const, Nat.le_refl, Nat.zero_le, implies_true, and_self]
  (repeat' (first | apply And.intro | intro _ | with_reducible refine Exists.intro _ (Exists.intro _ (And.intro r5 ?_)) | with_reducible refine Exists.intro _ (And.intro r5 ?_) | with_reducible refine Exists.intro _ (Exists.intro _ (And.intro r6 ?_)) | with_reducible refine Exists.intro _ (And.intro r6 ?_)))
  all_goals (try first | omega | trivial | (rfl; done) | assumption | (exfalso; omega) | (exact t) | (refine V.wk t ?_; simp [lle]; done))
set_option maxRecDepth 100000 in
theorem law_folds (C : LawC p s m meth c X b L xs cells slots) {σ : Sg} (h : Inv σ) {i : Int} (i0 : 0 ≤ i) (i1 : i + 4 ≤ L) (k : ∀ τ, InvW τ → VLx p l e s m below meth c X b cells slots 692 [some (aR 211), some (aR 5), some (aR 6), some (aI i)] [] τ) : VLx p l e s m below meth c X b cells slots 619 [some (aR 211), some (aR 5), some (aR 6), some (aI i)] [] σ := by
  have h1 := svx_R xs (i + 1)
  have h2 := svx_R xs (i + 2)
  have h3 := svx_R xs (i + 3)
  obtain ⟨z, ρ, τ, r5, r6, hI⟩ := c_folds h h1
  have t := k τ hI
  refine vL_law C 60 ?_
  simp only [↓S_L_law_1, ↓S_L_law_2, ↓S_L_law_3, ↓S_L_law_4, ↓S_L_law_5, ↓S_L_law_6, ↓S_L_law_7, ↓S_L_law_8, ↓S_L_law_9, ↓S_L_law_10, ↓S_L_law_11, ↓pI_c, ↓pL_c, ↓pR_c, ↓pC_I, ↓pC_R, ↓pE_n, ↓gI_0, ↓gI_s, ↓gL_0, ↓gL_s, ↓gR_0, ↓gR_s, ↓popN_0, ↓popN_s, ↓kl_I, ↓kl_L, ↓kl_R, ↓kl_n, ↓put1_0, ↓put1_s, ↓putk_0, ↓putk_s, ↓put2_0, ↓put2_s, ↓putl_0, ↓putl_s, ↓callK_0, ↓callK_1, ↓callK_2, cats_n, cats_c, catA_I, catA_L, catA_R, KL, LV, lval_f, ltag_f, llen_f, lcm_lt, lcm_le, lcm_gt, lcm_ge, lcm_eq, lcm_R1, lcm_R2, inR, inL, true_and, and_true, eq_self, List.head?_cons, Option.some.injEq, Sum.inr.injEq, Sum.inl.injEq, false_or, or_false, true_or, or_true, Nat.reduceAdd, Nat.reduceLeDiff, Int.reduceLE, Int.reduceLT, Int.reduceEq, Int.reduceNeg, Int.reduceAdd, Int.reduceSub, Int.reduceMul, Int.reduceNe, ne_eq, not_false_eq_true, not_true_eq_false, false_implies, forall_const, Nat.le_refl, Nat.zero_le, implies_true, and_self]
  (repeat' (first | apply And.intro | intro _ | with_reducible refine Exists.intro _ (Exists.intro _ (And.intro r5 ?_)) | with_reducible refine Exists.intro _ (And.intro r5 ?_) | with_reducible refine Exists.intro _ (Exists.intro _ (And.intro r6 ?_)) | with_reducible refine Exists.intro _ (And.intro r6 ?_)))
  all_goals (try first | omega | trivial | (rfl; done) | assumption | (exfalso; omega) | (exact t) | (refine V.wk t ?_; simp [lle]; done))
set_option maxRecDepth 100000 in
theorem law_fold (C : LawC p s m meth c X b L xs cells slots) {σ : Sg} (h : Inv σ) {i : Int} (i0 : 0 ≤ i) (i1 : i + 4 ≤ L) (k : ∀ τ, InvW τ → VLx p l e s m below meth c X b cells slots 692 [some (aR 211), some (aR 5), some (aR 6), some (aI i)] [] τ) : VLx p l e s m below meth c X b cells slots 643 [some (aR 211), some (aR 5), some (aR 6), some (aI i)] [] σ := by
  have h1 := svx_R xs (i + 1)
  have h2 := svx_R xs (i + 2)
  have h3 := svx_R xs (i + 3)
  obtain ⟨z, ρ, τ, r5, r6, hI⟩ := c_fold h
  have t := k τ hI
  refine vL_law C 60 ?_
  simp only [↓S_L_law_1, ↓S_L_law_2, ↓S_L_law_3, ↓S_L_law_4, ↓S_L_law_5, ↓S_L_law_6, ↓S_L_law_7, ↓S_L_law_8, ↓S_L_law_9, ↓S_L_law_10, ↓S_L_law_11, ↓pI_c, ↓pL_c, ↓pR_c, ↓pC_I, ↓pC_R, ↓pE_n, ↓gI_0, ↓gI_s, ↓gL_0, ↓gL_s, ↓gR_0, ↓gR_s, ↓popN_0, ↓popN_s, ↓kl_I, ↓kl_L, ↓kl_R, ↓kl_n, ↓put1_0, ↓put1_s, ↓putk_0, ↓putk_s, ↓put2_0, ↓put2_s, ↓putl_0, ↓putl_s, ↓callK_0, ↓callK_1, ↓callK_2, cats_n, cats_c, catA_I, catA_L, catA_R, KL, LV, lval_f, ltag_f, llen_f, lcm_lt, lcm_le, lcm_gt, lcm_ge, lcm_eq, lcm_R1, lcm_R2, inR, inL, true_and, and_true, eq_self, List.head?_cons, Option.some.injEq, Sum.inr.injEq, Sum.inl.injEq, false_or, or_false, true_or, or_true, Nat.reduceAdd, Nat.reduceLeDiff, Int.reduceLE, Int.reduceLT, Int.reduceEq, Int.reduceNeg, Int.reduceAdd, Int.reduceSub, Int.reduceMul, Int.reduceNe, ne_eq, not_false_eq_true, not_true_eq_false, false_implies, forall_const, Nat.le_refl, Nat.zero_le, implies_true, and_self]
  (repeat' (first | apply And.intro | intro _ | with_reducible refine Exists.intro _ (Exists.intro _ (And.intro r5 ?_)) | with_reducible refine Exists.intro _ (And.intro r5 ?_) | with_reducible refine Exists.intro _ (Exists.intro _ (And.intro r6 ?_)) | with_reducible refine Exists.intro _ (And.intro r6 ?_)))
  all_goals (try first | omega | trivial | (rfl; done) | assumption | (exfalso; omega) | (exact t) | (refine V.wk t ?_; simp [lle]; done))
set_option maxRecDepth 100000 in
theorem law_judge (C : LawC p s m meth c X b L xs cells slots) {σ : Sg} (h : Inv σ) {i : Int} (i0 : 0 ≤ i) (i1 : i + 4 ≤ L) (k : ∀ τ, InvW τ → VLx p l e s m below meth c X b cells slots 692 [some (aR 211), some (aR 5), some (aR 6), some (aI i)] [] τ) : VLx p l e s m below meth c X b cells slots 656 [some (aR 211), some (aR 5), some (aR 6), some (aI i)] [] σ := by
  have h1 := svx_R xs (i + 1)
  have h2 := svx_R xs (i + 2)
  have h3 := svx_R xs (i + 3)
  obtain ⟨z, ρ, τ, r5, r6, hI⟩ := c_judge h
  have t := k τ hI
  refine vL_law C 60 ?_
  simp only [↓S_L_law_1, ↓S_L_law_2, ↓S_L_law_3, ↓S_L_law_4, ↓S_L_law_5, ↓S_L_law_6, ↓S_L_law_7, ↓S_L_law_8, ↓S_L_law_9, ↓S_L_law_10, ↓S_L_law_11, ↓pI_c, ↓pL_c, ↓pR_c, ↓pC_I, ↓pC_R, ↓pE_n, ↓gI_0, ↓gI_s, ↓gL_0, ↓gL_s, ↓gR_0, ↓gR_s, ↓popN_0, ↓popN_s, ↓kl_I, ↓kl_L, ↓kl_R, ↓kl_n, ↓put1_0, ↓put1_s, ↓putk_0, ↓putk_s, ↓put2_0, ↓put2_s, ↓putl_0, ↓putl_s, ↓callK_0, ↓callK_1, ↓callK_2, cats_n, cats_c, catA_I, catA_L, catA_R, KL, LV, lval_f, ltag_f, llen_f, lcm_lt, lcm_le, lcm_gt, lcm_ge, lcm_eq, lcm_R1, lcm_R2, inR, inL, true_and, and_true, eq_self, List.head?_cons, Option.some.injEq, Sum.inr.injEq, Sum.inl.injEq, false_or, or_false, true_or, or_true, Nat.reduceAdd, Nat.reduceLeDiff, Int.reduceLE, Int.reduceLT, Int.reduceEq, Int.reduceNeg, Int.reduceAdd, Int.reduceSub, Int.reduceMul, Int.reduceNe, ne_eq, not_false_eq_true, not_true_eq_false, false_implies, forall_const, Nat.le_refl, Nat.zero_le, implies_true, and_self]
  (repeat' (first | apply And.intro | intro _ | with_reducible refine Exists.intro _ (Exists.intro _ (And.intro r5 ?_)) | with_reducible refine Exists.intro _ (And.intro r5 ?_) | with_reducible refine Exists.intro _ (Exists.intro _ (And.intro r6 ?_)) | with_reducible refine Exists.intro _ (And.intro r6 ?_)))
  all_goals (try first | omega | trivial | (rfl; done) | assumption | (exfalso; omega) | (exact t) | (refine V.wk t ?_; simp [lle]; done))
set_option maxRecDepth 100000 in
theorem law_count (C : LawC p s m meth c X b L xs cells slots) {σ : Sg} (h : Inv σ) {i : Int} (i0 : 0 ≤ i) (i1 : i + 4 ≤ L) (k : ∀ τ, InvW τ → VLx p l e s m below meth c X b cells slots 692 [some (aR 211), some (aR 5), some (aR 6), some (aI i)] [] τ) : VLx p l e s m below meth c X b cells slots 669 [some (aR 211), some (aR 5), some (aR 6), some (aI i)] [] σ := by
  have h1 := svx_R xs (i + 1)
  have h2 := svx_R xs (i + 2)
  have h3 := svx_R xs (i + 3)
  obtain ⟨z, ρ, τ, r5, r6, hI⟩ := c_count h h1
  have t := k τ hI
  refine vL_law C 60 ?_
  simp only [↓S_L_law_1, ↓S_L_law_2, ↓S_L_law_3, ↓S_L_law_4, ↓S_L_law_5, ↓S_L_law_6, ↓S_L_law_7, ↓S_L_law_8, ↓S_L_law_9, ↓S_L_law_10, ↓S_L_law_11, ↓pI_c, ↓pL_c, ↓pR_c, ↓pC_I, ↓pC_R, ↓pE_n, ↓gI_0, ↓gI_s, ↓gL_0, ↓gL_s, ↓gR_0, ↓gR_s, ↓popN_0, ↓popN_s, ↓kl_I, ↓kl_L, ↓kl_R, ↓kl_n, ↓put1_0, ↓put1_s, ↓putk_0, ↓putk_s, ↓put2_0, ↓put2_s, ↓putl_0, ↓putl_s, ↓callK_0, ↓callK_1, ↓callK_2, cats_n, cats_c, catA_I, catA_L, catA_R, KL, LV, lval_f, ltag_f, llen_f, lcm_lt, lcm_le, lcm_gt, lcm_ge, lcm_eq, lcm_R1, lcm_R2, inR, inL, true_and, and_true, eq_self, List.head?_cons, Option.some.injEq, Sum.inr.injEq, Sum.inl.injEq, false_or, or_false, true_or, or_true, Nat.reduceAdd, Nat.reduceLeDiff, Int.reduceLE, Int.reduceLT, Int.reduceEq, Int.reduceNeg, Int.reduceAdd, Int.reduceSub, Int.reduceMul, Int.reduceNe, ne_eq, not_false_eq_true, not_true_eq_false, false_implies, forall_const, Nat.le_refl, Nat.zero_le, implies_true, and_self]
  (repeat' (first | apply And.intro | intro _ | with_reducible refine Exists.intro _ (Exists.intro _ (And.intro r5 ?_)) | with_reducible refine Exists.intro _ (And.intro r5 ?_) | with_reducible refine Exists.intro _ (Exists.intro _ (And.intro r6 ?_)) | with_reducible refine Exists.intro _ (And.intro r6 ?_)))
  all_goals (try first | omega | trivial | (rfl; done) | assumption | (exfalso; omega) | (exact t) | (refine V.wk t ?_; simp [lle]; done))
set_option maxRecDepth 100000 in
theorem law_turn (C : LawC p s m meth c X b L xs cells slots) {σ : Sg} (h : Inv σ) {i : Int} (i0 : 0 ≤ i) (i1 : i + 4 ≤ L) (k : ∀ τ, InvW τ → VLx p l e s m below meth c X b cells slots 692 [some (aR 211), some (aR 5), some (aR 6), some (aI i)] [] τ) : VLx p l e s m below meth c X b cells slots 18 [some (aR 211), some (aR 5), some (aR 6), some (aI i)] [] σ := by
  have hL : L ≤ 2048 := C.2.2.2.2.2.2.2.2.2
  have hx := iand31 (svx xs i)
  have hd := k σ h.w
  have t0 := law_points C h i0 i1 k
  have t1 := law_join C h i0 i1 k
  have t2 := law_part C h i0 i1 k
  have t3 := law_at C h i0 i1 k
  have t4 := law_number C h i0 i1 k
  have t5 := law_height C h i0 i1 k
  have t6 := law_shape C h i0 i1 k
  have t7 := law_mirror C h i0 i1 k
  have t8 := law_many C h i0 i1 k
  have t9 := law_row C h i0 i1 k
  have t10 := law_place C h i0 i1 k
  have t11 := law_worth C h i0 i1 k
  have t12 := law_sign C h i0 i1 k
  have t13 := law_draw C h i0 i1 k
  have t14 := law_letter C h i0 i1 k
  have t15 := law_wipe C h i0 i1 k
  have t16 := law_score C h i0 i1 k
  have t17 := law_set C h i0 i1 k
  have t18 := law_best C h i0 i1 k
  have t19 := law_folds C h i0 i1 k
  have t20 := law_fold C h i0 i1 k
  have t21 := law_judge C h i0 i1 k
  have t22 := law_count C h i0 i1 k
  refine vL_law C 60 ?_
  simp only [↓S_L_law_1, ↓S_L_law_2, ↓S_L_law_3, ↓S_L_law_4, ↓S_L_law_5, ↓S_L_law_6, ↓S_L_law_7, ↓S_L_law_8, ↓S_L_law_9, ↓S_L_law_10, ↓S_L_law_11, ↓pI_c, ↓pL_c, ↓pR_c, ↓pC_I, ↓pC_R, ↓pE_n, ↓gI_0, ↓gI_s, ↓gL_0, ↓gL_s, ↓gR_0, ↓gR_s, ↓popN_0, ↓popN_s, ↓kl_I, ↓kl_L, ↓kl_R, ↓kl_n, ↓put1_0, ↓put1_s, ↓putk_0, ↓putk_s, ↓put2_0, ↓put2_s, ↓putl_0, ↓putl_s, ↓callK_0, ↓callK_1, ↓callK_2, cats_n, cats_c, catA_I, catA_L, catA_R, KL, LV, lval_f, ltag_f, llen_f, lcm_lt, lcm_le, lcm_gt, lcm_ge, lcm_eq, lcm_R1, lcm_R2, inR, inL, true_and, and_true, eq_self, List.head?_cons, Option.some.injEq, Sum.inr.injEq, Sum.inl.injEq, false_or, or_false, true_or, or_true, Nat.reduceAdd, Nat.reduceLeDiff, Int.reduceLE, Int.reduceLT, Int.reduceEq, Int.reduceNeg, Int.reduceAdd, Int.reduceSub, Int.reduceMul, Int.reduceNe, ne_eq, not_false_eq_true, not_true_eq_false, false_implies, forall_const, Nat.le_refl, Nat.zero_le, implies_true, and_self]
  generalize iand32 (svx xs i) 31 = x at hx ⊢
  (repeat' (first | apply And.intro | intro _))
  all_goals (try first | omega | trivial | (rfl; done) | assumption | (exfalso; omega) | (exact hd) | (refine V.wk hd ?_; simp [lle]; done) | (exact t0) | (refine V.wk t0 ?_; simp [lle]; done) | (exact t1) | (refine V.wk t1 ?_; simp [lle]; done) | (exact t2) | (refine V.wk t2 ?_; simp [lle]; done) | (exact t3) | (refine V.wk t3 ?_; simp [lle]; done) | (exact t4) | (refine V.wk t4 ?_; simp [lle]; done) | (exact t5) | (refine V.wk t5 ?_; simp [lle]; done) | (exact t6) | (refine V.wk t6 ?_; simp [lle]; done) | (exact t7) | (refine V.wk t7 ?_; simp [lle]; done) | (exact t8) | (refine V.wk t8 ?_; simp [lle]; done) | (exact t9) | (refine V.wk t9 ?_; simp [lle]; done) | (exact t10) | (refine V.wk t10 ?_; simp [lle]; done) | (exact t11) | (refine V.wk t11 ?_; simp [lle]; done) | (exact t12) | (refine V.wk t12 ?_; simp [lle]; done) | (exact t13) | (refine V.wk t13 ?_; simp [lle]; done) | (exact t14) | (refine V.wk t14 ?_; simp [lle]; done) | (exact t15) | (refine V.wk t15 ?_; simp [lle]; done) | (exact t16) | (refine V.wk t16 ?_; simp [lle]; done) | (exact t17) | (refine V.wk t17 ?_; simp [lle]; done) | (exact t18) | (refine V.wk t18 ?_; simp [lle]; done) | (exact t19) | (refine V.wk t19 ?_; simp [lle]; done) | (exact t20) | (refine V.wk t20 ?_; simp [lle]; done) | (exact t21) | (refine V.wk t21 ?_; simp [lle]; done) | (exact t22) | (refine V.wk t22 ?_; simp [lle]; done))
set_option maxRecDepth 100000 in
/-- the law's loop: whatever the script holds, it comes to its end with 1 -/
theorem law_loop (C : LawC p s m meth c X b L xs cells slots) : ∀ (k : Nat) (i : Int) (σ : Sg), Inv σ → 0 ≤ i → i ≤ 2052 → (L : Int) < i + k → VLx p l e s m below meth c X b cells slots 18 [some (aR 211), some (aR 5), some (aR 6), some (aI i)] [] σ := by
  intro k
  have hL : L ≤ 2048 := C.2.2.2.2.2.2.2.2.2
  induction k with
  | zero =>
    intro i σ h i0 i2 i1
    refine vL_law C 60 ?_
    simp only [↓S_L_law_1, ↓S_L_law_2, ↓S_L_law_3, ↓S_L_law_4, ↓S_L_law_5, ↓S_L_law_6, ↓S_L_law_7, ↓S_L_law_8, ↓S_L_law_9, ↓S_L_law_10, ↓S_L_law_11, ↓pI_c, ↓pL_c, ↓pR_c, ↓pC_I, ↓pC_R, ↓pE_n, ↓gI_0, ↓gI_s, ↓gL_0, ↓gL_s, ↓gR_0, ↓gR_s, ↓popN_0, ↓popN_s, ↓kl_I, ↓kl_L, ↓kl_R, ↓kl_n, ↓put1_0, ↓put1_s, ↓putk_0, ↓putk_s, ↓put2_0, ↓put2_s, ↓putl_0, ↓putl_s, ↓callK_0, ↓callK_1, ↓callK_2, cats_n, cats_c, catA_I, catA_L, catA_R, KL, LV, lval_f, ltag_f, llen_f, lcm_lt, lcm_le, lcm_gt, lcm_ge, lcm_eq, lcm_R1, lcm_R2, inR, inL, true_and, and_true, eq_self, List.head?_cons, Option.some.injEq, Sum.inr.injEq, Sum.inl.injEq, false_or, or_false, true_or, or_true, Nat.reduceAdd, Nat.reduceLeDiff, Int.reduceLE, Int.reduceLT, Int.reduceEq, Int.reduceNeg, Int.reduceAdd, Int.reduceSub, Int.reduceMul, Int.reduceNe, ne_eq, not_false_eq_true, not_true_eq_false, false_implies, forall_const, Nat.le_refl, Nat.zero_le, implies_true, and_self]
    (repeat' (first | apply And.intro | intro _))
    all_goals (try first | omega | trivial | (rfl; done) | assumption | (exfalso; omega))
  | succ k ih =>
    intro i σ h i0 i2 i1
    by_cases c0 : i + 4 ≤ L
    · refine law_turn C h i0 c0 (fun τ hI => ?_)
      obtain ⟨τ', hI', en⟩ := hI.norm
      obtain ⟨-, t0⟩ := ih (i + 4) τ' hI' (by omega) (by omega) (by omega)
      have t : VLx p l e s m below meth c X b cells slots 18 [some (aR 211), some (aR 5), some (aR 6), some (aI (i + 4))] [] τ := ⟨(), fun H locs la hP hS hl => t0 H locs la (mkW_norm en hP) hS hl⟩
      refine vL_law C 60 ?_
      simp only [↓S_L_law_1, ↓S_L_law_2, ↓S_L_law_3, ↓S_L_law_4, ↓S_L_law_5, ↓S_L_law_6, ↓S_L_law_7, ↓S_L_law_8, ↓S_L_law_9, ↓S_L_law_10, ↓S_L_law_11, ↓pI_c, ↓pL_c, ↓pR_c, ↓pC_I, ↓pC_R, ↓pE_n, ↓gI_0, ↓gI_s, ↓gL_0, ↓gL_s, ↓gR_0, ↓gR_s, ↓popN_0, ↓popN_s, ↓kl_I, ↓kl_L, ↓kl_R, ↓kl_n, ↓put1_0, ↓put1_s, ↓putk_0, ↓putk_s, ↓put2_0, ↓put2_s, ↓putl_0, ↓putl_s, ↓callK_0, ↓callK_1, ↓callK_2, cats_n, cats_c, catA_I, catA_L, catA_R, KL, LV, lval_f, ltag_f, llen_f, lcm_lt, lcm_le, lcm_gt, lcm_ge, lcm_eq, lcm_R1, lcm_R2, inR, inL, true_and, and_true, eq_self, List.head?_cons, Option.some.injEq, Sum.inr.injEq, Sum.inl.injEq, false_or, or_false, true_or, or_true, Nat.reduceAdd, Nat.reduceLeDiff, Int.reduceLE, Int.reduceLT, Int.reduceEq, Int.reduceNeg, Int.reduceAdd, Int.reduceSub, Int.reduceMul, Int.reduceNe, ne_eq, not_false_eq_true, not_true_eq_false, false_implies, forall_const, Nat.le_refl, Nat.zero_le, implies_true, and_self]
      (repeat' (first | apply And.intro | intro _))
      all_goals (try first | omega | trivial | (rfl; done) | assumption | (exfalso; omega) | (exact t) | (refine V.wk t ?_; simp [lle]; done))
    · refine vL_law C 60 ?_
      simp only [↓S_L_law_1, ↓S_L_law_2, ↓S_L_law_3, ↓S_L_law_4, ↓S_L_law_5, ↓S_L_law_6, ↓S_L_law_7, ↓S_L_law_8, ↓S_L_law_9, ↓S_L_law_10, ↓S_L_law_11, ↓pI_c, ↓pL_c, ↓pR_c, ↓pC_I, ↓pC_R, ↓pE_n, ↓gI_0, ↓gI_s, ↓gL_0, ↓gL_s, ↓gR_0, ↓gR_s, ↓popN_0, ↓popN_s, ↓kl_I, ↓kl_L, ↓kl_R, ↓kl_n, ↓put1_0, ↓put1_s, ↓putk_0, ↓putk_s, ↓put2_0, ↓put2_s, ↓putl_0, ↓putl_s, ↓callK_0, ↓callK_1, ↓callK_2, cats_n, cats_c, catA_I, catA_L, catA_R, KL, LV, lval_f, ltag_f, llen_f, lcm_lt, lcm_le, lcm_gt, lcm_ge, lcm_eq, lcm_R1, lcm_R2, inR, inL, true_and, and_true, eq_self, List.head?_cons, Option.some.injEq, Sum.inr.injEq, Sum.inl.injEq, false_or, or_false, true_or, or_true, Nat.reduceAdd, Nat.reduceLeDiff, Int.reduceLE, Int.reduceLT, Int.reduceEq, Int.reduceNeg, Int.reduceAdd, Int.reduceSub, Int.reduceMul, Int.reduceNe, ne_eq, not_false_eq_true, not_true_eq_false, false_implies, forall_const, Nat.le_refl, Nat.zero_le, implies_true, and_self]
      (repeat' (first | apply And.intro | intro _))
      all_goals (try first | omega | trivial | (rfl; done) | assumption | (exfalso; omega))
end LAWS

/-! the model's strand -/
def msc (σ : Sg) (a b : Int) : Int := σ 29 (4 * σ 28 a + σ 28 b)
def mmj (σ : Sg) (a b : Int) : Bool := decide (σ 6 7 < b - a) && decide (msc σ a b ≠ 21)
def WM (σ : Sg) : Prop := (0 ≤ σ 6 4 ∧ σ 6 4 ≤ 24) ∧ (∀ i, 0 ≤ i → i < σ 6 4 → 0 ≤ σ 28 i ∧ σ 28 i < 4) ∧ (0 ≤ σ 6 7 ∧ σ 6 7 ≤ 8) ∧ (-20 ≤ σ 6 8 ∧ σ 6 8 ≤ 20) ∧ (∀ x, 0 ≤ x → x < 16 → -20 ≤ σ 29 x ∧ σ 29 x ≤ 21)
theorem WM.sc {σ : Sg} (h : WM σ) {a b : Int} (a0 : 0 ≤ a) (a1 : a < σ 6 4) (b0 : 0 ≤ b) (b1 : b < σ 6 4) : -20 ≤ msc σ a b ∧ msc σ a b ≤ 21 := by
  have ha := h.2.1 a a0 a1
  have hb := h.2.1 b b0 b1
  exact h.2.2.2.2 _ (by omega) (by omega)
theorem mmj_t {σ : Sg} {a b : Int} (h : mmj σ a b = true) : σ 6 7 < b - a ∧ msc σ a b ≠ 21 := by
  unfold mmj at h
  rw [Bool.and_eq_true] at h
  exact ⟨of_decide_eq_true h.1, of_decide_eq_true h.2⟩
theorem mmj_i {σ : Sg} {a b : Int} (h : σ 6 7 < b - a ∧ msc σ a b ≠ 21) : mmj σ a b = true := by
  unfold mmj
  rw [Bool.and_eq_true]
  exact ⟨decide_eq_true h.1, decide_eq_true h.2⟩
abbrev mT0 (σ : Sg) (a e : Int) : Int := σ 35 ((25 * a + e) * 2 + 0)
abbrev mT1 (σ : Sg) (a e : Int) : Int := σ 35 ((25 * a + e) * 2 + 1)
abbrev mW0 (σ : Sg) (a e : Int) : Int := σ 36 ((25 * a + e) * 2 + 0)
abbrev mW1 (σ : Sg) (a e : Int) : Int := σ 36 ((25 * a + e) * 2 + 1)
abbrev mA (σ : Sg) (a e : Int) : Int := σ 37 (25 * a + e)
set_option maxRecDepth 100000 in
theorem r_X6_mayJoin (D : Nat) (σ : Sg) (a b : Int) (h : WM σ) (a0 : 0 ≤ a) (a1 : a < σ 6 4) (b0 : 0 ≤ b) (b1 : b < σ 6 4) : Ret (D + 1) miX6_mayJoin [aR 6, aI a, aI b] σ (some (aI (if mmj σ a b = true then 1 else 0))) σ := by
  have hn := h.1
  have hg := h.2.2.1
  have hs := h.sc a0 a1 b0 b1
  have ha := h.2.1 a a0 a1
  have hb := h.2.1 b b0 b1
  by_cases c : mmj σ a b = true
  · have hc := mmj_t c
    rw [if_pos c]
    unfold msc at hc hs
    refine Ret.of 6 [some (aR 6), some (aI a), some (aI b)] rfl (by decide) rfl (Nat.le_of_ble_eq_true rfl) ?_
    refine vX6_mayJoin 60 ?_
    simp only [↓S_X6_mayJoin, ↓pI_c, ↓pL_c, ↓pR_c, ↓pC_I, ↓pC_R, ↓pE_n, ↓gI_0, ↓gI_s, ↓gL_0, ↓gL_s, ↓gR_0, ↓gR_s, ↓popN_0, ↓popN_s, ↓kl_I, ↓kl_L, ↓kl_R, ↓kl_n, ↓put1_0, ↓put1_s, ↓putk_0, ↓putk_s, ↓put2_0, ↓put2_s, ↓putl_0, ↓putl_s, ↓callK_0, ↓callK_1, ↓callK_2, cats_n, cats_c, catA_I, catA_L, catA_R, KL, LV, lval_f, ltag_f, llen_f, lcm_lt, lcm_le, lcm_gt, lcm_ge, lcm_eq, lcm_R1, lcm_R2, inR, inL, true_and, and_true, eq_self, List.head?_cons, Option.some.injEq, Sum.inr.injEq, Sum.inl.injEq, false_or, or_false, true_or, or_true, Nat.reduceAdd, Nat.reduceLeDiff, Int.reduceLE, Int.reduceLT, Int.reduceEq, Int.reduceNeg, Int.reduceAdd, Int.reduceSub, Int.reduceMul, Int.reduceNe, ne_eq, not_false_eq_true, not_true_eq_false, false_implies, forall_const, Nat.le_refl, Nat.zero_le, implies_true, and_self]
    (repeat' (first | apply And.intro | intro _))
    all_goals (try first | omega | trivial | (rfl; done) | assumption | (exfalso; omega))
  · have hc : ¬ (σ 6 7 < b - a ∧ msc σ a b ≠ 21) := fun z => c (mmj_i z)
    rw [if_neg c]
    unfold msc at hc hs
    refine Ret.of 6 [some (aR 6), some (aI a), some (aI b)] rfl (by decide) rfl (Nat.le_of_ble_eq_true rfl) ?_
    refine vX6_mayJoin 60 ?_
    simp only [↓S_X6_mayJoin, ↓pI_c, ↓pL_c, ↓pR_c, ↓pC_I, ↓pC_R, ↓pE_n, ↓gI_0, ↓gI_s, ↓gL_0, ↓gL_s, ↓gR_0, ↓gR_s, ↓popN_0, ↓popN_s, ↓kl_I, ↓kl_L, ↓kl_R, ↓kl_n, ↓put1_0, ↓put1_s, ↓putk_0, ↓putk_s, ↓put2_0, ↓put2_s, ↓putl_0, ↓putl_s, ↓callK_0, ↓callK_1, ↓callK_2, cats_n, cats_c, catA_I, catA_L, catA_R, KL, LV, lval_f, ltag_f, llen_f, lcm_lt, lcm_le, lcm_gt, lcm_ge, lcm_eq, lcm_R1, lcm_R2, inR, inL, true_and, and_true, eq_self, List.head?_cons, Option.some.injEq, Sum.inr.injEq, Sum.inl.injEq, false_or, or_false, true_or, or_true, Nat.reduceAdd, Nat.reduceLeDiff, Int.reduceLE, Int.reduceLT, Int.reduceEq, Int.reduceNeg, Int.reduceAdd, Int.reduceSub, Int.reduceMul, Int.reduceNe, ne_eq, not_false_eq_true, not_true_eq_false, false_implies, forall_const, Nat.le_refl, Nat.zero_le, implies_true, and_self]
    (repeat' (first | apply And.intro | intro _))
    all_goals (try first | omega | trivial | (rfl; done) | assumption | (exfalso; omega))
set_option maxRecDepth 100000 in
theorem r_X6_cellAt (D : Nat) (σ : Sg) (i j w : Int) : Ret (D + 1) miX6_cellAt [aI i, aI j, aI w] σ (some (aI ((25 * i + j) * 2 + w))) σ := by
  refine Ret.of 6 [some (aI i), some (aI j), some (aI w)] rfl (by decide) rfl (Nat.le_of_ble_eq_true rfl) ?_
  refine vX6_cellAt 60 ?_
  simp only [↓S_X6_cellAt, ↓pI_c, ↓pL_c, ↓pR_c, ↓pC_I, ↓pC_R, ↓pE_n, ↓gI_0, ↓gI_s, ↓gL_0, ↓gL_s, ↓gR_0, ↓gR_s, ↓popN_0, ↓popN_s, ↓kl_I, ↓kl_L, ↓kl_R, ↓kl_n, ↓put1_0, ↓put1_s, ↓putk_0, ↓putk_s, ↓put2_0, ↓put2_s, ↓putl_0, ↓putl_s, ↓callK_0, ↓callK_1, ↓callK_2, cats_n, cats_c, catA_I, catA_L, catA_R, KL, LV, lval_f, ltag_f, llen_f, lcm_lt, lcm_le, lcm_gt, lcm_ge, lcm_eq, lcm_R1, lcm_R2, inR, inL, true_and, and_true, eq_self, List.head?_cons, Option.some.injEq, Sum.inr.injEq, Sum.inl.injEq, false_or, or_false, true_or, or_true, Nat.reduceAdd, Nat.reduceLeDiff, Int.reduceLE, Int.reduceLT, Int.reduceEq, Int.reduceNeg, Int.reduceAdd, Int.reduceSub, Int.reduceMul, Int.reduceNe, ne_eq, not_false_eq_true, not_true_eq_false, false_implies, forall_const, Nat.le_refl, Nat.zero_le, implies_true, and_self]
  (repeat' (first | apply And.intro | intro _))
  all_goals (try first | omega | trivial | (rfl; done) | assumption | (exfalso; omega))
set_option maxRecDepth 100000 in
theorem r_X6_withChord (D : Nat) (σ : Sg) (i j w k : Int) (h : WM σ) (i0 : 0 ≤ i) (ik : i < k) (kj : k < j) (jn : j ≤ σ 6 4) (hw : w = 0 ∨ w = 1) : Ret (D + 2) miX6_withChord [aR 6, aI i, aI j, aI w, aI k] σ (some (aI (cdv (msc σ) (σ 6 8) (mT0 σ) (mT1 σ) w i j k))) σ := by
  have hn := h.1
  have hbn := h.2.2.2.1
  have ha := h.2.1 i i0 (by omega)
  have hb := h.2.1 k (by omega) (by omega)
  have c1 := r_X6_cellAt D σ (i + 1) k 1
  have c2 := r_X6_cellAt D σ (k + 1) j 0
  unfold cdv msc
  by_cases c : w = 1 ∧ k = j - 1
  · rw [if_pos c]
    refine Ret.of 6 [some (aR 6), some (aI i), some (aI j), some (aI w), some (aI k), none] rfl (by decide) rfl (Nat.le_of_ble_eq_true rfl) ?_
    refine vX6_withChord 60 ?_
    simp only [↓S_X6_withChord_1, ↓S_X6_withChord_2, ↓pI_c, ↓pL_c, ↓pR_c, ↓pC_I, ↓pC_R, ↓pE_n, ↓gI_0, ↓gI_s, ↓gL_0, ↓gL_s, ↓gR_0, ↓gR_s, ↓popN_0, ↓popN_s, ↓kl_I, ↓kl_L, ↓kl_R, ↓kl_n, ↓put1_0, ↓put1_s, ↓putk_0, ↓putk_s, ↓put2_0, ↓put2_s, ↓putl_0, ↓putl_s, ↓callK_0, ↓callK_1, ↓callK_2, cats_n, cats_c, catA_I, catA_L, catA_R, KL, LV, lval_f, ltag_f, llen_f, lcm_lt, lcm_le, lcm_gt, lcm_ge, lcm_eq, lcm_R1, lcm_R2, inR, inL, true_and, and_true, eq_self, List.head?_cons, Option.some.injEq, Sum.inr.injEq, Sum.inl.injEq, false_or, or_false, true_or, or_true, Nat.reduceAdd, Nat.reduceLeDiff, Int.reduceLE, Int.reduceLT, Int.reduceEq, Int.reduceNeg, Int.reduceAdd, Int.reduceSub, Int.reduceMul, Int.reduceNe, ne_eq, not_false_eq_true, not_true_eq_false, false_implies, forall_const, Nat.le_refl, Nat.zero_le, implies_true, and_self]
    (repeat' (first | apply And.intro | intro _ | with_reducible refine Exists.intro _ (Exists.intro _ (And.intro c1 ?_)) | with_reducible refine Exists.intro _ (And.intro c1 ?_) | with_reducible refine Exists.intro _ (Exists.intro _ (And.intro c2 ?_)) | with_reducible refine Exists.intro _ (And.intro c2 ?_)))
    all_goals (try first | omega | trivial | (rfl; done) | assumption | (exfalso; omega))
  · rw [if_neg c]
    refine Ret.of 6 [some (aR 6), some (aI i), some (aI j), some (aI w), some (aI k), none] rfl (by decide) rfl (Nat.le_of_ble_eq_true rfl) ?_
    refine vX6_withChord 60 ?_
    simp only [↓S_X6_withChord_1, ↓S_X6_withChord_2, ↓pI_c, ↓pL_c, ↓pR_c, ↓pC_I, ↓pC_R, ↓pE_n, ↓gI_0, ↓gI_s, ↓gL_0, ↓gL_s, ↓gR_0, ↓gR_s, ↓popN_0, ↓popN_s, ↓kl_I, ↓kl_L, ↓kl_R, ↓kl_n, ↓put1_0, ↓put1_s, ↓putk_0, ↓putk_s, ↓put2_0, ↓put2_s, ↓putl_0, ↓putl_s, ↓callK_0, ↓callK_1, ↓callK_2, cats_n, cats_c, catA_I, catA_L, catA_R, KL, LV, lval_f, ltag_f, llen_f, lcm_lt, lcm_le, lcm_gt, lcm_ge, lcm_eq, lcm_R1, lcm_R2, inR, inL, true_and, and_true, eq_self, List.head?_cons, Option.some.injEq, Sum.inr.injEq, Sum.inl.injEq, false_or, or_false, true_or, or_true, Nat.reduceAdd, Nat.reduceLeDiff, Int.reduceLE, Int.reduceLT, Int.reduceEq, Int.reduceNeg, Int.reduceAdd, Int.reduceSub, Int.reduceMul, Int.reduceNe, ne_eq, not_false_eq_true, not_true_eq_false, false_implies, forall_const, Nat.le_refl, Nat.zero_le, implies_true, and_self]
    (repeat' (first | apply And.intro | intro _ | with_reducible refine Exists.intro _ (Exists.intro _ (And.intro c1 ?_)) | with_reducible refine Exists.intro _ (And.intro c1 ?_) | with_reducible refine Exists.intro _ (Exists.intro _ (And.intro c2 ?_)) | with_reducible refine Exists.intro _ (And.intro c2 ?_)))
    all_goals (try first | omega | trivial | (rfl; done) | assumption | (exfalso; omega))
set_option maxRecDepth 100000 in
theorem r_X6_layStretch (D : Nat) (σ : Sg) (i j w : Int) (h : WM σ) (i0 : 0 ≤ i) (ij : i ≤ j) (jn : j ≤ σ 6 4) (hw : w = 0 ∨ w = 1) (hT : ∀ x y, i < x → x ≤ y → y ≤ j → (-41 * (y - x) ≤ mT0 σ x y ∧ mT0 σ x y ≤ 0) ∧ (-41 * (y - x) ≤ mT1 σ x y ∧ mT1 σ x y ≤ 0)) :
    ∃ τ, Ret (D + 3) miX6_layStretch [aR 6, aI i, aI j, aI w] σ none τ ∧ (∀ x y, ¬ ((x = 35 ∨ x = 36) ∧ y = (25 * i + j) * 2 + w) → ¬ (x = 37 ∧ y = 25 * i + j) → τ x y = σ x y) ∧ (i = j → τ 35 ((25 * i + j) * 2 + w) = 0 ∧ τ 36 ((25 * i + j) * 2 + w) = 1 ∧ τ 37 (25 * i + j) = 1) ∧ (i < j → (τ 35 ((25 * i + j) * 2 + w), τ 36 ((25 * i + j) * 2 + w)) = fr (stp (msc σ) (mmj σ) (σ 6 8) (mT0 σ) (mT1 σ) (mW0 σ) (mW1 σ) w i j) (i + 1) (j - (i + 1)).toNat (mT0 σ (i + 1) j, mW0 σ (i + 1) j) ∧ τ 37 (25 * i + j) = mA σ (i + 1) j + rs (fun c => if mmj σ i c = true then mA σ (i + 1) c * mA σ (c + 1) j else 0) (i + 1) (j - (i + 1)).toNat) := by
  have hn := h.1
  have hbn := h.2.2.2.1
  have ca := r_X6_cellAt (D + 1) σ i j w
  have ca2 := r_X6_cellAt (D + 1) σ (i + 1) j 0
  generalize hcell : (25 * i + j) * 2 + w = cell at *
  have cb : 0 ≤ cell ∧ cell < 1250 := by omega
  have l36 : llen 36 = 1250 := rfl
  have l37 : llen 37 = 625 := rfl
  have loop : ∀ (n : Nat) (k : Int) (χ : Sg) (al : Int) (X : Int × Int), i < k → (k + n = j ∨ (n = 0 ∧ j ≤ k ∧ k ≤ 25)) → (∀ x y, ¬ ((x = 35 ∨ x = 36) ∧ y = cell) → χ x y = σ x y) → χ 35 cell = X.1 → χ 36 cell = X.2 → -41 * (j - i) ≤ X.1 → X.1 ≤ 0 → ∃ τ, V (D + 2) miX6_layStretch 6 none τ 95 [some (aR 6), some (aI i), some (aI j), some (aI w), some (aI cell), some (aL al), none, some (aI k), none, none, none] [] χ ∧ (∀ x y, ¬ ((x = 35 ∨ x = 36) ∧ y = cell) → ¬ (x = 37 ∧ y = 25 * i + j) → τ x y = σ x y) ∧ (τ 35 cell, τ 36 cell) = fr (stp (msc σ) (mmj σ) (σ 6 8) (mT0 σ) (mT1 σ) (mW0 σ) (mW1 σ) w i j) k n X ∧ τ 37 (25 * i + j) = al + rs (fun c => if mmj σ i c = true then mA σ (i + 1) c * mA σ (c + 1) j else 0) k n := by
    intro n
    induction n with
    | zero =>
      intro k χ al X ik kn hf h35 h36 x0 x1
      refine ⟨up χ 37 (25 * i + j) al, ?_, fun x y q1 q2 => by unfold up; rw [if_neg q2]; exact hf x y q1, ?_, ?_⟩
      · refine vX6_layStretch 100 ?_
        simp only [↓S_X6_layStretch_1, ↓S_X6_layStretch_2, ↓S_X6_layStretch_3, ↓S_X6_layStretch_4, ↓S_X6_layStretch_5, ↓pI_c, ↓pL_c, ↓pR_c, ↓pC_I, ↓pC_R, ↓pE_n, ↓gI_0, ↓gI_s, ↓gL_0, ↓gL_s, ↓gR_0, ↓gR_s, ↓popN_0, ↓popN_s, ↓kl_I, ↓kl_L, ↓kl_R, ↓kl_n, ↓put1_0, ↓put1_s, ↓putk_0, ↓putk_s, ↓put2_0, ↓put2_s, ↓putl_0, ↓putl_s, ↓callK_0, ↓callK_1, ↓callK_2, cats_n, cats_c, catA_I, catA_L, catA_R, KL, LV, lval_f, ltag_f, llen_f, lcm_lt, lcm_le, lcm_gt, lcm_ge, lcm_eq, lcm_R1, lcm_R2, inR, inL, true_and, and_true, eq_self, List.head?_cons, Option.some.injEq, Sum.inr.injEq, Sum.inl.injEq, false_or, or_false, true_or, or_true, Nat.reduceAdd, Nat.reduceLeDiff, Int.reduceLE, Int.reduceLT, Int.reduceEq, Int.reduceNeg, Int.reduceAdd, Int.reduceSub, Int.reduceMul, Int.reduceNe, ne_eq, not_false_eq_true, not_true_eq_false, false_implies, forall_const, Nat.le_refl, Nat.zero_le, implies_true, and_self]
        (repeat' (first | apply And.intro | intro _))
        all_goals (try first | omega | trivial | (rfl; done) | assumption | (exfalso; omega))
      · show (up χ 37 (25 * i + j) al 35 cell, up χ 37 (25 * i + j) al 36 cell) = X
        rw [show up χ 37 (25 * i + j) al 35 cell = X.1 from by unfold up; rw [if_neg (by omega)]; exact h35, show up χ 37 (25 * i + j) al 36 cell = X.2 from by unfold up; rw [if_neg (by omega)]; exact h36]
      · show up χ 37 (25 * i + j) al 37 (25 * i + j) = al + 0
        unfold up
        rw [if_pos ⟨rfl, rfl⟩]
        omega
    | succ n ih =>
      intro k χ al X ik kn hf h35 h36 x0 x1
      have kj : k + (n + 1 : Nat) = j := by omega
      have hWM : WM χ := by
        unfold WM
        rw [hf 6 4 (by omega), hf 6 7 (by omega), hf 6 8 (by omega)]
        refine ⟨h.1, fun a a0 a1 => ?_, h.2.2.1, h.2.2.2.1, fun a a0 a1 => ?_⟩
        · rw [hf 28 a (by omega)]; exact h.2.1 a a0 a1
        · rw [hf 29 a (by omega)]; exact h.2.2.2.2 a a0 a1
      have e6 : χ 6 4 = σ 6 4 := hf 6 4 (by omega)
      have emsc : msc χ i k = msc σ i k := by unfold msc; rw [hf 28 i (by omega), hf 28 k (by omega), hf 29 _ (by omega)]
      have emj : mmj χ i k = mmj σ i k := by unfold mmj; rw [emsc, hf 6 7 (by omega)]
      have mj := r_X6_mayJoin (D + 1) χ i k hWM i0 (by omega) (by omega) (by omega)
      rw [emj] at mj
      have wc := r_X6_withChord D χ i j w k hWM i0 ik (by omega) (by omega) hw
      have ecd : cdv (msc χ) (χ 6 8) (mT0 χ) (mT1 χ) w i j k = cdv (msc σ) (σ 6 8) (mT0 σ) (mT1 σ) w i j k := by
        unfold cdv
        rw [emsc, hf 6 8 (by omega)]
        show _ + _ + χ 35 ((25 * (i + 1) + k) * 2 + 1) + χ 35 ((25 * (k + 1) + j) * 2 + 0) = _ + _ + σ 35 ((25 * (i + 1) + k) * 2 + 1) + σ 35 ((25 * (k + 1) + j) * 2 + 0)
        rw [hf 35 ((25 * (i + 1) + k) * 2 + 1) (by omega), hf 35 ((25 * (k + 1) + j) * 2 + 0) (by omega)]
      rw [ecd] at wc
      have a1 := r_X6_cellAt (D + 1) χ (i + 1) k 1
      have a2 := r_X6_cellAt (D + 1) χ (k + 1) j 0
      have f1 : χ 36 ((25 * (i + 1) + k) * 2 + 1) = mW1 σ (i + 1) k := hf _ _ (by omega)
      have f2 : χ 36 ((25 * (k + 1) + j) * 2 + 0) = mW0 σ (k + 1) j := hf _ _ (by omega)
      have f3 : χ 37 (25 * (i + 1) + k) = mA σ (i + 1) k := hf _ _ (by omega)
      have f4 : χ 37 (25 * (k + 1) + j) = mA σ (k + 1) j := hf _ _ (by omega)
      rw [rs_s, ← Int.add_assoc, fr_s]
      by_cases c : mmj σ i k = true
      · rw [if_pos c] at mj
        have b1 := (hT (i + 1) k (by omega) (by omega) (by omega)).2
        have b2 := (hT (k + 1) j (by omega) (by omega) (by omega)).1
        have b3 := h.sc i0 (show i < σ 6 4 by omega) (show 0 ≤ k by omega) (show k < σ 6 4 by omega)
        have es : stp (msc σ) (mmj σ) (σ 6 8) (mT0 σ) (mT1 σ) (mW0 σ) (mW1 σ) w i j k X = ofr (cdv (msc σ) (σ 6 8) (mT0 σ) (mT1 σ) w i j k) (mW1 σ (i + 1) k * mW0 σ (k + 1) j) X := by
          unfold stp cdv
          rw [if_pos c]
        have bv : -41 * (j - i) ≤ cdv (msc σ) (σ 6 8) (mT0 σ) (mT1 σ) w i j k ∧ cdv (msc σ) (σ 6 8) (mT0 σ) (mT1 σ) w i j k ≤ 41 := by
          unfold cdv
          by_cases z : w = 1 ∧ k = j - 1
          · rw [if_pos z]; omega
          · rw [if_neg z]; omega
        rw [es, if_pos c]
        generalize cdv (msc σ) (σ 6 8) (mT0 σ) (mT1 σ) w i j k = v at *
        unfold ofr
        have frm : ∀ p q, ∀ x y, ¬ ((x = 35 ∨ x = 36) ∧ y = cell) → up (up χ 36 cell q) 35 cell p x y = σ x y := fun p q x y hx => by unfold up; rw [if_neg (by omega), if_neg (by omega)]; exact hf x y hx
        have v35 : ∀ p q, up (up χ 36 cell q) 35 cell p 35 cell = p := fun p q => by unfold up; rw [if_pos ⟨rfl, rfl⟩]
        have v36 : ∀ p q, up (up χ 36 cell q) 35 cell p 36 cell = q := fun p q => by unfold up; rw [if_neg (by omega), if_pos ⟨rfl, rfl⟩]
        have u1 : ∀ (ψ : Sg) (q y : Int), up ψ 36 cell q 37 y = ψ 37 y := fun ψ q y => by unfold up; rw [if_neg (by omega)]
        have u2 : ∀ (ψ : Sg) (q y : Int), up ψ 35 cell q 37 y = ψ 37 y := fun ψ q y => by unfold up; rw [if_neg (by omega)]
        have u3 : ∀ (ψ : Sg) (q y : Int), up ψ 36 cell q 35 y = ψ 35 y := fun ψ q y => by unfold up; rw [if_neg (by omega)]
        have w35 : ∀ q, up χ 36 cell q 35 cell = X.1 := fun q => by rw [u3]; exact h35
        by_cases z1 : v < X.1
        · rw [if_pos z1]
          obtain ⟨τ, t, tr⟩ := ih (k + 1) (up (up χ 36 cell (mW1 σ (i + 1) k * mW0 σ (k + 1) j)) 35 cell v) (al + mA σ (i + 1) k * mA σ (k + 1) j) (v, mW1 σ (i + 1) k * mW0 σ (k + 1) j) (by omega) (by omega) (frm _ _) (v35 _ _) (v36 _ _) bv.1 (by show v ≤ 0; omega)
          refine ⟨τ, ?_, tr⟩
          have w35 := w35 (mW1 σ (i + 1) k * mW0 σ (k + 1) j)
          refine vX6_layStretch 100 ?_
          simp only [↓S_X6_layStretch_1, ↓S_X6_layStretch_2, ↓S_X6_layStretch_3, ↓S_X6_layStretch_4, ↓S_X6_layStretch_5, ↓pI_c, ↓pL_c, ↓pR_c, ↓pC_I, ↓pC_R, ↓pE_n, ↓gI_0, ↓gI_s, ↓gL_0, ↓gL_s, ↓gR_0, ↓gR_s, ↓popN_0, ↓popN_s, ↓kl_I, ↓kl_L, ↓kl_R, ↓kl_n, ↓put1_0, ↓put1_s, ↓putk_0, ↓putk_s, ↓put2_0, ↓put2_s, ↓putl_0, ↓putl_s, ↓callK_0, ↓callK_1, ↓callK_2, cats_n, cats_c, catA_I, catA_L, catA_R, KL, LV, lval_f, ltag_f, llen_f, lcm_lt, lcm_le, lcm_gt, lcm_ge, lcm_eq, lcm_R1, lcm_R2, inR, inL, true_and, and_true, eq_self, List.head?_cons, Option.some.injEq, Sum.inr.injEq, Sum.inl.injEq, false_or, or_false, true_or, or_true, Nat.reduceAdd, Nat.reduceLeDiff, Int.reduceLE, Int.reduceLT, Int.reduceEq, Int.reduceNeg, Int.reduceAdd, Int.reduceSub, Int.reduceMul, Int.reduceNe, ne_eq, not_false_eq_true, not_true_eq_false, false_implies, forall_const, Nat.le_refl, Nat.zero_le, implies_true, and_self]
          (repeat' (first | apply And.intro | intro _ | with_reducible refine Exists.intro _ (Exists.intro _ (And.intro mj ?_)) | with_reducible refine Exists.intro _ (And.intro mj ?_) | with_reducible refine Exists.intro _ (Exists.intro _ (And.intro wc ?_)) | with_reducible refine Exists.intro _ (And.intro wc ?_) | with_reducible refine Exists.intro _ (Exists.intro _ (And.intro a1 ?_)) | with_reducible refine Exists.intro _ (And.intro a1 ?_) | with_reducible refine Exists.intro _ (Exists.intro _ (And.intro a2 ?_)) | with_reducible refine Exists.intro _ (And.intro a2 ?_)))
          all_goals (try first | omega | trivial | (rfl; done) | assumption | (exfalso; omega) | (exact t) | (refine V.wk t ?_; simp [lle]; done) | (simp only [u1, u2, u3, f1, f2, f3, f4, h35, h36]; done) | (simp only [u1, u2, u3, f1, f2, f3, f4, h35, h36]; first | omega | (rfl; done) | (exact t) | (refine V.wk t ?_; simp [lle]; done)))
        · rw [if_neg z1]
          by_cases z2 : v = X.1
          · rw [if_pos z2]
            obtain ⟨τ, t, tr⟩ := ih (k + 1) (up (up χ 36 cell (X.2 + mW1 σ (i + 1) k * mW0 σ (k + 1) j)) 35 cell X.1) (al + mA σ (i + 1) k * mA σ (k + 1) j) (X.1, X.2 + mW1 σ (i + 1) k * mW0 σ (k + 1) j) (by omega) (by omega) (frm _ _) (v35 _ _) (v36 _ _) x0 x1
            refine ⟨τ, ?_, tr⟩
            have w35 := w35 (X.2 + mW1 σ (i + 1) k * mW0 σ (k + 1) j)
            refine vX6_layStretch 100 ?_
            simp only [↓S_X6_layStretch_1, ↓S_X6_layStretch_2, ↓S_X6_layStretch_3, ↓S_X6_layStretch_4, ↓S_X6_layStretch_5, ↓pI_c, ↓pL_c, ↓pR_c, ↓pC_I, ↓pC_R, ↓pE_n, ↓gI_0, ↓gI_s, ↓gL_0, ↓gL_s, ↓gR_0, ↓gR_s, ↓popN_0, ↓popN_s, ↓kl_I, ↓kl_L, ↓kl_R, ↓kl_n, ↓put1_0, ↓put1_s, ↓putk_0, ↓putk_s, ↓put2_0, ↓put2_s, ↓putl_0, ↓putl_s, ↓callK_0, ↓callK_1, ↓callK_2, cats_n, cats_c, catA_I, catA_L, catA_R, KL, LV, lval_f, ltag_f, llen_f, lcm_lt, lcm_le, lcm_gt, lcm_ge, lcm_eq, lcm_R1, lcm_R2, inR, inL, true_and, and_true, eq_self, List.head?_cons, Option.some.injEq, Sum.inr.injEq, Sum.inl.injEq, false_or, or_false, true_or, or_true, Nat.reduceAdd, Nat.reduceLeDiff, Int.reduceLE, Int.reduceLT, Int.reduceEq, Int.reduceNeg, Int.reduceAdd, Int.reduceSub, Int.reduceMul, Int.reduceNe, ne_eq, not_false_eq_true, not_true_eq_false, false_implies, forall_const, Nat.le_refl, Nat.zero_le, implies_true, and_self]
            (repeat' (first | apply And.intro | intro _ | with_reducible refine Exists.intro _ (Exists.intro _ (And.intro mj ?_)) | with_reducible refine Exists.intro _ (And.intro mj ?_) | with_reducible refine Exists.intro _ (Exists.intro _ (And.intro wc ?_)) | with_reducible refine Exists.intro _ (And.intro wc ?_) | with_reducible refine Exists.intro _ (Exists.intro _ (And.intro a1 ?_)) | with_reducible refine Exists.intro _ (And.intro a1 ?_) | with_reducible refine Exists.intro _ (Exists.intro _ (And.intro a2 ?_)) | with_reducible refine Exists.intro _ (And.intro a2 ?_)))
            all_goals (try first | omega | trivial | (rfl; done) | assumption | (exfalso; omega) | (exact t) | (refine V.wk t ?_; simp [lle]; done) | (simp only [u1, u2, u3, f1, f2, f3, f4, h35, h36]; done) | (simp only [u1, u2, u3, f1, f2, f3, f4, h35, h36]; first | omega | (rfl; done) | (exact t) | (refine V.wk t ?_; simp [lle]; done)))
          · rw [if_neg z2]
            obtain ⟨τ, t, tr⟩ := ih (k + 1) (up (up χ 36 cell X.2) 35 cell X.1) (al + mA σ (i + 1) k * mA σ (k + 1) j) X (by omega) (by omega) (frm _ _) (v35 _ _) (v36 _ _) x0 x1
            refine ⟨τ, ?_, tr⟩
            have w35 := w35 X.2
            refine vX6_layStretch 100 ?_
            simp only [↓S_X6_layStretch_1, ↓S_X6_layStretch_2, ↓S_X6_layStretch_3, ↓S_X6_layStretch_4, ↓S_X6_layStretch_5, ↓pI_c, ↓pL_c, ↓pR_c, ↓pC_I, ↓pC_R, ↓pE_n, ↓gI_0, ↓gI_s, ↓gL_0, ↓gL_s, ↓gR_0, ↓gR_s, ↓popN_0, ↓popN_s, ↓kl_I, ↓kl_L, ↓kl_R, ↓kl_n, ↓put1_0, ↓put1_s, ↓putk_0, ↓putk_s, ↓put2_0, ↓put2_s, ↓putl_0, ↓putl_s, ↓callK_0, ↓callK_1, ↓callK_2, cats_n, cats_c, catA_I, catA_L, catA_R, KL, LV, lval_f, ltag_f, llen_f, lcm_lt, lcm_le, lcm_gt, lcm_ge, lcm_eq, lcm_R1, lcm_R2, inR, inL, true_and, and_true, eq_self, List.head?_cons, Option.some.injEq, Sum.inr.injEq, Sum.inl.injEq, false_or, or_false, true_or, or_true, Nat.reduceAdd, Nat.reduceLeDiff, Int.reduceLE, Int.reduceLT, Int.reduceEq, Int.reduceNeg, Int.reduceAdd, Int.reduceSub, Int.reduceMul, Int.reduceNe, ne_eq, not_false_eq_true, not_true_eq_false, false_implies, forall_const, Nat.le_refl, Nat.zero_le, implies_true, and_self]
            (repeat' (first | apply And.intro | intro _ | with_reducible refine Exists.intro _ (Exists.intro _ (And.intro mj ?_)) | with_reducible refine Exists.intro _ (And.intro mj ?_) | with_reducible refine Exists.intro _ (Exists.intro _ (And.intro wc ?_)) | with_reducible refine Exists.intro _ (And.intro wc ?_) | with_reducible refine Exists.intro _ (Exists.intro _ (And.intro a1 ?_)) | with_reducible refine Exists.intro _ (And.intro a1 ?_) | with_reducible refine Exists.intro _ (Exists.intro _ (And.intro a2 ?_)) | with_reducible refine Exists.intro _ (And.intro a2 ?_)))
            all_goals (try first | omega | trivial | (rfl; done) | assumption | (exfalso; omega) | (exact t) | (refine V.wk t ?_; simp [lle]; done) | (simp only [u1, u2, u3, f1, f2, f3, f4, h35, h36]; done) | (simp only [u1, u2, u3, f1, f2, f3, f4, h35, h36]; first | omega | (rfl; done) | (exact t) | (refine V.wk t ?_; simp [lle]; done)))
      · rw [if_neg c] at mj
        have es : stp (msc σ) (mmj σ) (σ 6 8) (mT0 σ) (mT1 σ) (mW0 σ) (mW1 σ) w i j k X = X := by
          unfold stp
          rw [if_neg c]
        obtain ⟨τ, t, tr⟩ := ih (k + 1) χ al X (by omega) (by omega) hf h35 h36 x0 x1
        rw [es, if_neg c, Int.add_zero]
        refine ⟨τ, ?_, tr⟩
        refine vX6_layStretch 100 ?_
        simp only [↓S_X6_layStretch_1, ↓S_X6_layStretch_2, ↓S_X6_layStretch_3, ↓S_X6_layStretch_4, ↓S_X6_layStretch_5, ↓pI_c, ↓pL_c, ↓pR_c, ↓pC_I, ↓pC_R, ↓pE_n, ↓gI_0, ↓gI_s, ↓gL_0, ↓gL_s, ↓gR_0, ↓gR_s, ↓popN_0, ↓popN_s, ↓kl_I, ↓kl_L, ↓kl_R, ↓kl_n, ↓put1_0, ↓put1_s, ↓putk_0, ↓putk_s, ↓put2_0, ↓put2_s, ↓putl_0, ↓putl_s, ↓callK_0, ↓callK_1, ↓callK_2, cats_n, cats_c, catA_I, catA_L, catA_R, KL, LV, lval_f, ltag_f, llen_f, lcm_lt, lcm_le, lcm_gt, lcm_ge, lcm_eq, lcm_R1, lcm_R2, inR, inL, true_and, and_true, eq_self, List.head?_cons, Option.some.injEq, Sum.inr.injEq, Sum.inl.injEq, false_or, or_false, true_or, or_true, Nat.reduceAdd, Nat.reduceLeDiff, Int.reduceLE, Int.reduceLT, Int.reduceEq, Int.reduceNeg, Int.reduceAdd, Int.reduceSub, Int.reduceMul, Int.reduceNe, ne_eq, not_false_eq_true, not_true_eq_false, false_implies, forall_const, Nat.le_refl, Nat.zero_le, implies_true, and_self]
        (repeat' (first | apply And.intro | intro _ | with_reducible refine Exists.intro _ (Exists.intro _ (And.intro mj ?_)) | with_reducible refine Exists.intro _ (And.intro mj ?_)))
        all_goals (try first | omega | trivial | (rfl; done) | assumption | (exfalso; omega) | (exact t) | (refine V.wk t ?_; simp [lle]; done))
  have frm : ∀ p q, ∀ x y, ¬ ((x = 35 ∨ x = 36) ∧ y = cell) → up (up σ 35 cell p) 36 cell q x y = σ x y := fun p q x y hx => by unfold up; rw [if_neg (by omega), if_neg (by omega)]
  have v35 : ∀ p q, up (up σ 35 cell p) 36 cell q 35 cell = p := fun p q => by unfold up; rw [if_neg (by omega), if_pos ⟨rfl, rfl⟩]
  have v36 : ∀ p q, up (up σ 35 cell p) 36 cell q 36 cell = q := fun p q => by unfold up; rw [if_pos ⟨rfl, rfl⟩]
  by_cases c : i = j
  · obtain ⟨τ, t, t1, t2, t3⟩ := loop 0 (i + 1) (up (up σ 35 cell 0) 36 cell 1) 1 (0, 1) (by omega) (Or.inr ⟨rfl, by omega, by omega⟩) (frm _ _) (v35 _ _) (v36 _ _) (by show -41 * (j - i) ≤ 0; omega) (by show (0 : Int) ≤ 0; omega)
    have t2 : (τ 35 cell, τ 36 cell) = ((0 : Int), (1 : Int)) := t2
    have t3 : τ 37 (25 * i + j) = 1 := t3
    rw [Prod.mk.injEq] at t2
    refine ⟨τ, ?_, t1, fun _ => ⟨t2.1, t2.2, t3⟩, fun q => by omega⟩
    refine Ret.of 6 [some (aR 6), some (aI i), some (aI j), some (aI w), none, none, none, none, none, none, none] rfl (by decide) rfl (Nat.le_of_ble_eq_true rfl) ?_
    refine vX6_layStretch 100 ?_
    simp only [↓S_X6_layStretch_1, ↓S_X6_layStretch_2, ↓S_X6_layStretch_3, ↓S_X6_layStretch_4, ↓S_X6_layStretch_5, ↓pI_c, ↓pL_c, ↓pR_c, ↓pC_I, ↓pC_R, ↓pE_n, ↓gI_0, ↓gI_s, ↓gL_0, ↓gL_s, ↓gR_0, ↓gR_s, ↓popN_0, ↓popN_s, ↓kl_I, ↓kl_L, ↓kl_R, ↓kl_n, ↓put1_0, ↓put1_s, ↓putk_0, ↓putk_s, ↓put2_0, ↓put2_s, ↓putl_0, ↓putl_s, ↓callK_0, ↓callK_1, ↓callK_2, cats_n, cats_c, catA_I, catA_L, catA_R, KL, LV, lval_f, ltag_f, llen_f, lcm_lt, lcm_le, lcm_gt, lcm_ge, lcm_eq, lcm_R1, lcm_R2, inR, inL, true_and, and_true, eq_self, List.head?_cons, Option.some.injEq, Sum.inr.injEq, Sum.inl.injEq, false_or, or_false, true_or, or_true, Nat.reduceAdd, Nat.reduceLeDiff, Int.reduceLE, Int.reduceLT, Int.reduceEq, Int.reduceNeg, Int.reduceAdd, Int.reduceSub, Int.reduceMul, Int.reduceNe, ne_eq, not_false_eq_true, not_true_eq_false, false_implies, forall_const, Nat.le_refl, Nat.zero_le, implies_true, and_self]
    (repeat' (first | apply And.intro | intro _ | with_reducible refine Exists.intro _ (Exists.intro _ (And.intro ca ?_)) | with_reducible refine Exists.intro _ (And.intro ca ?_) | with_reducible refine Exists.intro _ (Exists.intro _ (And.intro ca2 ?_)) | with_reducible refine Exists.intro _ (And.intro ca2 ?_)))
    all_goals (try first | omega | trivial | (rfl; done) | assumption | (exfalso; omega) | (exact t) | (refine V.wk t ?_; simp [lle]; done))
  · have b1 := (hT (i + 1) j (by omega) (by omega) (by omega)).1
    obtain ⟨τ, t, t1, t2, t3⟩ := loop (j - (i + 1)).toNat (i + 1) (up (up σ 35 cell (mT0 σ (i + 1) j)) 36 cell (mW0 σ (i + 1) j)) (mA σ (i + 1) j) (mT0 σ (i + 1) j, mW0 σ (i + 1) j) (by omega) (Or.inl (by omega)) (frm _ _) (v35 _ _) (v36 _ _) (by show -41 * (j - i) ≤ mT0 σ (i + 1) j; omega) b1.2
    refine ⟨τ, ?_, t1, fun q => absurd q c, fun _ => ⟨t2, t3⟩⟩
    have ca3 := r_X6_cellAt (D + 1) (up σ 35 cell (σ 35 ((25 * (i + 1) + j) * 2 + 0))) (i + 1) j 0
    refine Ret.of 6 [some (aR 6), some (aI i), some (aI j), some (aI w), none, none, none, none, none, none, none] rfl (by decide) rfl (Nat.le_of_ble_eq_true rfl) ?_
    refine vX6_layStretch 100 ?_
    simp only [↓S_X6_layStretch_1, ↓S_X6_layStretch_2, ↓S_X6_layStretch_3, ↓S_X6_layStretch_4, ↓S_X6_layStretch_5, ↓pI_c, ↓pL_c, ↓pR_c, ↓pC_I, ↓pC_R, ↓pE_n, ↓gI_0, ↓gI_s, ↓gL_0, ↓gL_s, ↓gR_0, ↓gR_s, ↓popN_0, ↓popN_s, ↓kl_I, ↓kl_L, ↓kl_R, ↓kl_n, ↓put1_0, ↓put1_s, ↓putk_0, ↓putk_s, ↓put2_0, ↓put2_s, ↓putl_0, ↓putl_s, ↓callK_0, ↓callK_1, ↓callK_2, cats_n, cats_c, catA_I, catA_L, catA_R, KL, LV, lval_f, ltag_f, llen_f, lcm_lt, lcm_le, lcm_gt, lcm_ge, lcm_eq, lcm_R1, lcm_R2, inR, inL, true_and, and_true, eq_self, List.head?_cons, Option.some.injEq, Sum.inr.injEq, Sum.inl.injEq, false_or, or_false, true_or, or_true, Nat.reduceAdd, Nat.reduceLeDiff, Int.reduceLE, Int.reduceLT, Int.reduceEq, Int.reduceNeg, Int.reduceAdd, Int.reduceSub, Int.reduceMul, Int.reduceNe, ne_eq, not_false_eq_true, not_true_eq_false, false_implies, forall_const, Nat.le_refl, Nat.zero_le, implies_true, and_self]
    (repeat' (first | apply And.intro | intro _ | with_reducible refine Exists.intro _ (Exists.intro _ (And.intro ca ?_)) | with_reducible refine Exists.intro _ (And.intro ca ?_) | with_reducible refine Exists.intro _ (Exists.intro _ (And.intro ca2 ?_)) | with_reducible refine Exists.intro _ (And.intro ca2 ?_) | with_reducible refine Exists.intro _ (Exists.intro _ (And.intro ca3 ?_)) | with_reducible refine Exists.intro _ (And.intro ca3 ?_)))
    all_goals (try first | omega | trivial | (rfl; done) | assumption | (exfalso; omega) | (exact t) | (refine V.wk t ?_; simp [lle]; done))

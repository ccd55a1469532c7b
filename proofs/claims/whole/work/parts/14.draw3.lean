/-! Drawing: order of the full ones, signs, the mirror -/
set_option maxRecDepth 100000 in
theorem r_X1_lesserPartners (D : Nat) (σ : Sg) (a : Int) (hw : WD (σ 1 0) (σ 7)) (h0 : 0 ≤ a) (h1 : a < 24) : Ret (D + 1) miX1_lesserPartners [aR 1, aI a] σ (some (aI (rs (fun b => if a < σ 7 b then 1 else 0) (a + 1) (σ 7 a - (a + 1)).toNat))) σ := by
  have hr := hw.r h0 h1
  refine Ret.of 1 [some (aR 1), some (aI a), none, none] rfl (by decide) rfl (Nat.le_of_ble_eq_true rfl) ?_
  have loop : ∀ (k : Nat) (i acc : Int), a + 1 ≤ i → i ≤ 24 → (σ 7 a - i).toNat = k → V D miX1_lesserPartners 1 (some (aI (acc + rs (fun b => if a < σ 7 b then 1 else 0) i k))) σ 6 [some (aR 1), some (aI a), some (aI acc), some (aI i)] [] σ := by
    intro k
    induction k with
    | zero =>
      intro i acc hi hi2 hk
      refine vX1_lesserPartners 60 ?_
      simp only [↓S_X1_lesserPartners, ↓pI_c, ↓pL_c, ↓pR_c, ↓pC_I, ↓pC_R, ↓pE_n, ↓gI_0, ↓gI_s, ↓gL_0, ↓gL_s, ↓gR_0, ↓gR_s, ↓popN_0, ↓popN_s, ↓kl_I, ↓kl_L, ↓kl_R, ↓kl_n, ↓put1_0, ↓put1_s, ↓putk_0, ↓putk_s, ↓put2_0, ↓put2_s, ↓putl_0, ↓putl_s, ↓callK_0, ↓callK_1, ↓callK_2, cats_n, cats_c, catA_I, catA_L, catA_R, KL, LV, lval_f, ltag_f, llen_f, lcm_lt, lcm_le, lcm_gt, lcm_ge, lcm_eq, lcm_R1, lcm_R2, inR, inL, true_and, and_true, eq_self, List.head?_cons, Option.some.injEq, Sum.inr.injEq, Sum.inl.injEq, false_or, or_false, true_or, or_true, Nat.reduceAdd, Nat.reduceLeDiff, Int.reduceLE, Int.reduceLT, Int.reduceEq, Int.reduceNeg, Int.reduceAdd, Int.reduceSub, Int.reduceMul, Int.reduceNe, ne_eq, not_false_eq_true, not_true_eq_false, false_implies, forall_const, Nat.le_refl, Nat.zero_le, implies_true, and_self]
      simp only [rs, Int.add_zero]
      (repeat' (first | apply And.intro | intro _))
      all_goals (try first | omega | trivial | (rfl; done) | assumption | (exfalso; omega) | (split <;> first | omega | (rfl; done) | (exfalso; omega)))
    | succ k ih =>
      intro i acc hi hi2 hk
      have hri := hw.r (a := i) (by omega) (by omega)
      have ih0 := ih (i + 1) acc (by omega) (by omega) (by omega)
      have ih1 := ih (i + 1) (acc + 1) (by omega) (by omega) (by omega)
      rw [rs_s]
      refine vX1_lesserPartners 60 ?_
      simp only [↓S_X1_lesserPartners, ↓pI_c, ↓pL_c, ↓pR_c, ↓pC_I, ↓pC_R, ↓pE_n, ↓gI_0, ↓gI_s, ↓gL_0, ↓gL_s, ↓gR_0, ↓gR_s, ↓popN_0, ↓popN_s, ↓kl_I, ↓kl_L, ↓kl_R, ↓kl_n, ↓put1_0, ↓put1_s, ↓putk_0, ↓putk_s, ↓put2_0, ↓put2_s, ↓putl_0, ↓putl_s, ↓callK_0, ↓callK_1, ↓callK_2, cats_n, cats_c, catA_I, catA_L, catA_R, KL, LV, lval_f, ltag_f, llen_f, lcm_lt, lcm_le, lcm_gt, lcm_ge, lcm_eq, lcm_R1, lcm_R2, inR, inL, true_and, and_true, eq_self, List.head?_cons, Option.some.injEq, Sum.inr.injEq, Sum.inl.injEq, false_or, or_false, true_or, or_true, Nat.reduceAdd, Nat.reduceLeDiff, Int.reduceLE, Int.reduceLT, Int.reduceEq, Int.reduceNeg, Int.reduceAdd, Int.reduceSub, Int.reduceMul, Int.reduceNe, ne_eq, not_false_eq_true, not_true_eq_false, false_implies, forall_const, Nat.le_refl, Nat.zero_le, implies_true, and_self]
      split
      · rw [← Int.add_assoc]
        (repeat' (first | apply And.intro | intro _))
        all_goals (try first | omega | trivial | (rfl; done) | assumption | (exfalso; omega) | (split <;> first | omega | (rfl; done) | (exfalso; omega)))
      · rw [Int.zero_add]
        (repeat' (first | apply And.intro | intro _))
        all_goals (try first | omega | trivial | (rfl; done) | assumption | (exfalso; omega) | (split <;> first | omega | (rfl; done) | (exfalso; omega)))
  refine vX1_lesserPartners 60 ?_
  simp only [↓S_X1_lesserPartners, ↓pI_c, ↓pL_c, ↓pR_c, ↓pC_I, ↓pC_R, ↓pE_n, ↓gI_0, ↓gI_s, ↓gL_0, ↓gL_s, ↓gR_0, ↓gR_s, ↓popN_0, ↓popN_s, ↓kl_I, ↓kl_L, ↓kl_R, ↓kl_n, ↓put1_0, ↓put1_s, ↓putk_0, ↓putk_s, ↓put2_0, ↓put2_s, ↓putl_0, ↓putl_s, ↓callK_0, ↓callK_1, ↓callK_2, cats_n, cats_c, catA_I, catA_L, catA_R, KL, LV, lval_f, ltag_f, llen_f, lcm_lt, lcm_le, lcm_gt, lcm_ge, lcm_eq, lcm_R1, lcm_R2, inR, inL, true_and, and_true, eq_self, List.head?_cons, Option.some.injEq, Sum.inr.injEq, Sum.inl.injEq, false_or, or_false, true_or, or_true, Nat.reduceAdd, Nat.reduceLeDiff, Int.reduceLE, Int.reduceLT, Int.reduceEq, Int.reduceNeg, Int.reduceAdd, Int.reduceSub, Int.reduceMul, Int.reduceNe, ne_eq, not_false_eq_true, not_true_eq_false, false_implies, forall_const, Nat.le_refl, Nat.zero_le, implies_true, and_self]
  have := loop (σ 7 a - (a + 1)).toNat (a + 1) 0 (by omega) (by omega) rfl
  rw [Int.zero_add] at this
  exact this
set_option maxRecDepth 100000 in
theorem r_X1_signAt (D : Nat) (σ : Sg) (i : Int) (hw : WD (σ 1 0) (σ 7)) (h0 : 0 ≤ i) (h1 : i < σ 1 0) : Ret (D + 2) miX1_signAt [aR 1, aI i] σ (some (aI (if i < σ 7 i then 1 else 2 + rs (fun c => if i < σ 7 c then 1 else 0) (σ 7 i + 1) (i - (σ 7 i + 1)).toNat))) σ := by
  have w2 := hw.2.1
  have hr := hw.r h0 (by omega)
  refine Ret.of 1 [some (aR 1), some (aI i), none, none] rfl (by decide) rfl (Nat.le_of_ble_eq_true rfl) ?_
  refine vX1_signAt 60 ?_
  simp only [↓S_X1_signAt, ↓pI_c, ↓pL_c, ↓pR_c, ↓pC_I, ↓pC_R, ↓pE_n, ↓gI_0, ↓gI_s, ↓gL_0, ↓gL_s, ↓gR_0, ↓gR_s, ↓popN_0, ↓popN_s, ↓kl_I, ↓kl_L, ↓kl_R, ↓kl_n, ↓put1_0, ↓put1_s, ↓putk_0, ↓putk_s, ↓put2_0, ↓put2_s, ↓putl_0, ↓putl_s, ↓callK_0, ↓callK_1, ↓callK_2, cats_n, cats_c, catA_I, catA_L, catA_R, KL, LV, lval_f, ltag_f, llen_f, lcm_lt, lcm_le, lcm_gt, lcm_ge, lcm_eq, lcm_R1, lcm_R2, inR, inL, true_and, and_true, eq_self, List.head?_cons, Option.some.injEq, Sum.inr.injEq, Sum.inl.injEq, false_or, or_false, true_or, or_true, Nat.reduceAdd, Nat.reduceLeDiff, Int.reduceLE, Int.reduceLT, Int.reduceEq, Int.reduceNeg, Int.reduceAdd, Int.reduceSub, Int.reduceMul, Int.reduceNe, ne_eq, not_false_eq_true, not_true_eq_false, false_implies, forall_const, Nat.le_refl, Nat.zero_le, implies_true, and_self]
  refine ⟨_, _, r_X1_begins D σ i h0 (by omega) (by omega), ?_⟩
  by_cases c1 : i < σ 7 i
  · rw [if_pos c1, if_pos c1]
    (repeat' (first | apply And.intro | intro _))
    all_goals (try first | omega | trivial | (rfl; done) | assumption | (exfalso; omega) | (split <;> first | omega | (rfl; done) | (exfalso; omega)))
  · rw [if_neg c1, if_neg c1]
    have loop : ∀ (k : Nat) (c acc : Int), 0 ≤ c → (i - c).toNat = k → c ≤ 25 → V (D + 1) miX1_signAt 1 (some (aI (2 + (acc + rs (fun c => if i < σ 7 c then 1 else 0) c k)))) σ 21 [some (aR 1), some (aI i), some (aI acc), some (aI c)] [] σ := by
      intro k
      induction k with
      | zero =>
        intro c acc hc hk hc2
        refine vX1_signAt 60 ?_
        simp only [↓S_X1_signAt, ↓pI_c, ↓pL_c, ↓pR_c, ↓pC_I, ↓pC_R, ↓pE_n, ↓gI_0, ↓gI_s, ↓gL_0, ↓gL_s, ↓gR_0, ↓gR_s, ↓popN_0, ↓popN_s, ↓kl_I, ↓kl_L, ↓kl_R, ↓kl_n, ↓put1_0, ↓put1_s, ↓putk_0, ↓putk_s, ↓put2_0, ↓put2_s, ↓putl_0, ↓putl_s, ↓callK_0, ↓callK_1, ↓callK_2, cats_n, cats_c, catA_I, catA_L, catA_R, KL, LV, lval_f, ltag_f, llen_f, lcm_lt, lcm_le, lcm_gt, lcm_ge, lcm_eq, lcm_R1, lcm_R2, inR, inL, true_and, and_true, eq_self, List.head?_cons, Option.some.injEq, Sum.inr.injEq, Sum.inl.injEq, false_or, or_false, true_or, or_true, Nat.reduceAdd, Nat.reduceLeDiff, Int.reduceLE, Int.reduceLT, Int.reduceEq, Int.reduceNeg, Int.reduceAdd, Int.reduceSub, Int.reduceMul, Int.reduceNe, ne_eq, not_false_eq_true, not_true_eq_false, false_implies, forall_const, Nat.le_refl, Nat.zero_le, implies_true, and_self]
        simp only [rs, Int.add_zero]
        (repeat' (first | apply And.intro | intro _))
        all_goals (try first | omega | trivial | (rfl; done) | assumption | (exfalso; omega) | (split <;> first | omega | (rfl; done) | (exfalso; omega)))
      | succ k ih =>
        intro c acc hc hk hc2
        have hri := hw.r (a := c) (by omega) (by omega)
        have ih0 := ih (c + 1) acc (by omega) (by omega) (by omega)
        have ih1 := ih (c + 1) (acc + 1) (by omega) (by omega) (by omega)
        rw [rs_s]
        refine vX1_signAt 60 ?_
        simp only [↓S_X1_signAt, ↓pI_c, ↓pL_c, ↓pR_c, ↓pC_I, ↓pC_R, ↓pE_n, ↓gI_0, ↓gI_s, ↓gL_0, ↓gL_s, ↓gR_0, ↓gR_s, ↓popN_0, ↓popN_s, ↓kl_I, ↓kl_L, ↓kl_R, ↓kl_n, ↓put1_0, ↓put1_s, ↓putk_0, ↓putk_s, ↓put2_0, ↓put2_s, ↓putl_0, ↓putl_s, ↓callK_0, ↓callK_1, ↓callK_2, cats_n, cats_c, catA_I, catA_L, catA_R, KL, LV, lval_f, ltag_f, llen_f, lcm_lt, lcm_le, lcm_gt, lcm_ge, lcm_eq, lcm_R1, lcm_R2, inR, inL, true_and, and_true, eq_self, List.head?_cons, Option.some.injEq, Sum.inr.injEq, Sum.inl.injEq, false_or, or_false, true_or, or_true, Nat.reduceAdd, Nat.reduceLeDiff, Int.reduceLE, Int.reduceLT, Int.reduceEq, Int.reduceNeg, Int.reduceAdd, Int.reduceSub, Int.reduceMul, Int.reduceNe, ne_eq, not_false_eq_true, not_true_eq_false, false_implies, forall_const, Nat.le_refl, Nat.zero_le, implies_true, and_self]
        split
        · rw [← Int.add_assoc acc]
          (repeat' (first | apply And.intro | intro _))
          all_goals (try first | omega | trivial | (rfl; done) | assumption | (exfalso; omega) | (split <;> first | omega | (rfl; done) | (exfalso; omega)))
        · rw [Int.zero_add]
          (repeat' (first | apply And.intro | intro _))
          all_goals (try first | omega | trivial | (rfl; done) | assumption | (exfalso; omega) | (split <;> first | omega | (rfl; done) | (exfalso; omega)))
    have e := loop (i - (σ 7 i + 1)).toNat (σ 7 i + 1) 0 (by omega) rfl (by omega)
    rw [Int.zero_add] at e
    (repeat' (first | apply And.intro | intro _))
    all_goals (try first | omega | trivial | (rfl; done) | assumption | (exfalso; omega) | (split <;> first | omega | (rfl; done) | (exfalso; omega)))
/-- a full drawing: every point is joined -/
def FD (L : Int) (m : Int → Int) : Prop := ∀ a, 0 ≤ a → a < L → m a ≠ -1
/-- how many chords have begun ahead of a -/
def nb (m : Int → Int) (a : Int) : Int := rs (fun a => if a < m a then 1 else 0) 0 a.toNat
theorem nb_s (m : Int → Int) {a : Int} (h : 0 ≤ a) : nb m (a + 1) = nb m a + (if a < m a then 1 else 0) := by
  unfold nb
  have e : (a + 1).toNat = a.toNat + 1 := by omega
  rw [e, rs_last]
  have e2 : 0 + (a.toNat : Int) = a := by omega
  rw [e2]
theorem nb_0 (m : Int → Int) : nb m 0 = 0 := rfl
theorem nb_r (m : Int → Int) {a : Int} (h : 0 ≤ a) : 0 ≤ nb m a ∧ nb m a ≤ a := by
  have := rs_01 (f := fun a => if a < m a then 1 else 0) a.toNat 0 (fun j _ _ => by split <;> omega)
  unfold nb
  omega
theorem nb_mono (m : Int → Int) : ∀ (k : Nat) (a : Int), 0 ≤ a → nb m a ≤ nb m (a + k)
  | 0, a, h => by simp
  | k + 1, a, h => by
    have h1 := nb_mono m k a h
    have e : a + ((k + 1 : Nat) : Int) = a + k + 1 := by omega
    have h2 := nb_s m (a := a + k) (by omega)
    rw [e, h2]
    split <;> omega
/-- what stands ahead of a full drawing in the order -/
def pl (m : Int → Int) (n : Int) (a : Int) : Int := if a < m a then rs (fun b => if a < m b then 1 else 0) (a + 1) (m a - (a + 1)).toNat * fdv (n - 1 - nb m a) else 0
set_option maxRecDepth 100000 in
theorem r_X1_fullOnesAhead (D : Nat) (σ : Sg) (hw : WD (σ 1 0) (σ 7)) (hf : 2 * nb (σ 7) (σ 1 0) = σ 1 0) : Ret (D + 2) miX1_fullOnesAhead [aR 1] σ (some (aL (rs (pl (σ 7) (nb (σ 7) (σ 1 0))) 0 (σ 1 0).toNat))) σ := by
  have w1 := hw.1
  have w2 := hw.2.1
  generalize hn : nb (σ 7) (σ 1 0) = n at hf
  refine Ret.of 1 [some (aR 1), none, none, none, none] rfl (by decide) rfl (Nat.le_of_ble_eq_true rfl) ?_
  have loop : ∀ (k : Nat) (i acc lf : Int), 0 ≤ i → i + k = σ 1 0 → lf = n - nb (σ 7) i → V (D + 1) miX1_fullOnesAhead 1 (some (aL (acc + rs (pl (σ 7) n) i k))) σ 12 [some (aR 1), some (aL acc), none, some (aI lf), some (aI i)] [] σ := by
    intro k
    induction k with
    | zero =>
      intro i acc lf h0 hi hl
      have hb := nb_r (σ 7) h0
      have hb2 := nb_mono (σ 7) (σ 1 0 - i).toNat i h0
      refine vX1_fullOnesAhead 60 ?_
      simp only [↓S_X1_fullOnesAhead, ↓pI_c, ↓pL_c, ↓pR_c, ↓pC_I, ↓pC_R, ↓pE_n, ↓gI_0, ↓gI_s, ↓gL_0, ↓gL_s, ↓gR_0, ↓gR_s, ↓popN_0, ↓popN_s, ↓kl_I, ↓kl_L, ↓kl_R, ↓kl_n, ↓put1_0, ↓put1_s, ↓putk_0, ↓putk_s, ↓put2_0, ↓put2_s, ↓putl_0, ↓putl_s, ↓callK_0, ↓callK_1, ↓callK_2, cats_n, cats_c, catA_I, catA_L, catA_R, KL, LV, lval_f, ltag_f, llen_f, lcm_lt, lcm_le, lcm_gt, lcm_ge, lcm_eq, lcm_R1, lcm_R2, inR, inL, true_and, and_true, eq_self, List.head?_cons, Option.some.injEq, Sum.inr.injEq, Sum.inl.injEq, false_or, or_false, true_or, or_true, Nat.reduceAdd, Nat.reduceLeDiff, Int.reduceLE, Int.reduceLT, Int.reduceEq, Int.reduceNeg, Int.reduceAdd, Int.reduceSub, Int.reduceMul, Int.reduceNe, ne_eq, not_false_eq_true, not_true_eq_false, false_implies, forall_const, Nat.le_refl, Nat.zero_le, implies_true, and_self]
      simp only [rs, Int.add_zero]
      (repeat' (first | apply And.intro | intro _))
      all_goals (try first | omega | trivial | (rfl; done) | assumption | (exfalso; omega) | (split <;> first | omega | (rfl; done) | (exfalso; omega)))
    | succ k ih =>
      intro i acc lf h0 hi hl
      have hr := hw.r h0 (by omega)
      have hb := nb_r (σ 7) h0
      have hs := nb_s (σ 7) h0
      have hb2 := nb_mono (σ 7) (σ 1 0 - (i + 1)).toNat (i + 1) (by omega)
      have e : i + 1 + ((σ 1 0 - (i + 1)).toNat : Int) = σ 1 0 := by omega
      rw [e] at hb2
      rw [rs_s]
      unfold pl
      refine vX1_fullOnesAhead 60 ?_
      simp only [↓S_X1_fullOnesAhead, ↓pI_c, ↓pL_c, ↓pR_c, ↓pC_I, ↓pC_R, ↓pE_n, ↓gI_0, ↓gI_s, ↓gL_0, ↓gL_s, ↓gR_0, ↓gR_s, ↓popN_0, ↓popN_s, ↓kl_I, ↓kl_L, ↓kl_R, ↓kl_n, ↓put1_0, ↓put1_s, ↓putk_0, ↓putk_s, ↓put2_0, ↓put2_s, ↓putl_0, ↓putl_s, ↓callK_0, ↓callK_1, ↓callK_2, cats_n, cats_c, catA_I, catA_L, catA_R, KL, LV, lval_f, ltag_f, llen_f, lcm_lt, lcm_le, lcm_gt, lcm_ge, lcm_eq, lcm_R1, lcm_R2, inR, inL, true_and, and_true, eq_self, List.head?_cons, Option.some.injEq, Sum.inr.injEq, Sum.inl.injEq, false_or, or_false, true_or, or_true, Nat.reduceAdd, Nat.reduceLeDiff, Int.reduceLE, Int.reduceLT, Int.reduceEq, Int.reduceNeg, Int.reduceAdd, Int.reduceSub, Int.reduceMul, Int.reduceNe, ne_eq, not_false_eq_true, not_true_eq_false, false_implies, forall_const, Nat.le_refl, Nat.zero_le, implies_true, and_self]
      refine ⟨by omega, by omega, fun q => by omega, fun q => ⟨_, _, r_X1_begins D σ i h0 (by omega) (by omega), ?_⟩⟩
      by_cases c1 : i < σ 7 i
      · rw [if_pos c1, if_pos c1]
        rw [if_pos c1] at hs
        have hlp := rs_01 (f := fun b => if i < σ 7 b then 1 else 0) (σ 7 i - (i + 1)).toNat (i + 1) (fun j _ _ => by split <;> omega)
        refine ⟨by omega, fun q => by omega, fun q => ⟨by omega, fun q => by omega, fun q => ⟨_, _, r_X1_lesserPartners D σ i hw h0 (by omega), by omega, by omega, by omega, ?_⟩⟩⟩
        have ih1 := ih (i + 1) (acc + rs (fun b => if i < σ 7 b then 1 else 0) (i + 1) (σ 7 i - (i + 1)).toNat * fdv (n - 1 - nb (σ 7) i)) (lf - 1) (by omega) (by omega) (by omega)
        have e3 : lf + -1 = n - 1 - nb (σ 7) i := by omega
        have e4 : lf - 1 = lf + -1 := by omega
        rw [e4] at ih1
        rw [e3] at ih1 ⊢
        rw [← Int.add_assoc]
        exact ih1
      · rw [if_neg c1, if_neg c1, Int.zero_add]
        rw [if_neg c1] at hs
        have ih1 := ih (i + 1) acc lf (by omega) (by omega) (by omega)
        (repeat' (first | apply And.intro | intro _))
        all_goals (try first | omega | trivial | (rfl; done) | assumption | (exfalso; omega) | (split <;> first | omega | (rfl; done) | (exfalso; omega)))
  refine vX1_fullOnesAhead 60 ?_
  simp only [↓S_X1_fullOnesAhead, ↓pI_c, ↓pL_c, ↓pR_c, ↓pC_I, ↓pC_R, ↓pE_n, ↓gI_0, ↓gI_s, ↓gL_0, ↓gL_s, ↓gR_0, ↓gR_s, ↓popN_0, ↓popN_s, ↓kl_I, ↓kl_L, ↓kl_R, ↓kl_n, ↓put1_0, ↓put1_s, ↓putk_0, ↓putk_s, ↓put2_0, ↓put2_s, ↓putl_0, ↓putl_s, ↓callK_0, ↓callK_1, ↓callK_2, cats_n, cats_c, catA_I, catA_L, catA_R, KL, LV, lval_f, ltag_f, llen_f, lcm_lt, lcm_le, lcm_gt, lcm_ge, lcm_eq, lcm_R1, lcm_R2, inR, inL, true_and, and_true, eq_self, List.head?_cons, Option.some.injEq, Sum.inr.injEq, Sum.inl.injEq, false_or, or_false, true_or, or_true, Nat.reduceAdd, Nat.reduceLeDiff, Int.reduceLE, Int.reduceLT, Int.reduceEq, Int.reduceNeg, Int.reduceAdd, Int.reduceSub, Int.reduceMul, Int.reduceNe, ne_eq, not_false_eq_true, not_true_eq_false, false_implies, forall_const, Nat.le_refl, Nat.zero_le, implies_true, and_self]
  have hb := nb_r (σ 7) w1
  have := loop (σ 1 0).toNat 0 0 ((σ 1 0).tdiv 2) (by omega) (by omega) (by rw [nb_0, Int.tdiv_eq_ediv_of_nonneg w1]; omega)
  rw [Int.zero_add] at this
  exact ⟨by omega, this⟩
set_option maxRecDepth 100000 in
theorem r_X1_turnAbout (D : Nat) (σ : Sg) (hw : WD (σ 1 0) (σ 7)) : ∃ τ, Ret (D + 1) miX1_turnAbout [aR 1] σ none τ ∧ (∀ a b, a ≠ 7 → a ≠ 11 → τ a b = σ a b) ∧ ∀ b, τ 7 b = if 0 ≤ b ∧ b < σ 1 0 then (if σ 7 (σ 1 0 - 1 - b) = -1 then -1 else σ 1 0 - 1 - σ 7 (σ 1 0 - 1 - b)) else σ 7 b := by
  have w1 := hw.1
  have w2 := hw.2.1
  have loop : ∀ (k : Nat) (i : Int) (ρ : Sg), 0 ≤ i → i + k = σ 1 0 → (∀ a b, a ≠ 11 → ρ a b = σ a b) → (∀ b, 0 ≤ b → b < i → ρ 11 b = if σ 7 (σ 1 0 - 1 - b) = -1 then -1 else σ 1 0 - 1 - σ 7 (σ 1 0 - 1 - b)) →
      ∃ τ, V D miX1_turnAbout 1 none τ 2 [some (aR 1), some (aI i), none] [] ρ ∧ (∀ a b, a ≠ 7 → a ≠ 11 → τ a b = σ a b) ∧ ∀ b, τ 7 b = if 0 ≤ b ∧ b < σ 1 0 then (if σ 7 (σ 1 0 - 1 - b) = -1 then -1 else σ 1 0 - 1 - σ 7 (σ 1 0 - 1 - b)) else σ 7 b := by
    intro k
    induction k with
    | zero =>
      intro i ρ h0 hi hρ hc
      refine ⟨cpy ρ 11 7 0 0 (σ 1 0), ?_, fun a b h1 h2 => ?_, fun b => ?_⟩
      · have e1 := hρ 1 0 (by decide)
        refine vX1_turnAbout 60 ?_
        simp only [↓S_X1_turnAbout_1, ↓S_X1_turnAbout_2, ↓pI_c, ↓pL_c, ↓pR_c, ↓pC_I, ↓pC_R, ↓pE_n, ↓gI_0, ↓gI_s, ↓gL_0, ↓gL_s, ↓gR_0, ↓gR_s, ↓popN_0, ↓popN_s, ↓kl_I, ↓kl_L, ↓kl_R, ↓kl_n, ↓put1_0, ↓put1_s, ↓putk_0, ↓putk_s, ↓put2_0, ↓put2_s, ↓putl_0, ↓putl_s, ↓callK_0, ↓callK_1, ↓callK_2, cats_n, cats_c, catA_I, catA_L, catA_R, KL, LV, lval_f, ltag_f, llen_f, lcm_lt, lcm_le, lcm_gt, lcm_ge, lcm_eq, lcm_R1, lcm_R2, inR, inL, true_and, and_true, eq_self, List.head?_cons, Option.some.injEq, Sum.inr.injEq, Sum.inl.injEq, false_or, or_false, true_or, or_true, Nat.reduceAdd, Nat.reduceLeDiff, Int.reduceLE, Int.reduceLT, Int.reduceEq, Int.reduceNeg, Int.reduceAdd, Int.reduceSub, Int.reduceMul, Int.reduceNe, ne_eq, not_false_eq_true, not_true_eq_false, false_implies, forall_const, Nat.le_refl, Nat.zero_le, implies_true, and_self]
        rw [e1]
        (repeat' (first | apply And.intro | intro _))
        all_goals (try first | omega | trivial | (rfl; done) | assumption | (exfalso; omega) | (split <;> first | omega | (rfl; done) | (exfalso; omega)))
      · unfold cpy
        rw [if_neg (by omega)]
        exact hρ a b h2
      · unfold cpy
        by_cases q : 0 ≤ b ∧ b < σ 1 0
        · rw [if_pos q, if_pos ⟨rfl, by omega, by omega⟩]
          have e2 : 0 + (b - 0) = b := by omega
          rw [e2]
          exact hc b q.1 (by omega)
        · rw [if_neg q, if_neg (by omega)]
          exact hρ 7 b (by decide)
    | succ k ih =>
      intro i ρ h0 hi hρ hc
      have hr := hw.r (a := σ 1 0 - 1 - i) (by omega) (by omega)
      have e1 := hρ 1 0 (by decide)
      have e7 := hρ 7 (σ 1 0 - 1 - i) (by decide)
      obtain ⟨τ, g1, g2, g3⟩ := ih (i + 1) (up ρ 11 i (if σ 7 (σ 1 0 - 1 - i) = -1 then -1 else σ 1 0 - 1 - σ 7 (σ 1 0 - 1 - i))) (by omega) (by omega) (fun a b h => by unfold up; rw [if_neg (fun z => h z.1)]; exact hρ a b h) (fun b h1 h2 => by
        unfold up
        by_cases q : b = i
        · subst q
          rw [if_pos ⟨rfl, rfl⟩]
        · rw [if_neg (fun z => q z.2)]
          exact hc b h1 (by omega))
      refine ⟨τ, ?_, g2, g3⟩
      refine vX1_turnAbout 60 ?_
      simp only [↓S_X1_turnAbout_1, ↓S_X1_turnAbout_2, ↓pI_c, ↓pL_c, ↓pR_c, ↓pC_I, ↓pC_R, ↓pE_n, ↓gI_0, ↓gI_s, ↓gL_0, ↓gL_s, ↓gR_0, ↓gR_s, ↓popN_0, ↓popN_s, ↓kl_I, ↓kl_L, ↓kl_R, ↓kl_n, ↓put1_0, ↓put1_s, ↓putk_0, ↓putk_s, ↓put2_0, ↓put2_s, ↓putl_0, ↓putl_s, ↓callK_0, ↓callK_1, ↓callK_2, cats_n, cats_c, catA_I, catA_L, catA_R, KL, LV, lval_f, ltag_f, llen_f, lcm_lt, lcm_le, lcm_gt, lcm_ge, lcm_eq, lcm_R1, lcm_R2, inR, inL, true_and, and_true, eq_self, List.head?_cons, Option.some.injEq, Sum.inr.injEq, Sum.inl.injEq, false_or, or_false, true_or, or_true, Nat.reduceAdd, Nat.reduceLeDiff, Int.reduceLE, Int.reduceLT, Int.reduceEq, Int.reduceNeg, Int.reduceAdd, Int.reduceSub, Int.reduceMul, Int.reduceNe, ne_eq, not_false_eq_true, not_true_eq_false, false_implies, forall_const, Nat.le_refl, Nat.zero_le, implies_true, and_self]
      rw [e1, e7]
      by_cases q : σ 7 (σ 1 0 - 1 - i) = -1
      · rw [if_pos q] at g1
        (repeat' (first | apply And.intro | intro _))
        all_goals (try first | omega | trivial | (rfl; done) | assumption | (exfalso; omega) | (exact V.wk g1 (by simp [lle])) | (split <;> first | omega | (rfl; done) | (exfalso; omega)))
      · rw [if_neg q] at g1
        (repeat' (first | apply And.intro | intro _))
        all_goals (try first | omega | trivial | (rfl; done) | assumption | (exfalso; omega) | (exact V.wk g1 (by simp [lle])) | (split <;> first | omega | (rfl; done) | (exfalso; omega)))
  obtain ⟨τ, g1, g2, g3⟩ := loop (σ 1 0).toNat 0 σ (by omega) (by omega) (fun a b _ => rfl) (fun b h1 h2 => by omega)
  refine ⟨τ, ?_, g2, g3⟩
  refine Ret.of 1 [some (aR 1), none, none] rfl (by decide) rfl (Nat.le_of_ble_eq_true rfl) ?_
  refine vX1_turnAbout 60 ?_
  simp only [↓S_X1_turnAbout_1, ↓S_X1_turnAbout_2, ↓pI_c, ↓pL_c, ↓pR_c, ↓pC_I, ↓pC_R, ↓pE_n, ↓gI_0, ↓gI_s, ↓gL_0, ↓gL_s, ↓gR_0, ↓gR_s, ↓popN_0, ↓popN_s, ↓kl_I, ↓kl_L, ↓kl_R, ↓kl_n, ↓put1_0, ↓put1_s, ↓putk_0, ↓putk_s, ↓put2_0, ↓put2_s, ↓putl_0, ↓putl_s, ↓callK_0, ↓callK_1, ↓callK_2, cats_n, cats_c, catA_I, catA_L, catA_R, KL, LV, lval_f, ltag_f, llen_f, lcm_lt, lcm_le, lcm_gt, lcm_ge, lcm_eq, lcm_R1, lcm_R2, inR, inL, true_and, and_true, eq_self, List.head?_cons, Option.some.injEq, Sum.inr.injEq, Sum.inl.injEq, false_or, or_false, true_or, or_true, Nat.reduceAdd, Nat.reduceLeDiff, Int.reduceLE, Int.reduceLT, Int.reduceEq, Int.reduceNeg, Int.reduceAdd, Int.reduceSub, Int.reduceMul, Int.reduceNe, ne_eq, not_false_eq_true, not_true_eq_false, false_implies, forall_const, Nat.le_refl, Nat.zero_le, implies_true, and_self]
  exact g1

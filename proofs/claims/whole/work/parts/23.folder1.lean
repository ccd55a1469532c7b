/-! Folder: the tables -/
def ofr (v nn : Int) (x : Int × Int) : Int × Int := if v < x.1 then (v, nn) else if v = x.1 then (x.1, x.2 + nn) else x
/-- what a chord (a, c) in the stretch a .. e - 1 offers -/
def stp (sc : Int → Int → Int) (mj : Int → Int → Bool) (bn : Int) (T0 T1 W0 W1 : Int → Int → Int) (w a e c : Int) (x : Int × Int) : Int × Int := if mj a c = true then ofr (sc a c + (if w = 1 ∧ c = e - 1 then bn else 0) + T1 (a + 1) c + T0 (c + 1) e) (W1 (a + 1) c * W0 (c + 1) e) x else x
def DPE (n : Int) (sc : Int → Int → Int) (mj : Int → Int → Bool) (bn : Int) (T0 T1 W0 W1 : Int → Int → Int) : Prop := ∀ a e, 0 ≤ a → a ≤ e → e ≤ n → (a = e → T0 a e = 0 ∧ T1 a e = 0 ∧ W0 a e = 1 ∧ W1 a e = 1) ∧ (a < e → (T0 a e, W0 a e) = fr (stp sc mj bn T0 T1 W0 W1 0 a e) (a + 1) (e - (a + 1)).toNat (T0 (a + 1) e, W0 (a + 1) e) ∧ (T1 a e, W1 a e) = fr (stp sc mj bn T0 T1 W0 W1 1 a e) (a + 1) (e - (a + 1)).toNat (T0 (a + 1) e, W0 (a + 1) e))
/-- scores lie in bounds -/
def scB (n : Int) (sc : Int → Int → Int) (bn : Int) : Prop := (∀ a b, 0 ≤ a → a < n → 0 ≤ b → b < n → -20 ≤ sc a b ∧ sc a b ≤ 21) ∧ -20 ≤ bn ∧ bn ≤ 20
theorem ofr_1 (v nn : Int) (x : Int × Int) : (ofr v nn x).1 = if v < x.1 then v else x.1 := by
  unfold ofr
  split
  · rfl
  · split <;> rfl
/-- the least score of stretches at hand bounds the next -/
theorem stp_bd {n : Int} {sc : Int → Int → Int} {mj : Int → Int → Bool} {bn : Int} {T0 T1 W0 W1 : Int → Int → Int} (hs : scB n sc bn) {w a e : Int} (a0 : 0 ≤ a) (ae : a < e) (en : e ≤ n) (hT : ∀ x y, a < x → x ≤ y → y ≤ e → (-41 * (y - x) ≤ T0 x y ∧ T0 x y ≤ 0) ∧ (-41 * (y - x) ≤ T1 x y ∧ T1 x y ≤ 0)) : ∀ (k : Nat) (i : Int) (x : Int × Int), a < i → i + k ≤ e → (-41 * (e - a) ≤ x.1 ∧ x.1 ≤ 0) → -41 * (e - a) ≤ (fr (stp sc mj bn T0 T1 W0 W1 w a e) i k x).1 ∧ (fr (stp sc mj bn T0 T1 W0 W1 w a e) i k x).1 ≤ 0
  | 0, i, x, _, _, h => h
  | k + 1, i, x, h1, h2, h => by
    rw [fr_s]
    refine stp_bd hs a0 ae en hT k (i + 1) _ (by omega) (by omega) ?_
    unfold stp
    split
    · rw [ofr_1]
      have b1 := (hT (a + 1) i (by omega) (by omega) (by omega)).2
      have b2 := (hT (i + 1) e (by omega) (by omega) (by omega)).1
      have b3 := hs.1 a i a0 (by omega) (by omega) (by omega)
      have b4 := hs.2
      have b5 : -20 ≤ (if w = 1 ∧ i = e - 1 then bn else 0) ∧ (if w = 1 ∧ i = e - 1 then bn else 0) ≤ 20 := by split <;> omega
      generalize (if w = 1 ∧ i = e - 1 then bn else 0) = bb at b5
      split <;> omega
    · exact h
theorem DPE.bd {n : Int} {sc : Int → Int → Int} {mj : Int → Int → Bool} {bn : Int} {T0 T1 W0 W1 : Int → Int → Int} (hs : scB n sc bn) (h : DPE n sc mj bn T0 T1 W0 W1) : ∀ (k : Nat) (a e : Int), 0 ≤ a → a ≤ e → e ≤ n → e - a < k → (-41 * (e - a) ≤ T0 a e ∧ T0 a e ≤ 0) ∧ (-41 * (e - a) ≤ T1 a e ∧ T1 a e ≤ 0)
  | 0, a, e, _, h1, _, h2 => by omega
  | k + 1, a, e, a0, ae, en, hk => by
    obtain ⟨d1, d2⟩ := h a e a0 ae en
    by_cases q : a = e
    · have := d1 q
      omega
    · obtain ⟨g1, g2⟩ := d2 (by omega)
      have ih : ∀ x y, a < x → x ≤ y → y ≤ e → (-41 * (y - x) ≤ T0 x y ∧ T0 x y ≤ 0) ∧ (-41 * (y - x) ≤ T1 x y ∧ T1 x y ≤ 0) := fun x y h1 h2 h3 => DPE.bd hs h k x y (by omega) h2 (by omega) (by omega)
      have i0 := (ih (a + 1) e (by omega) (by omega) (by omega)).1
      have s0 := stp_bd (mj := mj) (W0 := W0) (W1 := W1) hs (w := 0) a0 (show a < e by omega) en ih (e - (a + 1)).toNat (a + 1) (T0 (a + 1) e, W0 (a + 1) e) (by omega) (by omega) (by show -41 * (e - a) ≤ T0 (a + 1) e ∧ T0 (a + 1) e ≤ 0; omega)
      have s1 := stp_bd (mj := mj) (W0 := W0) (W1 := W1) hs (w := 1) a0 (show a < e by omega) en ih (e - (a + 1)).toNat (a + 1) (T0 (a + 1) e, W0 (a + 1) e) (by omega) (by omega) (by show -41 * (e - a) ≤ T0 (a + 1) e ∧ T0 (a + 1) e ≤ 0; omega)
      rw [← g1] at s0
      rw [← g2] at s1
      exact ⟨s0, s1⟩
theorem DPE.one {n : Int} {sc sc' : Int → Int → Int} {mj mj' : Int → Int → Bool} {bn : Int} {T0 T1 W0 W1 T0' T1' W0' W1' : Int → Int → Int} (hsc : ∀ a b, 0 ≤ a → a < n → 0 ≤ b → b < n → sc a b = sc' a b ∧ mj a b = mj' a b) (h : DPE n sc mj bn T0 T1 W0 W1) (h' : DPE n sc' mj' bn T0' T1' W0' W1') : ∀ (k : Nat) (a e : Int), 0 ≤ a → a ≤ e → e ≤ n → e - a < k → T0 a e = T0' a e ∧ T1 a e = T1' a e ∧ W0 a e = W0' a e ∧ W1 a e = W1' a e
  | 0, a, e, _, h1, _, h2 => by omega
  | k + 1, a, e, a0, ae, en, hk => by
    obtain ⟨d1, d2⟩ := h a e a0 ae en
    obtain ⟨d3, d4⟩ := h' a e a0 ae en
    by_cases q : a = e
    · have := d1 q
      have := d3 q
      omega
    · obtain ⟨g1, g2⟩ := d2 (by omega)
      obtain ⟨g3, g4⟩ := d4 (by omega)
      have ih : ∀ x y, a < x → x ≤ y → y ≤ e → _ := fun x y (h1 : a < x) (h2 : x ≤ y) (h3 : y ≤ e) => DPE.one hsc h h' k x y (by omega) h2 (by omega) (by omega)
      have cong : ∀ w, fr (stp sc mj bn T0 T1 W0 W1 w a e) (a + 1) (e - (a + 1)).toNat (T0 (a + 1) e, W0 (a + 1) e) = fr (stp sc' mj' bn T0' T1' W0' W1' w a e) (a + 1) (e - (a + 1)).toNat (T0' (a + 1) e, W0' (a + 1) e) := by
        intro w
        have i1 := ih (a + 1) e (by omega) (by omega) (by omega)
        rw [i1.1, i1.2.2.1]
        refine fr_congr _ _ _ (fun j x j0 j1 => ?_)
        have i2 := ih (a + 1) j (by omega) (by omega) (by omega)
        have i3 := ih (j + 1) e (by omega) (by omega) (by omega)
        have i4 := hsc a j a0 (by omega) (by omega) (by omega)
        unfold stp
        rw [i2.2.1, i2.2.2.2, i3.1, i3.2.2.1, i4.1, i4.2]
      have c0 := cong 0
      have c1 := cong 1
      rw [← g1, ← g3] at c0
      rw [← g2, ← g4] at c1
      exact ⟨(Prod.mk.inj c0).1, (Prod.mk.inj c1).1, (Prod.mk.inj c0).2, (Prod.mk.inj c1).2⟩
abbrev cT0 (σ : Sg) (a e : Int) : Int := σ (45 + a) e
abbrev cT1 (σ : Sg) (a e : Int) : Int := σ (70 + a) e
abbrev cW0 (σ : Sg) (a e : Int) : Int := σ (95 + a) e
abbrev cW1 (σ : Sg) (a e : Int) : Int := σ (120 + a) e
set_option maxRecDepth 100000 in
theorem r_X2_keepLoose (D : Nat) (σ : Sg) (a e : Int) (a0 : 0 ≤ a) (a1 : a < 25) (e0 : 0 ≤ e) (e1 : e < 25) : Ret (D + 1) miX2_keepLoose [aR 2, aI a, aI e] σ none (up (up σ (45 + a) e (σ 2 7)) (95 + a) e (σ 2 8)) := by
  have hk := (krow (i := a)).2.1 a0 a1
  have e8 : up σ (45 + a) e (σ 2 7) 2 8 = σ 2 8 := by unfold up; rw [if_neg (by omega)]
  refine Ret.of 2 [some (aR 2), some (aI a), some (aI e)] rfl (by decide) rfl (Nat.le_of_ble_eq_true rfl) ?_
  refine vX2_keepLoose 60 ?_
  simp only [↓S_X2_keepLoose, ↓pI_c, ↓pL_c, ↓pR_c, ↓pC_I, ↓pC_R, ↓pE_n, ↓gI_0, ↓gI_s, ↓gL_0, ↓gL_s, ↓gR_0, ↓gR_s, ↓popN_0, ↓popN_s, ↓kl_I, ↓kl_L, ↓kl_R, ↓kl_n, ↓put1_0, ↓put1_s, ↓putk_0, ↓putk_s, ↓put2_0, ↓put2_s, ↓putl_0, ↓putl_s, ↓callK_0, ↓callK_1, ↓callK_2, cats_n, cats_c, catA_I, catA_L, catA_R, KL, LV, lval_f, ltag_f, llen_f, lcm_lt, lcm_le, lcm_gt, lcm_ge, lcm_eq, lcm_R1, lcm_R2, inR, inL, true_and, and_true, eq_self, List.head?_cons, Option.some.injEq, Sum.inr.injEq, Sum.inl.injEq, false_or, or_false, true_or, or_true, Nat.reduceAdd, Nat.reduceLeDiff, Int.reduceLE, Int.reduceLT, Int.reduceEq, Int.reduceNeg, Int.reduceAdd, Int.reduceSub, Int.reduceMul, Int.reduceNe, ne_eq, not_false_eq_true, not_true_eq_false, false_implies, forall_const, Nat.le_refl, Nat.zero_le, implies_true, and_self]
  rw [hk.1, hk.2.1, hk.2.2.2.2.1, hk.2.2.2.2.2.1, e8]
  (repeat' (first | apply And.intro | intro _))
  all_goals (try first | omega | trivial | (rfl; done) | assumption | (exfalso; omega) | (split <;> first | omega | (rfl; done) | (exfalso; omega)))
set_option maxRecDepth 100000 in
theorem r_X2_keepBound (D : Nat) (σ : Sg) (a e : Int) (a0 : 0 ≤ a) (a1 : a < 25) (e0 : 0 ≤ e) (e1 : e < 25) : Ret (D + 1) miX2_keepBound [aR 2, aI a, aI e] σ none (up (up σ (70 + a) e (σ 2 7)) (120 + a) e (σ 2 8)) := by
  have hk := (krow (i := a)).2.1 a0 a1
  have e8 : up σ (70 + a) e (σ 2 7) 2 8 = σ 2 8 := by unfold up; rw [if_neg (by omega)]
  refine Ret.of 2 [some (aR 2), some (aI a), some (aI e)] rfl (by decide) rfl (Nat.le_of_ble_eq_true rfl) ?_
  refine vX2_keepBound 60 ?_
  simp only [↓S_X2_keepBound, ↓pI_c, ↓pL_c, ↓pR_c, ↓pC_I, ↓pC_R, ↓pE_n, ↓gI_0, ↓gI_s, ↓gL_0, ↓gL_s, ↓gR_0, ↓gR_s, ↓popN_0, ↓popN_s, ↓kl_I, ↓kl_L, ↓kl_R, ↓kl_n, ↓put1_0, ↓put1_s, ↓putk_0, ↓putk_s, ↓put2_0, ↓put2_s, ↓putl_0, ↓putl_s, ↓callK_0, ↓callK_1, ↓callK_2, cats_n, cats_c, catA_I, catA_L, catA_R, KL, LV, lval_f, ltag_f, llen_f, lcm_lt, lcm_le, lcm_gt, lcm_ge, lcm_eq, lcm_R1, lcm_R2, inR, inL, true_and, and_true, eq_self, List.head?_cons, Option.some.injEq, Sum.inr.injEq, Sum.inl.injEq, false_or, or_false, true_or, or_true, Nat.reduceAdd, Nat.reduceLeDiff, Int.reduceLE, Int.reduceLT, Int.reduceEq, Int.reduceNeg, Int.reduceAdd, Int.reduceSub, Int.reduceMul, Int.reduceNe, ne_eq, not_false_eq_true, not_true_eq_false, false_implies, forall_const, Nat.le_refl, Nat.zero_le, implies_true, and_self]
  rw [hk.2.2.1, hk.2.2.2.1, hk.2.2.2.2.2.2.1, hk.2.2.2.2.2.2.2.1, e8]
  (repeat' (first | apply And.intro | intro _))
  all_goals (try first | omega | trivial | (rfl; done) | assumption | (exfalso; omega) | (split <;> first | omega | (rfl; done) | (exfalso; omega)))
set_option maxRecDepth 100000 in
theorem r_X2_offer (D : Nat) (σ : Sg) (v nn : Int) (hv : inR v) (hl : inR (σ 2 7)) : ∃ τ, Ret (D + 1) miX2_offer [aR 2, aI v, aL nn] σ none τ ∧ (∀ x y, ¬ (x = 2 ∧ (y = 7 ∨ y = 8)) → τ x y = σ x y) ∧ (τ 2 7, τ 2 8) = ofr v nn (σ 2 7, σ 2 8) := by
  unfold ofr
  by_cases c1 : v < σ 2 7
  · refine ⟨up (up σ 2 7 v) 2 8 nn, ?_, fun x y h => by unfold up; rw [if_neg (by omega), if_neg (by omega)], ?_⟩
    · refine Ret.of 2 [some (aR 2), some (aI v), some (aL nn), none] rfl (by decide) rfl (Nat.le_of_ble_eq_true rfl) ?_
      refine vX2_offer 60 ?_
      simp only [↓S_X2_offer, ↓pI_c, ↓pL_c, ↓pR_c, ↓pC_I, ↓pC_R, ↓pE_n, ↓gI_0, ↓gI_s, ↓gL_0, ↓gL_s, ↓gR_0, ↓gR_s, ↓popN_0, ↓popN_s, ↓kl_I, ↓kl_L, ↓kl_R, ↓kl_n, ↓put1_0, ↓put1_s, ↓putk_0, ↓putk_s, ↓put2_0, ↓put2_s, ↓putl_0, ↓putl_s, ↓callK_0, ↓callK_1, ↓callK_2, cats_n, cats_c, catA_I, catA_L, catA_R, KL, LV, lval_f, ltag_f, llen_f, lcm_lt, lcm_le, lcm_gt, lcm_ge, lcm_eq, lcm_R1, lcm_R2, inR, inL, true_and, and_true, eq_self, List.head?_cons, Option.some.injEq, Sum.inr.injEq, Sum.inl.injEq, false_or, or_false, true_or, or_true, Nat.reduceAdd, Nat.reduceLeDiff, Int.reduceLE, Int.reduceLT, Int.reduceEq, Int.reduceNeg, Int.reduceAdd, Int.reduceSub, Int.reduceMul, Int.reduceNe, ne_eq, not_false_eq_true, not_true_eq_false, false_implies, forall_const, Nat.le_refl, Nat.zero_le, implies_true, and_self]
      (repeat' (first | apply And.intro | intro _))
      all_goals (try first | omega | trivial | (rfl; done) | assumption | (exfalso; omega) | (split <;> first | omega | (rfl; done) | (exfalso; omega)))
    · rw [if_pos c1]
      unfold up
      rw [if_neg (by omega), if_pos ⟨rfl, rfl⟩, if_pos ⟨rfl, rfl⟩]
  · by_cases c2 : v = σ 2 7
    · refine ⟨up σ 2 8 (σ 2 8 + nn), ?_, fun x y h => by unfold up; rw [if_neg (by omega)], ?_⟩
      · refine Ret.of 2 [some (aR 2), some (aI v), some (aL nn), none] rfl (by decide) rfl (Nat.le_of_ble_eq_true rfl) ?_
        refine vX2_offer 60 ?_
        simp only [↓S_X2_offer, ↓pI_c, ↓pL_c, ↓pR_c, ↓pC_I, ↓pC_R, ↓pE_n, ↓gI_0, ↓gI_s, ↓gL_0, ↓gL_s, ↓gR_0, ↓gR_s, ↓popN_0, ↓popN_s, ↓kl_I, ↓kl_L, ↓kl_R, ↓kl_n, ↓put1_0, ↓put1_s, ↓putk_0, ↓putk_s, ↓put2_0, ↓put2_s, ↓putl_0, ↓putl_s, ↓callK_0, ↓callK_1, ↓callK_2, cats_n, cats_c, catA_I, catA_L, catA_R, KL, LV, lval_f, ltag_f, llen_f, lcm_lt, lcm_le, lcm_gt, lcm_ge, lcm_eq, lcm_R1, lcm_R2, inR, inL, true_and, and_true, eq_self, List.head?_cons, Option.some.injEq, Sum.inr.injEq, Sum.inl.injEq, false_or, or_false, true_or, or_true, Nat.reduceAdd, Nat.reduceLeDiff, Int.reduceLE, Int.reduceLT, Int.reduceEq, Int.reduceNeg, Int.reduceAdd, Int.reduceSub, Int.reduceMul, Int.reduceNe, ne_eq, not_false_eq_true, not_true_eq_false, false_implies, forall_const, Nat.le_refl, Nat.zero_le, implies_true, and_self]
        (repeat' (first | apply And.intro | intro _))
        all_goals (try first | omega | trivial | (rfl; done) | assumption | (exfalso; omega) | (split <;> first | omega | (rfl; done) | (exfalso; omega)))
      · rw [if_neg c1, if_pos c2]
        unfold up
        rw [if_neg (by omega), if_pos ⟨rfl, rfl⟩]
    · refine ⟨σ, ?_, fun x y h => rfl, ?_⟩
      · refine Ret.of 2 [some (aR 2), some (aI v), some (aL nn), none] rfl (by decide) rfl (Nat.le_of_ble_eq_true rfl) ?_
        refine vX2_offer 60 ?_
        simp only [↓S_X2_offer, ↓pI_c, ↓pL_c, ↓pR_c, ↓pC_I, ↓pC_R, ↓pE_n, ↓gI_0, ↓gI_s, ↓gL_0, ↓gL_s, ↓gR_0, ↓gR_s, ↓popN_0, ↓popN_s, ↓kl_I, ↓kl_L, ↓kl_R, ↓kl_n, ↓put1_0, ↓put1_s, ↓putk_0, ↓putk_s, ↓put2_0, ↓put2_s, ↓putl_0, ↓putl_s, ↓callK_0, ↓callK_1, ↓callK_2, cats_n, cats_c, catA_I, catA_L, catA_R, KL, LV, lval_f, ltag_f, llen_f, lcm_lt, lcm_le, lcm_gt, lcm_ge, lcm_eq, lcm_R1, lcm_R2, inR, inL, true_and, and_true, eq_self, List.head?_cons, Option.some.injEq, Sum.inr.injEq, Sum.inl.injEq, false_or, or_false, true_or, or_true, Nat.reduceAdd, Nat.reduceLeDiff, Int.reduceLE, Int.reduceLT, Int.reduceEq, Int.reduceNeg, Int.reduceAdd, Int.reduceSub, Int.reduceMul, Int.reduceNe, ne_eq, not_false_eq_true, not_true_eq_false, false_implies, forall_const, Nat.le_refl, Nat.zero_le, implies_true, and_self]
        (repeat' (first | apply And.intro | intro _))
        all_goals (try first | omega | trivial | (rfl; done) | assumption | (exfalso; omega) | (split <;> first | omega | (rfl; done) | (exfalso; omega)))
      · rw [if_neg c1, if_neg c2]
set_option maxRecDepth 100000 in
theorem r_X2_scoreWith (D : Nat) (σ : Sg) (a c e : Int) (h : WS σ) (a0 : 0 ≤ a) (ac : a < c) (ce : c < e) (en : e ≤ σ 4 0) : Ret (D + 2) miX2_scoreWith [aR 2, aR 4, aI a, aI c, aI e] σ (some (aI (csc σ a c + cT1 σ (a + 1) c + cT0 σ (c + 1) e))) σ := by
  have hn := h.1
  have hk := (krow (i := a + 1)).2.1 (by omega) (by omega)
  have hk2 := (krow (i := c + 1)).2.1 (by omega) (by omega)
  refine Ret.of 2 [some (aR 2), some (aR 4), some (aI a), some (aI c), some (aI e)] rfl (by decide) rfl (Nat.le_of_ble_eq_true rfl) ?_
  refine vX2_scoreWith 60 ?_
  simp only [↓S_X2_scoreWith, ↓pI_c, ↓pL_c, ↓pR_c, ↓pC_I, ↓pC_R, ↓pE_n, ↓gI_0, ↓gI_s, ↓gL_0, ↓gL_s, ↓gR_0, ↓gR_s, ↓popN_0, ↓popN_s, ↓kl_I, ↓kl_L, ↓kl_R, ↓kl_n, ↓put1_0, ↓put1_s, ↓putk_0, ↓putk_s, ↓put2_0, ↓put2_s, ↓putl_0, ↓putl_s, ↓callK_0, ↓callK_1, ↓callK_2, cats_n, cats_c, catA_I, catA_L, catA_R, KL, LV, lval_f, ltag_f, llen_f, lcm_lt, lcm_le, lcm_gt, lcm_ge, lcm_eq, lcm_R1, lcm_R2, inR, inL, true_and, and_true, eq_self, List.head?_cons, Option.some.injEq, Sum.inr.injEq, Sum.inl.injEq, false_or, or_false, true_or, or_true, Nat.reduceAdd, Nat.reduceLeDiff, Int.reduceLE, Int.reduceLT, Int.reduceEq, Int.reduceNeg, Int.reduceAdd, Int.reduceSub, Int.reduceMul, Int.reduceNe, ne_eq, not_false_eq_true, not_true_eq_false, false_implies, forall_const, Nat.le_refl, Nat.zero_le, implies_true, and_self]
  refine ⟨_, _, r_X4_scoreOf D σ a c h a0 (by omega) (by omega) (by omega), ?_⟩
  rw [hk.2.2.1, hk.2.2.2.1, hk2.1, hk2.2.1]
  (repeat' (first | apply And.intro | intro _))
  all_goals (try first | omega | trivial | (rfl; done) | assumption | (exfalso; omega) | (split <;> first | omega | (rfl; done) | (exfalso; omega)))

/-! Strand -/
def csc (σ : Sg) (a b : Int) : Int := σ (41 + σ 14 a) (σ 14 b)
def cmj (σ : Sg) (a b : Int) : Bool := decide (σ 4 1 < b - a) && decide (csc σ a b ≠ 21)
def WS (σ : Sg) : Prop := (0 ≤ σ 4 0 ∧ σ 4 0 ≤ 24) ∧ (∀ i, 0 ≤ i → i < σ 4 0 → 0 ≤ σ 14 i ∧ σ 14 i < 4) ∧ (0 ≤ σ 4 1 ∧ σ 4 1 ≤ 8) ∧ (-20 ≤ σ 4 2 ∧ σ 4 2 ≤ 20) ∧ (∀ x y, 0 ≤ x → x < 4 → 0 ≤ y → y < 4 → -20 ≤ σ (41 + x) y ∧ σ (41 + x) y ≤ 21)
theorem WS.sc {σ : Sg} (h : WS σ) {a b : Int} (a0 : 0 ≤ a) (a1 : a < σ 4 0) (b0 : 0 ≤ b) (b1 : b < σ 4 0) : -20 ≤ csc σ a b ∧ csc σ a b ≤ 21 := by
  have ha := h.2.1 a a0 a1
  have hb := h.2.1 b b0 b1
  exact h.2.2.2.2 _ _ ha.1 ha.2 hb.1 hb.2
theorem cmj_t {σ : Sg} {a b : Int} (h : cmj σ a b = true) : σ 4 1 < b - a ∧ csc σ a b ≠ 21 := by
  unfold cmj at h
  rw [Bool.and_eq_true] at h
  exact ⟨of_decide_eq_true h.1, of_decide_eq_true h.2⟩
theorem cmj_i {σ : Sg} {a b : Int} (h : σ 4 1 < b - a ∧ csc σ a b ≠ 21) : cmj σ a b = true := by
  unfold cmj
  rw [Bool.and_eq_true]
  exact ⟨decide_eq_true h.1, decide_eq_true h.2⟩
set_option maxRecDepth 100000 in
theorem r_X4_isLetter (D : Nat) (σ : Sg) (x : Int) (h : inR x) : Ret (D + 1) miX4_isLetter [aR 4, aI x] σ (some (aI (if 0 ≤ x ∧ x < 4 then 1 else 0))) σ := by
  refine Ret.of 4 [some (aR 4), some (aI x)] rfl (by decide) rfl (Nat.le_of_ble_eq_true rfl) ?_
  refine vX4_isLetter 60 ?_
  simp only [↓S_X4_isLetter, ↓pI_c, ↓pL_c, ↓pR_c, ↓pC_I, ↓pC_R, ↓pE_n, ↓gI_0, ↓gI_s, ↓gL_0, ↓gL_s, ↓gR_0, ↓gR_s, ↓popN_0, ↓popN_s, ↓kl_I, ↓kl_L, ↓kl_R, ↓kl_n, ↓put1_0, ↓put1_s, ↓putk_0, ↓putk_s, ↓put2_0, ↓put2_s, ↓putl_0, ↓putl_s, ↓callK_0, ↓callK_1, ↓callK_2, cats_n, cats_c, catA_I, catA_L, catA_R, KL, LV, lval_f, ltag_f, llen_f, lcm_lt, lcm_le, lcm_gt, lcm_ge, lcm_eq, lcm_R1, lcm_R2, inR, inL, true_and, and_true, eq_self, List.head?_cons, Option.some.injEq, Sum.inr.injEq, Sum.inl.injEq, false_or, or_false, true_or, or_true, Nat.reduceAdd, Nat.reduceLeDiff, Int.reduceLE, Int.reduceLT, Int.reduceEq, Int.reduceNeg, Int.reduceAdd, Int.reduceSub, Int.reduceMul, Int.reduceNe, ne_eq, not_false_eq_true, not_true_eq_false, false_implies, forall_const, Nat.le_refl, Nat.zero_le, implies_true, and_self]
  (repeat' (first | apply And.intro | intro _))
  all_goals (try first | omega | trivial | (rfl; done) | assumption | (exfalso; omega) | (split <;> first | omega | (rfl; done) | (exfalso; omega)))
set_option maxRecDepth 100000 in
theorem r_X4_append (D : Nat) (σ : Sg) (x : Int) (h0 : 0 ≤ σ 4 0) (h1 : σ 4 0 < 24) : Ret (D + 1) miX4_append [aR 4, aI x] σ none (up (up σ 14 (σ 4 0) x) 4 0 (σ 4 0 + 1)) := by
  refine Ret.of 4 [some (aR 4), some (aI x)] rfl (by decide) rfl (Nat.le_of_ble_eq_true rfl) ?_
  have e : up σ 14 (σ 4 0) x 4 0 = σ 4 0 := by unfold up; rw [if_neg (by omega)]
  refine vX4_append 60 ?_
  simp only [↓S_X4_append, ↓pI_c, ↓pL_c, ↓pR_c, ↓pC_I, ↓pC_R, ↓pE_n, ↓gI_0, ↓gI_s, ↓gL_0, ↓gL_s, ↓gR_0, ↓gR_s, ↓popN_0, ↓popN_s, ↓kl_I, ↓kl_L, ↓kl_R, ↓kl_n, ↓put1_0, ↓put1_s, ↓putk_0, ↓putk_s, ↓put2_0, ↓put2_s, ↓putl_0, ↓putl_s, ↓callK_0, ↓callK_1, ↓callK_2, cats_n, cats_c, catA_I, catA_L, catA_R, KL, LV, lval_f, ltag_f, llen_f, lcm_lt, lcm_le, lcm_gt, lcm_ge, lcm_eq, lcm_R1, lcm_R2, inR, inL, true_and, and_true, eq_self, List.head?_cons, Option.some.injEq, Sum.inr.injEq, Sum.inl.injEq, false_or, or_false, true_or, or_true, Nat.reduceAdd, Nat.reduceLeDiff, Int.reduceLE, Int.reduceLT, Int.reduceEq, Int.reduceNeg, Int.reduceAdd, Int.reduceSub, Int.reduceMul, Int.reduceNe, ne_eq, not_false_eq_true, not_true_eq_false, false_implies, forall_const, Nat.le_refl, Nat.zero_le, implies_true, and_self]
  rw [e]
  (repeat' (first | apply And.intro | intro _))
  all_goals (try first | omega | trivial | (rfl; done) | assumption | (exfalso; omega) | (split <;> first | omega | (rfl; done) | (exfalso; omega)))
set_option maxRecDepth 100000 in
theorem r_X4_scoreOf (D : Nat) (σ : Sg) (a b : Int) (h : WS σ) (a0 : 0 ≤ a) (a1 : a < σ 4 0) (b0 : 0 ≤ b) (b1 : b < σ 4 0) : Ret (D + 1) miX4_scoreOf [aR 4, aI a, aI b] σ (some (aI (csc σ a b))) σ := by
  have ha := h.2.1 a a0 a1
  have hb := h.2.1 b b0 b1
  have hn := h.1
  have hk := (krow (i := σ 14 a)).1 ha.1 ha.2
  unfold csc
  refine Ret.of 4 [some (aR 4), some (aI a), some (aI b)] rfl (by decide) rfl (Nat.le_of_ble_eq_true rfl) ?_
  refine vX4_scoreOf 60 ?_
  simp only [↓S_X4_scoreOf, ↓pI_c, ↓pL_c, ↓pR_c, ↓pC_I, ↓pC_R, ↓pE_n, ↓gI_0, ↓gI_s, ↓gL_0, ↓gL_s, ↓gR_0, ↓gR_s, ↓popN_0, ↓popN_s, ↓kl_I, ↓kl_L, ↓kl_R, ↓kl_n, ↓put1_0, ↓put1_s, ↓putk_0, ↓putk_s, ↓put2_0, ↓put2_s, ↓putl_0, ↓putl_s, ↓callK_0, ↓callK_1, ↓callK_2, cats_n, cats_c, catA_I, catA_L, catA_R, KL, LV, lval_f, ltag_f, llen_f, lcm_lt, lcm_le, lcm_gt, lcm_ge, lcm_eq, lcm_R1, lcm_R2, inR, inL, true_and, and_true, eq_self, List.head?_cons, Option.some.injEq, Sum.inr.injEq, Sum.inl.injEq, false_or, or_false, true_or, or_true, Nat.reduceAdd, Nat.reduceLeDiff, Int.reduceLE, Int.reduceLT, Int.reduceEq, Int.reduceNeg, Int.reduceAdd, Int.reduceSub, Int.reduceMul, Int.reduceNe, ne_eq, not_false_eq_true, not_true_eq_false, false_implies, forall_const, Nat.le_refl, Nat.zero_le, implies_true, and_self]
  rw [hk.1, hk.2]
  (repeat' (first | apply And.intro | intro _))
  all_goals (try first | omega | trivial | (rfl; done) | assumption | (exfalso; omega) | (split <;> first | omega | (rfl; done) | (exfalso; omega)))
set_option maxRecDepth 100000 in
theorem r_X4_mayJoin (D : Nat) (σ : Sg) (a b : Int) (h : WS σ) (a0 : 0 ≤ a) (a1 : a < σ 4 0) (b0 : 0 ≤ b) (b1 : b < σ 4 0) : Ret (D + 2) miX4_mayJoin [aR 4, aI a, aI b] σ (some (aI (if cmj σ a b = true then 1 else 0))) σ := by
  have hn := h.1
  have hg := h.2.2.1
  have hs := h.sc a0 a1 b0 b1
  refine Ret.of 4 [some (aR 4), some (aI a), some (aI b)] rfl (by decide) rfl (Nat.le_of_ble_eq_true rfl) ?_
  refine vX4_mayJoin 60 ?_
  simp only [↓S_X4_mayJoin, ↓pI_c, ↓pL_c, ↓pR_c, ↓pC_I, ↓pC_R, ↓pE_n, ↓gI_0, ↓gI_s, ↓gL_0, ↓gL_s, ↓gR_0, ↓gR_s, ↓popN_0, ↓popN_s, ↓kl_I, ↓kl_L, ↓kl_R, ↓kl_n, ↓put1_0, ↓put1_s, ↓putk_0, ↓putk_s, ↓put2_0, ↓put2_s, ↓putl_0, ↓putl_s, ↓callK_0, ↓callK_1, ↓callK_2, cats_n, cats_c, catA_I, catA_L, catA_R, KL, LV, lval_f, ltag_f, llen_f, lcm_lt, lcm_le, lcm_gt, lcm_ge, lcm_eq, lcm_R1, lcm_R2, inR, inL, true_and, and_true, eq_self, List.head?_cons, Option.some.injEq, Sum.inr.injEq, Sum.inl.injEq, false_or, or_false, true_or, or_true, Nat.reduceAdd, Nat.reduceLeDiff, Int.reduceLE, Int.reduceLT, Int.reduceEq, Int.reduceNeg, Int.reduceAdd, Int.reduceSub, Int.reduceMul, Int.reduceNe, ne_eq, not_false_eq_true, not_true_eq_false, false_implies, forall_const, Nat.le_refl, Nat.zero_le, implies_true, and_self]
  refine ⟨by omega, by omega, fun q => ?_, fun q => ⟨_, _, r_X4_scoreOf D σ a b h a0 a1 b0 b1, by omega, fun q2 => ?_, fun q2 => ?_⟩⟩
  · rw [if_neg (fun z => by have := cmj_t z; omega)]
    try trivial
  · rw [if_neg (fun z => (cmj_t z).2 q2)]
    try trivial
  · rw [if_pos (cmj_i ⟨by omega, q2⟩)]
    try trivial
/-- the drawing may be a fold of the strand -/
def okF (mj : Int → Int → Bool) (L : Int) (m : Int → Int) : Prop := ∀ a, 0 ≤ a → a < L → a < m a → mj a (m a) = true
def crs (L : Int) (m : Int → Int) : Int := rs (fun a => rs (fun c => if m a < m c then 1 else 0) (a + 1) (m a - (a + 1)).toNat) 0 L.toNat
theorem crs_r {L : Int} {m : Int → Int} (hw : WD L m) : 0 ≤ crs L m ∧ crs L m ≤ 576 := by
  have w1 := hw.1
  have w2 := hw.2.1
  have := rs_bound (f := fun a => rs (fun c => if m a < m c then 1 else 0) (a + 1) (m a - (a + 1)).toNat) (lo := 0) (hi := 24) L.toNat 0 (fun j j0 j1 => by
    have h1 := rs_01 (f := fun c => if m j < m c then 1 else 0) (m j - (j + 1)).toNat (j + 1) (fun i _ _ => by split <;> omega)
    have h2 := hw.r (a := j) j0 (by omega)
    show 0 ≤ rs (fun c => if m j < m c then 1 else 0) (j + 1) (m j - (j + 1)).toNat ∧ rs (fun c => if m j < m c then 1 else 0) (j + 1) (m j - (j + 1)).toNat ≤ 24
    omega)
  unfold crs
  omega
set_option maxRecDepth 100000 in
theorem r_X4_isFold (D : Nat) (σ : Sg) (h : WS σ) (hw : WD (σ 1 0) (σ 7)) : ∃ z, Ret (D + 3) miX4_isFold [aR 4, aR 1] σ (some (aI z)) σ ∧ ((z = 1 ∧ σ 1 0 = σ 4 0 ∧ crs (σ 1 0) (σ 7) ≤ 0 ∧ okF (cmj σ) (σ 1 0) (σ 7)) ∨ (z = 0 ∧ ¬ (σ 1 0 = σ 4 0 ∧ crs (σ 1 0) (σ 7) ≤ 0 ∧ okF (cmj σ) (σ 1 0) (σ 7)))) := by
  have w1 := hw.1
  have w2 := hw.2.1
  have hn := h.1
  have hc := r_X1_crossings (D + 1) σ hw
  have hcr := crs_r hw
  rw [show rs (fun a => rs (fun c => if σ 7 a < σ 7 c then 1 else 0) (a + 1) (σ 7 a - (a + 1)).toNat) 0 (σ 1 0).toNat = crs (σ 1 0) (σ 7) from rfl] at hc
  have loop : σ 1 0 = σ 4 0 → crs (σ 1 0) (σ 7) ≤ 0 → ∀ (k : Nat) (i : Int), 0 ≤ i → i + k = σ 4 0 → (∀ a, 0 ≤ a → a < i → a < σ 7 a → cmj σ a (σ 7 a) = true) → ∃ z, V (D + 2) miX4_isFold 4 (some (aI z)) σ 22 [some (aR 4), some (aR 1), some (aI i)] [] σ ∧ ((z = 1 ∧ σ 1 0 = σ 4 0 ∧ crs (σ 1 0) (σ 7) ≤ 0 ∧ okF (cmj σ) (σ 1 0) (σ 7)) ∨ (z = 0 ∧ ¬ (σ 1 0 = σ 4 0 ∧ crs (σ 1 0) (σ 7) ≤ 0 ∧ okF (cmj σ) (σ 1 0) (σ 7)))) := by
    intro eL eC k
    induction k with
    | zero =>
      intro i i0 i1 ha
      refine ⟨1, ?_, Or.inl ⟨rfl, eL, eC, fun a a0 a1 a2 => ha a a0 (by omega) a2⟩⟩
      refine vX4_isFold 60 ?_
      simp only [↓S_X4_isFold, ↓pI_c, ↓pL_c, ↓pR_c, ↓pC_I, ↓pC_R, ↓pE_n, ↓gI_0, ↓gI_s, ↓gL_0, ↓gL_s, ↓gR_0, ↓gR_s, ↓popN_0, ↓popN_s, ↓kl_I, ↓kl_L, ↓kl_R, ↓kl_n, ↓put1_0, ↓put1_s, ↓putk_0, ↓putk_s, ↓put2_0, ↓put2_s, ↓putl_0, ↓putl_s, ↓callK_0, ↓callK_1, ↓callK_2, cats_n, cats_c, catA_I, catA_L, catA_R, KL, LV, lval_f, ltag_f, llen_f, lcm_lt, lcm_le, lcm_gt, lcm_ge, lcm_eq, lcm_R1, lcm_R2, inR, inL, true_and, and_true, eq_self, List.head?_cons, Option.some.injEq, Sum.inr.injEq, Sum.inl.injEq, false_or, or_false, true_or, or_true, Nat.reduceAdd, Nat.reduceLeDiff, Int.reduceLE, Int.reduceLT, Int.reduceEq, Int.reduceNeg, Int.reduceAdd, Int.reduceSub, Int.reduceMul, Int.reduceNe, ne_eq, not_false_eq_true, not_true_eq_false, false_implies, forall_const, Nat.le_refl, Nat.zero_le, implies_true, and_self]
      (repeat' (first | apply And.intro | intro _))
      all_goals (try first | omega | trivial | (rfl; done) | assumption | (exfalso; omega) | (split <;> first | omega | (rfl; done) | (exfalso; omega)))
    | succ k ih =>
      intro i i0 i1 ha
      have hr := hw.r i0 (by omega)
      have hbg := r_X1_begins (D + 1) σ i i0 (by omega) (by omega)
      by_cases c1 : i < σ 7 i
      · rw [if_pos c1] at hbg
        have hl : σ 7 i < σ 1 0 := by
          rcases hw.2.2.1 i i0 (by omega) with q | q
          · omega
          · exact q.2.1
        have hmj := r_X4_mayJoin D σ i (σ 7 i) h i0 (by omega) (by omega) (by omega)
        by_cases c2 : cmj σ i (σ 7 i) = true
        · rw [if_pos c2] at hmj
          obtain ⟨z, t1, t2⟩ := ih (i + 1) (by omega) (by omega) (fun a a0 a1 a2 => by
            by_cases q : a = i
            · rw [q]; exact c2
            · exact ha a a0 (by omega) a2)
          refine ⟨z, ?_, t2⟩
          refine vX4_isFold 60 ?_
          simp only [↓S_X4_isFold, ↓pI_c, ↓pL_c, ↓pR_c, ↓pC_I, ↓pC_R, ↓pE_n, ↓gI_0, ↓gI_s, ↓gL_0, ↓gL_s, ↓gR_0, ↓gR_s, ↓popN_0, ↓popN_s, ↓kl_I, ↓kl_L, ↓kl_R, ↓kl_n, ↓put1_0, ↓put1_s, ↓putk_0, ↓putk_s, ↓put2_0, ↓put2_s, ↓putl_0, ↓putl_s, ↓callK_0, ↓callK_1, ↓callK_2, cats_n, cats_c, catA_I, catA_L, catA_R, KL, LV, lval_f, ltag_f, llen_f, lcm_lt, lcm_le, lcm_gt, lcm_ge, lcm_eq, lcm_R1, lcm_R2, inR, inL, true_and, and_true, eq_self, List.head?_cons, Option.some.injEq, Sum.inr.injEq, Sum.inl.injEq, false_or, or_false, true_or, or_true, Nat.reduceAdd, Nat.reduceLeDiff, Int.reduceLE, Int.reduceLT, Int.reduceEq, Int.reduceNeg, Int.reduceAdd, Int.reduceSub, Int.reduceMul, Int.reduceNe, ne_eq, not_false_eq_true, not_true_eq_false, false_implies, forall_const, Nat.le_refl, Nat.zero_le, implies_true, and_self]
          refine ⟨by omega, by omega, fun q => by omega, fun q => ⟨_, _, hbg, by omega, fun q => by omega, fun q => ⟨i0, by omega, _, _, hmj, by omega, fun q => t1, fun q => by omega⟩⟩⟩
        · rw [if_neg c2] at hmj
          refine ⟨0, ?_, Or.inr ⟨rfl, fun q => c2 (q.2.2 i i0 (by omega) c1)⟩⟩
          refine vX4_isFold 60 ?_
          simp only [↓S_X4_isFold, ↓pI_c, ↓pL_c, ↓pR_c, ↓pC_I, ↓pC_R, ↓pE_n, ↓gI_0, ↓gI_s, ↓gL_0, ↓gL_s, ↓gR_0, ↓gR_s, ↓popN_0, ↓popN_s, ↓kl_I, ↓kl_L, ↓kl_R, ↓kl_n, ↓put1_0, ↓put1_s, ↓putk_0, ↓putk_s, ↓put2_0, ↓put2_s, ↓putl_0, ↓putl_s, ↓callK_0, ↓callK_1, ↓callK_2, cats_n, cats_c, catA_I, catA_L, catA_R, KL, LV, lval_f, ltag_f, llen_f, lcm_lt, lcm_le, lcm_gt, lcm_ge, lcm_eq, lcm_R1, lcm_R2, inR, inL, true_and, and_true, eq_self, List.head?_cons, Option.some.injEq, Sum.inr.injEq, Sum.inl.injEq, false_or, or_false, true_or, or_true, Nat.reduceAdd, Nat.reduceLeDiff, Int.reduceLE, Int.reduceLT, Int.reduceEq, Int.reduceNeg, Int.reduceAdd, Int.reduceSub, Int.reduceMul, Int.reduceNe, ne_eq, not_false_eq_true, not_true_eq_false, false_implies, forall_const, Nat.le_refl, Nat.zero_le, implies_true, and_self]
          refine ⟨by omega, by omega, fun q => by omega, fun q => ⟨_, _, hbg, by omega, fun q => by omega, fun q => ⟨i0, by omega, _, _, hmj, by omega, fun q => by omega, fun q => ?_⟩⟩⟩
          trivial
      · rw [if_neg c1] at hbg
        obtain ⟨z, t1, t2⟩ := ih (i + 1) (by omega) (by omega) (fun a a0 a1 a2 => ha a a0 (by
          apply Classical.byContradiction
          intro q
          have : a = i := by omega
          subst this
          exact c1 a2) a2)
        refine ⟨z, ?_, t2⟩
        refine vX4_isFold 60 ?_
        simp only [↓S_X4_isFold, ↓pI_c, ↓pL_c, ↓pR_c, ↓pC_I, ↓pC_R, ↓pE_n, ↓gI_0, ↓gI_s, ↓gL_0, ↓gL_s, ↓gR_0, ↓gR_s, ↓popN_0, ↓popN_s, ↓kl_I, ↓kl_L, ↓kl_R, ↓kl_n, ↓put1_0, ↓put1_s, ↓putk_0, ↓putk_s, ↓put2_0, ↓put2_s, ↓putl_0, ↓putl_s, ↓callK_0, ↓callK_1, ↓callK_2, cats_n, cats_c, catA_I, catA_L, catA_R, KL, LV, lval_f, ltag_f, llen_f, lcm_lt, lcm_le, lcm_gt, lcm_ge, lcm_eq, lcm_R1, lcm_R2, inR, inL, true_and, and_true, eq_self, List.head?_cons, Option.some.injEq, Sum.inr.injEq, Sum.inl.injEq, false_or, or_false, true_or, or_true, Nat.reduceAdd, Nat.reduceLeDiff, Int.reduceLE, Int.reduceLT, Int.reduceEq, Int.reduceNeg, Int.reduceAdd, Int.reduceSub, Int.reduceMul, Int.reduceNe, ne_eq, not_false_eq_true, not_true_eq_false, false_implies, forall_const, Nat.le_refl, Nat.zero_le, implies_true, and_self]
        refine ⟨by omega, by omega, fun q => by omega, fun q => ⟨_, _, hbg, by omega, fun q => t1, fun q => by omega⟩⟩
  by_cases c1 : σ 1 0 = σ 4 0
  · by_cases c2 : crs (σ 1 0) (σ 7) ≤ 0
    · obtain ⟨z, t1, t2⟩ := loop c1 c2 (σ 4 0).toNat 0 (by omega) (by omega) (fun a a0 a1 => by omega)
      refine ⟨z, ?_, t2⟩
      refine Ret.of 4 [some (aR 4), some (aR 1), none] rfl (by decide) rfl (Nat.le_of_ble_eq_true rfl) ?_
      refine vX4_isFold 60 ?_
      simp only [↓S_X4_isFold, ↓pI_c, ↓pL_c, ↓pR_c, ↓pC_I, ↓pC_R, ↓pE_n, ↓gI_0, ↓gI_s, ↓gL_0, ↓gL_s, ↓gR_0, ↓gR_s, ↓popN_0, ↓popN_s, ↓kl_I, ↓kl_L, ↓kl_R, ↓kl_n, ↓put1_0, ↓put1_s, ↓putk_0, ↓putk_s, ↓put2_0, ↓put2_s, ↓putl_0, ↓putl_s, ↓callK_0, ↓callK_1, ↓callK_2, cats_n, cats_c, catA_I, catA_L, catA_R, KL, LV, lval_f, ltag_f, llen_f, lcm_lt, lcm_le, lcm_gt, lcm_ge, lcm_eq, lcm_R1, lcm_R2, inR, inL, true_and, and_true, eq_self, List.head?_cons, Option.some.injEq, Sum.inr.injEq, Sum.inl.injEq, false_or, or_false, true_or, or_true, Nat.reduceAdd, Nat.reduceLeDiff, Int.reduceLE, Int.reduceLT, Int.reduceEq, Int.reduceNeg, Int.reduceAdd, Int.reduceSub, Int.reduceMul, Int.reduceNe, ne_eq, not_false_eq_true, not_true_eq_false, false_implies, forall_const, Nat.le_refl, Nat.zero_le, implies_true, and_self]
      refine ⟨by omega, by omega, fun q => absurd c1 q, fun q => ⟨_, _, hc, by omega, fun q => t1, fun q => by omega⟩⟩
    · refine ⟨0, ?_, Or.inr ⟨rfl, fun q => c2 q.2.1⟩⟩
      refine Ret.of 4 [some (aR 4), some (aR 1), none] rfl (by decide) rfl (Nat.le_of_ble_eq_true rfl) ?_
      refine vX4_isFold 60 ?_
      simp only [↓S_X4_isFold, ↓pI_c, ↓pL_c, ↓pR_c, ↓pC_I, ↓pC_R, ↓pE_n, ↓gI_0, ↓gI_s, ↓gL_0, ↓gL_s, ↓gR_0, ↓gR_s, ↓popN_0, ↓popN_s, ↓kl_I, ↓kl_L, ↓kl_R, ↓kl_n, ↓put1_0, ↓put1_s, ↓putk_0, ↓putk_s, ↓put2_0, ↓put2_s, ↓putl_0, ↓putl_s, ↓callK_0, ↓callK_1, ↓callK_2, cats_n, cats_c, catA_I, catA_L, catA_R, KL, LV, lval_f, ltag_f, llen_f, lcm_lt, lcm_le, lcm_gt, lcm_ge, lcm_eq, lcm_R1, lcm_R2, inR, inL, true_and, and_true, eq_self, List.head?_cons, Option.some.injEq, Sum.inr.injEq, Sum.inl.injEq, false_or, or_false, true_or, or_true, Nat.reduceAdd, Nat.reduceLeDiff, Int.reduceLE, Int.reduceLT, Int.reduceEq, Int.reduceNeg, Int.reduceAdd, Int.reduceSub, Int.reduceMul, Int.reduceNe, ne_eq, not_false_eq_true, not_true_eq_false, false_implies, forall_const, Nat.le_refl, Nat.zero_le, implies_true, and_self]
      exact ⟨by omega, by omega, fun q => ⟨_, _, hc, by omega, fun q => by omega, fun q => rfl⟩⟩
  · refine ⟨0, ?_, Or.inr ⟨rfl, fun q => c1 q.1⟩⟩
    refine Ret.of 4 [some (aR 4), some (aR 1), none] rfl (by decide) rfl (Nat.le_of_ble_eq_true rfl) ?_
    refine vX4_isFold 60 ?_
    simp only [↓S_X4_isFold, ↓pI_c, ↓pL_c, ↓pR_c, ↓pC_I, ↓pC_R, ↓pE_n, ↓gI_0, ↓gI_s, ↓gL_0, ↓gL_s, ↓gR_0, ↓gR_s, ↓popN_0, ↓popN_s, ↓kl_I, ↓kl_L, ↓kl_R, ↓kl_n, ↓put1_0, ↓put1_s, ↓putk_0, ↓putk_s, ↓put2_0, ↓put2_s, ↓putl_0, ↓putl_s, ↓callK_0, ↓callK_1, ↓callK_2, cats_n, cats_c, catA_I, catA_L, catA_R, KL, LV, lval_f, ltag_f, llen_f, lcm_lt, lcm_le, lcm_gt, lcm_ge, lcm_eq, lcm_R1, lcm_R2, inR, inL, true_and, and_true, eq_self, List.head?_cons, Option.some.injEq, Sum.inr.injEq, Sum.inl.injEq, false_or, or_false, true_or, or_true, Nat.reduceAdd, Nat.reduceLeDiff, Int.reduceLE, Int.reduceLT, Int.reduceEq, Int.reduceNeg, Int.reduceAdd, Int.reduceSub, Int.reduceMul, Int.reduceNe, ne_eq, not_false_eq_true, not_true_eq_false, false_implies, forall_const, Nat.le_refl, Nat.zero_le, implies_true, and_self]
    exact ⟨by omega, by omega, fun q => absurd c1 q⟩
def chd (L : Int) (m : Int → Int) : Int := rs (fun a => if a < m a then 1 else 0) 0 L.toNat
def stk (L : Int) (m : Int → Int) : Int := rs (fun a => if a < m a ∧ ¬ (0 ≤ a - 1 ∧ a - 1 < L ∧ 0 ≤ m a + 1 ∧ m a + 1 < L ∧ m (a - 1) = m a + 1) then 1 else 0) 0 L.toNat
set_option maxRecDepth 100000 in
theorem r_X4_scoreOfFold (D : Nat) (σ : Sg) (h : WS σ) (hw : WD (σ 1 0) (σ 7)) (hL : σ 1 0 = σ 4 0) : Ret (D + 4) miX4_scoreOfFold [aR 4, aR 1] σ (some (aI (σ 4 2 * (chd (σ 1 0) (σ 7) - stk (σ 1 0) (σ 7)) + rs (fun a => if a < σ 7 a then csc σ a (σ 7 a) else 0) 0 (σ 1 0).toNat))) σ := by
  have w1 := hw.1
  have w2 := hw.2.1
  have hc := r_X1_chords (D + 1) σ hw
  have hs := r_X1_stacks D σ hw
  refine Ret.of 4 [some (aR 4), some (aR 1), none, none] rfl (by decide) rfl (Nat.le_of_ble_eq_true rfl) ?_
  have loop : ∀ (k : Nat) (i acc : Int), 0 ≤ i → i + k = σ 4 0 → V (D + 3) miX4_scoreOfFold 4 (some (aI (acc + rs (fun a => if a < σ 7 a then csc σ a (σ 7 a) else 0) i k))) σ 17 [some (aR 4), some (aR 1), some (aI acc), some (aI i)] [] σ := by
    intro k
    induction k with
    | zero =>
      intro i acc i0 i1
      refine vX4_scoreOfFold 60 ?_
      simp only [↓S_X4_scoreOfFold, ↓pI_c, ↓pL_c, ↓pR_c, ↓pC_I, ↓pC_R, ↓pE_n, ↓gI_0, ↓gI_s, ↓gL_0, ↓gL_s, ↓gR_0, ↓gR_s, ↓popN_0, ↓popN_s, ↓kl_I, ↓kl_L, ↓kl_R, ↓kl_n, ↓put1_0, ↓put1_s, ↓putk_0, ↓putk_s, ↓put2_0, ↓put2_s, ↓putl_0, ↓putl_s, ↓callK_0, ↓callK_1, ↓callK_2, cats_n, cats_c, catA_I, catA_L, catA_R, KL, LV, lval_f, ltag_f, llen_f, lcm_lt, lcm_le, lcm_gt, lcm_ge, lcm_eq, lcm_R1, lcm_R2, inR, inL, true_and, and_true, eq_self, List.head?_cons, Option.some.injEq, Sum.inr.injEq, Sum.inl.injEq, false_or, or_false, true_or, or_true, Nat.reduceAdd, Nat.reduceLeDiff, Int.reduceLE, Int.reduceLT, Int.reduceEq, Int.reduceNeg, Int.reduceAdd, Int.reduceSub, Int.reduceMul, Int.reduceNe, ne_eq, not_false_eq_true, not_true_eq_false, false_implies, forall_const, Nat.le_refl, Nat.zero_le, implies_true, and_self]
      simp only [rs, Int.add_zero]
      (repeat' (first | apply And.intro | intro _))
      all_goals (try first | omega | trivial | (rfl; done) | assumption | (exfalso; omega) | (split <;> first | omega | (rfl; done) | (exfalso; omega)))
    | succ k ih =>
      intro i acc i0 i1
      have hr := hw.r i0 (by omega)
      have hbg := r_X1_begins (D + 2) σ i i0 (by omega) (by omega)
      rw [rs_s]
      by_cases c1 : i < σ 7 i
      · rw [if_pos c1] at hbg
        have hl : σ 7 i < σ 1 0 := by
          rcases hw.2.2.1 i i0 (by omega) with q | q
          · omega
          · exact q.2.1
        rw [if_pos c1, ← Int.add_assoc]
        have t1 := ih (i + 1) (acc + csc σ i (σ 7 i)) (by omega) (by omega)
        refine vX4_scoreOfFold 60 ?_
        simp only [↓S_X4_scoreOfFold, ↓pI_c, ↓pL_c, ↓pR_c, ↓pC_I, ↓pC_R, ↓pE_n, ↓gI_0, ↓gI_s, ↓gL_0, ↓gL_s, ↓gR_0, ↓gR_s, ↓popN_0, ↓popN_s, ↓kl_I, ↓kl_L, ↓kl_R, ↓kl_n, ↓put1_0, ↓put1_s, ↓putk_0, ↓putk_s, ↓put2_0, ↓put2_s, ↓putl_0, ↓putl_s, ↓callK_0, ↓callK_1, ↓callK_2, cats_n, cats_c, catA_I, catA_L, catA_R, KL, LV, lval_f, ltag_f, llen_f, lcm_lt, lcm_le, lcm_gt, lcm_ge, lcm_eq, lcm_R1, lcm_R2, inR, inL, true_and, and_true, eq_self, List.head?_cons, Option.some.injEq, Sum.inr.injEq, Sum.inl.injEq, false_or, or_false, true_or, or_true, Nat.reduceAdd, Nat.reduceLeDiff, Int.reduceLE, Int.reduceLT, Int.reduceEq, Int.reduceNeg, Int.reduceAdd, Int.reduceSub, Int.reduceMul, Int.reduceNe, ne_eq, not_false_eq_true, not_true_eq_false, false_implies, forall_const, Nat.le_refl, Nat.zero_le, implies_true, and_self]
        refine ⟨by omega, by omega, fun q => by omega, fun q => ⟨_, _, hbg, by omega, fun q => by omega, fun q => ⟨i0, by omega, _, _, r_X4_scoreOf (D + 2) σ i (σ 7 i) h i0 (by omega) (by omega) (by omega), t1⟩⟩⟩
      · rw [if_neg c1] at hbg
        rw [if_neg c1, Int.zero_add]
        have t1 := ih (i + 1) acc (by omega) (by omega)
        refine vX4_scoreOfFold 60 ?_
        simp only [↓S_X4_scoreOfFold, ↓pI_c, ↓pL_c, ↓pR_c, ↓pC_I, ↓pC_R, ↓pE_n, ↓gI_0, ↓gI_s, ↓gL_0, ↓gL_s, ↓gR_0, ↓gR_s, ↓popN_0, ↓popN_s, ↓kl_I, ↓kl_L, ↓kl_R, ↓kl_n, ↓put1_0, ↓put1_s, ↓putk_0, ↓putk_s, ↓put2_0, ↓put2_s, ↓putl_0, ↓putl_s, ↓callK_0, ↓callK_1, ↓callK_2, cats_n, cats_c, catA_I, catA_L, catA_R, KL, LV, lval_f, ltag_f, llen_f, lcm_lt, lcm_le, lcm_gt, lcm_ge, lcm_eq, lcm_R1, lcm_R2, inR, inL, true_and, and_true, eq_self, List.head?_cons, Option.some.injEq, Sum.inr.injEq, Sum.inl.injEq, false_or, or_false, true_or, or_true, Nat.reduceAdd, Nat.reduceLeDiff, Int.reduceLE, Int.reduceLT, Int.reduceEq, Int.reduceNeg, Int.reduceAdd, Int.reduceSub, Int.reduceMul, Int.reduceNe, ne_eq, not_false_eq_true, not_true_eq_false, false_implies, forall_const, Nat.le_refl, Nat.zero_le, implies_true, and_self]
        refine ⟨by omega, by omega, fun q => by omega, fun q => ⟨_, _, hbg, by omega, fun q => t1, fun q => by omega⟩⟩
  refine vX4_scoreOfFold 60 ?_
  simp only [↓S_X4_scoreOfFold, ↓pI_c, ↓pL_c, ↓pR_c, ↓pC_I, ↓pC_R, ↓pE_n, ↓gI_0, ↓gI_s, ↓gL_0, ↓gL_s, ↓gR_0, ↓gR_s, ↓popN_0, ↓popN_s, ↓kl_I, ↓kl_L, ↓kl_R, ↓kl_n, ↓put1_0, ↓put1_s, ↓putk_0, ↓putk_s, ↓put2_0, ↓put2_s, ↓putl_0, ↓putl_s, ↓callK_0, ↓callK_1, ↓callK_2, cats_n, cats_c, catA_I, catA_L, catA_R, KL, LV, lval_f, ltag_f, llen_f, lcm_lt, lcm_le, lcm_gt, lcm_ge, lcm_eq, lcm_R1, lcm_R2, inR, inL, true_and, and_true, eq_self, List.head?_cons, Option.some.injEq, Sum.inr.injEq, Sum.inl.injEq, false_or, or_false, true_or, or_true, Nat.reduceAdd, Nat.reduceLeDiff, Int.reduceLE, Int.reduceLT, Int.reduceEq, Int.reduceNeg, Int.reduceAdd, Int.reduceSub, Int.reduceMul, Int.reduceNe, ne_eq, not_false_eq_true, not_true_eq_false, false_implies, forall_const, Nat.le_refl, Nat.zero_le, implies_true, and_self]
  refine ⟨_, _, hc, _, _, hs, ?_⟩
  have := loop (σ 4 0).toNat 0 (σ 4 2 * (chd (σ 1 0) (σ 7) - stk (σ 1 0) (σ 7))) (by omega) (by omega)
  rw [hL] at this ⊢
  exact this

/-! heights, full drawings, first points, the mirror -/
theorem rs_pt (q : Int) : ∀ (k : Nat) (i : Int), rs (fun c => if c = q then 1 else 0) i k = if i ≤ q ∧ q < i + k then 1 else 0
  | 0, i => by rw [if_neg (by omega)]; rfl
  | k + 1, i => by
    rw [rs_s, rs_pt q k (i + 1)]
    by_cases c : i = q
    · rw [if_pos c, if_neg (by omega), if_pos (by omega)]; rfl
    · rw [if_neg c, Int.zero_add]
      by_cases c2 : i ≤ q ∧ q < i + ((k + 1 : Nat) : Int)
      · rw [if_pos c2, if_pos (by omega)]
      · rw [if_neg c2, if_neg (by omega)]
def hgt (m : Int → Int) (k : Nat) : Int := rs (fun c => if m c = -1 then 0 else if c < m c then 1 else -1) 0 k
theorem hgt_eq {L : Int} {m : Int → Int} (hw : WD L m) : ∀ (k : Nat), (k : Int) ≤ L → hgt m k = rs (fun c => if (k : Int) - 1 < m c then 1 else 0) 0 k
  | 0, _ => rfl
  | k + 1, hk => by
    have w1 := hw.1
    have w2 := hw.2.1
    unfold hgt
    rw [rs_last, show rs (fun c => if m c = -1 then 0 else if c < m c then 1 else -1) 0 k = hgt m k from rfl, hgt_eq hw k (by omega), rs_last]
    have e : rs (fun c => if (k : Int) - 1 < m c then 1 else 0) 0 k = rs (fun c => if ((k + 1 : Nat) : Int) - 1 < m c then 1 else 0) 0 k + rs (fun c => if c = m k then 1 else 0) 0 k := by
      rw [← rs_add]
      refine rs_congr k 0 (fun c c0 c1 => ?_)
      have hc := hw.2.2.1 c c0 (by omega)
      have hk2 := hw.2.2.1 k (by omega) (by omega)
      by_cases q : c = m k
      · have : m c = k := by
          rcases hk2 with z | z
          · omega
          · rw [q]; exact z.2.2.2
        rw [if_pos q, if_pos (by omega), if_neg (by omega)]; rfl
      · rw [if_neg q, Int.add_zero]
        have : m c ≠ k := fun z => by
          rcases hc with y | y
          · omega
          · have := y.2.2.2
            rw [z] at this
            exact q this.symm
        by_cases q2 : ((k + 1 : Nat) : Int) - 1 < m c
        · rw [if_pos q2, if_pos (by omega)]
        · rw [if_neg q2, if_neg (by omega)]
    rw [e, rs_pt]
    have hk2 := hw.2.2.1 k (by omega) (by omega)
    simp only [Int.zero_add]
    by_cases q : m (k : Int) = -1
    · rw [if_pos q, if_neg (by omega), if_neg (by omega)]
      omega
    · rw [if_neg q]
      by_cases q2 : (k : Int) < m k
      · rw [if_pos q2, if_neg (by omega), if_pos (by omega)]
        omega
      · rw [if_neg q2, if_pos (by omega), if_neg (by omega)]
        omega
theorem hgt_open {L : Int} {m : Int → Int} (hw : WD L m) {p : Int} (p0 : 0 ≤ p) (p1 : p < L) : rs (fun c => if m c = -1 then 0 else if c < m c then 1 else -1) 0 (p + 1).toNat = rs (fun c => if p < m c then 1 else 0) 0 (p + 1).toNat := by
  have h := hgt_eq hw (p + 1).toNat (by omega)
  unfold hgt at h
  rw [h]
  refine rs_congr _ _ (fun c _ _ => ?_)
  rw [show (((p + 1).toNat : Nat) : Int) - 1 = p from by omega]
theorem parts_eq {L : Int} {m : Int → Int} (hw : WD L m) : rs (fun a => if (m a ≠ -1 ∧ m a < a) ∧ rs (fun c => if m c = -1 then 0 else if c < m c then 1 else -1) 0 (a + 1).toNat = 0 then 1 else 0) 0 L.toNat = rs (fun a => if (m a ≠ -1 ∧ m a < a) ∧ rs (fun c => if a < m c then 1 else 0) 0 (a + 1).toNat = 0 then 1 else 0) 0 L.toNat := by
  have := hw.1
  refine rs_congr _ _ (fun a a0 a1 => ?_)
  rw [hgt_open hw a0 (by omega)]
/-- twice the chords, and the points that are free -/
theorem two_nb {L : Int} {m : Int → Int} (hw : WD L m) : 2 * rs (fun a => if a < m a then 1 else 0) 0 L.toNat + frc m 0 L.toNat = L := by
  have w1 := hw.1
  have w2 := hw.2.1
  have h := hgt_eq hw L.toNat (by omega)
  rw [rs_zero (f := fun c => if (L.toNat : Int) - 1 < m c then 1 else 0) L.toNat 0 (fun j j0 j1 => by
    rw [if_neg]
    rcases hw.b j0 (show j < 24 by omega) with q | q <;> omega)] at h
  have key : ∀ (k : Nat) (i : Int), 0 ≤ i → i + k ≤ L → rs (fun c => if m c = -1 then 0 else if c < m c then 1 else -1) i k + k = 2 * rs (fun a => if a < m a then 1 else 0) i k + frc m i k := by
    intro k
    induction k with
    | zero => intro i _ _; rfl
    | succ k ih =>
      intro i i0 i1
      have t := ih (i + 1) (by omega) (by omega)
      rw [rs_s, rs_s, frc_s]
      have hr := hw.r i0 (by omega)
      have hi := hw.2.2.1 i i0 (by omega)
      by_cases q : m i = -1
      · rw [if_pos q, if_neg (by omega), if_pos q]; omega
      · rw [if_neg q]
        by_cases q2 : i < m i
        · rw [if_pos q2, if_pos q2, if_neg q]; omega
        · rw [if_neg q2, if_neg q2, if_neg q]; omega
  have t := key L.toNat 0 (by omega) (by omega)
  unfold hgt at h
  omega
theorem full_iff {L : Int} {m : Int → Int} (hw : WD L m) : 2 * rs (fun a => if a < m a then 1 else 0) 0 L.toNat = L ↔ ∀ a, 0 ≤ a → a < L → m a ≠ -1 := by
  have h := two_nb hw
  have w1 := hw.1
  constructor
  · intro q a a0 a1 z
    have := frc_lt m (i := 0) (b := a) (c := L) a0 a1 z
    have h2 := (frc_r m 0 (a - 0).toNat).1
    rw [Int.sub_zero, Int.sub_zero] at this
    rw [Int.sub_zero] at h2
    omega
  · intro q
    have : frc m 0 L.toNat = 0 := rs_zero _ _ (fun j j0 j1 => by rw [if_neg (q j j0 (by omega))])
    omega
def Fst (L : Int) (P : Int → Prop) (z : Int) : Prop := (z = -1 ∧ ∀ a, 0 ≤ a → a < L → ¬ P a) ∨ (0 ≤ z ∧ z < L ∧ P z ∧ ∀ a, 0 ≤ a → a < z → ¬ P a)
set_option maxRecDepth 100000 in
theorem r_X6_firstAlone (D : Nat) (σ : Sg) (hw : WD (σ 6 0) (σ 26)) : ∃ z, Ret (D + 1) miX6_firstAlone [aR 6] σ (some (aI z)) σ ∧ Fst (σ 6 0) (fun a => σ 26 a = -1) z := by
  have w1 := hw.1
  have w2 := hw.2.1
  have loop : ∀ (k : Nat) (i : Int), 0 ≤ i → i + k = σ 6 0 → (∀ a, 0 ≤ a → a < i → σ 26 a ≠ -1) → ∃ z, V D miX6_firstAlone 6 (some (aI z)) σ 2 [some (aR 6), some (aI i)] [] σ ∧ Fst (σ 6 0) (fun a => σ 26 a = -1) z := by
    intro k
    induction k with
    | zero =>
      intro i i0 ik hp
      refine ⟨-1, ?_, Or.inl ⟨rfl, fun a a0 a1 => hp a a0 (by omega)⟩⟩
      refine vX6_firstAlone 60 ?_
      simp only [↓S_X6_firstAlone, ↓pI_c, ↓pL_c, ↓pR_c, ↓pC_I, ↓pC_R, ↓pE_n, ↓gI_0, ↓gI_s, ↓gL_0, ↓gL_s, ↓gR_0, ↓gR_s, ↓popN_0, ↓popN_s, ↓kl_I, ↓kl_L, ↓kl_R, ↓kl_n, ↓put1_0, ↓put1_s, ↓putk_0, ↓putk_s, ↓put2_0, ↓put2_s, ↓putl_0, ↓putl_s, ↓callK_0, ↓callK_1, ↓callK_2, cats_n, cats_c, catA_I, catA_L, catA_R, KL, LV, lval_f, ltag_f, llen_f, lcm_lt, lcm_le, lcm_gt, lcm_ge, lcm_eq, lcm_R1, lcm_R2, inR, inL, true_and, and_true, eq_self, List.head?_cons, Option.some.injEq, Sum.inr.injEq, Sum.inl.injEq, false_or, or_false, true_or, or_true, Nat.reduceAdd, Nat.reduceLeDiff, Int.reduceLE, Int.reduceLT, Int.reduceEq, Int.reduceNeg, Int.reduceAdd, Int.reduceSub, Int.reduceMul, Int.reduceNe, ne_eq, not_false_eq_true, not_true_eq_false, false_implies, forall_const, Nat.le_refl, Nat.zero_le, implies_true, and_self]
      (repeat' (first | apply And.intro | intro _))
      all_goals (try first | omega | trivial | (rfl; done) | assumption | (exfalso; omega))
    | succ k ih =>
      intro i i0 ik hp
      have hr := hw.r i0 (show i < 24 by omega)
      by_cases c : σ 26 i = -1
      · refine ⟨i, ?_, Or.inr ⟨i0, by omega, c, hp⟩⟩
        refine vX6_firstAlone 60 ?_
        simp only [↓S_X6_firstAlone, ↓pI_c, ↓pL_c, ↓pR_c, ↓pC_I, ↓pC_R, ↓pE_n, ↓gI_0, ↓gI_s, ↓gL_0, ↓gL_s, ↓gR_0, ↓gR_s, ↓popN_0, ↓popN_s, ↓kl_I, ↓kl_L, ↓kl_R, ↓kl_n, ↓put1_0, ↓put1_s, ↓putk_0, ↓putk_s, ↓put2_0, ↓put2_s, ↓putl_0, ↓putl_s, ↓callK_0, ↓callK_1, ↓callK_2, cats_n, cats_c, catA_I, catA_L, catA_R, KL, LV, lval_f, ltag_f, llen_f, lcm_lt, lcm_le, lcm_gt, lcm_ge, lcm_eq, lcm_R1, lcm_R2, inR, inL, true_and, and_true, eq_self, List.head?_cons, Option.some.injEq, Sum.inr.injEq, Sum.inl.injEq, false_or, or_false, true_or, or_true, Nat.reduceAdd, Nat.reduceLeDiff, Int.reduceLE, Int.reduceLT, Int.reduceEq, Int.reduceNeg, Int.reduceAdd, Int.reduceSub, Int.reduceMul, Int.reduceNe, ne_eq, not_false_eq_true, not_true_eq_false, false_implies, forall_const, Nat.le_refl, Nat.zero_le, implies_true, and_self]
        (repeat' (first | apply And.intro | intro _))
        all_goals (try first | omega | trivial | (rfl; done) | assumption | (exfalso; omega))
      · obtain ⟨z, t, tz⟩ := ih (i + 1) (by omega) (by omega) (fun a a0 a1 => by
          by_cases e : a = i
          · rw [e]; exact c
          · exact hp a a0 (by omega))
        refine ⟨z, ?_, tz⟩
        refine vX6_firstAlone 60 ?_
        simp only [↓S_X6_firstAlone, ↓pI_c, ↓pL_c, ↓pR_c, ↓pC_I, ↓pC_R, ↓pE_n, ↓gI_0, ↓gI_s, ↓gL_0, ↓gL_s, ↓gR_0, ↓gR_s, ↓popN_0, ↓popN_s, ↓kl_I, ↓kl_L, ↓kl_R, ↓kl_n, ↓put1_0, ↓put1_s, ↓putk_0, ↓putk_s, ↓put2_0, ↓put2_s, ↓putl_0, ↓putl_s, ↓callK_0, ↓callK_1, ↓callK_2, cats_n, cats_c, catA_I, catA_L, catA_R, KL, LV, lval_f, ltag_f, llen_f, lcm_lt, lcm_le, lcm_gt, lcm_ge, lcm_eq, lcm_R1, lcm_R2, inR, inL, true_and, and_true, eq_self, List.head?_cons, Option.some.injEq, Sum.inr.injEq, Sum.inl.injEq, false_or, or_false, true_or, or_true, Nat.reduceAdd, Nat.reduceLeDiff, Int.reduceLE, Int.reduceLT, Int.reduceEq, Int.reduceNeg, Int.reduceAdd, Int.reduceSub, Int.reduceMul, Int.reduceNe, ne_eq, not_false_eq_true, not_true_eq_false, false_implies, forall_const, Nat.le_refl, Nat.zero_le, implies_true, and_self]
        (repeat' (first | apply And.intro | intro _))
        all_goals (try first | omega | trivial | (rfl; done) | assumption | (exfalso; omega) | (exact t) | (refine V.wk t ?_; simp [lle]; done))
  obtain ⟨z, t, tz⟩ := loop (σ 6 0).toNat 0 (by omega) (by omega) (fun a a0 a1 => by omega)
  refine ⟨z, ?_, tz⟩
  refine Ret.of 6 [some (aR 6), none] rfl (by decide) rfl (Nat.le_of_ble_eq_true rfl) ?_
  refine vX6_firstAlone 60 ?_
  simp only [↓S_X6_firstAlone, ↓pI_c, ↓pL_c, ↓pR_c, ↓pC_I, ↓pC_R, ↓pE_n, ↓gI_0, ↓gI_s, ↓gL_0, ↓gL_s, ↓gR_0, ↓gR_s, ↓popN_0, ↓popN_s, ↓kl_I, ↓kl_L, ↓kl_R, ↓kl_n, ↓put1_0, ↓put1_s, ↓putk_0, ↓putk_s, ↓put2_0, ↓put2_s, ↓putl_0, ↓putl_s, ↓callK_0, ↓callK_1, ↓callK_2, cats_n, cats_c, catA_I, catA_L, catA_R, KL, LV, lval_f, ltag_f, llen_f, lcm_lt, lcm_le, lcm_gt, lcm_ge, lcm_eq, lcm_R1, lcm_R2, inR, inL, true_and, and_true, eq_self, List.head?_cons, Option.some.injEq, Sum.inr.injEq, Sum.inl.injEq, false_or, or_false, true_or, or_true, Nat.reduceAdd, Nat.reduceLeDiff, Int.reduceLE, Int.reduceLT, Int.reduceEq, Int.reduceNeg, Int.reduceAdd, Int.reduceSub, Int.reduceMul, Int.reduceNe, ne_eq, not_false_eq_true, not_true_eq_false, false_implies, forall_const, Nat.le_refl, Nat.zero_le, implies_true, and_self]
  (repeat' (first | apply And.intro | intro _))
  all_goals (try first | omega | trivial | (rfl; done) | assumption | (exfalso; omega) | (exact t) | (refine V.wk t ?_; simp [lle]; done))
def inn (L : Int) (m : Int → Int) (a : Int) : Prop := 0 < a ∧ m a < L - 1 ∧ m (a - 1) = m a + 1
set_option maxRecDepth 100000 in
theorem r_X6_firstInner (D : Nat) (σ : Sg) (hw : WD (σ 6 0) (σ 26)) : ∃ z, Ret (D + 2) miX6_firstInner [aR 6] σ (some (aI z)) σ ∧ Fst (σ 6 0) (fun a => a < σ 26 a ∧ inn (σ 6 0) (σ 26) a) z := by
  have w1 := hw.1
  have w2 := hw.2.1
  have loop : ∀ (k : Nat) (i : Int), 0 ≤ i → i + k = σ 6 0 → (∀ a, 0 ≤ a → a < i → ¬ (a < σ 26 a ∧ inn (σ 6 0) (σ 26) a)) → ∃ z, V (D + 1) miX6_firstInner 6 (some (aI z)) σ 2 [some (aR 6), some (aI i)] [] σ ∧ Fst (σ 6 0) (fun a => a < σ 26 a ∧ inn (σ 6 0) (σ 26) a) z := by
    intro k
    induction k with
    | zero =>
      intro i i0 ik hp
      refine ⟨-1, ?_, Or.inl ⟨rfl, fun a a0 a1 => hp a a0 (by omega)⟩⟩
      refine vX6_firstInner 60 ?_
      simp only [↓S_X6_firstInner, ↓pI_c, ↓pL_c, ↓pR_c, ↓pC_I, ↓pC_R, ↓pE_n, ↓gI_0, ↓gI_s, ↓gL_0, ↓gL_s, ↓gR_0, ↓gR_s, ↓popN_0, ↓popN_s, ↓kl_I, ↓kl_L, ↓kl_R, ↓kl_n, ↓put1_0, ↓put1_s, ↓putk_0, ↓putk_s, ↓put2_0, ↓put2_s, ↓putl_0, ↓putl_s, ↓callK_0, ↓callK_1, ↓callK_2, cats_n, cats_c, catA_I, catA_L, catA_R, KL, LV, lval_f, ltag_f, llen_f, lcm_lt, lcm_le, lcm_gt, lcm_ge, lcm_eq, lcm_R1, lcm_R2, inR, inL, true_and, and_true, eq_self, List.head?_cons, Option.some.injEq, Sum.inr.injEq, Sum.inl.injEq, false_or, or_false, true_or, or_true, Nat.reduceAdd, Nat.reduceLeDiff, Int.reduceLE, Int.reduceLT, Int.reduceEq, Int.reduceNeg, Int.reduceAdd, Int.reduceSub, Int.reduceMul, Int.reduceNe, ne_eq, not_false_eq_true, not_true_eq_false, false_implies, forall_const, Nat.le_refl, Nat.zero_le, implies_true, and_self]
      (repeat' (first | apply And.intro | intro _))
      all_goals (try first | omega | trivial | (rfl; done) | assumption | (exfalso; omega))
    | succ k ih =>
      intro i i0 ik hp
      have hr := hw.r i0 (show i < 24 by omega)
      have ba := r_X6_begins D σ i i0 (by omega) (by unfold inR; omega)
      have bi := r_X6_isInner D σ i hw i0 (by omega)
      by_cases c : i < σ 26 i ∧ inn (σ 6 0) (σ 26) i
      · refine ⟨i, ?_, Or.inr ⟨i0, by omega, c, hp⟩⟩
        rw [if_pos c.1] at ba
        rw [if_pos (show 0 < i ∧ σ 26 i < σ 6 0 - 1 ∧ σ 26 (i - 1) = σ 26 i + 1 from c.2)] at bi
        refine vX6_firstInner 60 ?_
        simp only [↓S_X6_firstInner, ↓pI_c, ↓pL_c, ↓pR_c, ↓pC_I, ↓pC_R, ↓pE_n, ↓gI_0, ↓gI_s, ↓gL_0, ↓gL_s, ↓gR_0, ↓gR_s, ↓popN_0, ↓popN_s, ↓kl_I, ↓kl_L, ↓kl_R, ↓kl_n, ↓put1_0, ↓put1_s, ↓putk_0, ↓putk_s, ↓put2_0, ↓put2_s, ↓putl_0, ↓putl_s, ↓callK_0, ↓callK_1, ↓callK_2, cats_n, cats_c, catA_I, catA_L, catA_R, KL, LV, lval_f, ltag_f, llen_f, lcm_lt, lcm_le, lcm_gt, lcm_ge, lcm_eq, lcm_R1, lcm_R2, inR, inL, true_and, and_true, eq_self, List.head?_cons, Option.some.injEq, Sum.inr.injEq, Sum.inl.injEq, false_or, or_false, true_or, or_true, Nat.reduceAdd, Nat.reduceLeDiff, Int.reduceLE, Int.reduceLT, Int.reduceEq, Int.reduceNeg, Int.reduceAdd, Int.reduceSub, Int.reduceMul, Int.reduceNe, ne_eq, not_false_eq_true, not_true_eq_false, false_implies, forall_const, Nat.le_refl, Nat.zero_le, implies_true, and_self]
        (repeat' (first | apply And.intro | intro _ | with_reducible refine Exists.intro _ (Exists.intro _ (And.intro ba ?_)) | with_reducible refine Exists.intro _ (And.intro ba ?_) | with_reducible refine Exists.intro _ (Exists.intro _ (And.intro bi ?_)) | with_reducible refine Exists.intro _ (And.intro bi ?_)))
        all_goals (try first | omega | trivial | (rfl; done) | assumption | (exfalso; omega))
      · obtain ⟨z, t, tz⟩ := ih (i + 1) (by omega) (by omega) (fun a a0 a1 => by
          by_cases e : a = i
          · rw [e]; exact c
          · exact hp a a0 (by omega))
        refine ⟨z, ?_, tz⟩
        by_cases c1 : i < σ 26 i
        · rw [if_pos c1] at ba
          rw [if_neg (show ¬ (0 < i ∧ σ 26 i < σ 6 0 - 1 ∧ σ 26 (i - 1) = σ 26 i + 1) from fun q => c ⟨c1, q⟩)] at bi
          refine vX6_firstInner 60 ?_
          simp only [↓S_X6_firstInner, ↓pI_c, ↓pL_c, ↓pR_c, ↓pC_I, ↓pC_R, ↓pE_n, ↓gI_0, ↓gI_s, ↓gL_0, ↓gL_s, ↓gR_0, ↓gR_s, ↓popN_0, ↓popN_s, ↓kl_I, ↓kl_L, ↓kl_R, ↓kl_n, ↓put1_0, ↓put1_s, ↓putk_0, ↓putk_s, ↓put2_0, ↓put2_s, ↓putl_0, ↓putl_s, ↓callK_0, ↓callK_1, ↓callK_2, cats_n, cats_c, catA_I, catA_L, catA_R, KL, LV, lval_f, ltag_f, llen_f, lcm_lt, lcm_le, lcm_gt, lcm_ge, lcm_eq, lcm_R1, lcm_R2, inR, inL, true_and, and_true, eq_self, List.head?_cons, Option.some.injEq, Sum.inr.injEq, Sum.inl.injEq, false_or, or_false, true_or, or_true, Nat.reduceAdd, Nat.reduceLeDiff, Int.reduceLE, Int.reduceLT, Int.reduceEq, Int.reduceNeg, Int.reduceAdd, Int.reduceSub, Int.reduceMul, Int.reduceNe, ne_eq, not_false_eq_true, not_true_eq_false, false_implies, forall_const, Nat.le_refl, Nat.zero_le, implies_true, and_self]
          (repeat' (first | apply And.intro | intro _ | with_reducible refine Exists.intro _ (Exists.intro _ (And.intro ba ?_)) | with_reducible refine Exists.intro _ (And.intro ba ?_) | with_reducible refine Exists.intro _ (Exists.intro _ (And.intro bi ?_)) | with_reducible refine Exists.intro _ (And.intro bi ?_)))
          all_goals (try first | omega | trivial | (rfl; done) | assumption | (exfalso; omega) | (exact t) | (refine V.wk t ?_; simp [lle]; done))
        · rw [if_neg c1] at ba
          refine vX6_firstInner 60 ?_
          simp only [↓S_X6_firstInner, ↓pI_c, ↓pL_c, ↓pR_c, ↓pC_I, ↓pC_R, ↓pE_n, ↓gI_0, ↓gI_s, ↓gL_0, ↓gL_s, ↓gR_0, ↓gR_s, ↓popN_0, ↓popN_s, ↓kl_I, ↓kl_L, ↓kl_R, ↓kl_n, ↓put1_0, ↓put1_s, ↓putk_0, ↓putk_s, ↓put2_0, ↓put2_s, ↓putl_0, ↓putl_s, ↓callK_0, ↓callK_1, ↓callK_2, cats_n, cats_c, catA_I, catA_L, catA_R, KL, LV, lval_f, ltag_f, llen_f, lcm_lt, lcm_le, lcm_gt, lcm_ge, lcm_eq, lcm_R1, lcm_R2, inR, inL, true_and, and_true, eq_self, List.head?_cons, Option.some.injEq, Sum.inr.injEq, Sum.inl.injEq, false_or, or_false, true_or, or_true, Nat.reduceAdd, Nat.reduceLeDiff, Int.reduceLE, Int.reduceLT, Int.reduceEq, Int.reduceNeg, Int.reduceAdd, Int.reduceSub, Int.reduceMul, Int.reduceNe, ne_eq, not_false_eq_true, not_true_eq_false, false_implies, forall_const, Nat.le_refl, Nat.zero_le, implies_true, and_self]
          (repeat' (first | apply And.intro | intro _ | with_reducible refine Exists.intro _ (Exists.intro _ (And.intro ba ?_)) | with_reducible refine Exists.intro _ (And.intro ba ?_) | with_reducible refine Exists.intro _ (Exists.intro _ (And.intro bi ?_)) | with_reducible refine Exists.intro _ (And.intro bi ?_)))
          all_goals (try first | omega | trivial | (rfl; done) | assumption | (exfalso; omega) | (exact t) | (refine V.wk t ?_; simp [lle]; done))
  obtain ⟨z, t, tz⟩ := loop (σ 6 0).toNat 0 (by omega) (by omega) (fun a a0 a1 => by omega)
  refine ⟨z, ?_, tz⟩
  refine Ret.of 6 [some (aR 6), none] rfl (by decide) rfl (Nat.le_of_ble_eq_true rfl) ?_
  refine vX6_firstInner 60 ?_
  simp only [↓S_X6_firstInner, ↓pI_c, ↓pL_c, ↓pR_c, ↓pC_I, ↓pC_R, ↓pE_n, ↓gI_0, ↓gI_s, ↓gL_0, ↓gL_s, ↓gR_0, ↓gR_s, ↓popN_0, ↓popN_s, ↓kl_I, ↓kl_L, ↓kl_R, ↓kl_n, ↓put1_0, ↓put1_s, ↓putk_0, ↓putk_s, ↓put2_0, ↓put2_s, ↓putl_0, ↓putl_s, ↓callK_0, ↓callK_1, ↓callK_2, cats_n, cats_c, catA_I, catA_L, catA_R, KL, LV, lval_f, ltag_f, llen_f, lcm_lt, lcm_le, lcm_gt, lcm_ge, lcm_eq, lcm_R1, lcm_R2, inR, inL, true_and, and_true, eq_self, List.head?_cons, Option.some.injEq, Sum.inr.injEq, Sum.inl.injEq, false_or, or_false, true_or, or_true, Nat.reduceAdd, Nat.reduceLeDiff, Int.reduceLE, Int.reduceLT, Int.reduceEq, Int.reduceNeg, Int.reduceAdd, Int.reduceSub, Int.reduceMul, Int.reduceNe, ne_eq, not_false_eq_true, not_true_eq_false, false_implies, forall_const, Nat.le_refl, Nat.zero_le, implies_true, and_self]
  (repeat' (first | apply And.intro | intro _))
  all_goals (try first | omega | trivial | (rfl; done) | assumption | (exfalso; omega) | (exact t) | (refine V.wk t ?_; simp [lle]; done))
set_option maxRecDepth 100000 in
theorem r_X6_isFull (D : Nat) (σ : Sg) (hw : WD (σ 6 0) (σ 26)) : Ret (D + 2) miX6_isFull [aR 6] σ (some (aI (if 2 * rs (fun a => if a < σ 26 a then 1 else 0) 0 (σ 6 0).toNat = σ 6 0 then 1 else 0))) σ := by
  obtain ⟨z, t, tz⟩ := r_X6_firstAlone D σ hw
  have fi := full_iff hw
  have w2 := hw.2.1
  rcases tz with ⟨rfl, hz⟩ | ⟨z0, z1, z2, z3⟩
  · rw [if_pos (fi.2 hz)]
    refine Ret.of 6 [some (aR 6)] rfl (by decide) rfl (Nat.le_of_ble_eq_true rfl) ?_
    refine vX6_isFull 60 ?_
    simp only [↓S_X6_isFull, ↓pI_c, ↓pL_c, ↓pR_c, ↓pC_I, ↓pC_R, ↓pE_n, ↓gI_0, ↓gI_s, ↓gL_0, ↓gL_s, ↓gR_0, ↓gR_s, ↓popN_0, ↓popN_s, ↓kl_I, ↓kl_L, ↓kl_R, ↓kl_n, ↓put1_0, ↓put1_s, ↓putk_0, ↓putk_s, ↓put2_0, ↓put2_s, ↓putl_0, ↓putl_s, ↓callK_0, ↓callK_1, ↓callK_2, cats_n, cats_c, catA_I, catA_L, catA_R, KL, LV, lval_f, ltag_f, llen_f, lcm_lt, lcm_le, lcm_gt, lcm_ge, lcm_eq, lcm_R1, lcm_R2, inR, inL, true_and, and_true, eq_self, List.head?_cons, Option.some.injEq, Sum.inr.injEq, Sum.inl.injEq, false_or, or_false, true_or, or_true, Nat.reduceAdd, Nat.reduceLeDiff, Int.reduceLE, Int.reduceLT, Int.reduceEq, Int.reduceNeg, Int.reduceAdd, Int.reduceSub, Int.reduceMul, Int.reduceNe, ne_eq, not_false_eq_true, not_true_eq_false, false_implies, forall_const, Nat.le_refl, Nat.zero_le, implies_true, and_self]
    (repeat' (first | apply And.intro | intro _ | with_reducible refine Exists.intro _ (Exists.intro _ (And.intro t ?_)) | with_reducible refine Exists.intro _ (And.intro t ?_)))
    all_goals (try first | omega | trivial | (rfl; done) | assumption | (exfalso; omega))
  · rw [if_neg (fun q => (fi.1 q) z z0 z1 z2)]
    refine Ret.of 6 [some (aR 6)] rfl (by decide) rfl (Nat.le_of_ble_eq_true rfl) ?_
    refine vX6_isFull 60 ?_
    simp only [↓S_X6_isFull, ↓pI_c, ↓pL_c, ↓pR_c, ↓pC_I, ↓pC_R, ↓pE_n, ↓gI_0, ↓gI_s, ↓gL_0, ↓gL_s, ↓gR_0, ↓gR_s, ↓popN_0, ↓popN_s, ↓kl_I, ↓kl_L, ↓kl_R, ↓kl_n, ↓put1_0, ↓put1_s, ↓putk_0, ↓putk_s, ↓put2_0, ↓put2_s, ↓putl_0, ↓putl_s, ↓callK_0, ↓callK_1, ↓callK_2, cats_n, cats_c, catA_I, catA_L, catA_R, KL, LV, lval_f, ltag_f, llen_f, lcm_lt, lcm_le, lcm_gt, lcm_ge, lcm_eq, lcm_R1, lcm_R2, inR, inL, true_and, and_true, eq_self, List.head?_cons, Option.some.injEq, Sum.inr.injEq, Sum.inl.injEq, false_or, or_false, true_or, or_true, Nat.reduceAdd, Nat.reduceLeDiff, Int.reduceLE, Int.reduceLT, Int.reduceEq, Int.reduceNeg, Int.reduceAdd, Int.reduceSub, Int.reduceMul, Int.reduceNe, ne_eq, not_false_eq_true, not_true_eq_false, false_implies, forall_const, Nat.le_refl, Nat.zero_le, implies_true, and_self]
    (repeat' (first | apply And.intro | intro _ | with_reducible refine Exists.intro _ (Exists.intro _ (And.intro t ?_)) | with_reducible refine Exists.intro _ (And.intro t ?_)))
    all_goals (try first | omega | trivial | (rfl; done) | assumption | (exfalso; omega))
set_option maxRecDepth 100000 in
theorem r_X6_mirror (D : Nat) (σ : Sg) (hw : WD (σ 6 0) (σ 26)) : ∃ τ, Ret (D + 1) miX6_mirror [aR 6] σ (some (aI 1)) τ ∧ (∀ a b, a ≠ 26 → a ≠ 31 → τ a b = σ a b) ∧ ∀ b, τ 26 b = if 0 ≤ b ∧ b < σ 6 0 then (if σ 26 (σ 6 0 - 1 - b) = -1 then -1 else σ 6 0 - 1 - σ 26 (σ 6 0 - 1 - b)) else σ 26 b := by
  have w1 := hw.1
  have w2 := hw.2.1
  generalize hL : σ 6 0 = L at *
  have loop2 : ∀ (k : Nat) (i : Int) (χ : Sg), 0 ≤ i → i + k = L → (∀ a b, a ≠ 26 → a ≠ 31 → χ a b = σ a b) → (∀ b, 0 ≤ b → b < L → χ 31 b = if σ 26 (L - 1 - b) = -1 then -1 else L - 1 - σ 26 (L - 1 - b)) → (∀ b, χ 26 b = if 0 ≤ b ∧ b < i then χ 31 b else σ 26 b) → ∃ τ, V D miX6_mirror 6 (some (aI 1)) τ 55 [some (aR 6), some (aI i), none] [] χ ∧ (∀ a b, a ≠ 26 → a ≠ 31 → τ a b = σ a b) ∧ ∀ b, τ 26 b = if 0 ≤ b ∧ b < L then (if σ 26 (L - 1 - b) = -1 then -1 else L - 1 - σ 26 (L - 1 - b)) else σ 26 b := by
    intro k
    induction k with
    | zero =>
      intro i χ i0 ik hf h31 h26
      have hx : χ 6 0 = L := by rw [hf 6 0 (by omega) (by omega)]; exact hL
      refine ⟨χ, ?_, hf, fun b => ?_⟩
      · refine vX6_mirror 60 ?_
        simp only [↓S_X6_mirror_1, ↓S_X6_mirror_2, ↓pI_c, ↓pL_c, ↓pR_c, ↓pC_I, ↓pC_R, ↓pE_n, ↓gI_0, ↓gI_s, ↓gL_0, ↓gL_s, ↓gR_0, ↓gR_s, ↓popN_0, ↓popN_s, ↓kl_I, ↓kl_L, ↓kl_R, ↓kl_n, ↓put1_0, ↓put1_s, ↓putk_0, ↓putk_s, ↓put2_0, ↓put2_s, ↓putl_0, ↓putl_s, ↓callK_0, ↓callK_1, ↓callK_2, cats_n, cats_c, catA_I, catA_L, catA_R, KL, LV, lval_f, ltag_f, llen_f, lcm_lt, lcm_le, lcm_gt, lcm_ge, lcm_eq, lcm_R1, lcm_R2, inR, inL, true_and, and_true, eq_self, List.head?_cons, Option.some.injEq, Sum.inr.injEq, Sum.inl.injEq, false_or, or_false, true_or, or_true, Nat.reduceAdd, Nat.reduceLeDiff, Int.reduceLE, Int.reduceLT, Int.reduceEq, Int.reduceNeg, Int.reduceAdd, Int.reduceSub, Int.reduceMul, Int.reduceNe, ne_eq, not_false_eq_true, not_true_eq_false, false_implies, forall_const, Nat.le_refl, Nat.zero_le, implies_true, and_self]
        rw [hx]
        (repeat' (first | apply And.intro | intro _))
        all_goals (try first | omega | trivial | (rfl; done) | assumption | (exfalso; omega))
      · rw [h26 b]
        by_cases c : 0 ≤ b ∧ b < L
        · rw [if_pos c, if_pos (by omega), h31 b c.1 c.2]
        · rw [if_neg c, if_neg (by omega)]
    | succ k ih =>
      intro i χ i0 ik hf h31 h26
      have hx : χ 6 0 = L := by rw [hf 6 0 (by omega) (by omega)]; exact hL
      obtain ⟨τ, t, tr⟩ := ih (i + 1) (up χ 26 i (χ 31 i)) (by omega) (by omega) (fun a b a1 a2 => by unfold up; rw [if_neg (by omega)]; exact hf a b a1 a2) (fun b b0 b1 => by unfold up; rw [if_neg (by omega)]; exact h31 b b0 b1) (fun b => by
        unfold up
        by_cases c : b = i
        · rw [if_pos ⟨rfl, c⟩, if_pos (by omega), if_neg (by omega), c]
        · rw [if_neg (by omega), h26 b]
          by_cases c2 : 0 ≤ b ∧ b < i
          · rw [if_pos c2, if_pos (by omega), if_neg (by omega)]
          · rw [if_neg c2, if_neg (by omega)])
      refine ⟨τ, ?_, tr⟩
      refine vX6_mirror 60 ?_
      simp only [↓S_X6_mirror_1, ↓S_X6_mirror_2, ↓pI_c, ↓pL_c, ↓pR_c, ↓pC_I, ↓pC_R, ↓pE_n, ↓gI_0, ↓gI_s, ↓gL_0, ↓gL_s, ↓gR_0, ↓gR_s, ↓popN_0, ↓popN_s, ↓kl_I, ↓kl_L, ↓kl_R, ↓kl_n, ↓put1_0, ↓put1_s, ↓putk_0, ↓putk_s, ↓put2_0, ↓put2_s, ↓putl_0, ↓putl_s, ↓callK_0, ↓callK_1, ↓callK_2, cats_n, cats_c, catA_I, catA_L, catA_R, KL, LV, lval_f, ltag_f, llen_f, lcm_lt, lcm_le, lcm_gt, lcm_ge, lcm_eq, lcm_R1, lcm_R2, inR, inL, true_and, and_true, eq_self, List.head?_cons, Option.some.injEq, Sum.inr.injEq, Sum.inl.injEq, false_or, or_false, true_or, or_true, Nat.reduceAdd, Nat.reduceLeDiff, Int.reduceLE, Int.reduceLT, Int.reduceEq, Int.reduceNeg, Int.reduceAdd, Int.reduceSub, Int.reduceMul, Int.reduceNe, ne_eq, not_false_eq_true, not_true_eq_false, false_implies, forall_const, Nat.le_refl, Nat.zero_le, implies_true, and_self]
      rw [hx]
      (repeat' (first | apply And.intro | intro _))
      all_goals (try first | omega | trivial | (rfl; done) | assumption | (exfalso; omega) | (exact t) | (refine V.wk t ?_; simp [lle]; done))
  have loop1 : ∀ (k : Nat) (i : Int) (χ : Sg), 0 ≤ i → i + k = L → (∀ a b, a ≠ 31 → χ a b = σ a b) → (∀ b, 0 ≤ b → b < i → χ 31 b = if σ 26 (L - 1 - b) = -1 then -1 else L - 1 - σ 26 (L - 1 - b)) → ∃ τ, V D miX6_mirror 6 (some (aI 1)) τ 2 [some (aR 6), some (aI i), none] [] χ ∧ (∀ a b, a ≠ 26 → a ≠ 31 → τ a b = σ a b) ∧ ∀ b, τ 26 b = if 0 ≤ b ∧ b < L then (if σ 26 (L - 1 - b) = -1 then -1 else L - 1 - σ 26 (L - 1 - b)) else σ 26 b := by
    intro k
    induction k with
    | zero =>
      intro i χ i0 ik hf h31
      have hx : χ 6 0 = L := by rw [hf 6 0 (by omega)]; exact hL
      obtain ⟨τ, t, tr⟩ := loop2 L.toNat 0 χ (by omega) (by omega) (fun a b a1 a2 => hf a b a2) (fun b b0 b1 => h31 b b0 (by omega)) (fun b => by rw [if_neg (by omega)]; exact hf 26 b (by omega))
      refine ⟨τ, ?_, tr⟩
      refine vX6_mirror 60 ?_
      simp only [↓S_X6_mirror_1, ↓S_X6_mirror_2, ↓pI_c, ↓pL_c, ↓pR_c, ↓pC_I, ↓pC_R, ↓pE_n, ↓gI_0, ↓gI_s, ↓gL_0, ↓gL_s, ↓gR_0, ↓gR_s, ↓popN_0, ↓popN_s, ↓kl_I, ↓kl_L, ↓kl_R, ↓kl_n, ↓put1_0, ↓put1_s, ↓putk_0, ↓putk_s, ↓put2_0, ↓put2_s, ↓putl_0, ↓putl_s, ↓callK_0, ↓callK_1, ↓callK_2, cats_n, cats_c, catA_I, catA_L, catA_R, KL, LV, lval_f, ltag_f, llen_f, lcm_lt, lcm_le, lcm_gt, lcm_ge, lcm_eq, lcm_R1, lcm_R2, inR, inL, true_and, and_true, eq_self, List.head?_cons, Option.some.injEq, Sum.inr.injEq, Sum.inl.injEq, false_or, or_false, true_or, or_true, Nat.reduceAdd, Nat.reduceLeDiff, Int.reduceLE, Int.reduceLT, Int.reduceEq, Int.reduceNeg, Int.reduceAdd, Int.reduceSub, Int.reduceMul, Int.reduceNe, ne_eq, not_false_eq_true, not_true_eq_false, false_implies, forall_const, Nat.le_refl, Nat.zero_le, implies_true, and_self]
      rw [hx]
      (repeat' (first | apply And.intro | intro _))
      all_goals (try first | omega | trivial | (rfl; done) | assumption | (exfalso; omega) | (exact t) | (refine V.wk t ?_; simp [lle]; done))
    | succ k ih =>
      intro i χ i0 ik hf h31
      have hx : χ 6 0 = L := by rw [hf 6 0 (by omega)]; exact hL
      have hr := hw.r (show 0 ≤ L - 1 - i by omega) (show L - 1 - i < 24 by omega)
      have hm : χ 26 (L - 1 - i) = σ 26 (L - 1 - i) := hf 26 _ (by omega)
      obtain ⟨τ, t, tr⟩ := ih (i + 1) (up χ 31 i (if σ 26 (L - 1 - i) = -1 then -1 else L - 1 - σ 26 (L - 1 - i))) (by omega) (by omega) (fun a b a1 => by unfold up; rw [if_neg (by omega)]; exact hf a b a1) (fun b b0 b1 => by
        unfold up
        by_cases c : b = i
        · rw [if_pos ⟨rfl, c⟩, c]
        · rw [if_neg (by omega), h31 b b0 (by omega)])
      refine ⟨τ, ?_, tr⟩
      by_cases c : σ 26 (L - 1 - i) = -1
      · rw [if_pos c] at t
        refine vX6_mirror 60 ?_
        simp only [↓S_X6_mirror_1, ↓S_X6_mirror_2, ↓pI_c, ↓pL_c, ↓pR_c, ↓pC_I, ↓pC_R, ↓pE_n, ↓gI_0, ↓gI_s, ↓gL_0, ↓gL_s, ↓gR_0, ↓gR_s, ↓popN_0, ↓popN_s, ↓kl_I, ↓kl_L, ↓kl_R, ↓kl_n, ↓put1_0, ↓put1_s, ↓putk_0, ↓putk_s, ↓put2_0, ↓put2_s, ↓putl_0, ↓putl_s, ↓callK_0, ↓callK_1, ↓callK_2, cats_n, cats_c, catA_I, catA_L, catA_R, KL, LV, lval_f, ltag_f, llen_f, lcm_lt, lcm_le, lcm_gt, lcm_ge, lcm_eq, lcm_R1, lcm_R2, inR, inL, true_and, and_true, eq_self, List.head?_cons, Option.some.injEq, Sum.inr.injEq, Sum.inl.injEq, false_or, or_false, true_or, or_true, Nat.reduceAdd, Nat.reduceLeDiff, Int.reduceLE, Int.reduceLT, Int.reduceEq, Int.reduceNeg, Int.reduceAdd, Int.reduceSub, Int.reduceMul, Int.reduceNe, ne_eq, not_false_eq_true, not_true_eq_false, false_implies, forall_const, Nat.le_refl, Nat.zero_le, implies_true, and_self]
        rw [hx, hm]
        (repeat' (first | apply And.intro | intro _))
        all_goals (try first | omega | trivial | (rfl; done) | assumption | (exfalso; omega) | (exact t) | (refine V.wk t ?_; simp [lle]; done))
      · rw [if_neg c] at t
        refine vX6_mirror 60 ?_
        simp only [↓S_X6_mirror_1, ↓S_X6_mirror_2, ↓pI_c, ↓pL_c, ↓pR_c, ↓pC_I, ↓pC_R, ↓pE_n, ↓gI_0, ↓gI_s, ↓gL_0, ↓gL_s, ↓gR_0, ↓gR_s, ↓popN_0, ↓popN_s, ↓kl_I, ↓kl_L, ↓kl_R, ↓kl_n, ↓put1_0, ↓put1_s, ↓putk_0, ↓putk_s, ↓put2_0, ↓put2_s, ↓putl_0, ↓putl_s, ↓callK_0, ↓callK_1, ↓callK_2, cats_n, cats_c, catA_I, catA_L, catA_R, KL, LV, lval_f, ltag_f, llen_f, lcm_lt, lcm_le, lcm_gt, lcm_ge, lcm_eq, lcm_R1, lcm_R2, inR, inL, true_and, and_true, eq_self, List.head?_cons, Option.some.injEq, Sum.inr.injEq, Sum.inl.injEq, false_or, or_false, true_or, or_true, Nat.reduceAdd, Nat.reduceLeDiff, Int.reduceLE, Int.reduceLT, Int.reduceEq, Int.reduceNeg, Int.reduceAdd, Int.reduceSub, Int.reduceMul, Int.reduceNe, ne_eq, not_false_eq_true, not_true_eq_false, false_implies, forall_const, Nat.le_refl, Nat.zero_le, implies_true, and_self]
        rw [hx, hm]
        (repeat' (first | apply And.intro | intro _))
        all_goals (try first | omega | trivial | (rfl; done) | assumption | (exfalso; omega) | (exact t) | (refine V.wk t ?_; simp [lle]; done))
  obtain ⟨τ, t, tr⟩ := loop1 L.toNat 0 σ (by omega) (by omega) (fun _ _ _ => rfl) (fun b b0 b1 => by omega)
  refine ⟨τ, ?_, tr⟩
  refine Ret.of 6 [some (aR 6), none, none] rfl (by decide) rfl (Nat.le_of_ble_eq_true rfl) ?_
  refine vX6_mirror 60 ?_
  simp only [↓S_X6_mirror_1, ↓S_X6_mirror_2, ↓pI_c, ↓pL_c, ↓pR_c, ↓pC_I, ↓pC_R, ↓pE_n, ↓gI_0, ↓gI_s, ↓gL_0, ↓gL_s, ↓gR_0, ↓gR_s, ↓popN_0, ↓popN_s, ↓kl_I, ↓kl_L, ↓kl_R, ↓kl_n, ↓put1_0, ↓put1_s, ↓putk_0, ↓putk_s, ↓put2_0, ↓put2_s, ↓putl_0, ↓putl_s, ↓callK_0, ↓callK_1, ↓callK_2, cats_n, cats_c, catA_I, catA_L, catA_R, KL, LV, lval_f, ltag_f, llen_f, lcm_lt, lcm_le, lcm_gt, lcm_ge, lcm_eq, lcm_R1, lcm_R2, inR, inL, true_and, and_true, eq_self, List.head?_cons, Option.some.injEq, Sum.inr.injEq, Sum.inl.injEq, false_or, or_false, true_or, or_true, Nat.reduceAdd, Nat.reduceLeDiff, Int.reduceLE, Int.reduceLT, Int.reduceEq, Int.reduceNeg, Int.reduceAdd, Int.reduceSub, Int.reduceMul, Int.reduceNe, ne_eq, not_false_eq_true, not_true_eq_false, false_implies, forall_const, Nat.le_refl, Nat.zero_le, implies_true, and_self]
  (repeat' (first | apply And.intro | intro _))
  all_goals (try first | omega | trivial | (rfl; done) | assumption | (exfalso; omega) | (exact t) | (refine V.wk t ?_; simp [lle]; done))

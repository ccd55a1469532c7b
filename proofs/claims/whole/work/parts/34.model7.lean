/-! the model's handles -/
def btv (s i : Int) : Int := iand32 (ishr32 s i) 1
theorem btv_sh (x : BitVec 32) (j : Nat) (hj : j < 32) : (x.sshiftRight j &&& 1#32).toInt = if x.getLsbD j = true then 1 else 0 := by
  have e : x.sshiftRight j &&& 1#32 = if x.getLsbD j = true then 1#32 else 0#32 := by
    apply BitVec.eq_of_getLsbD_eq
    intro i hi
    rw [BitVec.getLsbD_and, BitVec.getLsbD_sshiftRight]
    by_cases q : i = 0
    · subst q
      by_cases c : x.getLsbD j = true
      · rw [if_pos c, Nat.add_zero, if_pos hj, c]; rfl
      · rw [if_neg c, Nat.add_zero, if_pos hj, show x.getLsbD j = false from by cases h : x.getLsbD j; rfl; exact absurd h c]; rfl
    · have h1 : (1#32).getLsbD i = false := by simp [q]
      rw [h1, Bool.and_false]
      by_cases c : x.getLsbD j = true
      · rw [if_pos c]; simp [q]
      · rw [if_neg c]; simp
  rw [e]
  by_cases c : x.getLsbD j = true
  · rw [if_pos c, if_pos c]; rfl
  · rw [if_neg c, if_neg c]; rfl
theorem shv : ∀ j : Fin 24, (Int32.ofInt (j.val : Int) &&& 31).toBitVec.smod 32 = BitVec.ofNat 32 j.val := by decide
theorem btv_eq (s : Int) (j : Nat) (hj : j < 24) : btv s j = if (Int32.ofInt s).toBitVec.getLsbD j = true then 1 else 0 := by
  rw [← btv_sh _ j (by omega)]
  unfold btv iand32 ishr32
  rw [Int32.ofInt_toInt]
  show ((Int32.ofInt s >>> (Int32.ofInt (j : Int) &&& 31)).toBitVec &&& 1#32).toInt = _
  rw [Int32.toBitVec_shiftRight, shv ⟨j, hj⟩]
  show ((Int32.ofInt s).toBitVec.sshiftRight (BitVec.ofNat 32 j).toNat &&& 1#32).toInt = _
  rw [BitVec.toNat_ofNat, Nat.mod_eq_of_lt (by omega)]
theorem one_sh : ∀ a j : Fin 24, (1 <<< (Int32.ofInt (a.val : Int) &&& 31) : Int32).toBitVec.getLsbD j.val = decide (j.val = a.val) := by decide
theorem btv_set (s : Int) {a j : Int} (a0 : 0 ≤ a) (a1 : a < 24) (j0 : 0 ≤ j) (j1 : j < 24) : btv (ior32 s (ishl32 1 a)) j = if j = a then 1 else btv s j := by
  obtain ⟨a, rfl⟩ : ∃ n : Nat, a = n := ⟨a.toNat, by omega⟩
  obtain ⟨j, rfl⟩ : ∃ n : Nat, j = n := ⟨j.toNat, by omega⟩
  rw [btv_eq _ j (by omega), btv_eq _ j (by omega)]
  unfold ior32 ishl32
  rw [Int32.ofInt_toInt, Int32.ofInt_toInt, Int32.toBitVec_or, BitVec.getLsbD_or]
  have := one_sh ⟨a, by omega⟩ ⟨j, by omega⟩
  rw [show (Int32.ofInt 1 : Int32) = 1 from rfl, this]
  by_cases c : j = a
  · subst c
    simp
  · have : ¬ ((j : Int) = (a : Int)) := by omega
    rw [if_neg this]
    simp [c]
theorem btv_01 (s : Int) {j : Int} (j0 : 0 ≤ j) (j1 : j < 24) : btv s j = 0 ∨ btv s j = 1 := by
  obtain ⟨j, rfl⟩ : ∃ n : Nat, j = n := ⟨j.toNat, by omega⟩
  rw [btv_eq _ j (by omega)]
  split <;> omega
theorem btv_0 {j : Int} (j0 : 0 ≤ j) (j1 : j < 24) : btv 0 j = 0 := by
  obtain ⟨j, rfl⟩ : ∃ n : Nat, j = n := ⟨j.toNat, by omega⟩
  rw [btv_eq _ j (by omega), show (Int32.ofInt 0).toBitVec = 0#32 from rfl]
  simp
set_option maxRecDepth 100000 in
theorem r_X6_nextJoined (D : Nat) (σ : Sg) (a : Int) (hw : WD (σ 6 0) (σ 26)) (a0 : 0 ≤ a) (a1 : a < σ 6 0) (ha : σ 26 a ≠ -1) : ∃ b, Ret (D + 1) miX6_nextJoined [aR 6, aI a] σ (some (aI b)) σ ∧ 0 ≤ b ∧ b < σ 6 0 ∧ σ 26 b ≠ -1 ∧ nj (σ 26) b = if nj (σ 26) a + 1 < nj (σ 26) (σ 6 0) then nj (σ 26) a + 1 else 0 := by
  have w1 := hw.1
  have w2 := hw.2.1
  have sa := nj_s (σ 26) a0
  rw [if_neg ha] at sa
  have two : ∀ (k : Nat) (b : Int), 0 ≤ b → b + k = a → nj (σ 26) b = 0 → nj (σ 26) (σ 6 0) = nj (σ 26) a + 1 → ∃ c, V D miX6_nextJoined 6 (some (aI c)) σ 18 [some (aR 6), some (aI a), some (aI b)] [] σ ∧ 0 ≤ c ∧ c < σ 6 0 ∧ σ 26 c ≠ -1 ∧ nj (σ 26) c = if nj (σ 26) a + 1 < nj (σ 26) (σ 6 0) then nj (σ 26) a + 1 else 0 := by
    intro k
    induction k with
    | zero =>
      intro b b0 bk hb hJ
      have : b = a := by omega
      subst this
      have hr := hw.r b0 (show b < 24 by omega)
      refine ⟨b, ?_, b0, a1, ha, by rw [if_neg (by omega)]; exact hb⟩
      refine vX6_nextJoined 60 ?_
      simp only [↓S_X6_nextJoined, ↓pI_c, ↓pL_c, ↓pR_c, ↓pC_I, ↓pC_R, ↓pE_n, ↓gI_0, ↓gI_s, ↓gL_0, ↓gL_s, ↓gR_0, ↓gR_s, ↓popN_0, ↓popN_s, ↓kl_I, ↓kl_L, ↓kl_R, ↓kl_n, ↓put1_0, ↓put1_s, ↓putk_0, ↓putk_s, ↓put2_0, ↓put2_s, ↓putl_0, ↓putl_s, ↓callK_0, ↓callK_1, ↓callK_2, cats_n, cats_c, catA_I, catA_L, catA_R, KL, LV, lval_f, ltag_f, llen_f, lcm_lt, lcm_le, lcm_gt, lcm_ge, lcm_eq, lcm_R1, lcm_R2, inR, inL, true_and, and_true, eq_self, List.head?_cons, Option.some.injEq, Sum.inr.injEq, Sum.inl.injEq, false_or, or_false, true_or, or_true, Nat.reduceAdd, Nat.reduceLeDiff, Int.reduceLE, Int.reduceLT, Int.reduceEq, Int.reduceNeg, Int.reduceAdd, Int.reduceSub, Int.reduceMul, Int.reduceNe, ne_eq, not_false_eq_true, not_true_eq_false, false_implies, forall_const, Nat.le_refl, Nat.zero_le, implies_true, and_self]
      (repeat' (first | apply And.intro | intro _))
      all_goals (try first | omega | trivial | (rfl; done) | assumption | (exfalso; omega))
    | succ k ih =>
      intro b b0 bk hb hJ
      have hr := hw.r b0 (show b < 24 by omega)
      by_cases c : σ 26 b = -1
      · have sb := nj_s (σ 26) b0
        rw [if_pos c] at sb
        obtain ⟨c2, t, tr⟩ := ih (b + 1) (by omega) (by omega) (by omega) hJ
        refine ⟨c2, ?_, tr⟩
        refine vX6_nextJoined 60 ?_
        simp only [↓S_X6_nextJoined, ↓pI_c, ↓pL_c, ↓pR_c, ↓pC_I, ↓pC_R, ↓pE_n, ↓gI_0, ↓gI_s, ↓gL_0, ↓gL_s, ↓gR_0, ↓gR_s, ↓popN_0, ↓popN_s, ↓kl_I, ↓kl_L, ↓kl_R, ↓kl_n, ↓put1_0, ↓put1_s, ↓putk_0, ↓putk_s, ↓put2_0, ↓put2_s, ↓putl_0, ↓putl_s, ↓callK_0, ↓callK_1, ↓callK_2, cats_n, cats_c, catA_I, catA_L, catA_R, KL, LV, lval_f, ltag_f, llen_f, lcm_lt, lcm_le, lcm_gt, lcm_ge, lcm_eq, lcm_R1, lcm_R2, inR, inL, true_and, and_true, eq_self, List.head?_cons, Option.some.injEq, Sum.inr.injEq, Sum.inl.injEq, false_or, or_false, true_or, or_true, Nat.reduceAdd, Nat.reduceLeDiff, Int.reduceLE, Int.reduceLT, Int.reduceEq, Int.reduceNeg, Int.reduceAdd, Int.reduceSub, Int.reduceMul, Int.reduceNe, ne_eq, not_false_eq_true, not_true_eq_false, false_implies, forall_const, Nat.le_refl, Nat.zero_le, implies_true, and_self]
        (repeat' (first | apply And.intro | intro _))
        all_goals (try first | omega | trivial | (rfl; done) | assumption | (exfalso; omega) | (exact t) | (refine V.wk t ?_; simp [lle]; done))
      · refine ⟨b, ?_, b0, by omega, c, by rw [if_neg (by omega)]; exact hb⟩
        refine vX6_nextJoined 60 ?_
        simp only [↓S_X6_nextJoined, ↓pI_c, ↓pL_c, ↓pR_c, ↓pC_I, ↓pC_R, ↓pE_n, ↓gI_0, ↓gI_s, ↓gL_0, ↓gL_s, ↓gR_0, ↓gR_s, ↓popN_0, ↓popN_s, ↓kl_I, ↓kl_L, ↓kl_R, ↓kl_n, ↓put1_0, ↓put1_s, ↓putk_0, ↓putk_s, ↓put2_0, ↓put2_s, ↓putl_0, ↓putl_s, ↓callK_0, ↓callK_1, ↓callK_2, cats_n, cats_c, catA_I, catA_L, catA_R, KL, LV, lval_f, ltag_f, llen_f, lcm_lt, lcm_le, lcm_gt, lcm_ge, lcm_eq, lcm_R1, lcm_R2, inR, inL, true_and, and_true, eq_self, List.head?_cons, Option.some.injEq, Sum.inr.injEq, Sum.inl.injEq, false_or, or_false, true_or, or_true, Nat.reduceAdd, Nat.reduceLeDiff, Int.reduceLE, Int.reduceLT, Int.reduceEq, Int.reduceNeg, Int.reduceAdd, Int.reduceSub, Int.reduceMul, Int.reduceNe, ne_eq, not_false_eq_true, not_true_eq_false, false_implies, forall_const, Nat.le_refl, Nat.zero_le, implies_true, and_self]
        (repeat' (first | apply And.intro | intro _))
        all_goals (try first | omega | trivial | (rfl; done) | assumption | (exfalso; omega))
  have one : ∀ (k : Nat) (b : Int), a < b → b + k + 1 = σ 6 0 → nj (σ 26) b = nj (σ 26) a + 1 → ∃ c, V D miX6_nextJoined 6 (some (aI c)) σ 18 [some (aR 6), some (aI a), some (aI b)] [] σ ∧ 0 ≤ c ∧ c < σ 6 0 ∧ σ 26 c ≠ -1 ∧ nj (σ 26) c = if nj (σ 26) a + 1 < nj (σ 26) (σ 6 0) then nj (σ 26) a + 1 else 0 := by
    intro k
    induction k with
    | zero =>
      intro b b0 bk hb
      have hr := hw.r (show 0 ≤ b by omega) (show b < 24 by omega)
      have sb := nj_s (σ 26) (show 0 ≤ b by omega)
      rw [show b + 1 = σ 6 0 from by omega] at sb
      by_cases c : σ 26 b = -1
      · rw [if_pos c] at sb
        obtain ⟨c2, t, tr⟩ := two a.toNat 0 (by omega) (by omega) (nj_0 _) (by omega)
        refine ⟨c2, ?_, tr⟩
        refine vX6_nextJoined 60 ?_
        simp only [↓S_X6_nextJoined, ↓pI_c, ↓pL_c, ↓pR_c, ↓pC_I, ↓pC_R, ↓pE_n, ↓gI_0, ↓gI_s, ↓gL_0, ↓gL_s, ↓gR_0, ↓gR_s, ↓popN_0, ↓popN_s, ↓kl_I, ↓kl_L, ↓kl_R, ↓kl_n, ↓put1_0, ↓put1_s, ↓putk_0, ↓putk_s, ↓put2_0, ↓put2_s, ↓putl_0, ↓putl_s, ↓callK_0, ↓callK_1, ↓callK_2, cats_n, cats_c, catA_I, catA_L, catA_R, KL, LV, lval_f, ltag_f, llen_f, lcm_lt, lcm_le, lcm_gt, lcm_ge, lcm_eq, lcm_R1, lcm_R2, inR, inL, true_and, and_true, eq_self, List.head?_cons, Option.some.injEq, Sum.inr.injEq, Sum.inl.injEq, false_or, or_false, true_or, or_true, Nat.reduceAdd, Nat.reduceLeDiff, Int.reduceLE, Int.reduceLT, Int.reduceEq, Int.reduceNeg, Int.reduceAdd, Int.reduceSub, Int.reduceMul, Int.reduceNe, ne_eq, not_false_eq_true, not_true_eq_false, false_implies, forall_const, Nat.le_refl, Nat.zero_le, implies_true, and_self]
        (repeat' (first | apply And.intro | intro _))
        all_goals (try first | omega | trivial | (rfl; done) | assumption | (exfalso; omega) | (exact t) | (refine V.wk t ?_; simp [lle]; done))
      · rw [if_neg c] at sb
        refine ⟨b, ?_, by omega, by omega, c, by rw [if_pos (by omega)]; exact hb⟩
        refine vX6_nextJoined 60 ?_
        simp only [↓S_X6_nextJoined, ↓pI_c, ↓pL_c, ↓pR_c, ↓pC_I, ↓pC_R, ↓pE_n, ↓gI_0, ↓gI_s, ↓gL_0, ↓gL_s, ↓gR_0, ↓gR_s, ↓popN_0, ↓popN_s, ↓kl_I, ↓kl_L, ↓kl_R, ↓kl_n, ↓put1_0, ↓put1_s, ↓putk_0, ↓putk_s, ↓put2_0, ↓put2_s, ↓putl_0, ↓putl_s, ↓callK_0, ↓callK_1, ↓callK_2, cats_n, cats_c, catA_I, catA_L, catA_R, KL, LV, lval_f, ltag_f, llen_f, lcm_lt, lcm_le, lcm_gt, lcm_ge, lcm_eq, lcm_R1, lcm_R2, inR, inL, true_and, and_true, eq_self, List.head?_cons, Option.some.injEq, Sum.inr.injEq, Sum.inl.injEq, false_or, or_false, true_or, or_true, Nat.reduceAdd, Nat.reduceLeDiff, Int.reduceLE, Int.reduceLT, Int.reduceEq, Int.reduceNeg, Int.reduceAdd, Int.reduceSub, Int.reduceMul, Int.reduceNe, ne_eq, not_false_eq_true, not_true_eq_false, false_implies, forall_const, Nat.le_refl, Nat.zero_le, implies_true, and_self]
        (repeat' (first | apply And.intro | intro _))
        all_goals (try first | omega | trivial | (rfl; done) | assumption | (exfalso; omega))
    | succ k ih =>
      intro b b0 bk hb
      have hr := hw.r (show 0 ≤ b by omega) (show b < 24 by omega)
      have sb := nj_s (σ 26) (show 0 ≤ b by omega)
      by_cases c : σ 26 b = -1
      · rw [if_pos c] at sb
        obtain ⟨c2, t, tr⟩ := ih (b + 1) (by omega) (by omega) (by omega)
        refine ⟨c2, ?_, tr⟩
        refine vX6_nextJoined 60 ?_
        simp only [↓S_X6_nextJoined, ↓pI_c, ↓pL_c, ↓pR_c, ↓pC_I, ↓pC_R, ↓pE_n, ↓gI_0, ↓gI_s, ↓gL_0, ↓gL_s, ↓gR_0, ↓gR_s, ↓popN_0, ↓popN_s, ↓kl_I, ↓kl_L, ↓kl_R, ↓kl_n, ↓put1_0, ↓put1_s, ↓putk_0, ↓putk_s, ↓put2_0, ↓put2_s, ↓putl_0, ↓putl_s, ↓callK_0, ↓callK_1, ↓callK_2, cats_n, cats_c, catA_I, catA_L, catA_R, KL, LV, lval_f, ltag_f, llen_f, lcm_lt, lcm_le, lcm_gt, lcm_ge, lcm_eq, lcm_R1, lcm_R2, inR, inL, true_and, and_true, eq_self, List.head?_cons, Option.some.injEq, Sum.inr.injEq, Sum.inl.injEq, false_or, or_false, true_or, or_true, Nat.reduceAdd, Nat.reduceLeDiff, Int.reduceLE, Int.reduceLT, Int.reduceEq, Int.reduceNeg, Int.reduceAdd, Int.reduceSub, Int.reduceMul, Int.reduceNe, ne_eq, not_false_eq_true, not_true_eq_false, false_implies, forall_const, Nat.le_refl, Nat.zero_le, implies_true, and_self]
        (repeat' (first | apply And.intro | intro _))
        all_goals (try first | omega | trivial | (rfl; done) | assumption | (exfalso; omega) | (exact t) | (refine V.wk t ?_; simp [lle]; done))
      · have := nj_lt (σ 26) (show 0 ≤ b by omega) (show b < σ 6 0 by omega) c
        refine ⟨b, ?_, by omega, by omega, c, by rw [if_pos (by omega)]; exact hb⟩
        refine vX6_nextJoined 60 ?_
        simp only [↓S_X6_nextJoined, ↓pI_c, ↓pL_c, ↓pR_c, ↓pC_I, ↓pC_R, ↓pE_n, ↓gI_0, ↓gI_s, ↓gL_0, ↓gL_s, ↓gR_0, ↓gR_s, ↓popN_0, ↓popN_s, ↓kl_I, ↓kl_L, ↓kl_R, ↓kl_n, ↓put1_0, ↓put1_s, ↓putk_0, ↓putk_s, ↓put2_0, ↓put2_s, ↓putl_0, ↓putl_s, ↓callK_0, ↓callK_1, ↓callK_2, cats_n, cats_c, catA_I, catA_L, catA_R, KL, LV, lval_f, ltag_f, llen_f, lcm_lt, lcm_le, lcm_gt, lcm_ge, lcm_eq, lcm_R1, lcm_R2, inR, inL, true_and, and_true, eq_self, List.head?_cons, Option.some.injEq, Sum.inr.injEq, Sum.inl.injEq, false_or, or_false, true_or, or_true, Nat.reduceAdd, Nat.reduceLeDiff, Int.reduceLE, Int.reduceLT, Int.reduceEq, Int.reduceNeg, Int.reduceAdd, Int.reduceSub, Int.reduceMul, Int.reduceNe, ne_eq, not_false_eq_true, not_true_eq_false, false_implies, forall_const, Nat.le_refl, Nat.zero_le, implies_true, and_self]
        (repeat' (first | apply And.intro | intro _))
        all_goals (try first | omega | trivial | (rfl; done) | assumption | (exfalso; omega))
  by_cases q : a = σ 6 0 - 1
  · obtain ⟨c, t, tr⟩ := two a.toNat 0 (by omega) (by omega) (nj_0 _) (by rw [← sa]; congr 1; omega)
    refine ⟨c, ?_, tr⟩
    refine Ret.of 6 [some (aR 6), some (aI a), none] rfl (by decide) rfl (Nat.le_of_ble_eq_true rfl) ?_
    refine vX6_nextJoined 60 ?_
    simp only [↓S_X6_nextJoined, ↓pI_c, ↓pL_c, ↓pR_c, ↓pC_I, ↓pC_R, ↓pE_n, ↓gI_0, ↓gI_s, ↓gL_0, ↓gL_s, ↓gR_0, ↓gR_s, ↓popN_0, ↓popN_s, ↓kl_I, ↓kl_L, ↓kl_R, ↓kl_n, ↓put1_0, ↓put1_s, ↓putk_0, ↓putk_s, ↓put2_0, ↓put2_s, ↓putl_0, ↓putl_s, ↓callK_0, ↓callK_1, ↓callK_2, cats_n, cats_c, catA_I, catA_L, catA_R, KL, LV, lval_f, ltag_f, llen_f, lcm_lt, lcm_le, lcm_gt, lcm_ge, lcm_eq, lcm_R1, lcm_R2, inR, inL, true_and, and_true, eq_self, List.head?_cons, Option.some.injEq, Sum.inr.injEq, Sum.inl.injEq, false_or, or_false, true_or, or_true, Nat.reduceAdd, Nat.reduceLeDiff, Int.reduceLE, Int.reduceLT, Int.reduceEq, Int.reduceNeg, Int.reduceAdd, Int.reduceSub, Int.reduceMul, Int.reduceNe, ne_eq, not_false_eq_true, not_true_eq_false, false_implies, forall_const, Nat.le_refl, Nat.zero_le, implies_true, and_self]
    (repeat' (first | apply And.intro | intro _))
    all_goals (try first | omega | trivial | (rfl; done) | assumption | (exfalso; omega) | (exact t) | (refine V.wk t ?_; simp [lle]; done))
  · obtain ⟨c, t, tr⟩ := one (σ 6 0 - 1 - (a + 1)).toNat (a + 1) (by omega) (by omega) (by omega)
    refine ⟨c, ?_, tr⟩
    refine Ret.of 6 [some (aR 6), some (aI a), none] rfl (by decide) rfl (Nat.le_of_ble_eq_true rfl) ?_
    refine vX6_nextJoined 60 ?_
    simp only [↓S_X6_nextJoined, ↓pI_c, ↓pL_c, ↓pR_c, ↓pC_I, ↓pC_R, ↓pE_n, ↓gI_0, ↓gI_s, ↓gL_0, ↓gL_s, ↓gR_0, ↓gR_s, ↓popN_0, ↓popN_s, ↓kl_I, ↓kl_L, ↓kl_R, ↓kl_n, ↓put1_0, ↓put1_s, ↓putk_0, ↓putk_s, ↓put2_0, ↓put2_s, ↓putl_0, ↓putl_s, ↓callK_0, ↓callK_1, ↓callK_2, cats_n, cats_c, catA_I, catA_L, catA_R, KL, LV, lval_f, ltag_f, llen_f, lcm_lt, lcm_le, lcm_gt, lcm_ge, lcm_eq, lcm_R1, lcm_R2, inR, inL, true_and, and_true, eq_self, List.head?_cons, Option.some.injEq, Sum.inr.injEq, Sum.inl.injEq, false_or, or_false, true_or, or_true, Nat.reduceAdd, Nat.reduceLeDiff, Int.reduceLE, Int.reduceLT, Int.reduceEq, Int.reduceNeg, Int.reduceAdd, Int.reduceSub, Int.reduceMul, Int.reduceNe, ne_eq, not_false_eq_true, not_true_eq_false, false_implies, forall_const, Nat.le_refl, Nat.zero_le, implies_true, and_self]
    (repeat' (first | apply And.intro | intro _))
    all_goals (try first | omega | trivial | (rfl; done) | assumption | (exfalso; omega) | (exact t) | (refine V.wk t ?_; simp [lle]; done))

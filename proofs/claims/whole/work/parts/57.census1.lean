/-! how many full drawings have so many handles: both sides -/
def HT : List Int := [1, 0, 0, 0, 0, 0, 0, 0, 1, 0, 0, 0, 0, 0, 0, 0, 2, 1, 0, 0, 0, 0, 0, 0, 5, 10, 0, 0, 0, 0, 0, 0, 14, 70, 21, 0, 0, 0, 0, 0, 42, 420, 483, 0, 0, 0, 0, 0, 132, 2310, 6468, 1485, 0, 0, 0, 0, 429, 12012, 66066, 56628, 0, 0, 0, 0, 1430, 60060, 570570, 1169740, 225225, 0, 0, 0, 4862, 291720, 4390386, 17454580, 12317877, 0, 0, 0, 16796, 1385670, 31039008, 211083730, 351683046, 59520825, 0, 0, 58786, 6466460, 205633428, 2198596400, 7034538511, 4304016990, 0, 0, 208012, 29745716, 1293938646, 20465052608, 111159740692, 158959754226, 24325703325, 0]
def hq (i : Int) : Int := HT.getD i.toNat 0
def hs (n g : Int) : Int := 2 * (2 * n - 1) * hq (8 * (n - 1) + g) + (if 1 < n ∧ 0 < g then (2 * n - 1) * (n - 1) * (2 * n - 3) * hq (8 * (n - 2) + g - 1) else 0)
theorem hs_rec0 : ∀ n : Nat, n < 13 → ∀ g : Nat, g < 8 → 1 ≤ n → (hs n g).tdiv ((n : Int) + 1) = hq (8 * (n : Int) + g) ∧ -1000000000000000000 < hs n g ∧ hs n g < 1000000000000000000 := by decide +kernel
theorem hs_rec {n g : Int} (n0 : 1 ≤ n) (n1 : n < 13) (g0 : 0 ≤ g) (g1 : g < 8) : (hs n g).tdiv (n + 1) = hq (8 * n + g) ∧ -1000000000000000000 < hs n g ∧ hs n g < 1000000000000000000 := by
  have := hs_rec0 n.toNat (by omega) g.toNat (by omega) (by omega)
  rw [show ((n.toNat : Nat) : Int) = n from by omega, show ((g.toNat : Nat) : Int) = g from by omega] at this
  exact this
theorem hq_70 : ∀ n : Nat, n < 13 → hq (8 * (n : Int) + 7) = 0 := by decide +kernel
theorem hq_00 : hq 0 = 1 ∧ (∀ g : Nat, g < 8 → 1 ≤ g → hq (g : Int) = 0) := by decide +kernel
set_option maxRecDepth 100000 in
theorem r_X6_layHandles (D : Nat) (σ : Sg) : ∃ τ, Ret (D + 1) miX6_layHandles [aR 6] σ none τ ∧ (∀ x y, x ≠ 32 → τ x y = σ x y) ∧ (∀ i, 0 ≤ i → i < 104 → τ 32 i = hq i) := by
  have l32 : llen 32 = 104 := rfl
  have outer : ∀ (k : Nat) (n : Int) (χ : Sg), 0 ≤ n → n + k = 13 → (∀ x y, x ≠ 32 → χ x y = σ x y) → (∀ i, 0 ≤ i → i < 8 * n → χ 32 i = hq i) → ∃ τ, V D miX6_layHandles 6 none τ 2 [some (aR 6), some (aI n), none, none, none] [] χ ∧ (∀ x y, x ≠ 32 → τ x y = σ x y) ∧ (∀ i, 0 ≤ i → i < 104 → τ 32 i = hq i) := by
    intro k
    induction k with
    | zero =>
      intro n χ n0 nk hf hi
      refine ⟨χ, ?_, hf, fun i i0 i1 => hi i i0 (by omega)⟩
      refine vX6_layHandles 100 ?_
      simp only [↓S_X6_layHandles_1, ↓S_X6_layHandles_2, ↓S_X6_layHandles_3, ↓pI_c, ↓pL_c, ↓pR_c, ↓pC_I, ↓pC_R, ↓pE_n, ↓gI_0, ↓gI_s, ↓gL_0, ↓gL_s, ↓gR_0, ↓gR_s, ↓popN_0, ↓popN_s, ↓kl_I, ↓kl_L, ↓kl_R, ↓kl_n, ↓put1_0, ↓put1_s, ↓putk_0, ↓putk_s, ↓put2_0, ↓put2_s, ↓putl_0, ↓putl_s, ↓callK_0, ↓callK_1, ↓callK_2, cats_n, cats_c, catA_I, catA_L, catA_R, KL, LV, lval_f, ltag_f, llen_f, lcm_lt, lcm_le, lcm_gt, lcm_ge, lcm_eq, lcm_R1, lcm_R2, inR, inL, true_and, and_true, eq_self, List.head?_cons, Option.some.injEq, Sum.inr.injEq, Sum.inl.injEq, false_or, or_false, true_or, or_true, Nat.reduceAdd, Nat.reduceLeDiff, Int.reduceLE, Int.reduceLT, Int.reduceEq, Int.reduceNeg, Int.reduceAdd, Int.reduceSub, Int.reduceMul, Int.reduceNe, ne_eq, not_false_eq_true, not_true_eq_false, false_implies, forall_const, Nat.le_refl, Nat.zero_le, implies_true, and_self]
      (repeat' (first | apply And.intro | intro _))
      all_goals (try first | omega | trivial | (rfl; done) | assumption | (exfalso; omega))
    | succ k ih =>
      intro n χ n0 nk hf hi
      have inner : ∀ (j : Nat) (g : Int) (χ : Sg), 0 ≤ g → g + j = 8 → (∀ x y, x ≠ 32 → χ x y = σ x y) → (∀ i, 0 ≤ i → i < 8 * n + g → χ 32 i = hq i) → ∃ τ, V D miX6_layHandles 6 none τ 10 [some (aR 6), some (aI n), some (aI g), none, none] [] χ ∧ (∀ x y, x ≠ 32 → τ x y = σ x y) ∧ (∀ i, 0 ≤ i → i < 104 → τ 32 i = hq i) := by
        intro j
        induction j with
        | zero =>
          intro g χ g0 gj hf hi
          obtain ⟨τ, t, tr⟩ := ih (n + 1) χ (by omega) (by omega) hf (fun i i0 i1 => hi i i0 (by omega))
          refine ⟨τ, ?_, tr⟩
          refine vX6_layHandles 100 ?_
          simp only [↓S_X6_layHandles_1, ↓S_X6_layHandles_2, ↓S_X6_layHandles_3, ↓pI_c, ↓pL_c, ↓pR_c, ↓pC_I, ↓pC_R, ↓pE_n, ↓gI_0, ↓gI_s, ↓gL_0, ↓gL_s, ↓gR_0, ↓gR_s, ↓popN_0, ↓popN_s, ↓kl_I, ↓kl_L, ↓kl_R, ↓kl_n, ↓put1_0, ↓put1_s, ↓putk_0, ↓putk_s, ↓put2_0, ↓put2_s, ↓putl_0, ↓putl_s, ↓callK_0, ↓callK_1, ↓callK_2, cats_n, cats_c, catA_I, catA_L, catA_R, KL, LV, lval_f, ltag_f, llen_f, lcm_lt, lcm_le, lcm_gt, lcm_ge, lcm_eq, lcm_R1, lcm_R2, inR, inL, true_and, and_true, eq_self, List.head?_cons, Option.some.injEq, Sum.inr.injEq, Sum.inl.injEq, false_or, or_false, true_or, or_true, Nat.reduceAdd, Nat.reduceLeDiff, Int.reduceLE, Int.reduceLT, Int.reduceEq, Int.reduceNeg, Int.reduceAdd, Int.reduceSub, Int.reduceMul, Int.reduceNe, ne_eq, not_false_eq_true, not_true_eq_false, false_implies, forall_const, Nat.le_refl, Nat.zero_le, implies_true, and_self]
          (repeat' (first | apply And.intro | intro _))
          all_goals (try first | omega | trivial | (rfl; done) | assumption | (exfalso; omega) | (exact t) | (refine V.wk t ?_; simp [lle]; done))
        | succ j ih2 =>
          intro g χ g0 gj hf hi
          obtain ⟨τ, t, tr⟩ := ih2 (g + 1) (up χ 32 (8 * n + g) (hq (8 * n + g))) (by omega) (by omega) (fun x y hx => by unfold up; rw [if_neg (by omega)]; exact hf x y hx) (fun i i0 i1 => by
            unfold up
            by_cases c : i = 8 * n + g
            · rw [if_pos ⟨rfl, c⟩, c]
            · rw [if_neg (by omega)]
              exact hi i i0 (by omega))
          refine ⟨τ, ?_, tr⟩
          by_cases c0 : n = 0
          · subst c0
            by_cases c1 : g = 0
            · subst c1
              have e1 : hq (8 * 0 + 0) = 1 := hq_00.1
              rw [e1] at t
              refine vX6_layHandles 100 ?_
              simp only [↓S_X6_layHandles_1, ↓S_X6_layHandles_2, ↓S_X6_layHandles_3, ↓pI_c, ↓pL_c, ↓pR_c, ↓pC_I, ↓pC_R, ↓pE_n, ↓gI_0, ↓gI_s, ↓gL_0, ↓gL_s, ↓gR_0, ↓gR_s, ↓popN_0, ↓popN_s, ↓kl_I, ↓kl_L, ↓kl_R, ↓kl_n, ↓put1_0, ↓put1_s, ↓putk_0, ↓putk_s, ↓put2_0, ↓put2_s, ↓putl_0, ↓putl_s, ↓callK_0, ↓callK_1, ↓callK_2, cats_n, cats_c, catA_I, catA_L, catA_R, KL, LV, lval_f, ltag_f, llen_f, lcm_lt, lcm_le, lcm_gt, lcm_ge, lcm_eq, lcm_R1, lcm_R2, inR, inL, true_and, and_true, eq_self, List.head?_cons, Option.some.injEq, Sum.inr.injEq, Sum.inl.injEq, false_or, or_false, true_or, or_true, Nat.reduceAdd, Nat.reduceLeDiff, Int.reduceLE, Int.reduceLT, Int.reduceEq, Int.reduceNeg, Int.reduceAdd, Int.reduceSub, Int.reduceMul, Int.reduceNe, ne_eq, not_false_eq_true, not_true_eq_false, false_implies, forall_const, Nat.le_refl, Nat.zero_le, implies_true, and_self]
              (repeat' (first | apply And.intro | intro _))
              all_goals (try first | omega | trivial | (rfl; done) | assumption | (exfalso; omega) | (exact t) | (refine V.wk t ?_; simp [lle]; done))
            · have e1 : hq (8 * 0 + g) = 0 := by
                have := hq_00.2 g.toNat (by omega) (by omega)
                rw [show (8 * 0 + g : Int) = ((g.toNat : Nat) : Int) from by omega]
                exact this
              rw [e1] at t
              refine vX6_layHandles 100 ?_
              simp only [↓S_X6_layHandles_1, ↓S_X6_layHandles_2, ↓S_X6_layHandles_3, ↓pI_c, ↓pL_c, ↓pR_c, ↓pC_I, ↓pC_R, ↓pE_n, ↓gI_0, ↓gI_s, ↓gL_0, ↓gL_s, ↓gR_0, ↓gR_s, ↓popN_0, ↓popN_s, ↓kl_I, ↓kl_L, ↓kl_R, ↓kl_n, ↓put1_0, ↓put1_s, ↓putk_0, ↓putk_s, ↓put2_0, ↓put2_s, ↓putl_0, ↓putl_s, ↓callK_0, ↓callK_1, ↓callK_2, cats_n, cats_c, catA_I, catA_L, catA_R, KL, LV, lval_f, ltag_f, llen_f, lcm_lt, lcm_le, lcm_gt, lcm_ge, lcm_eq, lcm_R1, lcm_R2, inR, inL, true_and, and_true, eq_self, List.head?_cons, Option.some.injEq, Sum.inr.injEq, Sum.inl.injEq, false_or, or_false, true_or, or_true, Nat.reduceAdd, Nat.reduceLeDiff, Int.reduceLE, Int.reduceLT, Int.reduceEq, Int.reduceNeg, Int.reduceAdd, Int.reduceSub, Int.reduceMul, Int.reduceNe, ne_eq, not_false_eq_true, not_true_eq_false, false_implies, forall_const, Nat.le_refl, Nat.zero_le, implies_true, and_self]
              (repeat' (first | apply And.intro | intro _))
              all_goals (try first | omega | trivial | (rfl; done) | assumption | (exfalso; omega) | (exact t) | (refine V.wk t ?_; simp [lle]; done))
          · obtain ⟨r1, r2, r3⟩ := hs_rec (n := n) (g := g) (by omega) (by omega) g0 (by omega)
            have e1 : χ 32 (8 * (n - 1) + g) = hq (8 * (n - 1) + g) := hi _ (by omega) (by omega)
            by_cases c1 : 1 < n ∧ 0 < g
            · have e2 : χ 32 (8 * (n - 2) + g - 1) = hq (8 * (n - 2) + g - 1) := hi _ (by omega) (by omega)
              unfold hs at r1 r2 r3
              rw [if_pos c1] at r1 r2 r3
              refine vX6_layHandles 100 ?_
              simp only [↓S_X6_layHandles_1, ↓S_X6_layHandles_2, ↓S_X6_layHandles_3, ↓pI_c, ↓pL_c, ↓pR_c, ↓pC_I, ↓pC_R, ↓pE_n, ↓gI_0, ↓gI_s, ↓gL_0, ↓gL_s, ↓gR_0, ↓gR_s, ↓popN_0, ↓popN_s, ↓kl_I, ↓kl_L, ↓kl_R, ↓kl_n, ↓put1_0, ↓put1_s, ↓putk_0, ↓putk_s, ↓put2_0, ↓put2_s, ↓putl_0, ↓putl_s, ↓callK_0, ↓callK_1, ↓callK_2, cats_n, cats_c, catA_I, catA_L, catA_R, KL, LV, lval_f, ltag_f, llen_f, lcm_lt, lcm_le, lcm_gt, lcm_ge, lcm_eq, lcm_R1, lcm_R2, inR, inL, true_and, and_true, eq_self, List.head?_cons, Option.some.injEq, Sum.inr.injEq, Sum.inl.injEq, false_or, or_false, true_or, or_true, Nat.reduceAdd, Nat.reduceLeDiff, Int.reduceLE, Int.reduceLT, Int.reduceEq, Int.reduceNeg, Int.reduceAdd, Int.reduceSub, Int.reduceMul, Int.reduceNe, ne_eq, not_false_eq_true, not_true_eq_false, false_implies, forall_const, Nat.le_refl, Nat.zero_le, implies_true, and_self]
              simp only [e1, e2, r1]
              (repeat' (first | apply And.intro | intro _))
              all_goals (try first | omega | trivial | (rfl; done) | assumption | (exfalso; omega) | (exact t) | (refine V.wk t ?_; simp [lle]; done))
            · unfold hs at r1 r2 r3
              rw [if_neg c1] at r1 r2 r3
              refine vX6_layHandles 100 ?_
              simp only [↓S_X6_layHandles_1, ↓S_X6_layHandles_2, ↓S_X6_layHandles_3, ↓pI_c, ↓pL_c, ↓pR_c, ↓pC_I, ↓pC_R, ↓pE_n, ↓gI_0, ↓gI_s, ↓gL_0, ↓gL_s, ↓gR_0, ↓gR_s, ↓popN_0, ↓popN_s, ↓kl_I, ↓kl_L, ↓kl_R, ↓kl_n, ↓put1_0, ↓put1_s, ↓putk_0, ↓putk_s, ↓put2_0, ↓put2_s, ↓putl_0, ↓putl_s, ↓callK_0, ↓callK_1, ↓callK_2, cats_n, cats_c, catA_I, catA_L, catA_R, KL, LV, lval_f, ltag_f, llen_f, lcm_lt, lcm_le, lcm_gt, lcm_ge, lcm_eq, lcm_R1, lcm_R2, inR, inL, true_and, and_true, eq_self, List.head?_cons, Option.some.injEq, Sum.inr.injEq, Sum.inl.injEq, false_or, or_false, true_or, or_true, Nat.reduceAdd, Nat.reduceLeDiff, Int.reduceLE, Int.reduceLT, Int.reduceEq, Int.reduceNeg, Int.reduceAdd, Int.reduceSub, Int.reduceMul, Int.reduceNe, ne_eq, not_false_eq_true, not_true_eq_false, false_implies, forall_const, Nat.le_refl, Nat.zero_le, implies_true, and_self]
              simp only [e1, r1]
              (repeat' (first | apply And.intro | intro _))
              all_goals (try first | omega | trivial | (rfl; done) | assumption | (exfalso; omega) | (exact t) | (refine V.wk t ?_; simp [lle]; done))
      obtain ⟨τ, t, tr⟩ := inner 8 0 χ (by omega) (by omega) hf (fun i i0 i1 => hi i i0 (by omega))
      refine ⟨τ, ?_, tr⟩
      refine vX6_layHandles 100 ?_
      simp only [↓S_X6_layHandles_1, ↓S_X6_layHandles_2, ↓S_X6_layHandles_3, ↓pI_c, ↓pL_c, ↓pR_c, ↓pC_I, ↓pC_R, ↓pE_n, ↓gI_0, ↓gI_s, ↓gL_0, ↓gL_s, ↓gR_0, ↓gR_s, ↓popN_0, ↓popN_s, ↓kl_I, ↓kl_L, ↓kl_R, ↓kl_n, ↓put1_0, ↓put1_s, ↓putk_0, ↓putk_s, ↓put2_0, ↓put2_s, ↓putl_0, ↓putl_s, ↓callK_0, ↓callK_1, ↓callK_2, cats_n, cats_c, catA_I, catA_L, catA_R, KL, LV, lval_f, ltag_f, llen_f, lcm_lt, lcm_le, lcm_gt, lcm_ge, lcm_eq, lcm_R1, lcm_R2, inR, inL, true_and, and_true, eq_self, List.head?_cons, Option.some.injEq, Sum.inr.injEq, Sum.inl.injEq, false_or, or_false, true_or, or_true, Nat.reduceAdd, Nat.reduceLeDiff, Int.reduceLE, Int.reduceLT, Int.reduceEq, Int.reduceNeg, Int.reduceAdd, Int.reduceSub, Int.reduceMul, Int.reduceNe, ne_eq, not_false_eq_true, not_true_eq_false, false_implies, forall_const, Nat.le_refl, Nat.zero_le, implies_true, and_self]
      (repeat' (first | apply And.intro | intro _))
      all_goals (try first | omega | trivial | (rfl; done) | assumption | (exfalso; omega) | (exact t) | (refine V.wk t ?_; simp [lle]; done))
  obtain ⟨τ, t, tr⟩ := outer 13 0 σ (by omega) (by omega) (fun _ _ _ => rfl) (fun i i0 i1 => by omega)
  refine ⟨τ, ?_, tr⟩
  refine Ret.of 6 [some (aR 6), none, none, none, none] rfl (by decide) rfl (Nat.le_of_ble_eq_true rfl) ?_
  refine vX6_layHandles 100 ?_
  simp only [↓S_X6_layHandles_1, ↓S_X6_layHandles_2, ↓S_X6_layHandles_3, ↓pI_c, ↓pL_c, ↓pR_c, ↓pC_I, ↓pC_R, ↓pE_n, ↓gI_0, ↓gI_s, ↓gL_0, ↓gL_s, ↓gR_0, ↓gR_s, ↓popN_0, ↓popN_s, ↓kl_I, ↓kl_L, ↓kl_R, ↓kl_n, ↓put1_0, ↓put1_s, ↓putk_0, ↓putk_s, ↓put2_0, ↓put2_s, ↓putl_0, ↓putl_s, ↓callK_0, ↓callK_1, ↓callK_2, cats_n, cats_c, catA_I, catA_L, catA_R, KL, LV, lval_f, ltag_f, llen_f, lcm_lt, lcm_le, lcm_gt, lcm_ge, lcm_eq, lcm_R1, lcm_R2, inR, inL, true_and, and_true, eq_self, List.head?_cons, Option.some.injEq, Sum.inr.injEq, Sum.inl.injEq, false_or, or_false, true_or, or_true, Nat.reduceAdd, Nat.reduceLeDiff, Int.reduceLE, Int.reduceLT, Int.reduceEq, Int.reduceNeg, Int.reduceAdd, Int.reduceSub, Int.reduceMul, Int.reduceNe, ne_eq, not_false_eq_true, not_true_eq_false, false_implies, forall_const, Nat.le_refl, Nat.zero_le, implies_true, and_self]
  (repeat' (first | apply And.intro | intro _))
  all_goals (try first | omega | trivial | (rfl; done) | assumption | (exfalso; omega) | (exact t) | (refine V.wk t ?_; simp [lle]; done))
set_option maxRecDepth 100000 in
theorem r_X0_findHandles (D : Nat) (σ : Sg) (h0 : ∀ g, 0 ≤ g → g < 7 → σ 170 g = 0) : ∃ τ, Ret (D + 1) miX0_findHandles [aR 0] σ none τ ∧ (∀ x y, ¬ (170 ≤ x ∧ x < 183) → τ x y = σ x y) ∧ (∀ n g, 0 ≤ n → n < 13 → 0 ≤ g → g < 7 → τ (170 + n) g = hq (8 * n + g)) := by
  have outer : ∀ (k : Nat) (n : Int) (χ : Sg), 1 ≤ n → n + k = 13 → (∀ x y, ¬ (170 ≤ x ∧ x < 183) → χ x y = σ x y) → (∀ m g, 0 ≤ m → m < n → 0 ≤ g → g < 7 → χ (170 + m) g = hq (8 * m + g)) → ∃ τ, V D miX0_findHandles 0 none τ 11 [some (aR 0), some (aI n), none, none, none] [] χ ∧ (∀ x y, ¬ (170 ≤ x ∧ x < 183) → τ x y = σ x y) ∧ (∀ n g, 0 ≤ n → n < 13 → 0 ≤ g → g < 7 → τ (170 + n) g = hq (8 * n + g)) := by
    intro k
    induction k with
    | zero =>
      intro n χ n0 nk hf hi
      refine ⟨χ, ?_, hf, fun m g m0 m1 g0 g1 => hi m g m0 (by omega) g0 g1⟩
      refine vX0_findHandles 100 ?_
      simp only [↓S_X0_findHandles_1, ↓S_X0_findHandles_2, ↓S_X0_findHandles_3, ↓pI_c, ↓pL_c, ↓pR_c, ↓pC_I, ↓pC_R, ↓pE_n, ↓gI_0, ↓gI_s, ↓gL_0, ↓gL_s, ↓gR_0, ↓gR_s, ↓popN_0, ↓popN_s, ↓kl_I, ↓kl_L, ↓kl_R, ↓kl_n, ↓put1_0, ↓put1_s, ↓putk_0, ↓putk_s, ↓put2_0, ↓put2_s, ↓putl_0, ↓putl_s, ↓callK_0, ↓callK_1, ↓callK_2, cats_n, cats_c, catA_I, catA_L, catA_R, KL, LV, lval_f, ltag_f, llen_f, lcm_lt, lcm_le, lcm_gt, lcm_ge, lcm_eq, lcm_R1, lcm_R2, inR, inL, true_and, and_true, eq_self, List.head?_cons, Option.some.injEq, Sum.inr.injEq, Sum.inl.injEq, false_or, or_false, true_or, or_true, Nat.reduceAdd, Nat.reduceLeDiff, Int.reduceLE, Int.reduceLT, Int.reduceEq, Int.reduceNeg, Int.reduceAdd, Int.reduceSub, Int.reduceMul, Int.reduceNe, ne_eq, not_false_eq_true, not_true_eq_false, false_implies, forall_const, Nat.le_refl, Nat.zero_le, implies_true, and_self]
      (repeat' (first | apply And.intro | intro _))
      all_goals (try first | omega | trivial | (rfl; done) | assumption | (exfalso; omega))
    | succ k ih =>
      intro n χ n0 nk hf hi
      have kn := (krow (i := n)).2.2.1 (by omega) (by omega)
      have kn1 := (krow (i := n - 1)).2.2.1 (by omega) (by omega)
      have tn1 : ltag (170 + (n - 1)) = 2 := by rw [ltag_n (by omega)]; exact kn1.1
      have ln1 : llen (170 + (n - 1)) = 7 := by rw [llen_n (by omega)]; exact kn1.2.1
      have inner : ∀ (j : Nat) (g : Int) (χ : Sg), 0 ≤ g → g + j = 7 → (∀ x y, ¬ (170 ≤ x ∧ x < 183) → χ x y = σ x y) → (∀ m g, 0 ≤ m → m < n → 0 ≤ g → g < 7 → χ (170 + m) g = hq (8 * m + g)) → (∀ g', 0 ≤ g' → g' < g → χ (170 + n) g' = hq (8 * n + g')) → ∃ τ, V D miX0_findHandles 0 none τ 19 [some (aR 0), some (aI n), some (aI g), none, none] [] χ ∧ (∀ x y, ¬ (170 ≤ x ∧ x < 183) → τ x y = σ x y) ∧ (∀ n g, 0 ≤ n → n < 13 → 0 ≤ g → g < 7 → τ (170 + n) g = hq (8 * n + g)) := by
        intro j
        induction j with
        | zero =>
          intro g χ g0 gj hf hi hj
          obtain ⟨τ, t, tr⟩ := ih (n + 1) χ (by omega) (by omega) hf (fun m g m0 m1 g0 g1 => by
            by_cases c : m = n
            · rw [c]
              exact hj g g0 (by omega)
            · exact hi m g m0 (by omega) g0 g1)
          refine ⟨τ, ?_, tr⟩
          refine vX0_findHandles 100 ?_
          simp only [↓S_X0_findHandles_1, ↓S_X0_findHandles_2, ↓S_X0_findHandles_3, ↓pI_c, ↓pL_c, ↓pR_c, ↓pC_I, ↓pC_R, ↓pE_n, ↓gI_0, ↓gI_s, ↓gL_0, ↓gL_s, ↓gR_0, ↓gR_s, ↓popN_0, ↓popN_s, ↓kl_I, ↓kl_L, ↓kl_R, ↓kl_n, ↓put1_0, ↓put1_s, ↓putk_0, ↓putk_s, ↓put2_0, ↓put2_s, ↓putl_0, ↓putl_s, ↓callK_0, ↓callK_1, ↓callK_2, cats_n, cats_c, catA_I, catA_L, catA_R, KL, LV, lval_f, ltag_f, llen_f, lcm_lt, lcm_le, lcm_gt, lcm_ge, lcm_eq, lcm_R1, lcm_R2, inR, inL, true_and, and_true, eq_self, List.head?_cons, Option.some.injEq, Sum.inr.injEq, Sum.inl.injEq, false_or, or_false, true_or, or_true, Nat.reduceAdd, Nat.reduceLeDiff, Int.reduceLE, Int.reduceLT, Int.reduceEq, Int.reduceNeg, Int.reduceAdd, Int.reduceSub, Int.reduceMul, Int.reduceNe, ne_eq, not_false_eq_true, not_true_eq_false, false_implies, forall_const, Nat.le_refl, Nat.zero_le, implies_true, and_self]
          (repeat' (first | apply And.intro | intro _))
          all_goals (try first | omega | trivial | (rfl; done) | assumption | (exfalso; omega) | (exact t) | (refine V.wk t ?_; simp [lle]; done))
        | succ j ih2 =>
          intro g χ g0 gj hf hi hj
          obtain ⟨τ, t, tr⟩ := ih2 (g + 1) (up χ (170 + n) g (hq (8 * n + g))) (by omega) (by omega) (fun x y hx => by unfold up; rw [if_neg (by omega)]; exact hf x y hx) (fun m g' m0 m1 g0 g1 => by unfold up; rw [if_neg (by omega)]; exact hi m g' m0 m1 g0 g1) (fun g' g0 g1 => by
            unfold up
            by_cases c : g' = g
            · rw [if_pos ⟨rfl, c⟩, c]
            · rw [if_neg (by omega)]
              exact hj g' g0 (by omega))
          refine ⟨τ, ?_, tr⟩
          obtain ⟨r1, r2, r3⟩ := hs_rec (n := n) (g := g) (by omega) (by omega) g0 (by omega)
          have e1 : lval χ (170 + (n - 1)) g = hq (8 * (n - 1) + g) := by rw [lval_n (by omega)]; exact hi _ _ (by omega) (by omega) (by omega) (by omega)
          unfold hs at r1 r2 r3
          by_cases c1 : 1 < n ∧ 0 < g
          · have kn2 := (krow (i := n - 2)).2.2.1 (by omega) (by omega)
            have tn2 : ltag (170 + (n - 2)) = 2 := by rw [ltag_n (by omega)]; exact kn2.1
            have ln2 : llen (170 + (n - 2)) = 7 := by rw [llen_n (by omega)]; exact kn2.2.1
            have e2 : lval χ (170 + (n - 2)) (g - 1) = hq (8 * (n - 2) + g - 1) := by
              rw [lval_n (by omega), hi _ _ (by omega) (by omega) (by omega) (by omega)]
              congr 1
              omega
            rw [if_pos c1] at r1 r2 r3
            refine vX0_findHandles 100 ?_
            simp only [↓S_X0_findHandles_1, ↓S_X0_findHandles_2, ↓S_X0_findHandles_3, ↓pI_c, ↓pL_c, ↓pR_c, ↓pC_I, ↓pC_R, ↓pE_n, ↓gI_0, ↓gI_s, ↓gL_0, ↓gL_s, ↓gR_0, ↓gR_s, ↓popN_0, ↓popN_s, ↓kl_I, ↓kl_L, ↓kl_R, ↓kl_n, ↓put1_0, ↓put1_s, ↓putk_0, ↓putk_s, ↓put2_0, ↓put2_s, ↓putl_0, ↓putl_s, ↓callK_0, ↓callK_1, ↓callK_2, cats_n, cats_c, catA_I, catA_L, catA_R, KL, LV, lval_f, ltag_f, llen_f, lcm_lt, lcm_le, lcm_gt, lcm_ge, lcm_eq, lcm_R1, lcm_R2, inR, inL, true_and, and_true, eq_self, List.head?_cons, Option.some.injEq, Sum.inr.injEq, Sum.inl.injEq, false_or, or_false, true_or, or_true, Nat.reduceAdd, Nat.reduceLeDiff, Int.reduceLE, Int.reduceLT, Int.reduceEq, Int.reduceNeg, Int.reduceAdd, Int.reduceSub, Int.reduceMul, Int.reduceNe, ne_eq, not_false_eq_true, not_true_eq_false, false_implies, forall_const, Nat.le_refl, Nat.zero_le, implies_true, and_self]
            simp only [tn1, ln1, tn2, ln2, e1, e2, r1, kn.1, kn.2.1]
            (repeat' (first | apply And.intro | intro _))
            all_goals (try first | omega | trivial | (rfl; done) | assumption | (exfalso; omega) | (exact t) | (refine V.wk t ?_; simp [lle]; done))
          · rw [if_neg c1, Int.add_zero] at r1 r2 r3
            refine vX0_findHandles 100 ?_
            simp only [↓S_X0_findHandles_1, ↓S_X0_findHandles_2, ↓S_X0_findHandles_3, ↓pI_c, ↓pL_c, ↓pR_c, ↓pC_I, ↓pC_R, ↓pE_n, ↓gI_0, ↓gI_s, ↓gL_0, ↓gL_s, ↓gR_0, ↓gR_s, ↓popN_0, ↓popN_s, ↓kl_I, ↓kl_L, ↓kl_R, ↓kl_n, ↓put1_0, ↓put1_s, ↓putk_0, ↓putk_s, ↓put2_0, ↓put2_s, ↓putl_0, ↓putl_s, ↓callK_0, ↓callK_1, ↓callK_2, cats_n, cats_c, catA_I, catA_L, catA_R, KL, LV, lval_f, ltag_f, llen_f, lcm_lt, lcm_le, lcm_gt, lcm_ge, lcm_eq, lcm_R1, lcm_R2, inR, inL, true_and, and_true, eq_self, List.head?_cons, Option.some.injEq, Sum.inr.injEq, Sum.inl.injEq, false_or, or_false, true_or, or_true, Nat.reduceAdd, Nat.reduceLeDiff, Int.reduceLE, Int.reduceLT, Int.reduceEq, Int.reduceNeg, Int.reduceAdd, Int.reduceSub, Int.reduceMul, Int.reduceNe, ne_eq, not_false_eq_true, not_true_eq_false, false_implies, forall_const, Nat.le_refl, Nat.zero_le, implies_true, and_self]
            simp only [tn1, ln1, e1, r1, kn.1, kn.2.1]
            (repeat' (first | apply And.intro | intro _))
            all_goals (try first | omega | trivial | (rfl; done) | assumption | (exfalso; omega) | (exact t) | (refine V.wk t ?_; simp [lle]; done))
      obtain ⟨τ, t, tr⟩ := inner 7 0 χ (by omega) (by omega) hf hi (fun g' g0 g1 => by omega)
      refine ⟨τ, ?_, tr⟩
      refine vX0_findHandles 100 ?_
      simp only [↓S_X0_findHandles_1, ↓S_X0_findHandles_2, ↓S_X0_findHandles_3, ↓pI_c, ↓pL_c, ↓pR_c, ↓pC_I, ↓pC_R, ↓pE_n, ↓gI_0, ↓gI_s, ↓gL_0, ↓gL_s, ↓gR_0, ↓gR_s, ↓popN_0, ↓popN_s, ↓kl_I, ↓kl_L, ↓kl_R, ↓kl_n, ↓put1_0, ↓put1_s, ↓putk_0, ↓putk_s, ↓put2_0, ↓put2_s, ↓putl_0, ↓putl_s, ↓callK_0, ↓callK_1, ↓callK_2, cats_n, cats_c, catA_I, catA_L, catA_R, KL, LV, lval_f, ltag_f, llen_f, lcm_lt, lcm_le, lcm_gt, lcm_ge, lcm_eq, lcm_R1, lcm_R2, inR, inL, true_and, and_true, eq_self, List.head?_cons, Option.some.injEq, Sum.inr.injEq, Sum.inl.injEq, false_or, or_false, true_or, or_true, Nat.reduceAdd, Nat.reduceLeDiff, Int.reduceLE, Int.reduceLT, Int.reduceEq, Int.reduceNeg, Int.reduceAdd, Int.reduceSub, Int.reduceMul, Int.reduceNe, ne_eq, not_false_eq_true, not_true_eq_false, false_implies, forall_const, Nat.le_refl, Nat.zero_le, implies_true, and_self]
      (repeat' (first | apply And.intro | intro _))
      all_goals (try first | omega | trivial | (rfl; done) | assumption | (exfalso; omega) | (exact t) | (refine V.wk t ?_; simp [lle]; done))
  obtain ⟨τ, t, tr⟩ := outer 12 1 (up σ 170 0 1) (by omega) (by omega) (fun x y hx => by unfold up; rw [if_neg (by omega)]) (fun m g m0 m1 g0 g1 => by
    have em : m = 0 := by omega
    subst em
    unfold up
    by_cases c : g = 0
    · subst c
      rw [if_pos ⟨rfl, rfl⟩]
      exact hq_00.1.symm
    · rw [if_neg (by omega), show (170 + 0 : Int) = 170 from rfl, h0 g g0 g1]
      have := hq_00.2 g.toNat (by omega) (by omega)
      rw [show (8 * 0 + g : Int) = ((g.toNat : Nat) : Int) from by omega]
      exact this.symm)
  refine ⟨τ, ?_, tr⟩
  have k0 := (krow (i := 0)).2.2.1 (by omega) (by omega)
  have k1 : ktag 170 = 2 := k0.1
  have k2 : klen 170 = 7 := k0.2.1
  refine Ret.of 0 [some (aR 0), none, none, none, none] rfl (by decide) rfl (Nat.le_of_ble_eq_true rfl) ?_
  refine vX0_findHandles 100 ?_
  simp only [↓S_X0_findHandles_1, ↓S_X0_findHandles_2, ↓S_X0_findHandles_3, ↓pI_c, ↓pL_c, ↓pR_c, ↓pC_I, ↓pC_R, ↓pE_n, ↓gI_0, ↓gI_s, ↓gL_0, ↓gL_s, ↓gR_0, ↓gR_s, ↓popN_0, ↓popN_s, ↓kl_I, ↓kl_L, ↓kl_R, ↓kl_n, ↓put1_0, ↓put1_s, ↓putk_0, ↓putk_s, ↓put2_0, ↓put2_s, ↓putl_0, ↓putl_s, ↓callK_0, ↓callK_1, ↓callK_2, cats_n, cats_c, catA_I, catA_L, catA_R, KL, LV, lval_f, ltag_f, llen_f, lcm_lt, lcm_le, lcm_gt, lcm_ge, lcm_eq, lcm_R1, lcm_R2, inR, inL, true_and, and_true, eq_self, List.head?_cons, Option.some.injEq, Sum.inr.injEq, Sum.inl.injEq, false_or, or_false, true_or, or_true, Nat.reduceAdd, Nat.reduceLeDiff, Int.reduceLE, Int.reduceLT, Int.reduceEq, Int.reduceNeg, Int.reduceAdd, Int.reduceSub, Int.reduceMul, Int.reduceNe, ne_eq, not_false_eq_true, not_true_eq_false, false_implies, forall_const, Nat.le_refl, Nat.zero_le, implies_true, and_self]
  simp only [k1, k2]
  (repeat' (first | apply And.intro | intro _))
  all_goals (try first | omega | trivial | (rfl; done) | assumption | (exfalso; omega) | (exact t) | (refine V.wk t ?_; simp [lle]; done))

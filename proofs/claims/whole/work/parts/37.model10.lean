/-! the model's place and worth -/
theorem btv_set2 (s : Int) {a b j : Int} (a0 : 0 ≤ a) (a1 : a < 24) (b0 : 0 ≤ b) (b1 : b < 24) (j0 : 0 ≤ j) (j1 : j < 24) : btv (ior32 s (ior32 (ishl32 1 a) (ishl32 1 b))) j = if j = a ∨ j = b then 1 else btv s j := by
  have h1 := btv_set (ior32 s (ishl32 1 a)) b0 b1 j0 j1
  have h2 := btv_set s a0 a1 j0 j1
  have e : ior32 s (ior32 (ishl32 1 a) (ishl32 1 b)) = ior32 (ior32 s (ishl32 1 a)) (ishl32 1 b) := by
    unfold ior32
    rw [Int32.ofInt_toInt, Int32.ofInt_toInt]
    congr 1
    exact (Int32.or_assoc _ _ _).symm
  rw [e, h1, h2]
  by_cases c : j = b
  · rw [if_pos c, if_pos (Or.inr c)]
  · rw [if_neg c]
    by_cases c2 : j = a
    · rw [if_pos c2, if_pos (Or.inl c2)]
    · rw [if_neg c2, if_neg (by omega)]
set_option maxRecDepth 100000 in
theorem r_X6_worth (D : Nat) (σ : Sg) (i : Int) (hi : inR i) (hw : WD (σ 6 0) (σ 26)) : Ret (D + 3) miX6_worth [aR 6, aI i] σ (some (aI (if 2 * rs (fun a => if a < σ 26 a then 1 else 0) 0 (σ 6 0).toNat = σ 6 0 then (if 0 ≤ i ∧ i < σ 6 0 then (if i < σ 26 i then 1 else 2 + rs (fun c => if i < σ 26 c then 1 else 0) (σ 26 i + 1) (i - (σ 26 i + 1)).toNat) else -2) else -3))) σ := by
  have w1 := hw.1
  have w2 := hw.2.1
  have fu := r_X6_isFull D σ hw
  have ip := r_X6_isPoint D σ i hi w1 w2
  by_cases c1 : 2 * rs (fun a => if a < σ 26 a then 1 else 0) 0 (σ 6 0).toNat = σ 6 0
  · rw [if_pos c1] at fu
    rw [if_pos c1]
    by_cases c2 : 0 ≤ i ∧ i < σ 6 0
    · rw [if_pos c2] at ip
      rw [if_pos c2]
      have hr := hw.r c2.1 (show i < 24 by omega)
      have be := r_X6_begins (D + 1) σ i c2.1 (by omega) (by unfold inR; omega)
      by_cases c3 : i < σ 26 i
      · rw [if_pos c3] at be
        rw [if_pos c3]
        refine Ret.of 6 [some (aR 6), some (aI i), none, none] rfl (by decide) rfl (Nat.le_of_ble_eq_true rfl) ?_
        refine vX6_worth 60 ?_
        simp only [↓S_X6_worth_1, ↓S_X6_worth_2, ↓pI_c, ↓pL_c, ↓pR_c, ↓pC_I, ↓pC_R, ↓pE_n, ↓gI_0, ↓gI_s, ↓gL_0, ↓gL_s, ↓gR_0, ↓gR_s, ↓popN_0, ↓popN_s, ↓kl_I, ↓kl_L, ↓kl_R, ↓kl_n, ↓put1_0, ↓put1_s, ↓putk_0, ↓putk_s, ↓put2_0, ↓put2_s, ↓putl_0, ↓putl_s, ↓callK_0, ↓callK_1, ↓callK_2, cats_n, cats_c, catA_I, catA_L, catA_R, KL, LV, lval_f, ltag_f, llen_f, lcm_lt, lcm_le, lcm_gt, lcm_ge, lcm_eq, lcm_R1, lcm_R2, inR, inL, true_and, and_true, eq_self, List.head?_cons, Option.some.injEq, Sum.inr.injEq, Sum.inl.injEq, false_or, or_false, true_or, or_true, Nat.reduceAdd, Nat.reduceLeDiff, Int.reduceLE, Int.reduceLT, Int.reduceEq, Int.reduceNeg, Int.reduceAdd, Int.reduceSub, Int.reduceMul, Int.reduceNe, ne_eq, not_false_eq_true, not_true_eq_false, false_implies, forall_const, Nat.le_refl, Nat.zero_le, implies_true, and_self]
        (repeat' (first | apply And.intro | intro _ | with_reducible refine Exists.intro _ (Exists.intro _ (And.intro fu ?_)) | with_reducible refine Exists.intro _ (And.intro fu ?_) | with_reducible refine Exists.intro _ (Exists.intro _ (And.intro ip ?_)) | with_reducible refine Exists.intro _ (And.intro ip ?_) | with_reducible refine Exists.intro _ (Exists.intro _ (And.intro be ?_)) | with_reducible refine Exists.intro _ (And.intro be ?_)))
        all_goals (try first | omega | trivial | (rfl; done) | assumption | (exfalso; omega))
      · rw [if_neg c3] at be
        rw [if_neg c3]
        have hne := (full_iff hw).1 c1 i c2.1 c2.2
        have loop : ∀ (k : Nat) (a acc : Int), σ 26 i < a → a + k = i → V (D + 2) miX6_worth 6 (some (aI (acc + rs (fun c => if i < σ 26 c then 1 else 0) a k))) σ 42 [some (aR 6), some (aI i), some (aI acc), some (aI a)] [] σ := by
          intro k
          induction k with
          | zero =>
            intro a acc a0 ak
            rw [show rs (fun c => if i < σ 26 c then 1 else 0) a 0 = 0 from rfl, Int.add_zero]
            refine vX6_worth 60 ?_
            simp only [↓S_X6_worth_1, ↓S_X6_worth_2, ↓pI_c, ↓pL_c, ↓pR_c, ↓pC_I, ↓pC_R, ↓pE_n, ↓gI_0, ↓gI_s, ↓gL_0, ↓gL_s, ↓gR_0, ↓gR_s, ↓popN_0, ↓popN_s, ↓kl_I, ↓kl_L, ↓kl_R, ↓kl_n, ↓put1_0, ↓put1_s, ↓putk_0, ↓putk_s, ↓put2_0, ↓put2_s, ↓putl_0, ↓putl_s, ↓callK_0, ↓callK_1, ↓callK_2, cats_n, cats_c, catA_I, catA_L, catA_R, KL, LV, lval_f, ltag_f, llen_f, lcm_lt, lcm_le, lcm_gt, lcm_ge, lcm_eq, lcm_R1, lcm_R2, inR, inL, true_and, and_true, eq_self, List.head?_cons, Option.some.injEq, Sum.inr.injEq, Sum.inl.injEq, false_or, or_false, true_or, or_true, Nat.reduceAdd, Nat.reduceLeDiff, Int.reduceLE, Int.reduceLT, Int.reduceEq, Int.reduceNeg, Int.reduceAdd, Int.reduceSub, Int.reduceMul, Int.reduceNe, ne_eq, not_false_eq_true, not_true_eq_false, false_implies, forall_const, Nat.le_refl, Nat.zero_le, implies_true, and_self]
            (repeat' (first | apply And.intro | intro _))
            all_goals (try first | omega | trivial | (rfl; done) | assumption | (exfalso; omega))
          | succ k ih =>
            intro a acc a0 ak
            have hra := hw.r (show 0 ≤ a by omega) (show a < 24 by omega)
            have ba := r_X6_begins (D + 1) σ a (by omega) (by omega) (by unfold inR; omega)
            rw [rs_s, ← Int.add_assoc]
            have t := ih (a + 1) (acc + if i < σ 26 a then 1 else 0) (by omega) (by omega)
            by_cases c4 : i < σ 26 a
            · rw [if_pos c4] at t
              rw [if_pos c4]
              rw [if_pos (by omega)] at ba
              refine vX6_worth 60 ?_
              simp only [↓S_X6_worth_1, ↓S_X6_worth_2, ↓pI_c, ↓pL_c, ↓pR_c, ↓pC_I, ↓pC_R, ↓pE_n, ↓gI_0, ↓gI_s, ↓gL_0, ↓gL_s, ↓gR_0, ↓gR_s, ↓popN_0, ↓popN_s, ↓kl_I, ↓kl_L, ↓kl_R, ↓kl_n, ↓put1_0, ↓put1_s, ↓putk_0, ↓putk_s, ↓put2_0, ↓put2_s, ↓putl_0, ↓putl_s, ↓callK_0, ↓callK_1, ↓callK_2, cats_n, cats_c, catA_I, catA_L, catA_R, KL, LV, lval_f, ltag_f, llen_f, lcm_lt, lcm_le, lcm_gt, lcm_ge, lcm_eq, lcm_R1, lcm_R2, inR, inL, true_and, and_true, eq_self, List.head?_cons, Option.some.injEq, Sum.inr.injEq, Sum.inl.injEq, false_or, or_false, true_or, or_true, Nat.reduceAdd, Nat.reduceLeDiff, Int.reduceLE, Int.reduceLT, Int.reduceEq, Int.reduceNeg, Int.reduceAdd, Int.reduceSub, Int.reduceMul, Int.reduceNe, ne_eq, not_false_eq_true, not_true_eq_false, false_implies, forall_const, Nat.le_refl, Nat.zero_le, implies_true, and_self]
              (repeat' (first | apply And.intro | intro _ | with_reducible refine Exists.intro _ (Exists.intro _ (And.intro ba ?_)) | with_reducible refine Exists.intro _ (And.intro ba ?_)))
              all_goals (try first | omega | trivial | (rfl; done) | assumption | (exfalso; omega) | (exact t) | (refine V.wk t ?_; simp [lle]; done))
            · rw [if_neg c4] at t
              rw [if_neg c4]
              by_cases c5 : a < σ 26 a
              · rw [if_pos c5] at ba
                refine vX6_worth 60 ?_
                simp only [↓S_X6_worth_1, ↓S_X6_worth_2, ↓pI_c, ↓pL_c, ↓pR_c, ↓pC_I, ↓pC_R, ↓pE_n, ↓gI_0, ↓gI_s, ↓gL_0, ↓gL_s, ↓gR_0, ↓gR_s, ↓popN_0, ↓popN_s, ↓kl_I, ↓kl_L, ↓kl_R, ↓kl_n, ↓put1_0, ↓put1_s, ↓putk_0, ↓putk_s, ↓put2_0, ↓put2_s, ↓putl_0, ↓putl_s, ↓callK_0, ↓callK_1, ↓callK_2, cats_n, cats_c, catA_I, catA_L, catA_R, KL, LV, lval_f, ltag_f, llen_f, lcm_lt, lcm_le, lcm_gt, lcm_ge, lcm_eq, lcm_R1, lcm_R2, inR, inL, true_and, and_true, eq_self, List.head?_cons, Option.some.injEq, Sum.inr.injEq, Sum.inl.injEq, false_or, or_false, true_or, or_true, Nat.reduceAdd, Nat.reduceLeDiff, Int.reduceLE, Int.reduceLT, Int.reduceEq, Int.reduceNeg, Int.reduceAdd, Int.reduceSub, Int.reduceMul, Int.reduceNe, ne_eq, not_false_eq_true, not_true_eq_false, false_implies, forall_const, Nat.le_refl, Nat.zero_le, implies_true, and_self]
                (repeat' (first | apply And.intro | intro _ | with_reducible refine Exists.intro _ (Exists.intro _ (And.intro ba ?_)) | with_reducible refine Exists.intro _ (And.intro ba ?_)))
                all_goals (try first | omega | trivial | (rfl; done) | assumption | (exfalso; omega) | (exact t) | (refine V.wk t ?_; simp [lle]; done))
              · rw [if_neg c5] at ba
                refine vX6_worth 60 ?_
                simp only [↓S_X6_worth_1, ↓S_X6_worth_2, ↓pI_c, ↓pL_c, ↓pR_c, ↓pC_I, ↓pC_R, ↓pE_n, ↓gI_0, ↓gI_s, ↓gL_0, ↓gL_s, ↓gR_0, ↓gR_s, ↓popN_0, ↓popN_s, ↓kl_I, ↓kl_L, ↓kl_R, ↓kl_n, ↓put1_0, ↓put1_s, ↓putk_0, ↓putk_s, ↓put2_0, ↓put2_s, ↓putl_0, ↓putl_s, ↓callK_0, ↓callK_1, ↓callK_2, cats_n, cats_c, catA_I, catA_L, catA_R, KL, LV, lval_f, ltag_f, llen_f, lcm_lt, lcm_le, lcm_gt, lcm_ge, lcm_eq, lcm_R1, lcm_R2, inR, inL, true_and, and_true, eq_self, List.head?_cons, Option.some.injEq, Sum.inr.injEq, Sum.inl.injEq, false_or, or_false, true_or, or_true, Nat.reduceAdd, Nat.reduceLeDiff, Int.reduceLE, Int.reduceLT, Int.reduceEq, Int.reduceNeg, Int.reduceAdd, Int.reduceSub, Int.reduceMul, Int.reduceNe, ne_eq, not_false_eq_true, not_true_eq_false, false_implies, forall_const, Nat.le_refl, Nat.zero_le, implies_true, and_self]
                (repeat' (first | apply And.intro | intro _ | with_reducible refine Exists.intro _ (Exists.intro _ (And.intro ba ?_)) | with_reducible refine Exists.intro _ (And.intro ba ?_)))
                all_goals (try first | omega | trivial | (rfl; done) | assumption | (exfalso; omega) | (exact t) | (refine V.wk t ?_; simp [lle]; done))
        by_cases c6 : σ 26 i = i
        · rcases hw.2.2.1 i c2.1 c2.2 with q | q <;> omega
        · have t := loop (i - (σ 26 i + 1)).toNat (σ 26 i + 1) 2 (by omega) (by omega)
          refine Ret.of 6 [some (aR 6), some (aI i), none, none] rfl (by decide) rfl (Nat.le_of_ble_eq_true rfl) ?_
          refine vX6_worth 60 ?_
          simp only [↓S_X6_worth_1, ↓S_X6_worth_2, ↓pI_c, ↓pL_c, ↓pR_c, ↓pC_I, ↓pC_R, ↓pE_n, ↓gI_0, ↓gI_s, ↓gL_0, ↓gL_s, ↓gR_0, ↓gR_s, ↓popN_0, ↓popN_s, ↓kl_I, ↓kl_L, ↓kl_R, ↓kl_n, ↓put1_0, ↓put1_s, ↓putk_0, ↓putk_s, ↓put2_0, ↓put2_s, ↓putl_0, ↓putl_s, ↓callK_0, ↓callK_1, ↓callK_2, cats_n, cats_c, catA_I, catA_L, catA_R, KL, LV, lval_f, ltag_f, llen_f, lcm_lt, lcm_le, lcm_gt, lcm_ge, lcm_eq, lcm_R1, lcm_R2, inR, inL, true_and, and_true, eq_self, List.head?_cons, Option.some.injEq, Sum.inr.injEq, Sum.inl.injEq, false_or, or_false, true_or, or_true, Nat.reduceAdd, Nat.reduceLeDiff, Int.reduceLE, Int.reduceLT, Int.reduceEq, Int.reduceNeg, Int.reduceAdd, Int.reduceSub, Int.reduceMul, Int.reduceNe, ne_eq, not_false_eq_true, not_true_eq_false, false_implies, forall_const, Nat.le_refl, Nat.zero_le, implies_true, and_self]
          (repeat' (first | apply And.intro | intro _ | with_reducible refine Exists.intro _ (Exists.intro _ (And.intro fu ?_)) | with_reducible refine Exists.intro _ (And.intro fu ?_) | with_reducible refine Exists.intro _ (Exists.intro _ (And.intro ip ?_)) | with_reducible refine Exists.intro _ (And.intro ip ?_) | with_reducible refine Exists.intro _ (Exists.intro _ (And.intro be ?_)) | with_reducible refine Exists.intro _ (And.intro be ?_)))
          all_goals (try first | omega | trivial | (rfl; done) | assumption | (exfalso; omega) | (exact t) | (refine V.wk t ?_; simp [lle]; done))
    · rw [if_neg c2] at ip
      rw [if_neg c2]
      refine Ret.of 6 [some (aR 6), some (aI i), none, none] rfl (by decide) rfl (Nat.le_of_ble_eq_true rfl) ?_
      refine vX6_worth 60 ?_
      simp only [↓S_X6_worth_1, ↓S_X6_worth_2, ↓pI_c, ↓pL_c, ↓pR_c, ↓pC_I, ↓pC_R, ↓pE_n, ↓gI_0, ↓gI_s, ↓gL_0, ↓gL_s, ↓gR_0, ↓gR_s, ↓popN_0, ↓popN_s, ↓kl_I, ↓kl_L, ↓kl_R, ↓kl_n, ↓put1_0, ↓put1_s, ↓putk_0, ↓putk_s, ↓put2_0, ↓put2_s, ↓putl_0, ↓putl_s, ↓callK_0, ↓callK_1, ↓callK_2, cats_n, cats_c, catA_I, catA_L, catA_R, KL, LV, lval_f, ltag_f, llen_f, lcm_lt, lcm_le, lcm_gt, lcm_ge, lcm_eq, lcm_R1, lcm_R2, inR, inL, true_and, and_true, eq_self, List.head?_cons, Option.some.injEq, Sum.inr.injEq, Sum.inl.injEq, false_or, or_false, true_or, or_true, Nat.reduceAdd, Nat.reduceLeDiff, Int.reduceLE, Int.reduceLT, Int.reduceEq, Int.reduceNeg, Int.reduceAdd, Int.reduceSub, Int.reduceMul, Int.reduceNe, ne_eq, not_false_eq_true, not_true_eq_false, false_implies, forall_const, Nat.le_refl, Nat.zero_le, implies_true, and_self]
      (repeat' (first | apply And.intro | intro _ | with_reducible refine Exists.intro _ (Exists.intro _ (And.intro fu ?_)) | with_reducible refine Exists.intro _ (And.intro fu ?_) | with_reducible refine Exists.intro _ (Exists.intro _ (And.intro ip ?_)) | with_reducible refine Exists.intro _ (And.intro ip ?_)))
      all_goals (try first | omega | trivial | (rfl; done) | assumption | (exfalso; omega))
  · rw [if_neg c1] at fu
    rw [if_neg c1]
    refine Ret.of 6 [some (aR 6), some (aI i), none, none] rfl (by decide) rfl (Nat.le_of_ble_eq_true rfl) ?_
    refine vX6_worth 60 ?_
    simp only [↓S_X6_worth_1, ↓S_X6_worth_2, ↓pI_c, ↓pL_c, ↓pR_c, ↓pC_I, ↓pC_R, ↓pE_n, ↓gI_0, ↓gI_s, ↓gL_0, ↓gL_s, ↓gR_0, ↓gR_s, ↓popN_0, ↓popN_s, ↓kl_I, ↓kl_L, ↓kl_R, ↓kl_n, ↓put1_0, ↓put1_s, ↓putk_0, ↓putk_s, ↓put2_0, ↓put2_s, ↓putl_0, ↓putl_s, ↓callK_0, ↓callK_1, ↓callK_2, cats_n, cats_c, catA_I, catA_L, catA_R, KL, LV, lval_f, ltag_f, llen_f, lcm_lt, lcm_le, lcm_gt, lcm_ge, lcm_eq, lcm_R1, lcm_R2, inR, inL, true_and, and_true, eq_self, List.head?_cons, Option.some.injEq, Sum.inr.injEq, Sum.inl.injEq, false_or, or_false, true_or, or_true, Nat.reduceAdd, Nat.reduceLeDiff, Int.reduceLE, Int.reduceLT, Int.reduceEq, Int.reduceNeg, Int.reduceAdd, Int.reduceSub, Int.reduceMul, Int.reduceNe, ne_eq, not_false_eq_true, not_true_eq_false, false_implies, forall_const, Nat.le_refl, Nat.zero_le, implies_true, and_self]
    (repeat' (first | apply And.intro | intro _ | with_reducible refine Exists.intro _ (Exists.intro _ (And.intro fu ?_)) | with_reducible refine Exists.intro _ (And.intro fu ?_) | with_reducible refine Exists.intro _ (Exists.intro _ (And.intro ip ?_)) | with_reducible refine Exists.intro _ (And.intro ip ?_)))
    all_goals (try first | omega | trivial | (rfl; done) | assumption | (exfalso; omega))
set_option maxRecDepth 100000 in
theorem r_X6_place (D : Nat) (σ : Sg) (hw : WD (σ 6 0) (σ 26)) (hf : 2 * nb (σ 26) (σ 6 0) = σ 6 0) : Ret (D + 3) miX6_place [aR 6] σ (some (aL (rs (pl (σ 26) (nb (σ 26) (σ 6 0))) 0 (σ 6 0).toNat))) σ := by
  have w1 := hw.1
  have w2 := hw.2.1
  have fu := r_X6_isFull D σ hw
  have hfull : 2 * rs (fun a => if a < σ 26 a then 1 else 0) 0 (σ 6 0).toNat = σ 6 0 := hf
  rw [if_pos hfull] at fu
  have hall := (full_iff hw).1 hfull
  generalize hN : nb (σ 26) (σ 6 0) = N at *
  have hnb : ∀ a, 0 ≤ a → a ≤ σ 6 0 → nb (σ 26) a ≤ N := fun a a0 a1 => by
    have := nb_mono (σ 26) (σ 6 0 - a).toNat a a0
    rw [show a + ((σ 6 0 - a).toNat : Int) = σ 6 0 from by omega, hN] at this
    exact this
  have inner : ∀ (r : Option AV) (k : Nat) (a b mask mm S acc : Int), 0 ≤ a → a < b → b + k = σ 26 a → σ 26 a < σ 6 0 → (∀ q, 0 ≤ q → q < σ 6 0 → btv mask q = if q < a ∨ σ 26 q < a then 1 else 0) → 0 ≤ acc → acc ≤ b → V (D + 2) miX6_place 6 r σ 52 [some (aR 6), some (aI mask), some (aI mm), some (aL S), none, some (aI a), some (aI (acc + rs (fun b => if a < σ 26 b then 1 else 0) b k)), some (aI (σ 26 a))] [] σ → V (D + 2) miX6_place 6 r σ 52 [some (aR 6), some (aI mask), some (aI mm), some (aL S), none, some (aI a), some (aI acc), some (aI b)] [] σ := by
    intro r k
    induction k with
    | zero =>
      intro a b mask mm S acc a0 ab bk ba hm c0 c1 t
      rw [show rs (fun b => if a < σ 26 b then 1 else 0) b 0 = 0 from rfl, Int.add_zero, show σ 26 a = b from by omega] at t
      exact t
    | succ k ih =>
      intro a b mask mm S acc a0 ab bk ba hm c0 c1 t
      rw [rs_s, ← Int.add_assoc] at t
      have t2 := ih a (b + 1) mask mm S _ a0 (by omega) (by omega) ba hm (by split <;> omega) (by split <;> omega) t
      have hb := hm b (by omega) (by omega)
      have hmb := hw.2.2.1 b (by omega) (by omega)
      have hma := hw.2.2.1 a a0 (by omega)
      have hne : σ 26 b ≠ a := fun z => by
        rcases hmb with q | q
        · omega
        · have := q.2.2.2
          rw [z] at this
          omega
      have hra := hw.r a0 (show a < 24 by omega)
      unfold btv at hb
      by_cases c : a < σ 26 b
      · rw [if_neg (by omega)] at hb
        rw [if_pos c] at t2
        refine vX6_place 60 ?_
        simp only [↓S_X6_place_1, ↓S_X6_place_2, ↓pI_c, ↓pL_c, ↓pR_c, ↓pC_I, ↓pC_R, ↓pE_n, ↓gI_0, ↓gI_s, ↓gL_0, ↓gL_s, ↓gR_0, ↓gR_s, ↓popN_0, ↓popN_s, ↓kl_I, ↓kl_L, ↓kl_R, ↓kl_n, ↓put1_0, ↓put1_s, ↓putk_0, ↓putk_s, ↓put2_0, ↓put2_s, ↓putl_0, ↓putl_s, ↓callK_0, ↓callK_1, ↓callK_2, cats_n, cats_c, catA_I, catA_L, catA_R, KL, LV, lval_f, ltag_f, llen_f, lcm_lt, lcm_le, lcm_gt, lcm_ge, lcm_eq, lcm_R1, lcm_R2, inR, inL, true_and, and_true, eq_self, List.head?_cons, Option.some.injEq, Sum.inr.injEq, Sum.inl.injEq, false_or, or_false, true_or, or_true, Nat.reduceAdd, Nat.reduceLeDiff, Int.reduceLE, Int.reduceLT, Int.reduceEq, Int.reduceNeg, Int.reduceAdd, Int.reduceSub, Int.reduceMul, Int.reduceNe, ne_eq, not_false_eq_true, not_true_eq_false, false_implies, forall_const, Nat.le_refl, Nat.zero_le, implies_true, and_self]
        (repeat' (first | apply And.intro | intro _))
        all_goals (try first | omega | trivial | (rfl; done) | assumption | (exfalso; omega) | (exact t2) | (refine V.wk t2 ?_; simp [lle]; done))
      · rw [if_pos (by omega)] at hb
        rw [if_neg c] at t2
        refine vX6_place 60 ?_
        simp only [↓S_X6_place_1, ↓S_X6_place_2, ↓pI_c, ↓pL_c, ↓pR_c, ↓pC_I, ↓pC_R, ↓pE_n, ↓gI_0, ↓gI_s, ↓gL_0, ↓gL_s, ↓gR_0, ↓gR_s, ↓popN_0, ↓popN_s, ↓kl_I, ↓kl_L, ↓kl_R, ↓kl_n, ↓put1_0, ↓put1_s, ↓putk_0, ↓putk_s, ↓put2_0, ↓put2_s, ↓putl_0, ↓putl_s, ↓callK_0, ↓callK_1, ↓callK_2, cats_n, cats_c, catA_I, catA_L, catA_R, KL, LV, lval_f, ltag_f, llen_f, lcm_lt, lcm_le, lcm_gt, lcm_ge, lcm_eq, lcm_R1, lcm_R2, inR, inL, true_and, and_true, eq_self, List.head?_cons, Option.some.injEq, Sum.inr.injEq, Sum.inl.injEq, false_or, or_false, true_or, or_true, Nat.reduceAdd, Nat.reduceLeDiff, Int.reduceLE, Int.reduceLT, Int.reduceEq, Int.reduceNeg, Int.reduceAdd, Int.reduceSub, Int.reduceMul, Int.reduceNe, ne_eq, not_false_eq_true, not_true_eq_false, false_implies, forall_const, Nat.le_refl, Nat.zero_le, implies_true, and_self]
        (repeat' (first | apply And.intro | intro _))
        all_goals (try first | omega | trivial | (rfl; done) | assumption | (exfalso; omega) | (exact t2) | (refine V.wk t2 ?_; simp [lle]; done))
  have loop : ∀ (k : Nat) (a mask S : Int), 0 ≤ a → a + k = σ 6 0 → (∀ q, 0 ≤ q → q < σ 6 0 → btv mask q = if q < a ∨ σ 26 q < a then 1 else 0) → V (D + 2) miX6_place 6 (some (aL (S + rs (pl (σ 26) N) a k))) σ 25 [some (aR 6), some (aI mask), some (aI (N - nb (σ 26) a)), some (aL S), none, some (aI a), none, none] [] σ := by
    intro k
    induction k with
    | zero =>
      intro a mask S a0 ak hm
      rw [show rs (pl (σ 26) N) a 0 = 0 from rfl, Int.add_zero]
      refine vX6_place 60 ?_
      simp only [↓S_X6_place_1, ↓S_X6_place_2, ↓pI_c, ↓pL_c, ↓pR_c, ↓pC_I, ↓pC_R, ↓pE_n, ↓gI_0, ↓gI_s, ↓gL_0, ↓gL_s, ↓gR_0, ↓gR_s, ↓popN_0, ↓popN_s, ↓kl_I, ↓kl_L, ↓kl_R, ↓kl_n, ↓put1_0, ↓put1_s, ↓putk_0, ↓putk_s, ↓put2_0, ↓put2_s, ↓putl_0, ↓putl_s, ↓callK_0, ↓callK_1, ↓callK_2, cats_n, cats_c, catA_I, catA_L, catA_R, KL, LV, lval_f, ltag_f, llen_f, lcm_lt, lcm_le, lcm_gt, lcm_ge, lcm_eq, lcm_R1, lcm_R2, inR, inL, true_and, and_true, eq_self, List.head?_cons, Option.some.injEq, Sum.inr.injEq, Sum.inl.injEq, false_or, or_false, true_or, or_true, Nat.reduceAdd, Nat.reduceLeDiff, Int.reduceLE, Int.reduceLT, Int.reduceEq, Int.reduceNeg, Int.reduceAdd, Int.reduceSub, Int.reduceMul, Int.reduceNe, ne_eq, not_false_eq_true, not_true_eq_false, false_implies, forall_const, Nat.le_refl, Nat.zero_le, implies_true, and_self]
      (repeat' (first | apply And.intro | intro _))
      all_goals (try first | omega | trivial | (rfl; done) | assumption | (exfalso; omega))
    | succ k ih =>
      intro a mask S a0 ak hm
      have hra := hw.r a0 (show a < 24 by omega)
      have hn := nb_s (σ 26) a0
      have hnr := nb_r (σ 26) a0
      have ha := hm a a0 (by omega)
      have hj := hall a a0 (by omega)
      have hN2 := hnb (a + 1) (by omega) (by omega)
      have hma : 0 ≤ σ 26 a ∧ σ 26 a < σ 6 0 ∧ σ 26 a ≠ a ∧ σ 26 (σ 26 a) = a := by
        rcases hw.2.2.1 a a0 (by omega) with q | q
        · exact absurd q hj
        · exact q
      rw [rs_s, ← Int.add_assoc]
      by_cases c : a < σ 26 a
      · rw [if_pos c] at hn
        rw [if_neg (by omega)] at ha
        have t := ih (a + 1) (ior32 mask (ior32 (ishl32 1 a) (ishl32 1 (σ 26 a)))) (S + pl (σ 26) N a) (by omega) (by omega) (fun q q0 q1 => by
          rw [btv_set2 mask a0 (by omega) hma.1 (by omega) q0 (by omega), hm q q0 q1]
          have hq : 0 ≤ σ 26 q ∧ σ 26 q < σ 6 0 ∧ σ 26 q ≠ q ∧ σ 26 (σ 26 q) = q := by
            rcases hw.2.2.1 q q0 q1 with z | z
            · exact absurd z (hall q q0 q1)
            · exact z
          by_cases e : q = a ∨ q = σ 26 a
          · rw [if_pos e]
            have : q < a + 1 ∨ σ 26 q < a + 1 := by
              rcases e with e | e
              · left; omega
              · right; rw [e, hma.2.2.2]; omega
            rw [if_pos this]
          · rw [if_neg e]
            have hqa : σ 26 q ≠ a := fun z => by
              have := hq.2.2.2
              rw [z] at this
              omega
            by_cases e2 : q < a ∨ σ 26 q < a
            · rw [if_pos e2, if_pos (by omega)]
            · rw [if_neg e2, if_neg (by omega)])
        have hlr := rs_01 (f := fun b => if a < σ 26 b then 1 else 0) (σ 26 a - (a + 1)).toNat (a + 1) (fun j _ _ => by by_cases c : a < σ 26 j; right; exact if_pos c; left; exact if_neg c)
        have ao := r_X6_allOf (D + 1) σ (N - 1 - nb (σ 26) a) (by omega) (by omega)
        have fp := fdv_s (j := N - 1 - nb (σ 26) a) (by omega) (by omega)
        have ePl : pl (σ 26) N a = rs (fun b => if a < σ 26 b then 1 else 0) (a + 1) (σ 26 a - (a + 1)).toNat * fdv (N - 1 - nb (σ 26) a) := by unfold pl; rw [if_pos c]
        rw [ePl, hn] at t
        rw [ePl]
        have e5 : N - nb (σ 26) a - 1 = N - 1 - nb (σ 26) a := by omega
        have e6 : N - (nb (σ 26) a + 1) = N - 1 - nb (σ 26) a := by omega
        have e7 : N - nb (σ 26) a + -1 = N - 1 - nb (σ 26) a := by omega
        rw [e6] at t
        have t1 : V (D + 2) miX6_place 6 (some (aL (S + rs (fun b => if a < σ 26 b then 1 else 0) (a + 1) (σ 26 a - (a + 1)).toNat * fdv (N - 1 - nb (σ 26) a) + rs (pl (σ 26) N) (a + 1) k))) σ 52 [some (aR 6), some (aI mask), some (aI (N - nb (σ 26) a)), some (aL S), none, some (aI a), some (aI (0 + rs (fun b => if a < σ 26 b then 1 else 0) (a + 1) (σ 26 a - (a + 1)).toNat)), some (aI (σ 26 a))] [] σ := by
          generalize some (aL (S + rs (fun b => if a < σ 26 b then 1 else 0) (a + 1) (σ 26 a - (a + 1)).toNat * fdv (N - 1 - nb (σ 26) a) + rs (pl (σ 26) N) (a + 1) k)) = R at t ⊢
          rw [Int.zero_add]
          generalize rs (fun b => if a < σ 26 b then 1 else 0) (a + 1) (σ 26 a - (a + 1)).toNat = Q at *
          refine vX6_place 60 ?_
          simp only [↓S_X6_place_1, ↓S_X6_place_2, ↓pI_c, ↓pL_c, ↓pR_c, ↓pC_I, ↓pC_R, ↓pE_n, ↓gI_0, ↓gI_s, ↓gL_0, ↓gL_s, ↓gR_0, ↓gR_s, ↓popN_0, ↓popN_s, ↓kl_I, ↓kl_L, ↓kl_R, ↓kl_n, ↓put1_0, ↓put1_s, ↓putk_0, ↓putk_s, ↓put2_0, ↓put2_s, ↓putl_0, ↓putl_s, ↓callK_0, ↓callK_1, ↓callK_2, cats_n, cats_c, catA_I, catA_L, catA_R, KL, LV, lval_f, ltag_f, llen_f, lcm_lt, lcm_le, lcm_gt, lcm_ge, lcm_eq, lcm_R1, lcm_R2, inR, inL, true_and, and_true, eq_self, List.head?_cons, Option.some.injEq, Sum.inr.injEq, Sum.inl.injEq, false_or, or_false, true_or, or_true, Nat.reduceAdd, Nat.reduceLeDiff, Int.reduceLE, Int.reduceLT, Int.reduceEq, Int.reduceNeg, Int.reduceAdd, Int.reduceSub, Int.reduceMul, Int.reduceNe, ne_eq, not_false_eq_true, not_true_eq_false, false_implies, forall_const, Nat.le_refl, Nat.zero_le, implies_true, and_self]
          simp only [e5, e7]
          (repeat' (first | apply And.intro | intro _ | with_reducible refine Exists.intro _ (Exists.intro _ (And.intro ao ?_)) | with_reducible refine Exists.intro _ (And.intro ao ?_)))
          all_goals (try first | omega | trivial | (rfl; done) | assumption | (exfalso; omega) | (exact t) | (refine V.wk t ?_; simp [lle]; done))
        have t3 := inner _ (σ 26 a - (a + 1)).toNat a (a + 1) mask (N - nb (σ 26) a) S 0 a0 (by omega) (by omega) (by omega) hm (by omega) (by omega) t1
        generalize some (aL (S + rs (fun b => if a < σ 26 b then 1 else 0) (a + 1) (σ 26 a - (a + 1)).toNat * fdv (N - 1 - nb (σ 26) a) + rs (pl (σ 26) N) (a + 1) k)) = R at t3 ⊢
        unfold btv at ha
        refine vX6_place 60 ?_
        simp only [↓S_X6_place_1, ↓S_X6_place_2, ↓pI_c, ↓pL_c, ↓pR_c, ↓pC_I, ↓pC_R, ↓pE_n, ↓gI_0, ↓gI_s, ↓gL_0, ↓gL_s, ↓gR_0, ↓gR_s, ↓popN_0, ↓popN_s, ↓kl_I, ↓kl_L, ↓kl_R, ↓kl_n, ↓put1_0, ↓put1_s, ↓putk_0, ↓putk_s, ↓put2_0, ↓put2_s, ↓putl_0, ↓putl_s, ↓callK_0, ↓callK_1, ↓callK_2, cats_n, cats_c, catA_I, catA_L, catA_R, KL, LV, lval_f, ltag_f, llen_f, lcm_lt, lcm_le, lcm_gt, lcm_ge, lcm_eq, lcm_R1, lcm_R2, inR, inL, true_and, and_true, eq_self, List.head?_cons, Option.some.injEq, Sum.inr.injEq, Sum.inl.injEq, false_or, or_false, true_or, or_true, Nat.reduceAdd, Nat.reduceLeDiff, Int.reduceLE, Int.reduceLT, Int.reduceEq, Int.reduceNeg, Int.reduceAdd, Int.reduceSub, Int.reduceMul, Int.reduceNe, ne_eq, not_false_eq_true, not_true_eq_false, false_implies, forall_const, Nat.le_refl, Nat.zero_le, implies_true, and_self]
        (repeat' (first | apply And.intro | intro _))
        all_goals (try first | omega | trivial | (rfl; done) | assumption | (exfalso; omega) | (exact t3) | (refine V.wk t3 ?_; simp [lle]; done))
      · rw [if_neg c, Int.add_zero] at hn
        rw [if_pos (by omega)] at ha
        have t := ih (a + 1) mask S (by omega) (by omega) (fun q q0 q1 => by
          rw [hm q q0 q1]
          have hq : 0 ≤ σ 26 q ∧ σ 26 q < σ 6 0 ∧ σ 26 q ≠ q ∧ σ 26 (σ 26 q) = q := by
            rcases hw.2.2.1 q q0 q1 with z | z
            · exact absurd z (hall q q0 q1)
            · exact z
          have hqa : σ 26 q = a → q = σ 26 a := fun z => by rw [← z]; exact hq.2.2.2.symm
          by_cases e2 : q < a ∨ σ 26 q < a
          · rw [if_pos e2, if_pos (by omega)]
          · by_cases e3 : q = a
            · rw [e3] at e2; omega
            · by_cases e4 : σ 26 q = a
              · have := hqa e4; omega
              · rw [if_neg e2, if_neg (by omega)])
        have ePl : pl (σ 26) N a = 0 := by unfold pl; rw [if_neg c]
        rw [hn] at t
        rw [ePl, Int.add_zero]
        generalize some (aL (S + rs (pl (σ 26) N) (a + 1) k)) = R at t ⊢
        unfold btv at ha
        refine vX6_place 60 ?_
        simp only [↓S_X6_place_1, ↓S_X6_place_2, ↓pI_c, ↓pL_c, ↓pR_c, ↓pC_I, ↓pC_R, ↓pE_n, ↓gI_0, ↓gI_s, ↓gL_0, ↓gL_s, ↓gR_0, ↓gR_s, ↓popN_0, ↓popN_s, ↓kl_I, ↓kl_L, ↓kl_R, ↓kl_n, ↓put1_0, ↓put1_s, ↓putk_0, ↓putk_s, ↓put2_0, ↓put2_s, ↓putl_0, ↓putl_s, ↓callK_0, ↓callK_1, ↓callK_2, cats_n, cats_c, catA_I, catA_L, catA_R, KL, LV, lval_f, ltag_f, llen_f, lcm_lt, lcm_le, lcm_gt, lcm_ge, lcm_eq, lcm_R1, lcm_R2, inR, inL, true_and, and_true, eq_self, List.head?_cons, Option.some.injEq, Sum.inr.injEq, Sum.inl.injEq, false_or, or_false, true_or, or_true, Nat.reduceAdd, Nat.reduceLeDiff, Int.reduceLE, Int.reduceLT, Int.reduceEq, Int.reduceNeg, Int.reduceAdd, Int.reduceSub, Int.reduceMul, Int.reduceNe, ne_eq, not_false_eq_true, not_true_eq_false, false_implies, forall_const, Nat.le_refl, Nat.zero_le, implies_true, and_self]
        (repeat' (first | apply And.intro | intro _))
        all_goals (try first | omega | trivial | (rfl; done) | assumption | (exfalso; omega) | (exact t) | (refine V.wk t ?_; simp [lle]; done))
  have t := loop (σ 6 0).toNat 0 0 0 (by omega) (by omega) (fun q q0 q1 => by
    rw [btv_0 q0 (by omega), if_neg]
    have := hw.r q0 (show q < 24 by omega)
    have := hall q q0 q1
    omega)
  rw [nb_0, Int.sub_zero, Int.zero_add] at t
  generalize some (aL (rs (pl (σ 26) N) 0 (σ 6 0).toNat)) = R at t ⊢
  have e9 : (σ 6 0).tdiv 2 = N := by rw [Int.tdiv_eq_ediv_of_nonneg w1]; omega
  refine Ret.of 6 [some (aR 6), none, none, none, none, none, none, none] rfl (by decide) rfl (Nat.le_of_ble_eq_true rfl) ?_
  refine vX6_place 60 ?_
  simp only [↓S_X6_place_1, ↓S_X6_place_2, ↓pI_c, ↓pL_c, ↓pR_c, ↓pC_I, ↓pC_R, ↓pE_n, ↓gI_0, ↓gI_s, ↓gL_0, ↓gL_s, ↓gR_0, ↓gR_s, ↓popN_0, ↓popN_s, ↓kl_I, ↓kl_L, ↓kl_R, ↓kl_n, ↓put1_0, ↓put1_s, ↓putk_0, ↓putk_s, ↓put2_0, ↓put2_s, ↓putl_0, ↓putl_s, ↓callK_0, ↓callK_1, ↓callK_2, cats_n, cats_c, catA_I, catA_L, catA_R, KL, LV, lval_f, ltag_f, llen_f, lcm_lt, lcm_le, lcm_gt, lcm_ge, lcm_eq, lcm_R1, lcm_R2, inR, inL, true_and, and_true, eq_self, List.head?_cons, Option.some.injEq, Sum.inr.injEq, Sum.inl.injEq, false_or, or_false, true_or, or_true, Nat.reduceAdd, Nat.reduceLeDiff, Int.reduceLE, Int.reduceLT, Int.reduceEq, Int.reduceNeg, Int.reduceAdd, Int.reduceSub, Int.reduceMul, Int.reduceNe, ne_eq, not_false_eq_true, not_true_eq_false, false_implies, forall_const, Nat.le_refl, Nat.zero_le, implies_true, and_self]
  (repeat' (first | apply And.intro | intro _ | with_reducible refine Exists.intro _ (Exists.intro _ (And.intro fu ?_)) | with_reducible refine Exists.intro _ (And.intro fu ?_)))
  all_goals (try first | omega | trivial | (rfl; done) | assumption | (exfalso; omega) | (exact t) | (refine V.wk t ?_; simp [lle]; done) | (simp only [e9]; done) | (simp only [e9]; first | omega | (rfl; done) | (exact t) | (refine V.wk t ?_; simp [lle]; done)))

/-! Census.findCrossings, withHandles, withCrossings -/
set_option maxRecDepth 100000 in
theorem r_X0_findCrossings (D : Nat) (σ : Sg) (hz : ∀ (h x : Int), 0 ≤ h → h < 14 → 0 ≤ x → x < 67 → σ (196 + h) x = 0) (hz2 : ∀ x, 0 ≤ x → x < 67 → σ 183 x = 0) : ∃ τ, Ret (D + 2) miX0_findCrossings [aR 0] σ none τ ∧ (∀ x y, ¬ (183 ≤ x ∧ x < 210) → τ x y = σ x y) ∧ (∀ (n : Nat) (v : Int), n ≤ 12 → 0 ≤ v → v < 67 → τ (183 + n) v = Pc (2 * n) 0 v) := by
  have outer : ∀ (k s : Nat) (χ : Sg), s + k = 24 → (∀ x y, ¬ (183 ≤ x ∧ x < 210) → χ x y = σ x y) → (∀ (h x : Int), 0 ≤ h → h < 14 → 0 ≤ x → x < 67 → (h + s) % 2 = 0 → h ≤ 24 - s → χ (196 + h) x = Pc s h x) → (∀ (h x : Int), (s : Int) < h → h < 14 → 0 ≤ x → x < 67 → χ (196 + h) x = 0) → (∀ (n : Nat) (v : Int), 2 * n ≤ s → 0 ≤ v → v < 67 → χ (183 + n) v = Pc (2 * n) 0 v) → ∃ τ, V (D + 1) miX0_findCrossings 0 none τ 23 [some (aR 0), some (aI 24), some (aI ((s : Int) + 1)), none, none] [] χ ∧ (∀ x y, ¬ (183 ≤ x ∧ x < 210) → τ x y = σ x y) ∧ (∀ (n : Nat) (v : Int), n ≤ 12 → 0 ≤ v → v < 67 → τ (183 + n) v = Pc (2 * n) 0 v) := by
    intro k
    induction k with
    | zero =>
      intro s χ sk hf r1 r2 r3
      refine ⟨χ, ?_, hf, fun n v n1 v0 v1 => r3 n v (by omega) v0 v1⟩
      refine vX0_findCrossings 60 ?_
      simp only [↓S_X0_findCrossings_1, ↓S_X0_findCrossings_2, ↓pI_c, ↓pL_c, ↓pR_c, ↓pC_I, ↓pC_R, ↓pE_n, ↓gI_0, ↓gI_s, ↓gL_0, ↓gL_s, ↓gR_0, ↓gR_s, ↓popN_0, ↓popN_s, ↓kl_I, ↓kl_L, ↓kl_R, ↓kl_n, ↓put1_0, ↓put1_s, ↓putk_0, ↓putk_s, ↓put2_0, ↓put2_s, ↓putl_0, ↓putl_s, ↓callK_0, ↓callK_1, ↓callK_2, cats_n, cats_c, catA_I, catA_L, catA_R, KL, LV, lval_f, ltag_f, llen_f, lcm_lt, lcm_le, lcm_gt, lcm_ge, lcm_eq, lcm_R1, lcm_R2, inR, inL, true_and, and_true, eq_self, List.head?_cons, Option.some.injEq, Sum.inr.injEq, Sum.inl.injEq, false_or, or_false, true_or, or_true, Nat.reduceAdd, Nat.reduceLeDiff, Int.reduceLE, Int.reduceLT, Int.reduceEq, Int.reduceNeg, Int.reduceAdd, Int.reduceSub, Int.reduceMul, Int.reduceNe, ne_eq, not_false_eq_true, not_true_eq_false, false_implies, forall_const, Nat.le_refl, Nat.zero_le, implies_true, and_self]
      (repeat' (first | apply And.intro | intro _))
      all_goals (try first | omega | trivial | (rfl; done) | assumption | (exfalso; omega))
    | succ k ih =>
      intro s χ sk hf r1 r2 r3
      have em : ((s : Int) + 1).tmod 2 = ((s : Int) + 1) % 2 := Int.tmod_eq_emod_of_nonneg (by omega)
      have ed : ((s : Int) + 1).tdiv 2 = ((s : Int) + 1) / 2 := Int.tdiv_eq_ediv_of_nonneg (by omega)
      generalize htop : (if 24 - ((s : Int) + 1) < (s : Int) + 1 then 24 - ((s : Int) + 1) else (s : Int) + 1) = top at *
      have hT : (top = 24 - ((s : Int) + 1) ∧ top < (s : Int) + 1) ∨ (top = (s : Int) + 1 ∧ top ≤ 24 - ((s : Int) + 1)) := by
        rw [← htop]
        split <;> omega
      have inner : ∀ (j : Nat) (h : Int) (χ : Sg), 0 ≤ h → h ≤ top + 2 → top + 2 ≤ h + 2 * j → (h + s + 1) % 2 = 0 → (∀ x y, ¬ (183 ≤ x ∧ x < 210) → χ x y = σ x y) → (∀ (h x : Int), 0 ≤ h → h < 14 → 0 ≤ x → x < 67 → (h + s) % 2 = 0 → h ≤ 24 - s → χ (196 + h) x = Pc s h x) → (∀ (h x : Int), (s : Int) + 1 < h → h < 14 → 0 ≤ x → x < 67 → χ (196 + h) x = 0) → (∀ (n : Nat) (v : Int), 2 * n ≤ s → 0 ≤ v → v < 67 → χ (183 + n) v = Pc (2 * n) 0 v) → (∀ (h' x : Int), 0 ≤ h' → h' < h → h' < 14 → 0 ≤ x → x < 67 → (h' + s + 1) % 2 = 0 → χ (196 + h') x = Pc (s + 1) h' x) → ∃ τ, V (D + 1) miX0_findCrossings 0 none τ 41 [some (aR 0), some (aI 24), some (aI ((s : Int) + 1)), some (aI top), some (aI h)] [] χ ∧ (∀ x y, ¬ (183 ≤ x ∧ x < 210) → τ x y = σ x y) ∧ (∀ (n : Nat) (v : Int), n ≤ 12 → 0 ≤ v → v < 67 → τ (183 + n) v = Pc (2 * n) 0 v) := by
        intro j
        have fin : ∀ (h : Int) (χ : Sg), 0 ≤ h → h ≤ top + 2 → top < h → (h + s + 1) % 2 = 0 → (∀ x y, ¬ (183 ≤ x ∧ x < 210) → χ x y = σ x y) → (∀ (h x : Int), (s : Int) + 1 < h → h < 14 → 0 ≤ x → x < 67 → χ (196 + h) x = 0) → (∀ (n : Nat) (v : Int), 2 * n ≤ s → 0 ≤ v → v < 67 → χ (183 + n) v = Pc (2 * n) 0 v) → (∀ (h' x : Int), 0 ≤ h' → h' < h → h' < 14 → 0 ≤ x → x < 67 → (h' + s + 1) % 2 = 0 → χ (196 + h') x = Pc (s + 1) h' x) → ∃ τ, V (D + 1) miX0_findCrossings 0 none τ 41 [some (aR 0), some (aI 24), some (aI ((s : Int) + 1)), some (aI top), some (aI h)] [] χ ∧ (∀ x y, ¬ (183 ≤ x ∧ x < 210) → τ x y = σ x y) ∧ (∀ (n : Nat) (v : Int), n ≤ 12 → 0 ≤ v → v < 67 → τ (183 + n) v = Pc (2 * n) 0 v) := by
          intro h χ h0 h1 h2 hp hf r2 r3 r4
          have es : ((s + 1 : Nat) : Int) = (s : Int) + 1 := by omega
          have n1 : ∀ (h x : Int), 0 ≤ h → h < 14 → 0 ≤ x → x < 67 → (h + ((s + 1 : Nat) : Int)) % 2 = 0 → h ≤ 24 - ((s + 1 : Nat) : Int) → χ (196 + h) x = Pc (s + 1) h x := fun h' x a0 a1 x0 x1 a2 a3 => by
            by_cases c : h' < h
            · exact r4 h' x a0 c a1 x0 x1 (by omega)
            · rw [Pc_hi (s + 1) h' x (by omega)]
              exact r2 h' x (by omega) a1 x0 x1
          by_cases c : ((s : Int) + 1) % 2 = 0
          · have r0 := r4 0
            have hd : 0 ≤ ((s : Int) + 1) / 2 ∧ ((s : Int) + 1) / 2 ≤ 12 ∧ 2 * (((s : Int) + 1) / 2) = (s : Int) + 1 := by omega
            generalize hdd : ((s : Int) + 1) / 2 = d at *
            obtain ⟨dn, rfl⟩ := Int.eq_ofNat_of_zero_le hd.1
            have e2 : s + 1 = 2 * dn := by omega
            have k0 := (krow (i := 0)).2.2.2 (by omega) (by omega)
            have k1 : ktag 196 = 2 := k0.1
            have k2 : klen 196 = 67 := k0.2
            have k3 := (krow (i := (dn : Int))).2.2.1 (by omega) (by omega)
            obtain ⟨τ, t, tr⟩ := ih (s + 1) (cpy χ 196 (183 + (dn : Int)) 0 0 67) (by omega) (fun x y hx => by unfold cpy; rw [if_neg (by omega)]; exact hf x y hx) (fun h' x a0 a1 x0 x1 a2 a3 => by unfold cpy; rw [if_neg (by omega)]; exact n1 h' x a0 a1 x0 x1 a2 a3) (fun h' x a0 a1 x0 x1 => by unfold cpy; rw [if_neg (by omega)]; exact r2 h' x (by omega) a1 x0 x1) (fun n v n0 v0 v1 => by
              unfold cpy
              by_cases q : n = dn
              · subst q
                rw [if_pos ⟨rfl, by omega, by omega⟩, show (0 : Int) + (v - 0) = v from by omega]
                have := r0 v (by omega) (by omega) (by omega) v0 v1 (by omega)
                rw [show (196 : Int) + 0 = 196 from rfl] at this
                rw [this, e2]
              · rw [if_neg (by omega)]
                exact r3 n v (by omega) v0 v1)
            rw [es] at t
            refine ⟨τ, ?_, tr⟩
            refine vX0_findCrossings 60 ?_
            simp only [↓S_X0_findCrossings_1, ↓S_X0_findCrossings_2, ↓pI_c, ↓pL_c, ↓pR_c, ↓pC_I, ↓pC_R, ↓pE_n, ↓gI_0, ↓gI_s, ↓gL_0, ↓gL_s, ↓gR_0, ↓gR_s, ↓popN_0, ↓popN_s, ↓kl_I, ↓kl_L, ↓kl_R, ↓kl_n, ↓put1_0, ↓put1_s, ↓putk_0, ↓putk_s, ↓put2_0, ↓put2_s, ↓putl_0, ↓putl_s, ↓callK_0, ↓callK_1, ↓callK_2, cats_n, cats_c, catA_I, catA_L, catA_R, KL, LV, lval_f, ltag_f, llen_f, lcm_lt, lcm_le, lcm_gt, lcm_ge, lcm_eq, lcm_R1, lcm_R2, inR, inL, true_and, and_true, eq_self, List.head?_cons, Option.some.injEq, Sum.inr.injEq, Sum.inl.injEq, false_or, or_false, true_or, or_true, Nat.reduceAdd, Nat.reduceLeDiff, Int.reduceLE, Int.reduceLT, Int.reduceEq, Int.reduceNeg, Int.reduceAdd, Int.reduceSub, Int.reduceMul, Int.reduceNe, ne_eq, not_false_eq_true, not_true_eq_false, false_implies, forall_const, Nat.le_refl, Nat.zero_le, implies_true, and_self]
            simp only [em, ed, c, k1, k2, k3.2.2.1, k3.2.2.2]
            (repeat' (first | apply And.intro | intro _))
            all_goals (try first | omega | trivial | (rfl; done) | assumption | (exfalso; omega) | (exact t) | (refine V.wk t ?_; simp [lle]; done))
          · obtain ⟨τ, t, tr⟩ := ih (s + 1) χ (by omega) hf n1 (fun h' x a0 a1 x0 x1 => r2 h' x (by omega) a1 x0 x1) (fun n v n0 v0 v1 => r3 n v (by omega) v0 v1)
            rw [es] at t
            refine ⟨τ, ?_, tr⟩
            refine vX0_findCrossings 60 ?_
            simp only [↓S_X0_findCrossings_1, ↓S_X0_findCrossings_2, ↓pI_c, ↓pL_c, ↓pR_c, ↓pC_I, ↓pC_R, ↓pE_n, ↓gI_0, ↓gI_s, ↓gL_0, ↓gL_s, ↓gR_0, ↓gR_s, ↓popN_0, ↓popN_s, ↓kl_I, ↓kl_L, ↓kl_R, ↓kl_n, ↓put1_0, ↓put1_s, ↓putk_0, ↓putk_s, ↓put2_0, ↓put2_s, ↓putl_0, ↓putl_s, ↓callK_0, ↓callK_1, ↓callK_2, cats_n, cats_c, catA_I, catA_L, catA_R, KL, LV, lval_f, ltag_f, llen_f, lcm_lt, lcm_le, lcm_gt, lcm_ge, lcm_eq, lcm_R1, lcm_R2, inR, inL, true_and, and_true, eq_self, List.head?_cons, Option.some.injEq, Sum.inr.injEq, Sum.inl.injEq, false_or, or_false, true_or, or_true, Nat.reduceAdd, Nat.reduceLeDiff, Int.reduceLE, Int.reduceLT, Int.reduceEq, Int.reduceNeg, Int.reduceAdd, Int.reduceSub, Int.reduceMul, Int.reduceNe, ne_eq, not_false_eq_true, not_true_eq_false, false_implies, forall_const, Nat.le_refl, Nat.zero_le, implies_true, and_self]
            simp only [em]
            (repeat' (first | apply And.intro | intro _))
            all_goals (try first | omega | trivial | (rfl; done) | assumption | (exfalso; omega) | (exact t) | (refine V.wk t ?_; simp [lle]; done))
        induction j with
        | zero =>
          intro h χ h0 h1 h2 hp hf r1 r2 r3 r4
          exact fin h χ h0 h1 (by omega) hp hf r2 r3 r4
        | succ j ih2 =>
          intro h χ h0 h1 h2 hp hf r1 r2 r3 r4
          by_cases c : top < h
          · exact fin h χ h0 h1 c hp hf r2 r3 r4
          · obtain ⟨ψ, st, g1, g2⟩ := r_X0_stepTo D χ h h0 (by omega)
            obtain ⟨τ, t, tr⟩ := ih2 (h + 2) ψ (by omega) (by omega) (by omega) (by omega) (fun x y hx => by rw [g1 x y (by omega)]; exact hf x y hx) (fun h' x a0 a1 x0 x1 a2 a3 => by rw [g1 _ x (by omega)]; exact r1 h' x a0 a1 x0 x1 a2 a3) (fun h' x a0 a1 x0 x1 => by rw [g1 _ x (by omega)]; exact r2 h' x a0 a1 x0 x1) (fun n v n0 v0 v1 => by rw [g1 _ v (by omega)]; exact r3 n v n0 v0 v1) (fun h' x a0 a1 a2 x0 x1 a3 => by
              by_cases q : h' = h
              · subst q
                rw [g2 x x0 x1, Pc_s]
                congr 1
                · by_cases q2 : 0 < h'
                  · rw [if_pos q2, if_pos q2]
                    exact r1 (h' - 1) x (by omega) (by omega) x0 x1 (by omega) (by omega)
                  · rw [if_neg q2, if_neg q2]
                · refine rs_congr _ _ (fun y y0 y1 => ?_)
                  show (if 0 ≤ y then χ (196 + (h' + 1)) y else 0) = (if 0 ≤ y then Pc s (h' + 1) y else 0)
                  by_cases q2 : 0 ≤ y
                  · rw [if_pos q2, if_pos q2]
                    exact r1 (h' + 1) y (by omega) (by omega) q2 (by omega) (by omega) (by omega)
                  · rw [if_neg q2, if_neg q2]
              · rw [g1 _ x (by omega)]
                exact r4 h' x a0 (by omega) a2 x0 x1 a3)
            refine ⟨τ, ?_, tr⟩
            refine vX0_findCrossings 60 ?_
            simp only [↓S_X0_findCrossings_1, ↓S_X0_findCrossings_2, ↓pI_c, ↓pL_c, ↓pR_c, ↓pC_I, ↓pC_R, ↓pE_n, ↓gI_0, ↓gI_s, ↓gL_0, ↓gL_s, ↓gR_0, ↓gR_s, ↓popN_0, ↓popN_s, ↓kl_I, ↓kl_L, ↓kl_R, ↓kl_n, ↓put1_0, ↓put1_s, ↓putk_0, ↓putk_s, ↓put2_0, ↓put2_s, ↓putl_0, ↓putl_s, ↓callK_0, ↓callK_1, ↓callK_2, cats_n, cats_c, catA_I, catA_L, catA_R, KL, LV, lval_f, ltag_f, llen_f, lcm_lt, lcm_le, lcm_gt, lcm_ge, lcm_eq, lcm_R1, lcm_R2, inR, inL, true_and, and_true, eq_self, List.head?_cons, Option.some.injEq, Sum.inr.injEq, Sum.inl.injEq, false_or, or_false, true_or, or_true, Nat.reduceAdd, Nat.reduceLeDiff, Int.reduceLE, Int.reduceLT, Int.reduceEq, Int.reduceNeg, Int.reduceAdd, Int.reduceSub, Int.reduceMul, Int.reduceNe, ne_eq, not_false_eq_true, not_true_eq_false, false_implies, forall_const, Nat.le_refl, Nat.zero_le, implies_true, and_self]
            (repeat' (first | apply And.intro | intro _ | with_reducible refine Exists.intro _ (Exists.intro _ (And.intro st ?_)) | with_reducible refine Exists.intro _ (And.intro st ?_)))
            all_goals (try first | omega | trivial | (rfl; done) | assumption | (exfalso; omega) | (exact t) | (refine V.wk t ?_; simp [lle]; done))
      obtain ⟨τ, t, tr⟩ := inner 14 (((s : Int) + 1) % 2) χ (by omega) (by omega) (by omega) (by omega) hf r1 (fun h' x a0 a1 x0 x1 => r2 h' x (by omega) a1 x0 x1) r3 (fun h' x a0 a1 a2 x0 x1 a3 => by omega)
      refine ⟨τ, ?_, tr⟩
      refine vX0_findCrossings 60 ?_
      simp only [↓S_X0_findCrossings_1, ↓S_X0_findCrossings_2, ↓pI_c, ↓pL_c, ↓pR_c, ↓pC_I, ↓pC_R, ↓pE_n, ↓gI_0, ↓gI_s, ↓gL_0, ↓gL_s, ↓gR_0, ↓gR_s, ↓popN_0, ↓popN_s, ↓kl_I, ↓kl_L, ↓kl_R, ↓kl_n, ↓put1_0, ↓put1_s, ↓putk_0, ↓putk_s, ↓put2_0, ↓put2_s, ↓putl_0, ↓putl_s, ↓callK_0, ↓callK_1, ↓callK_2, cats_n, cats_c, catA_I, catA_L, catA_R, KL, LV, lval_f, ltag_f, llen_f, lcm_lt, lcm_le, lcm_gt, lcm_ge, lcm_eq, lcm_R1, lcm_R2, inR, inL, true_and, and_true, eq_self, List.head?_cons, Option.some.injEq, Sum.inr.injEq, Sum.inl.injEq, false_or, or_false, true_or, or_true, Nat.reduceAdd, Nat.reduceLeDiff, Int.reduceLE, Int.reduceLT, Int.reduceEq, Int.reduceNeg, Int.reduceAdd, Int.reduceSub, Int.reduceMul, Int.reduceNe, ne_eq, not_false_eq_true, not_true_eq_false, false_implies, forall_const, Nat.le_refl, Nat.zero_le, implies_true, and_self]
      simp only [em, htop]
      (repeat' (first | apply And.intro | intro _))
      all_goals (try first | omega | trivial | (rfl; done) | assumption | (exfalso; omega) | (exact t) | (refine V.wk t ?_; simp [lle]; done))
  have k0 := (krow (i := 0)).2.2.2 (by omega) (by omega)
  have k1 : ktag 196 = 2 := k0.1
  have k2 : klen 196 = 67 := k0.2
  have k5 := (krow (i := 0)).2.2.1 (by omega) (by omega)
  have k3 : ktag 183 = 2 := k5.2.2.1
  have k4 : klen 183 = 67 := k5.2.2.2
  obtain ⟨τ, t, tr⟩ := outer 24 0 (up (up σ 196 0 1) 183 0 1) (by omega) (fun x y hx => by unfold up; rw [if_neg (by omega), if_neg (by omega)]) (fun h x a0 a1 x0 x1 a2 a3 => by
    unfold up
    rw [if_neg (by omega)]
    show _ = (if h = 0 ∧ x = 0 then 1 else 0 : Int)
    by_cases c : h = 0 ∧ x = 0
    · rw [if_pos (by omega), if_pos c]
    · rw [if_neg (by omega), if_neg c]
      exact hz h x a0 a1 x0 x1) (fun h x a0 a1 x0 x1 => by unfold up; rw [if_neg (by omega), if_neg (by omega)]; exact hz h x (by omega) a1 x0 x1) (fun n v n0 v0 v1 => by
    have : n = 0 := by omega
    subst this
    show _ = (if (0 : Int) = 0 ∧ v = 0 then 1 else 0 : Int)
    unfold up
    by_cases c : v = 0
    · rw [if_pos (by omega), if_pos (by omega)]
    · rw [if_neg (by omega), if_neg (by omega), if_neg (by omega)]
      exact hz2 v v0 v1)
  refine ⟨τ, ?_, tr⟩
  refine Ret.of 0 [some (aR 0), none, none, none, none] rfl (by decide) rfl (Nat.le_of_ble_eq_true rfl) ?_
  refine vX0_findCrossings 60 ?_
  simp only [↓S_X0_findCrossings_1, ↓S_X0_findCrossings_2, ↓pI_c, ↓pL_c, ↓pR_c, ↓pC_I, ↓pC_R, ↓pE_n, ↓gI_0, ↓gI_s, ↓gL_0, ↓gL_s, ↓gR_0, ↓gR_s, ↓popN_0, ↓popN_s, ↓kl_I, ↓kl_L, ↓kl_R, ↓kl_n, ↓put1_0, ↓put1_s, ↓putk_0, ↓putk_s, ↓put2_0, ↓put2_s, ↓putl_0, ↓putl_s, ↓callK_0, ↓callK_1, ↓callK_2, cats_n, cats_c, catA_I, catA_L, catA_R, KL, LV, lval_f, ltag_f, llen_f, lcm_lt, lcm_le, lcm_gt, lcm_ge, lcm_eq, lcm_R1, lcm_R2, inR, inL, true_and, and_true, eq_self, List.head?_cons, Option.some.injEq, Sum.inr.injEq, Sum.inl.injEq, false_or, or_false, true_or, or_true, Nat.reduceAdd, Nat.reduceLeDiff, Int.reduceLE, Int.reduceLT, Int.reduceEq, Int.reduceNeg, Int.reduceAdd, Int.reduceSub, Int.reduceMul, Int.reduceNe, ne_eq, not_false_eq_true, not_true_eq_false, false_implies, forall_const, Nat.le_refl, Nat.zero_le, implies_true, and_self]
  simp only [k1, k2, k3, k4]
  (repeat' (first | apply And.intro | intro _))
  all_goals (try first | omega | trivial | (rfl; done) | assumption | (exfalso; omega) | (exact t) | (refine V.wk t ?_; simp [lle]; done))

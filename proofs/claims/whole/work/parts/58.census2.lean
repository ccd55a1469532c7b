/-! how many full drawings have so many crossings -/
def Pc : Nat → Int → Int → Int
  | 0, h, x => if h = 0 ∧ x = 0 then 1 else 0
  | s + 1, h, x => (if 0 < h then Pc s (h - 1) x else 0) + rs (fun y => if 0 ≤ y then Pc s (h + 1) y else 0) (x - h) (h + 1).toNat
theorem Pc_s (s : Nat) (h x : Int) : Pc (s + 1) h x = (if 0 < h then Pc s (h - 1) x else 0) + rs (fun y => if 0 ≤ y then Pc s (h + 1) y else 0) (x - h) (h + 1).toNat := rfl
theorem Pc_hi : ∀ (s : Nat) (h x : Int), (s : Int) < h → Pc s h x = 0
  | 0, h, x, hh => if_neg (by omega)
  | s + 1, h, x, hh => by
    rw [Pc_s, if_pos (by omega), Pc_hi s (h - 1) x (by omega), rs_zero _ _ (fun j _ _ => by
      show (if 0 ≤ j then Pc s (h + 1) j else 0) = 0
      split
      · exact Pc_hi s (h + 1) j (by omega)
      · rfl)]
    rfl
def TBL : List (List Nat) := [[1, 0, 0, 0, 0, 0, 0, 0, 0, 0, 0, 0, 0, 0, 0, 0, 0, 0, 0, 0, 0, 0, 0, 0, 0, 0], [0, 1, 0, 0, 0, 0, 0, 0, 0, 0, 0, 0, 0, 0, 0, 0, 0, 0, 0, 0, 0, 0, 0, 0, 0, 0], [1, 0, 1, 0, 0, 0, 0, 0, 0, 0, 0, 0, 0, 0, 0, 0, 0, 0, 0, 0, 0, 0, 0, 0, 0, 0], [0, 3, 0, 1, 0, 0, 0, 0, 0, 0, 0, 0, 0, 0, 0, 0, 0, 0, 0, 0, 0, 0, 0, 0, 0, 0], [3, 0, 6, 0, 1, 0, 0, 0, 0, 0, 0, 0, 0, 0, 0, 0, 0, 0, 0, 0, 0, 0, 0, 0, 0, 0], [0, 15, 0, 10, 0, 1, 0, 0, 0, 0, 0, 0, 0, 0, 0, 0, 0, 0, 0, 0, 0, 0, 0, 0, 0, 0], [15, 0, 45, 0, 15, 0, 1, 0, 0, 0, 0, 0, 0, 0, 0, 0, 0, 0, 0, 0, 0, 0, 0, 0, 0, 0], [0, 105, 0, 105, 0, 21, 0, 1, 0, 0, 0, 0, 0, 0, 0, 0, 0, 0, 0, 0, 0, 0, 0, 0, 0, 0], [105, 0, 420, 0, 210, 0, 28, 0, 1, 0, 0, 0, 0, 0, 0, 0, 0, 0, 0, 0, 0, 0, 0, 0, 0, 0], [0, 945, 0, 1260, 0, 378, 0, 36, 0, 1, 0, 0, 0, 0, 0, 0, 0, 0, 0, 0, 0, 0, 0, 0, 0, 0], [945, 0, 4725, 0, 3150, 0, 630, 0, 45, 0, 1, 0, 0, 0, 0, 0, 0, 0, 0, 0, 0, 0, 0, 0, 0, 0], [0, 10395, 0, 17325, 0, 6930, 0, 990, 0, 55, 0, 1, 0, 0, 0, 0, 0, 0, 0, 0, 0, 0, 0, 0, 0, 0], [10395, 0, 62370, 0, 51975, 0, 13860, 0, 1485, 0, 66, 0, 1, 0, 0, 0, 0, 0, 0, 0, 0, 0, 0, 0, 0, 0], [0, 135135, 0, 270270, 0, 135135, 0, 25740, 0, 2145, 0, 78, 0, 1, 0, 0, 0, 0, 0, 0, 0, 0, 0, 0, 0, 0], [135135, 0, 945945, 0, 945945, 0, 315315, 0, 45045, 0, 3003, 0, 91, 0, 1, 0, 0, 0, 0, 0, 0, 0, 0, 0, 0, 0], [0, 2027025, 0, 4729725, 0, 2837835, 0, 675675, 0, 75075, 0, 4095, 0, 105, 0, 1, 0, 0, 0, 0, 0, 0, 0, 0, 0, 0], [2027025, 0, 16216200, 0, 18918900, 0, 7567560, 0, 1351350, 0, 120120, 0, 5460, 0, 120, 0, 1, 0, 0, 0, 0, 0, 0, 0, 0, 0], [0, 34459425, 0, 91891800, 0, 64324260, 0, 18378360, 0, 2552550, 0, 185640, 0, 7140, 0, 136, 0, 1, 0, 0, 0, 0, 0, 0, 0, 0], [34459425, 0, 310134825, 0, 413513100, 0, 192972780, 0, 41351310, 0, 4594590, 0, 278460, 0, 9180, 0, 153, 0, 1, 0, 0, 0, 0, 0, 0, 0], [0, 654729075, 0, 1964187225, 0, 1571349780, 0, 523783260, 0, 87297210, 0, 7936110, 0, 406980, 0, 11628, 0, 171, 0, 1, 0, 0, 0, 0, 0, 0], [654729075, 0, 6547290750, 0, 9820936125, 0, 5237832600, 0, 1309458150, 0, 174594420, 0, 13226850, 0, 581400, 0, 14535, 0, 190, 0, 1, 0, 0, 0, 0, 0], [0, 13749310575, 0, 45831035250, 0, 41247931725, 0, 15713497800, 0, 3055402350, 0, 333316620, 0, 21366450, 0, 813960, 0, 17955, 0, 210, 0, 1, 0, 0, 0, 0], [13749310575, 0, 151242416325, 0, 252070693875, 0, 151242416325, 0, 43212118950, 0, 6721885170, 0, 611080470, 0, 33575850, 0, 1119195, 0, 21945, 0, 231, 0, 1, 0, 0, 0], [0, 316234143225, 0, 1159525191825, 0, 1159525191825, 0, 496939367925, 0, 110430970650, 0, 14054850810, 0, 1081142370, 0, 51482970, 0, 1514205, 0, 26565, 0, 253, 0, 1, 0, 0], [316234143225, 0, 3794809718700, 0, 6957151150950, 0, 4638100767300, 0, 1490818103775, 0, 265034329560, 0, 28109701620, 0, 1853386920, 0, 77224455, 0, 2018940, 0, 31878, 0, 276, 0, 1, 0]]
def tb (s h : Nat) : Nat := (TBL.getD s []).getD h 0
theorem tb_rec : ∀ s : Nat, s < 24 → ∀ h : Nat, h < 25 → (if h = 0 then 0 else tb s (h - 1)) + (h + 1) * tb s (h + 1) ≤ tb (s + 1) h := by decide +kernel
theorem tb_0 : tb 0 0 = 1 := by decide +kernel
theorem tb_lt : ∀ s : Nat, s < 25 → ∀ h : Nat, h < 26 → tb s h < 1000000000000000000 := by decide +kernel
theorem rs_le {f : Int → Int} {hi : Int} (k : Nat) (i : Int) (h : ∀ j, i ≤ j → j < i + k → 0 ≤ f j ∧ f j ≤ hi) : 0 ≤ rs f i k ∧ rs f i k ≤ (k : Int) * hi := by
  have := rs_bound (lo := 0) (hi := hi) k i h
  rw [Int.mul_zero] at this
  exact this
theorem Pc_bd : ∀ (s : Nat), s ≤ 24 → ∀ (h : Nat), h ≤ 25 → ∀ x, 0 ≤ Pc s h x ∧ Pc s h x ≤ (tb s h : Int)
  | 0, _, h, _, x => by
    show 0 ≤ (if (h : Int) = 0 ∧ x = 0 then 1 else 0 : Int) ∧ (if (h : Int) = 0 ∧ x = 0 then 1 else 0 : Int) ≤ _
    split
    · rename_i q
      have : h = 0 := by omega
      subst this
      rw [tb_0]
      omega
    · omega
  | s + 1, hs, h, hh, x => by
    by_cases c : s + 1 < h
    · rw [Pc_hi (s + 1) h x (by omega)]
      omega
    · have hr := tb_rec s (by omega) h (by omega)
      have h2 := rs_le (f := fun y => if 0 ≤ y then Pc s ((h : Int) + 1) y else 0) (hi := (tb s (h + 1) : Int)) ((h : Int) + 1).toNat (x - h) (fun j _ _ => by
        show 0 ≤ (if 0 ≤ j then Pc s ((h : Int) + 1) j else 0) ∧ (if 0 ≤ j then Pc s ((h : Int) + 1) j else 0) ≤ _
        have := Pc_bd s (by omega) (h + 1) (by omega) j
        rw [show ((h + 1 : Nat) : Int) = (h : Int) + 1 from by omega] at this
        split <;> omega)
      rw [Pc_s]
      rw [show ((((h : Int) + 1).toNat : Nat) : Int) = ((h + 1 : Nat) : Int) from by omega] at h2
      have h3 : (((h + 1) * tb s (h + 1) : Nat) : Int) = ((h + 1 : Nat) : Int) * (tb s (h + 1) : Int) := Int.natCast_mul _ _
      by_cases c2 : h = 0
      · rw [if_pos c2] at hr
        rw [if_neg (by omega)]
        omega
      · rw [if_neg c2] at hr
        have h1 := Pc_bd s (by omega) (h - 1) (by omega) x
        rw [show ((h - 1 : Nat) : Int) = (h : Int) - 1 from by omega] at h1
        rw [if_pos (by omega)]
        omega
theorem Pc_L {s : Nat} {h x : Int} (hs : s ≤ 24) (h0 : 0 ≤ h) (h1 : h ≤ 25) : 0 ≤ Pc s h x ∧ Pc s h x < 1000000000000000000 := by
  have := Pc_bd s hs h.toNat (by omega) x
  have h2 := tb_lt s (by omega) h.toNat (by omega)
  rw [show ((h.toNat : Nat) : Int) = h from by omega] at this
  omega
set_option maxRecDepth 100000 in
theorem r_X0_stepTo (D : Nat) (σ : Sg) (h : Int) (h0 : 0 ≤ h) (h1 : h ≤ 12) : ∃ τ, Ret (D + 1) miX0_stepTo [aR 0, aI h] σ none τ ∧ (∀ x y, x ≠ 196 + h → τ x y = σ x y) ∧ ∀ v, 0 ≤ v → v < 67 → τ (196 + h) v = (if 0 < h then σ (196 + (h - 1)) v else 0) + rs (fun y => if 0 ≤ y then σ (196 + (h + 1)) y else 0) (v - h) (h + 1).toNat := by
  have k0 := (krow (i := h)).2.2.2 (by omega) (by omega)
  have k1 := (krow (i := h + 1)).2.2.2 (by omega) (by omega)
  have t1 : ltag (196 + (h + 1)) = 2 := by rw [ltag_n (by omega)]; exact k1.1
  have l1 : llen (196 + (h + 1)) = 67 := by rw [llen_n (by omega)]; exact k1.2
  generalize hg : (fun y => if 0 ≤ y then σ (196 + (h + 1)) y else 0) = g at *
  have gv : ∀ y, g y = if 0 ≤ y then σ (196 + (h + 1)) y else 0 := fun y => by rw [← hg]
  have slide : ∀ v, rs g (v - h) (h + 1).toNat = rs g (v - 1 - h) (h + 1).toNat + g v - g (v - h - 1) := fun v => by
    have e1 := rs_last g h.toNat (v - h)
    have e2 := rs_s g (v - 1 - h) h.toNat
    rw [show (h + 1).toNat = h.toNat + 1 from by omega, e1, e2, show v - h + (h.toNat : Int) = v from by omega, show v - 1 - h + 1 = v - h from by omega, show v - 1 - h = v - h - 1 from by omega]
    omega
  have loop : ∀ (k : Nat) (v : Int) (χ : Sg), 0 ≤ v → v + k = 67 → (∀ x y, x ≠ 196 + h → χ x y = σ x y) → (∀ w, 0 ≤ w → w < v → χ (196 + h) w = (if 0 < h then σ (196 + (h - 1)) w else 0) + rs g (w - h) (h + 1).toNat) → ∃ τ, V D miX0_stepTo 0 none τ 22 [some (aR 0), some (aI h), some (aR (196 + h)), some (aR (196 + (h + 1))), some (aL (rs g (v - 1 - h) (h + 1).toNat)), none, some (aI v)] [] χ ∧ (∀ x y, x ≠ 196 + h → τ x y = σ x y) ∧ ∀ v, 0 ≤ v → v < 67 → τ (196 + h) v = (if 0 < h then σ (196 + (h - 1)) v else 0) + rs g (v - h) (h + 1).toNat := by
    intro k
    induction k with
    | zero =>
      intro v χ v0 vk hf hi
      refine ⟨χ, ?_, hf, fun w w0 w1 => hi w w0 (by omega)⟩
      refine vX0_stepTo 60 ?_
      simp only [↓S_X0_stepTo_1, ↓S_X0_stepTo_2, ↓pI_c, ↓pL_c, ↓pR_c, ↓pC_I, ↓pC_R, ↓pE_n, ↓gI_0, ↓gI_s, ↓gL_0, ↓gL_s, ↓gR_0, ↓gR_s, ↓popN_0, ↓popN_s, ↓kl_I, ↓kl_L, ↓kl_R, ↓kl_n, ↓put1_0, ↓put1_s, ↓putk_0, ↓putk_s, ↓put2_0, ↓put2_s, ↓putl_0, ↓putl_s, ↓callK_0, ↓callK_1, ↓callK_2, cats_n, cats_c, catA_I, catA_L, catA_R, KL, LV, lval_f, ltag_f, llen_f, lcm_lt, lcm_le, lcm_gt, lcm_ge, lcm_eq, lcm_R1, lcm_R2, inR, inL, true_and, and_true, eq_self, List.head?_cons, Option.some.injEq, Sum.inr.injEq, Sum.inl.injEq, false_or, or_false, true_or, or_true, Nat.reduceAdd, Nat.reduceLeDiff, Int.reduceLE, Int.reduceLT, Int.reduceEq, Int.reduceNeg, Int.reduceAdd, Int.reduceSub, Int.reduceMul, Int.reduceNe, ne_eq, not_false_eq_true, not_true_eq_false, false_implies, forall_const, Nat.le_refl, Nat.zero_le, implies_true, and_self]
      (repeat' (first | apply And.intro | intro _))
      all_goals (try first | omega | trivial | (rfl; done) | assumption | (exfalso; omega))
    | succ k ih =>
      intro v χ v0 vk hf hi
      obtain ⟨τ, t, tr⟩ := ih (v + 1) (up χ (196 + h) v ((if 0 < h then σ (196 + (h - 1)) v else 0) + rs g (v - h) (h + 1).toNat)) (by omega) (by omega) (fun x y hx => by unfold up; rw [if_neg (by omega)]; exact hf x y hx) (fun w w0 w1 => by
        unfold up
        by_cases c : w = v
        · rw [if_pos ⟨rfl, c⟩, c]
        · rw [if_neg (by omega)]
          exact hi w w0 (by omega))
      refine ⟨τ, ?_, tr⟩
      rw [show v + 1 - 1 - h = v - h from by omega] at t
      have sl := slide v
      have gv1 := gv v
      rw [if_pos v0] at gv1
      have e1 : lval χ (196 + (h + 1)) v = g v := by rw [lval_n (by omega), hf _ _ (by omega), gv1]
      have key : ∀ (E : Int), E = rs g (v - h) (h + 1).toNat → ∀ X, (0 < h → X = σ (196 + (h - 1)) v) → (¬ 0 < h → X = 0) → V D miX0_stepTo 0 none τ 22 [some (aR 0), some (aI h), some (aR (196 + h)), some (aR (196 + (h + 1))), some (aL E), none, some (aI (v + 1))] [] (up χ (196 + h) v (E + X)) := by
        intro E hE X hX1 hX2
        rw [hE]
        by_cases c : 0 < h
        · rw [hX1 c, Int.add_comm (rs g (v - h) (h + 1).toNat)]
          rw [if_pos c] at t
          exact t
        · rw [hX2 c, Int.add_comm (rs g (v - h) (h + 1).toNat)]
          rw [if_neg c] at t
          exact t
      by_cases c0 : 0 < h
      · have k2 := (krow (i := h - 1)).2.2.2 (by omega) (by omega)
        have t2 : ltag (196 + (h - 1)) = 2 := by rw [ltag_n (by omega)]; exact k2.1
        have l2 : llen (196 + (h - 1)) = 67 := by rw [llen_n (by omega)]; exact k2.2
        have e2 : lval χ (196 + (h - 1)) v = σ (196 + (h - 1)) v := by rw [lval_n (by omega), hf _ _ (by omega)]
        by_cases c1 : h < v
        · have gv2 := gv (v - h - 1)
          rw [if_pos (by omega)] at gv2
          have e3 : lval χ (196 + (h + 1)) (v - h - 1) = g (v - h - 1) := by rw [lval_n (by omega), hf _ _ (by omega), gv2]
          have T := key (rs g (v - 1 - h) (h + 1).toNat + g v - g (v - h - 1)) sl.symm (σ (196 + (h - 1)) v) (fun _ => rfl) (fun q => absurd c0 q)
          refine vX0_stepTo 60 ?_
          simp only [↓S_X0_stepTo_1, ↓S_X0_stepTo_2, ↓pI_c, ↓pL_c, ↓pR_c, ↓pC_I, ↓pC_R, ↓pE_n, ↓gI_0, ↓gI_s, ↓gL_0, ↓gL_s, ↓gR_0, ↓gR_s, ↓popN_0, ↓popN_s, ↓kl_I, ↓kl_L, ↓kl_R, ↓kl_n, ↓put1_0, ↓put1_s, ↓putk_0, ↓putk_s, ↓put2_0, ↓put2_s, ↓putl_0, ↓putl_s, ↓callK_0, ↓callK_1, ↓callK_2, cats_n, cats_c, catA_I, catA_L, catA_R, KL, LV, lval_f, ltag_f, llen_f, lcm_lt, lcm_le, lcm_gt, lcm_ge, lcm_eq, lcm_R1, lcm_R2, inR, inL, true_and, and_true, eq_self, List.head?_cons, Option.some.injEq, Sum.inr.injEq, Sum.inl.injEq, false_or, or_false, true_or, or_true, Nat.reduceAdd, Nat.reduceLeDiff, Int.reduceLE, Int.reduceLT, Int.reduceEq, Int.reduceNeg, Int.reduceAdd, Int.reduceSub, Int.reduceMul, Int.reduceNe, ne_eq, not_false_eq_true, not_true_eq_false, false_implies, forall_const, Nat.le_refl, Nat.zero_le, implies_true, and_self]
          simp only [t1, l1, t2, l2, e1, e2, e3, k0.1, k0.2]
          (repeat' (first | apply And.intro | intro _))
          all_goals (try first | omega | trivial | (rfl; done) | assumption | (exfalso; omega) | (exact T) | (refine V.wk T ?_; simp [lle]; done))
        · have gv2 := gv (v - h - 1)
          rw [if_neg (by omega)] at gv2
          have T := key (rs g (v - 1 - h) (h + 1).toNat + g v) (by omega) (σ (196 + (h - 1)) v) (fun _ => rfl) (fun q => absurd c0 q)
          refine vX0_stepTo 60 ?_
          simp only [↓S_X0_stepTo_1, ↓S_X0_stepTo_2, ↓pI_c, ↓pL_c, ↓pR_c, ↓pC_I, ↓pC_R, ↓pE_n, ↓gI_0, ↓gI_s, ↓gL_0, ↓gL_s, ↓gR_0, ↓gR_s, ↓popN_0, ↓popN_s, ↓kl_I, ↓kl_L, ↓kl_R, ↓kl_n, ↓put1_0, ↓put1_s, ↓putk_0, ↓putk_s, ↓put2_0, ↓put2_s, ↓putl_0, ↓putl_s, ↓callK_0, ↓callK_1, ↓callK_2, cats_n, cats_c, catA_I, catA_L, catA_R, KL, LV, lval_f, ltag_f, llen_f, lcm_lt, lcm_le, lcm_gt, lcm_ge, lcm_eq, lcm_R1, lcm_R2, inR, inL, true_and, and_true, eq_self, List.head?_cons, Option.some.injEq, Sum.inr.injEq, Sum.inl.injEq, false_or, or_false, true_or, or_true, Nat.reduceAdd, Nat.reduceLeDiff, Int.reduceLE, Int.reduceLT, Int.reduceEq, Int.reduceNeg, Int.reduceAdd, Int.reduceSub, Int.reduceMul, Int.reduceNe, ne_eq, not_false_eq_true, not_true_eq_false, false_implies, forall_const, Nat.le_refl, Nat.zero_le, implies_true, and_self]
          simp only [t1, l1, t2, l2, e1, e2, k0.1, k0.2]
          (repeat' (first | apply And.intro | intro _))
          all_goals (try first | omega | trivial | (rfl; done) | assumption | (exfalso; omega) | (exact T) | (refine V.wk T ?_; simp [lle]; done))
      · by_cases c1 : h < v
        · have gv2 := gv (v - h - 1)
          rw [if_pos (by omega)] at gv2
          have e3 : lval χ (196 + (h + 1)) (v - h - 1) = g (v - h - 1) := by rw [lval_n (by omega), hf _ _ (by omega), gv2]
          have T := key (rs g (v - 1 - h) (h + 1).toNat + g v - g (v - h - 1)) sl.symm 0 (fun q => absurd q c0) (fun _ => rfl)
          refine vX0_stepTo 60 ?_
          simp only [↓S_X0_stepTo_1, ↓S_X0_stepTo_2, ↓pI_c, ↓pL_c, ↓pR_c, ↓pC_I, ↓pC_R, ↓pE_n, ↓gI_0, ↓gI_s, ↓gL_0, ↓gL_s, ↓gR_0, ↓gR_s, ↓popN_0, ↓popN_s, ↓kl_I, ↓kl_L, ↓kl_R, ↓kl_n, ↓put1_0, ↓put1_s, ↓putk_0, ↓putk_s, ↓put2_0, ↓put2_s, ↓putl_0, ↓putl_s, ↓callK_0, ↓callK_1, ↓callK_2, cats_n, cats_c, catA_I, catA_L, catA_R, KL, LV, lval_f, ltag_f, llen_f, lcm_lt, lcm_le, lcm_gt, lcm_ge, lcm_eq, lcm_R1, lcm_R2, inR, inL, true_and, and_true, eq_self, List.head?_cons, Option.some.injEq, Sum.inr.injEq, Sum.inl.injEq, false_or, or_false, true_or, or_true, Nat.reduceAdd, Nat.reduceLeDiff, Int.reduceLE, Int.reduceLT, Int.reduceEq, Int.reduceNeg, Int.reduceAdd, Int.reduceSub, Int.reduceMul, Int.reduceNe, ne_eq, not_false_eq_true, not_true_eq_false, false_implies, forall_const, Nat.le_refl, Nat.zero_le, implies_true, and_self]
          simp only [t1, l1, e1, e3, k0.1, k0.2]
          (repeat' (first | apply And.intro | intro _))
          all_goals (try first | omega | trivial | (rfl; done) | assumption | (exfalso; omega) | (exact T) | (refine V.wk T ?_; simp [lle]; done))
        · have gv2 := gv (v - h - 1)
          rw [if_neg (by omega)] at gv2
          have T := key (rs g (v - 1 - h) (h + 1).toNat + g v) (by omega) 0 (fun q => absurd q c0) (fun _ => rfl)
          refine vX0_stepTo 60 ?_
          simp only [↓S_X0_stepTo_1, ↓S_X0_stepTo_2, ↓pI_c, ↓pL_c, ↓pR_c, ↓pC_I, ↓pC_R, ↓pE_n, ↓gI_0, ↓gI_s, ↓gL_0, ↓gL_s, ↓gR_0, ↓gR_s, ↓popN_0, ↓popN_s, ↓kl_I, ↓kl_L, ↓kl_R, ↓kl_n, ↓put1_0, ↓put1_s, ↓putk_0, ↓putk_s, ↓put2_0, ↓put2_s, ↓putl_0, ↓putl_s, ↓callK_0, ↓callK_1, ↓callK_2, cats_n, cats_c, catA_I, catA_L, catA_R, KL, LV, lval_f, ltag_f, llen_f, lcm_lt, lcm_le, lcm_gt, lcm_ge, lcm_eq, lcm_R1, lcm_R2, inR, inL, true_and, and_true, eq_self, List.head?_cons, Option.some.injEq, Sum.inr.injEq, Sum.inl.injEq, false_or, or_false, true_or, or_true, Nat.reduceAdd, Nat.reduceLeDiff, Int.reduceLE, Int.reduceLT, Int.reduceEq, Int.reduceNeg, Int.reduceAdd, Int.reduceSub, Int.reduceMul, Int.reduceNe, ne_eq, not_false_eq_true, not_true_eq_false, false_implies, forall_const, Nat.le_refl, Nat.zero_le, implies_true, and_self]
          simp only [t1, l1, e1, k0.1, k0.2]
          (repeat' (first | apply And.intro | intro _))
          all_goals (try first | omega | trivial | (rfl; done) | assumption | (exfalso; omega) | (exact T) | (refine V.wk T ?_; simp [lle]; done))
  obtain ⟨τ, t, tr⟩ := loop 67 0 σ (by omega) (by omega) (fun _ _ _ => rfl) (fun w w0 w1 => by omega)
  have ez : rs g (0 - 1 - h) (h + 1).toNat = 0 := rs_zero _ _ (fun j j0 j1 => by rw [gv, if_neg (by omega)])
  rw [ez] at t
  refine ⟨τ, ?_, tr⟩
  refine Ret.of 0 [some (aR 0), some (aI h), none, none, none, none, none] rfl (by decide) rfl (Nat.le_of_ble_eq_true rfl) ?_
  refine vX0_stepTo 60 ?_
  simp only [↓S_X0_stepTo_1, ↓S_X0_stepTo_2, ↓pI_c, ↓pL_c, ↓pR_c, ↓pC_I, ↓pC_R, ↓pE_n, ↓gI_0, ↓gI_s, ↓gL_0, ↓gL_s, ↓gR_0, ↓gR_s, ↓popN_0, ↓popN_s, ↓kl_I, ↓kl_L, ↓kl_R, ↓kl_n, ↓put1_0, ↓put1_s, ↓putk_0, ↓putk_s, ↓put2_0, ↓put2_s, ↓putl_0, ↓putl_s, ↓callK_0, ↓callK_1, ↓callK_2, cats_n, cats_c, catA_I, catA_L, catA_R, KL, LV, lval_f, ltag_f, llen_f, lcm_lt, lcm_le, lcm_gt, lcm_ge, lcm_eq, lcm_R1, lcm_R2, inR, inL, true_and, and_true, eq_self, List.head?_cons, Option.some.injEq, Sum.inr.injEq, Sum.inl.injEq, false_or, or_false, true_or, or_true, Nat.reduceAdd, Nat.reduceLeDiff, Int.reduceLE, Int.reduceLT, Int.reduceEq, Int.reduceNeg, Int.reduceAdd, Int.reduceSub, Int.reduceMul, Int.reduceNe, ne_eq, not_false_eq_true, not_true_eq_false, false_implies, forall_const, Nat.le_refl, Nat.zero_le, implies_true, and_self]
  (repeat' (first | apply And.intro | intro _))
  all_goals (try first | omega | trivial | (rfl; done) | assumption | (exfalso; omega) | (exact t) | (refine V.wk t ?_; simp [lle]; done))

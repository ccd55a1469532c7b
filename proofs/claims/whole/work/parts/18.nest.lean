/-! nests and tangles of Drawing -/
def mx (x y : Int) : Int := if x < y then y else x
def nestE (m h : Int → Int) : Prop := ∀ b, 0 ≤ b → b < 24 → b < m b → h b = fr (fun c d => if m b < m c then mx d (h c) else d) 0 b.toNat 0 + 1
theorem fr_bd {g : Int → Int → Int} {lo hi : Int} (k : Nat) (i x : Int) (hx : lo ≤ x ∧ x ≤ hi) (hg : ∀ j x, i ≤ j → j < i + k → lo ≤ x ∧ x ≤ hi → lo ≤ g j x ∧ g j x ≤ hi) : lo ≤ fr g i k x ∧ fr g i k x ≤ hi :=
  fr_inv (fun _ y => lo ≤ y ∧ y ≤ hi) k i x hx (fun j y h1 h2 h3 => hg j y h1 h2 h3)
theorem nestE.bd {L : Int} {m h : Int → Int} (hw : WD L m) (hn : nestE m h) : ∀ (k : Nat) (b : Int), 0 ≤ b → b < 24 → b < k → b < m b → 1 ≤ h b ∧ h b ≤ b + 1
  | 0, b, h0, h1, h2, h3 => by omega
  | k + 1, b, h0, h1, h2, h3 => by
    rw [hn b h0 h1 h3]
    have := fr_bd (g := fun c d => if m b < m c then mx d (h c) else d) (lo := 0) (hi := b) b.toNat 0 0 (by omega) (fun j x j0 j1 hx => by
      show 0 ≤ (if m b < m j then mx x (h j) else x) ∧ (if m b < m j then mx x (h j) else x) ≤ b
      split
      · have := nestE.bd hw hn k j j0 (by omega) (by omega) (by omega)
        unfold mx
        split <;> omega
      · exact hx)
    omega
theorem nestE.one {L : Int} {m h h2 : Int → Int} (hw : WD L m) (e1 : nestE m h) (e2 : nestE m h2) : ∀ (k : Nat) (b : Int), 0 ≤ b → b < 24 → b < k → b < m b → h b = h2 b
  | 0, b, h0, h1, h3, h4 => by omega
  | k + 1, b, h0, h1, h3, h4 => by
    rw [e1 b h0 h1 h4, e2 b h0 h1 h4]
    congr 1
    refine fr_congr _ _ _ (fun j x j0 j1 => ?_)
    show (if m b < m j then mx x (h j) else x) = (if m b < m j then mx x (h2 j) else x)
    split
    · rw [nestE.one hw e1 e2 k j j0 (by omega) (by omega) (by omega)]
    · rfl
set_option maxRecDepth 100000 in
theorem r_X1_nest (D : Nat) (σ : Sg) (hw : WD (σ 1 0) (σ 7)) : ∃ h τ, nestE (σ 7) h ∧ Ret (D + 2) miX1_nest [aR 1] σ (some (aI (fr (fun a mo => if a < σ 7 a then mx mo (h a) else mo) 0 (σ 1 0).toNat 0))) τ ∧ (∀ a b, a ≠ 11 → τ a b = σ a b) := by
  have w1 := hw.1
  have w2 := hw.2.1
  -- some function that meets the equation
  have hex : ∀ k : Nat, k ≤ 24 → ∃ h : Int → Int, ∀ b : Int, 0 ≤ b → b < (k : Int) → b < σ 7 b → h b = fr (fun c d => if σ 7 b < σ 7 c then mx d (h c) else d) 0 b.toNat 0 + 1 := by
    intro k
    induction k with
    | zero => intro _; exact ⟨fun _ => 0, fun b h0 h1 => by omega⟩
    | succ k ih =>
      intro hk
      obtain ⟨h, hh⟩ := ih (by omega)
      refine ⟨fun b => if b = k then fr (fun c d => if σ 7 k < σ 7 c then mx d (h c) else d) 0 k 0 + 1 else h b, fun b h0 h1 h2 => ?_⟩
      have cong : ∀ b : Int, b ≤ k → fr (fun c d => if σ 7 b < σ 7 c then mx d ((fun b => if b = (k : Int) then fr (fun c d => if σ 7 k < σ 7 c then mx d (h c) else d) 0 k 0 + 1 else h b) c) else d) 0 b.toNat 0 = fr (fun c d => if σ 7 b < σ 7 c then mx d (h c) else d) 0 b.toNat 0 := by
        intro b hb
        refine fr_congr _ _ _ (fun j x j0 j1 => ?_)
        show (if σ 7 b < σ 7 j then mx x (if j = (k : Int) then fr (fun c d => if σ 7 k < σ 7 c then mx d (h c) else d) 0 k 0 + 1 else h j) else x) = _
        rw [if_neg (show ¬ j = (k : Int) by omega)]
      rw [cong b (by omega)]
      by_cases q : b = k
      · subst q
        show (if (k : Int) = k then _ else _) = _
        rw [if_pos rfl]
        rfl
      · show (if b = (k : Int) then _ else h b) = _
        rw [if_neg q]
        exact hh b h0 (by omega) h2
  obtain ⟨h, hh⟩ := hex 24 (by omega)
  have hn : nestE (σ 7) h := fun b h0 h1 h2 => hh b h0 (by omega) h2
  have hbd := fun b h0 h1 h2 => nestE.bd hw hn 24 b h0 h1 (by omega) h2
  refine ⟨h, ?_⟩
  have loop : ∀ (k : Nat) (i mo : Int) (ρ : Sg), 0 ≤ i → i + k = σ 1 0 → 0 ≤ mo → mo ≤ 25 → (∀ a b, a ≠ 11 → ρ a b = σ a b) → (∀ b, 0 ≤ b → b < i → b < σ 7 b → ρ 11 b = h b) →
      ∃ τ, V (D + 1) miX1_nest 1 (some (aI (fr (fun a mo => if a < σ 7 a then mx mo (h a) else mo) i k mo))) τ 4 [some (aR 1), some (aI mo), some (aI i), none, none] [] ρ ∧ (∀ a b, a ≠ 11 → τ a b = σ a b) := by
    intro k
    induction k with
    | zero =>
      intro i mo ρ i0 i1 m0 m1 hρ hc
      have e1 := hρ 1 0 (by decide)
      refine ⟨ρ, ?_, hρ⟩
      refine vX1_nest 60 ?_
      simp only [↓S_X1_nest_1, ↓S_X1_nest_2, ↓pI_c, ↓pL_c, ↓pR_c, ↓pC_I, ↓pC_R, ↓pE_n, ↓gI_0, ↓gI_s, ↓gL_0, ↓gL_s, ↓gR_0, ↓gR_s, ↓popN_0, ↓popN_s, ↓kl_I, ↓kl_L, ↓kl_R, ↓kl_n, ↓put1_0, ↓put1_s, ↓putk_0, ↓putk_s, ↓put2_0, ↓put2_s, ↓putl_0, ↓putl_s, ↓callK_0, ↓callK_1, ↓callK_2, cats_n, cats_c, catA_I, catA_L, catA_R, KL, LV, lval_f, ltag_f, llen_f, lcm_lt, lcm_le, lcm_gt, lcm_ge, lcm_eq, lcm_R1, lcm_R2, inR, inL, true_and, and_true, eq_self, List.head?_cons, Option.some.injEq, Sum.inr.injEq, Sum.inl.injEq, false_or, or_false, true_or, or_true, Nat.reduceAdd, Nat.reduceLeDiff, Int.reduceLE, Int.reduceLT, Int.reduceEq, Int.reduceNeg, Int.reduceAdd, Int.reduceSub, Int.reduceMul, Int.reduceNe, ne_eq, not_false_eq_true, not_true_eq_false, false_implies, forall_const, Nat.le_refl, Nat.zero_le, implies_true, and_self]
      simp only [fr]
      rw [e1]
      (repeat' (first | apply And.intro | intro _))
      all_goals (try first | omega | trivial | (rfl; done) | assumption | (exfalso; omega) | (split <;> first | omega | (rfl; done) | (exfalso; omega)))
    | succ k ih =>
      intro i mo ρ i0 i1 m0 m1 hρ hc
      have e1 := hρ 1 0 (by decide)
      have e7 : ∀ x, ρ 7 x = σ 7 x := fun x => hρ 7 x (by decide)
      have hr := hw.r i0 (by omega)
      have hbg := r_X1_begins D ρ i i0 (by omega) (by rw [e7]; omega)
      rw [e7] at hbg
      rw [fr_s]
      by_cases c : i < σ 7 i
      · rw [if_pos c]
        rw [if_pos c] at hbg
        have hb1 := hbd i i0 (by omega) c
        obtain ⟨τ, t1, t2⟩ := ih (i + 1) (mx mo (h i)) (up ρ 11 i (h i)) (by omega) (by omega) (by unfold mx; split <;> omega) (by unfold mx; split <;> omega) (fun a b hh => by unfold up; rw [if_neg (fun z => hh z.1)]; exact hρ a b hh) (fun b b0 b1 b2 => by
          unfold up
          by_cases q : b = i
          · rw [if_pos ⟨rfl, q⟩, q]
          · rw [if_neg (fun z => q z.2)]
            exact hc b b0 (by omega) b2)
        refine ⟨τ, ?_, t2⟩
        have hei := hn i i0 (by omega) c
        -- the inner loop
        have inner : ∀ (n : Nat) (x dp : Int), 0 ≤ x → x + n = i → 0 ≤ dp → dp ≤ 24 → h i = fr (fun c d => if σ 7 i < σ 7 c then mx d (h c) else d) x n dp + 1 → V (D + 1) miX1_nest 1 (some (aI (fr (fun a mo => if a < σ 7 a then mx mo (h a) else mo) (i + 1) k (mx mo (h i))))) τ 25 [some (aR 1), some (aI mo), some (aI i), some (aI dp), some (aI x)] [] ρ := by
          intro n
          induction n with
          | zero =>
            intro x dp x0 x1 d0 d1 he
            simp only [fr] at he
            unfold mx at t1
            have eu : up ρ 11 i (dp + 1) 11 i = dp + 1 := by unfold up; rw [if_pos ⟨rfl, rfl⟩]
            rw [he] at t1
            unfold mx
            rw [he]
            refine vX1_nest 60 ?_
            simp only [↓S_X1_nest_1, ↓S_X1_nest_2, ↓pI_c, ↓pL_c, ↓pR_c, ↓pC_I, ↓pC_R, ↓pE_n, ↓gI_0, ↓gI_s, ↓gL_0, ↓gL_s, ↓gR_0, ↓gR_s, ↓popN_0, ↓popN_s, ↓kl_I, ↓kl_L, ↓kl_R, ↓kl_n, ↓put1_0, ↓put1_s, ↓putk_0, ↓putk_s, ↓put2_0, ↓put2_s, ↓putl_0, ↓putl_s, ↓callK_0, ↓callK_1, ↓callK_2, cats_n, cats_c, catA_I, catA_L, catA_R, KL, LV, lval_f, ltag_f, llen_f, lcm_lt, lcm_le, lcm_gt, lcm_ge, lcm_eq, lcm_R1, lcm_R2, inR, inL, true_and, and_true, eq_self, List.head?_cons, Option.some.injEq, Sum.inr.injEq, Sum.inl.injEq, false_or, or_false, true_or, or_true, Nat.reduceAdd, Nat.reduceLeDiff, Int.reduceLE, Int.reduceLT, Int.reduceEq, Int.reduceNeg, Int.reduceAdd, Int.reduceSub, Int.reduceMul, Int.reduceNe, ne_eq, not_false_eq_true, not_true_eq_false, false_implies, forall_const, Nat.le_refl, Nat.zero_le, implies_true, and_self]
            rw [eu]
            (repeat' (first | apply And.intro | intro _))
            all_goals (try first | omega | trivial | (rfl; done) | assumption | (exfalso; omega) | (exact V.wk t1 (by simp [lle])) | (split <;> first | omega | (rfl; done) | (exfalso; omega)))
          | succ n ih2 =>
            intro x dp x0 x1 d0 d1 he
            rw [fr_s] at he
            have hrx := hw.r (a := x) (by omega) (by omega)
            by_cases c2 : σ 7 i < σ 7 x
            · rw [if_pos c2] at he
              have hbx := hbd x x0 (by omega) (by omega)
              have ec := hc x x0 (by omega) (by omega)
              have t2 := ih2 (x + 1) (mx dp (h x)) (by omega) (by omega) (by unfold mx; split <;> omega) (by unfold mx; split <;> omega) he
              unfold mx at t2
              refine vX1_nest 60 ?_
              simp only [↓S_X1_nest_1, ↓S_X1_nest_2, ↓pI_c, ↓pL_c, ↓pR_c, ↓pC_I, ↓pC_R, ↓pE_n, ↓gI_0, ↓gI_s, ↓gL_0, ↓gL_s, ↓gR_0, ↓gR_s, ↓popN_0, ↓popN_s, ↓kl_I, ↓kl_L, ↓kl_R, ↓kl_n, ↓put1_0, ↓put1_s, ↓putk_0, ↓putk_s, ↓put2_0, ↓put2_s, ↓putl_0, ↓putl_s, ↓callK_0, ↓callK_1, ↓callK_2, cats_n, cats_c, catA_I, catA_L, catA_R, KL, LV, lval_f, ltag_f, llen_f, lcm_lt, lcm_le, lcm_gt, lcm_ge, lcm_eq, lcm_R1, lcm_R2, inR, inL, true_and, and_true, eq_self, List.head?_cons, Option.some.injEq, Sum.inr.injEq, Sum.inl.injEq, false_or, or_false, true_or, or_true, Nat.reduceAdd, Nat.reduceLeDiff, Int.reduceLE, Int.reduceLT, Int.reduceEq, Int.reduceNeg, Int.reduceAdd, Int.reduceSub, Int.reduceMul, Int.reduceNe, ne_eq, not_false_eq_true, not_true_eq_false, false_implies, forall_const, Nat.le_refl, Nat.zero_le, implies_true, and_self]
              unfold mx at ⊢
              rw [e7, e7, ec]
              (repeat' (first | apply And.intro | intro _))
              all_goals (try first | omega | trivial | (rfl; done) | assumption | (exfalso; omega) | (split <;> first | omega | (rfl; done) | (exfalso; omega)))
            · rw [if_neg c2] at he
              have t2 := ih2 (x + 1) dp (by omega) (by omega) d0 d1 he
              refine vX1_nest 60 ?_
              simp only [↓S_X1_nest_1, ↓S_X1_nest_2, ↓pI_c, ↓pL_c, ↓pR_c, ↓pC_I, ↓pC_R, ↓pE_n, ↓gI_0, ↓gI_s, ↓gL_0, ↓gL_s, ↓gR_0, ↓gR_s, ↓popN_0, ↓popN_s, ↓kl_I, ↓kl_L, ↓kl_R, ↓kl_n, ↓put1_0, ↓put1_s, ↓putk_0, ↓putk_s, ↓put2_0, ↓put2_s, ↓putl_0, ↓putl_s, ↓callK_0, ↓callK_1, ↓callK_2, cats_n, cats_c, catA_I, catA_L, catA_R, KL, LV, lval_f, ltag_f, llen_f, lcm_lt, lcm_le, lcm_gt, lcm_ge, lcm_eq, lcm_R1, lcm_R2, inR, inL, true_and, and_true, eq_self, List.head?_cons, Option.some.injEq, Sum.inr.injEq, Sum.inl.injEq, false_or, or_false, true_or, or_true, Nat.reduceAdd, Nat.reduceLeDiff, Int.reduceLE, Int.reduceLT, Int.reduceEq, Int.reduceNeg, Int.reduceAdd, Int.reduceSub, Int.reduceMul, Int.reduceNe, ne_eq, not_false_eq_true, not_true_eq_false, false_implies, forall_const, Nat.le_refl, Nat.zero_le, implies_true, and_self]
              rw [e7, e7]
              (repeat' (first | apply And.intro | intro _))
              all_goals (try first | omega | trivial | (rfl; done) | assumption | (exfalso; omega) | (split <;> first | omega | (rfl; done) | (exfalso; omega)))
        have t3 := inner i.toNat 0 0 (by omega) (by omega) (by omega) (by omega) hei
        refine vX1_nest 60 ?_
        simp only [↓S_X1_nest_1, ↓S_X1_nest_2, ↓pI_c, ↓pL_c, ↓pR_c, ↓pC_I, ↓pC_R, ↓pE_n, ↓gI_0, ↓gI_s, ↓gL_0, ↓gL_s, ↓gR_0, ↓gR_s, ↓popN_0, ↓popN_s, ↓kl_I, ↓kl_L, ↓kl_R, ↓kl_n, ↓put1_0, ↓put1_s, ↓putk_0, ↓putk_s, ↓put2_0, ↓put2_s, ↓putl_0, ↓putl_s, ↓callK_0, ↓callK_1, ↓callK_2, cats_n, cats_c, catA_I, catA_L, catA_R, KL, LV, lval_f, ltag_f, llen_f, lcm_lt, lcm_le, lcm_gt, lcm_ge, lcm_eq, lcm_R1, lcm_R2, inR, inL, true_and, and_true, eq_self, List.head?_cons, Option.some.injEq, Sum.inr.injEq, Sum.inl.injEq, false_or, or_false, true_or, or_true, Nat.reduceAdd, Nat.reduceLeDiff, Int.reduceLE, Int.reduceLT, Int.reduceEq, Int.reduceNeg, Int.reduceAdd, Int.reduceSub, Int.reduceMul, Int.reduceNe, ne_eq, not_false_eq_true, not_true_eq_false, false_implies, forall_const, Nat.le_refl, Nat.zero_le, implies_true, and_self]
        rw [e1]
        refine ⟨by omega, by omega, fun q => by omega, fun q => ⟨_, _, hbg, by omega, fun q => by omega, fun q => ?_⟩⟩
        exact t3
      · rw [if_neg c]
        rw [if_neg c] at hbg
        obtain ⟨τ, t1, t2⟩ := ih (i + 1) mo ρ (by omega) (by omega) m0 m1 hρ (fun b b0 b1 b2 => hc b b0 (by
          apply Classical.byContradiction
          intro q
          have : b = i := by omega
          subst this
          exact c b2) b2)
        refine ⟨τ, ?_, t2⟩
        refine vX1_nest 60 ?_
        simp only [↓S_X1_nest_1, ↓S_X1_nest_2, ↓pI_c, ↓pL_c, ↓pR_c, ↓pC_I, ↓pC_R, ↓pE_n, ↓gI_0, ↓gI_s, ↓gL_0, ↓gL_s, ↓gR_0, ↓gR_s, ↓popN_0, ↓popN_s, ↓kl_I, ↓kl_L, ↓kl_R, ↓kl_n, ↓put1_0, ↓put1_s, ↓putk_0, ↓putk_s, ↓put2_0, ↓put2_s, ↓putl_0, ↓putl_s, ↓callK_0, ↓callK_1, ↓callK_2, cats_n, cats_c, catA_I, catA_L, catA_R, KL, LV, lval_f, ltag_f, llen_f, lcm_lt, lcm_le, lcm_gt, lcm_ge, lcm_eq, lcm_R1, lcm_R2, inR, inL, true_and, and_true, eq_self, List.head?_cons, Option.some.injEq, Sum.inr.injEq, Sum.inl.injEq, false_or, or_false, true_or, or_true, Nat.reduceAdd, Nat.reduceLeDiff, Int.reduceLE, Int.reduceLT, Int.reduceEq, Int.reduceNeg, Int.reduceAdd, Int.reduceSub, Int.reduceMul, Int.reduceNe, ne_eq, not_false_eq_true, not_true_eq_false, false_implies, forall_const, Nat.le_refl, Nat.zero_le, implies_true, and_self]
        rw [e1]
        refine ⟨by omega, by omega, fun q => by omega, fun q => ⟨_, _, hbg, ?_⟩⟩
        (repeat' (first | apply And.intro | intro _))
        all_goals (try first | omega | trivial | (rfl; done) | assumption | (exfalso; omega) | (split <;> first | omega | (rfl; done) | (exfalso; omega)))
  obtain ⟨τ, t1, t2⟩ := loop (σ 1 0).toNat 0 0 σ (by omega) (by omega) (by omega) (by omega) (fun a b _ => rfl) (fun b b0 b1 => by omega)
  refine ⟨τ, hn, ?_, t2⟩
  refine Ret.of 1 [some (aR 1), none, none, none, none] rfl (by decide) rfl (Nat.le_of_ble_eq_true rfl) ?_
  refine vX1_nest 60 ?_
  simp only [↓S_X1_nest_1, ↓S_X1_nest_2, ↓pI_c, ↓pL_c, ↓pR_c, ↓pC_I, ↓pC_R, ↓pE_n, ↓gI_0, ↓gI_s, ↓gL_0, ↓gL_s, ↓gR_0, ↓gR_s, ↓popN_0, ↓popN_s, ↓kl_I, ↓kl_L, ↓kl_R, ↓kl_n, ↓put1_0, ↓put1_s, ↓putk_0, ↓putk_s, ↓put2_0, ↓put2_s, ↓putl_0, ↓putl_s, ↓callK_0, ↓callK_1, ↓callK_2, cats_n, cats_c, catA_I, catA_L, catA_R, KL, LV, lval_f, ltag_f, llen_f, lcm_lt, lcm_le, lcm_gt, lcm_ge, lcm_eq, lcm_R1, lcm_R2, inR, inL, true_and, and_true, eq_self, List.head?_cons, Option.some.injEq, Sum.inr.injEq, Sum.inl.injEq, false_or, or_false, true_or, or_true, Nat.reduceAdd, Nat.reduceLeDiff, Int.reduceLE, Int.reduceLT, Int.reduceEq, Int.reduceNeg, Int.reduceAdd, Int.reduceSub, Int.reduceMul, Int.reduceNe, ne_eq, not_false_eq_true, not_true_eq_false, false_implies, forall_const, Nat.le_refl, Nat.zero_le, implies_true, and_self]
  exact t1

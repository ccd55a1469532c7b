/-! Drawing: full drawings by number, ranks, handles -/
set_option maxRecDepth 100000 in
/-- the first free partner behind `rest` full blocks -/
theorem r_X1_linkInOrder (D : Nat) (σ : Sg) (a rest block : Int) (h2 : σ 1 0 ≤ 24) (h0 : 0 ≤ a) (h1 : a < σ 1 0) (hm : ∀ b, 0 ≤ b → b < 24 → -1 ≤ σ 7 b ∧ σ 7 b < 24) (hr : 0 ≤ rest) (hb : 0 < block) (hr2 : rest < 1000000000000) (hb2 : block < 1000000000000)
    (hx : ∃ b, a < b ∧ b < σ 1 0 ∧ σ 7 b = -1 ∧ rest.tdiv block = rs (fun c => if σ 7 c = -1 then 1 else 0) (a + 1) (b - (a + 1)).toNat) :
    ∃ b, a < b ∧ b < σ 1 0 ∧ σ 7 b = -1 ∧ rest.tdiv block = rs (fun c => if σ 7 c = -1 then 1 else 0) (a + 1) (b - (a + 1)).toNat ∧ Ret (D + 2) miX1_linkInOrder [aR 1, aI a, aL rest, aL block] σ (some (aL (rest.tmod block))) (up (up σ 7 a b) 7 b a) := by
  obtain ⟨b, g1, g2, g3, g4⟩ := hx
  refine ⟨b, g1, g2, g3, g4, ?_⟩
  rw [Int.tdiv_eq_ediv_of_nonneg hr] at g4
  rw [Int.tmod_eq_emod_of_nonneg hr]
  refine Ret.of 1 [some (aR 1), some (aI a), some (aL rest), none, some (aL block), none, none] rfl (by decide) rfl (Nat.le_of_ble_eq_true rfl) ?_
  have loop : ∀ (k : Nat) (i rt : Int), a < i → i + k = b → 0 ≤ rt → rt ≤ rest → rt / block = rs (fun c => if σ 7 c = -1 then 1 else 0) i k → rt % block = rest % block → V (D + 1) miX1_linkInOrder 1 (some (aL (rest % block))) (up (up σ 7 a b) 7 b a) 5 [some (aR 1), some (aI a), some (aL rt), none, some (aL block), none, some (aI i)] [] σ := by
    intro k
    induction k with
    | zero =>
      intro i rt hi hk hr0 hr1 hq hmd
      have e : i = b := by omega
      subst e
      have hri := hm i (by omega) (by omega)
      simp only [rs] at hq
      have hlt : rt < block := by
        have := Int.emod_add_mul_ediv rt block
        rw [hq, Int.mul_zero] at this
        have := Int.emod_lt_of_pos rt hb
        omega
      have e2 : rt % block = rt := Int.emod_eq_of_lt hr0 hlt
      rw [← hmd, e2]
      refine vX1_linkInOrder 60 ?_
      simp only [↓S_X1_linkInOrder, ↓pI_c, ↓pL_c, ↓pR_c, ↓pC_I, ↓pC_R, ↓pE_n, ↓gI_0, ↓gI_s, ↓gL_0, ↓gL_s, ↓gR_0, ↓gR_s, ↓popN_0, ↓popN_s, ↓kl_I, ↓kl_L, ↓kl_R, ↓kl_n, ↓put1_0, ↓put1_s, ↓putk_0, ↓putk_s, ↓put2_0, ↓put2_s, ↓putl_0, ↓putl_s, ↓callK_0, ↓callK_1, ↓callK_2, cats_n, cats_c, catA_I, catA_L, catA_R, KL, LV, lval_f, ltag_f, llen_f, lcm_lt, lcm_le, lcm_gt, lcm_ge, lcm_eq, lcm_R1, lcm_R2, inR, inL, true_and, and_true, eq_self, List.head?_cons, Option.some.injEq, Sum.inr.injEq, Sum.inl.injEq, false_or, or_false, true_or, or_true, Nat.reduceAdd, Nat.reduceLeDiff, Int.reduceLE, Int.reduceLT, Int.reduceEq, Int.reduceNeg, Int.reduceAdd, Int.reduceSub, Int.reduceMul, Int.reduceNe, ne_eq, not_false_eq_true, not_true_eq_false, false_implies, forall_const, Nat.le_refl, Nat.zero_le, implies_true, and_self]
      refine ⟨by omega, by omega, fun q => by omega, fun q => ⟨_, _, r_X1_isJoined D σ i (by omega) (by omega) (by omega), ?_⟩⟩
      rw [if_pos g3]
      refine ⟨by omega, fun q => by omega, fun q => ⟨by omega, fun q => by omega, fun q => ⟨_, r_X1_link D σ a i (by omega) (by omega) (by omega) (by omega), ?_⟩⟩⟩
      trivial
    | succ k ih =>
      intro i rt hi hk hr0 hr1 hq hmd
      have hri := hm i (by omega) (by omega)
      rw [rs_s] at hq
      refine vX1_linkInOrder 60 ?_
      simp only [↓S_X1_linkInOrder, ↓pI_c, ↓pL_c, ↓pR_c, ↓pC_I, ↓pC_R, ↓pE_n, ↓gI_0, ↓gI_s, ↓gL_0, ↓gL_s, ↓gR_0, ↓gR_s, ↓popN_0, ↓popN_s, ↓kl_I, ↓kl_L, ↓kl_R, ↓kl_n, ↓put1_0, ↓put1_s, ↓putk_0, ↓putk_s, ↓put2_0, ↓put2_s, ↓putl_0, ↓putl_s, ↓callK_0, ↓callK_1, ↓callK_2, cats_n, cats_c, catA_I, catA_L, catA_R, KL, LV, lval_f, ltag_f, llen_f, lcm_lt, lcm_le, lcm_gt, lcm_ge, lcm_eq, lcm_R1, lcm_R2, inR, inL, true_and, and_true, eq_self, List.head?_cons, Option.some.injEq, Sum.inr.injEq, Sum.inl.injEq, false_or, or_false, true_or, or_true, Nat.reduceAdd, Nat.reduceLeDiff, Int.reduceLE, Int.reduceLT, Int.reduceEq, Int.reduceNeg, Int.reduceAdd, Int.reduceSub, Int.reduceMul, Int.reduceNe, ne_eq, not_false_eq_true, not_true_eq_false, false_implies, forall_const, Nat.le_refl, Nat.zero_le, implies_true, and_self]
      refine ⟨by omega, by omega, fun q => by omega, fun q => ⟨_, _, r_X1_isJoined D σ i (by omega) (by omega) (by omega), ?_⟩⟩
      by_cases c1 : σ 7 i = -1
      · rw [if_pos c1]
        rw [if_pos c1] at hq
        have hs := rs_01 (f := fun c => if σ 7 c = -1 then 1 else 0) k (i + 1) (fun j _ _ => by split <;> omega)
        have hge : block ≤ rt := by
          have h1 : 1 ≤ rt / block := by omega
          have := (Int.le_ediv_iff_mul_le hb).mp h1
          omega
        have ih1 := ih (i + 1) (rt - block) (by omega) (by omega) (by omega) (by omega) (by
          rw [Int.sub_ediv_of_dvd _ (Int.dvd_refl block), Int.ediv_self (by omega)]
          omega) (by rw [Int.sub_emod_right]; exact hmd)
        (repeat' (first | apply And.intro | intro _))
        all_goals (try first | omega | trivial | (rfl; done) | assumption | (exfalso; omega) | (split <;> first | omega | (rfl; done) | (exfalso; omega)))
      · rw [if_neg c1]
        rw [if_neg c1, Int.zero_add] at hq
        have ih1 := ih (i + 1) rt (by omega) (by omega) hr0 hr1 hq hmd
        (repeat' (first | apply And.intro | intro _))
        all_goals (try first | omega | trivial | (rfl; done) | assumption | (exfalso; omega) | (split <;> first | omega | (rfl; done) | (exfalso; omega)))
  refine vX1_linkInOrder 60 ?_
  simp only [↓S_X1_linkInOrder, ↓pI_c, ↓pL_c, ↓pR_c, ↓pC_I, ↓pC_R, ↓pE_n, ↓gI_0, ↓gI_s, ↓gL_0, ↓gL_s, ↓gR_0, ↓gR_s, ↓popN_0, ↓popN_s, ↓kl_I, ↓kl_L, ↓kl_R, ↓kl_n, ↓put1_0, ↓put1_s, ↓putk_0, ↓putk_s, ↓put2_0, ↓put2_s, ↓putl_0, ↓putl_s, ↓callK_0, ↓callK_1, ↓callK_2, cats_n, cats_c, catA_I, catA_L, catA_R, KL, LV, lval_f, ltag_f, llen_f, lcm_lt, lcm_le, lcm_gt, lcm_ge, lcm_eq, lcm_R1, lcm_R2, inR, inL, true_and, and_true, eq_self, List.head?_cons, Option.some.injEq, Sum.inr.injEq, Sum.inl.injEq, false_or, or_false, true_or, or_true, Nat.reduceAdd, Nat.reduceLeDiff, Int.reduceLE, Int.reduceLT, Int.reduceEq, Int.reduceNeg, Int.reduceAdd, Int.reduceSub, Int.reduceMul, Int.reduceNe, ne_eq, not_false_eq_true, not_true_eq_false, false_implies, forall_const, Nat.le_refl, Nat.zero_le, implies_true, and_self]
  exact loop (b - (a + 1)).toNat (a + 1) rest (by omega) (by omega) hr (by omega) g4 rfl
/-- how many points ahead of a are joined -/
def nj (m : Int → Int) (a : Int) : Int := rs (fun c => if m c = -1 then 0 else 1) 0 a.toNat
theorem nj_s (m : Int → Int) {a : Int} (h : 0 ≤ a) : nj m (a + 1) = nj m a + (if m a = -1 then 0 else 1) := by
  unfold nj
  have e : (a + 1).toNat = a.toNat + 1 := by omega
  rw [e, rs_last]
  have e2 : 0 + (a.toNat : Int) = a := by omega
  rw [e2]
theorem nj_0 (m : Int → Int) : nj m 0 = 0 := rfl
theorem nj_r (m : Int → Int) {a : Int} (h : 0 ≤ a) : 0 ≤ nj m a ∧ nj m a ≤ a := by
  have := rs_01 (f := fun c => if m c = -1 then 0 else 1) a.toNat 0 (fun j _ _ => by split <;> omega)
  unfold nj
  omega
theorem nj_mono (m : Int → Int) : ∀ (k : Nat) (a : Int), 0 ≤ a → nj m a ≤ nj m (a + k)
  | 0, a, h => by simp
  | k + 1, a, h => by
    have h1 := nj_mono m k a h
    have e : a + ((k + 1 : Nat) : Int) = a + k + 1 := by omega
    have h2 := nj_s m (a := a + k) (by omega)
    rw [e, h2]
    split <;> omega
theorem nj_lt (m : Int → Int) {a b : Int} (h : 0 ≤ a) (hab : a < b) (hm : m a ≠ -1) : nj m a < nj m b := by
  have h1 := nj_s m h
  rw [if_neg hm] at h1
  have h2 := nj_mono m (b - (a + 1)).toNat (a + 1) (by omega)
  have e : a + 1 + ((b - (a + 1)).toNat : Int) = b := by omega
  rw [e] at h2
  omega
set_option maxRecDepth 100000 in
/-- rank and joinedPoint: rank a = nj a at each joined point, joinedPoint (nj a) = a -/
theorem r_X1_rankJoined (D : Nat) (σ : Sg) (hw : WD (σ 1 0) (σ 7)) : ∃ τ, Ret (D + 2) miX1_rankJoined [aR 1] σ (some (aI (nj (σ 7) (σ 1 0)))) τ ∧ (∀ a b, a ≠ 8 → a ≠ 9 → τ a b = σ a b) ∧ ∀ a, 0 ≤ a → a < σ 1 0 → σ 7 a ≠ -1 → τ 8 a = nj (σ 7) a ∧ τ 9 (nj (σ 7) a) = a := by
  have w1 := hw.1
  have w2 := hw.2.1
  have loop : ∀ (k : Nat) (i : Int) (ρ : Sg), 0 ≤ i → i + k = σ 1 0 → (∀ a b, a ≠ 8 → a ≠ 9 → ρ a b = σ a b) → (∀ a, 0 ≤ a → a < i → σ 7 a ≠ -1 → ρ 8 a = nj (σ 7) a ∧ ρ 9 (nj (σ 7) a) = a) →
      ∃ τ, V (D + 1) miX1_rankJoined 1 (some (aI (nj (σ 7) (σ 1 0)))) τ 4 [some (aR 1), some (aI (nj (σ 7) i)), some (aI i)] [] ρ ∧ (∀ a b, a ≠ 8 → a ≠ 9 → τ a b = σ a b) ∧ ∀ a, 0 ≤ a → a < σ 1 0 → σ 7 a ≠ -1 → τ 8 a = nj (σ 7) a ∧ τ 9 (nj (σ 7) a) = a := by
    intro k
    induction k with
    | zero =>
      intro i ρ h0 hi hρ hc
      refine ⟨ρ, ?_, hρ, fun a h1 h2 => hc a h1 (by omega)⟩
      have e : i = σ 1 0 := by omega
      subst e
      have e1 := hρ 1 0 (by decide) (by decide)
      refine vX1_rankJoined 60 ?_
      simp only [↓S_X1_rankJoined, ↓pI_c, ↓pL_c, ↓pR_c, ↓pC_I, ↓pC_R, ↓pE_n, ↓gI_0, ↓gI_s, ↓gL_0, ↓gL_s, ↓gR_0, ↓gR_s, ↓popN_0, ↓popN_s, ↓kl_I, ↓kl_L, ↓kl_R, ↓kl_n, ↓put1_0, ↓put1_s, ↓putk_0, ↓putk_s, ↓put2_0, ↓put2_s, ↓putl_0, ↓putl_s, ↓callK_0, ↓callK_1, ↓callK_2, cats_n, cats_c, catA_I, catA_L, catA_R, KL, LV, lval_f, ltag_f, llen_f, lcm_lt, lcm_le, lcm_gt, lcm_ge, lcm_eq, lcm_R1, lcm_R2, inR, inL, true_and, and_true, eq_self, List.head?_cons, Option.some.injEq, Sum.inr.injEq, Sum.inl.injEq, false_or, or_false, true_or, or_true, Nat.reduceAdd, Nat.reduceLeDiff, Int.reduceLE, Int.reduceLT, Int.reduceEq, Int.reduceNeg, Int.reduceAdd, Int.reduceSub, Int.reduceMul, Int.reduceNe, ne_eq, not_false_eq_true, not_true_eq_false, false_implies, forall_const, Nat.le_refl, Nat.zero_le, implies_true, and_self]
      rw [e1]
      (repeat' (first | apply And.intro | intro _))
      all_goals (try first | omega | trivial | (rfl; done) | assumption | (exfalso; omega) | (split <;> first | omega | (rfl; done) | (exfalso; omega)))
    | succ k ih =>
      intro i ρ h0 hi hρ hc
      have hr := hw.r h0 (by omega)
      have e1 := hρ 1 0 (by decide) (by decide)
      have e7 := hρ 7 i (by decide) (by decide)
      have hn := nj_r (σ 7) h0
      have hs := nj_s (σ 7) h0
      by_cases c1 : σ 7 i = -1
      · rw [if_pos c1, Int.add_zero] at hs
        obtain ⟨τ, g1, g2, g3⟩ := ih (i + 1) ρ (by omega) (by omega) hρ (fun a h1 h2 h3 => hc a h1 (by
          apply Classical.byContradiction
          intro q
          have : a = i := by omega
          subst this
          exact h3 c1) h3)
        refine ⟨τ, ?_, g2, g3⟩
        refine vX1_rankJoined 60 ?_
        simp only [↓S_X1_rankJoined, ↓pI_c, ↓pL_c, ↓pR_c, ↓pC_I, ↓pC_R, ↓pE_n, ↓gI_0, ↓gI_s, ↓gL_0, ↓gL_s, ↓gR_0, ↓gR_s, ↓popN_0, ↓popN_s, ↓kl_I, ↓kl_L, ↓kl_R, ↓kl_n, ↓put1_0, ↓put1_s, ↓putk_0, ↓putk_s, ↓put2_0, ↓put2_s, ↓putl_0, ↓putl_s, ↓callK_0, ↓callK_1, ↓callK_2, cats_n, cats_c, catA_I, catA_L, catA_R, KL, LV, lval_f, ltag_f, llen_f, lcm_lt, lcm_le, lcm_gt, lcm_ge, lcm_eq, lcm_R1, lcm_R2, inR, inL, true_and, and_true, eq_self, List.head?_cons, Option.some.injEq, Sum.inr.injEq, Sum.inl.injEq, false_or, or_false, true_or, or_true, Nat.reduceAdd, Nat.reduceLeDiff, Int.reduceLE, Int.reduceLT, Int.reduceEq, Int.reduceNeg, Int.reduceAdd, Int.reduceSub, Int.reduceMul, Int.reduceNe, ne_eq, not_false_eq_true, not_true_eq_false, false_implies, forall_const, Nat.le_refl, Nat.zero_le, implies_true, and_self]
        rw [e1]
        refine ⟨by omega, by omega, fun q => by omega, fun q => ⟨_, _, r_X1_isJoined D ρ i h0 (by omega) (by omega), ?_⟩⟩
        rw [e7, if_pos c1]
        rw [hs] at g1
        (repeat' (first | apply And.intro | intro _))
        all_goals (try first | omega | trivial | (rfl; done) | assumption | (exfalso; omega) | (split <;> first | omega | (rfl; done) | (exfalso; omega)))
      · rw [if_neg c1] at hs
        obtain ⟨τ, g1, g2, g3⟩ := ih (i + 1) (up (up ρ 8 i (nj (σ 7) i)) 9 (nj (σ 7) i) i) (by omega) (by omega) (fun a b h1 h2 => by unfold up; rw [if_neg (fun z => h2 z.1), if_neg (fun z => h1 z.1)]; exact hρ a b h1 h2) (fun a h1 h2 h3 => by
          unfold up
          by_cases q : a = i
          · subst q
            rw [if_neg (by omega), if_pos ⟨rfl, rfl⟩, if_pos ⟨rfl, rfl⟩]
            exact ⟨rfl, rfl⟩
          · have hlt := nj_lt (σ 7) h1 (show a < i by omega) h3
            rw [if_neg (by omega), if_neg (by omega), if_neg (by omega), if_neg (by omega)]
            exact hc a h1 (by omega) h3)
        refine ⟨τ, ?_, g2, g3⟩
        refine vX1_rankJoined 60 ?_
        simp only [↓S_X1_rankJoined, ↓pI_c, ↓pL_c, ↓pR_c, ↓pC_I, ↓pC_R, ↓pE_n, ↓gI_0, ↓gI_s, ↓gL_0, ↓gL_s, ↓gR_0, ↓gR_s, ↓popN_0, ↓popN_s, ↓kl_I, ↓kl_L, ↓kl_R, ↓kl_n, ↓put1_0, ↓put1_s, ↓putk_0, ↓putk_s, ↓put2_0, ↓put2_s, ↓putl_0, ↓putl_s, ↓callK_0, ↓callK_1, ↓callK_2, cats_n, cats_c, catA_I, catA_L, catA_R, KL, LV, lval_f, ltag_f, llen_f, lcm_lt, lcm_le, lcm_gt, lcm_ge, lcm_eq, lcm_R1, lcm_R2, inR, inL, true_and, and_true, eq_self, List.head?_cons, Option.some.injEq, Sum.inr.injEq, Sum.inl.injEq, false_or, or_false, true_or, or_true, Nat.reduceAdd, Nat.reduceLeDiff, Int.reduceLE, Int.reduceLT, Int.reduceEq, Int.reduceNeg, Int.reduceAdd, Int.reduceSub, Int.reduceMul, Int.reduceNe, ne_eq, not_false_eq_true, not_true_eq_false, false_implies, forall_const, Nat.le_refl, Nat.zero_le, implies_true, and_self]
        rw [e1]
        refine ⟨by omega, by omega, fun q => by omega, fun q => ⟨_, _, r_X1_isJoined D ρ i h0 (by omega) (by omega), ?_⟩⟩
        rw [e7, if_neg c1]
        rw [hs] at g1
        (repeat' (first | apply And.intro | intro _))
        all_goals (try first | omega | trivial | (rfl; done) | assumption | (exfalso; omega) | (split <;> first | omega | (rfl; done) | (exfalso; omega)))
  obtain ⟨τ, g1, g2, g3⟩ := loop (σ 1 0).toNat 0 σ (by omega) (by omega) (fun a b _ _ => rfl) (fun a h1 h2 => by omega)
  refine ⟨τ, ?_, g2, g3⟩
  refine Ret.of 1 [some (aR 1), none, none] rfl (by decide) rfl (Nat.le_of_ble_eq_true rfl) ?_
  refine vX1_rankJoined 60 ?_
  simp only [↓S_X1_rankJoined, ↓pI_c, ↓pL_c, ↓pR_c, ↓pC_I, ↓pC_R, ↓pE_n, ↓gI_0, ↓gI_s, ↓gL_0, ↓gL_s, ↓gR_0, ↓gR_s, ↓popN_0, ↓popN_s, ↓kl_I, ↓kl_L, ↓kl_R, ↓kl_n, ↓put1_0, ↓put1_s, ↓putk_0, ↓putk_s, ↓put2_0, ↓put2_s, ↓putl_0, ↓putl_s, ↓callK_0, ↓callK_1, ↓callK_2, cats_n, cats_c, catA_I, catA_L, catA_R, KL, LV, lval_f, ltag_f, llen_f, lcm_lt, lcm_le, lcm_gt, lcm_ge, lcm_eq, lcm_R1, lcm_R2, inR, inL, true_and, and_true, eq_self, List.head?_cons, Option.some.injEq, Sum.inr.injEq, Sum.inl.injEq, false_or, or_false, true_or, or_true, Nat.reduceAdd, Nat.reduceLeDiff, Int.reduceLE, Int.reduceLT, Int.reduceEq, Int.reduceNeg, Int.reduceAdd, Int.reduceSub, Int.reduceMul, Int.reduceNe, ne_eq, not_false_eq_true, not_true_eq_false, false_implies, forall_const, Nat.le_refl, Nat.zero_le, implies_true, and_self]
  exact g1

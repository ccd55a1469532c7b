/-! rounds of a walk; Drawing's handles -/
def wk (F : Int → Int) : Nat → (Int → Int) → Int → (Int → Int)
  | 0, s, _ => s
  | k + 1, s, i => if s i = 0 then wk F k (fun j => if j = i then 1 else s j) (F i) else s
theorem wk_s (F : Int → Int) (k : Nat) (s : Int → Int) (i : Int) : wk F (k + 1) s i = if s i = 0 then wk F k (fun j => if j = i then 1 else s j) (F i) else s := rfl
def hnd (F : Int → Int) (J : Nat) : Nat → Int → (Int → Int) → Int → Int
  | 0, _, _, r => r
  | k + 1, i, s, r => if s i = 0 then hnd F J k (i + 1) (wk F J s i) (r + 1) else hnd F J k (i + 1) s r
theorem wk_congr {F G : Int → Int} {J : Int} (hF : ∀ i, 0 ≤ i → i < J → F i = G i ∧ 0 ≤ F i ∧ F i < J) : ∀ (k : Nat) (s t : Int → Int) (i : Int), 0 ≤ i → i < J → (∀ j, 0 ≤ j → j < J → s j = t j) → ∀ j, 0 ≤ j → j < J → wk F k s i j = wk G k t i j
  | 0, s, t, i, _, _, h, j, j0, j1 => h j j0 j1
  | k + 1, s, t, i, i0, i1, h, j, j0, j1 => by
    unfold wk
    rw [h i i0 i1]
    split
    · rw [(hF i i0 i1).1]
      have := hF i i0 i1
      exact wk_congr hF k _ _ (G i) (by omega) (by omega) (fun x x0 x1 => by rw [h x x0 x1]) j j0 j1
    · exact h j j0 j1
theorem hnd_congr {F G : Int → Int} {J : Nat} (hF : ∀ i, 0 ≤ i → i < (J : Int) → F i = G i ∧ 0 ≤ F i ∧ F i < J) : ∀ (k : Nat) (i : Int) (s t : Int → Int) (r : Int), 0 ≤ i → i + k ≤ J → (∀ j, 0 ≤ j → j < (J : Int) → s j = t j) → hnd F J k i s r = hnd G J k i t r
  | 0, i, s, t, r, _, _, _ => rfl
  | k + 1, i, s, t, r, i0, i1, h => by
    unfold hnd
    rw [h i i0 (by omega)]
    split
    · exact hnd_congr hF k (i + 1) _ _ _ (by omega) (by omega) (fun j j0 j1 => wk_congr hF J s t i i0 (by omega) h j j0 j1)
    · exact hnd_congr hF k (i + 1) _ _ _ (by omega) (by omega) h
theorem wk_01 {F : Int → Int} : ∀ (k : Nat) (s : Int → Int) (i j : Int), (s j = 0 ∨ s j = 1) → (wk F k s i j = 0 ∨ wk F k s i j = 1)
  | 0, s, i, j, h => h
  | k + 1, s, i, j, h => by
    unfold wk
    split
    · exact wk_01 k _ _ j (by split; exact Or.inr rfl; exact h)
    · exact h
theorem nj_surj (m : Int → Int) : ∀ (k : Nat) (i : Int), 0 ≤ i → i < nj m k → ∃ p : Int, 0 ≤ p ∧ p < k ∧ m p ≠ -1 ∧ nj m p = i
  | 0, i, h0, h => by
    have e : nj m ((0 : Nat) : Int) = 0 := rfl
    omega
  | k + 1, i, h0, h => by
    have hs := nj_s m (a := (k : Int)) (by omega)
    have e : ((k + 1 : Nat) : Int) = (k : Int) + 1 := by omega
    rw [e, hs] at h
    by_cases q : i < nj m k
    · obtain ⟨p, h1, h2, h3, h4⟩ := nj_surj m k i h0 q
      exact ⟨p, h1, by omega, h3, h4⟩
    · by_cases c : m k = -1
      · rw [if_pos c] at h
        omega
      · rw [if_neg c] at h
        exact ⟨k, by omega, by omega, c, by omega⟩
/-- a step from a joined point by rank: to its partner, then to the next joined point -/
def stepF (L : Int) (m F : Int → Int) : Prop := ∀ p, 0 ≤ p → p < L → m p ≠ -1 → F (nj m p) = if nj m (m p) + 1 < nj m L then nj m (m p) + 1 else 0
theorem stepF.in {L : Int} {m F : Int → Int} (hL : 0 ≤ L) (h : stepF L m F) (hw : WD L m) : ∀ i, 0 ≤ i → i < nj m L → 0 ≤ F i ∧ F i < nj m L := by
  intro i h0 h1
  have e : ((L.toNat : Nat) : Int) = L := by omega
  obtain ⟨p, p0, p1, p2, p3⟩ := nj_surj m L.toNat i h0 (by rw [e]; exact h1)
  have := h p p0 (by omega) p2
  rw [p3] at this
  rw [this]
  have hr := hw.2.2.1 p p0 (by omega)
  have := nj_r m (a := m p) (by omega)
  split <;> omega
theorem stepF.one {L : Int} {m F G : Int → Int} (hL : 0 ≤ L) (h : stepF L m F) (h2 : stepF L m G) : ∀ i, 0 ≤ i → i < nj m L → F i = G i := by
  intro i h0 h1
  have e : ((L.toNat : Nat) : Int) = L := by omega
  obtain ⟨p, p0, p1, p2, p3⟩ := nj_surj m L.toNat i h0 (by rw [e]; exact h1)
  have a := h p p0 (by omega) p2
  have b := h2 p p0 (by omega) p2
  rw [p3] at a b
  rw [a, b]
set_option maxRecDepth 100000 in
theorem r_X1_walkRound (D : Nat) (σ : Sg) (F : Int → Int) (i0 J : Int) (hJ : J ≤ 24) (h0 : 0 ≤ i0) (h1 : i0 < J) (hF : ∀ i, 0 ≤ i → i < J → 0 ≤ F i ∧ F i < J) (hq : ∀ i, 0 ≤ i → i < J → 0 ≤ σ 9 i ∧ σ 9 i < 24 ∧ 0 ≤ σ 7 (σ 9 i) ∧ σ 7 (σ 9 i) < 24 ∧ 0 ≤ σ 8 (σ 7 (σ 9 i)) ∧ σ 8 (σ 7 (σ 9 i)) < 24 ∧ F i = if σ 8 (σ 7 (σ 9 i)) + 1 < J then σ 8 (σ 7 (σ 9 i)) + 1 else 0)
    (hs : ∀ i, 0 ≤ i → i < J → σ 10 i = 0 ∨ σ 10 i = 1) : ∃ τ, Ret (D + 1) miX1_walkRound [aR 1, aI i0, aI J] σ none τ ∧ (∀ a b, a ≠ 10 → τ a b = σ a b) ∧ τ 10 = wk F J.toNat (σ 10) i0 := by
  have loop : ∀ (k : Nat) (i st : Int) (ρ : Sg), 0 ≤ i → i < J → 0 ≤ st → st + k = J → (∀ a b, a ≠ 10 → ρ a b = σ a b) → (∀ i, 0 ≤ i → i < J → ρ 10 i = 0 ∨ ρ 10 i = 1) →
      ∃ τ, V D miX1_walkRound 1 none τ 5 [some (aR 1), some (aI i0), some (aI J), some (aI i), some (aI st), none] [] ρ ∧ (∀ a b, a ≠ 10 → τ a b = σ a b) ∧ τ 10 = wk F k (ρ 10) i := by
    intro k
    induction k with
    | zero =>
      intro i st ρ i0 i1 s0 s1 hρ hs
      refine ⟨ρ, ?_, hρ, rfl⟩
      refine vX1_walkRound 60 ?_
      simp only [↓S_X1_walkRound, ↓pI_c, ↓pL_c, ↓pR_c, ↓pC_I, ↓pC_R, ↓pE_n, ↓gI_0, ↓gI_s, ↓gL_0, ↓gL_s, ↓gR_0, ↓gR_s, ↓popN_0, ↓popN_s, ↓kl_I, ↓kl_L, ↓kl_R, ↓kl_n, ↓put1_0, ↓put1_s, ↓putk_0, ↓putk_s, ↓put2_0, ↓put2_s, ↓putl_0, ↓putl_s, ↓callK_0, ↓callK_1, ↓callK_2, cats_n, cats_c, catA_I, catA_L, catA_R, KL, LV, lval_f, ltag_f, llen_f, lcm_lt, lcm_le, lcm_gt, lcm_ge, lcm_eq, lcm_R1, lcm_R2, inR, inL, true_and, and_true, eq_self, List.head?_cons, Option.some.injEq, Sum.inr.injEq, Sum.inl.injEq, false_or, or_false, true_or, or_true, Nat.reduceAdd, Nat.reduceLeDiff, Int.reduceLE, Int.reduceLT, Int.reduceEq, Int.reduceNeg, Int.reduceAdd, Int.reduceSub, Int.reduceMul, Int.reduceNe, ne_eq, not_false_eq_true, not_true_eq_false, false_implies, forall_const, Nat.le_refl, Nat.zero_le, implies_true, and_self]
      (repeat' (first | apply And.intro | intro _))
      all_goals (try first | omega | trivial | (rfl; done) | assumption | (exfalso; omega) | (split <;> first | omega | (rfl; done) | (exfalso; omega)))
    | succ k ih =>
      intro i st ρ i0 i1 s0 s1 hρ hs
      have hsi := hs i i0 i1
      have hqi := hq i i0 i1
      have hFi := hF i i0 i1
      by_cases c : ρ 10 i = 0
      · have e10 : (up ρ 10 i 1) 10 = fun j => if j = i then 1 else ρ 10 j := by
          funext j
          unfold up
          by_cases q : j = i
          · rw [if_pos ⟨rfl, q⟩, if_pos q]
          · rw [if_neg (fun z => q z.2), if_neg q]
        obtain ⟨τ, g1, g2, g3⟩ := ih (F i) (st + 1) (up ρ 10 i 1) hFi.1 hFi.2 (by omega) (by omega) (fun a b h => by unfold up; rw [if_neg (fun z => h z.1)]; exact hρ a b h) (fun j j0 j1 => by
          rw [e10]
          show (if j = i then 1 else ρ 10 j) = 0 ∨ (if j = i then 1 else ρ 10 j) = 1
          split
          · exact Or.inr rfl
          · exact hs j j0 j1)
        refine ⟨τ, ?_, g2, by rw [g3, e10, wk_s, if_pos c]⟩
        have e9 : (up ρ 10 i 1) 9 i = σ 9 i := by unfold up; rw [if_neg (by omega)]; exact hρ 9 i (by decide)
        have e7 : ∀ x, (up ρ 10 i 1) 7 x = σ 7 x := fun x => by unfold up; rw [if_neg (by omega)]; exact hρ 7 x (by decide)
        have e8 : ∀ x, (up ρ 10 i 1) 8 x = σ 8 x := fun x => by unfold up; rw [if_neg (by omega)]; exact hρ 8 x (by decide)
        refine vX1_walkRound 60 ?_
        simp only [↓S_X1_walkRound, ↓pI_c, ↓pL_c, ↓pR_c, ↓pC_I, ↓pC_R, ↓pE_n, ↓gI_0, ↓gI_s, ↓gL_0, ↓gL_s, ↓gR_0, ↓gR_s, ↓popN_0, ↓popN_s, ↓kl_I, ↓kl_L, ↓kl_R, ↓kl_n, ↓put1_0, ↓put1_s, ↓putk_0, ↓putk_s, ↓put2_0, ↓put2_s, ↓putl_0, ↓putl_s, ↓callK_0, ↓callK_1, ↓callK_2, cats_n, cats_c, catA_I, catA_L, catA_R, KL, LV, lval_f, ltag_f, llen_f, lcm_lt, lcm_le, lcm_gt, lcm_ge, lcm_eq, lcm_R1, lcm_R2, inR, inL, true_and, and_true, eq_self, List.head?_cons, Option.some.injEq, Sum.inr.injEq, Sum.inl.injEq, false_or, or_false, true_or, or_true, Nat.reduceAdd, Nat.reduceLeDiff, Int.reduceLE, Int.reduceLT, Int.reduceEq, Int.reduceNeg, Int.reduceAdd, Int.reduceSub, Int.reduceMul, Int.reduceNe, ne_eq, not_false_eq_true, not_true_eq_false, false_implies, forall_const, Nat.le_refl, Nat.zero_le, implies_true, and_self]
        rw [e9, e7, e8]
        rw [hqi.2.2.2.2.2.2] at g1
        by_cases c2 : σ 8 (σ 7 (σ 9 i)) + 1 < J
        · rw [if_pos c2] at g1
          (repeat' (first | apply And.intro | intro _))
          all_goals (try first | omega | trivial | (rfl; done) | assumption | (exfalso; omega) | (exact V.wk g1 (by simp [lle])) | (split <;> first | omega | (rfl; done) | (exfalso; omega)))
        · rw [if_neg c2] at g1
          (repeat' (first | apply And.intro | intro _))
          all_goals (try first | omega | trivial | (rfl; done) | assumption | (exfalso; omega) | (exact V.wk g1 (by simp [lle])) | (split <;> first | omega | (rfl; done) | (exfalso; omega)))
      · refine ⟨ρ, ?_, hρ, by rw [wk_s, if_neg c]⟩
        refine vX1_walkRound 60 ?_
        simp only [↓S_X1_walkRound, ↓pI_c, ↓pL_c, ↓pR_c, ↓pC_I, ↓pC_R, ↓pE_n, ↓gI_0, ↓gI_s, ↓gL_0, ↓gL_s, ↓gR_0, ↓gR_s, ↓popN_0, ↓popN_s, ↓kl_I, ↓kl_L, ↓kl_R, ↓kl_n, ↓put1_0, ↓put1_s, ↓putk_0, ↓putk_s, ↓put2_0, ↓put2_s, ↓putl_0, ↓putl_s, ↓callK_0, ↓callK_1, ↓callK_2, cats_n, cats_c, catA_I, catA_L, catA_R, KL, LV, lval_f, ltag_f, llen_f, lcm_lt, lcm_le, lcm_gt, lcm_ge, lcm_eq, lcm_R1, lcm_R2, inR, inL, true_and, and_true, eq_self, List.head?_cons, Option.some.injEq, Sum.inr.injEq, Sum.inl.injEq, false_or, or_false, true_or, or_true, Nat.reduceAdd, Nat.reduceLeDiff, Int.reduceLE, Int.reduceLT, Int.reduceEq, Int.reduceNeg, Int.reduceAdd, Int.reduceSub, Int.reduceMul, Int.reduceNe, ne_eq, not_false_eq_true, not_true_eq_false, false_implies, forall_const, Nat.le_refl, Nat.zero_le, implies_true, and_self]
        (repeat' (first | apply And.intro | intro _))
        all_goals (try first | omega | trivial | (rfl; done) | assumption | (exfalso; omega) | (split <;> first | omega | (rfl; done) | (exfalso; omega)))
  obtain ⟨τ, g1, g2, g3⟩ := loop J.toNat i0 0 σ h0 h1 (by omega) (by omega) (fun a b _ => rfl) hs
  refine ⟨τ, ?_, g2, g3⟩
  refine Ret.of 1 [some (aR 1), some (aI i0), some (aI J), none, none, none] rfl (by decide) rfl (Nat.le_of_ble_eq_true rfl) ?_
  refine vX1_walkRound 60 ?_
  simp only [↓S_X1_walkRound, ↓pI_c, ↓pL_c, ↓pR_c, ↓pC_I, ↓pC_R, ↓pE_n, ↓gI_0, ↓gI_s, ↓gL_0, ↓gL_s, ↓gR_0, ↓gR_s, ↓popN_0, ↓popN_s, ↓kl_I, ↓kl_L, ↓kl_R, ↓kl_n, ↓put1_0, ↓put1_s, ↓putk_0, ↓putk_s, ↓put2_0, ↓put2_s, ↓putl_0, ↓putl_s, ↓callK_0, ↓callK_1, ↓callK_2, cats_n, cats_c, catA_I, catA_L, catA_R, KL, LV, lval_f, ltag_f, llen_f, lcm_lt, lcm_le, lcm_gt, lcm_ge, lcm_eq, lcm_R1, lcm_R2, inR, inL, true_and, and_true, eq_self, List.head?_cons, Option.some.injEq, Sum.inr.injEq, Sum.inl.injEq, false_or, or_false, true_or, or_true, Nat.reduceAdd, Nat.reduceLeDiff, Int.reduceLE, Int.reduceLT, Int.reduceEq, Int.reduceNeg, Int.reduceAdd, Int.reduceSub, Int.reduceMul, Int.reduceNe, ne_eq, not_false_eq_true, not_true_eq_false, false_implies, forall_const, Nat.le_refl, Nat.zero_le, implies_true, and_self]
  exact g1
set_option maxRecDepth 100000 in
theorem r_X1_handles (D : Nat) (σ : Sg) (hw : WD (σ 1 0) (σ 7)) : ∃ F τ, stepF (σ 1 0) (σ 7) F ∧ Ret (D + 3) miX1_handles [aR 1] σ (some (aI ((1 + (nj (σ 7) (σ 1 0)) / 2 - hnd F (nj (σ 7) (σ 1 0)).toNat (nj (σ 7) (σ 1 0)).toNat 0 (fun _ => 0) (if nj (σ 7) (σ 1 0) = 0 then 1 else 0)).tdiv 2))) τ ∧ (∀ a b, a ≠ 8 → a ≠ 9 → a ≠ 10 → τ a b = σ a b) := by
  have w1 := hw.1
  have w2 := hw.2.1
  obtain ⟨ρ, r1, r2, r3⟩ := r_X1_rankJoined D σ hw
  have hn := nj_r (σ 7) w1
  generalize hJ : nj (σ 7) (σ 1 0) = J at r1 hn
  have hq0 : ∀ i, 0 ≤ i → i < J → 0 ≤ ρ 9 i ∧ ρ 9 i < 24 ∧ 0 ≤ σ 7 (ρ 9 i) ∧ σ 7 (ρ 9 i) < 24 ∧ 0 ≤ ρ 8 (σ 7 (ρ 9 i)) ∧ ρ 8 (σ 7 (ρ 9 i)) < 24 := by
    intro i h0 h1
    have e : (((σ 1 0).toNat : Nat) : Int) = σ 1 0 := by omega
    obtain ⟨p, p0, p1, p2, p3⟩ := nj_surj (σ 7) (σ 1 0).toNat i h0 (by rw [e, hJ]; exact h1)
    have q1 := r3 p p0 (by omega) p2
    rw [p3] at q1
    rw [q1.2]
    rcases hw.2.2.1 p p0 (by omega) with e2 | e2
    · exact absurd e2 p2
    · have q2 := r3 (σ 7 p) e2.1 e2.2.1 (by omega)
      have q3 := nj_r (σ 7) e2.1
      rw [q2.1]
      omega
  refine ⟨fun i => if ρ 8 (σ 7 (ρ 9 i)) + 1 < J then ρ 8 (σ 7 (ρ 9 i)) + 1 else 0, ?_⟩
  have hst : stepF (σ 1 0) (σ 7) (fun i => if ρ 8 (σ 7 (ρ 9 i)) + 1 < J then ρ 8 (σ 7 (ρ 9 i)) + 1 else 0) := by
    intro p p0 p1 p2
    have q1 := r3 p p0 p1 p2
    rcases hw.2.2.1 p p0 p1 with e2 | e2
    · exact absurd e2 p2
    · have q2 := r3 (σ 7 p) e2.1 e2.2.1 (by omega)
      show (if ρ 8 (σ 7 (ρ 9 (nj (σ 7) p))) + 1 < J then ρ 8 (σ 7 (ρ 9 (nj (σ 7) p))) + 1 else 0) = _
      rw [q1.2, q2.1, hJ]
  generalize hF : (fun i => if ρ 8 (σ 7 (ρ 9 i)) + 1 < J then ρ 8 (σ 7 (ρ 9 i)) + 1 else 0) = F at hst
  have hFi := hst.in w1 hw
  rw [hJ] at hFi
  -- the second loop
  have loop2 : ∀ (k : Nat) (i r : Int) (s0 : Int → Int) (χ : Sg), 0 ≤ i → i + k = J → 0 ≤ r → r ≤ i + 1 → (∀ a b, a ≠ 10 → χ a b = ρ a b) → (∀ j, 0 ≤ j → j < J → χ 10 j = 0 ∨ χ 10 j = 1) → (∀ j, 0 ≤ j → j < J → χ 10 j = s0 j) →
      ∃ τ, V (D + 2) miX1_handles 1 (some (aI ((1 + J / 2 - hnd F J.toNat k i s0 r).tdiv 2))) τ 37 [some (aR 1), some (aI J), some (aI r), some (aI i)] [] χ ∧ (∀ a b, a ≠ 8 → a ≠ 9 → a ≠ 10 → τ a b = σ a b) := by
    intro k
    induction k with
    | zero =>
      intro i r s0 χ i0 i1 a1 a2 hχ hs he
      refine ⟨χ, ?_, fun a b h1 h2 h3 => by rw [hχ a b h3, r2 a b h1 h2]⟩
      unfold hnd
      refine vX1_handles 60 ?_
      simp only [↓S_X1_handles_1, ↓S_X1_handles_2, ↓pI_c, ↓pL_c, ↓pR_c, ↓pC_I, ↓pC_R, ↓pE_n, ↓gI_0, ↓gI_s, ↓gL_0, ↓gL_s, ↓gR_0, ↓gR_s, ↓popN_0, ↓popN_s, ↓kl_I, ↓kl_L, ↓kl_R, ↓kl_n, ↓put1_0, ↓put1_s, ↓putk_0, ↓putk_s, ↓put2_0, ↓put2_s, ↓putl_0, ↓putl_s, ↓callK_0, ↓callK_1, ↓callK_2, cats_n, cats_c, catA_I, catA_L, catA_R, KL, LV, lval_f, ltag_f, llen_f, lcm_lt, lcm_le, lcm_gt, lcm_ge, lcm_eq, lcm_R1, lcm_R2, inR, inL, true_and, and_true, eq_self, List.head?_cons, Option.some.injEq, Sum.inr.injEq, Sum.inl.injEq, false_or, or_false, true_or, or_true, Nat.reduceAdd, Nat.reduceLeDiff, Int.reduceLE, Int.reduceLT, Int.reduceEq, Int.reduceNeg, Int.reduceAdd, Int.reduceSub, Int.reduceMul, Int.reduceNe, ne_eq, not_false_eq_true, not_true_eq_false, false_implies, forall_const, Nat.le_refl, Nat.zero_le, implies_true, and_self]
      rw [Int.tdiv_eq_ediv_of_nonneg (show 0 ≤ J by omega)]
      (repeat' (first | apply And.intro | intro _))
      all_goals (try first | omega | trivial | (rfl; done) | assumption | (exfalso; omega) | (split <;> first | omega | (rfl; done) | (exfalso; omega)))
    | succ k ih =>
      intro i r s0 χ i0 i1 a1 a2 hχ hs he
      have hsi := hs i i0 (by omega)
      unfold hnd
      rw [← he i i0 (by omega)]
      by_cases c : χ 10 i = 0
      · rw [if_pos c]
        have hχ7 : ∀ x, χ 7 x = σ 7 x := fun x => by rw [hχ 7 x (by decide), r2 7 x (by decide) (by decide)]
        obtain ⟨χ2, g1, g2, g3⟩ := r_X1_walkRound (D + 1) χ F i J (by omega) i0 (by omega) hFi (fun j j0 j1 => by
          have := hq0 j j0 j1
          rw [hχ7, hχ 9 j (by decide), hχ 8 _ (by decide)]
          exact ⟨this.1, this.2.1, this.2.2.1, this.2.2.2.1, this.2.2.2.2.1, this.2.2.2.2.2, by rw [← hF]⟩) hs
        obtain ⟨τ, t1, t2⟩ := ih (i + 1) (r + 1) (wk F J.toNat s0 i) χ2 (by omega) (by omega) (by omega) (by omega) (fun a b h => by rw [g2 a b h, hχ a b h]) (fun j j0 j1 => by rw [g3]; exact wk_01 _ _ _ _ (hs j j0 j1)) (fun j j0 j1 => by rw [g3]; exact wk_congr (J := J) (fun x x0 x1 => ⟨rfl, hFi x x0 x1⟩) _ _ _ i i0 (by omega) he j j0 j1)
        refine ⟨τ, ?_, t2⟩
        refine vX1_handles 60 ?_
        simp only [↓S_X1_handles_1, ↓S_X1_handles_2, ↓pI_c, ↓pL_c, ↓pR_c, ↓pC_I, ↓pC_R, ↓pE_n, ↓gI_0, ↓gI_s, ↓gL_0, ↓gL_s, ↓gR_0, ↓gR_s, ↓popN_0, ↓popN_s, ↓kl_I, ↓kl_L, ↓kl_R, ↓kl_n, ↓put1_0, ↓put1_s, ↓putk_0, ↓putk_s, ↓put2_0, ↓put2_s, ↓putl_0, ↓putl_s, ↓callK_0, ↓callK_1, ↓callK_2, cats_n, cats_c, catA_I, catA_L, catA_R, KL, LV, lval_f, ltag_f, llen_f, lcm_lt, lcm_le, lcm_gt, lcm_ge, lcm_eq, lcm_R1, lcm_R2, inR, inL, true_and, and_true, eq_self, List.head?_cons, Option.some.injEq, Sum.inr.injEq, Sum.inl.injEq, false_or, or_false, true_or, or_true, Nat.reduceAdd, Nat.reduceLeDiff, Int.reduceLE, Int.reduceLT, Int.reduceEq, Int.reduceNeg, Int.reduceAdd, Int.reduceSub, Int.reduceMul, Int.reduceNe, ne_eq, not_false_eq_true, not_true_eq_false, false_implies, forall_const, Nat.le_refl, Nat.zero_le, implies_true, and_self]
        refine ⟨by omega, by omega, fun q => by omega, fun q => ⟨i0, by omega, by omega, fun q => by omega, fun q => ⟨_, g1, ?_⟩⟩⟩
        exact t1
      · rw [if_neg c]
        obtain ⟨τ, t1, t2⟩ := ih (i + 1) r s0 χ (by omega) (by omega) (by omega) (by omega) hχ hs he
        refine ⟨τ, ?_, t2⟩
        refine vX1_handles 60 ?_
        simp only [↓S_X1_handles_1, ↓S_X1_handles_2, ↓pI_c, ↓pL_c, ↓pR_c, ↓pC_I, ↓pC_R, ↓pE_n, ↓gI_0, ↓gI_s, ↓gL_0, ↓gL_s, ↓gR_0, ↓gR_s, ↓popN_0, ↓popN_s, ↓kl_I, ↓kl_L, ↓kl_R, ↓kl_n, ↓put1_0, ↓put1_s, ↓putk_0, ↓putk_s, ↓put2_0, ↓put2_s, ↓putl_0, ↓putl_s, ↓callK_0, ↓callK_1, ↓callK_2, cats_n, cats_c, catA_I, catA_L, catA_R, KL, LV, lval_f, ltag_f, llen_f, lcm_lt, lcm_le, lcm_gt, lcm_ge, lcm_eq, lcm_R1, lcm_R2, inR, inL, true_and, and_true, eq_self, List.head?_cons, Option.some.injEq, Sum.inr.injEq, Sum.inl.injEq, false_or, or_false, true_or, or_true, Nat.reduceAdd, Nat.reduceLeDiff, Int.reduceLE, Int.reduceLT, Int.reduceEq, Int.reduceNeg, Int.reduceAdd, Int.reduceSub, Int.reduceMul, Int.reduceNe, ne_eq, not_false_eq_true, not_true_eq_false, false_implies, forall_const, Nat.le_refl, Nat.zero_le, implies_true, and_self]
        (repeat' (first | apply And.intro | intro _))
        all_goals (try first | omega | trivial | (rfl; done) | assumption | (exfalso; omega) | (split <;> first | omega | (rfl; done) | (exfalso; omega)))
  -- the first loop
  have loop1 : ∀ (k : Nat) (i : Int) (χ : Sg), 0 ≤ i → i + k = J → (∀ a b, a ≠ 10 → χ a b = ρ a b) → (∀ j, 0 ≤ j → j < i → χ 10 j = 0) →
      ∃ τ, V (D + 2) miX1_handles 1 (some (aI ((1 + J / 2 - hnd F J.toNat J.toNat 0 (fun _ => 0) (if J = 0 then 1 else 0)).tdiv 2))) τ 7 [some (aR 1), some (aI J), some (aI i), none] [] χ ∧ (∀ a b, a ≠ 8 → a ≠ 9 → a ≠ 10 → τ a b = σ a b) := by
    intro k
    induction k with
    | zero =>
      intro i χ i0 i1 hχ hz
      have hz : ∀ j, 0 ≤ j → j < J → χ 10 j = 0 := fun j j0 j1 => hz j j0 (by omega)
      obtain ⟨τ, t1, t2⟩ := loop2 J.toNat 0 (if J = 0 then 1 else 0) (fun _ => 0) χ (by omega) (by omega) (by split <;> omega) (by split <;> omega) hχ (fun j j0 j1 => Or.inl (hz j j0 j1)) hz
      refine ⟨τ, ?_, t2⟩
      refine vX1_handles 60 ?_
      simp only [↓S_X1_handles_1, ↓S_X1_handles_2, ↓pI_c, ↓pL_c, ↓pR_c, ↓pC_I, ↓pC_R, ↓pE_n, ↓gI_0, ↓gI_s, ↓gL_0, ↓gL_s, ↓gR_0, ↓gR_s, ↓popN_0, ↓popN_s, ↓kl_I, ↓kl_L, ↓kl_R, ↓kl_n, ↓put1_0, ↓put1_s, ↓putk_0, ↓putk_s, ↓put2_0, ↓put2_s, ↓putl_0, ↓putl_s, ↓callK_0, ↓callK_1, ↓callK_2, cats_n, cats_c, catA_I, catA_L, catA_R, KL, LV, lval_f, ltag_f, llen_f, lcm_lt, lcm_le, lcm_gt, lcm_ge, lcm_eq, lcm_R1, lcm_R2, inR, inL, true_and, and_true, eq_self, List.head?_cons, Option.some.injEq, Sum.inr.injEq, Sum.inl.injEq, false_or, or_false, true_or, or_true, Nat.reduceAdd, Nat.reduceLeDiff, Int.reduceLE, Int.reduceLT, Int.reduceEq, Int.reduceNeg, Int.reduceAdd, Int.reduceSub, Int.reduceMul, Int.reduceNe, ne_eq, not_false_eq_true, not_true_eq_false, false_implies, forall_const, Nat.le_refl, Nat.zero_le, implies_true, and_self]
      by_cases c : J = 0
      · rw [if_pos c] at t1
        rw [if_pos c]
        (repeat' (first | apply And.intro | intro _))
        all_goals (try first | omega | trivial | (rfl; done) | assumption | (exfalso; omega) | (split <;> first | omega | (rfl; done) | (exfalso; omega)))
      · rw [if_neg c] at t1
        rw [if_neg c]
        (repeat' (first | apply And.intro | intro _))
        all_goals (try first | omega | trivial | (rfl; done) | assumption | (exfalso; omega) | (split <;> first | omega | (rfl; done) | (exfalso; omega)))
    | succ k ih =>
      intro i χ i0 i1 hχ hz
      obtain ⟨τ, t1, t2⟩ := ih (i + 1) (up χ 10 i 0) (by omega) (by omega) (fun a b h => by unfold up; rw [if_neg (fun z => h z.1)]; exact hχ a b h) (fun j j0 j1 => by
        unfold up
        by_cases q : j = i
        · rw [if_pos ⟨rfl, q⟩]
        · rw [if_neg (fun z => q z.2)]
          exact hz j j0 (by omega))
      refine ⟨τ, ?_, t2⟩
      refine vX1_handles 60 ?_
      simp only [↓S_X1_handles_1, ↓S_X1_handles_2, ↓pI_c, ↓pL_c, ↓pR_c, ↓pC_I, ↓pC_R, ↓pE_n, ↓gI_0, ↓gI_s, ↓gL_0, ↓gL_s, ↓gR_0, ↓gR_s, ↓popN_0, ↓popN_s, ↓kl_I, ↓kl_L, ↓kl_R, ↓kl_n, ↓put1_0, ↓put1_s, ↓putk_0, ↓putk_s, ↓put2_0, ↓put2_s, ↓putl_0, ↓putl_s, ↓callK_0, ↓callK_1, ↓callK_2, cats_n, cats_c, catA_I, catA_L, catA_R, KL, LV, lval_f, ltag_f, llen_f, lcm_lt, lcm_le, lcm_gt, lcm_ge, lcm_eq, lcm_R1, lcm_R2, inR, inL, true_and, and_true, eq_self, List.head?_cons, Option.some.injEq, Sum.inr.injEq, Sum.inl.injEq, false_or, or_false, true_or, or_true, Nat.reduceAdd, Nat.reduceLeDiff, Int.reduceLE, Int.reduceLT, Int.reduceEq, Int.reduceNeg, Int.reduceAdd, Int.reduceSub, Int.reduceMul, Int.reduceNe, ne_eq, not_false_eq_true, not_true_eq_false, false_implies, forall_const, Nat.le_refl, Nat.zero_le, implies_true, and_self]
      (repeat' (first | apply And.intro | intro _))
      all_goals (try first | omega | trivial | (rfl; done) | assumption | (exfalso; omega) | (split <;> first | omega | (rfl; done) | (exfalso; omega)))
  obtain ⟨τ, t1, t2⟩ := loop1 J.toNat 0 ρ (by omega) (by omega) (fun a b _ => rfl) (fun j j0 j1 => by omega)
  refine ⟨τ, hst, ?_, t2⟩

  refine Ret.of 1 [some (aR 1), none, none, none] rfl (by decide) rfl (Nat.le_of_ble_eq_true rfl) ?_
  refine vX1_handles 60 ?_
  simp only [↓S_X1_handles_1, ↓S_X1_handles_2, ↓pI_c, ↓pL_c, ↓pR_c, ↓pC_I, ↓pC_R, ↓pE_n, ↓gI_0, ↓gI_s, ↓gL_0, ↓gL_s, ↓gR_0, ↓gR_s, ↓popN_0, ↓popN_s, ↓kl_I, ↓kl_L, ↓kl_R, ↓kl_n, ↓put1_0, ↓put1_s, ↓putk_0, ↓putk_s, ↓put2_0, ↓put2_s, ↓putl_0, ↓putl_s, ↓callK_0, ↓callK_1, ↓callK_2, cats_n, cats_c, catA_I, catA_L, catA_R, KL, LV, lval_f, ltag_f, llen_f, lcm_lt, lcm_le, lcm_gt, lcm_ge, lcm_eq, lcm_R1, lcm_R2, inR, inL, true_and, and_true, eq_self, List.head?_cons, Option.some.injEq, Sum.inr.injEq, Sum.inl.injEq, false_or, or_false, true_or, or_true, Nat.reduceAdd, Nat.reduceLeDiff, Int.reduceLE, Int.reduceLT, Int.reduceEq, Int.reduceNeg, Int.reduceAdd, Int.reduceSub, Int.reduceMul, Int.reduceNe, ne_eq, not_false_eq_true, not_true_eq_false, false_implies, forall_const, Nat.le_refl, Nat.zero_le, implies_true, and_self]
  exact ⟨_, _, r1, t1⟩

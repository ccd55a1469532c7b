/-! Drawing: reduce -/
theorem rs_up2 {f g : Int → Int} {a b L : Int} (h0 : 0 ≤ a) (hab : a < b) (hb : b < L) (h : ∀ c, 0 ≤ c → c < L → c ≠ a → c ≠ b → g c = f c) : rs g 0 L.toNat = rs f 0 L.toNat - f a - f b + g a + g b := by
  have key : ∀ x : Int → Int, rs x 0 L.toNat = rs x 0 a.toNat + (x a + (rs x (a + 1) (b - (a + 1)).toNat + (x b + rs x (b + 1) (L - (b + 1)).toNat))) := by
    intro x
    have e : L.toNat = a.toNat + (((b - (a + 1)).toNat + ((L - (b + 1)).toNat + 1)) + 1) := by omega
    rw [e, rs_split, rs_s, rs_split, rs_s]
    have e1 : 0 + (a.toNat : Int) = a := by omega
    rw [e1]
    have e2 : a + 1 + ((b - (a + 1)).toNat : Int) = b := by omega
    rw [e2]
  rw [key f, key g]
  have f1 : rs g 0 a.toNat = rs f 0 a.toNat := rs_congr _ _ (fun j h1 h2 => h j h1 (by omega) (by omega) (by omega))
  have f2 : rs g (a + 1) (b - (a + 1)).toNat = rs f (a + 1) (b - (a + 1)).toNat := rs_congr _ _ (fun j h1 h2 => h j (by omega) (by omega) (by omega) (by omega))
  have f3 : rs g (b + 1) (L - (b + 1)).toNat = rs f (b + 1) (L - (b + 1)).toNat := rs_congr _ _ (fun j h1 h2 => h j (by omega) (by omega) (by omega) (by omega))
  omega
theorem nj_un2 {m : Int → Int} {a b L : Int} (h0 : 0 ≤ a) (hab : a < b) (hb : b < L) (ha : m a ≠ -1) (hmb : m b ≠ -1) : nj (un2 m a b) L = nj m L - 2 := by
  unfold nj
  rw [rs_up2 (f := fun c => if m c = -1 then 0 else 1) (g := fun c => if un2 m a b c = -1 then 0 else 1) h0 hab hb (fun c _ _ h1 h2 => by unfold un2; rw [if_neg h2, if_neg h1])]
  unfold un2
  rw [if_neg ha, if_neg hmb, if_pos rfl]
  simp
  omega
theorem up_un2 (σ : Sg) (id a b : Int) : (up (up σ id a (-1)) id b (-1)) id = un2 (σ id) a b := by
  funext c
  unfold up un2
  by_cases q : c = b
  · rw [if_pos ⟨rfl, q⟩, if_pos q]
  · rw [if_neg (fun z => q z.2), if_neg q]
    by_cases q2 : c = a
    · rw [if_pos ⟨rfl, q2⟩, if_pos q2]
    · rw [if_neg (fun z => q2 z.2), if_neg q2]
theorem nj_le (m : Int → Int) {a b : Int} (h : 0 ≤ a) (hab : a ≤ b) : nj m a ≤ nj m b := by
  have h2 := nj_mono m (b - a).toNat a h
  have e : a + ((b - a).toNat : Int) = b := by omega
  rw [e] at h2
  exact h2
theorem nj_all {m : Int → Int} {L : Int} (hL : 0 ≤ L) (h : ∀ i, 0 ≤ i → i < L → m i ≠ -1) : nj m L = L := by
  have : ∀ k : Nat, (k : Int) ≤ L → nj m k = k := by
    intro k
    induction k with
    | zero => intro _; rfl
    | succ k ih =>
      intro hk
      have e : ((k + 1 : Nat) : Int) = (k : Int) + 1 := by omega
      rw [e, nj_s m (by omega), ih (by omega), if_neg (h k (by omega) (by omega))]
  have h2 := this L.toNat (by omega)
  have e : ((L.toNat : Nat) : Int) = L := by omega
  rw [e] at h2
  exact h2
set_option maxRecDepth 100000 in
theorem r_X1_dropUnjoined (D : Nat) (σ : Sg) (hw : WD (σ 1 0) (σ 7)) : ∃ τ, Ret (D + 3) miX1_dropUnjoined [aR 1] σ (some (aI (if nj (σ 7) (σ 1 0) < σ 1 0 then 1 else 0))) τ ∧ (∀ a b, a ≠ 7 → a ≠ 8 → a ≠ 9 → ¬ (a = 1 ∧ b = 0) → τ a b = σ a b) ∧ τ 1 0 = nj (σ 7) (σ 1 0) ∧ WD (τ 1 0) (τ 7) ∧ (∀ i, 0 ≤ i → i < τ 1 0 → τ 7 i ≠ -1) ∧ (∀ L0 m0, SR L0 m0 (σ 1 0) (σ 7) → SR L0 m0 (τ 1 0) (τ 7)) := by
  have w1 := hw.1
  have w2 := hw.2.1
  obtain ⟨ρ, r1, r2, r3⟩ := r_X1_rankJoined D σ hw
  have hn := nj_r (σ 7) w1
  have eL : (((σ 1 0).toNat : Nat) : Int) = σ 1 0 := by omega
  generalize hJ : nj (σ 7) (σ 1 0) = J at r1 hn
  have sj : ∀ i, 0 ≤ i → i < J → ∃ p, 0 ≤ p ∧ p < σ 1 0 ∧ σ 7 p ≠ -1 ∧ nj (σ 7) p = i ∧ ρ 9 i = p ∧ i ≤ p ∧ 0 ≤ σ 7 p ∧ σ 7 p < σ 1 0 ∧ σ 7 p ≠ p ∧ σ 7 (σ 7 p) = p ∧ ρ 8 (σ 7 p) = nj (σ 7) (σ 7 p) := by
    intro i h0 h1
    obtain ⟨p, p0, p1, p2, p3⟩ := nj_surj (σ 7) (σ 1 0).toNat i h0 (by rw [eL, hJ]; exact h1)
    have q1 := r3 p p0 (by omega) p2
    rcases hw.2.2.1 p p0 (by omega) with e | e
    · exact absurd e p2
    · have q2 := r3 (σ 7 p) e.1 e.2.1 (by rw [e.2.2.2]; omega)
      have := nj_r (σ 7) p0
      exact ⟨p, p0, by omega, p2, p3, by rw [← p3]; exact q1.2, by omega, e.1, e.2.1, e.2.2.1, e.2.2.2, q2.1⟩
  -- the end
  have fin : ∀ τ : Sg, τ 1 0 = J → (∀ p, 0 ≤ p → p < σ 1 0 → σ 7 p ≠ -1 → τ 7 (nj (σ 7) p) = nj (σ 7) (σ 7 p)) → (∀ a, J ≤ a → a < 24 → τ 7 a = -1) → WD (τ 1 0) (τ 7) ∧ (∀ i, 0 ≤ i → i < τ 1 0 → τ 7 i ≠ -1) ∧ (∀ L0 m0, SR L0 m0 (σ 1 0) (σ 7) → SR L0 m0 (τ 1 0) (τ 7)) := by
    intro τ e1 e2 e3
    rw [e1]
    have inj : ∀ p q, 0 ≤ p → 0 ≤ q → σ 7 p ≠ -1 → nj (σ 7) p < nj (σ 7) q → p < q := fun p q p0 q0 hp hlt => by
      rcases Int.lt_trichotomy p q with z | z | z
      · exact z
      · subst z; omega
      · have := nj_le (σ 7) q0 (show q ≤ p by omega); omega
    have hwd : WD J (τ 7) := by
      refine ⟨by omega, by omega, fun i i0 i1 => ?_, fun a a0 a1 => e3 a a0 a1⟩
      obtain ⟨p, p0, p1, p2, p3, -, -, p4, p5, p6, p7, -⟩ := sj i i0 i1
      right
      have h1 := e2 p p0 p1 p2
      rw [p3] at h1
      have n2 : σ 7 (σ 7 p) ≠ -1 := by rw [p7]; omega
      have h2 := e2 (σ 7 p) p4 p5 n2
      rw [p7, p3] at h2
      have h3 := nj_r (σ 7) p4
      have h4 := nj_lt (σ 7) p4 p5 n2
      rw [h1]
      refine ⟨h3.1, by omega, fun z => ?_, h2⟩
      rcases Int.lt_trichotomy p (σ 7 p) with q | q | q
      · have := nj_lt (σ 7) p0 q p2; omega
      · omega
      · have := nj_lt (σ 7) p4 q n2; omega
    have hall : ∀ i, 0 ≤ i → i < J → τ 7 i ≠ -1 := fun i i0 i1 => by
      obtain ⟨p, p0, p1, p2, p3, -, -, p4, -⟩ := sj i i0 i1
      have h1 := e2 p p0 p1 p2
      rw [p3] at h1
      have := nj_r (σ 7) p4
      omega
    refine ⟨hwd, hall, fun L0 m0 hsr => ?_⟩
    refine SR.drop hw hwd hsr (ρ 9) (fun i j i0 ij j1 => ?_) (fun i i0 i1 => ?_) (fun p p0 p1 p2 => ?_) (fun i i0 i1 => ?_)
    · obtain ⟨p, p0, p1, p2, p3, p4, -⟩ := sj i i0 (by omega)
      obtain ⟨q, q0, q1, q2, q3, q4, -⟩ := sj j (by omega) j1
      rw [p4, q4]
      exact inj p q p0 q0 p2 (by omega)
    · obtain ⟨p, p0, p1, p2, p3, p4, -⟩ := sj i i0 i1
      rw [p4]
      exact ⟨p0, p1⟩
    · have h1 := nj_r (σ 7) p0
      have h2 := nj_lt (σ 7) p0 p1 p2
      exact ⟨nj (σ 7) p, h1.1, by omega, (r3 p p0 p1 p2).2⟩
    · obtain ⟨p, p0, p1, p2, p3, p4, -, p5, p6, p7, p8, -⟩ := sj i i0 i1
      have n2 : σ 7 (σ 7 p) ≠ -1 := by rw [p8]; omega
      refine ⟨fun z => absurd z (hall i i0 i1), fun _ => ?_⟩
      rw [p4]
      have h1 := e2 p p0 p1 p2
      rw [p3] at h1
      rw [h1]
      exact ((r3 (σ 7 p) p5 p6 n2).2).symm
  have loop2 : ∀ (k : Nat) (i : Int) (χ : Sg), J ≤ i → i + k = σ 1 0 → (∀ a b, a ≠ 7 → a ≠ 8 → a ≠ 9 → χ a b = σ a b) → (∀ p, 0 ≤ p → p < σ 1 0 → σ 7 p ≠ -1 → χ 7 (nj (σ 7) p) = nj (σ 7) (σ 7 p)) → (∀ a, J ≤ a → a < i → χ 7 a = -1) → (∀ a, i ≤ a → a < 24 → χ 7 a = σ 7 a) →
      ∃ τ, V (D + 2) miX1_dropUnjoined 1 (some (aI (if J < σ 1 0 then 1 else 0))) τ 56 [some (aR 1), some (aI J), some (aI (if J < σ 1 0 then 1 else 0)), some (aI i)] [] χ ∧ (∀ a b, a ≠ 7 → a ≠ 8 → a ≠ 9 → ¬ (a = 1 ∧ b = 0) → τ a b = σ a b) ∧ τ 1 0 = J ∧ WD (τ 1 0) (τ 7) ∧ (∀ i, 0 ≤ i → i < τ 1 0 → τ 7 i ≠ -1) ∧ (∀ L0 m0, SR L0 m0 (σ 1 0) (σ 7) → SR L0 m0 (τ 1 0) (τ 7)) := by
    intro k
    induction k with
    | zero =>
      intro i χ i0 i1 hχ h1 h2 h3
      have e1 := hχ 1 0 (by decide) (by decide) (by decide)
      have u1 : (up χ 1 0 J) 1 0 = J := by unfold up; rw [if_pos ⟨rfl, rfl⟩]
      have u7 : ∀ x, (up χ 1 0 J) 7 x = χ 7 x := fun x => by unfold up; rw [if_neg (by omega)]
      obtain ⟨f1, f2, f3⟩ := fin (up χ 1 0 J) u1 (fun p p0 p1 p2 => by rw [u7]; exact h1 p p0 p1 p2) (fun a a0 a1 => by
        rw [u7]
        by_cases q : a < i
        · exact h2 a a0 q
        · rw [h3 a (by omega) a1]
          exact hw.2.2.2 a (by omega) a1)
      refine ⟨up χ 1 0 J, ?_, fun a b a1 a2 a3 a4 => by unfold up; rw [if_neg a4]; exact hχ a b a1 a2 a3, u1, f1, f2, f3⟩
      refine vX1_dropUnjoined 60 ?_
      simp only [↓S_X1_dropUnjoined_1, ↓S_X1_dropUnjoined_2, ↓pI_c, ↓pL_c, ↓pR_c, ↓pC_I, ↓pC_R, ↓pE_n, ↓gI_0, ↓gI_s, ↓gL_0, ↓gL_s, ↓gR_0, ↓gR_s, ↓popN_0, ↓popN_s, ↓kl_I, ↓kl_L, ↓kl_R, ↓kl_n, ↓put1_0, ↓put1_s, ↓putk_0, ↓putk_s, ↓put2_0, ↓put2_s, ↓putl_0, ↓putl_s, ↓callK_0, ↓callK_1, ↓callK_2, cats_n, cats_c, catA_I, catA_L, catA_R, KL, LV, lval_f, ltag_f, llen_f, lcm_lt, lcm_le, lcm_gt, lcm_ge, lcm_eq, lcm_R1, lcm_R2, inR, inL, true_and, and_true, eq_self, List.head?_cons, Option.some.injEq, Sum.inr.injEq, Sum.inl.injEq, false_or, or_false, true_or, or_true, Nat.reduceAdd, Nat.reduceLeDiff, Int.reduceLE, Int.reduceLT, Int.reduceEq, Int.reduceNeg, Int.reduceAdd, Int.reduceSub, Int.reduceMul, Int.reduceNe, ne_eq, not_false_eq_true, not_true_eq_false, false_implies, forall_const, Nat.le_refl, Nat.zero_le, implies_true, and_self]
      rw [e1]
      (repeat' (first | apply And.intro | intro _))
      all_goals (try first | omega | trivial | (rfl; done) | assumption | (exfalso; omega) | (split <;> first | omega | (rfl; done) | (exfalso; omega)))
    | succ k ih =>
      intro i χ i0 i1 hχ h1 h2 h3
      have e1 := hχ 1 0 (by decide) (by decide) (by decide)
      obtain ⟨τ, t1, t2⟩ := ih (i + 1) (up χ 7 i (-1)) (by omega) (by omega) (fun a b a1 a2 a3 => by unfold up; rw [if_neg (fun z => a1 z.1)]; exact hχ a b a1 a2 a3) (fun p p0 p1 p2 => by
        have := nj_lt (σ 7) p0 p1 p2
        unfold up
        rw [if_neg (by omega)]
        exact h1 p p0 p1 p2) (fun a a0 a1 => by
        unfold up
        by_cases q : a = i
        · rw [if_pos ⟨rfl, q⟩]
        · rw [if_neg (fun z => q z.2)]
          exact h2 a a0 (by omega)) (fun a a0 a1 => by
        unfold up
        rw [if_neg (by omega)]
        exact h3 a (by omega) a1)
      refine ⟨τ, ?_, t2⟩
      refine vX1_dropUnjoined 60 ?_
      simp only [↓S_X1_dropUnjoined_1, ↓S_X1_dropUnjoined_2, ↓pI_c, ↓pL_c, ↓pR_c, ↓pC_I, ↓pC_R, ↓pE_n, ↓gI_0, ↓gI_s, ↓gL_0, ↓gL_s, ↓gR_0, ↓gR_s, ↓popN_0, ↓popN_s, ↓kl_I, ↓kl_L, ↓kl_R, ↓kl_n, ↓put1_0, ↓put1_s, ↓putk_0, ↓putk_s, ↓put2_0, ↓put2_s, ↓putl_0, ↓putl_s, ↓callK_0, ↓callK_1, ↓callK_2, cats_n, cats_c, catA_I, catA_L, catA_R, KL, LV, lval_f, ltag_f, llen_f, lcm_lt, lcm_le, lcm_gt, lcm_ge, lcm_eq, lcm_R1, lcm_R2, inR, inL, true_and, and_true, eq_self, List.head?_cons, Option.some.injEq, Sum.inr.injEq, Sum.inl.injEq, false_or, or_false, true_or, or_true, Nat.reduceAdd, Nat.reduceLeDiff, Int.reduceLE, Int.reduceLT, Int.reduceEq, Int.reduceNeg, Int.reduceAdd, Int.reduceSub, Int.reduceMul, Int.reduceNe, ne_eq, not_false_eq_true, not_true_eq_false, false_implies, forall_const, Nat.le_refl, Nat.zero_le, implies_true, and_self]
      rw [e1]
      (repeat' (first | apply And.intro | intro _))
      all_goals (try first | omega | trivial | (rfl; done) | assumption | (exfalso; omega) | (split <;> first | omega | (rfl; done) | (exfalso; omega)))
  have loop1 : ∀ (k : Nat) (i : Int) (χ : Sg), 0 ≤ i → i + k = J → (∀ a b, a ≠ 7 → χ a b = ρ a b) → (∀ p, 0 ≤ p → p < σ 1 0 → σ 7 p ≠ -1 → nj (σ 7) p < i → χ 7 (nj (σ 7) p) = nj (σ 7) (σ 7 p)) → (∀ a, i ≤ a → χ 7 a = σ 7 a) →
      ∃ τ, V (D + 2) miX1_dropUnjoined 1 (some (aI (if J < σ 1 0 then 1 else 0))) τ 21 [some (aR 1), some (aI J), some (aI (if J < σ 1 0 then 1 else 0)), some (aI i)] [] χ ∧ (∀ a b, a ≠ 7 → a ≠ 8 → a ≠ 9 → ¬ (a = 1 ∧ b = 0) → τ a b = σ a b) ∧ τ 1 0 = J ∧ WD (τ 1 0) (τ 7) ∧ (∀ i, 0 ≤ i → i < τ 1 0 → τ 7 i ≠ -1) ∧ (∀ L0 m0, SR L0 m0 (σ 1 0) (σ 7) → SR L0 m0 (τ 1 0) (τ 7)) := by
    intro k
    induction k with
    | zero =>
      intro i χ i0 i1 hχ h1 h2
      obtain ⟨τ, t1, t2⟩ := loop2 (σ 1 0 - J).toNat J χ (by omega) (by omega) (fun a b a1 a2 a3 => by rw [hχ a b a1]; exact r2 a b a2 a3) (fun p p0 p1 p2 => h1 p p0 p1 p2 (by have := nj_lt (σ 7) p0 p1 p2; omega)) (fun a a0 a1 => by omega) (fun a a0 a1 => h2 a (by omega))
      refine ⟨τ, ?_, t2⟩
      refine vX1_dropUnjoined 60 ?_
      simp only [↓S_X1_dropUnjoined_1, ↓S_X1_dropUnjoined_2, ↓pI_c, ↓pL_c, ↓pR_c, ↓pC_I, ↓pC_R, ↓pE_n, ↓gI_0, ↓gI_s, ↓gL_0, ↓gL_s, ↓gR_0, ↓gR_s, ↓popN_0, ↓popN_s, ↓kl_I, ↓kl_L, ↓kl_R, ↓kl_n, ↓put1_0, ↓put1_s, ↓putk_0, ↓putk_s, ↓put2_0, ↓put2_s, ↓putl_0, ↓putl_s, ↓callK_0, ↓callK_1, ↓callK_2, cats_n, cats_c, catA_I, catA_L, catA_R, KL, LV, lval_f, ltag_f, llen_f, lcm_lt, lcm_le, lcm_gt, lcm_ge, lcm_eq, lcm_R1, lcm_R2, inR, inL, true_and, and_true, eq_self, List.head?_cons, Option.some.injEq, Sum.inr.injEq, Sum.inl.injEq, false_or, or_false, true_or, or_true, Nat.reduceAdd, Nat.reduceLeDiff, Int.reduceLE, Int.reduceLT, Int.reduceEq, Int.reduceNeg, Int.reduceAdd, Int.reduceSub, Int.reduceMul, Int.reduceNe, ne_eq, not_false_eq_true, not_true_eq_false, false_implies, forall_const, Nat.le_refl, Nat.zero_le, implies_true, and_self]
      (repeat' (first | apply And.intro | intro _))
      all_goals (try first | omega | trivial | (rfl; done) | assumption | (exfalso; omega) | (split <;> first | omega | (rfl; done) | (exfalso; omega)))
    | succ k ih =>
      intro i χ i0 i1 hχ h1 h2
      obtain ⟨p, p0, p1, p2, p3, p4, p5, p6, p7, p8, p9, p10⟩ := sj i i0 (by omega)
      have hv := nj_r (σ 7) p6
      have c9 : χ 9 i = p := by rw [hχ 9 i (by decide)]; exact p4
      have c7 : χ 7 p = σ 7 p := h2 p p5
      have c8 : χ 8 (σ 7 p) = nj (σ 7) (σ 7 p) := by rw [hχ 8 _ (by decide)]; exact p10
      obtain ⟨τ, t1, t2⟩ := ih (i + 1) (up χ 7 i (nj (σ 7) (σ 7 p))) (by omega) (by omega) (fun a b a1 => by unfold up; rw [if_neg (fun z => a1 z.1)]; exact hχ a b a1) (fun x x0 x1 x2 x3 => by
        unfold up
        by_cases q : nj (σ 7) x = i
        · rw [if_pos ⟨rfl, q⟩]
          have : x = p := by
            rcases Int.lt_trichotomy x p with z | z | z
            · have := nj_lt (σ 7) x0 z x2; omega
            · exact z
            · have := nj_lt (σ 7) p0 z p2; omega
          rw [this]
        · rw [if_neg (fun z => q z.2)]
          exact h1 x x0 x1 x2 (by omega)) (fun a a0 => by
        unfold up
        rw [if_neg (by omega)]
        exact h2 a (by omega))
      refine ⟨τ, ?_, t2⟩
      refine vX1_dropUnjoined 60 ?_
      simp only [↓S_X1_dropUnjoined_1, ↓S_X1_dropUnjoined_2, ↓pI_c, ↓pL_c, ↓pR_c, ↓pC_I, ↓pC_R, ↓pE_n, ↓gI_0, ↓gI_s, ↓gL_0, ↓gL_s, ↓gR_0, ↓gR_s, ↓popN_0, ↓popN_s, ↓kl_I, ↓kl_L, ↓kl_R, ↓kl_n, ↓put1_0, ↓put1_s, ↓putk_0, ↓putk_s, ↓put2_0, ↓put2_s, ↓putl_0, ↓putl_s, ↓callK_0, ↓callK_1, ↓callK_2, cats_n, cats_c, catA_I, catA_L, catA_R, KL, LV, lval_f, ltag_f, llen_f, lcm_lt, lcm_le, lcm_gt, lcm_ge, lcm_eq, lcm_R1, lcm_R2, inR, inL, true_and, and_true, eq_self, List.head?_cons, Option.some.injEq, Sum.inr.injEq, Sum.inl.injEq, false_or, or_false, true_or, or_true, Nat.reduceAdd, Nat.reduceLeDiff, Int.reduceLE, Int.reduceLT, Int.reduceEq, Int.reduceNeg, Int.reduceAdd, Int.reduceSub, Int.reduceMul, Int.reduceNe, ne_eq, not_false_eq_true, not_true_eq_false, false_implies, forall_const, Nat.le_refl, Nat.zero_le, implies_true, and_self]
      rw [c9, c7, c8]
      (repeat' (first | apply And.intro | intro _))
      all_goals (try first | omega | trivial | (rfl; done) | assumption | (exfalso; omega) | (split <;> first | omega | (rfl; done) | (exfalso; omega)))
  obtain ⟨τ, t1, t2⟩ := loop1 J.toNat 0 ρ (by omega) (by omega) (fun a b _ => rfl) (fun p p0 p1 p2 p3 => by have := nj_r (σ 7) p0; omega) (fun a a0 => r2 7 a (by decide) (by decide))
  refine ⟨τ, ?_, t2⟩
  have e1 := r2 1 0 (by decide) (by decide)
  refine Ret.of 1 [some (aR 1), none, none, none] rfl (by decide) rfl (Nat.le_of_ble_eq_true rfl) ?_
  refine vX1_dropUnjoined 60 ?_
  simp only [↓S_X1_dropUnjoined_1, ↓S_X1_dropUnjoined_2, ↓pI_c, ↓pL_c, ↓pR_c, ↓pC_I, ↓pC_R, ↓pE_n, ↓gI_0, ↓gI_s, ↓gL_0, ↓gL_s, ↓gR_0, ↓gR_s, ↓popN_0, ↓popN_s, ↓kl_I, ↓kl_L, ↓kl_R, ↓kl_n, ↓put1_0, ↓put1_s, ↓putk_0, ↓putk_s, ↓put2_0, ↓put2_s, ↓putl_0, ↓putl_s, ↓callK_0, ↓callK_1, ↓callK_2, cats_n, cats_c, catA_I, catA_L, catA_R, KL, LV, lval_f, ltag_f, llen_f, lcm_lt, lcm_le, lcm_gt, lcm_ge, lcm_eq, lcm_R1, lcm_R2, inR, inL, true_and, and_true, eq_self, List.head?_cons, Option.some.injEq, Sum.inr.injEq, Sum.inl.injEq, false_or, or_false, true_or, or_true, Nat.reduceAdd, Nat.reduceLeDiff, Int.reduceLE, Int.reduceLT, Int.reduceEq, Int.reduceNeg, Int.reduceAdd, Int.reduceSub, Int.reduceMul, Int.reduceNe, ne_eq, not_false_eq_true, not_true_eq_false, false_implies, forall_const, Nat.le_refl, Nat.zero_le, implies_true, and_self]
  refine ⟨_, _, r1, ?_⟩
  rw [e1]
  by_cases q : J < σ 1 0
  · rw [if_pos q] at t1 ⊢
    (repeat' (first | apply And.intro | intro _))
    all_goals (try first | omega | trivial | (rfl; done) | assumption | (exfalso; omega) | (split <;> first | omega | (rfl; done) | (exfalso; omega)))
  · rw [if_neg q] at t1 ⊢
    (repeat' (first | apply And.intro | intro _))
    all_goals (try first | omega | trivial | (rfl; done) | assumption | (exfalso; omega) | (split <;> first | omega | (rfl; done) | (exfalso; omega)))
set_option maxRecDepth 100000 in
theorem r_X1_dropInner (D : Nat) (σ : Sg) (hw : WD (σ 1 0) (σ 7)) : ∃ z τ, Ret (D + 3) miX1_dropInner [aR 1] σ (some (aI z)) τ ∧ (∀ a b, a ≠ 7 → τ a b = σ a b) ∧ WD (σ 1 0) (τ 7) ∧ (∀ L0 m0, SR L0 m0 (σ 1 0) (σ 7) → SR L0 m0 (σ 1 0) (τ 7)) ∧ ((z = 0 ∧ τ 7 = σ 7 ∧ ∀ a, 0 ≤ a → a + 1 < σ 1 0 → a + 1 < σ 7 (a + 1) → σ 7 a = σ 7 (a + 1) + 1 → False) ∨ (z = 1 ∧ nj (τ 7) (σ 1 0) < nj (σ 7) (σ 1 0))) := by
  have w1 := hw.1
  have w2 := hw.2.1
  have loop : ∀ (k : Nat) (i z : Int) (χ : Sg), 0 ≤ i → i + k = σ 1 0 → (∀ a b, a ≠ 7 → χ a b = σ a b) → WD (σ 1 0) (χ 7) → (∀ L0 m0, SR L0 m0 (σ 1 0) (σ 7) → SR L0 m0 (σ 1 0) (χ 7)) → ((z = 0 ∧ χ 7 = σ 7 ∧ ∀ a, 0 ≤ a → a < i → a + 1 < σ 1 0 → a + 1 < σ 7 (a + 1) → σ 7 a = σ 7 (a + 1) + 1 → False) ∨ (z = 1 ∧ nj (χ 7) (σ 1 0) < nj (σ 7) (σ 1 0))) →
      ∃ z2 τ, V (D + 2) miX1_dropInner 1 (some (aI z2)) τ 4 [some (aR 1), some (aI z), some (aI i), none] [] χ ∧ (∀ a b, a ≠ 7 → τ a b = σ a b) ∧ WD (σ 1 0) (τ 7) ∧ (∀ L0 m0, SR L0 m0 (σ 1 0) (σ 7) → SR L0 m0 (σ 1 0) (τ 7)) ∧ ((z2 = 0 ∧ τ 7 = σ 7 ∧ ∀ a, 0 ≤ a → a + 1 < σ 1 0 → a + 1 < σ 7 (a + 1) → σ 7 a = σ 7 (a + 1) + 1 → False) ∨ (z2 = 1 ∧ nj (τ 7) (σ 1 0) < nj (σ 7) (σ 1 0))) := by
    intro k
    induction k with
    | zero =>
      intro i z χ i0 i1 hχ hwx hs hz
      have e1 := hχ 1 0 (by decide)
      refine ⟨z, χ, ?_, hχ, hwx, hs, ?_⟩
      · refine vX1_dropInner 60 ?_
        simp only [↓S_X1_dropInner_1, ↓S_X1_dropInner_2, ↓pI_c, ↓pL_c, ↓pR_c, ↓pC_I, ↓pC_R, ↓pE_n, ↓gI_0, ↓gI_s, ↓gL_0, ↓gL_s, ↓gR_0, ↓gR_s, ↓popN_0, ↓popN_s, ↓kl_I, ↓kl_L, ↓kl_R, ↓kl_n, ↓put1_0, ↓put1_s, ↓putk_0, ↓putk_s, ↓put2_0, ↓put2_s, ↓putl_0, ↓putl_s, ↓callK_0, ↓callK_1, ↓callK_2, cats_n, cats_c, catA_I, catA_L, catA_R, KL, LV, lval_f, ltag_f, llen_f, lcm_lt, lcm_le, lcm_gt, lcm_ge, lcm_eq, lcm_R1, lcm_R2, inR, inL, true_and, and_true, eq_self, List.head?_cons, Option.some.injEq, Sum.inr.injEq, Sum.inl.injEq, false_or, or_false, true_or, or_true, Nat.reduceAdd, Nat.reduceLeDiff, Int.reduceLE, Int.reduceLT, Int.reduceEq, Int.reduceNeg, Int.reduceAdd, Int.reduceSub, Int.reduceMul, Int.reduceNe, ne_eq, not_false_eq_true, not_true_eq_false, false_implies, forall_const, Nat.le_refl, Nat.zero_le, implies_true, and_self]
        rw [e1]
        (repeat' (first | apply And.intro | intro _))
        all_goals (try first | omega | trivial | (rfl; done) | assumption | (exfalso; omega) | (split <;> first | omega | (rfl; done) | (exfalso; omega)))
      · rcases hz with ⟨z1, z2, z3⟩ | hz
        · exact Or.inl ⟨z1, z2, fun a a0 a1 => z3 a a0 (by omega) a1⟩
        · exact Or.inr hz
    | succ k ih =>
      intro i z χ i0 i1 hχ hwx hs hz
      have e1 := hχ 1 0 (by decide)
      have hr := hwx.r i0 (by omega)
      have hzz : z = 0 ∨ z = 1 := hz.elim (fun q => Or.inl q.1) (fun q => Or.inr q.1)
      have hbg := r_X1_begins (D + 1) χ i i0 (by omega) (by omega)
      have hic := r_X1_isChord D χ (i + 1) (χ 7 i - 1) (by omega) (by omega) (by rw [e1]; exact hwx)
      rw [e1] at hic
      -- nothing goes at this place
      have skip : ¬ (i < χ 7 i ∧ i + 1 < χ 7 i - 1 ∧ (0 ≤ i + 1 ∧ i + 1 < σ 1 0 ∧ 0 ≤ χ 7 i - 1 ∧ χ 7 i - 1 < σ 1 0 ∧ χ 7 (i + 1) = χ 7 i - 1)) → ∃ z2 τ, V (D + 2) miX1_dropInner 1 (some (aI z2)) τ 4 [some (aR 1), some (aI z), some (aI (i + 1)), none] [] χ ∧ (∀ a b, a ≠ 7 → τ a b = σ a b) ∧ WD (σ 1 0) (τ 7) ∧ (∀ L0 m0, SR L0 m0 (σ 1 0) (σ 7) → SR L0 m0 (σ 1 0) (τ 7)) ∧ ((z2 = 0 ∧ τ 7 = σ 7 ∧ ∀ a, 0 ≤ a → a + 1 < σ 1 0 → a + 1 < σ 7 (a + 1) → σ 7 a = σ 7 (a + 1) + 1 → False) ∨ (z2 = 1 ∧ nj (τ 7) (σ 1 0) < nj (σ 7) (σ 1 0))) := by
        intro hno
        refine ih (i + 1) z χ (by omega) (by omega) hχ hwx hs ?_
        rcases hz with ⟨z1, z2, z3⟩ | hz
        · refine Or.inl ⟨z1, z2, fun a a0 a1 a2 a3 a4 => ?_⟩
          by_cases q : a = i
          · subst q
            rw [z2] at hno
            have := hw.r (a := a) a0 (by omega)
            have hL : σ 7 a < σ 1 0 := by
              rcases hw.2.2.1 a a0 (by omega) with y | y
              · omega
              · exact y.2.1
            exact hno ⟨by omega, by omega, by omega, by omega, by omega, by omega, by omega⟩
          · exact z3 a a0 (by omega) a2 a3 a4
        · exact Or.inr hz
      by_cases c1 : i < χ 7 i
      · rw [if_pos c1] at hbg
        by_cases c2 : i + 1 < χ 7 i - 1
        · by_cases c3 : 0 ≤ i + 1 ∧ i + 1 < σ 1 0 ∧ 0 ≤ χ 7 i - 1 ∧ χ 7 i - 1 < σ 1 0 ∧ χ 7 (i + 1) = χ 7 i - 1
          · rw [if_pos c3] at hic
            have hil : χ 7 i < σ 1 0 ∧ χ 7 (χ 7 i) = i := by
              rcases hwx.2.2.1 i i0 (by omega) with y | y
              · omega
              · exact ⟨y.2.1, y.2.2.2⟩
            have hin : χ 7 (χ 7 (i + 1)) = i + 1 := by
              rcases hwx.2.2.1 (i + 1) (by omega) c3.2.1 with y | y
              · omega
              · exact y.2.2.2
            have h7 := up_un2 χ 7 (i + 1) (χ 7 (i + 1))
            have hinn : Inn (χ 7) (i + 1) := by
              refine ⟨i, i0, ⟨by omega, by omega, by omega, fun y y0 y1 => by omega⟩, ?_⟩
              rw [c3.2.2.2.2]
              exact ⟨by omega, by rw [← c3.2.2.2.2, hin]; omega, by rw [hil.2]; omega, fun y y0 y1 => by omega⟩
            have hw3 := hwx.unlink (a := i + 1) (by omega) c3.2.1 (by omega)
            have hnj := nj_un2 (m := χ 7) (a := i + 1) (b := χ 7 (i + 1)) (L := σ 1 0) (by omega) (by omega) (by omega) (by omega) (by rw [hin]; omega)
            have hle : nj (χ 7) (σ 1 0) ≤ nj (σ 7) (σ 1 0) := by
              rcases hz with y | y
              · rw [y.2.1]; exact Int.le_refl _
              · omega
            obtain ⟨z2, τ, t1, t2⟩ := ih (i + 1) 1 (up (up χ 7 (i + 1) (-1)) 7 (χ 7 (i + 1)) (-1)) (by omega) (by omega) (fun a b a1 => by unfold up; rw [if_neg (fun y => a1 y.1), if_neg (fun y => a1 y.1)]; exact hχ a b a1) (by rw [h7]; exact hw3) (fun L0 m0 hsr => by rw [h7]; exact (hs L0 m0 hsr).unl hwx (by omega) c3.2.1 (by omega) hinn) (Or.inr ⟨rfl, by rw [h7]; omega⟩)
            refine ⟨z2, τ, ?_, t2⟩
            refine vX1_dropInner 60 ?_
            simp only [↓S_X1_dropInner_1, ↓S_X1_dropInner_2, ↓pI_c, ↓pL_c, ↓pR_c, ↓pC_I, ↓pC_R, ↓pE_n, ↓gI_0, ↓gI_s, ↓gL_0, ↓gL_s, ↓gR_0, ↓gR_s, ↓popN_0, ↓popN_s, ↓kl_I, ↓kl_L, ↓kl_R, ↓kl_n, ↓put1_0, ↓put1_s, ↓putk_0, ↓putk_s, ↓put2_0, ↓put2_s, ↓putl_0, ↓putl_s, ↓callK_0, ↓callK_1, ↓callK_2, cats_n, cats_c, catA_I, catA_L, catA_R, KL, LV, lval_f, ltag_f, llen_f, lcm_lt, lcm_le, lcm_gt, lcm_ge, lcm_eq, lcm_R1, lcm_R2, inR, inL, true_and, and_true, eq_self, List.head?_cons, Option.some.injEq, Sum.inr.injEq, Sum.inl.injEq, false_or, or_false, true_or, or_true, Nat.reduceAdd, Nat.reduceLeDiff, Int.reduceLE, Int.reduceLT, Int.reduceEq, Int.reduceNeg, Int.reduceAdd, Int.reduceSub, Int.reduceMul, Int.reduceNe, ne_eq, not_false_eq_true, not_true_eq_false, false_implies, forall_const, Nat.le_refl, Nat.zero_le, implies_true, and_self]
            rw [e1]
            refine ⟨by omega, by omega, fun q => by omega, fun q => ⟨_, _, hbg, by omega, fun q => by omega, fun q => ⟨by omega, by omega, by omega, by omega, fun q => by omega, fun q => ⟨by omega, by omega, _, _, hic, by omega, fun q => by omega, fun q => ⟨_, _, r_X1_unlink (D + 1) χ (i + 1) (by omega) (by omega) (by omega) (by omega), ?_⟩⟩⟩⟩⟩
            exact V.wk t1 (by simp [lle])
          · rw [if_neg c3] at hic
            obtain ⟨z2, τ, t1, t2⟩ := skip (fun y => c3 y.2.2)
            refine ⟨z2, τ, ?_, t2⟩
            refine vX1_dropInner 60 ?_
            simp only [↓S_X1_dropInner_1, ↓S_X1_dropInner_2, ↓pI_c, ↓pL_c, ↓pR_c, ↓pC_I, ↓pC_R, ↓pE_n, ↓gI_0, ↓gI_s, ↓gL_0, ↓gL_s, ↓gR_0, ↓gR_s, ↓popN_0, ↓popN_s, ↓kl_I, ↓kl_L, ↓kl_R, ↓kl_n, ↓put1_0, ↓put1_s, ↓putk_0, ↓putk_s, ↓put2_0, ↓put2_s, ↓putl_0, ↓putl_s, ↓callK_0, ↓callK_1, ↓callK_2, cats_n, cats_c, catA_I, catA_L, catA_R, KL, LV, lval_f, ltag_f, llen_f, lcm_lt, lcm_le, lcm_gt, lcm_ge, lcm_eq, lcm_R1, lcm_R2, inR, inL, true_and, and_true, eq_self, List.head?_cons, Option.some.injEq, Sum.inr.injEq, Sum.inl.injEq, false_or, or_false, true_or, or_true, Nat.reduceAdd, Nat.reduceLeDiff, Int.reduceLE, Int.reduceLT, Int.reduceEq, Int.reduceNeg, Int.reduceAdd, Int.reduceSub, Int.reduceMul, Int.reduceNe, ne_eq, not_false_eq_true, not_true_eq_false, false_implies, forall_const, Nat.le_refl, Nat.zero_le, implies_true, and_self]
            rw [e1]
            refine ⟨by omega, by omega, fun q => by omega, fun q => ⟨_, _, hbg, by omega, fun q => by omega, fun q => ⟨by omega, by omega, by omega, by omega, fun q => by omega, fun q => ⟨by omega, by omega, _, _, hic, by omega, fun q => ?_, fun q => by omega⟩⟩⟩⟩
            exact V.wk t1 (by simp [lle])
        · obtain ⟨z2, τ, t1, t2⟩ := skip (fun y => c2 y.2.1)
          refine ⟨z2, τ, ?_, t2⟩
          refine vX1_dropInner 60 ?_
          simp only [↓S_X1_dropInner_1, ↓S_X1_dropInner_2, ↓pI_c, ↓pL_c, ↓pR_c, ↓pC_I, ↓pC_R, ↓pE_n, ↓gI_0, ↓gI_s, ↓gL_0, ↓gL_s, ↓gR_0, ↓gR_s, ↓popN_0, ↓popN_s, ↓kl_I, ↓kl_L, ↓kl_R, ↓kl_n, ↓put1_0, ↓put1_s, ↓putk_0, ↓putk_s, ↓put2_0, ↓put2_s, ↓putl_0, ↓putl_s, ↓callK_0, ↓callK_1, ↓callK_2, cats_n, cats_c, catA_I, catA_L, catA_R, KL, LV, lval_f, ltag_f, llen_f, lcm_lt, lcm_le, lcm_gt, lcm_ge, lcm_eq, lcm_R1, lcm_R2, inR, inL, true_and, and_true, eq_self, List.head?_cons, Option.some.injEq, Sum.inr.injEq, Sum.inl.injEq, false_or, or_false, true_or, or_true, Nat.reduceAdd, Nat.reduceLeDiff, Int.reduceLE, Int.reduceLT, Int.reduceEq, Int.reduceNeg, Int.reduceAdd, Int.reduceSub, Int.reduceMul, Int.reduceNe, ne_eq, not_false_eq_true, not_true_eq_false, false_implies, forall_const, Nat.le_refl, Nat.zero_le, implies_true, and_self]
          rw [e1]
          refine ⟨by omega, by omega, fun q => by omega, fun q => ⟨_, _, hbg, by omega, fun q => by omega, fun q => ⟨by omega, by omega, by omega, by omega, fun q => ?_, fun q => by omega⟩⟩⟩
          exact V.wk t1 (by simp [lle])
      · rw [if_neg c1] at hbg
        obtain ⟨z2, τ, t1, t2⟩ := skip (fun y => c1 y.1)
        refine ⟨z2, τ, ?_, t2⟩
        refine vX1_dropInner 60 ?_
        simp only [↓S_X1_dropInner_1, ↓S_X1_dropInner_2, ↓pI_c, ↓pL_c, ↓pR_c, ↓pC_I, ↓pC_R, ↓pE_n, ↓gI_0, ↓gI_s, ↓gL_0, ↓gL_s, ↓gR_0, ↓gR_s, ↓popN_0, ↓popN_s, ↓kl_I, ↓kl_L, ↓kl_R, ↓kl_n, ↓put1_0, ↓put1_s, ↓putk_0, ↓putk_s, ↓put2_0, ↓put2_s, ↓putl_0, ↓putl_s, ↓callK_0, ↓callK_1, ↓callK_2, cats_n, cats_c, catA_I, catA_L, catA_R, KL, LV, lval_f, ltag_f, llen_f, lcm_lt, lcm_le, lcm_gt, lcm_ge, lcm_eq, lcm_R1, lcm_R2, inR, inL, true_and, and_true, eq_self, List.head?_cons, Option.some.injEq, Sum.inr.injEq, Sum.inl.injEq, false_or, or_false, true_or, or_true, Nat.reduceAdd, Nat.reduceLeDiff, Int.reduceLE, Int.reduceLT, Int.reduceEq, Int.reduceNeg, Int.reduceAdd, Int.reduceSub, Int.reduceMul, Int.reduceNe, ne_eq, not_false_eq_true, not_true_eq_false, false_implies, forall_const, Nat.le_refl, Nat.zero_le, implies_true, and_self]
        rw [e1]
        refine ⟨by omega, by omega, fun q => by omega, fun q => ⟨_, _, hbg, by omega, fun q => ?_, fun q => by omega⟩⟩
        exact V.wk t1 (by simp [lle])
  obtain ⟨z, τ, t1, t2⟩ := loop (σ 1 0).toNat 0 0 σ (by omega) (by omega) (fun a b _ => rfl) hw (fun L0 m0 h => h) (Or.inl ⟨rfl, rfl, fun a a0 a1 => by omega⟩)
  refine ⟨z, τ, ?_, t2⟩
  refine Ret.of 1 [some (aR 1), none, none, none] rfl (by decide) rfl (Nat.le_of_ble_eq_true rfl) ?_
  refine vX1_dropInner 60 ?_
  simp only [↓S_X1_dropInner_1, ↓S_X1_dropInner_2, ↓pI_c, ↓pL_c, ↓pR_c, ↓pC_I, ↓pC_R, ↓pE_n, ↓gI_0, ↓gI_s, ↓gL_0, ↓gL_s, ↓gR_0, ↓gR_s, ↓popN_0, ↓popN_s, ↓kl_I, ↓kl_L, ↓kl_R, ↓kl_n, ↓put1_0, ↓put1_s, ↓putk_0, ↓putk_s, ↓put2_0, ↓put2_s, ↓putl_0, ↓putl_s, ↓callK_0, ↓callK_1, ↓callK_2, cats_n, cats_c, catA_I, catA_L, catA_R, KL, LV, lval_f, ltag_f, llen_f, lcm_lt, lcm_le, lcm_gt, lcm_ge, lcm_eq, lcm_R1, lcm_R2, inR, inL, true_and, and_true, eq_self, List.head?_cons, Option.some.injEq, Sum.inr.injEq, Sum.inl.injEq, false_or, or_false, true_or, or_true, Nat.reduceAdd, Nat.reduceLeDiff, Int.reduceLE, Int.reduceLT, Int.reduceEq, Int.reduceNeg, Int.reduceAdd, Int.reduceSub, Int.reduceMul, Int.reduceNe, ne_eq, not_false_eq_true, not_true_eq_false, false_implies, forall_const, Nat.le_refl, Nat.zero_le, implies_true, and_self]
  exact t1
set_option maxRecDepth 100000 in
theorem r_X1_reduce (D : Nat) (σ : Sg) (hw : WD (σ 1 0) (σ 7)) : ∃ τ, Ret (D + 4) miX1_reduce [aR 1] σ none τ ∧ (∀ a b, a ≠ 7 → a ≠ 8 → a ≠ 9 → ¬ (a = 1 ∧ b = 0) → τ a b = σ a b) ∧ WD (τ 1 0) (τ 7) ∧ SR (σ 1 0) (σ 7) (τ 1 0) (τ 7) ∧ (∀ i, 0 ≤ i → i < τ 1 0 → Kp (τ 7) i) := by
  have loop : ∀ (k : Nat) (r : Int) (χ : Sg), 0 ≤ r → r + k = 49 → (∀ a b, a ≠ 7 → a ≠ 8 → a ≠ 9 → ¬ (a = 1 ∧ b = 0) → χ a b = σ a b) → WD (χ 1 0) (χ 7) → SR (σ 1 0) (σ 7) (χ 1 0) (χ 7) → χ 1 0 + nj (χ 7) (χ 1 0) + r ≤ 48 → 
      ∃ τ, V (D + 3) miX1_reduce 1 none τ 4 [some (aR 1), some (aI 1), some (aI r), none, none] [] χ ∧ (∀ a b, a ≠ 7 → a ≠ 8 → a ≠ 9 → ¬ (a = 1 ∧ b = 0) → τ a b = σ a b) ∧ WD (τ 1 0) (τ 7) ∧ SR (σ 1 0) (σ 7) (τ 1 0) (τ 7) ∧ (∀ i, 0 ≤ i → i < τ 1 0 → Kp (τ 7) i) := by
    intro k
    induction k with
    | zero =>
      intro r χ r0 r1 hχ hwx hs hm
      have := hwx.1
      have := nj_r (χ 7) hwx.1
      omega
    | succ k ih =>
      intro r χ r0 r1 hχ hwx hs hm
      have x1 := hwx.1
      have x2 := nj_r (χ 7) hwx.1
      obtain ⟨ρ, p1, p2, p3, p4, p5, p6⟩ := r_X1_dropUnjoined D χ hwx
      obtain ⟨z, ω, q1, q2, q3, q4, q5⟩ := r_X1_dropInner D ρ p4
      have nja := nj_all p4.1 p5
      have eω1 : ω 1 0 = ρ 1 0 := q2 1 0 (by decide)
      have hfr : ∀ a b, a ≠ 7 → a ≠ 8 → a ≠ 9 → ¬ (a = 1 ∧ b = 0) → ω a b = σ a b := fun a b a1 a2 a3 a4 => by rw [q2 a b a1, p2 a b a1 a2 a3 a4]; exact hχ a b a1 a2 a3 a4
      by_cases c : nj (χ 7) (χ 1 0) < χ 1 0 ∨ z = 1
      · have hm2 : ω 1 0 + nj (ω 7) (ω 1 0) + (r + 1) ≤ 48 := by
          rw [eω1]
          rcases q5 with ⟨y1, y2, y3⟩ | ⟨y1, y2⟩
          · rw [y2, nja]
            omega
          · omega
        obtain ⟨τ, t1, t2⟩ := ih (r + 1) ω (by omega) (by omega) hfr (by rw [eω1]; exact q3) (by rw [eω1]; exact q4 _ _ (p6 _ _ hs)) hm2
        refine ⟨τ, ?_, t2⟩
        refine vX1_reduce 60 ?_
        simp only [↓S_X1_reduce, ↓pI_c, ↓pL_c, ↓pR_c, ↓pC_I, ↓pC_R, ↓pE_n, ↓gI_0, ↓gI_s, ↓gL_0, ↓gL_s, ↓gR_0, ↓gR_s, ↓popN_0, ↓popN_s, ↓kl_I, ↓kl_L, ↓kl_R, ↓kl_n, ↓put1_0, ↓put1_s, ↓putk_0, ↓putk_s, ↓put2_0, ↓put2_s, ↓putl_0, ↓putl_s, ↓callK_0, ↓callK_1, ↓callK_2, cats_n, cats_c, catA_I, catA_L, catA_R, KL, LV, lval_f, ltag_f, llen_f, lcm_lt, lcm_le, lcm_gt, lcm_ge, lcm_eq, lcm_R1, lcm_R2, inR, inL, true_and, and_true, eq_self, List.head?_cons, Option.some.injEq, Sum.inr.injEq, Sum.inl.injEq, false_or, or_false, true_or, or_true, Nat.reduceAdd, Nat.reduceLeDiff, Int.reduceLE, Int.reduceLT, Int.reduceEq, Int.reduceNeg, Int.reduceAdd, Int.reduceSub, Int.reduceMul, Int.reduceNe, ne_eq, not_false_eq_true, not_true_eq_false, false_implies, forall_const, Nat.le_refl, Nat.zero_le, implies_true, and_self]
        refine ⟨by omega, fun q => by omega, fun q => ⟨_, _, p1, _, _, q1, ?_⟩⟩
        by_cases c2 : nj (χ 7) (χ 1 0) < χ 1 0
        · rw [if_pos c2]
          (repeat' (first | apply And.intro | intro _))
          all_goals (try first | omega | trivial | (rfl; done) | assumption | (exfalso; omega) | (exact V.wk t1 (by simp [lle])) | (split <;> first | omega | (rfl; done) | (exfalso; omega)))
        · rw [if_neg c2]
          (repeat' (first | apply And.intro | intro _))
          all_goals (try first | omega | trivial | (rfl; done) | assumption | (exfalso; omega) | (exact V.wk t1 (by simp [lle])) | (split <;> first | omega | (rfl; done) | (exfalso; omega)))
      · have hz0 : z = 0 ∧ ω 7 = ρ 7 ∧ ∀ a, 0 ≤ a → a + 1 < ρ 1 0 → a + 1 < ρ 7 (a + 1) → ρ 7 a = ρ 7 (a + 1) + 1 → False := by
          rcases q5 with y | y
          · exact y
          · omega
        have hfin : ∀ (r' : Int) (l1 l2 : Option AV), 0 ≤ r' → r' ≤ 49 → V (D + 3) miX1_reduce 1 none ω 4 [some (aR 1), some (aI 0), some (aI r'), l1, l2] [] ω := by
          intro r' l1 l2 h1 h2
          refine vX1_reduce 60 ?_
          simp only [↓S_X1_reduce, ↓pI_c, ↓pL_c, ↓pR_c, ↓pC_I, ↓pC_R, ↓pE_n, ↓gI_0, ↓gI_s, ↓gL_0, ↓gL_s, ↓gR_0, ↓gR_s, ↓popN_0, ↓popN_s, ↓kl_I, ↓kl_L, ↓kl_R, ↓kl_n, ↓put1_0, ↓put1_s, ↓putk_0, ↓putk_s, ↓put2_0, ↓put2_s, ↓putl_0, ↓putl_s, ↓callK_0, ↓callK_1, ↓callK_2, cats_n, cats_c, catA_I, catA_L, catA_R, KL, LV, lval_f, ltag_f, llen_f, lcm_lt, lcm_le, lcm_gt, lcm_ge, lcm_eq, lcm_R1, lcm_R2, inR, inL, true_and, and_true, eq_self, List.head?_cons, Option.some.injEq, Sum.inr.injEq, Sum.inl.injEq, false_or, or_false, true_or, or_true, Nat.reduceAdd, Nat.reduceLeDiff, Int.reduceLE, Int.reduceLT, Int.reduceEq, Int.reduceNeg, Int.reduceAdd, Int.reduceSub, Int.reduceMul, Int.reduceNe, ne_eq, not_false_eq_true, not_true_eq_false, false_implies, forall_const, Nat.le_refl, Nat.zero_le, implies_true, and_self]
          (repeat' (first | apply And.intro | intro _))
          all_goals (try first | omega | trivial | (rfl; done) | assumption | (exfalso; omega) | (split <;> first | omega | (rfl; done) | (exfalso; omega)))
        refine ⟨ω, ?_, hfr, by rw [eω1]; exact q3, by rw [eω1]; exact q4 _ _ (p6 _ _ hs), ?_⟩
        · refine vX1_reduce 60 ?_
          simp only [↓S_X1_reduce, ↓pI_c, ↓pL_c, ↓pR_c, ↓pC_I, ↓pC_R, ↓pE_n, ↓gI_0, ↓gI_s, ↓gL_0, ↓gL_s, ↓gR_0, ↓gR_s, ↓popN_0, ↓popN_s, ↓kl_I, ↓kl_L, ↓kl_R, ↓kl_n, ↓put1_0, ↓put1_s, ↓putk_0, ↓putk_s, ↓put2_0, ↓put2_s, ↓putl_0, ↓putl_s, ↓callK_0, ↓callK_1, ↓callK_2, cats_n, cats_c, catA_I, catA_L, catA_R, KL, LV, lval_f, ltag_f, llen_f, lcm_lt, lcm_le, lcm_gt, lcm_ge, lcm_eq, lcm_R1, lcm_R2, inR, inL, true_and, and_true, eq_self, List.head?_cons, Option.some.injEq, Sum.inr.injEq, Sum.inl.injEq, false_or, or_false, true_or, or_true, Nat.reduceAdd, Nat.reduceLeDiff, Int.reduceLE, Int.reduceLT, Int.reduceEq, Int.reduceNeg, Int.reduceAdd, Int.reduceSub, Int.reduceMul, Int.reduceNe, ne_eq, not_false_eq_true, not_true_eq_false, false_implies, forall_const, Nat.le_refl, Nat.zero_le, implies_true, and_self]
          refine ⟨by omega, fun q => by omega, fun q => ⟨_, _, p1, _, _, q1, ?_⟩⟩
          rw [if_neg (by omega), hz0.1]
          have t1 := hfin (r + 1) (some (aI 0)) (some (aI 0)) (by omega) (by omega)
          (repeat' (first | apply And.intro | intro _))
          all_goals (try first | omega | trivial | (rfl; done) | assumption | (exfalso; omega) | (split <;> first | omega | (rfl; done) | (exfalso; omega)))
        · rw [eω1, hz0.2.1]
          exact Kp_all p4 p5 hz0.2.2
  have w1 := hw.1
  have w2 := hw.2.1
  have x2 := nj_r (σ 7) hw.1
  obtain ⟨τ, t1, t2⟩ := loop 49 0 σ (by omega) (by omega) (fun a b _ _ _ _ => rfl) hw (SR.rfl' _ _) (by omega)
  refine ⟨τ, ?_, t2⟩
  refine Ret.of 1 [some (aR 1), none, none, none, none] rfl (by decide) rfl (Nat.le_of_ble_eq_true rfl) ?_
  refine vX1_reduce 60 ?_
  simp only [↓S_X1_reduce, ↓pI_c, ↓pL_c, ↓pR_c, ↓pC_I, ↓pC_R, ↓pE_n, ↓gI_0, ↓gI_s, ↓gL_0, ↓gL_s, ↓gR_0, ↓gR_s, ↓popN_0, ↓popN_s, ↓kl_I, ↓kl_L, ↓kl_R, ↓kl_n, ↓put1_0, ↓put1_s, ↓putk_0, ↓putk_s, ↓put2_0, ↓put2_s, ↓putl_0, ↓putl_s, ↓callK_0, ↓callK_1, ↓callK_2, cats_n, cats_c, catA_I, catA_L, catA_R, KL, LV, lval_f, ltag_f, llen_f, lcm_lt, lcm_le, lcm_gt, lcm_ge, lcm_eq, lcm_R1, lcm_R2, inR, inL, true_and, and_true, eq_self, List.head?_cons, Option.some.injEq, Sum.inr.injEq, Sum.inl.injEq, false_or, or_false, true_or, or_true, Nat.reduceAdd, Nat.reduceLeDiff, Int.reduceLE, Int.reduceLT, Int.reduceEq, Int.reduceNeg, Int.reduceAdd, Int.reduceSub, Int.reduceMul, Int.reduceNe, ne_eq, not_false_eq_true, not_true_eq_false, false_implies, forall_const, Nat.le_refl, Nat.zero_le, implies_true, and_self]
  exact t1

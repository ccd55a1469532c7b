/-! the model's handles, whole -/
def uns (s : Int → Int) (J : Nat) : Int := rs (fun j => if s j = 0 then 1 else 0) 0 J
theorem uns_mark {s : Int → Int} {J : Nat} {i : Int} (i0 : 0 ≤ i) (i1 : i < J) (h : s i = 0) : uns s J = uns (fun j => if j = i then 1 else s j) J + 1 := by
  have e : rs (fun c => if c = i then 1 else 0) 0 J = 1 := by rw [rs_pt, if_pos (by omega)]
  have e2 : uns s J = uns (fun j => if j = i then 1 else s j) J + rs (fun c => if c = i then 1 else 0) 0 J := by
    unfold uns
    rw [← rs_add]
    refine rs_congr J 0 (fun j j0 j1 => ?_)
    show (if s j = 0 then (1 : Int) else 0) = (if (if j = i then 1 else s j) = 0 then 1 else 0) + if j = i then 1 else 0
    by_cases c : j = i
    · rw [if_pos c, if_pos c, c, if_pos h]; rfl
    · rw [if_neg c, if_neg c, Int.add_zero]
  rw [e2, e]
theorem nj_frc (m : Int → Int) {L : Int} (h : 0 ≤ L) : nj m L + frc m 0 L.toNat = L := by
  have key : ∀ k : Nat, rs (fun c => if m c = -1 then 0 else 1) 0 k + frc m 0 k = k := by
    intro k
    induction k with
    | zero => rfl
    | succ k ih =>
      rw [rs_last, frc_last]
      by_cases c : m (0 + (k : Int)) = -1
      · rw [if_pos c, if_pos c]; omega
      · rw [if_neg c, if_neg c]; omega
  have := key L.toNat
  unfold nj
  omega
theorem hnd_r {F : Int → Int} {J : Nat} : ∀ (k : Nat) (i : Int) (s : Int → Int) (r : Int), r ≤ hnd F J k i s r ∧ hnd F J k i s r ≤ r + k
  | 0, i, s, r => ⟨Int.le_refl _, by show r ≤ r + ((0 : Nat) : Int); omega⟩
  | k + 1, i, s, r => by
    have h1 := hnd_r (F := F) (J := J) k (i + 1) (wk F J s i) (r + 1)
    have h2 := hnd_r (F := F) (J := J) k (i + 1) s r
    unfold hnd
    by_cases c : s i = 0
    · rw [if_pos c]; omega
    · rw [if_neg c]; omega
set_option maxRecDepth 100000 in
theorem r_X6_handles (D : Nat) (σ : Sg) (F : Int → Int) (hw : WD (σ 6 0) (σ 26)) (hF : stepF (σ 6 0) (σ 26) F) : Ret (D + 3) miX6_handles [aR 6] σ (some (aI ((1 + (nj (σ 26) (σ 6 0)) / 2 - hnd F (nj (σ 26) (σ 6 0)).toNat (nj (σ 26) (σ 6 0)).toNat 0 (fun _ => 0) (if nj (σ 26) (σ 6 0) = 0 then 1 else 0)).tdiv 2))) σ := by
  have w1 := hw.1
  have w2 := hw.2.1
  have hch := r_X6_chords D σ hw
  have h2 := two_nb hw
  have h3 := nj_frc (σ 26) w1
  have hc1 := rs_01 (f := fun a => if a < σ 26 a then 1 else 0) (σ 6 0).toNat 0 (fun j _ _ => by by_cases c : j < σ 26 j; right; exact if_pos c; left; exact if_neg c)
  generalize rs (fun a => if a < σ 26 a then 1 else 0) 0 (σ 6 0).toNat = C at *
  generalize hJ : nj (σ 26) (σ 6 0) = J at *
  have hJC : J = 2 * C := by omega
  have hrk : ∀ p, 0 ≤ p → p < σ 6 0 → σ 26 p ≠ -1 → 0 ≤ nj (σ 26) p ∧ nj (σ 26) p < J := fun p p0 p1 p2 => ⟨(nj_r _ p0).1, by rw [← hJ]; exact nj_lt _ p0 p1 p2⟩
  have hinj : ∀ p q, 0 ≤ p → p < σ 6 0 → σ 26 p ≠ -1 → 0 ≤ q → q < σ 6 0 → σ 26 q ≠ -1 → nj (σ 26) p = nj (σ 26) q → p = q := fun p q p0 p1 p2 q0 q1 q2 e => by
    rcases Int.lt_trichotomy p q with z | z | z
    · have := nj_lt (σ 26) p0 z p2; omega
    · exact z
    · have := nj_lt (σ 26) q0 z q2; omega
  have walk : ∀ (k : Nat) (s : Int → Int) (mask p i rr : Int) (r : Option AV), 0 ≤ p → p < σ 6 0 → σ 26 p ≠ -1 → (∀ q, 0 ≤ q → q < σ 6 0 → σ 26 q ≠ -1 → btv mask q = s (nj (σ 26) q)) → uns s J.toNat ≤ k → (∀ mask', (∀ q, 0 ≤ q → q < σ 6 0 → σ 26 q ≠ -1 → btv mask' q = wk F k s (nj (σ 26) p) (nj (σ 26) q)) → V (D + 2) miX6_handles 6 r σ 20 [some (aR 6), some (aI C), some (aI rr), some (aI mask'), some (aI (i + 1)), none] [] σ) → V (D + 2) miX6_handles 6 r σ 56 [some (aR 6), some (aI C), some (aI rr), some (aI mask), some (aI i), some (aI p)] [] σ := by
    intro k
    induction k with
    | zero =>
      intro s mask p i rr r p0 p1 p2 hm hu K
      have t := K mask hm
      have b01 := btv_01 mask p0 (show p < 24 by omega)
      have hb : btv mask p = 1 := by
        rcases b01 with z | z
        · rw [hm p p0 p1 p2] at z
          have := uns_mark (J := J.toNat) (hrk p p0 p1 p2).1 (by have := (hrk p p0 p1 p2).2; omega) z
          have h9 := rs_01 (f := fun j => if (fun j => if j = nj (σ 26) p then 1 else s j) j = 0 then 1 else 0) J.toNat 0 (fun j _ _ => by by_cases c : (fun j => if j = nj (σ 26) p then 1 else s j) j = 0; right; exact if_pos c; left; exact if_neg c)
          have h8 : uns (fun j => if j = nj (σ 26) p then 1 else s j) J.toNat = rs (fun j => if (fun j => if j = nj (σ 26) p then 1 else s j) j = 0 then 1 else 0) 0 J.toNat := rfl
          omega
        · exact z
      unfold btv at hb
      refine vX6_handles 60 ?_
      simp only [↓S_X6_handles_1, ↓S_X6_handles_2, ↓pI_c, ↓pL_c, ↓pR_c, ↓pC_I, ↓pC_R, ↓pE_n, ↓gI_0, ↓gI_s, ↓gL_0, ↓gL_s, ↓gR_0, ↓gR_s, ↓popN_0, ↓popN_s, ↓kl_I, ↓kl_L, ↓kl_R, ↓kl_n, ↓put1_0, ↓put1_s, ↓putk_0, ↓putk_s, ↓put2_0, ↓put2_s, ↓putl_0, ↓putl_s, ↓callK_0, ↓callK_1, ↓callK_2, cats_n, cats_c, catA_I, catA_L, catA_R, KL, LV, lval_f, ltag_f, llen_f, lcm_lt, lcm_le, lcm_gt, lcm_ge, lcm_eq, lcm_R1, lcm_R2, inR, inL, true_and, and_true, eq_self, List.head?_cons, Option.some.injEq, Sum.inr.injEq, Sum.inl.injEq, false_or, or_false, true_or, or_true, Nat.reduceAdd, Nat.reduceLeDiff, Int.reduceLE, Int.reduceLT, Int.reduceEq, Int.reduceNeg, Int.reduceAdd, Int.reduceSub, Int.reduceMul, Int.reduceNe, ne_eq, not_false_eq_true, not_true_eq_false, false_implies, forall_const, Nat.le_refl, Nat.zero_le, implies_true, and_self]
      (repeat' (first | apply And.intro | intro _))
      all_goals (try first | omega | trivial | (rfl; done) | assumption | (exfalso; omega) | (exact t) | (refine V.wk t ?_; simp [lle]; done))
    | succ k ih =>
      intro s mask p i rr r p0 p1 p2 hm hu K
      have b01 := btv_01 mask p0 (show p < 24 by omega)
      have hmp := hm p p0 p1 p2
      rw [wk_s] at K
      by_cases c : btv mask p = 0
      · have cs : s (nj (σ 26) p) = 0 := by rw [← hmp]; exact c
        rw [if_pos cs] at K
        have hmp2 : 0 ≤ σ 26 p ∧ σ 26 p < σ 6 0 ∧ σ 26 (σ 26 p) = p := by
          rcases hw.2.2.1 p p0 p1 with z | z
          · exact absurd z p2
          · exact ⟨z.1, z.2.1, z.2.2.2⟩
        obtain ⟨b, nx, b0, b1, b2, b3⟩ := r_X6_nextJoined (D + 1) σ (σ 26 p) hw hmp2.1 hmp2.2.1 (by rw [hmp2.2.2]; omega)
        have eb : nj (σ 26) b = F (nj (σ 26) p) := by rw [hF p p0 p1 p2, hJ, b3, hJ]
        rw [← eb] at K
        have t := ih (fun j => if j = nj (σ 26) p then 1 else s j) (ior32 mask (ishl32 1 p)) b i rr r b0 b1 b2 (fun q q0 q1 q2 => by
          rw [btv_set mask p0 (by omega) q0 (by omega)]
          by_cases e : q = p
          · rw [if_pos e, e, if_pos rfl]
          · rw [if_neg e, if_neg (fun z => e (hinj q p q0 q1 q2 p0 p1 p2 z))]
            exact hm q q0 q1 q2) (by
          have := uns_mark (J := J.toNat) (hrk p p0 p1 p2).1 (by have := (hrk p p0 p1 p2).2; omega) cs
          omega) K
        unfold btv at c
        refine vX6_handles 60 ?_
        simp only [↓S_X6_handles_1, ↓S_X6_handles_2, ↓pI_c, ↓pL_c, ↓pR_c, ↓pC_I, ↓pC_R, ↓pE_n, ↓gI_0, ↓gI_s, ↓gL_0, ↓gL_s, ↓gR_0, ↓gR_s, ↓popN_0, ↓popN_s, ↓kl_I, ↓kl_L, ↓kl_R, ↓kl_n, ↓put1_0, ↓put1_s, ↓putk_0, ↓putk_s, ↓put2_0, ↓put2_s, ↓putl_0, ↓putl_s, ↓callK_0, ↓callK_1, ↓callK_2, cats_n, cats_c, catA_I, catA_L, catA_R, KL, LV, lval_f, ltag_f, llen_f, lcm_lt, lcm_le, lcm_gt, lcm_ge, lcm_eq, lcm_R1, lcm_R2, inR, inL, true_and, and_true, eq_self, List.head?_cons, Option.some.injEq, Sum.inr.injEq, Sum.inl.injEq, false_or, or_false, true_or, or_true, Nat.reduceAdd, Nat.reduceLeDiff, Int.reduceLE, Int.reduceLT, Int.reduceEq, Int.reduceNeg, Int.reduceAdd, Int.reduceSub, Int.reduceMul, Int.reduceNe, ne_eq, not_false_eq_true, not_true_eq_false, false_implies, forall_const, Nat.le_refl, Nat.zero_le, implies_true, and_self]
        (repeat' (first | apply And.intro | intro _ | with_reducible refine Exists.intro _ (Exists.intro _ (And.intro nx ?_)) | with_reducible refine Exists.intro _ (And.intro nx ?_)))
        all_goals (try first | omega | trivial | (rfl; done) | assumption | (exfalso; omega) | (exact t) | (refine V.wk t ?_; simp [lle]; done))
      · have cs : ¬ s (nj (σ 26) p) = 0 := by rw [← hmp]; exact c
        rw [if_neg cs] at K
        have t := K mask hm
        unfold btv at c b01
        refine vX6_handles 60 ?_
        simp only [↓S_X6_handles_1, ↓S_X6_handles_2, ↓pI_c, ↓pL_c, ↓pR_c, ↓pC_I, ↓pC_R, ↓pE_n, ↓gI_0, ↓gI_s, ↓gL_0, ↓gL_s, ↓gR_0, ↓gR_s, ↓popN_0, ↓popN_s, ↓kl_I, ↓kl_L, ↓kl_R, ↓kl_n, ↓put1_0, ↓put1_s, ↓putk_0, ↓putk_s, ↓put2_0, ↓put2_s, ↓putl_0, ↓putl_s, ↓callK_0, ↓callK_1, ↓callK_2, cats_n, cats_c, catA_I, catA_L, catA_R, KL, LV, lval_f, ltag_f, llen_f, lcm_lt, lcm_le, lcm_gt, lcm_ge, lcm_eq, lcm_R1, lcm_R2, inR, inL, true_and, and_true, eq_self, List.head?_cons, Option.some.injEq, Sum.inr.injEq, Sum.inl.injEq, false_or, or_false, true_or, or_true, Nat.reduceAdd, Nat.reduceLeDiff, Int.reduceLE, Int.reduceLT, Int.reduceEq, Int.reduceNeg, Int.reduceAdd, Int.reduceSub, Int.reduceMul, Int.reduceNe, ne_eq, not_false_eq_true, not_true_eq_false, false_implies, forall_const, Nat.le_refl, Nat.zero_le, implies_true, and_self]
        (repeat' (first | apply And.intro | intro _))
        all_goals (try first | omega | trivial | (rfl; done) | assumption | (exfalso; omega) | (exact t) | (refine V.wk t ?_; simp [lle]; done))
  have loop : ∀ (k : Nat) (i rr mask : Int) (s : Int → Int), 0 ≤ i → i + k = σ 6 0 → 0 ≤ rr → rr ≤ i + 1 → (∀ q, 0 ≤ q → q < σ 6 0 → σ 26 q ≠ -1 → btv mask q = s (nj (σ 26) q)) → V (D + 2) miX6_handles 6 (some (aI ((1 + C - hnd F J.toNat (J - nj (σ 26) i).toNat (nj (σ 26) i) s rr).tdiv 2))) σ 20 [some (aR 6), some (aI C), some (aI rr), some (aI mask), some (aI i), none] [] σ := by
    intro k
    induction k with
    | zero =>
      intro i rr mask s i0 ik r0 r1 hm
      have : i = σ 6 0 := by omega
      subst this
      rw [hJ, show (J - J).toNat = 0 from by omega]
      show V (D + 2) miX6_handles 6 (some (aI ((1 + C - rr).tdiv 2))) σ 20 _ _ _
      refine vX6_handles 60 ?_
      simp only [↓S_X6_handles_1, ↓S_X6_handles_2, ↓pI_c, ↓pL_c, ↓pR_c, ↓pC_I, ↓pC_R, ↓pE_n, ↓gI_0, ↓gI_s, ↓gL_0, ↓gL_s, ↓gR_0, ↓gR_s, ↓popN_0, ↓popN_s, ↓kl_I, ↓kl_L, ↓kl_R, ↓kl_n, ↓put1_0, ↓put1_s, ↓putk_0, ↓putk_s, ↓put2_0, ↓put2_s, ↓putl_0, ↓putl_s, ↓callK_0, ↓callK_1, ↓callK_2, cats_n, cats_c, catA_I, catA_L, catA_R, KL, LV, lval_f, ltag_f, llen_f, lcm_lt, lcm_le, lcm_gt, lcm_ge, lcm_eq, lcm_R1, lcm_R2, inR, inL, true_and, and_true, eq_self, List.head?_cons, Option.some.injEq, Sum.inr.injEq, Sum.inl.injEq, false_or, or_false, true_or, or_true, Nat.reduceAdd, Nat.reduceLeDiff, Int.reduceLE, Int.reduceLT, Int.reduceEq, Int.reduceNeg, Int.reduceAdd, Int.reduceSub, Int.reduceMul, Int.reduceNe, ne_eq, not_false_eq_true, not_true_eq_false, false_implies, forall_const, Nat.le_refl, Nat.zero_le, implies_true, and_self]
      (repeat' (first | apply And.intro | intro _))
      all_goals (try first | omega | trivial | (rfl; done) | assumption | (exfalso; omega))
    | succ k ih =>
      intro i rr mask s i0 ik r0 r1 hm
      have hr := hw.r i0 (show i < 24 by omega)
      have sj := nj_s (σ 26) i0
      have b01 := btv_01 mask i0 (show i < 24 by omega)
      by_cases c : σ 26 i = -1
      · rw [if_pos c] at sj
        have t := ih (i + 1) rr mask s (by omega) (by omega) r0 (by omega) hm
        rw [sj, Int.add_zero] at t
        generalize some (aI ((1 + C - hnd F J.toNat (J - nj (σ 26) i).toNat (nj (σ 26) i) s rr).tdiv 2)) = R at t ⊢
        refine vX6_handles 60 ?_
        simp only [↓S_X6_handles_1, ↓S_X6_handles_2, ↓pI_c, ↓pL_c, ↓pR_c, ↓pC_I, ↓pC_R, ↓pE_n, ↓gI_0, ↓gI_s, ↓gL_0, ↓gL_s, ↓gR_0, ↓gR_s, ↓popN_0, ↓popN_s, ↓kl_I, ↓kl_L, ↓kl_R, ↓kl_n, ↓put1_0, ↓put1_s, ↓putk_0, ↓putk_s, ↓put2_0, ↓put2_s, ↓putl_0, ↓putl_s, ↓callK_0, ↓callK_1, ↓callK_2, cats_n, cats_c, catA_I, catA_L, catA_R, KL, LV, lval_f, ltag_f, llen_f, lcm_lt, lcm_le, lcm_gt, lcm_ge, lcm_eq, lcm_R1, lcm_R2, inR, inL, true_and, and_true, eq_self, List.head?_cons, Option.some.injEq, Sum.inr.injEq, Sum.inl.injEq, false_or, or_false, true_or, or_true, Nat.reduceAdd, Nat.reduceLeDiff, Int.reduceLE, Int.reduceLT, Int.reduceEq, Int.reduceNeg, Int.reduceAdd, Int.reduceSub, Int.reduceMul, Int.reduceNe, ne_eq, not_false_eq_true, not_true_eq_false, false_implies, forall_const, Nat.le_refl, Nat.zero_le, implies_true, and_self]
        (repeat' (first | apply And.intro | intro _))
        all_goals (try first | omega | trivial | (rfl; done) | assumption | (exfalso; omega) | (exact t) | (refine V.wk t ?_; simp [lle]; done))
      · rw [if_neg c] at sj
        have hk := hrk i i0 (by omega) c
        have hmi := hm i i0 (by omega) c
        rw [show (J - nj (σ 26) i).toNat = (J - nj (σ 26) (i + 1)).toNat + 1 from by omega]
        unfold hnd
        by_cases c2 : btv mask i = 0
        · rw [if_pos (by rw [← hmi]; exact c2)]
          have hur := rs_01 (f := fun j => if s j = 0 then 1 else 0) J.toNat 0 (fun j _ _ => by by_cases c : s j = 0; right; exact if_pos c; left; exact if_neg c)
          have t := walk J.toNat s mask i i (rr + 1) (some (aI ((1 + C - hnd F J.toNat (J - nj (σ 26) (i + 1)).toNat (nj (σ 26) i + 1) (wk F J.toNat s (nj (σ 26) i)) (rr + 1)).tdiv 2))) i0 (by omega) c hm (by unfold uns; omega) (fun mask' hm' => by
            have t := ih (i + 1) (rr + 1) mask' (wk F J.toNat s (nj (σ 26) i)) (by omega) (by omega) (by omega) (by omega) hm'
            rw [sj] at t
            rw [sj]
            exact t)
          generalize some (aI ((1 + C - hnd F J.toNat (J - nj (σ 26) (i + 1)).toNat (nj (σ 26) i + 1) (wk F J.toNat s (nj (σ 26) i)) (rr + 1)).tdiv 2)) = R at t ⊢
          unfold btv at c2
          refine vX6_handles 60 ?_
          simp only [↓S_X6_handles_1, ↓S_X6_handles_2, ↓pI_c, ↓pL_c, ↓pR_c, ↓pC_I, ↓pC_R, ↓pE_n, ↓gI_0, ↓gI_s, ↓gL_0, ↓gL_s, ↓gR_0, ↓gR_s, ↓popN_0, ↓popN_s, ↓kl_I, ↓kl_L, ↓kl_R, ↓kl_n, ↓put1_0, ↓put1_s, ↓putk_0, ↓putk_s, ↓put2_0, ↓put2_s, ↓putl_0, ↓putl_s, ↓callK_0, ↓callK_1, ↓callK_2, cats_n, cats_c, catA_I, catA_L, catA_R, KL, LV, lval_f, ltag_f, llen_f, lcm_lt, lcm_le, lcm_gt, lcm_ge, lcm_eq, lcm_R1, lcm_R2, inR, inL, true_and, and_true, eq_self, List.head?_cons, Option.some.injEq, Sum.inr.injEq, Sum.inl.injEq, false_or, or_false, true_or, or_true, Nat.reduceAdd, Nat.reduceLeDiff, Int.reduceLE, Int.reduceLT, Int.reduceEq, Int.reduceNeg, Int.reduceAdd, Int.reduceSub, Int.reduceMul, Int.reduceNe, ne_eq, not_false_eq_true, not_true_eq_false, false_implies, forall_const, Nat.le_refl, Nat.zero_le, implies_true, and_self]
          (repeat' (first | apply And.intro | intro _))
          all_goals (try first | omega | trivial | (rfl; done) | assumption | (exfalso; omega) | (exact t) | (refine V.wk t ?_; simp [lle]; done))
        · rw [if_neg (by rw [← hmi]; exact c2)]
          have t := ih (i + 1) rr mask s (by omega) (by omega) r0 (by omega) hm
          rw [sj] at t
          rw [sj]
          generalize some (aI ((1 + C - hnd F J.toNat (J - (nj (σ 26) i + 1)).toNat (nj (σ 26) i + 1) s rr).tdiv 2)) = R at t ⊢
          unfold btv at c2 b01
          refine vX6_handles 60 ?_
          simp only [↓S_X6_handles_1, ↓S_X6_handles_2, ↓pI_c, ↓pL_c, ↓pR_c, ↓pC_I, ↓pC_R, ↓pE_n, ↓gI_0, ↓gI_s, ↓gL_0, ↓gL_s, ↓gR_0, ↓gR_s, ↓popN_0, ↓popN_s, ↓kl_I, ↓kl_L, ↓kl_R, ↓kl_n, ↓put1_0, ↓put1_s, ↓putk_0, ↓putk_s, ↓put2_0, ↓put2_s, ↓putl_0, ↓putl_s, ↓callK_0, ↓callK_1, ↓callK_2, cats_n, cats_c, catA_I, catA_L, catA_R, KL, LV, lval_f, ltag_f, llen_f, lcm_lt, lcm_le, lcm_gt, lcm_ge, lcm_eq, lcm_R1, lcm_R2, inR, inL, true_and, and_true, eq_self, List.head?_cons, Option.some.injEq, Sum.inr.injEq, Sum.inl.injEq, false_or, or_false, true_or, or_true, Nat.reduceAdd, Nat.reduceLeDiff, Int.reduceLE, Int.reduceLT, Int.reduceEq, Int.reduceNeg, Int.reduceAdd, Int.reduceSub, Int.reduceMul, Int.reduceNe, ne_eq, not_false_eq_true, not_true_eq_false, false_implies, forall_const, Nat.le_refl, Nat.zero_le, implies_true, and_self]
          (repeat' (first | apply And.intro | intro _))
          all_goals (try first | omega | trivial | (rfl; done) | assumption | (exfalso; omega) | (exact t) | (refine V.wk t ?_; simp [lle]; done))
  have t := loop (σ 6 0).toNat 0 (if J = 0 then 1 else 0) 0 (fun _ => 0) (by omega) (by omega) (by split <;> omega) (by split <;> omega) (fun q q0 q1 q2 => btv_0 q0 (by omega))
  rw [nj_0, Int.sub_zero] at t
  rw [show J / 2 = C from by omega]
  by_cases c : C = 0
  · rw [if_pos (by omega)] at t
    rw [if_pos (by omega)]
    generalize some (aI ((1 + C - hnd F J.toNat J.toNat 0 (fun _ => 0) 1).tdiv 2)) = R at t ⊢
    refine Ret.of 6 [some (aR 6), none, none, none, none, none] rfl (by decide) rfl (Nat.le_of_ble_eq_true rfl) ?_
    refine vX6_handles 60 ?_
    simp only [↓S_X6_handles_1, ↓S_X6_handles_2, ↓pI_c, ↓pL_c, ↓pR_c, ↓pC_I, ↓pC_R, ↓pE_n, ↓gI_0, ↓gI_s, ↓gL_0, ↓gL_s, ↓gR_0, ↓gR_s, ↓popN_0, ↓popN_s, ↓kl_I, ↓kl_L, ↓kl_R, ↓kl_n, ↓put1_0, ↓put1_s, ↓putk_0, ↓putk_s, ↓put2_0, ↓put2_s, ↓putl_0, ↓putl_s, ↓callK_0, ↓callK_1, ↓callK_2, cats_n, cats_c, catA_I, catA_L, catA_R, KL, LV, lval_f, ltag_f, llen_f, lcm_lt, lcm_le, lcm_gt, lcm_ge, lcm_eq, lcm_R1, lcm_R2, inR, inL, true_and, and_true, eq_self, List.head?_cons, Option.some.injEq, Sum.inr.injEq, Sum.inl.injEq, false_or, or_false, true_or, or_true, Nat.reduceAdd, Nat.reduceLeDiff, Int.reduceLE, Int.reduceLT, Int.reduceEq, Int.reduceNeg, Int.reduceAdd, Int.reduceSub, Int.reduceMul, Int.reduceNe, ne_eq, not_false_eq_true, not_true_eq_false, false_implies, forall_const, Nat.le_refl, Nat.zero_le, implies_true, and_self]
    (repeat' (first | apply And.intro | intro _ | with_reducible refine Exists.intro _ (Exists.intro _ (And.intro hch ?_)) | with_reducible refine Exists.intro _ (And.intro hch ?_)))
    all_goals (try first | omega | trivial | (rfl; done) | assumption | (exfalso; omega) | (exact t) | (refine V.wk t ?_; simp [lle]; done))
  · rw [if_neg (by omega)] at t
    rw [if_neg (by omega)]
    generalize some (aI ((1 + C - hnd F J.toNat J.toNat 0 (fun _ => 0) 0).tdiv 2)) = R at t ⊢
    refine Ret.of 6 [some (aR 6), none, none, none, none, none] rfl (by decide) rfl (Nat.le_of_ble_eq_true rfl) ?_
    refine vX6_handles 60 ?_
    simp only [↓S_X6_handles_1, ↓S_X6_handles_2, ↓pI_c, ↓pL_c, ↓pR_c, ↓pC_I, ↓pC_R, ↓pE_n, ↓gI_0, ↓gI_s, ↓gL_0, ↓gL_s, ↓gR_0, ↓gR_s, ↓popN_0, ↓popN_s, ↓kl_I, ↓kl_L, ↓kl_R, ↓kl_n, ↓put1_0, ↓put1_s, ↓putk_0, ↓putk_s, ↓put2_0, ↓put2_s, ↓putl_0, ↓putl_s, ↓callK_0, ↓callK_1, ↓callK_2, cats_n, cats_c, catA_I, catA_L, catA_R, KL, LV, lval_f, ltag_f, llen_f, lcm_lt, lcm_le, lcm_gt, lcm_ge, lcm_eq, lcm_R1, lcm_R2, inR, inL, true_and, and_true, eq_self, List.head?_cons, Option.some.injEq, Sum.inr.injEq, Sum.inl.injEq, false_or, or_false, true_or, or_true, Nat.reduceAdd, Nat.reduceLeDiff, Int.reduceLE, Int.reduceLT, Int.reduceEq, Int.reduceNeg, Int.reduceAdd, Int.reduceSub, Int.reduceMul, Int.reduceNe, ne_eq, not_false_eq_true, not_true_eq_false, false_implies, forall_const, Nat.le_refl, Nat.zero_le, implies_true, and_self]
    (repeat' (first | apply And.intro | intro _ | with_reducible refine Exists.intro _ (Exists.intro _ (And.intro hch ?_)) | with_reducible refine Exists.intro _ (And.intro hch ?_)))
    all_goals (try first | omega | trivial | (rfl; done) | assumption | (exfalso; omega) | (exact t) | (refine V.wk t ?_; simp [lle]; done))

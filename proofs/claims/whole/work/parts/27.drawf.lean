/-! the class's fold drawn -/
/-- the stretches that wait, and what the rows say of them -/
def PI (n : Int) (m E B : Int → Int) : Int → List (Int × Int) → Prop
  | s, [] => s = n + 1
  | s, q :: t => s ≤ q.1 ∧ q.1 ≤ n ∧ (q.2 = 0 ∨ q.2 = 1) ∧ E s = q.1 ∧ B s = q.2 ∧ (∀ p, s ≤ p → p < q.1 → m p = -1) ∧ (q.1 < n → m q.1 ≠ -1) ∧ PI n m E B (q.1 + 1) t
theorem PI.tr {n : Int} {m m2 E E2 B B2 : Int → Int} : ∀ (t : List (Int × Int)) (s : Int), (∀ p, s ≤ p → m p = m2 p ∧ E p = E2 p ∧ B p = B2 p) → PI n m E B s t → PI n m2 E2 B2 s t
  | [], s, _, h => h
  | q :: t, s, hc, ⟨h1, h2, h3, h4, h5, h6, h7, h8⟩ => ⟨h1, h2, h3, by rw [← (hc s (by omega)).2.1]; exact h4, by rw [← (hc s (by omega)).2.2]; exact h5, fun p p0 p1 => by rw [← (hc p p0).1]; exact h6 p p0 p1, fun z => by rw [← (hc q.1 h1).1]; exact h7 z, PI.tr t (q.1 + 1) (fun p p0 => hc p (by omega)) h8⟩
set_option maxRecDepth 100000 in
theorem r_X2_drawFirst (D : Nat) (σ : Sg) (h : WS σ) (hE : ∀ x y, 0 ≤ x → x ≤ y → y ≤ σ 4 0 → EQ σ x y) :
    ∃ τ, Ret (D + 4) miX2_drawFirst [aR 2, aR 4, aR 1] σ none τ ∧ (∀ x y, x ≠ 7 → x ≠ 16 → x ≠ 17 → ¬ (x = 1 ∧ y = 0) → τ x y = σ x y) ∧ τ 1 0 = σ 4 0 ∧ WD (σ 4 0) (τ 7) ∧ Gd (csc σ) (cmj σ) (σ 4 2) (cT0 σ) (cT1 σ) (τ 7) 0 (σ 4 0) 0 := by
  have hn := h.1
  generalize hN : σ 4 0 = n at *
  have loop : ∀ (k : Nat) (s : Int) (pd : List (Int × Int)) (χ : Sg), 0 ≤ s → s + k = n → (∀ x y, x ≠ 7 → x ≠ 16 → x ≠ 17 → ¬ (x = 1 ∧ y = 0) → χ x y = σ x y) → χ 1 0 = n → WD n (χ 7) → PI n (χ 7) (χ 16) (χ 17) s pd → Kc (csc σ) (cmj σ) (σ 4 2) (cT0 σ) (cT1 σ) n (χ 7) s pd → ∃ τ, V (D + 3) miX2_drawFirst 2 none τ 20 [some (aR 2), some (aR 4), some (aR 1), some (aI s), none, none] [] χ ∧ (∀ x y, x ≠ 7 → x ≠ 16 → x ≠ 17 → ¬ (x = 1 ∧ y = 0) → τ x y = σ x y) ∧ τ 1 0 = n ∧ WD n (τ 7) ∧ Gd (csc σ) (cmj σ) (σ 4 2) (cT0 σ) (cT1 σ) (τ 7) 0 n 0 := by
    intro k
    induction k with
    | zero =>
      intro s pd χ s0 sk hf hL hw hp hk
      have hx : χ 4 0 = n := by rw [hf 4 0 (by omega) (by omega) (by omega) (by omega)]; exact hN
      refine ⟨χ, ?_, hf, hL, hw, ?_⟩
      · refine vX2_drawFirst 60 ?_
        simp only [↓S_X2_drawFirst_1, ↓S_X2_drawFirst_2, ↓pI_c, ↓pL_c, ↓pR_c, ↓pC_I, ↓pC_R, ↓pE_n, ↓gI_0, ↓gI_s, ↓gL_0, ↓gL_s, ↓gR_0, ↓gR_s, ↓popN_0, ↓popN_s, ↓kl_I, ↓kl_L, ↓kl_R, ↓kl_n, ↓put1_0, ↓put1_s, ↓putk_0, ↓putk_s, ↓put2_0, ↓put2_s, ↓putl_0, ↓putl_s, ↓callK_0, ↓callK_1, ↓callK_2, cats_n, cats_c, catA_I, catA_L, catA_R, KL, LV, lval_f, ltag_f, llen_f, lcm_lt, lcm_le, lcm_gt, lcm_ge, lcm_eq, lcm_R1, lcm_R2, inR, inL, true_and, and_true, eq_self, List.head?_cons, Option.some.injEq, Sum.inr.injEq, Sum.inl.injEq, false_or, or_false, true_or, or_true, Nat.reduceAdd, Nat.reduceLeDiff, Int.reduceLE, Int.reduceLT, Int.reduceEq, Int.reduceNeg, Int.reduceAdd, Int.reduceSub, Int.reduceMul, Int.reduceNe, ne_eq, not_false_eq_true, not_true_eq_false, false_implies, forall_const, Nat.le_refl, Nat.zero_le, implies_true, and_self]
        rw [hx]
        (repeat' (first | apply And.intro | intro _))
        all_goals (try first | omega | trivial | (rfl; done) | assumption | (exfalso; omega) | (split <;> first | omega | (rfl; done) | (exfalso; omega)))
      · cases pd with
        | nil => have : s = n + 1 := hp; omega
        | cons q t =>
          obtain ⟨e, w⟩ := q
          obtain ⟨h1, h2, h3, h4, h5, h6, h7, h8⟩ := hp
          have h1 : s ≤ e := h1
          have h2 : e ≤ n := h2
          have : e = s := by omega
          subst this
          have hk2 := hk.pop
          cases t with
          | nil => exact hk2.nil
          | cons q t => obtain ⟨u1, u2, u3⟩ := h8; have u1 : e + 1 ≤ q.1 := u1; omega
    | succ k ih =>
      intro s pd χ s0 sk hf hL hw hp hk
      have hx : χ 4 0 = n := by rw [hf 4 0 (by omega) (by omega) (by omega) (by omega)]; exact hN
      cases pd with
      | nil => have : s = n + 1 := hp; omega
      | cons q t =>
        obtain ⟨e, w⟩ := q
        obtain ⟨h1, h2, h3, h4, h5, h6, h7, h8⟩ := hp
        have h1 : s ≤ e := h1
        have h2 : e ≤ n := h2
        have h3 : w = 0 ∨ w = 1 := h3
        have h4 : χ 16 s = e := h4
        have h5 : χ 17 s = w := h5
        have hr := hw.r s0 (show s < 24 by omega)
        have hj := r_X1_isJoined (D + 2) χ s s0 (by omega) (by unfold inR; omega)
        by_cases c0 : s = e
        · subst c0
          have hm := h7 (show s < n by omega)
          rw [if_neg hm] at hj
          obtain ⟨τ, t1, t2⟩ := ih (s + 1) t χ (by omega) (by omega) hf hL hw h8 hk.pop
          refine ⟨τ, ?_, t2⟩
          refine vX2_drawFirst 60 ?_
          simp only [↓S_X2_drawFirst_1, ↓S_X2_drawFirst_2, ↓pI_c, ↓pL_c, ↓pR_c, ↓pC_I, ↓pC_R, ↓pE_n, ↓gI_0, ↓gI_s, ↓gL_0, ↓gL_s, ↓gR_0, ↓gR_s, ↓popN_0, ↓popN_s, ↓kl_I, ↓kl_L, ↓kl_R, ↓kl_n, ↓put1_0, ↓put1_s, ↓putk_0, ↓putk_s, ↓put2_0, ↓put2_s, ↓putl_0, ↓putl_s, ↓callK_0, ↓callK_1, ↓callK_2, cats_n, cats_c, catA_I, catA_L, catA_R, KL, LV, lval_f, ltag_f, llen_f, lcm_lt, lcm_le, lcm_gt, lcm_ge, lcm_eq, lcm_R1, lcm_R2, inR, inL, true_and, and_true, eq_self, List.head?_cons, Option.some.injEq, Sum.inr.injEq, Sum.inl.injEq, false_or, or_false, true_or, or_true, Nat.reduceAdd, Nat.reduceLeDiff, Int.reduceLE, Int.reduceLT, Int.reduceEq, Int.reduceNeg, Int.reduceAdd, Int.reduceSub, Int.reduceMul, Int.reduceNe, ne_eq, not_false_eq_true, not_true_eq_false, false_implies, forall_const, Nat.le_refl, Nat.zero_le, implies_true, and_self]
          rw [hx]
          exact ⟨by omega, by omega, fun q => by omega, fun q => ⟨_, _, hj, by omega, fun q => t1, fun q => by omega⟩⟩
        · have hm : χ 7 s = -1 := h6 s (by omega) (show s < e by omega)
          rw [if_pos hm] at hj
          have hse : SE σ χ := fun x y hx => hf x y (by omega) (by omega) (by omega) (by omega)
          have hws := hse.ws h
          have hT : ∀ x y, 0 ≤ x → x < 25 → cT0 χ x y = cT0 σ x y ∧ cT1 χ x y = cT1 σ x y ∧ cW0 χ x y = cW0 σ x y ∧ cW1 χ x y = cW1 σ x y := fun x y x0 x1 => ⟨hf _ _ (by omega) (by omega) (by omega) (by omega), hf _ _ (by omega) (by omega) (by omega) (by omega), hf _ _ (by omega) (by omega) (by omega) (by omega), hf _ _ (by omega) (by omega) (by omega) (by omega)⟩
          have hE2 : ∀ x y, 0 ≤ x → x ≤ y → y ≤ χ 4 0 → EQ χ x y := fun x y x0 xy y1 => EQ.tr h hse x0 xy (by omega) (fun u v u0 uv v1 => hT u v (by omega) (by omega)) (hT x y x0 (by omega)) (hE x y x0 xy (by omega))
          have hfm := r_X2_firstMate D χ s e w hws hE2 s0 (by omega) (by omega) h3
          have eTw : Tw (cT0 χ) (cT1 χ) w s e = Tw (cT0 σ) (cT1 σ) w s e := by
            unfold Tw
            rw [(hT s e s0 (by omega)).1, (hT s e s0 (by omega)).2.1]
          have eB : χ 4 2 = σ 4 2 := hf 4 2 (by omega) (by omega) (by omega) (by omega)
          have eC : ∀ c, s < c → c < e → cdv (csc χ) (χ 4 2) (cT0 χ) (cT1 χ) w s e c = cdv (csc σ) (σ 4 2) (cT0 σ) (cT1 σ) w s e c := fun c c1 c2 => by
            unfold cdv
            rw [(hse.sc h s0 (by omega) (by omega) (show c < σ 4 0 by omega)).1, (hT (s + 1) c (by omega) (by omega)).2.1, (hT (c + 1) e (by omega) (by omega)).1, eB]
          rcases hfm with ⟨f1, f2⟩ | ⟨f1, c, f2, f3⟩
          · rw [(hT (s + 1) e (by omega) (by omega)).1, eTw] at f1
            have ss := r_X2_startStretch (D + 2) χ (s + 1) e 0 (by omega) (by omega) (Or.inl rfl)
            have u7 : (up (up χ 16 (s + 1) e) 17 (s + 1) 0) 7 = χ 7 := by funext z; unfold up; rw [if_neg (by omega), if_neg (by omega)]
            obtain ⟨τ, t1, t2⟩ := ih (s + 1) ((e, 0) :: t) (up (up χ 16 (s + 1) e) 17 (s + 1) 0) (by omega) (by omega)
              (fun x y x1 x2 x3 x4 => by unfold up; rw [if_neg (by omega), if_neg (by omega)]; exact hf x y x1 x2 x3 x4)
              (by unfold up; rw [if_neg (by omega), if_neg (by omega)]; exact hL)
              (by rw [u7]; exact hw)
              ⟨show s + 1 ≤ e by omega, h2, Or.inl rfl, by unfold up; rw [if_neg (by omega), if_pos ⟨rfl, rfl⟩], by unfold up; rw [if_pos ⟨rfl, rfl⟩], fun p p0 p1 => by rw [u7]; exact h6 p (by omega) p1, fun z => by rw [u7]; exact h7 z, h8.tr _ _ (fun p p0 => ⟨by rw [u7], by have p0 : e + 1 ≤ p := p0; unfold up; rw [if_neg (by omega), if_neg (by omega)], by have p0 : e + 1 ≤ p := p0; unfold up; rw [if_neg (by omega), if_neg (by omega)]⟩)⟩
              (by rw [u7]; exact hk.skip s0 (by omega) (by omega) f1 hm)
            refine ⟨τ, ?_, t2⟩
            refine vX2_drawFirst 60 ?_
            simp only [↓S_X2_drawFirst_1, ↓S_X2_drawFirst_2, ↓pI_c, ↓pL_c, ↓pR_c, ↓pC_I, ↓pC_R, ↓pE_n, ↓gI_0, ↓gI_s, ↓gL_0, ↓gL_s, ↓gR_0, ↓gR_s, ↓popN_0, ↓popN_s, ↓kl_I, ↓kl_L, ↓kl_R, ↓kl_n, ↓put1_0, ↓put1_s, ↓putk_0, ↓putk_s, ↓put2_0, ↓put2_s, ↓putl_0, ↓putl_s, ↓callK_0, ↓callK_1, ↓callK_2, cats_n, cats_c, catA_I, catA_L, catA_R, KL, LV, lval_f, ltag_f, llen_f, lcm_lt, lcm_le, lcm_gt, lcm_ge, lcm_eq, lcm_R1, lcm_R2, inR, inL, true_and, and_true, eq_self, List.head?_cons, Option.some.injEq, Sum.inr.injEq, Sum.inl.injEq, false_or, or_false, true_or, or_true, Nat.reduceAdd, Nat.reduceLeDiff, Int.reduceLE, Int.reduceLT, Int.reduceEq, Int.reduceNeg, Int.reduceAdd, Int.reduceSub, Int.reduceMul, Int.reduceNe, ne_eq, not_false_eq_true, not_true_eq_false, false_implies, forall_const, Nat.le_refl, Nat.zero_le, implies_true, and_self]
            rw [hx]
            refine ⟨by omega, by omega, fun q => by omega, fun q => ⟨_, _, hj, by omega, fun q => by omega, fun q => ?_⟩⟩
            rw [h4, h5]
            exact ⟨by omega, by omega, by omega, by omega, _, _, f2, by omega, fun q => by omega, fun q => ⟨_, ss, V.wk t1 (by simp [lle])⟩⟩
          · rw [(hT (s + 1) e (by omega) (by omega)).1, eTw] at f1
            have hc1 := f2.1
            have hc2 := f2.2.1
            have f4 : fstM (csc σ) (cmj σ) (σ 4 2) (cT0 σ) (cT1 σ) w s e c := by
              refine ⟨hc1, hc2, ?_, ?_, fun d d0 d1 d2 => f2.2.2.2.2 d d0 d1 ?_⟩
              · rw [← (hse.sc h s0 (by omega) (by omega) (show c < σ 4 0 by omega)).2]; exact f2.2.2.1
              · rw [← eC c hc1 hc2, ← eTw]; exact f2.2.2.2.1
              · rw [(hse.sc h s0 (by omega) (by omega) (show d < σ 4 0 by omega)).2, eC d d0 (by omega), eTw]; exact d2
            have hmc : χ 7 c = -1 := h6 c (by omega) hc2
            have hlk := r_X1_link (D + 2) χ s c s0 (by omega) (by omega) (by omega)
            generalize hψ : up (up χ 7 s c) 7 c s = ψ at hlk
            have ψ7 : ψ 7 = lk2 (χ 7) s c := by rw [← hψ]; exact up_lk2 χ 7 s c
            have ψf : ∀ x y, x ≠ 7 → ψ x y = χ x y := fun x y hx => by rw [← hψ]; unfold up; rw [if_neg (by omega), if_neg (by omega)]
            have s1 := r_X2_startStretch (D + 2) ψ (s + 1) c 1 (by omega) (by omega) (Or.inr rfl)
            have s2 := r_X2_startStretch (D + 2) (up (up ψ 16 (s + 1) c) 17 (s + 1) 1) (c + 1) e 0 (by omega) (by omega) (Or.inl rfl)
            generalize hω : up (up (up (up ψ 16 (s + 1) c) 17 (s + 1) 1) 16 (c + 1) e) 17 (c + 1) 0 = ω at s2
            have ω7 : ω 7 = lk2 (χ 7) s c := by rw [← ψ7, ← hω]; funext z; unfold up; rw [if_neg (by omega), if_neg (by omega), if_neg (by omega), if_neg (by omega)]
            have ωf : ∀ x y, x ≠ 16 → x ≠ 17 → ω x y = ψ x y := fun x y h1 h2 => by rw [← hω]; unfold up; rw [if_neg (by omega), if_neg (by omega), if_neg (by omega), if_neg (by omega)]
            have ωb : ∀ y, c + 1 < y → ω 16 y = χ 16 y ∧ ω 17 y = χ 17 y := fun y hy => by
              constructor
              · rw [← ψf 16 y (by omega), ← hω]; unfold up; rw [if_neg (by omega), if_neg (by omega), if_neg (by omega), if_neg (by omega)]
              · rw [← ψf 17 y (by omega), ← hω]; unfold up; rw [if_neg (by omega), if_neg (by omega), if_neg (by omega), if_neg (by omega)]
            have ωc : ω 16 (s + 1) = c ∧ ω 17 (s + 1) = 1 ∧ ω 16 (c + 1) = e ∧ ω 17 (c + 1) = 0 := by
              rw [← hω]
              unfold up
              refine ⟨?_, ?_, ?_, ?_⟩
              · rw [if_neg (by omega), if_neg (by omega), if_neg (by omega), if_pos ⟨rfl, rfl⟩]
              · rw [if_neg (by omega), if_neg (by omega), if_pos ⟨rfl, rfl⟩]
              · rw [if_neg (by omega), if_pos ⟨rfl, rfl⟩]
              · rw [if_pos ⟨rfl, rfl⟩]
            have lkk : ∀ p, p ≠ s → p ≠ c → lk2 (χ 7) s c p = χ 7 p := fun p p1 p2 => by unfold lk2; rw [if_neg p2, if_neg p1]
            obtain ⟨τ, t1, t2⟩ := ih (s + 1) ((c, 1) :: (e, 0) :: t) ω (by omega) (by omega)
              (fun x y x1 x2 x3 x4 => by rw [ωf x y x2 x3, ψf x y x1]; exact hf x y x1 x2 x3 x4)
              (by rw [ωf 1 0 (by omega) (by omega), ψf 1 0 (by omega)]; exact hL)
              (by rw [ω7]; exact hw.link s0 (by omega) (by omega) (by omega) (by omega) hm hmc)
              ⟨show s + 1 ≤ c by omega, show c ≤ n by omega, Or.inr rfl, ωc.1, ωc.2.1, fun p p0 p1 => by have p1 : p < c := p1; rw [ω7, lkk p (by omega) (by omega)]; exact h6 p (by omega) (show p < e by omega), fun z => by rw [ω7]; show lk2 (χ 7) s c c ≠ -1; unfold lk2; rw [if_pos rfl]; omega,
                show c + 1 ≤ e by omega, h2, Or.inl rfl, ωc.2.2.1, ωc.2.2.2, fun p p0 p1 => by have p0 : c + 1 ≤ p := p0; rw [ω7, lkk p (by omega) (by omega)]; exact h6 p (by omega) p1, fun z => by rw [ω7]; show lk2 (χ 7) s c e ≠ -1; rw [lkk e (by omega) (by omega)]; exact h7 z,
                h8.tr _ _ (fun p p0 => by have p0 : e + 1 ≤ p := p0; exact ⟨by rw [ω7, lkk p (by omega) (by omega)], (ωb p (by omega)).1.symm, (ωb p (by omega)).2.symm⟩)⟩
              (by rw [ω7]; exact hk.join s0 h2 f1 f4 hm hmc)
            refine ⟨τ, ?_, t2⟩
            refine vX2_drawFirst 60 ?_
            simp only [↓S_X2_drawFirst_1, ↓S_X2_drawFirst_2, ↓pI_c, ↓pL_c, ↓pR_c, ↓pC_I, ↓pC_R, ↓pE_n, ↓gI_0, ↓gI_s, ↓gL_0, ↓gL_s, ↓gR_0, ↓gR_s, ↓popN_0, ↓popN_s, ↓kl_I, ↓kl_L, ↓kl_R, ↓kl_n, ↓put1_0, ↓put1_s, ↓putk_0, ↓putk_s, ↓put2_0, ↓put2_s, ↓putl_0, ↓putl_s, ↓callK_0, ↓callK_1, ↓callK_2, cats_n, cats_c, catA_I, catA_L, catA_R, KL, LV, lval_f, ltag_f, llen_f, lcm_lt, lcm_le, lcm_gt, lcm_ge, lcm_eq, lcm_R1, lcm_R2, inR, inL, true_and, and_true, eq_self, List.head?_cons, Option.some.injEq, Sum.inr.injEq, Sum.inl.injEq, false_or, or_false, true_or, or_true, Nat.reduceAdd, Nat.reduceLeDiff, Int.reduceLE, Int.reduceLT, Int.reduceEq, Int.reduceNeg, Int.reduceAdd, Int.reduceSub, Int.reduceMul, Int.reduceNe, ne_eq, not_false_eq_true, not_true_eq_false, false_implies, forall_const, Nat.le_refl, Nat.zero_le, implies_true, and_self]
            rw [hx]
            refine ⟨by omega, by omega, fun q => by omega, fun q => ⟨_, _, hj, by omega, fun q => by omega, fun q => ?_⟩⟩
            rw [h4, h5]
            exact ⟨by omega, by omega, by omega, by omega, _, _, f3, by omega, fun q => ⟨_, hlk, _, s1, _, s2, V.wk t1 (by simp [lle])⟩, fun q => by omega⟩
  have hcl := r_X1_clear (D + 1) σ n
  have ss := r_X2_startStretch (D + 2) (ff (up σ 1 0 n) 7 0 24 (-1)) 0 n 0 (by omega) (by omega) (Or.inl rfl)
  generalize hχ : up (up (ff (up σ 1 0 n) 7 0 24 (-1)) 16 0 n) 17 0 0 = χ at ss
  have χ7 : ∀ p, 0 ≤ p → p < 24 → χ 7 p = -1 := fun p p0 p1 => by
    rw [← hχ]; unfold up ff; rw [if_neg (by omega), if_neg (by omega), if_pos ⟨rfl, p0, p1⟩]
  have χL : χ 1 0 = n := by
    rw [← hχ]; unfold up ff; rw [if_neg (by omega), if_neg (by omega), if_neg (by omega)]; dsimp only; rw [if_pos ⟨rfl, rfl⟩]
  have χf : ∀ x y, x ≠ 7 → x ≠ 16 → x ≠ 17 → ¬ (x = 1 ∧ y = 0) → χ x y = σ x y := fun x y x1 x2 x3 x4 => by
    rw [← hχ]; unfold up ff; rw [if_neg (by omega), if_neg (by omega), if_neg (by omega)]; dsimp only; rw [if_neg (by omega)]
  obtain ⟨τ, t1, t2⟩ := loop n.toNat 0 [(n, 0)] χ (by omega) (by omega) χf χL
    ⟨by omega, by omega, fun a a0 a1 => Or.inl (χ7 a a0 (by omega)), fun a a0 a1 => χ7 a (by omega) a1⟩
    ⟨by show 0 ≤ n; omega, by show n ≤ n; omega, Or.inl rfl, by rw [← hχ]; unfold up; rw [if_neg (by omega), if_pos ⟨rfl, rfl⟩], by rw [← hχ]; unfold up; rw [if_pos ⟨rfl, rfl⟩], fun p p0 p1 => by have p1 : p < n := p1; exact χ7 p p0 (by omega), fun z => by have z : n < n := z; omega, rfl⟩
    Kc.init
  refine ⟨τ, ?_, t2⟩
  refine Ret.of 2 [some (aR 2), some (aR 4), some (aR 1), none, none, none] rfl (by decide) rfl (Nat.le_of_ble_eq_true rfl) ?_
  refine vX2_drawFirst 60 ?_
  simp only [↓S_X2_drawFirst_1, ↓S_X2_drawFirst_2, ↓pI_c, ↓pL_c, ↓pR_c, ↓pC_I, ↓pC_R, ↓pE_n, ↓gI_0, ↓gI_s, ↓gL_0, ↓gL_s, ↓gR_0, ↓gR_s, ↓popN_0, ↓popN_s, ↓kl_I, ↓kl_L, ↓kl_R, ↓kl_n, ↓put1_0, ↓put1_s, ↓putk_0, ↓putk_s, ↓put2_0, ↓put2_s, ↓putl_0, ↓putl_s, ↓callK_0, ↓callK_1, ↓callK_2, cats_n, cats_c, catA_I, catA_L, catA_R, KL, LV, lval_f, ltag_f, llen_f, lcm_lt, lcm_le, lcm_gt, lcm_ge, lcm_eq, lcm_R1, lcm_R2, inR, inL, true_and, and_true, eq_self, List.head?_cons, Option.some.injEq, Sum.inr.injEq, Sum.inl.injEq, false_or, or_false, true_or, or_true, Nat.reduceAdd, Nat.reduceLeDiff, Int.reduceLE, Int.reduceLT, Int.reduceEq, Int.reduceNeg, Int.reduceAdd, Int.reduceSub, Int.reduceMul, Int.reduceNe, ne_eq, not_false_eq_true, not_true_eq_false, false_implies, forall_const, Nat.le_refl, Nat.zero_le, implies_true, and_self]
  rw [hN]
  have hn4 : (ff (up σ 1 0 n) 7 0 24 (-1)) 4 0 = n := by unfold ff up; rw [if_neg (by omega), if_neg (by omega)]; exact hN
  exact ⟨_, hcl, by rw [hn4]; exact ⟨_, ss, t1⟩⟩

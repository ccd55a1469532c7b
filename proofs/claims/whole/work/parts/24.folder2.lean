/-! Folder: weigh, weighAll, countAll -/
theorem fr_last {α : Type} (g : Int → α → α) : ∀ (k : Nat) (i : Int) (x : α), fr g i (k + 1) x = g (i + k) (fr g i k x)
  | 0, i, x => by simp [fr]
  | k + 1, i, x => by
    rw [fr_s, fr_last g k (i + 1) (g i x), fr_s]
    have e : i + 1 + (k : Int) = i + ((k + 1 : Nat) : Int) := by omega
    rw [e]
def SE (σ χ : Sg) : Prop := ∀ x y, (x = 4 ∨ x = 14 ∨ (41 ≤ x ∧ x < 45)) → χ x y = σ x y
theorem SE.ws {σ χ : Sg} (h : SE σ χ) (hw : WS σ) : WS χ := by
  have e0 := h 4 0 (Or.inl rfl)
  have e1 := h 4 1 (Or.inl rfl)
  have e2 := h 4 2 (Or.inl rfl)
  refine ⟨by rw [e0]; exact hw.1, fun i i0 i1 => ?_, by rw [e1]; exact hw.2.2.1, by rw [e2]; exact hw.2.2.2.1, fun x y x0 x1 y0 y1 => ?_⟩
  · rw [h 14 i (Or.inr (Or.inl rfl))]
    exact hw.2.1 i i0 (by rw [← e0]; exact i1)
  · rw [h (41 + x) y (Or.inr (Or.inr ⟨by omega, by omega⟩))]
    exact hw.2.2.2.2 x y x0 x1 y0 y1
theorem SE.sc {σ χ : Sg} (h : SE σ χ) (hw : WS σ) {a b : Int} (a0 : 0 ≤ a) (a1 : a < σ 4 0) (b0 : 0 ≤ b) (b1 : b < σ 4 0) : csc χ a b = csc σ a b ∧ cmj χ a b = cmj σ a b := by
  have ha := hw.2.1 a a0 a1
  have e1 := h 14 a (Or.inr (Or.inl rfl))
  have e2 := h 14 b (Or.inr (Or.inl rfl))
  have e : csc χ a b = csc σ a b := by
    unfold csc
    rw [e1, e2]
    exact h _ _ (Or.inr (Or.inr ⟨by omega, by omega⟩))
  refine ⟨e, ?_⟩
  unfold cmj
  rw [e, h 4 1 (Or.inl rfl)]
/-- all but the cells of stretch (a, e) and the two numbers at hand -/
def FrW (a e : Int) (σ χ : Sg) : Prop := ∀ x y, ¬ (x = 2 ∧ (y = 7 ∨ y = 8)) → ¬ (y = e ∧ (x = 45 + a ∨ x = 70 + a ∨ x = 95 + a ∨ x = 120 + a)) → χ x y = σ x y
theorem FrW.se {a e : Int} {σ χ : Sg} (a0 : 0 ≤ a) (h : FrW a e σ χ) : SE σ χ := fun x y hx => h x y (by omega) (by omega)
set_option maxRecDepth 100000 in
set_option maxHeartbeats 1000000 in
theorem r_X2_weigh (D : Nat) (σ : Sg) (a e : Int) (h : WS σ) (a0 : 0 ≤ a) (ae : a < e) (en : e ≤ σ 4 0) (hT : ∀ x y, a < x → x ≤ y → y ≤ e → (-41 * (y - x) ≤ cT0 σ x y ∧ cT0 σ x y ≤ 0) ∧ (-41 * (y - x) ≤ cT1 σ x y ∧ cT1 σ x y ≤ 0)) (hW : cW0 σ e e = 1) (hE : cT0 σ e e = 0) :
    ∃ τ, Ret (D + 3) miX2_weigh [aR 2, aR 4, aI a, aI e] σ none τ ∧ FrW a e σ τ ∧ (τ (45 + a) e, τ (95 + a) e) = fr (stp (csc σ) (cmj σ) (σ 4 2) (cT0 σ) (cT1 σ) (cW0 σ) (cW1 σ) 0 a e) (a + 1) (e - (a + 1)).toNat (cT0 σ (a + 1) e, cW0 σ (a + 1) e) ∧ (τ (70 + a) e, τ (120 + a) e) = fr (stp (csc σ) (cmj σ) (σ 4 2) (cT0 σ) (cT1 σ) (cW0 σ) (cW1 σ) 1 a e) (a + 1) (e - (a + 1)).toNat (cT0 σ (a + 1) e, cW0 σ (a + 1) e) := by
  have hn := h.1
  have hbn := h.2.2.2.1
  have hsB : scB (σ 4 0) (csc σ) (σ 4 2) := ⟨fun x y x0 x1 y0 y1 => h.sc x0 x1 y0 y1, hbn.1, hbn.2⟩
  have hka := (krow (i := a)).2.1 (by omega) (by omega)
  have hka1 := (krow (i := a + 1)).2.1 (by omega) (by omega)
  -- behind the loop
  have after : ∀ (χ : Sg), (∀ x y, ¬ (x = 2 ∧ (y = 7 ∨ y = 8)) → χ x y = σ x y) → (χ 2 7, χ 2 8) = fr (stp (csc σ) (cmj σ) (σ 4 2) (cT0 σ) (cT1 σ) (cW0 σ) (cW1 σ) 0 a e) (a + 1) (e - 1 - (a + 1)).toNat (cT0 σ (a + 1) e, cW0 σ (a + 1) e) →
      ∀ c : Int, a + 1 ≤ c → e - 1 ≤ c → c ≤ 25 → ∃ τ, V (D + 2) miX2_weigh 2 none τ 38 [some (aR 2), some (aR 4), some (aI a), some (aI e), some (aI (e - 1)), some (aI c)] [] χ ∧ FrW a e σ τ ∧ (τ (45 + a) e, τ (95 + a) e) = fr (stp (csc σ) (cmj σ) (σ 4 2) (cT0 σ) (cT1 σ) (cW0 σ) (cW1 σ) 0 a e) (a + 1) (e - (a + 1)).toNat (cT0 σ (a + 1) e, cW0 σ (a + 1) e) ∧ (τ (70 + a) e, τ (120 + a) e) = fr (stp (csc σ) (cmj σ) (σ 4 2) (cT0 σ) (cT1 σ) (cW0 σ) (cW1 σ) 1 a e) (a + 1) (e - (a + 1)).toNat (cT0 σ (a + 1) e, cW0 σ (a + 1) e) := by
    intro χ hχ hx c c0 c1 c2
    have x1b := stp_bd (mj := cmj σ) (W0 := cW0 σ) (W1 := cW1 σ) hsB (w := 0) a0 ae en hT (e - 1 - (a + 1)).toNat (a + 1) (cT0 σ (a + 1) e, cW0 σ (a + 1) e) (by omega) (by omega) (by have := (hT (a + 1) e (by omega) (by omega) (by omega)).1; show -41 * (e - a) ≤ cT0 σ (a + 1) e ∧ cT0 σ (a + 1) e ≤ 0; omega)
    rw [← hx] at x1b
    have x1b : -41 * (e - a) ≤ χ 2 7 ∧ χ 2 7 ≤ 0 := x1b
    -- the bound one walks alike up to there
    have hx1 : (χ 2 7, χ 2 8) = fr (stp (csc σ) (cmj σ) (σ 4 2) (cT0 σ) (cT1 σ) (cW0 σ) (cW1 σ) 1 a e) (a + 1) (e - 1 - (a + 1)).toNat (cT0 σ (a + 1) e, cW0 σ (a + 1) e) := by
      rw [hx]
      refine fr_congr _ _ _ (fun j x j0 j1 => ?_)
      unfold stp
      rw [if_neg (show ¬ ((0 : Int) = 1 ∧ j = e - 1) by omega), if_neg (show ¬ ((1 : Int) = 1 ∧ j = e - 1) by omega)]
    -- keepBound, keepLoose
    have k1 := r_X2_keepBound (D + 1) χ a e (by omega) (by omega) (by omega) (by omega)
    generalize hω : up (up χ (70 + a) e (χ 2 7)) (120 + a) e (χ 2 8) = ω at k1
    have k2 := r_X2_keepLoose (D + 1) ω a e (by omega) (by omega) (by omega) (by omega)
    have ω27 : ω 2 7 = χ 2 7 := by rw [← hω]; unfold up; rw [if_neg (by omega), if_neg (by omega)]
    have ω28 : ω 2 8 = χ 2 8 := by rw [← hω]; unfold up; rw [if_neg (by omega), if_neg (by omega)]
    rw [ω27, ω28] at k2
    generalize hψ : up (up ω (45 + a) e (χ 2 7)) (95 + a) e (χ 2 8) = ψ at k2
    have ψfr : FrW a e σ ψ := fun x y h1 h2 => by
      rw [← hψ, ← hω]
      unfold up
      rw [if_neg (by omega), if_neg (by omega), if_neg (by omega), if_neg (by omega)]
      exact hχ x y h1
    have ψ0 : ψ (45 + a) e = χ 2 7 ∧ ψ (95 + a) e = χ 2 8 ∧ ψ (70 + a) e = χ 2 7 ∧ ψ (120 + a) e = χ 2 8 ∧ ψ 2 7 = χ 2 7 ∧ ψ 2 8 = χ 2 8 := by
      rw [← hψ, ← hω]
      unfold up
      refine ⟨?_, ?_, ?_, ?_, ?_, ?_⟩
      · rw [if_neg (by omega), if_pos ⟨rfl, rfl⟩]
      · rw [if_pos ⟨rfl, rfl⟩]
      · rw [if_neg (by omega), if_neg (by omega), if_neg (by omega), if_pos ⟨rfl, rfl⟩]
      · rw [if_neg (by omega), if_neg (by omega), if_pos ⟨rfl, rfl⟩]
      · rw [if_neg (by omega), if_neg (by omega), if_neg (by omega), if_neg (by omega)]
      · rw [if_neg (by omega), if_neg (by omega), if_neg (by omega), if_neg (by omega)]
    have ψse := ψfr.se a0
    have ψws := ψse.ws h
    have ψ40 : ψ 4 0 = σ 4 0 := ψse 4 0 (Or.inl rfl)
    by_cases c3 : e = a + 1
    · -- a single letter
      have z0 : (e - (a + 1)).toNat = 0 := by omega
      have z1 : (e - 1 - (a + 1)).toNat = 0 := by omega
      rw [z1] at hx hx1
      rw [z0]
      refine ⟨ψ, ?_, ψfr, ?_, ?_⟩
      · refine vX2_weigh 200 ?_
        simp only [↓S_X2_weigh_1, ↓S_X2_weigh_2, ↓S_X2_weigh_3, ↓S_X2_weigh_4, ↓pI_c, ↓pL_c, ↓pR_c, ↓pC_I, ↓pC_R, ↓pE_n, ↓gI_0, ↓gI_s, ↓gL_0, ↓gL_s, ↓gR_0, ↓gR_s, ↓popN_0, ↓popN_s, ↓kl_I, ↓kl_L, ↓kl_R, ↓kl_n, ↓put1_0, ↓put1_s, ↓putk_0, ↓putk_s, ↓put2_0, ↓put2_s, ↓putl_0, ↓putl_s, ↓callK_0, ↓callK_1, ↓callK_2, cats_n, cats_c, catA_I, catA_L, catA_R, KL, LV, lval_f, ltag_f, llen_f, lcm_lt, lcm_le, lcm_gt, lcm_ge, lcm_eq, lcm_R1, lcm_R2, inR, inL, true_and, and_true, eq_self, List.head?_cons, Option.some.injEq, Sum.inr.injEq, Sum.inl.injEq, false_or, or_false, true_or, or_true, Nat.reduceAdd, Nat.reduceLeDiff, Int.reduceLE, Int.reduceLT, Int.reduceEq, Int.reduceNeg, Int.reduceAdd, Int.reduceSub, Int.reduceMul, Int.reduceNe, ne_eq, not_false_eq_true, not_true_eq_false, false_implies, forall_const, Nat.le_refl, Nat.zero_le, implies_true, and_self]
        refine ⟨by omega, by omega, fun q => ⟨_, k1, _, k2, by omega, by omega, fun q2 => ?_, fun q2 => by omega⟩, fun q => by omega⟩
        trivial
      · rw [ψ0.1, ψ0.2.1, hx]
      · rw [ψ0.2.2.1, ψ0.2.2.2.1, hx1]
    · have z0 : (e - (a + 1)).toNat = (e - 1 - (a + 1)).toNat + 1 := by omega
      rw [z0, fr_last, fr_last, ← hx, ← hx1]
      have ei : a + 1 + ((e - 1 - (a + 1)).toNat : Int) = e - 1 := by omega
      rw [ei]
      have hmj := r_X4_mayJoin (D) ψ a (e - 1) ψws a0 (by omega) (by omega) (by omega)
      have hsm := ψse.sc h a0 (show a < σ 4 0 by omega) (show 0 ≤ e - 1 by omega) (by omega)
      rw [hsm.2] at hmj
      unfold stp
      by_cases c4 : cmj σ a (e - 1) = true
      · rw [if_pos c4] at hmj
        rw [if_pos c4, if_pos c4, if_neg (show ¬ ((0 : Int) = 1 ∧ e - 1 = e - 1) by omega), if_pos (show (1 : Int) = 1 ∧ e - 1 = e - 1 from ⟨rfl, rfl⟩)]
        have ee : e - 1 + 1 = e := by omega
        rw [ee]
        have hE2 : cT0 σ e e = 0 := hE
        rw [hE2, hW, Int.mul_one]
        have b1 := (hT (a + 1) (e - 1) (by omega) (by omega) (by omega)).2
        have b3 := h.sc a0 (show a < σ 4 0 by omega) (show 0 ≤ e - 1 by omega) (show e - 1 < σ 4 0 by omega)
        have sw := r_X2_scoreWith (D) ψ a (e - 1) e ψws a0 (by omega) (by omega) (by omega)
        rw [hsm.1] at sw
        have ψt1 : cT1 ψ (a + 1) (e - 1) = cT1 σ (a + 1) (e - 1) := ψfr _ _ (by omega) (by omega)
        have ψt0 : cT0 ψ (e - 1 + 1) e = 0 := by rw [ee, ← hE2]; exact ψfr _ _ (by omega) (by omega)
        have ψw1 : ψ (120 + (a + 1)) (e - 1) = cW1 σ (a + 1) (e - 1) := ψfr _ _ (by omega) (by omega)
        rw [ψt1, ψt0] at sw
        generalize hwh : csc σ a (e - 1) + cT1 σ (a + 1) (e - 1) + 0 = wh at sw
        obtain ⟨φ, o1, o2, o3⟩ := r_X2_offer (D + 1) ψ wh (cW1 σ (a + 1) (e - 1)) (by omega) (by rw [ψ0.2.2.2.2.1]; omega)
        rw [ψ0.2.2.2.2.1, ψ0.2.2.2.2.2] at o3
        have k3 := r_X2_keepLoose (D + 1) φ a e (by omega) (by omega) (by omega) (by omega)
        generalize hμ : up (up φ (45 + a) e (φ 2 7)) (95 + a) e (φ 2 8) = μ at k3
        have μ7 : μ (70 + a) e = χ 2 7 := by rw [← hμ]; unfold up; rw [if_neg (by omega), if_neg (by omega), o2 _ _ (by omega)]; exact ψ0.2.2.1
        have μ12 : μ (120 + a) e = χ 2 8 := by rw [← hμ]; unfold up; rw [if_neg (by omega), if_neg (by omega), o2 _ _ (by omega)]; exact ψ0.2.2.2.1
        have μb : μ 4 2 = σ 4 2 := by rw [← hμ]; unfold up; rw [if_neg (by omega), if_neg (by omega), o2 _ _ (by omega)]; exact ψse 4 2 (Or.inl rfl)
        have μw1 : μ (120 + (a + 1)) (e - 1) = cW1 σ (a + 1) (e - 1) := by rw [← hμ]; unfold up; rw [if_neg (by omega), if_neg (by omega), o2 _ _ (by omega)]; exact ψw1
        generalize hκ : up (up μ 2 7 (χ 2 7)) 2 8 (χ 2 8) = κ
        have κ7 : κ 2 7 = χ 2 7 := by rw [← hκ]; unfold up; rw [if_neg (by omega), if_pos ⟨rfl, rfl⟩]
        have κ8 : κ 2 8 = χ 2 8 := by rw [← hκ]; unfold up; rw [if_pos ⟨rfl, rfl⟩]
        have κb : κ 4 2 = σ 4 2 := by rw [← hκ]; unfold up; rw [if_neg (by omega), if_neg (by omega)]; exact μb
        have κw1 : κ (120 + (a + 1)) (e - 1) = cW1 σ (a + 1) (e - 1) := by rw [← hκ]; unfold up; rw [if_neg (by omega), if_neg (by omega)]; exact μw1
        obtain ⟨θ, p1, p2, p3⟩ := r_X2_offer (D + 1) κ (wh + σ 4 2) (cW1 σ (a + 1) (e - 1)) (by omega) (by rw [κ7]; omega)
        rw [κ7, κ8] at p3
        have k4 := r_X2_keepBound (D + 1) θ a e (by omega) (by omega) (by omega) (by omega)
        have m712 : up μ 2 7 (χ 2 7) (120 + a) e = χ 2 8 := by unfold up; rw [if_neg (by omega)]; exact μ12
        refine ⟨up (up θ (70 + a) e (θ 2 7)) (120 + a) e (θ 2 8), ?_, fun x y h1 h2 => ?_, ?_, ?_⟩
        · refine vX2_weigh 200 ?_
          simp only [↓S_X2_weigh_1, ↓S_X2_weigh_2, ↓S_X2_weigh_3, ↓S_X2_weigh_4, ↓pI_c, ↓pL_c, ↓pR_c, ↓pC_I, ↓pC_R, ↓pE_n, ↓gI_0, ↓gI_s, ↓gL_0, ↓gL_s, ↓gR_0, ↓gR_s, ↓popN_0, ↓popN_s, ↓kl_I, ↓kl_L, ↓kl_R, ↓kl_n, ↓put1_0, ↓put1_s, ↓putk_0, ↓putk_s, ↓put2_0, ↓put2_s, ↓putl_0, ↓putl_s, ↓callK_0, ↓callK_1, ↓callK_2, cats_n, cats_c, catA_I, catA_L, catA_R, KL, LV, lval_f, ltag_f, llen_f, lcm_lt, lcm_le, lcm_gt, lcm_ge, lcm_eq, lcm_R1, lcm_R2, inR, inL, true_and, and_true, eq_self, List.head?_cons, Option.some.injEq, Sum.inr.injEq, Sum.inl.injEq, false_or, or_false, true_or, or_true, Nat.reduceAdd, Nat.reduceLeDiff, Int.reduceLE, Int.reduceLT, Int.reduceEq, Int.reduceNeg, Int.reduceAdd, Int.reduceSub, Int.reduceMul, Int.reduceNe, ne_eq, not_false_eq_true, not_true_eq_false, false_implies, forall_const, Nat.le_refl, Nat.zero_le, implies_true, and_self]
          refine ⟨by omega, by omega, fun q => ⟨_, k1, _, k2, by omega, by omega, fun q2 => by omega, fun q2 => ⟨_, _, hmj, by omega, fun q3 => by omega, fun q3 => ⟨_, _, sw, by omega, by omega, ?_⟩⟩⟩, fun q => by omega⟩
          rw [ltag_n (by omega), llen_n (by omega), lval_n (by omega), hka1.2.2.2.2.2.2.1, hka1.2.2.2.2.2.2.2.1, ψw1]
          refine ⟨rfl, by omega, by omega, _, o1, _, k3, by omega, by omega, ?_⟩
          rw [hka.2.2.1, hka.2.2.2.1, ltag_n (by omega), llen_n (by omega), lval_n (by omega), hka.2.2.2.2.2.2.1, hka.2.2.2.2.2.2.2.1, μ7, m712, hκ, κb]
          refine ⟨rfl, by omega, by omega, by omega, by omega, rfl, by omega, by omega, by omega, by omega, ?_⟩
          rw [lval_n (by omega), κw1]
          exact ⟨rfl, by omega, by omega, _, p1, _, k4, rfl⟩
        · unfold up
          rw [if_neg (by omega), if_neg (by omega), p2 _ _ h1, ← hκ]
          unfold up
          rw [if_neg (by omega), if_neg (by omega), ← hμ]
          unfold up
          rw [if_neg (by omega), if_neg (by omega), o2 _ _ h1]
          exact ψfr x y h1 h2
        · have l1 : (up (up θ (70 + a) e (θ 2 7)) (120 + a) e (θ 2 8)) (45 + a) e = φ 2 7 := by
            unfold up
            rw [if_neg (by omega), if_neg (by omega), p2 _ _ (by omega), ← hκ]
            unfold up
            rw [if_neg (by omega), if_neg (by omega), ← hμ]
            unfold up
            rw [if_neg (by omega), if_pos ⟨rfl, rfl⟩]
          have l2 : (up (up θ (70 + a) e (θ 2 7)) (120 + a) e (θ 2 8)) (95 + a) e = φ 2 8 := by
            unfold up
            rw [if_neg (by omega), if_neg (by omega), p2 _ _ (by omega), ← hκ]
            unfold up
            rw [if_neg (by omega), if_neg (by omega), ← hμ]
            unfold up
            rw [if_pos ⟨rfl, rfl⟩]
          rw [l1, l2, o3]
          congr 1
          omega
        · have l1 : (up (up θ (70 + a) e (θ 2 7)) (120 + a) e (θ 2 8)) (70 + a) e = θ 2 7 := by
            unfold up
            rw [if_neg (by omega), if_pos ⟨rfl, rfl⟩]
          have l2 : (up (up θ (70 + a) e (θ 2 7)) (120 + a) e (θ 2 8)) (120 + a) e = θ 2 8 := by
            unfold up
            rw [if_pos ⟨rfl, rfl⟩]
          rw [l1, l2, p3]
          congr 1
          omega
      · rw [if_neg c4] at hmj
        rw [if_neg c4, if_neg c4]
        refine ⟨ψ, ?_, ψfr, by rw [ψ0.1, ψ0.2.1], by rw [ψ0.2.2.1, ψ0.2.2.2.1]⟩
        refine vX2_weigh 200 ?_
        simp only [↓S_X2_weigh_1, ↓S_X2_weigh_2, ↓S_X2_weigh_3, ↓S_X2_weigh_4, ↓pI_c, ↓pL_c, ↓pR_c, ↓pC_I, ↓pC_R, ↓pE_n, ↓gI_0, ↓gI_s, ↓gL_0, ↓gL_s, ↓gR_0, ↓gR_s, ↓popN_0, ↓popN_s, ↓kl_I, ↓kl_L, ↓kl_R, ↓kl_n, ↓put1_0, ↓put1_s, ↓putk_0, ↓putk_s, ↓put2_0, ↓put2_s, ↓putl_0, ↓putl_s, ↓callK_0, ↓callK_1, ↓callK_2, cats_n, cats_c, catA_I, catA_L, catA_R, KL, LV, lval_f, ltag_f, llen_f, lcm_lt, lcm_le, lcm_gt, lcm_ge, lcm_eq, lcm_R1, lcm_R2, inR, inL, true_and, and_true, eq_self, List.head?_cons, Option.some.injEq, Sum.inr.injEq, Sum.inl.injEq, false_or, or_false, true_or, or_true, Nat.reduceAdd, Nat.reduceLeDiff, Int.reduceLE, Int.reduceLT, Int.reduceEq, Int.reduceNeg, Int.reduceAdd, Int.reduceSub, Int.reduceMul, Int.reduceNe, ne_eq, not_false_eq_true, not_true_eq_false, false_implies, forall_const, Nat.le_refl, Nat.zero_le, implies_true, and_self]
        refine ⟨by omega, by omega, fun q => ⟨_, k1, _, k2, by omega, by omega, fun q2 => by omega, fun q2 => ⟨_, _, hmj, by omega, fun q3 => ?_, fun q3 => by omega⟩⟩, fun q => by omega⟩
        trivial
  have loop : ∀ (k : Nat) (c : Int) (χ : Sg), a + 1 ≤ c → (e - 1 - c).toNat = k → c ≤ 25 → (∀ x y, ¬ (x = 2 ∧ (y = 7 ∨ y = 8)) → χ x y = σ x y) → (c ≤ e - 1 ∨ c = a + 1) → (χ 2 7, χ 2 8) = fr (stp (csc σ) (cmj σ) (σ 4 2) (cT0 σ) (cT1 σ) (cW0 σ) (cW1 σ) 0 a e) (a + 1) (c - (a + 1)).toNat (cT0 σ (a + 1) e, cW0 σ (a + 1) e) →
      ∃ τ, V (D + 2) miX2_weigh 2 none τ 38 [some (aR 2), some (aR 4), some (aI a), some (aI e), some (aI (e - 1)), some (aI c)] [] χ ∧ FrW a e σ τ ∧ (τ (45 + a) e, τ (95 + a) e) = fr (stp (csc σ) (cmj σ) (σ 4 2) (cT0 σ) (cT1 σ) (cW0 σ) (cW1 σ) 0 a e) (a + 1) (e - (a + 1)).toNat (cT0 σ (a + 1) e, cW0 σ (a + 1) e) ∧ (τ (70 + a) e, τ (120 + a) e) = fr (stp (csc σ) (cmj σ) (σ 4 2) (cT0 σ) (cT1 σ) (cW0 σ) (cW1 σ) 1 a e) (a + 1) (e - (a + 1)).toNat (cT0 σ (a + 1) e, cW0 σ (a + 1) e) := by
    intro k
    induction k with
    | zero =>
      intro c χ c0 c1 c2 hχ hc hx
      refine after χ hχ ?_ c c0 (by omega) c2
      rw [hx]
      have : (c - (a + 1)).toNat = (e - 1 - (a + 1)).toNat := by omega
      rw [this]
    | succ k ih =>
      intro c χ c0 c1 c2 hχ hc hx
      have χse : SE σ χ := fun x y h1 => hχ x y (by omega)
      have χws := χse.ws h
      have χ40 : χ 4 0 = σ 4 0 := χse 4 0 (Or.inl rfl)
      have hsm := χse.sc h a0 (show a < σ 4 0 by omega) (show 0 ≤ c by omega) (by omega)
      have hmj := r_X4_mayJoin (D) χ a c χws a0 (by omega) (by omega) (by omega)
      rw [hsm.2] at hmj
      have hkc := (krow (i := c + 1)).2.1 (by omega) (by omega)
      have xb := stp_bd (mj := cmj σ) (W0 := cW0 σ) (W1 := cW1 σ) hsB (w := 0) a0 ae en hT (c - (a + 1)).toNat (a + 1) (cT0 σ (a + 1) e, cW0 σ (a + 1) e) (by omega) (by omega) (by have := (hT (a + 1) e (by omega) (by omega) (by omega)).1; show -41 * (e - a) ≤ cT0 σ (a + 1) e ∧ cT0 σ (a + 1) e ≤ 0; omega)
      rw [← hx] at xb
      have xb : -41 * (e - a) ≤ χ 2 7 ∧ χ 2 7 ≤ 0 := xb
      have zc : (c + 1 - (a + 1)).toNat = (c - (a + 1)).toNat + 1 := by omega
      have zi : a + 1 + ((c - (a + 1)).toNat : Int) = c := by omega
      by_cases c4 : cmj σ a c = true
      · rw [if_pos c4] at hmj
        have b1 := (hT (a + 1) c (by omega) (by omega) (by omega)).2
        have b2 := (hT (c + 1) e (by omega) (by omega) (by omega)).1
        have b3 := h.sc a0 (show a < σ 4 0 by omega) (show 0 ≤ c by omega) (show c < σ 4 0 by omega)
        have sw := r_X2_scoreWith (D) χ a c e χws a0 (by omega) (by omega) (by omega)
        rw [hsm.1] at sw
        have χt1 : cT1 χ (a + 1) c = cT1 σ (a + 1) c := hχ _ _ (by omega)
        have χt0 : cT0 χ (c + 1) e = cT0 σ (c + 1) e := hχ _ _ (by omega)
        have χw1 : χ (120 + (a + 1)) c = cW1 σ (a + 1) c := hχ _ _ (by omega)
        have χw0 : χ (95 + (c + 1)) e = cW0 σ (c + 1) e := hχ _ _ (by omega)
        rw [χt1, χt0] at sw
        obtain ⟨φ, o1, o2, o3⟩ := r_X2_offer (D + 1) χ (csc σ a c + cT1 σ (a + 1) c + cT0 σ (c + 1) e) (cW1 σ (a + 1) c * cW0 σ (c + 1) e) (by omega) (by omega)
        obtain ⟨τ, t1, t2⟩ := ih (c + 1) φ (by omega) (by omega) (by omega) (fun x y h1 => by rw [o2 x y h1]; exact hχ x y h1) (by omega) (by
          rw [o3, zc, fr_last, zi, ← hx]
          unfold stp
          rw [if_pos c4, if_neg (show ¬ ((0 : Int) = 1 ∧ c = e - 1) by omega), Int.add_zero])
        refine ⟨τ, ?_, t2⟩
        refine vX2_weigh 200 ?_
        simp only [↓S_X2_weigh_1, ↓S_X2_weigh_2, ↓S_X2_weigh_3, ↓S_X2_weigh_4, ↓pI_c, ↓pL_c, ↓pR_c, ↓pC_I, ↓pC_R, ↓pE_n, ↓gI_0, ↓gI_s, ↓gL_0, ↓gL_s, ↓gR_0, ↓gR_s, ↓popN_0, ↓popN_s, ↓kl_I, ↓kl_L, ↓kl_R, ↓kl_n, ↓put1_0, ↓put1_s, ↓putk_0, ↓putk_s, ↓put2_0, ↓put2_s, ↓putl_0, ↓putl_s, ↓callK_0, ↓callK_1, ↓callK_2, cats_n, cats_c, catA_I, catA_L, catA_R, KL, LV, lval_f, ltag_f, llen_f, lcm_lt, lcm_le, lcm_gt, lcm_ge, lcm_eq, lcm_R1, lcm_R2, inR, inL, true_and, and_true, eq_self, List.head?_cons, Option.some.injEq, Sum.inr.injEq, Sum.inl.injEq, false_or, or_false, true_or, or_true, Nat.reduceAdd, Nat.reduceLeDiff, Int.reduceLE, Int.reduceLT, Int.reduceEq, Int.reduceNeg, Int.reduceAdd, Int.reduceSub, Int.reduceMul, Int.reduceNe, ne_eq, not_false_eq_true, not_true_eq_false, false_implies, forall_const, Nat.le_refl, Nat.zero_le, implies_true, and_self]
        refine ⟨by omega, by omega, fun q => by omega, fun q => ⟨_, _, hmj, by omega, fun q3 => by omega, fun q3 => ⟨_, _, sw, by omega, by omega, ?_⟩⟩⟩
        rw [ltag_n (by omega), llen_n (by omega), lval_n (by omega), ltag_n (by omega), llen_n (by omega), lval_n (by omega), hka1.2.2.2.2.2.2.1, hka1.2.2.2.2.2.2.2.1, hkc.2.2.2.2.1, hkc.2.2.2.2.2.1, χw1, χw0]
        exact ⟨rfl, by omega, by omega, by omega, by omega, rfl, by omega, by omega, _, o1, t1⟩
      · rw [if_neg c4] at hmj
        obtain ⟨τ, t1, t2⟩ := ih (c + 1) χ (by omega) (by omega) (by omega) hχ (by omega) (by
          rw [zc, fr_last, zi, ← hx]
          unfold stp
          rw [if_neg c4])
        refine ⟨τ, ?_, t2⟩
        refine vX2_weigh 200 ?_
        simp only [↓S_X2_weigh_1, ↓S_X2_weigh_2, ↓S_X2_weigh_3, ↓S_X2_weigh_4, ↓pI_c, ↓pL_c, ↓pR_c, ↓pC_I, ↓pC_R, ↓pE_n, ↓gI_0, ↓gI_s, ↓gL_0, ↓gL_s, ↓gR_0, ↓gR_s, ↓popN_0, ↓popN_s, ↓kl_I, ↓kl_L, ↓kl_R, ↓kl_n, ↓put1_0, ↓put1_s, ↓putk_0, ↓putk_s, ↓put2_0, ↓put2_s, ↓putl_0, ↓putl_s, ↓callK_0, ↓callK_1, ↓callK_2, cats_n, cats_c, catA_I, catA_L, catA_R, KL, LV, lval_f, ltag_f, llen_f, lcm_lt, lcm_le, lcm_gt, lcm_ge, lcm_eq, lcm_R1, lcm_R2, inR, inL, true_and, and_true, eq_self, List.head?_cons, Option.some.injEq, Sum.inr.injEq, Sum.inl.injEq, false_or, or_false, true_or, or_true, Nat.reduceAdd, Nat.reduceLeDiff, Int.reduceLE, Int.reduceLT, Int.reduceEq, Int.reduceNeg, Int.reduceAdd, Int.reduceSub, Int.reduceMul, Int.reduceNe, ne_eq, not_false_eq_true, not_true_eq_false, false_implies, forall_const, Nat.le_refl, Nat.zero_le, implies_true, and_self]
        refine ⟨by omega, by omega, fun q => by omega, fun q => ⟨_, _, hmj, by omega, fun q3 => t1, fun q3 => by omega⟩⟩
  have u8 : up σ 2 7 (σ (45 + (a + 1)) e) (95 + (a + 1)) e = cW0 σ (a + 1) e := by unfold up; rw [if_neg (by omega)]
  obtain ⟨τ, t1, t2⟩ := loop (e - 1 - (a + 1)).toNat (a + 1) (up (up σ 2 7 (cT0 σ (a + 1) e)) 2 8 (cW0 σ (a + 1) e)) (by omega) rfl (by omega) (fun x y h1 => by unfold up; rw [if_neg (by omega), if_neg (by omega)]) (Or.inr rfl) (by
    have z : (a + 1 - (a + 1)).toNat = 0 := by omega
    rw [z]
    unfold up
    rw [if_neg (by omega), if_pos ⟨rfl, rfl⟩, if_pos ⟨rfl, rfl⟩]
    rfl)
  refine ⟨τ, ?_, t2⟩
  refine Ret.of 2 [some (aR 2), some (aR 4), some (aI a), some (aI e), none, none] rfl (by decide) rfl (Nat.le_of_ble_eq_true rfl) ?_
  refine vX2_weigh 200 ?_
  simp only [↓S_X2_weigh_1, ↓S_X2_weigh_2, ↓S_X2_weigh_3, ↓S_X2_weigh_4, ↓pI_c, ↓pL_c, ↓pR_c, ↓pC_I, ↓pC_R, ↓pE_n, ↓gI_0, ↓gI_s, ↓gL_0, ↓gL_s, ↓gR_0, ↓gR_s, ↓popN_0, ↓popN_s, ↓kl_I, ↓kl_L, ↓kl_R, ↓kl_n, ↓put1_0, ↓put1_s, ↓putk_0, ↓putk_s, ↓put2_0, ↓put2_s, ↓putl_0, ↓putl_s, ↓callK_0, ↓callK_1, ↓callK_2, cats_n, cats_c, catA_I, catA_L, catA_R, KL, LV, lval_f, ltag_f, llen_f, lcm_lt, lcm_le, lcm_gt, lcm_ge, lcm_eq, lcm_R1, lcm_R2, inR, inL, true_and, and_true, eq_self, List.head?_cons, Option.some.injEq, Sum.inr.injEq, Sum.inl.injEq, false_or, or_false, true_or, or_true, Nat.reduceAdd, Nat.reduceLeDiff, Int.reduceLE, Int.reduceLT, Int.reduceEq, Int.reduceNeg, Int.reduceAdd, Int.reduceSub, Int.reduceMul, Int.reduceNe, ne_eq, not_false_eq_true, not_true_eq_false, false_implies, forall_const, Nat.le_refl, Nat.zero_le, implies_true, and_self]
  rw [hka1.1, hka1.2.1, ltag_n (by omega), llen_n (by omega), lval_n (by omega), hka1.2.2.2.2.1, hka1.2.2.2.2.2.1, u8]
  exact ⟨by omega, by omega, rfl, by omega, by omega, by omega, by omega, rfl, by omega, by omega, t1⟩

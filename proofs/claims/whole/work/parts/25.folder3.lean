/-! Folder: weighAll, countAll -/
def EQ (σ : Sg) (a e : Int) : Prop := (a = e → cT0 σ a e = 0 ∧ cT1 σ a e = 0 ∧ cW0 σ a e = 1 ∧ cW1 σ a e = 1) ∧ (a < e → (cT0 σ a e, cW0 σ a e) = fr (stp (csc σ) (cmj σ) (σ 4 2) (cT0 σ) (cT1 σ) (cW0 σ) (cW1 σ) 0 a e) (a + 1) (e - (a + 1)).toNat (cT0 σ (a + 1) e, cW0 σ (a + 1) e) ∧ (cT1 σ a e, cW1 σ a e) = fr (stp (csc σ) (cmj σ) (σ 4 2) (cT0 σ) (cT1 σ) (cW0 σ) (cW1 σ) 1 a e) (a + 1) (e - (a + 1)).toNat (cT0 σ (a + 1) e, cW0 σ (a + 1) e))
theorem fold_tr {σ χ : Sg} (hw : WS σ) (hse : SE σ χ) {a e : Int} (a0 : 0 ≤ a) (ae : a < e) (en : e ≤ σ 4 0) (hc : ∀ u v, a < u → u ≤ v → v ≤ e → cT0 χ u v = cT0 σ u v ∧ cT1 χ u v = cT1 σ u v ∧ cW0 χ u v = cW0 σ u v ∧ cW1 χ u v = cW1 σ u v) (w : Int) :
    fr (stp (csc χ) (cmj χ) (χ 4 2) (cT0 χ) (cT1 χ) (cW0 χ) (cW1 χ) w a e) (a + 1) (e - (a + 1)).toNat (cT0 χ (a + 1) e, cW0 χ (a + 1) e) = fr (stp (csc σ) (cmj σ) (σ 4 2) (cT0 σ) (cT1 σ) (cW0 σ) (cW1 σ) w a e) (a + 1) (e - (a + 1)).toNat (cT0 σ (a + 1) e, cW0 σ (a + 1) e) := by
  have i1 := hc (a + 1) e (by omega) (by omega) (by omega)
  rw [i1.1, i1.2.2.1]
  refine fr_congr _ _ _ (fun j x j0 j1 => ?_)
  have i2 := hc (a + 1) j (by omega) (by omega) (by omega)
  have i3 := hc (j + 1) e (by omega) (by omega) (by omega)
  have i4 := hse.sc hw a0 (show a < σ 4 0 by omega) (show 0 ≤ j by omega) (show j < σ 4 0 by omega)
  unfold stp
  rw [i2.2.1, i2.2.2.2, i3.1, i3.2.2.1, i4.1, i4.2, hse 4 2 (Or.inl rfl)]
theorem EQ.tr {σ χ : Sg} (hw : WS σ) (hse : SE σ χ) {a e : Int} (a0 : 0 ≤ a) (ae : a ≤ e) (en : e ≤ σ 4 0) (hc : ∀ u v, a < u → u ≤ v → v ≤ e → cT0 χ u v = cT0 σ u v ∧ cT1 χ u v = cT1 σ u v ∧ cW0 χ u v = cW0 σ u v ∧ cW1 χ u v = cW1 σ u v) (h0 : cT0 χ a e = cT0 σ a e ∧ cT1 χ a e = cT1 σ a e ∧ cW0 χ a e = cW0 σ a e ∧ cW1 χ a e = cW1 σ a e) (h : EQ σ a e) : EQ χ a e := by
  refine ⟨fun q => ?_, fun q => ?_⟩
  · rw [h0.1, h0.2.1, h0.2.2.1, h0.2.2.2]
    exact h.1 q
  · rw [fold_tr hw hse a0 q en hc 0, fold_tr hw hse a0 q en hc 1, h0.1, h0.2.1, h0.2.2.1, h0.2.2.2]
    exact h.2 q
/-- bounds of the rows behind a -/
theorem EQ.bd {σ : Sg} (hw : WS σ) {lo : Int} (l0 : 0 ≤ lo) (h : ∀ x y, lo ≤ x → x ≤ y → y ≤ σ 4 0 → EQ σ x y) : ∀ (k : Nat) (a e : Int), lo ≤ a → a ≤ e → e ≤ σ 4 0 → e - a < k → (-41 * (e - a) ≤ cT0 σ a e ∧ cT0 σ a e ≤ 0) ∧ (-41 * (e - a) ≤ cT1 σ a e ∧ cT1 σ a e ≤ 0)
  | 0, a, e, _, h1, _, h2 => by omega
  | k + 1, a, e, a0, ae, en, hk => by
    obtain ⟨d1, d2⟩ := h a e a0 ae en
    by_cases q : a = e
    · have := d1 q
      omega
    · obtain ⟨g1, g2⟩ := d2 (by omega)
      have hsB : scB (σ 4 0) (csc σ) (σ 4 2) := ⟨fun x y x0 x1 y0 y1 => hw.sc x0 x1 y0 y1, hw.2.2.2.1.1, hw.2.2.2.1.2⟩
      have ih : ∀ x y, a < x → x ≤ y → y ≤ e → (-41 * (y - x) ≤ cT0 σ x y ∧ cT0 σ x y ≤ 0) ∧ (-41 * (y - x) ≤ cT1 σ x y ∧ cT1 σ x y ≤ 0) := fun x y h1 h2 h3 => EQ.bd hw l0 h k x y (by omega) h2 (by omega) (by omega)
      have i0 := (ih (a + 1) e (by omega) (by omega) (by omega)).1
      have s0 := stp_bd (mj := cmj σ) (W0 := cW0 σ) (W1 := cW1 σ) hsB (w := 0) (show 0 ≤ a by omega) (show a < e by omega) en ih (e - (a + 1)).toNat (a + 1) (cT0 σ (a + 1) e, cW0 σ (a + 1) e) (by omega) (by omega) (by show -41 * (e - a) ≤ cT0 σ (a + 1) e ∧ cT0 σ (a + 1) e ≤ 0; omega)
      have s1 := stp_bd (mj := cmj σ) (W0 := cW0 σ) (W1 := cW1 σ) hsB (w := 1) (show 0 ≤ a by omega) (show a < e by omega) en ih (e - (a + 1)).toNat (a + 1) (cT0 σ (a + 1) e, cW0 σ (a + 1) e) (by omega) (by omega) (by show -41 * (e - a) ≤ cT0 σ (a + 1) e ∧ cT0 σ (a + 1) e ≤ 0; omega)
      rw [← g1] at s0
      rw [← g2] at s1
      exact ⟨s0, s1⟩
set_option maxRecDepth 100000 in
theorem r_X2_weighAll (D : Nat) (σ : Sg) (h : WS σ) : ∃ τ, Ret (D + 4) miX2_weighAll [aR 2, aR 4] σ none τ ∧ (∀ x y, x ≠ 2 → ¬ (45 ≤ x ∧ x < 145) → τ x y = σ x y) ∧ (∀ x y, 0 ≤ x → x ≤ y → y ≤ σ 4 0 → EQ τ x y) := by
  have hn := h.1
  have outer : ∀ (k : Nat) (a : Int) (χ : Sg), a + 1 = k → a ≤ σ 4 0 → (∀ x y, x ≠ 2 → ¬ (45 ≤ x ∧ x < 145) → χ x y = σ x y) → (∀ x y, a < x → x ≤ y → y ≤ σ 4 0 → EQ χ x y) → ∃ τ, V (D + 3) miX2_weighAll 2 none τ 5 [some (aR 2), some (aR 4), some (aI a), none] [] χ ∧ (∀ x y, x ≠ 2 → ¬ (45 ≤ x ∧ x < 145) → τ x y = σ x y) ∧ (∀ x y, 0 ≤ x → x ≤ y → y ≤ σ 4 0 → EQ τ x y) := by
    intro k
    induction k with
    | zero =>
      intro a χ ha ha1 hχ hE
      refine ⟨χ, ?_, hχ, fun x y h1 h2 h3 => hE x y (by omega) h2 h3⟩
      refine vX2_weighAll 60 ?_
      simp only [↓S_X2_weighAll, ↓pI_c, ↓pL_c, ↓pR_c, ↓pC_I, ↓pC_R, ↓pE_n, ↓gI_0, ↓gI_s, ↓gL_0, ↓gL_s, ↓gR_0, ↓gR_s, ↓popN_0, ↓popN_s, ↓kl_I, ↓kl_L, ↓kl_R, ↓kl_n, ↓put1_0, ↓put1_s, ↓putk_0, ↓putk_s, ↓put2_0, ↓put2_s, ↓putl_0, ↓putl_s, ↓callK_0, ↓callK_1, ↓callK_2, cats_n, cats_c, catA_I, catA_L, catA_R, KL, LV, lval_f, ltag_f, llen_f, lcm_lt, lcm_le, lcm_gt, lcm_ge, lcm_eq, lcm_R1, lcm_R2, inR, inL, true_and, and_true, eq_self, List.head?_cons, Option.some.injEq, Sum.inr.injEq, Sum.inl.injEq, false_or, or_false, true_or, or_true, Nat.reduceAdd, Nat.reduceLeDiff, Int.reduceLE, Int.reduceLT, Int.reduceEq, Int.reduceNeg, Int.reduceAdd, Int.reduceSub, Int.reduceMul, Int.reduceNe, ne_eq, not_false_eq_true, not_true_eq_false, false_implies, forall_const, Nat.le_refl, Nat.zero_le, implies_true, and_self]
      (repeat' (first | apply And.intro | intro _))
      all_goals (try first | omega | trivial | (rfl; done) | assumption | (exfalso; omega) | (split <;> first | omega | (rfl; done) | (exfalso; omega)))
    | succ k ih =>
      intro a χ ha ha1 hχ hE
      have χse : SE σ χ := fun x y h1 => hχ x y (by omega) (by omega)
      have χws := χse.ws h
      have χ40 : χ 4 0 = σ 4 0 := χse 4 0 (Or.inl rfl)
      -- the inner loop
      have inner : ∀ (j : Nat) (e : Int) (ψ : Sg), a < e → e + j = σ 4 0 + 1 → (∀ x y, x ≠ 2 → ¬ (45 ≤ x ∧ x < 145) → ψ x y = σ x y) → (∀ x y, a < x → x ≤ y → y ≤ σ 4 0 → EQ ψ x y) → (∀ y, a ≤ y → y < e → EQ ψ a y) → ∃ τ, V (D + 3) miX2_weighAll 2 none τ 35 [some (aR 2), some (aR 4), some (aI a), some (aI e)] [] ψ ∧ (∀ x y, x ≠ 2 → ¬ (45 ≤ x ∧ x < 145) → τ x y = σ x y) ∧ (∀ x y, 0 ≤ x → x ≤ y → y ≤ σ 4 0 → EQ τ x y) := by
        intro j
        induction j with
        | zero =>
          intro e ψ e0 e1 hψ hE2 hE3
          have ψ40 : ψ 4 0 = σ 4 0 := hψ 4 0 (by omega) (by omega)
          obtain ⟨τ, t1, t2⟩ := ih (a - 1) ψ (by omega) (by omega) hψ (fun x y h1 h2 h3 => by
            by_cases q : x = a
            · subst q
              exact hE3 y h2 (by omega)
            · exact hE2 x y (by omega) h2 h3)
          refine ⟨τ, ?_, t2⟩
          have ea : a + -1 = a - 1 := by omega
          refine vX2_weighAll 60 ?_
          simp only [↓S_X2_weighAll, ↓pI_c, ↓pL_c, ↓pR_c, ↓pC_I, ↓pC_R, ↓pE_n, ↓gI_0, ↓gI_s, ↓gL_0, ↓gL_s, ↓gR_0, ↓gR_s, ↓popN_0, ↓popN_s, ↓kl_I, ↓kl_L, ↓kl_R, ↓kl_n, ↓put1_0, ↓put1_s, ↓putk_0, ↓putk_s, ↓put2_0, ↓put2_s, ↓putl_0, ↓putl_s, ↓callK_0, ↓callK_1, ↓callK_2, cats_n, cats_c, catA_I, catA_L, catA_R, KL, LV, lval_f, ltag_f, llen_f, lcm_lt, lcm_le, lcm_gt, lcm_ge, lcm_eq, lcm_R1, lcm_R2, inR, inL, true_and, and_true, eq_self, List.head?_cons, Option.some.injEq, Sum.inr.injEq, Sum.inl.injEq, false_or, or_false, true_or, or_true, Nat.reduceAdd, Nat.reduceLeDiff, Int.reduceLE, Int.reduceLT, Int.reduceEq, Int.reduceNeg, Int.reduceAdd, Int.reduceSub, Int.reduceMul, Int.reduceNe, ne_eq, not_false_eq_true, not_true_eq_false, false_implies, forall_const, Nat.le_refl, Nat.zero_le, implies_true, and_self]
          rw [ψ40, ea]
          refine ⟨by omega, by omega, fun q => V.wk t1 (by simp [lle]), fun q => by omega⟩
        | succ j ih2 =>
          intro e ψ e0 e1 hψ hE2 hE3
          have ψse : SE σ ψ := fun x y h1 => hψ x y (by omega) (by omega)
          have ψws := ψse.ws h
          have ψ40 : ψ 4 0 = σ 4 0 := ψse 4 0 (Or.inl rfl)
          have hbd := EQ.bd ψws (lo := a + 1) (by omega) (fun x y h1 h2 h3 => hE2 x y (by omega) h2 (by omega)) 30
          have hee := (hE2 e e e0 (by omega) (by omega)).1 rfl
          obtain ⟨ω, w1, w2, w3, w4⟩ := r_X2_weigh (D) ψ a e ψws (by omega) e0 (by omega) (fun x y h1 h2 h3 => hbd x y (by omega) h2 (by omega) (by omega)) hee.2.2.1 hee.1
          have wse : SE ψ ω := w2.se (by omega)
          have keep : ∀ u v, ¬ (v = e ∧ u = a) → a ≤ u → u < 25 → cT0 ω u v = cT0 ψ u v ∧ cT1 ω u v = cT1 ψ u v ∧ cW0 ω u v = cW0 ψ u v ∧ cW1 ω u v = cW1 ψ u v := fun u v h1 h2 h3 => ⟨w2 _ _ (by omega) (by omega), w2 _ _ (by omega) (by omega), w2 _ _ (by omega) (by omega), w2 _ _ (by omega) (by omega)⟩
          obtain ⟨τ, t1, t2⟩ := ih2 (e + 1) ω (by omega) (by omega) (fun x y h1 h2 => by rw [w2 x y (by omega) (by omega)]; exact hψ x y h1 h2) (fun x y h1 h2 h3 => (hE2 x y h1 h2 h3).tr ψws wse (by omega) h2 (by omega) (fun u v u1 u2 u3 => keep u v (by omega) (by omega) (by omega)) (keep x y (by omega) (by omega) (by omega))) (fun y y0 y1 => by
            by_cases q : y = e
            · subst q
              refine ⟨fun z => by omega, fun z => ?_⟩
              have c0 := fold_tr ψws wse (show 0 ≤ a by omega) z (by omega) (fun u v u1 u2 u3 => keep u v (by omega) (by omega) (by omega)) 0
              have c1 := fold_tr ψws wse (show 0 ≤ a by omega) z (by omega) (fun u v u1 u2 u3 => keep u v (by omega) (by omega) (by omega)) 1
              rw [c0, c1]
              exact ⟨w3, w4⟩
            · exact (hE3 y y0 (by omega)).tr ψws wse (by omega) y0 (by omega) (fun u v u1 u2 u3 => keep u v (by omega) (by omega) (by omega)) (keep a y (by omega) (by omega) (by omega)))
          refine ⟨τ, ?_, t2⟩
          refine vX2_weighAll 60 ?_
          simp only [↓S_X2_weighAll, ↓pI_c, ↓pL_c, ↓pR_c, ↓pC_I, ↓pC_R, ↓pE_n, ↓gI_0, ↓gI_s, ↓gL_0, ↓gL_s, ↓gR_0, ↓gR_s, ↓popN_0, ↓popN_s, ↓kl_I, ↓kl_L, ↓kl_R, ↓kl_n, ↓put1_0, ↓put1_s, ↓putk_0, ↓putk_s, ↓put2_0, ↓put2_s, ↓putl_0, ↓putl_s, ↓callK_0, ↓callK_1, ↓callK_2, cats_n, cats_c, catA_I, catA_L, catA_R, KL, LV, lval_f, ltag_f, llen_f, lcm_lt, lcm_le, lcm_gt, lcm_ge, lcm_eq, lcm_R1, lcm_R2, inR, inL, true_and, and_true, eq_self, List.head?_cons, Option.some.injEq, Sum.inr.injEq, Sum.inl.injEq, false_or, or_false, true_or, or_true, Nat.reduceAdd, Nat.reduceLeDiff, Int.reduceLE, Int.reduceLT, Int.reduceEq, Int.reduceNeg, Int.reduceAdd, Int.reduceSub, Int.reduceMul, Int.reduceNe, ne_eq, not_false_eq_true, not_true_eq_false, false_implies, forall_const, Nat.le_refl, Nat.zero_le, implies_true, and_self]
          rw [ψ40]
          exact ⟨by omega, by omega, fun q => by omega, fun q => ⟨_, w1, t1⟩⟩
      -- the stretch without points
      generalize hα : up (up χ 2 7 0) 2 8 1 = α
      have α7 : α 2 7 = 0 := by rw [← hα]; unfold up; rw [if_neg (by omega), if_pos ⟨rfl, rfl⟩]
      have α8 : α 2 8 = 1 := by rw [← hα]; unfold up; rw [if_pos ⟨rfl, rfl⟩]
      have αf : ∀ x y, x ≠ 2 → α x y = χ x y := fun x y h1 => by rw [← hα]; unfold up; rw [if_neg (by omega), if_neg (by omega)]
      have k1 := r_X2_keepLoose (D + 2) α a a (by omega) (by omega) (by omega) (by omega)
      rw [α7, α8] at k1
      generalize hβ : up (up α (45 + a) a 0) (95 + a) a 1 = β at k1
      have β7 : β 2 7 = 0 := by rw [← hβ]; unfold up; rw [if_neg (by omega), if_neg (by omega)]; exact α7
      have β8 : β 2 8 = 1 := by rw [← hβ]; unfold up; rw [if_neg (by omega), if_neg (by omega)]; exact α8
      have k2 := r_X2_keepBound (D + 2) β a a (by omega) (by omega) (by omega) (by omega)
      rw [β7, β8] at k2
      generalize hγ : up (up β (70 + a) a 0) (120 + a) a 1 = γ at k2
      have γf : ∀ x y, x ≠ 2 → ¬ (y = a ∧ (x = 45 + a ∨ x = 70 + a ∨ x = 95 + a ∨ x = 120 + a)) → γ x y = χ x y := fun x y h1 h2 => by
        rw [← hγ]
        unfold up
        rw [if_neg (by omega), if_neg (by omega), ← hβ]
        unfold up
        rw [if_neg (by omega), if_neg (by omega)]
        exact αf x y h1
      have γ0 : cT0 γ a a = 0 ∧ cT1 γ a a = 0 ∧ cW0 γ a a = 1 ∧ cW1 γ a a = 1 := by
        refine ⟨?_, ?_, ?_, ?_⟩
        · show γ (45 + a) a = 0
          rw [← hγ]
          unfold up
          rw [if_neg (by omega), if_neg (by omega), ← hβ]
          unfold up
          rw [if_neg (by omega), if_pos ⟨rfl, rfl⟩]
        · show γ (70 + a) a = 0
          rw [← hγ]
          unfold up
          rw [if_neg (by omega), if_pos ⟨rfl, rfl⟩]
        · show γ (95 + a) a = 1
          rw [← hγ]
          unfold up
          rw [if_neg (by omega), if_neg (by omega), ← hβ]
          unfold up
          rw [if_pos ⟨rfl, rfl⟩]
        · show γ (120 + a) a = 1
          rw [← hγ]
          unfold up
          rw [if_pos ⟨rfl, rfl⟩]
      have γse : SE χ γ := fun x y h1 => γf x y (by omega) (by omega)
      obtain ⟨τ, t1, t2⟩ := inner (σ 4 0 - a).toNat (a + 1) γ (by omega) (by omega) (fun x y h1 h2 => by rw [γf x y h1 (by omega)]; exact hχ x y h1 h2) (fun x y h1 h2 h3 => (hE x y h1 h2 h3).tr χws γse (by omega) h2 (by omega) (fun u v u1 u2 u3 => ⟨γf _ _ (by omega) (by omega), γf _ _ (by omega) (by omega), γf _ _ (by omega) (by omega), γf _ _ (by omega) (by omega)⟩) ⟨γf _ _ (by omega) (by omega), γf _ _ (by omega) (by omega), γf _ _ (by omega) (by omega), γf _ _ (by omega) (by omega)⟩) (fun y y0 y1 => by
        have : y = a := by omega
        subst this
        exact ⟨fun _ => γ0, fun q => by omega⟩)
      refine ⟨τ, ?_, t2⟩
      refine vX2_weighAll 60 ?_
      simp only [↓S_X2_weighAll, ↓pI_c, ↓pL_c, ↓pR_c, ↓pC_I, ↓pC_R, ↓pE_n, ↓gI_0, ↓gI_s, ↓gL_0, ↓gL_s, ↓gR_0, ↓gR_s, ↓popN_0, ↓popN_s, ↓kl_I, ↓kl_L, ↓kl_R, ↓kl_n, ↓put1_0, ↓put1_s, ↓putk_0, ↓putk_s, ↓put2_0, ↓put2_s, ↓putl_0, ↓putl_s, ↓callK_0, ↓callK_1, ↓callK_2, cats_n, cats_c, catA_I, catA_L, catA_R, KL, LV, lval_f, ltag_f, llen_f, lcm_lt, lcm_le, lcm_gt, lcm_ge, lcm_eq, lcm_R1, lcm_R2, inR, inL, true_and, and_true, eq_self, List.head?_cons, Option.some.injEq, Sum.inr.injEq, Sum.inl.injEq, false_or, or_false, true_or, or_true, Nat.reduceAdd, Nat.reduceLeDiff, Int.reduceLE, Int.reduceLT, Int.reduceEq, Int.reduceNeg, Int.reduceAdd, Int.reduceSub, Int.reduceMul, Int.reduceNe, ne_eq, not_false_eq_true, not_true_eq_false, false_implies, forall_const, Nat.le_refl, Nat.zero_le, implies_true, and_self]
      rw [hα]
      exact ⟨by omega, fun q => by omega, fun q => ⟨_, k1, _, k2, t1⟩⟩
  obtain ⟨τ, t1, t2⟩ := outer (σ 4 0 + 1).toNat (σ 4 0) σ (by omega) (by omega) (fun x y _ _ => rfl) (fun x y h1 h2 h3 => by omega)
  refine ⟨τ, ?_, t2⟩
  refine Ret.of 2 [some (aR 2), some (aR 4), none, none] rfl (by decide) rfl (Nat.le_of_ble_eq_true rfl) ?_
  refine vX2_weighAll 60 ?_
  simp only [↓S_X2_weighAll, ↓pI_c, ↓pL_c, ↓pR_c, ↓pC_I, ↓pC_R, ↓pE_n, ↓gI_0, ↓gI_s, ↓gL_0, ↓gL_s, ↓gR_0, ↓gR_s, ↓popN_0, ↓popN_s, ↓kl_I, ↓kl_L, ↓kl_R, ↓kl_n, ↓put1_0, ↓put1_s, ↓putk_0, ↓putk_s, ↓put2_0, ↓put2_s, ↓putl_0, ↓putl_s, ↓callK_0, ↓callK_1, ↓callK_2, cats_n, cats_c, catA_I, catA_L, catA_R, KL, LV, lval_f, ltag_f, llen_f, lcm_lt, lcm_le, lcm_gt, lcm_ge, lcm_eq, lcm_R1, lcm_R2, inR, inL, true_and, and_true, eq_self, List.head?_cons, Option.some.injEq, Sum.inr.injEq, Sum.inl.injEq, false_or, or_false, true_or, or_true, Nat.reduceAdd, Nat.reduceLeDiff, Int.reduceLE, Int.reduceLT, Int.reduceEq, Int.reduceNeg, Int.reduceAdd, Int.reduceSub, Int.reduceMul, Int.reduceNe, ne_eq, not_false_eq_true, not_true_eq_false, false_implies, forall_const, Nat.le_refl, Nat.zero_le, implies_true, and_self]
  exact t1
set_option maxRecDepth 100000 in
theorem r_X2_leastScore (D : Nat) (σ : Sg) (h : WS σ) : Ret (D + 1) miX2_leastScore [aR 2, aR 4] σ (some (aI (σ 45 (σ 4 0)))) σ := by
  have hn := h.1
  have hk := (krow (i := 0)).2.1 (by omega) (by omega)
  refine Ret.of 2 [some (aR 2), some (aR 4)] rfl (by decide) rfl (Nat.le_of_ble_eq_true rfl) ?_
  refine vX2_leastScore 60 ?_
  simp only [↓S_X2_leastScore, ↓pI_c, ↓pL_c, ↓pR_c, ↓pC_I, ↓pC_R, ↓pE_n, ↓gI_0, ↓gI_s, ↓gL_0, ↓gL_s, ↓gR_0, ↓gR_s, ↓popN_0, ↓popN_s, ↓kl_I, ↓kl_L, ↓kl_R, ↓kl_n, ↓put1_0, ↓put1_s, ↓putk_0, ↓putk_s, ↓put2_0, ↓put2_s, ↓putl_0, ↓putl_s, ↓callK_0, ↓callK_1, ↓callK_2, cats_n, cats_c, catA_I, catA_L, catA_R, KL, LV, lval_f, ltag_f, llen_f, lcm_lt, lcm_le, lcm_gt, lcm_ge, lcm_eq, lcm_R1, lcm_R2, inR, inL, true_and, and_true, eq_self, List.head?_cons, Option.some.injEq, Sum.inr.injEq, Sum.inl.injEq, false_or, or_false, true_or, or_true, Nat.reduceAdd, Nat.reduceLeDiff, Int.reduceLE, Int.reduceLT, Int.reduceEq, Int.reduceNeg, Int.reduceAdd, Int.reduceSub, Int.reduceMul, Int.reduceNe, ne_eq, not_false_eq_true, not_true_eq_false, false_implies, forall_const, Nat.le_refl, Nat.zero_le, implies_true, and_self]
  have h1 : ktag 45 = 1 := hk.1
  have h2 : klen 45 = 25 := hk.2.1
  rw [h1, h2]
  (repeat' (first | apply And.intro | intro _))
  all_goals (try first | omega | trivial | (rfl; done) | assumption | (exfalso; omega) | (split <;> first | omega | (rfl; done) | (exfalso; omega)))
set_option maxRecDepth 100000 in
theorem r_X2_leastWays (D : Nat) (σ : Sg) (h : WS σ) : Ret (D + 1) miX2_leastWays [aR 2, aR 4] σ (some (aL (σ 95 (σ 4 0)))) σ := by
  have hn := h.1
  have hk := (krow (i := 0)).2.1 (by omega) (by omega)
  refine Ret.of 2 [some (aR 2), some (aR 4)] rfl (by decide) rfl (Nat.le_of_ble_eq_true rfl) ?_
  refine vX2_leastWays 60 ?_
  simp only [↓S_X2_leastWays, ↓pI_c, ↓pL_c, ↓pR_c, ↓pC_I, ↓pC_R, ↓pE_n, ↓gI_0, ↓gI_s, ↓gL_0, ↓gL_s, ↓gR_0, ↓gR_s, ↓popN_0, ↓popN_s, ↓kl_I, ↓kl_L, ↓kl_R, ↓kl_n, ↓put1_0, ↓put1_s, ↓putk_0, ↓putk_s, ↓put2_0, ↓put2_s, ↓putl_0, ↓putl_s, ↓callK_0, ↓callK_1, ↓callK_2, cats_n, cats_c, catA_I, catA_L, catA_R, KL, LV, lval_f, ltag_f, llen_f, lcm_lt, lcm_le, lcm_gt, lcm_ge, lcm_eq, lcm_R1, lcm_R2, inR, inL, true_and, and_true, eq_self, List.head?_cons, Option.some.injEq, Sum.inr.injEq, Sum.inl.injEq, false_or, or_false, true_or, or_true, Nat.reduceAdd, Nat.reduceLeDiff, Int.reduceLE, Int.reduceLT, Int.reduceEq, Int.reduceNeg, Int.reduceAdd, Int.reduceSub, Int.reduceMul, Int.reduceNe, ne_eq, not_false_eq_true, not_true_eq_false, false_implies, forall_const, Nat.le_refl, Nat.zero_le, implies_true, and_self]
  have h1 : ktag 95 = 2 := hk.2.2.2.2.1
  have h2 : klen 95 = 25 := hk.2.2.2.2.2.1
  rw [ltag_n (by omega), llen_n (by omega), lval_n (by omega), h1, h2]
  (repeat' (first | apply And.intro | intro _))
  all_goals (try first | omega | trivial | (rfl; done) | assumption | (exfalso; omega) | (split <;> first | omega | (rfl; done) | (exfalso; omega)))
/-- the number of folds of each stretch -/
def AEQ (n : Int) (mj : Int → Int → Bool) (A : Int → Int → Int) (a e : Int) : Prop := (a = e → A a e = 1) ∧ (a < e → A a e = A (a + 1) e + rs (fun c => if mj a c = true then A (a + 1) c * A (c + 1) e else 0) (a + 1) (e - (a + 1)).toNat)
theorem AEQ.one {n : Int} {mj mj' : Int → Int → Bool} {A B : Int → Int → Int} (hm : ∀ a b, 0 ≤ a → a < n → 0 ≤ b → b < n → mj a b = mj' a b) (h : ∀ a e, 0 ≤ a → a ≤ e → e ≤ n → AEQ n mj A a e) (h' : ∀ a e, 0 ≤ a → a ≤ e → e ≤ n → AEQ n mj' B a e) : ∀ (k : Nat) (a e : Int), 0 ≤ a → a ≤ e → e ≤ n → e - a < k → A a e = B a e
  | 0, a, e, _, h1, _, h2 => by omega
  | k + 1, a, e, a0, ae, en, hk => by
    obtain ⟨d1, d2⟩ := h a e a0 ae en
    obtain ⟨d3, d4⟩ := h' a e a0 ae en
    by_cases q : a = e
    · rw [d1 q, d3 q]
    · rw [d2 (by omega), d4 (by omega), AEQ.one hm h h' k (a + 1) e (by omega) (by omega) en (by omega)]
      congr 1
      refine rs_congr _ _ (fun j j0 j1 => ?_)
      rw [hm a j a0 (by omega) (by omega) (by omega), AEQ.one hm h h' k (a + 1) j (by omega) (by omega) (by omega) (by omega), AEQ.one hm h h' k (j + 1) e (by omega) (by omega) en (by omega)]
set_option maxRecDepth 100000 in
theorem r_X2_countAll (D : Nat) (σ : Sg) (h : WS σ) : ∃ τ, Ret (D + 3) miX2_countAll [aR 2, aR 4] σ (some (aL (τ 145 (σ 4 0)))) τ ∧ (∀ x y, ¬ (145 ≤ x ∧ x < 170) → τ x y = σ x y) ∧ (∀ a e, 0 ≤ a → a ≤ e → e ≤ σ 4 0 → AEQ (σ 4 0) (cmj σ) (fun x y => τ (145 + x) y) a e) := by
  have hn := h.1
  have tr : ∀ (χ ψ : Sg) (a e : Int), (∀ u v, a < u → u ≤ v → v ≤ e → ψ (145 + u) v = χ (145 + u) v) → ψ (145 + a) e = χ (145 + a) e → AEQ (σ 4 0) (cmj σ) (fun x y => χ (145 + x) y) a e → AEQ (σ 4 0) (cmj σ) (fun x y => ψ (145 + x) y) a e := by
    intro χ ψ a e hc h0 hA
    refine ⟨fun q => by show ψ (145 + a) e = 1; rw [h0]; exact hA.1 q, fun q => ?_⟩
    show ψ (145 + a) e = ψ (145 + (a + 1)) e + rs (fun c => if cmj σ a c = true then ψ (145 + (a + 1)) c * ψ (145 + (c + 1)) e else 0) (a + 1) (e - (a + 1)).toNat
    rw [h0, hc (a + 1) e (by omega) (by omega) (by omega)]
    have hq : χ (145 + a) e = χ (145 + (a + 1)) e + rs (fun c => if cmj σ a c = true then χ (145 + (a + 1)) c * χ (145 + (c + 1)) e else 0) (a + 1) (e - (a + 1)).toNat := hA.2 q
    rw [hq]
    congr 1
    refine rs_congr _ _ (fun j j0 j1 => ?_)
    show (if cmj σ a j = true then χ (145 + (a + 1)) j * χ (145 + (j + 1)) e else 0) = _
    rw [hc (a + 1) j (by omega) (by omega) (by omega), hc (j + 1) e (by omega) (by omega) (by omega)]
  have outer : ∀ (k : Nat) (a : Int) (χ : Sg), a + 1 = k → a ≤ σ 4 0 → (∀ x y, ¬ (145 ≤ x ∧ x < 170) → χ x y = σ x y) → (∀ x y, a < x → x ≤ y → y ≤ σ 4 0 → AEQ (σ 4 0) (cmj σ) (fun x y => χ (145 + x) y) x y) → ∃ τ, V (D + 2) miX2_countAll 2 (some (aL (τ 145 (σ 4 0)))) τ 5 [some (aR 2), some (aR 4), some (aI a), none, none, none, none] [] χ ∧ (∀ x y, ¬ (145 ≤ x ∧ x < 170) → τ x y = σ x y) ∧ (∀ a e, 0 ≤ a → a ≤ e → e ≤ σ 4 0 → AEQ (σ 4 0) (cmj σ) (fun x y => τ (145 + x) y) a e) := by
    intro k
    induction k with
    | zero =>
      intro a χ ha ha1 hχ hE
      have χ40 : χ 4 0 = σ 4 0 := hχ 4 0 (by omega)
      refine ⟨χ, ?_, hχ, fun x y h1 h2 h3 => hE x y (by omega) h2 h3⟩
      have hk := (krow (i := 0)).2.1 (by omega) (by omega)
      have h1 : ktag 145 = 2 := hk.2.2.2.2.2.2.2.2.1
      have h2 : klen 145 = 25 := hk.2.2.2.2.2.2.2.2.2
      refine vX2_countAll 60 ?_
      simp only [↓S_X2_countAll_1, ↓S_X2_countAll_2, ↓S_X2_countAll_3, ↓pI_c, ↓pL_c, ↓pR_c, ↓pC_I, ↓pC_R, ↓pE_n, ↓gI_0, ↓gI_s, ↓gL_0, ↓gL_s, ↓gR_0, ↓gR_s, ↓popN_0, ↓popN_s, ↓kl_I, ↓kl_L, ↓kl_R, ↓kl_n, ↓put1_0, ↓put1_s, ↓putk_0, ↓putk_s, ↓put2_0, ↓put2_s, ↓putl_0, ↓putl_s, ↓callK_0, ↓callK_1, ↓callK_2, cats_n, cats_c, catA_I, catA_L, catA_R, KL, LV, lval_f, ltag_f, llen_f, lcm_lt, lcm_le, lcm_gt, lcm_ge, lcm_eq, lcm_R1, lcm_R2, inR, inL, true_and, and_true, eq_self, List.head?_cons, Option.some.injEq, Sum.inr.injEq, Sum.inl.injEq, false_or, or_false, true_or, or_true, Nat.reduceAdd, Nat.reduceLeDiff, Int.reduceLE, Int.reduceLT, Int.reduceEq, Int.reduceNeg, Int.reduceAdd, Int.reduceSub, Int.reduceMul, Int.reduceNe, ne_eq, not_false_eq_true, not_true_eq_false, false_implies, forall_const, Nat.le_refl, Nat.zero_le, implies_true, and_self]
      rw [ltag_n (by omega), llen_n (by omega), lval_n (by omega), h1, h2, χ40]
      (repeat' (first | apply And.intro | intro _))
      all_goals (try first | omega | trivial | (rfl; done) | assumption | (exfalso; omega) | (split <;> first | omega | (rfl; done) | (exfalso; omega)))
    | succ k ih =>
      intro a χ ha ha1 hχ hE
      have hka := (krow (i := a)).2.1 (by omega) (by omega)
      have inner : ∀ (j : Nat) (e : Int) (ψ : Sg), a < e → e + j = σ 4 0 + 1 → (∀ x y, ¬ (145 ≤ x ∧ x < 170) → ψ x y = σ x y) → (∀ x y, a < x → x ≤ y → y ≤ σ 4 0 → AEQ (σ 4 0) (cmj σ) (fun x y => ψ (145 + x) y) x y) → (∀ y, a ≤ y → y < e → AEQ (σ 4 0) (cmj σ) (fun x y => ψ (145 + x) y) a y) → ∃ τ, V (D + 2) miX2_countAll 2 (some (aL (τ 145 (σ 4 0)))) τ 22 [some (aR 2), some (aR 4), some (aI a), some (aI e), none, none, none] [] ψ ∧ (∀ x y, ¬ (145 ≤ x ∧ x < 170) → τ x y = σ x y) ∧ (∀ a e, 0 ≤ a → a ≤ e → e ≤ σ 4 0 → AEQ (σ 4 0) (cmj σ) (fun x y => τ (145 + x) y) a e) := by
        intro j
        induction j with
        | zero =>
          intro e ψ e0 e1 hψ hE2 hE3
          have ψ40 : ψ 4 0 = σ 4 0 := hψ 4 0 (by omega)
          obtain ⟨τ, t1, t2⟩ := ih (a - 1) ψ (by omega) (by omega) hψ (fun x y h1 h2 h3 => by
            by_cases q : x = a
            · subst q
              exact hE3 y h2 (by omega)
            · exact hE2 x y (by omega) h2 h3)
          refine ⟨τ, ?_, t2⟩
          have ea : a + -1 = a - 1 := by omega
          refine vX2_countAll 60 ?_
          simp only [↓S_X2_countAll_1, ↓S_X2_countAll_2, ↓S_X2_countAll_3, ↓pI_c, ↓pL_c, ↓pR_c, ↓pC_I, ↓pC_R, ↓pE_n, ↓gI_0, ↓gI_s, ↓gL_0, ↓gL_s, ↓gR_0, ↓gR_s, ↓popN_0, ↓popN_s, ↓kl_I, ↓kl_L, ↓kl_R, ↓kl_n, ↓put1_0, ↓put1_s, ↓putk_0, ↓putk_s, ↓put2_0, ↓put2_s, ↓putl_0, ↓putl_s, ↓callK_0, ↓callK_1, ↓callK_2, cats_n, cats_c, catA_I, catA_L, catA_R, KL, LV, lval_f, ltag_f, llen_f, lcm_lt, lcm_le, lcm_gt, lcm_ge, lcm_eq, lcm_R1, lcm_R2, inR, inL, true_and, and_true, eq_self, List.head?_cons, Option.some.injEq, Sum.inr.injEq, Sum.inl.injEq, false_or, or_false, true_or, or_true, Nat.reduceAdd, Nat.reduceLeDiff, Int.reduceLE, Int.reduceLT, Int.reduceEq, Int.reduceNeg, Int.reduceAdd, Int.reduceSub, Int.reduceMul, Int.reduceNe, ne_eq, not_false_eq_true, not_true_eq_false, false_implies, forall_const, Nat.le_refl, Nat.zero_le, implies_true, and_self]
          rw [ψ40, ea]
          refine ⟨by omega, by omega, fun q => V.wk t1 (by simp [lle]), fun q => by omega⟩
        | succ j ih2 =>
          intro e ψ e0 e1 hψ hE2 hE3
          have ψ40 : ψ 4 0 = σ 4 0 := hψ 4 0 (by omega)
          have ψse : SE σ ψ := fun x y h1 => hψ x y (by omega)
          have ψws := ψse.ws h
          have hka1 := (krow (i := a + 1)).2.1 (by omega) (by omega)
          obtain ⟨τ, t1, t2⟩ := ih2 (e + 1) (up ψ (145 + a) e (ψ (145 + (a + 1)) e + rs (fun c => if cmj σ a c = true then ψ (145 + (a + 1)) c * ψ (145 + (c + 1)) e else 0) (a + 1) (e - (a + 1)).toNat)) (by omega) (by omega) (fun x y h1 => by unfold up; rw [if_neg (by omega)]; exact hψ x y h1) (fun x y h1 h2 h3 => tr ψ _ x y (fun u v u1 u2 u3 => by unfold up; rw [if_neg (by omega)]) (by unfold up; rw [if_neg (by omega)]) (hE2 x y h1 h2 h3)) (fun y y0 y1 => by
            by_cases q : y = e
            · subst q
              refine ⟨fun z => by omega, fun z => ?_⟩
              show up ψ (145 + a) y _ (145 + a) y = up ψ (145 + a) y _ (145 + (a + 1)) y + rs (fun c => if cmj σ a c = true then up ψ (145 + a) y _ (145 + (a + 1)) c * up ψ (145 + a) y _ (145 + (c + 1)) y else 0) (a + 1) (y - (a + 1)).toNat
              have e1 : ∀ v u w, a < u → up ψ (145 + a) y v (145 + u) w = ψ (145 + u) w := fun v u w hu => by unfold up; rw [if_neg (by omega)]
              have e2 : ∀ v, up ψ (145 + a) y v (145 + a) y = v := fun v => by unfold up; rw [if_pos ⟨rfl, rfl⟩]
              rw [e2, e1 _ (a + 1) _ (by omega)]
              congr 1
              refine rs_congr _ _ (fun j j0 j1 => ?_)
              rw [e1 _ (a + 1) _ (by omega), e1 _ (j + 1) _ (by omega)]
            · exact tr ψ _ a y (fun u v u1 u2 u3 => by unfold up; rw [if_neg (by omega)]) (by unfold up; rw [if_neg (by omega)]) (hE3 y y0 (by omega)))
          refine ⟨τ, ?_, t2⟩
          have loop3 : ∀ (n : Nat) (c sm : Int), a < c → c + n = e → ψ (145 + (a + 1)) e + rs (fun c => if cmj σ a c = true then ψ (145 + (a + 1)) c * ψ (145 + (c + 1)) e else 0) (a + 1) (e - (a + 1)).toNat = sm + rs (fun c => if cmj σ a c = true then ψ (145 + (a + 1)) c * ψ (145 + (c + 1)) e else 0) c n → V (D + 2) miX2_countAll 2 (some (aL (τ 145 (σ 4 0)))) τ 47 [some (aR 2), some (aR 4), some (aI a), some (aI e), some (aL sm), none, some (aI c)] [] ψ := by
            intro n
            induction n with
            | zero =>
              intro c sm c0 c1 he
              rw [he] at t1
              simp only [rs, Int.add_zero] at t1
              refine vX2_countAll 60 ?_
              simp only [↓S_X2_countAll_1, ↓S_X2_countAll_2, ↓S_X2_countAll_3, ↓pI_c, ↓pL_c, ↓pR_c, ↓pC_I, ↓pC_R, ↓pE_n, ↓gI_0, ↓gI_s, ↓gL_0, ↓gL_s, ↓gR_0, ↓gR_s, ↓popN_0, ↓popN_s, ↓kl_I, ↓kl_L, ↓kl_R, ↓kl_n, ↓put1_0, ↓put1_s, ↓putk_0, ↓putk_s, ↓put2_0, ↓put2_s, ↓putl_0, ↓putl_s, ↓callK_0, ↓callK_1, ↓callK_2, cats_n, cats_c, catA_I, catA_L, catA_R, KL, LV, lval_f, ltag_f, llen_f, lcm_lt, lcm_le, lcm_gt, lcm_ge, lcm_eq, lcm_R1, lcm_R2, inR, inL, true_and, and_true, eq_self, List.head?_cons, Option.some.injEq, Sum.inr.injEq, Sum.inl.injEq, false_or, or_false, true_or, or_true, Nat.reduceAdd, Nat.reduceLeDiff, Int.reduceLE, Int.reduceLT, Int.reduceEq, Int.reduceNeg, Int.reduceAdd, Int.reduceSub, Int.reduceMul, Int.reduceNe, ne_eq, not_false_eq_true, not_true_eq_false, false_implies, forall_const, Nat.le_refl, Nat.zero_le, implies_true, and_self]
              rw [hka.2.2.2.2.2.2.2.2.1, hka.2.2.2.2.2.2.2.2.2]
              exact ⟨by omega, by omega, fun q => ⟨by omega, by omega, rfl, by omega, by omega, V.wk t1 (by simp [lle])⟩, fun q => by omega⟩
            | succ n ih3 =>
              intro c sm c0 c1 he
              rw [rs_s] at he
              have hkc := (krow (i := c + 1)).2.1 (by omega) (by omega)
              have hmj := r_X4_mayJoin (D) ψ a c ψws (by omega) (by omega) (by omega) (by omega)
              rw [(ψse.sc h (show 0 ≤ a by omega) (show a < σ 4 0 by omega) (show 0 ≤ c by omega) (by omega)).2] at hmj
              by_cases c4 : cmj σ a c = true
              · rw [if_pos c4] at hmj he
                have t2 := ih3 (c + 1) (sm + ψ (145 + (a + 1)) c * ψ (145 + (c + 1)) e) (by omega) (by omega) (by omega)
                refine vX2_countAll 60 ?_
                simp only [↓S_X2_countAll_1, ↓S_X2_countAll_2, ↓S_X2_countAll_3, ↓pI_c, ↓pL_c, ↓pR_c, ↓pC_I, ↓pC_R, ↓pE_n, ↓gI_0, ↓gI_s, ↓gL_0, ↓gL_s, ↓gR_0, ↓gR_s, ↓popN_0, ↓popN_s, ↓kl_I, ↓kl_L, ↓kl_R, ↓kl_n, ↓put1_0, ↓put1_s, ↓putk_0, ↓putk_s, ↓put2_0, ↓put2_s, ↓putl_0, ↓putl_s, ↓callK_0, ↓callK_1, ↓callK_2, cats_n, cats_c, catA_I, catA_L, catA_R, KL, LV, lval_f, ltag_f, llen_f, lcm_lt, lcm_le, lcm_gt, lcm_ge, lcm_eq, lcm_R1, lcm_R2, inR, inL, true_and, and_true, eq_self, List.head?_cons, Option.some.injEq, Sum.inr.injEq, Sum.inl.injEq, false_or, or_false, true_or, or_true, Nat.reduceAdd, Nat.reduceLeDiff, Int.reduceLE, Int.reduceLT, Int.reduceEq, Int.reduceNeg, Int.reduceAdd, Int.reduceSub, Int.reduceMul, Int.reduceNe, ne_eq, not_false_eq_true, not_true_eq_false, false_implies, forall_const, Nat.le_refl, Nat.zero_le, implies_true, and_self]
                refine ⟨by omega, by omega, fun q => by omega, fun q => ⟨_, _, hmj, by omega, fun q => by omega, fun q => ?_⟩⟩
                rw [ltag_n (by omega), llen_n (by omega), lval_n (by omega), ltag_n (by omega), llen_n (by omega), lval_n (by omega), hka1.2.2.2.2.2.2.2.2.1, hka1.2.2.2.2.2.2.2.2.2, hkc.2.2.2.2.2.2.2.2.1, hkc.2.2.2.2.2.2.2.2.2]
                exact ⟨by omega, by omega, rfl, by omega, by omega, by omega, by omega, rfl, by omega, by omega, t2⟩
              · rw [if_neg c4] at hmj he
                have t2 := ih3 (c + 1) sm (by omega) (by omega) (by omega)
                refine vX2_countAll 60 ?_
                simp only [↓S_X2_countAll_1, ↓S_X2_countAll_2, ↓S_X2_countAll_3, ↓pI_c, ↓pL_c, ↓pR_c, ↓pC_I, ↓pC_R, ↓pE_n, ↓gI_0, ↓gI_s, ↓gL_0, ↓gL_s, ↓gR_0, ↓gR_s, ↓popN_0, ↓popN_s, ↓kl_I, ↓kl_L, ↓kl_R, ↓kl_n, ↓put1_0, ↓put1_s, ↓putk_0, ↓putk_s, ↓put2_0, ↓put2_s, ↓putl_0, ↓putl_s, ↓callK_0, ↓callK_1, ↓callK_2, cats_n, cats_c, catA_I, catA_L, catA_R, KL, LV, lval_f, ltag_f, llen_f, lcm_lt, lcm_le, lcm_gt, lcm_ge, lcm_eq, lcm_R1, lcm_R2, inR, inL, true_and, and_true, eq_self, List.head?_cons, Option.some.injEq, Sum.inr.injEq, Sum.inl.injEq, false_or, or_false, true_or, or_true, Nat.reduceAdd, Nat.reduceLeDiff, Int.reduceLE, Int.reduceLT, Int.reduceEq, Int.reduceNeg, Int.reduceAdd, Int.reduceSub, Int.reduceMul, Int.reduceNe, ne_eq, not_false_eq_true, not_true_eq_false, false_implies, forall_const, Nat.le_refl, Nat.zero_le, implies_true, and_self]
                exact ⟨by omega, by omega, fun q => by omega, fun q => ⟨_, _, hmj, by omega, fun q => t2, fun q => by omega⟩⟩
          have t3 := loop3 (e - (a + 1)).toNat (a + 1) (ψ (145 + (a + 1)) e) (by omega) (by omega) rfl
          refine vX2_countAll 60 ?_
          simp only [↓S_X2_countAll_1, ↓S_X2_countAll_2, ↓S_X2_countAll_3, ↓pI_c, ↓pL_c, ↓pR_c, ↓pC_I, ↓pC_R, ↓pE_n, ↓gI_0, ↓gI_s, ↓gL_0, ↓gL_s, ↓gR_0, ↓gR_s, ↓popN_0, ↓popN_s, ↓kl_I, ↓kl_L, ↓kl_R, ↓kl_n, ↓put1_0, ↓put1_s, ↓putk_0, ↓putk_s, ↓put2_0, ↓put2_s, ↓putl_0, ↓putl_s, ↓callK_0, ↓callK_1, ↓callK_2, cats_n, cats_c, catA_I, catA_L, catA_R, KL, LV, lval_f, ltag_f, llen_f, lcm_lt, lcm_le, lcm_gt, lcm_ge, lcm_eq, lcm_R1, lcm_R2, inR, inL, true_and, and_true, eq_self, List.head?_cons, Option.some.injEq, Sum.inr.injEq, Sum.inl.injEq, false_or, or_false, true_or, or_true, Nat.reduceAdd, Nat.reduceLeDiff, Int.reduceLE, Int.reduceLT, Int.reduceEq, Int.reduceNeg, Int.reduceAdd, Int.reduceSub, Int.reduceMul, Int.reduceNe, ne_eq, not_false_eq_true, not_true_eq_false, false_implies, forall_const, Nat.le_refl, Nat.zero_le, implies_true, and_self]
          rw [ψ40, ltag_n (by omega), llen_n (by omega), lval_n (by omega), hka1.2.2.2.2.2.2.2.2.1, hka1.2.2.2.2.2.2.2.2.2]
          exact ⟨by omega, by omega, fun q => by omega, fun q => ⟨by omega, by omega, rfl, by omega, by omega, t3⟩⟩
      obtain ⟨τ, t1, t2⟩ := inner (σ 4 0 - a).toNat (a + 1) (up χ (145 + a) a 1) (by omega) (by omega) (fun x y h1 => by unfold up; rw [if_neg (by omega)]; exact hχ x y h1) (fun x y h1 h2 h3 => tr χ _ x y (fun u v u1 u2 u3 => by unfold up; rw [if_neg (by omega)]) (by unfold up; rw [if_neg (by omega)]) (hE x y h1 h2 h3)) (fun y y0 y1 => by
        have : y = a := by omega
        subst this
        refine ⟨fun _ => ?_, fun q => by omega⟩
        show up χ (145 + y) y 1 (145 + y) y = 1
        unfold up
        rw [if_pos ⟨rfl, rfl⟩])
      refine ⟨τ, ?_, t2⟩
      refine vX2_countAll 60 ?_
      simp only [↓S_X2_countAll_1, ↓S_X2_countAll_2, ↓S_X2_countAll_3, ↓pI_c, ↓pL_c, ↓pR_c, ↓pC_I, ↓pC_R, ↓pE_n, ↓gI_0, ↓gI_s, ↓gL_0, ↓gL_s, ↓gR_0, ↓gR_s, ↓popN_0, ↓popN_s, ↓kl_I, ↓kl_L, ↓kl_R, ↓kl_n, ↓put1_0, ↓put1_s, ↓putk_0, ↓putk_s, ↓put2_0, ↓put2_s, ↓putl_0, ↓putl_s, ↓callK_0, ↓callK_1, ↓callK_2, cats_n, cats_c, catA_I, catA_L, catA_R, KL, LV, lval_f, ltag_f, llen_f, lcm_lt, lcm_le, lcm_gt, lcm_ge, lcm_eq, lcm_R1, lcm_R2, inR, inL, true_and, and_true, eq_self, List.head?_cons, Option.some.injEq, Sum.inr.injEq, Sum.inl.injEq, false_or, or_false, true_or, or_true, Nat.reduceAdd, Nat.reduceLeDiff, Int.reduceLE, Int.reduceLT, Int.reduceEq, Int.reduceNeg, Int.reduceAdd, Int.reduceSub, Int.reduceMul, Int.reduceNe, ne_eq, not_false_eq_true, not_true_eq_false, false_implies, forall_const, Nat.le_refl, Nat.zero_le, implies_true, and_self]
      rw [hka.2.2.2.2.2.2.2.2.1, hka.2.2.2.2.2.2.2.2.2]
      exact ⟨by omega, fun q => by omega, fun q => ⟨by omega, by omega, rfl, by omega, by omega, t1⟩⟩
  obtain ⟨τ, t1, t2⟩ := outer (σ 4 0 + 1).toNat (σ 4 0) σ (by omega) (by omega) (fun x y _ => rfl) (fun x y h1 h2 h3 => by omega)
  refine ⟨τ, ?_, t2⟩
  refine Ret.of 2 [some (aR 2), some (aR 4), none, none, none, none, none] rfl (by decide) rfl (Nat.le_of_ble_eq_true rfl) ?_
  refine vX2_countAll 60 ?_
  simp only [↓S_X2_countAll_1, ↓S_X2_countAll_2, ↓S_X2_countAll_3, ↓pI_c, ↓pL_c, ↓pR_c, ↓pC_I, ↓pC_R, ↓pE_n, ↓gI_0, ↓gI_s, ↓gL_0, ↓gL_s, ↓gR_0, ↓gR_s, ↓popN_0, ↓popN_s, ↓kl_I, ↓kl_L, ↓kl_R, ↓kl_n, ↓put1_0, ↓put1_s, ↓putk_0, ↓putk_s, ↓put2_0, ↓put2_s, ↓putl_0, ↓putl_s, ↓callK_0, ↓callK_1, ↓callK_2, cats_n, cats_c, catA_I, catA_L, catA_R, KL, LV, lval_f, ltag_f, llen_f, lcm_lt, lcm_le, lcm_gt, lcm_ge, lcm_eq, lcm_R1, lcm_R2, inR, inL, true_and, and_true, eq_self, List.head?_cons, Option.some.injEq, Sum.inr.injEq, Sum.inl.injEq, false_or, or_false, true_or, or_true, Nat.reduceAdd, Nat.reduceLeDiff, Int.reduceLE, Int.reduceLT, Int.reduceEq, Int.reduceNeg, Int.reduceAdd, Int.reduceSub, Int.reduceMul, Int.reduceNe, ne_eq, not_false_eq_true, not_true_eq_false, false_implies, forall_const, Nat.le_refl, Nat.zero_le, implies_true, and_self]
  exact t1

/-! the model's tangle -/
def Pf (m : Int → Int) (f : Int) (a : Int) : Prop := f < a ∧ a < m f ∧ m f < m a
theorem Dn.down {m : Int → Int} {p : Int} : ∀ (l : List Int) (a : Int), Dn m (fun a => 0 ≤ a ∧ a ≤ p ∧ p < m a) a l → l = [] ∨ ∃ f l', l = l' ++ [f] ∧ 0 ≤ f ∧ f ≤ p ∧ p < m f ∧ Dn m (Pf m f) a l'
  | [], a, h => Or.inl rfl
  | c :: t, a, ⟨h1, h2, h3, h4⟩ => by
    right
    rcases Dn.down t c h4 with q | ⟨f, l', q1, q2, q3, q4, q5⟩
    · subst q
      have h4 : 0 ≤ c ∧ c ≤ p ∧ p < m c := h4
      exact ⟨c, [], rfl, h4.1, h4.2.1, h4.2.2, by show Pf m c a; exact ⟨h2, by omega, h3⟩⟩
    · have hc := q5.P
      have e1 := hc.1
      have e2 := hc.2.2
      exact ⟨f, c :: l', by rw [q1]; rfl, q2, q3, q4, ⟨by omega, by omega, by omega⟩, h2, h3, q5⟩
theorem Dn.lift {m : Int → Int} {p f : Int} (f0 : 0 ≤ f) (fp : f ≤ p) (pf : p < m f) : ∀ (l : List Int) (a : Int), a ≤ p → Dn m (Pf m f) a l → Dn m (fun a => 0 ≤ a ∧ a ≤ p ∧ p < m a) a (l ++ [f])
  | [], a, ha, h => by
    have h : Pf m f a := h
    have e1 := h.1
    have e2 := h.2.2
    exact ⟨⟨by omega, ha, by omega⟩, e1, e2, ⟨f0, fp, pf⟩⟩
  | c :: t, a, ha, ⟨h1, h2, h3, h4⟩ => by
    have e1 := h1.1
    have e2 := h1.2.2
    exact ⟨⟨by omega, ha, by omega⟩, h2, h3, Dn.lift f0 fp pf t c (by omega) h4⟩
/-- run at c is right -/
def Rk (m : Int → Int) (f : Int) (r : Int → Int) (c : Int) : Prop := (Pf m f c → 2 ≤ r c ∧ (∀ l, Dn m (Pf m f) c l → (l.length : Int) + 2 ≤ r c) ∧ ∃ l, Dn m (Pf m f) c l ∧ (l.length : Int) + 2 = r c) ∧ (¬ Pf m f c → r c = 0)
/-- the most of chains from f -/
def Tf (m : Int → Int) (f v : Int) : Prop := 1 ≤ v ∧ v ≤ 26 ∧ (∀ a l, Dn m (Pf m f) a l → (l.length : Int) + 2 ≤ v) ∧ (v = 1 ∨ ∃ a l, Dn m (Pf m f) a l ∧ (l.length : Int) + 2 = v)
set_option maxRecDepth 100000 in
theorem r_X6_tangleFrom (D : Nat) (σ : Sg) (f : Int) (hw : WD (σ 6 0) (σ 26)) (f0 : 0 ≤ f) (f1 : f < σ 6 0) (f2 : f < σ 26 f) : ∃ v τ, Ret (D + 2) miX6_tangleFrom [aR 6, aI f] σ (some (aI v)) τ ∧ (∀ a b, a ≠ 30 → τ a b = σ a b) ∧ Tf (σ 26) f v := by
  have w1 := hw.1
  have w2 := hw.2.1
  have hL : σ 26 f < σ 6 0 := by rcases hw.b f0 (show f < 24 by omega) with q | q <;> omega
  have hdl : ∀ {a : Int} {l : List Int}, Dn (σ 26) (Pf (σ 26) f) a l → (l.length : Int) ≤ a ∧ a < 24 := fun h => ⟨Dn.len (fun a h => by have := h.1; omega) h, by have := h.P.2.1; omega⟩
  have loop : ∀ (k : Nat) (b mo : Int) (χ : Sg), f < b → b + k = σ 26 f → 1 ≤ mo → mo ≤ 26 → (∀ a b, a ≠ 30 → χ a b = σ a b) → (∀ c, f < c → c < b → Rk (σ 26) f (χ 30) c ∧ χ 30 c ≤ mo) → (mo = 1 ∨ ∃ c, f < c ∧ c < b ∧ Pf (σ 26) f c ∧ χ 30 c = mo) → ∃ v τ, V (D + 1) miX6_tangleFrom 6 (some (aI v)) τ 6 [some (aR 6), some (aI f), some (aI mo), some (aI b), none] [] χ ∧ (∀ a b, a ≠ 30 → τ a b = σ a b) ∧ Tf (σ 26) f v := by
    intro k
    induction k with
    | zero =>
      intro b mo χ hb hk m0 m1 hf hR hm
      have e26 := hf 26 f (by omega)
      refine ⟨mo, χ, ?_, hf, m0, m1, fun a l hl => ?_, ?_⟩
      · refine vX6_tangleFrom 60 ?_
        simp only [↓S_X6_tangleFrom_1, ↓S_X6_tangleFrom_2, ↓S_X6_tangleFrom_3, ↓pI_c, ↓pL_c, ↓pR_c, ↓pC_I, ↓pC_R, ↓pE_n, ↓gI_0, ↓gI_s, ↓gL_0, ↓gL_s, ↓gR_0, ↓gR_s, ↓popN_0, ↓popN_s, ↓kl_I, ↓kl_L, ↓kl_R, ↓kl_n, ↓put1_0, ↓put1_s, ↓putk_0, ↓putk_s, ↓put2_0, ↓put2_s, ↓putl_0, ↓putl_s, ↓callK_0, ↓callK_1, ↓callK_2, cats_n, cats_c, catA_I, catA_L, catA_R, KL, LV, lval_f, ltag_f, llen_f, lcm_lt, lcm_le, lcm_gt, lcm_ge, lcm_eq, lcm_R1, lcm_R2, inR, inL, true_and, and_true, eq_self, List.head?_cons, Option.some.injEq, Sum.inr.injEq, Sum.inl.injEq, false_or, or_false, true_or, or_true, Nat.reduceAdd, Nat.reduceLeDiff, Int.reduceLE, Int.reduceLT, Int.reduceEq, Int.reduceNeg, Int.reduceAdd, Int.reduceSub, Int.reduceMul, Int.reduceNe, ne_eq, not_false_eq_true, not_true_eq_false, false_implies, forall_const, Nat.le_refl, Nat.zero_le, implies_true, and_self]
        rw [e26]
        (repeat' (first | apply And.intro | intro _))
        all_goals (try first | omega | trivial | (rfl; done) | assumption | (exfalso; omega))
      · have hp := hl.P
        obtain ⟨hr, hrm⟩ := hR a hp.1 (by have := hp.2.1; omega)
        have := (hr.1 hp).2.1 l hl
        omega
      · rcases hm with q | ⟨c, c0, c1, c2, c3⟩
        · exact Or.inl q
        · obtain ⟨l, l1, l2⟩ := ((hR c c0 c1).1.1 c2).2.2
          exact Or.inr ⟨c, l, l1, by omega⟩
    | succ k ih =>
      intro b mo χ hb hk m0 m1 hf hR hm
      have e26 := hf 26 f (by omega)
      have hr := hw.r (show 0 ≤ b by omega) (show b < 24 by omega)
      have hu : ∀ v, ∀ x y, x ≠ 30 → up χ 30 b v x y = σ x y := fun v x y hx => by unfold up; rw [if_neg (by omega)]; exact hf x y hx
      have hv : ∀ v, up χ 30 b v 30 b = v := fun v => by unfold up; rw [if_pos ⟨rfl, rfl⟩]
      have hc : ∀ v c, c ≠ b → up χ 30 b v 30 c = χ 30 c := fun v c h => by unfold up; rw [if_neg (by omega)]
      have hb0 := r_X6_begins D (up χ 30 b 0) b (by omega) (by omega) (by rw [hu 0 26 b (by omega)]; unfold inR; omega)
      rw [hu 0 26 b (by omega)] at hb0
      have m1' := hu 0 26 b (by omega)
      have m2' := hu 0 26 f (by omega)
      have huu : ∀ v w, up (up χ 30 b v) 30 b w = up χ 30 b w := fun v w => by
        funext y z
        unfold up
        by_cases q : y = 30 ∧ z = b
        · rw [if_pos q, if_pos q]
        · rw [if_neg q, if_neg q, if_neg q]
      have hRc : ∀ v c, c ≠ b → Rk (σ 26) f (χ 30) c → Rk (σ 26) f (up χ 30 b v 30) c := fun v c h hh => by
        unfold Rk
        rw [hc v c h]
        exact hh
      by_cases cP : Pf (σ 26) f b
      · have cb : b < σ 26 b := by have := cP.2.1; have := cP.2.2; omega
        have cf : σ 26 f < σ 26 b := cP.2.2
        rw [if_pos cb] at hb0
        have inner : ∀ (n : Nat) (a x : Int), f < a → a + n = b → 2 ≤ x → x ≤ 26 → (∀ c, f < c → c < a → Pf (σ 26) f c → σ 26 c < σ 26 b → χ 30 c + 1 ≤ x) → (x = 2 ∨ ∃ c, f < c ∧ c < a ∧ Pf (σ 26) f c ∧ σ 26 c < σ 26 b ∧ x = χ 30 c + 1) → ∃ v τ, V (D + 1) miX6_tangleFrom 6 (some (aI v)) τ 58 [some (aR 6), some (aI f), some (aI mo), some (aI b), some (aI a)] [] (up χ 30 b x) ∧ (∀ a b, a ≠ 30 → τ a b = σ a b) ∧ Tf (σ 26) f v := by
          intro n
          induction n with
          | zero =>
            intro a x a0 an x0 x1 hx1 hx2
            have hRb : Rk (σ 26) f (up χ 30 b x 30) b := by
              unfold Rk
              rw [hv]
              refine ⟨fun _ => ⟨x0, fun l hl => ?_, ?_⟩, fun q => absurd cP q⟩
              · cases l with
                | nil => show (0 : Int) + 2 ≤ x; omega
                | cons c t =>
                  obtain ⟨_, h2, h3, h4⟩ := hl
                  have hp := h4.P
                  have e1 := ((hR c hp.1 h2).1.1 hp).2.1 t h4
                  have e2 := hx1 c hp.1 (by omega) hp h3
                  show ((t.length + 1 : Nat) : Int) + 2 ≤ x
                  omega
              · rcases hx2 with q | ⟨c, c0, c1, c2, c3, c4⟩
                · exact ⟨[], cP, by show (0 : Int) + 2 = x; omega⟩
                · obtain ⟨l, l1, l2⟩ := ((hR c c0 (by omega)).1.1 c2).2.2
                  exact ⟨c :: l, ⟨cP, by omega, c3, l1⟩, by show ((l.length + 1 : Nat) : Int) + 2 = x; omega⟩
            have h1 := hv x
            by_cases c5 : mo < x
            · obtain ⟨v, τ, t, tr⟩ := ih (b + 1) x (up χ 30 b x) (by omega) (by omega) (by omega) x1 (hu x) (fun c c0 c1 => by
                by_cases q : c = b
                · rw [q]; exact ⟨hRb, by rw [hv]; omega⟩
                · exact ⟨hRc x c q (hR c c0 (by omega)).1, by rw [hc x c q]; have := (hR c c0 (by omega)).2; omega⟩) (Or.inr ⟨b, hb, by omega, cP, hv x⟩)
              refine ⟨v, τ, ?_, tr⟩
              refine vX6_tangleFrom 60 ?_
              simp only [↓S_X6_tangleFrom_1, ↓S_X6_tangleFrom_2, ↓S_X6_tangleFrom_3, ↓pI_c, ↓pL_c, ↓pR_c, ↓pC_I, ↓pC_R, ↓pE_n, ↓gI_0, ↓gI_s, ↓gL_0, ↓gL_s, ↓gR_0, ↓gR_s, ↓popN_0, ↓popN_s, ↓kl_I, ↓kl_L, ↓kl_R, ↓kl_n, ↓put1_0, ↓put1_s, ↓putk_0, ↓putk_s, ↓put2_0, ↓put2_s, ↓putl_0, ↓putl_s, ↓callK_0, ↓callK_1, ↓callK_2, cats_n, cats_c, catA_I, catA_L, catA_R, KL, LV, lval_f, ltag_f, llen_f, lcm_lt, lcm_le, lcm_gt, lcm_ge, lcm_eq, lcm_R1, lcm_R2, inR, inL, true_and, and_true, eq_self, List.head?_cons, Option.some.injEq, Sum.inr.injEq, Sum.inl.injEq, false_or, or_false, true_or, or_true, Nat.reduceAdd, Nat.reduceLeDiff, Int.reduceLE, Int.reduceLT, Int.reduceEq, Int.reduceNeg, Int.reduceAdd, Int.reduceSub, Int.reduceMul, Int.reduceNe, ne_eq, not_false_eq_true, not_true_eq_false, false_implies, forall_const, Nat.le_refl, Nat.zero_le, implies_true, and_self]
              (repeat' (first | apply And.intro | intro _))
              all_goals (try first | omega | trivial | (rfl; done) | assumption | (exfalso; omega) | (exact t) | (refine V.wk t ?_; simp [lle]; done) | (simp only [h1]; done) | (simp only [h1]; first | omega | (rfl; done) | (exact t) | (refine V.wk t ?_; simp [lle]; done)))
            · obtain ⟨v, τ, t, tr⟩ := ih (b + 1) mo (up χ 30 b x) (by omega) (by omega) m0 m1 (hu x) (fun c c0 c1 => by
                by_cases q : c = b
                · rw [q]; exact ⟨hRb, by rw [hv]; omega⟩
                · exact ⟨hRc x c q (hR c c0 (by omega)).1, by rw [hc x c q]; exact (hR c c0 (by omega)).2⟩) (by
                rcases hm with q | ⟨c, c0, c1, c2, c3⟩
                · exact Or.inl q
                · exact Or.inr ⟨c, c0, by omega, c2, by rw [hc x c (by omega)]; exact c3⟩)
              refine ⟨v, τ, ?_, tr⟩
              refine vX6_tangleFrom 60 ?_
              simp only [↓S_X6_tangleFrom_1, ↓S_X6_tangleFrom_2, ↓S_X6_tangleFrom_3, ↓pI_c, ↓pL_c, ↓pR_c, ↓pC_I, ↓pC_R, ↓pE_n, ↓gI_0, ↓gI_s, ↓gL_0, ↓gL_s, ↓gR_0, ↓gR_s, ↓popN_0, ↓popN_s, ↓kl_I, ↓kl_L, ↓kl_R, ↓kl_n, ↓put1_0, ↓put1_s, ↓putk_0, ↓putk_s, ↓put2_0, ↓put2_s, ↓putl_0, ↓putl_s, ↓callK_0, ↓callK_1, ↓callK_2, cats_n, cats_c, catA_I, catA_L, catA_R, KL, LV, lval_f, ltag_f, llen_f, lcm_lt, lcm_le, lcm_gt, lcm_ge, lcm_eq, lcm_R1, lcm_R2, inR, inL, true_and, and_true, eq_self, List.head?_cons, Option.some.injEq, Sum.inr.injEq, Sum.inl.injEq, false_or, or_false, true_or, or_true, Nat.reduceAdd, Nat.reduceLeDiff, Int.reduceLE, Int.reduceLT, Int.reduceEq, Int.reduceNeg, Int.reduceAdd, Int.reduceSub, Int.reduceMul, Int.reduceNe, ne_eq, not_false_eq_true, not_true_eq_false, false_implies, forall_const, Nat.le_refl, Nat.zero_le, implies_true, and_self]
              (repeat' (first | apply And.intro | intro _))
              all_goals (try first | omega | trivial | (rfl; done) | assumption | (exfalso; omega) | (exact t) | (refine V.wk t ?_; simp [lle]; done) | (simp only [h1]; done) | (simp only [h1]; first | omega | (rfl; done) | (exact t) | (refine V.wk t ?_; simp [lle]; done)))
          | succ n ih2 =>
            intro a x a0 an x0 x1 hx1 hx2
            have hra := hw.r (show 0 ≤ a by omega) (show a < 24 by omega)
            have h1 := hv x
            have h2 := hc x a (by omega)
            have h3 := hu x 26 a (by omega)
            have h4 := hu x 26 b (by omega)
            have hRa := (hR a a0 (by omega)).1
            have hRm := (hR a a0 (by omega)).2
            by_cases cA : Pf (σ 26) f a
            · have g1 := (hRa.1 cA).1
              have g2 : χ 30 a + 1 ≤ 26 := by
                obtain ⟨l, l1, l2⟩ := (hRa.1 cA).2.2
                have := hdl l1
                omega
              by_cases c6 : σ 26 a < σ 26 b ∧ x < χ 30 a + 1
              · obtain ⟨v, τ, t, tr⟩ := ih2 (a + 1) (χ 30 a + 1) (by omega) (by omega) (by omega) g2 (fun c c0 c1 c2 c3 => by
                  by_cases q : c = a
                  · rw [q]; omega
                  · have := hx1 c c0 (by omega) c2 c3; omega) (Or.inr ⟨a, a0, by omega, cA, c6.1, rfl⟩)
                refine ⟨v, τ, ?_, tr⟩
                rw [← huu x] at t
                refine vX6_tangleFrom 60 ?_
                simp only [↓S_X6_tangleFrom_1, ↓S_X6_tangleFrom_2, ↓S_X6_tangleFrom_3, ↓pI_c, ↓pL_c, ↓pR_c, ↓pC_I, ↓pC_R, ↓pE_n, ↓gI_0, ↓gI_s, ↓gL_0, ↓gL_s, ↓gR_0, ↓gR_s, ↓popN_0, ↓popN_s, ↓kl_I, ↓kl_L, ↓kl_R, ↓kl_n, ↓put1_0, ↓put1_s, ↓putk_0, ↓putk_s, ↓put2_0, ↓put2_s, ↓putl_0, ↓putl_s, ↓callK_0, ↓callK_1, ↓callK_2, cats_n, cats_c, catA_I, catA_L, catA_R, KL, LV, lval_f, ltag_f, llen_f, lcm_lt, lcm_le, lcm_gt, lcm_ge, lcm_eq, lcm_R1, lcm_R2, inR, inL, true_and, and_true, eq_self, List.head?_cons, Option.some.injEq, Sum.inr.injEq, Sum.inl.injEq, false_or, or_false, true_or, or_true, Nat.reduceAdd, Nat.reduceLeDiff, Int.reduceLE, Int.reduceLT, Int.reduceEq, Int.reduceNeg, Int.reduceAdd, Int.reduceSub, Int.reduceMul, Int.reduceNe, ne_eq, not_false_eq_true, not_true_eq_false, false_implies, forall_const, Nat.le_refl, Nat.zero_le, implies_true, and_self]
                (repeat' (first | apply And.intro | intro _))
                all_goals (try first | omega | trivial | (rfl; done) | assumption | (exfalso; omega) | (exact t) | (refine V.wk t ?_; simp [lle]; done) | (simp only [h1, h2, h3, h4]; done) | (simp only [h1, h2, h3, h4]; first | omega | (rfl; done) | (exact t) | (refine V.wk t ?_; simp [lle]; done)))
              · obtain ⟨v, τ, t, tr⟩ := ih2 (a + 1) x (by omega) (by omega) x0 x1 (fun c c0 c1 c2 c3 => by
                  by_cases q : c = a
                  · subst q; omega
                  · exact hx1 c c0 (by omega) c2 c3) (by
                  rcases hx2 with q | ⟨c, c0, c1, c2⟩
                  · exact Or.inl q
                  · exact Or.inr ⟨c, c0, by omega, c2⟩)
                refine ⟨v, τ, ?_, tr⟩
                rw [← huu x] at t
                refine vX6_tangleFrom 60 ?_
                simp only [↓S_X6_tangleFrom_1, ↓S_X6_tangleFrom_2, ↓S_X6_tangleFrom_3, ↓pI_c, ↓pL_c, ↓pR_c, ↓pC_I, ↓pC_R, ↓pE_n, ↓gI_0, ↓gI_s, ↓gL_0, ↓gL_s, ↓gR_0, ↓gR_s, ↓popN_0, ↓popN_s, ↓kl_I, ↓kl_L, ↓kl_R, ↓kl_n, ↓put1_0, ↓put1_s, ↓putk_0, ↓putk_s, ↓put2_0, ↓put2_s, ↓putl_0, ↓putl_s, ↓callK_0, ↓callK_1, ↓callK_2, cats_n, cats_c, catA_I, catA_L, catA_R, KL, LV, lval_f, ltag_f, llen_f, lcm_lt, lcm_le, lcm_gt, lcm_ge, lcm_eq, lcm_R1, lcm_R2, inR, inL, true_and, and_true, eq_self, List.head?_cons, Option.some.injEq, Sum.inr.injEq, Sum.inl.injEq, false_or, or_false, true_or, or_true, Nat.reduceAdd, Nat.reduceLeDiff, Int.reduceLE, Int.reduceLT, Int.reduceEq, Int.reduceNeg, Int.reduceAdd, Int.reduceSub, Int.reduceMul, Int.reduceNe, ne_eq, not_false_eq_true, not_true_eq_false, false_implies, forall_const, Nat.le_refl, Nat.zero_le, implies_true, and_self]
                (repeat' (first | apply And.intro | intro _))
                all_goals (try first | omega | trivial | (rfl; done) | assumption | (exfalso; omega) | (exact t) | (refine V.wk t ?_; simp [lle]; done) | (simp only [h1, h2, h3, h4]; done) | (simp only [h1, h2, h3, h4]; first | omega | (rfl; done) | (exact t) | (refine V.wk t ?_; simp [lle]; done)))
            · have g1 := hRa.2 cA
              obtain ⟨v, τ, t, tr⟩ := ih2 (a + 1) x (by omega) (by omega) x0 x1 (fun c c0 c1 c2 c3 => by
                by_cases q : c = a
                · subst q; exact absurd c2 cA
                · exact hx1 c c0 (by omega) c2 c3) (by
                rcases hx2 with q | ⟨c, c0, c1, c2⟩
                · exact Or.inl q
                · exact Or.inr ⟨c, c0, by omega, c2⟩)
              refine ⟨v, τ, ?_, tr⟩
              rw [← huu x] at t
              refine vX6_tangleFrom 60 ?_
              simp only [↓S_X6_tangleFrom_1, ↓S_X6_tangleFrom_2, ↓S_X6_tangleFrom_3, ↓pI_c, ↓pL_c, ↓pR_c, ↓pC_I, ↓pC_R, ↓pE_n, ↓gI_0, ↓gI_s, ↓gL_0, ↓gL_s, ↓gR_0, ↓gR_s, ↓popN_0, ↓popN_s, ↓kl_I, ↓kl_L, ↓kl_R, ↓kl_n, ↓put1_0, ↓put1_s, ↓putk_0, ↓putk_s, ↓put2_0, ↓put2_s, ↓putl_0, ↓putl_s, ↓callK_0, ↓callK_1, ↓callK_2, cats_n, cats_c, catA_I, catA_L, catA_R, KL, LV, lval_f, ltag_f, llen_f, lcm_lt, lcm_le, lcm_gt, lcm_ge, lcm_eq, lcm_R1, lcm_R2, inR, inL, true_and, and_true, eq_self, List.head?_cons, Option.some.injEq, Sum.inr.injEq, Sum.inl.injEq, false_or, or_false, true_or, or_true, Nat.reduceAdd, Nat.reduceLeDiff, Int.reduceLE, Int.reduceLT, Int.reduceEq, Int.reduceNeg, Int.reduceAdd, Int.reduceSub, Int.reduceMul, Int.reduceNe, ne_eq, not_false_eq_true, not_true_eq_false, false_implies, forall_const, Nat.le_refl, Nat.zero_le, implies_true, and_self]
              (repeat' (first | apply And.intro | intro _))
              all_goals (try first | omega | trivial | (rfl; done) | assumption | (exfalso; omega) | (exact t) | (refine V.wk t ?_; simp [lle]; done) | (simp only [h1, h2, h3, h4]; done) | (simp only [h1, h2, h3, h4]; first | omega | (rfl; done) | (exact t) | (refine V.wk t ?_; simp [lle]; done)))
        obtain ⟨v, τ, t, tr⟩ := inner (b - (f + 1)).toNat (f + 1) 2 (by omega) (by omega) (by omega) (by omega) (fun c c0 c1 => by omega) (Or.inl rfl)
        refine ⟨v, τ, ?_, tr⟩
        rw [← huu 0] at t
        refine vX6_tangleFrom 60 ?_
        simp only [↓S_X6_tangleFrom_1, ↓S_X6_tangleFrom_2, ↓S_X6_tangleFrom_3, ↓pI_c, ↓pL_c, ↓pR_c, ↓pC_I, ↓pC_R, ↓pE_n, ↓gI_0, ↓gI_s, ↓gL_0, ↓gL_s, ↓gR_0, ↓gR_s, ↓popN_0, ↓popN_s, ↓kl_I, ↓kl_L, ↓kl_R, ↓kl_n, ↓put1_0, ↓put1_s, ↓putk_0, ↓putk_s, ↓put2_0, ↓put2_s, ↓putl_0, ↓putl_s, ↓callK_0, ↓callK_1, ↓callK_2, cats_n, cats_c, catA_I, catA_L, catA_R, KL, LV, lval_f, ltag_f, llen_f, lcm_lt, lcm_le, lcm_gt, lcm_ge, lcm_eq, lcm_R1, lcm_R2, inR, inL, true_and, and_true, eq_self, List.head?_cons, Option.some.injEq, Sum.inr.injEq, Sum.inl.injEq, false_or, or_false, true_or, or_true, Nat.reduceAdd, Nat.reduceLeDiff, Int.reduceLE, Int.reduceLT, Int.reduceEq, Int.reduceNeg, Int.reduceAdd, Int.reduceSub, Int.reduceMul, Int.reduceNe, ne_eq, not_false_eq_true, not_true_eq_false, false_implies, forall_const, Nat.le_refl, Nat.zero_le, implies_true, and_self]
        rw [e26]
        (repeat' (first | apply And.intro | intro _ | with_reducible refine Exists.intro _ (Exists.intro _ (And.intro hb0 ?_)) | with_reducible refine Exists.intro _ (And.intro hb0 ?_)))
        all_goals (try first | omega | trivial | (rfl; done) | assumption | (exfalso; omega) | (exact t) | (refine V.wk t ?_; simp [lle]; done) | (simp only [m1', m2']; done) | (simp only [m1', m2']; first | omega | (rfl; done) | (exact t) | (refine V.wk t ?_; simp [lle]; done)))
      · obtain ⟨v, τ, t, tr⟩ := ih (b + 1) mo (up χ 30 b 0) (by omega) (by omega) m0 m1 (hu 0) (fun c c0 c1 => by
          by_cases q : c = b
          · rw [q]
            refine ⟨⟨fun z => absurd z cP, fun _ => hv 0⟩, by rw [hv]; omega⟩
          · exact ⟨hRc 0 c q (hR c c0 (by omega)).1, by rw [hc 0 c q]; exact (hR c c0 (by omega)).2⟩) (by
          rcases hm with q | ⟨c, c0, c1, c2, c3⟩
          · exact Or.inl q
          · exact Or.inr ⟨c, c0, by omega, c2, by rw [hc 0 c (by omega)]; exact c3⟩)
        refine ⟨v, τ, ?_, tr⟩
        have hnf : ¬ σ 26 f < σ 26 b := fun z => cP ⟨hb, by omega, z⟩
        have hrf := hw.r f0 (show f < 24 by omega)
        by_cases cb : b < σ 26 b
        · rw [if_pos cb] at hb0
          refine vX6_tangleFrom 60 ?_
          simp only [↓S_X6_tangleFrom_1, ↓S_X6_tangleFrom_2, ↓S_X6_tangleFrom_3, ↓pI_c, ↓pL_c, ↓pR_c, ↓pC_I, ↓pC_R, ↓pE_n, ↓gI_0, ↓gI_s, ↓gL_0, ↓gL_s, ↓gR_0, ↓gR_s, ↓popN_0, ↓popN_s, ↓kl_I, ↓kl_L, ↓kl_R, ↓kl_n, ↓put1_0, ↓put1_s, ↓putk_0, ↓putk_s, ↓put2_0, ↓put2_s, ↓putl_0, ↓putl_s, ↓callK_0, ↓callK_1, ↓callK_2, cats_n, cats_c, catA_I, catA_L, catA_R, KL, LV, lval_f, ltag_f, llen_f, lcm_lt, lcm_le, lcm_gt, lcm_ge, lcm_eq, lcm_R1, lcm_R2, inR, inL, true_and, and_true, eq_self, List.head?_cons, Option.some.injEq, Sum.inr.injEq, Sum.inl.injEq, false_or, or_false, true_or, or_true, Nat.reduceAdd, Nat.reduceLeDiff, Int.reduceLE, Int.reduceLT, Int.reduceEq, Int.reduceNeg, Int.reduceAdd, Int.reduceSub, Int.reduceMul, Int.reduceNe, ne_eq, not_false_eq_true, not_true_eq_false, false_implies, forall_const, Nat.le_refl, Nat.zero_le, implies_true, and_self]
          rw [e26]
          (repeat' (first | apply And.intro | intro _ | with_reducible refine Exists.intro _ (Exists.intro _ (And.intro hb0 ?_)) | with_reducible refine Exists.intro _ (And.intro hb0 ?_)))
          all_goals (try first | omega | trivial | (rfl; done) | assumption | (exfalso; omega) | (exact t) | (refine V.wk t ?_; simp [lle]; done) | (simp only [m1', m2']; done) | (simp only [m1', m2']; first | omega | (rfl; done) | (exact t) | (refine V.wk t ?_; simp [lle]; done)))
        · rw [if_neg cb] at hb0
          refine vX6_tangleFrom 60 ?_
          simp only [↓S_X6_tangleFrom_1, ↓S_X6_tangleFrom_2, ↓S_X6_tangleFrom_3, ↓pI_c, ↓pL_c, ↓pR_c, ↓pC_I, ↓pC_R, ↓pE_n, ↓gI_0, ↓gI_s, ↓gL_0, ↓gL_s, ↓gR_0, ↓gR_s, ↓popN_0, ↓popN_s, ↓kl_I, ↓kl_L, ↓kl_R, ↓kl_n, ↓put1_0, ↓put1_s, ↓putk_0, ↓putk_s, ↓put2_0, ↓put2_s, ↓putl_0, ↓putl_s, ↓callK_0, ↓callK_1, ↓callK_2, cats_n, cats_c, catA_I, catA_L, catA_R, KL, LV, lval_f, ltag_f, llen_f, lcm_lt, lcm_le, lcm_gt, lcm_ge, lcm_eq, lcm_R1, lcm_R2, inR, inL, true_and, and_true, eq_self, List.head?_cons, Option.some.injEq, Sum.inr.injEq, Sum.inl.injEq, false_or, or_false, true_or, or_true, Nat.reduceAdd, Nat.reduceLeDiff, Int.reduceLE, Int.reduceLT, Int.reduceEq, Int.reduceNeg, Int.reduceAdd, Int.reduceSub, Int.reduceMul, Int.reduceNe, ne_eq, not_false_eq_true, not_true_eq_false, false_implies, forall_const, Nat.le_refl, Nat.zero_le, implies_true, and_self]
          rw [e26]
          (repeat' (first | apply And.intro | intro _ | with_reducible refine Exists.intro _ (Exists.intro _ (And.intro hb0 ?_)) | with_reducible refine Exists.intro _ (And.intro hb0 ?_)))
          all_goals (try first | omega | trivial | (rfl; done) | assumption | (exfalso; omega) | (exact t) | (refine V.wk t ?_; simp [lle]; done) | (simp only [m1', m2']; done) | (simp only [m1', m2']; first | omega | (rfl; done) | (exact t) | (refine V.wk t ?_; simp [lle]; done)))
  obtain ⟨v, τ, t, tr⟩ := loop (σ 26 f - (f + 1)).toNat (f + 1) 1 σ (by omega) (by omega) (by omega) (by omega) (fun _ _ _ => rfl) (fun c c0 c1 => by omega) (Or.inl rfl)
  refine ⟨v, τ, ?_, tr⟩
  refine Ret.of 6 [some (aR 6), some (aI f), none, none, none] rfl (by decide) rfl (Nat.le_of_ble_eq_true rfl) ?_
  refine vX6_tangleFrom 60 ?_
  simp only [↓S_X6_tangleFrom_1, ↓S_X6_tangleFrom_2, ↓S_X6_tangleFrom_3, ↓pI_c, ↓pL_c, ↓pR_c, ↓pC_I, ↓pC_R, ↓pE_n, ↓gI_0, ↓gI_s, ↓gL_0, ↓gL_s, ↓gR_0, ↓gR_s, ↓popN_0, ↓popN_s, ↓kl_I, ↓kl_L, ↓kl_R, ↓kl_n, ↓put1_0, ↓put1_s, ↓putk_0, ↓putk_s, ↓put2_0, ↓put2_s, ↓putl_0, ↓putl_s, ↓callK_0, ↓callK_1, ↓callK_2, cats_n, cats_c, catA_I, catA_L, catA_R, KL, LV, lval_f, ltag_f, llen_f, lcm_lt, lcm_le, lcm_gt, lcm_ge, lcm_eq, lcm_R1, lcm_R2, inR, inL, true_and, and_true, eq_self, List.head?_cons, Option.some.injEq, Sum.inr.injEq, Sum.inl.injEq, false_or, or_false, true_or, or_true, Nat.reduceAdd, Nat.reduceLeDiff, Int.reduceLE, Int.reduceLT, Int.reduceEq, Int.reduceNeg, Int.reduceAdd, Int.reduceSub, Int.reduceMul, Int.reduceNe, ne_eq, not_false_eq_true, not_true_eq_false, false_implies, forall_const, Nat.le_refl, Nat.zero_le, implies_true, and_self]
  (repeat' (first | apply And.intro | intro _))
  all_goals (try first | omega | trivial | (rfl; done) | assumption | (exfalso; omega) | (exact t) | (refine V.wk t ?_; simp [lle]; done))
theorem TanV.one {L v v2 : Int} {m : Int → Int} (h : TanV L m v) (h2 : TanV L m v2) : v = v2 := by
  have key : ∀ {x y : Int}, TanV L m x → TanV L m y → x ≤ y := fun {x y} hx hy => by
    rcases hx.2 with q | ⟨p, a, l, p0, p1, p2, p3, p4⟩
    · rcases hy.2 with r | ⟨p, a, l, _, _, _, _, p4⟩ <;> omega
    · have := hy.1 p a l p0 p1 p2 p3
      omega
  have := key h h2
  have := key h2 h
  omega
set_option maxRecDepth 100000 in
theorem r_X6_tangle (D : Nat) (σ : Sg) (hw : WD (σ 6 0) (σ 26)) : ∃ v τ, TanV (σ 6 0) (σ 26) v ∧ Ret (D + 3) miX6_tangle [aR 6] σ (some (aI v)) τ ∧ (∀ a b, a ≠ 30 → τ a b = σ a b) := by
  have w1 := hw.1
  have w2 := hw.2.1
  have loop : ∀ (k : Nat) (i mo : Int) (χ : Sg), 0 ≤ i → i + k = σ 6 0 → 0 ≤ mo → mo ≤ 26 → (∀ a b, a ≠ 30 → χ a b = σ a b) → (∀ f, 0 ≤ f → f < i → f < σ 26 f → ∃ v, Tf (σ 26) f v ∧ v ≤ mo) → (mo = 0 ∨ ∃ f, 0 ≤ f ∧ f < i ∧ f < σ 26 f ∧ Tf (σ 26) f mo) → ∃ v τ, V (D + 2) miX6_tangle 6 (some (aI v)) τ 4 [some (aR 6), some (aI mo), some (aI i), none] [] χ ∧ (∀ a b, a ≠ 30 → τ a b = σ a b) ∧ ((∀ f, 0 ≤ f → f < σ 6 0 → f < σ 26 f → ∃ w, Tf (σ 26) f w ∧ w ≤ v) ∧ (v = 0 ∨ ∃ f, 0 ≤ f ∧ f < σ 6 0 ∧ f < σ 26 f ∧ Tf (σ 26) f v)) := by
    intro k
    induction k with
    | zero =>
      intro i mo χ i0 ik m0 m1 hf h1 h2
      have e1 := hf 6 0 (by omega)
      have : i = σ 6 0 := by omega
      subst this
      refine ⟨mo, χ, ?_, hf, h1, h2⟩
      refine vX6_tangle 60 ?_
      simp only [↓S_X6_tangle, ↓pI_c, ↓pL_c, ↓pR_c, ↓pC_I, ↓pC_R, ↓pE_n, ↓gI_0, ↓gI_s, ↓gL_0, ↓gL_s, ↓gR_0, ↓gR_s, ↓popN_0, ↓popN_s, ↓kl_I, ↓kl_L, ↓kl_R, ↓kl_n, ↓put1_0, ↓put1_s, ↓putk_0, ↓putk_s, ↓put2_0, ↓put2_s, ↓putl_0, ↓putl_s, ↓callK_0, ↓callK_1, ↓callK_2, cats_n, cats_c, catA_I, catA_L, catA_R, KL, LV, lval_f, ltag_f, llen_f, lcm_lt, lcm_le, lcm_gt, lcm_ge, lcm_eq, lcm_R1, lcm_R2, inR, inL, true_and, and_true, eq_self, List.head?_cons, Option.some.injEq, Sum.inr.injEq, Sum.inl.injEq, false_or, or_false, true_or, or_true, Nat.reduceAdd, Nat.reduceLeDiff, Int.reduceLE, Int.reduceLT, Int.reduceEq, Int.reduceNeg, Int.reduceAdd, Int.reduceSub, Int.reduceMul, Int.reduceNe, ne_eq, not_false_eq_true, not_true_eq_false, false_implies, forall_const, Nat.le_refl, Nat.zero_le, implies_true, and_self]
      rw [e1]
      (repeat' (first | apply And.intro | intro _))
      all_goals (try first | omega | trivial | (rfl; done) | assumption | (exfalso; omega))
    | succ k ih =>
      intro i mo χ i0 ik m0 m1 hf h1 h2
      have e1 := hf 6 0 (by omega)
      have e2 : χ 26 = σ 26 := funext fun y => hf 26 y (by omega)
      have hr := hw.r i0 (show i < 24 by omega)
      have hb := r_X6_begins (D + 1) χ i i0 (by omega) (by rw [e2]; unfold inR; omega)
      rw [e2] at hb
      by_cases c : i < σ 26 i
      · rw [if_pos c] at hb
        obtain ⟨v, ψ, p1, p2, p3⟩ := r_X6_tangleFrom D χ i (by rw [e1, e2]; exact hw) i0 (by omega) (by rw [e2]; exact c)
        rw [e2] at p3
        have pv1 := p3.1
        have pv2 := p3.2.1
        by_cases c2 : mo < v
        · obtain ⟨w, τ, t, tr⟩ := ih (i + 1) v ψ (by omega) (by omega) (by omega) (by omega) (fun a b h => by rw [p2 a b h]; exact hf a b h) (fun f f0 f1 f2 => by
            by_cases q : f = i
            · exact ⟨v, by rw [q]; exact p3, by omega⟩
            · obtain ⟨x, x1, x2⟩ := h1 f f0 (by omega) f2
              exact ⟨x, x1, by omega⟩) (Or.inr ⟨i, i0, by omega, c, p3⟩)
          refine ⟨w, τ, ?_, tr⟩
          refine vX6_tangle 60 ?_
          simp only [↓S_X6_tangle, ↓pI_c, ↓pL_c, ↓pR_c, ↓pC_I, ↓pC_R, ↓pE_n, ↓gI_0, ↓gI_s, ↓gL_0, ↓gL_s, ↓gR_0, ↓gR_s, ↓popN_0, ↓popN_s, ↓kl_I, ↓kl_L, ↓kl_R, ↓kl_n, ↓put1_0, ↓put1_s, ↓putk_0, ↓putk_s, ↓put2_0, ↓put2_s, ↓putl_0, ↓putl_s, ↓callK_0, ↓callK_1, ↓callK_2, cats_n, cats_c, catA_I, catA_L, catA_R, KL, LV, lval_f, ltag_f, llen_f, lcm_lt, lcm_le, lcm_gt, lcm_ge, lcm_eq, lcm_R1, lcm_R2, inR, inL, true_and, and_true, eq_self, List.head?_cons, Option.some.injEq, Sum.inr.injEq, Sum.inl.injEq, false_or, or_false, true_or, or_true, Nat.reduceAdd, Nat.reduceLeDiff, Int.reduceLE, Int.reduceLT, Int.reduceEq, Int.reduceNeg, Int.reduceAdd, Int.reduceSub, Int.reduceMul, Int.reduceNe, ne_eq, not_false_eq_true, not_true_eq_false, false_implies, forall_const, Nat.le_refl, Nat.zero_le, implies_true, and_self]
          rw [e1]
          (repeat' (first | apply And.intro | intro _ | with_reducible refine Exists.intro _ (Exists.intro _ (And.intro hb ?_)) | with_reducible refine Exists.intro _ (And.intro hb ?_) | with_reducible refine Exists.intro _ (Exists.intro _ (And.intro p1 ?_)) | with_reducible refine Exists.intro _ (And.intro p1 ?_)))
          all_goals (try first | omega | trivial | (rfl; done) | assumption | (exfalso; omega) | (exact t) | (refine V.wk t ?_; simp [lle]; done))
        · obtain ⟨w, τ, t, tr⟩ := ih (i + 1) mo ψ (by omega) (by omega) (by omega) (by omega) (fun a b h => by rw [p2 a b h]; exact hf a b h) (fun f f0 f1 f2 => by
            by_cases q : f = i
            · exact ⟨v, by rw [q]; exact p3, by omega⟩
            · exact h1 f f0 (by omega) f2) (by
            rcases h2 with q | ⟨f, q0, q1, q2⟩
            · exact Or.inl q
            · exact Or.inr ⟨f, q0, by omega, q2⟩)
          refine ⟨w, τ, ?_, tr⟩
          refine vX6_tangle 60 ?_
          simp only [↓S_X6_tangle, ↓pI_c, ↓pL_c, ↓pR_c, ↓pC_I, ↓pC_R, ↓pE_n, ↓gI_0, ↓gI_s, ↓gL_0, ↓gL_s, ↓gR_0, ↓gR_s, ↓popN_0, ↓popN_s, ↓kl_I, ↓kl_L, ↓kl_R, ↓kl_n, ↓put1_0, ↓put1_s, ↓putk_0, ↓putk_s, ↓put2_0, ↓put2_s, ↓putl_0, ↓putl_s, ↓callK_0, ↓callK_1, ↓callK_2, cats_n, cats_c, catA_I, catA_L, catA_R, KL, LV, lval_f, ltag_f, llen_f, lcm_lt, lcm_le, lcm_gt, lcm_ge, lcm_eq, lcm_R1, lcm_R2, inR, inL, true_and, and_true, eq_self, List.head?_cons, Option.some.injEq, Sum.inr.injEq, Sum.inl.injEq, false_or, or_false, true_or, or_true, Nat.reduceAdd, Nat.reduceLeDiff, Int.reduceLE, Int.reduceLT, Int.reduceEq, Int.reduceNeg, Int.reduceAdd, Int.reduceSub, Int.reduceMul, Int.reduceNe, ne_eq, not_false_eq_true, not_true_eq_false, false_implies, forall_const, Nat.le_refl, Nat.zero_le, implies_true, and_self]
          rw [e1]
          (repeat' (first | apply And.intro | intro _ | with_reducible refine Exists.intro _ (Exists.intro _ (And.intro hb ?_)) | with_reducible refine Exists.intro _ (And.intro hb ?_) | with_reducible refine Exists.intro _ (Exists.intro _ (And.intro p1 ?_)) | with_reducible refine Exists.intro _ (And.intro p1 ?_)))
          all_goals (try first | omega | trivial | (rfl; done) | assumption | (exfalso; omega) | (exact t) | (refine V.wk t ?_; simp [lle]; done))
      · rw [if_neg c] at hb
        obtain ⟨w, τ, t, tr⟩ := ih (i + 1) mo χ (by omega) (by omega) (by omega) (by omega) hf (fun f f0 f1 f2 => by
          by_cases q : f = i
          · rw [q] at f2; exact absurd f2 c
          · exact h1 f f0 (by omega) f2) (by
          rcases h2 with q | ⟨f, q0, q1, q2⟩
          · exact Or.inl q
          · exact Or.inr ⟨f, q0, by omega, q2⟩)
        refine ⟨w, τ, ?_, tr⟩
        refine vX6_tangle 60 ?_
        simp only [↓S_X6_tangle, ↓pI_c, ↓pL_c, ↓pR_c, ↓pC_I, ↓pC_R, ↓pE_n, ↓gI_0, ↓gI_s, ↓gL_0, ↓gL_s, ↓gR_0, ↓gR_s, ↓popN_0, ↓popN_s, ↓kl_I, ↓kl_L, ↓kl_R, ↓kl_n, ↓put1_0, ↓put1_s, ↓putk_0, ↓putk_s, ↓put2_0, ↓put2_s, ↓putl_0, ↓putl_s, ↓callK_0, ↓callK_1, ↓callK_2, cats_n, cats_c, catA_I, catA_L, catA_R, KL, LV, lval_f, ltag_f, llen_f, lcm_lt, lcm_le, lcm_gt, lcm_ge, lcm_eq, lcm_R1, lcm_R2, inR, inL, true_and, and_true, eq_self, List.head?_cons, Option.some.injEq, Sum.inr.injEq, Sum.inl.injEq, false_or, or_false, true_or, or_true, Nat.reduceAdd, Nat.reduceLeDiff, Int.reduceLE, Int.reduceLT, Int.reduceEq, Int.reduceNeg, Int.reduceAdd, Int.reduceSub, Int.reduceMul, Int.reduceNe, ne_eq, not_false_eq_true, not_true_eq_false, false_implies, forall_const, Nat.le_refl, Nat.zero_le, implies_true, and_self]
        rw [e1]
        (repeat' (first | apply And.intro | intro _ | with_reducible refine Exists.intro _ (Exists.intro _ (And.intro hb ?_)) | with_reducible refine Exists.intro _ (And.intro hb ?_)))
        all_goals (try first | omega | trivial | (rfl; done) | assumption | (exfalso; omega) | (exact t) | (refine V.wk t ?_; simp [lle]; done))
  obtain ⟨v, τ, t, tr, u1, u2⟩ := loop (σ 6 0).toNat 0 0 σ (by omega) (by omega) (by omega) (by omega) (fun _ _ _ => rfl) (fun f f0 f1 => by omega) (Or.inl rfl)
  refine ⟨v, τ, ⟨fun p a l p0 p1 p2 hl => ?_, ?_⟩, ?_, tr⟩
  · rcases hl.down l a with q | ⟨f, l', q1, q2, q3, q4, q5⟩
    · subst q
      have hp : 0 ≤ a ∧ a ≤ p ∧ p < σ 26 a := hl
      obtain ⟨w, w1, w2⟩ := u1 a hp.1 (by omega) (by omega)
      have := w1.1
      show (0 : Int) + 1 ≤ v
      omega
    · obtain ⟨w, x1, x2⟩ := u1 f q2 (by omega) (by omega)
      have := x1.2.2.1 a l' q5
      rw [q1, List.length_append]
      show ((l'.length + 1 : Nat) : Int) + 1 ≤ v
      omega
  · rcases u2 with q | ⟨f, f0, f1, f2, f3⟩
    · exact Or.inl q
    · right
      rcases f3.2.2.2 with q | ⟨a, l, l1, l2⟩
      · exact ⟨f, f, [], f0, f1, f2, ⟨f0, by omega, f2⟩, by show (0 : Int) + 1 = v; omega⟩
      · have hp := l1.P
        have g1 := hp.1
        have g2 := hp.2.1
        have g3 := hp.2.2
        have hL : σ 26 f < σ 6 0 := by rcases hw.b f0 (show f < 24 by omega) with q | q <;> omega
        exact ⟨a, a, l ++ [f], by omega, by omega, by omega, Dn.lift f0 (by omega) (by omega) l a (by omega) l1, by rw [List.length_append]; show ((l.length + 1 : Nat) : Int) + 1 = v; omega⟩
  · refine Ret.of 6 [some (aR 6), none, none, none] rfl (by decide) rfl (Nat.le_of_ble_eq_true rfl) ?_
    refine vX6_tangle 60 ?_
    simp only [↓S_X6_tangle, ↓pI_c, ↓pL_c, ↓pR_c, ↓pC_I, ↓pC_R, ↓pE_n, ↓gI_0, ↓gI_s, ↓gL_0, ↓gL_s, ↓gR_0, ↓gR_s, ↓popN_0, ↓popN_s, ↓kl_I, ↓kl_L, ↓kl_R, ↓kl_n, ↓put1_0, ↓put1_s, ↓putk_0, ↓putk_s, ↓put2_0, ↓put2_s, ↓putl_0, ↓putl_s, ↓callK_0, ↓callK_1, ↓callK_2, cats_n, cats_c, catA_I, catA_L, catA_R, KL, LV, lval_f, ltag_f, llen_f, lcm_lt, lcm_le, lcm_gt, lcm_ge, lcm_eq, lcm_R1, lcm_R2, inR, inL, true_and, and_true, eq_self, List.head?_cons, Option.some.injEq, Sum.inr.injEq, Sum.inl.injEq, false_or, or_false, true_or, or_true, Nat.reduceAdd, Nat.reduceLeDiff, Int.reduceLE, Int.reduceLT, Int.reduceEq, Int.reduceNeg, Int.reduceAdd, Int.reduceSub, Int.reduceMul, Int.reduceNe, ne_eq, not_false_eq_true, not_true_eq_false, false_implies, forall_const, Nat.le_refl, Nat.zero_le, implies_true, and_self]
    (repeat' (first | apply And.intro | intro _))
    all_goals (try first | omega | trivial | (rfl; done) | assumption | (exfalso; omega) | (exact t) | (refine V.wk t ?_; simp [lle]; done))

/-! the model's fold -/
def PS (n : Int) (m F T I : Int → Int) : Int → Int → List (Int × Int) → Prop
  | top, s, [] => top = 0 ∧ s = n + 1
  | top, s, q :: t => 0 < top ∧ s ≤ q.1 ∧ q.1 ≤ n ∧ (q.2 = 0 ∨ q.2 = 1) ∧ F (top - 1) = s ∧ T (top - 1) = q.1 ∧ I (top - 1) = q.2 ∧ (∀ p, s ≤ p → p < q.1 → m p = -1) ∧ PS n m F T I (top - 1) (q.1 + 1) t
theorem PS.len {n : Int} {m F T I : Int → Int} : ∀ (t : List (Int × Int)) (top s : Int), PS n m F T I top s t → 0 ≤ top ∧ top ≤ n + 1 - s
  | [], top, s, h => by obtain ⟨h1, h2⟩ := h; omega
  | q :: t, top, s, ⟨h1, h2, h3, h4, h5, h6, h7, h8, h9⟩ => by
    have := PS.len t (top - 1) (q.1 + 1) h9
    omega
theorem PS.tr {n : Int} {m m2 F F2 T T2 I I2 : Int → Int} : ∀ (t : List (Int × Int)) (top s : Int), (∀ p, s ≤ p → m p = m2 p) → (∀ x, 0 ≤ x → x < top → F x = F2 x ∧ T x = T2 x ∧ I x = I2 x) → PS n m F T I top s t → PS n m2 F2 T2 I2 top s t
  | [], top, s, _, _, h => h
  | q :: t, top, s, hm, hc, ⟨h1, h2, h3, h4, h5, h6, h7, h8, h9⟩ => by
    have c := hc (top - 1) (by omega) (by omega)
    exact ⟨h1, h2, h3, h4, by rw [← c.1]; exact h5, by rw [← c.2.1]; exact h6, by rw [← c.2.2]; exact h7, fun p p0 p1 => by rw [← hm p p0]; exact h8 p p0 p1, PS.tr t (top - 1) (q.1 + 1) (fun p p0 => hm p (by omega)) (fun x x0 x1 => hc x x0 (by omega)) h9⟩
/-- the fold's own cells aside, χ is as ρ -/
def FKp (ρ χ : Sg) : Prop := ∀ x y, x ≠ 26 → x ≠ 38 → x ≠ 39 → x ≠ 40 → ¬ (x = 6 ∧ y = 0) → χ x y = ρ x y
theorem FKp.wm {σ χ : Sg} (h : FKp σ χ) (hw : WM σ) : WM χ := by
  unfold WM
  rw [h 6 4 (by omega) (by omega) (by omega) (by omega) (by omega), h 6 7 (by omega) (by omega) (by omega) (by omega) (by omega), h 6 8 (by omega) (by omega) (by omega) (by omega) (by omega)]
  refine ⟨hw.1, fun a a0 a1 => ?_, hw.2.2.1, hw.2.2.2.1, fun a a0 a1 => ?_⟩
  · rw [h 28 a (by omega) (by omega) (by omega) (by omega) (by omega)]; exact hw.2.1 a a0 a1
  · rw [h 29 a (by omega) (by omega) (by omega) (by omega) (by omega)]; exact hw.2.2.2.2 a a0 a1
theorem FKp.sc {σ χ : Sg} (h : FKp σ χ) : msc χ = msc σ ∧ mmj χ = mmj σ ∧ χ 6 8 = σ 6 8 ∧ χ 6 4 = σ 6 4 ∧ mT0 χ = mT0 σ ∧ mT1 χ = mT1 σ := by
  have e : msc χ = msc σ := by
    funext a b
    unfold msc
    rw [h 28 a (by omega) (by omega) (by omega) (by omega) (by omega), h 28 b (by omega) (by omega) (by omega) (by omega) (by omega), h 29 _ (by omega) (by omega) (by omega) (by omega) (by omega)]
  refine ⟨e, ?_, h 6 8 (by omega) (by omega) (by omega) (by omega) (by omega), h 6 4 (by omega) (by omega) (by omega) (by omega) (by omega), ?_, ?_⟩
  · funext a b
    unfold mmj
    rw [e, h 6 7 (by omega) (by omega) (by omega) (by omega) (by omega)]
  · funext a b
    exact h 35 _ (by omega) (by omega) (by omega) (by omega) (by omega)
  · funext a b
    exact h 35 _ (by omega) (by omega) (by omega) (by omega) (by omega)
/-- where no least score stays ahead, some partner keeps it -/
theorem ME.fst {sc : Int → Int → Int} {mj : Int → Int → Bool} {bn : Int} {σ : Sg} {w a e : Int} (hw : w = 0 ∨ w = 1) (ae : a < e) (h : ME sc mj bn σ a e) (hne : mT0 σ (a + 1) e ≠ Tw (mT0 σ) (mT1 σ) w a e) : ∃ k, fstM sc mj bn (mT0 σ) (mT1 σ) w a e k := by
  have key : ∃ c, a + 1 ≤ c ∧ c < a + 1 + ((e - (a + 1)).toNat : Int) ∧ mj a c = true ∧ Tw (mT0 σ) (mT1 σ) w a e = cdv sc bn (mT0 σ) (mT1 σ) w a e c := by
    rcases hw with rfl | rfl
    · have hTw : Tw (mT0 σ) (mT1 σ) 0 a e = mT0 σ a e := rfl
      have d : (mT0 σ a e, mW0 σ a e) = _ := h.1.2 ae
      rcases fr_stp_ex (sc := sc) (mj := mj) (bn := bn) (T0 := mT0 σ) (T1 := mT1 σ) (W0 := mW0 σ) (W1 := mW1 σ) (w := 0) (a := a) (e := e) (e - (a + 1)).toNat (a + 1) (mT0 σ (a + 1) e, mW0 σ (a + 1) e) with q | ⟨c, q1, q2, q3, q4⟩
      · rw [← d] at q
        exact absurd (q.symm.trans hTw.symm) hne
      · rw [← d] at q4
        exact ⟨c, q1, q2, q3, by rw [hTw]; exact q4⟩
    · have hTw : Tw (mT0 σ) (mT1 σ) 1 a e = mT1 σ a e := rfl
      have d : (mT1 σ a e, mW1 σ a e) = _ := h.2.1.2 ae
      rcases fr_stp_ex (sc := sc) (mj := mj) (bn := bn) (T0 := mT0 σ) (T1 := mT1 σ) (W0 := mW0 σ) (W1 := mW1 σ) (w := 1) (a := a) (e := e) (e - (a + 1)).toNat (a + 1) (mT0 σ (a + 1) e, mW0 σ (a + 1) e) with q | ⟨c, q1, q2, q3, q4⟩
      · rw [← d] at q
        exact absurd (q.symm.trans hTw.symm) hne
      · rw [← d] at q4
        exact ⟨c, q1, q2, q3, by rw [hTw]; exact q4⟩
  obtain ⟨c, q1, q2, q3, q4⟩ := key
  exact fstM.ex (c - a).toNat c (by omega) (by omega) (by omega) q3 q4.symm
set_option maxRecDepth 100000 in
theorem r_X6_fold (D : Nat) (σ : Sg) (h : WM σ) : ∃ τ, Ret (D + 5) miX6_fold [aR 6] σ (some (aI (mT0 τ 0 (σ 6 4)))) τ ∧ (∀ x y, x ≠ 26 → ¬ (35 ≤ x ∧ x ≤ 40) → ¬ (x = 6 ∧ y = 0) → τ x y = σ x y) ∧ τ 6 0 = σ 6 4 ∧ WD (σ 6 4) (τ 26) ∧ (∀ a e, 0 ≤ a → a ≤ e → e ≤ σ 6 4 → ME (msc σ) (mmj σ) (σ 6 8) τ a e) ∧ Gd (msc σ) (mmj σ) (σ 6 8) (mT0 τ) (mT1 τ) (τ 26) 0 (σ 6 4) 0 := by
  have hn := h.1
  obtain ⟨ρ, la, kl, hME⟩ := r_X6_layAll D σ h
  have rsc := kl.sc
  have hwm := kl.wm h
  have hsB : scB (σ 6 4) (msc σ) (σ 6 8) := ⟨fun x y x0 x1 y0 y1 => h.sc x0 x1 y0 y1, h.2.2.2.1.1, h.2.2.2.1.2⟩
  have hbd := ME.bd hsB (z := 100) (fun x y x0 xy yn q => hME x y x0 xy yn) 30
  generalize hN : σ 6 4 = n at *
  have loop : ∀ (k : Nat) (s top : Int) (pd : List (Int × Int)) (χ : Sg), 0 ≤ s → s + k = n + 1 → (s = 0 → top = 1) → FKp ρ χ → χ 6 0 = n → WD n (χ 26) → PS n (χ 26) (χ 38) (χ 39) (χ 40) top s pd → Kc (msc σ) (mmj σ) (σ 6 8) (mT0 ρ) (mT1 ρ) n (χ 26) s pd → ∃ τ, V (D + 4) miX6_fold 6 (some (aI (mT0 ρ 0 n))) τ 38 [some (aR 6), some (aI top), none, none, none, none] [] χ ∧ FKp ρ τ ∧ τ 6 0 = n ∧ WD n (τ 26) ∧ Gd (msc σ) (mmj σ) (σ 6 8) (mT0 ρ) (mT1 ρ) (τ 26) 0 n 0 := by
    intro k
    induction k with
    | zero =>
      intro s top pd χ s0 sk st1 fk hL hw hp hk
      obtain ⟨c1, c2, c3, c4, c5, c6⟩ := fk.sc
      have e64 : χ 6 4 = n := by rw [c4, rsc.2.2.2]
      cases pd with
      | nil =>
        have ht : top = 0 := hp.1
        subst ht
        refine ⟨χ, ?_, fk, hL, hw, hk.nil⟩
        have ca := r_X6_cellAt (D + 3) χ 0 n 0
        have ev : χ 35 ((25 * 0 + n) * 2 + 0) = mT0 ρ 0 n := congrFun (congrFun c5 0) n
        refine vX6_fold 100 ?_
        simp only [↓S_X6_fold_1, ↓S_X6_fold_2, ↓S_X6_fold_3, ↓S_X6_fold_4, ↓pI_c, ↓pL_c, ↓pR_c, ↓pC_I, ↓pC_R, ↓pE_n, ↓gI_0, ↓gI_s, ↓gL_0, ↓gL_s, ↓gR_0, ↓gR_s, ↓popN_0, ↓popN_s, ↓kl_I, ↓kl_L, ↓kl_R, ↓kl_n, ↓put1_0, ↓put1_s, ↓putk_0, ↓putk_s, ↓put2_0, ↓put2_s, ↓putl_0, ↓putl_s, ↓callK_0, ↓callK_1, ↓callK_2, cats_n, cats_c, catA_I, catA_L, catA_R, KL, LV, lval_f, ltag_f, llen_f, lcm_lt, lcm_le, lcm_gt, lcm_ge, lcm_eq, lcm_R1, lcm_R2, inR, inL, true_and, and_true, eq_self, List.head?_cons, Option.some.injEq, Sum.inr.injEq, Sum.inl.injEq, false_or, or_false, true_or, or_true, Nat.reduceAdd, Nat.reduceLeDiff, Int.reduceLE, Int.reduceLT, Int.reduceEq, Int.reduceNeg, Int.reduceAdd, Int.reduceSub, Int.reduceMul, Int.reduceNe, ne_eq, not_false_eq_true, not_true_eq_false, false_implies, forall_const, Nat.le_refl, Nat.zero_le, implies_true, and_self]
        rw [e64]
        (repeat' (first | apply And.intro | intro _ | with_reducible refine Exists.intro _ (Exists.intro _ (And.intro ca ?_)) | with_reducible refine Exists.intro _ (And.intro ca ?_)))
        all_goals (try first | omega | trivial | (rfl; done) | assumption | (exfalso; omega) | (simp only [ev]; done) | (simp only [ev]; first | omega | (rfl; done)))
      | cons q t =>
        obtain ⟨h1, h2, h3, _⟩ := hp
        omega
    | succ k ih =>
      intro s top pd χ s0 sk st1 fk hL hw hp hk
      obtain ⟨c1, c2, c3, c4, c5, c6⟩ := fk.sc
      have e64 : χ 6 4 = n := by rw [c4, rsc.2.2.2]
      have hlen := PS.len _ _ _ hp
      cases pd with
      | nil =>
        have := hp.2
        omega
      | cons q t =>
        obtain ⟨e, w⟩ := q
        obtain ⟨h1, h2, h3, h4, h5, h6, h7, h8, h9⟩ := hp
        have h2 : s ≤ e := h2
        have h3 : e ≤ n := h3
        have h4 : w = 0 ∨ w = 1 := h4
        have h6 : χ 39 (top - 1) = e := h6
        have h7 : χ 40 (top - 1) = w := h7
        have hlen2 := PS.len _ _ _ h9
        have htop : top - 1 ≤ n - e := by have : e + 1 = (e, w).1 + 1 := rfl; omega
        by_cases c : s = e
        · subst c
          obtain ⟨τ, t1, tr⟩ := ih (s + 1) (top - 1) t χ (by omega) (by omega) (by omega) fk hL hw h9 hk.pop
          refine ⟨τ, ?_, tr⟩
          rw [show top - 1 = top + -1 from by omega] at t1
          refine vX6_fold 100 ?_
          simp only [↓S_X6_fold_1, ↓S_X6_fold_2, ↓S_X6_fold_3, ↓S_X6_fold_4, ↓pI_c, ↓pL_c, ↓pR_c, ↓pC_I, ↓pC_R, ↓pE_n, ↓gI_0, ↓gI_s, ↓gL_0, ↓gL_s, ↓gR_0, ↓gR_s, ↓popN_0, ↓popN_s, ↓kl_I, ↓kl_L, ↓kl_R, ↓kl_n, ↓put1_0, ↓put1_s, ↓putk_0, ↓putk_s, ↓put2_0, ↓put2_s, ↓putl_0, ↓putl_s, ↓callK_0, ↓callK_1, ↓callK_2, cats_n, cats_c, catA_I, catA_L, catA_R, KL, LV, lval_f, ltag_f, llen_f, lcm_lt, lcm_le, lcm_gt, lcm_ge, lcm_eq, lcm_R1, lcm_R2, inR, inL, true_and, and_true, eq_self, List.head?_cons, Option.some.injEq, Sum.inr.injEq, Sum.inl.injEq, false_or, or_false, true_or, or_true, Nat.reduceAdd, Nat.reduceLeDiff, Int.reduceLE, Int.reduceLT, Int.reduceEq, Int.reduceNeg, Int.reduceAdd, Int.reduceSub, Int.reduceMul, Int.reduceNe, ne_eq, not_false_eq_true, not_true_eq_false, false_implies, forall_const, Nat.le_refl, Nat.zero_le, implies_true, and_self]
          rw [h5, h6, h7]
          (repeat' (first | apply And.intro | intro _))
          all_goals (try first | omega | trivial | (rfl; done) | assumption | (exfalso; omega) | (exact t1) | (refine V.wk t1 ?_; simp [lle]; done))
        · have hm : χ 26 s = -1 := h8 s (by omega) (show s < e by omega)
          have a1 := r_X6_cellAt (D + 3) χ (s + 1) e 0
          have a2 := r_X6_cellAt (D + 3) χ s e w
          have ev1 : χ 35 ((25 * (s + 1) + e) * 2 + 0) = mT0 ρ (s + 1) e := congrFun (congrFun c5 (s + 1)) e
          have ev2 : χ 35 ((25 * s + e) * 2 + w) = Tw (mT0 ρ) (mT1 ρ) w s e := by
            rcases h4 with rfl | rfl
            · exact congrFun (congrFun c5 s) e
            · exact congrFun (congrFun c6 s) e
          have b1 := hbd (s + 1) e (by omega) (by omega) (by omega) (by omega) (by omega)
          have b2 := hbd s e (by omega) (by omega) (by omega) (by omega) (by omega)
          have b3 : -41 * (e - s) ≤ Tw (mT0 ρ) (mT1 ρ) w s e ∧ Tw (mT0 ρ) (mT1 ρ) w s e ≤ 0 := by
            rcases h4 with rfl | rfl
            · exact b2.1
            · exact b2.2
          by_cases c0 : mT0 ρ (s + 1) e = Tw (mT0 ρ) (mT1 ρ) w s e
          · obtain ⟨τ, t1, tr⟩ := ih (s + 1) top ((e, 0) :: t) (up (up χ 38 (top - 1) (s + 1)) 40 (top - 1) 0) (by omega) (by omega) (by omega) (fun x y x1 x2 x3 x4 x5 => by unfold up; rw [if_neg (by omega), if_neg (by omega)]; exact fk x y x1 x2 x3 x4 x5) (by unfold up; rw [if_neg (by omega), if_neg (by omega)]; exact hL) (by
              rw [show (up (up χ 38 (top - 1) (s + 1)) 40 (top - 1) 0) 26 = χ 26 from by funext z; unfold up; rw [if_neg (by omega), if_neg (by omega)]]
              exact hw) ⟨h1, by show s + 1 ≤ e; omega, h3, Or.inl rfl, by unfold up; rw [if_neg (by omega), if_pos ⟨rfl, rfl⟩], by unfold up; rw [if_neg (by omega), if_neg (by omega)]; exact h6, by unfold up; rw [if_pos ⟨rfl, rfl⟩], fun p p0 p1 => by unfold up; rw [if_neg (by omega), if_neg (by omega)]; exact h8 p (by omega) p1, h9.tr _ _ _ (fun p p0 => by unfold up; rw [if_neg (by omega), if_neg (by omega)]) (fun x x0 x1 => by unfold up; refine ⟨?_, ?_, ?_⟩; rw [if_neg (by omega), if_neg (by omega)]; rw [if_neg (by omega), if_neg (by omega)]; rw [if_neg (by omega), if_neg (by omega)])⟩ (by
              rw [show (up (up χ 38 (top - 1) (s + 1)) 40 (top - 1) 0) 26 = χ 26 from by funext z; unfold up; rw [if_neg (by omega), if_neg (by omega)]]
              exact hk.skip s0 (by omega) (by omega) c0 hm)
            refine ⟨τ, ?_, tr⟩
            refine vX6_fold 100 ?_
            simp only [↓S_X6_fold_1, ↓S_X6_fold_2, ↓S_X6_fold_3, ↓S_X6_fold_4, ↓pI_c, ↓pL_c, ↓pR_c, ↓pC_I, ↓pC_R, ↓pE_n, ↓gI_0, ↓gI_s, ↓gL_0, ↓gL_s, ↓gR_0, ↓gR_s, ↓popN_0, ↓popN_s, ↓kl_I, ↓kl_L, ↓kl_R, ↓kl_n, ↓put1_0, ↓put1_s, ↓putk_0, ↓putk_s, ↓put2_0, ↓put2_s, ↓putl_0, ↓putl_s, ↓callK_0, ↓callK_1, ↓callK_2, cats_n, cats_c, catA_I, catA_L, catA_R, KL, LV, lval_f, ltag_f, llen_f, lcm_lt, lcm_le, lcm_gt, lcm_ge, lcm_eq, lcm_R1, lcm_R2, inR, inL, true_and, and_true, eq_self, List.head?_cons, Option.some.injEq, Sum.inr.injEq, Sum.inl.injEq, false_or, or_false, true_or, or_true, Nat.reduceAdd, Nat.reduceLeDiff, Int.reduceLE, Int.reduceLT, Int.reduceEq, Int.reduceNeg, Int.reduceAdd, Int.reduceSub, Int.reduceMul, Int.reduceNe, ne_eq, not_false_eq_true, not_true_eq_false, false_implies, forall_const, Nat.le_refl, Nat.zero_le, implies_true, and_self]
            rw [h5, h6, h7]
            (repeat' (first | apply And.intro | intro _ | with_reducible refine Exists.intro _ (Exists.intro _ (And.intro a1 ?_)) | with_reducible refine Exists.intro _ (And.intro a1 ?_) | with_reducible refine Exists.intro _ (Exists.intro _ (And.intro a2 ?_)) | with_reducible refine Exists.intro _ (And.intro a2 ?_)))
            all_goals (try first | omega | trivial | (rfl; done) | assumption | (exfalso; omega) | (exact t1) | (refine V.wk t1 ?_; simp [lle]; done))
          · obtain ⟨k0, hk0⟩ := ME.fst h4 (show s < e by omega) (hME s e s0 (by omega) h3) c0
            have k1 := hk0.1
            have k2 := hk0.2.1
            have hmk : χ 26 k0 = -1 := h8 k0 (by omega) k2
            have ti := r_X6_tie (D + 3) χ s k0 s0 (by omega) (by omega) (by omega)
            generalize hψ : up (up χ 26 s k0) 26 k0 s = ψ at ti
            have ψ26 : ψ 26 = lk2 (χ 26) s k0 := by rw [← hψ]; exact up_lk2 χ 26 s k0
            have ψf : ∀ x y, x ≠ 26 → ψ x y = χ x y := fun x y hx => by rw [← hψ]; unfold up; rw [if_neg (by omega), if_neg (by omega)]
            generalize hω : up (up (up (up (up ψ 38 (top - 1) (k0 + 1)) 40 (top - 1) 0) 38 top (s + 1)) 39 top k0) 40 top 1 = ω
            have ω26 : ω 26 = lk2 (χ 26) s k0 := by rw [← ψ26, ← hω]; funext z; unfold up; rw [if_neg (by omega), if_neg (by omega), if_neg (by omega), if_neg (by omega), if_neg (by omega)]
            have ωf : ∀ x y, x ≠ 38 → x ≠ 39 → x ≠ 40 → ω x y = ψ x y := fun x y h1 h2 h3 => by rw [← hω]; unfold up; rw [if_neg (by omega), if_neg (by omega), if_neg (by omega), if_neg (by omega), if_neg (by omega)]
            have ωb : ∀ y, y < top - 1 → ω 38 y = χ 38 y ∧ ω 39 y = χ 39 y ∧ ω 40 y = χ 40 y := fun y hy => by
              rw [← ψf 38 y (by omega), ← ψf 39 y (by omega), ← ψf 40 y (by omega), ← hω]
              unfold up
              refine ⟨?_, ?_, ?_⟩ <;> rw [if_neg (by omega), if_neg (by omega), if_neg (by omega), if_neg (by omega), if_neg (by omega)]
            have ωc : ω 38 top = s + 1 ∧ ω 39 top = k0 ∧ ω 40 top = 1 ∧ ω 38 (top - 1) = k0 + 1 ∧ ω 39 (top - 1) = e ∧ ω 40 (top - 1) = 0 := by
              have g : ψ 39 (top - 1) = e := by rw [ψf 39 _ (by omega)]; exact h6
              rw [← hω]
              unfold up
              refine ⟨?_, ?_, ?_, ?_, ?_, ?_⟩
              · rw [if_neg (by omega), if_neg (by omega), if_pos ⟨rfl, rfl⟩]
              · rw [if_neg (by omega), if_pos ⟨rfl, rfl⟩]
              · rw [if_pos ⟨rfl, rfl⟩]
              · rw [if_neg (by omega), if_neg (by omega), if_neg (by omega), if_neg (by omega), if_pos ⟨rfl, rfl⟩]
              · rw [if_neg (by omega), if_neg (by omega), if_neg (by omega), if_neg (by omega), if_neg (by omega)]; exact g
              · rw [if_neg (by omega), if_neg (by omega), if_neg (by omega), if_pos ⟨rfl, rfl⟩]
            have lkk : ∀ p, p ≠ s → p ≠ k0 → lk2 (χ 26) s k0 p = χ 26 p := fun p p1 p2 => by unfold lk2; rw [if_neg p2, if_neg p1]
            obtain ⟨τ, t1, tr⟩ := ih (s + 1) (top + 1) ((k0, 1) :: (e, 0) :: t) ω (by omega) (by omega) (by omega)
              (fun x y x1 x2 x3 x4 x5 => by rw [ωf x y x2 x3 x4, ψf x y x1]; exact fk x y x1 x2 x3 x4 x5)
              (by rw [ωf 6 0 (by omega) (by omega) (by omega), ψf 6 0 (by omega)]; exact hL)
              (by rw [ω26]; exact hw.link s0 (by omega) (by omega) (by omega) (by omega) hm hmk)
              ⟨by omega, show s + 1 ≤ k0 by omega, show k0 ≤ n by omega, Or.inr rfl, by rw [show top + 1 - 1 = top from by omega]; exact ωc.1, by rw [show top + 1 - 1 = top from by omega]; exact ωc.2.1, by rw [show top + 1 - 1 = top from by omega]; exact ωc.2.2.1, fun p p0 p1 => by have p1 : p < k0 := p1; rw [ω26, lkk p (by omega) (by omega)]; exact h8 p (by omega) (show p < e by omega), by
                rw [show top + 1 - 1 = top from by omega]
                exact ⟨h1, show k0 + 1 ≤ e by omega, h3, Or.inl rfl, ωc.2.2.2.1, ωc.2.2.2.2.1, ωc.2.2.2.2.2, fun p p0 p1 => by have p0 : k0 + 1 ≤ p := p0; rw [ω26, lkk p (by omega) (by omega)]; exact h8 p (by omega) p1, h9.tr _ _ _ (fun p p0 => by have p0 : e + 1 ≤ p := p0; rw [ω26, lkk p (by omega) (by omega)]) (fun x x0 x1 => ⟨(ωb x x1).1.symm, (ωb x x1).2.1.symm, (ωb x x1).2.2.symm⟩)⟩⟩
              (by rw [ω26]; exact hk.join s0 h3 c0 hk0 hm hmk)
            refine ⟨τ, ?_, tr⟩
            have hwmχ : WM χ := fk.wm hwm
            have wh : ∀ (i : Nat) (c : Int), s < c → c + i = k0 → V (D + 4) miX6_fold 6 (some (aI (mT0 ρ 0 n))) τ 137 [some (aR 6), some (aI top), some (aI s), some (aI e), some (aI w), some (aI c)] [] χ := by
              intro i
              induction i with
              | zero =>
                intro c c0' ci
                have : c = k0 := by omega
                subst this
                have mj := r_X6_mayJoin (D + 3) χ s c hwmχ s0 (by omega) (by omega) (by omega)
                rw [c2, rsc.2.1, if_pos hk0.2.2.1] at mj
                have wc := r_X6_withChord (D + 2) χ s e w c hwmχ s0 (by omega) k2 (by omega) h4
                rw [c1, c3, c5, c6, rsc.1, rsc.2.2.1, hk0.2.2.2.1] at wc
                rw [← hω] at t1
                refine vX6_fold 100 ?_
                simp only [↓S_X6_fold_1, ↓S_X6_fold_2, ↓S_X6_fold_3, ↓S_X6_fold_4, ↓pI_c, ↓pL_c, ↓pR_c, ↓pC_I, ↓pC_R, ↓pE_n, ↓gI_0, ↓gI_s, ↓gL_0, ↓gL_s, ↓gR_0, ↓gR_s, ↓popN_0, ↓popN_s, ↓kl_I, ↓kl_L, ↓kl_R, ↓kl_n, ↓put1_0, ↓put1_s, ↓putk_0, ↓putk_s, ↓put2_0, ↓put2_s, ↓putl_0, ↓putl_s, ↓callK_0, ↓callK_1, ↓callK_2, cats_n, cats_c, catA_I, catA_L, catA_R, KL, LV, lval_f, ltag_f, llen_f, lcm_lt, lcm_le, lcm_gt, lcm_ge, lcm_eq, lcm_R1, lcm_R2, inR, inL, true_and, and_true, eq_self, List.head?_cons, Option.some.injEq, Sum.inr.injEq, Sum.inl.injEq, false_or, or_false, true_or, or_true, Nat.reduceAdd, Nat.reduceLeDiff, Int.reduceLE, Int.reduceLT, Int.reduceEq, Int.reduceNeg, Int.reduceAdd, Int.reduceSub, Int.reduceMul, Int.reduceNe, ne_eq, not_false_eq_true, not_true_eq_false, false_implies, forall_const, Nat.le_refl, Nat.zero_le, implies_true, and_self]
                (repeat' (first | apply And.intro | intro _ | with_reducible refine Exists.intro _ (Exists.intro _ (And.intro mj ?_)) | with_reducible refine Exists.intro _ (And.intro mj ?_) | with_reducible refine Exists.intro _ (Exists.intro _ (And.intro wc ?_)) | with_reducible refine Exists.intro _ (And.intro wc ?_) | with_reducible refine Exists.intro _ (Exists.intro _ (And.intro a2 ?_)) | with_reducible refine Exists.intro _ (And.intro a2 ?_) | with_reducible refine Exists.intro _ (Exists.intro _ (And.intro ti ?_)) | with_reducible refine Exists.intro _ (And.intro ti ?_)))
                all_goals (try first | omega | trivial | (rfl; done) | assumption | (exfalso; omega) | (exact t1) | (refine V.wk t1 ?_; simp [lle]; done) | (simp only [ev2]; done) | (simp only [ev2]; first | omega | (rfl; done) | (exact t1) | (refine V.wk t1 ?_; simp [lle]; done)))
              | succ i ih2 =>
                intro c c0' ci
                have t := ih2 (c + 1) (by omega) (by omega)
                have hno := hk0.2.2.2.2 c c0' (by omega)
                have mj := r_X6_mayJoin (D + 3) χ s c hwmχ s0 (by omega) (by omega) (by omega)
                have wc := r_X6_withChord (D + 2) χ s e w c hwmχ s0 (by omega) (by omega) (by omega) h4
                rw [c1, c3, c5, c6, rsc.1, rsc.2.2.1] at wc
                rw [c2, rsc.2.1] at mj
                have b4 := (hbd (s + 1) c (by omega) (by omega) (by omega) (by omega) (by omega)).2
                have b5 := (hbd (c + 1) e (by omega) (by omega) (by omega) (by omega) (by omega)).1
                have b6 := hsB.1 s c s0 (by omega) (by omega) (by omega)
                have b7 := hsB.2
                have bv : -2000 ≤ cdv (msc σ) (σ 6 8) (mT0 ρ) (mT1 ρ) w s e c ∧ cdv (msc σ) (σ 6 8) (mT0 ρ) (mT1 ρ) w s e c ≤ 41 := by
                  unfold cdv
                  by_cases z : w = 1 ∧ c = e - 1
                  · rw [if_pos z]; omega
                  · rw [if_neg z]; omega
                by_cases c7 : mmj σ s c = true
                · rw [if_pos c7] at mj
                  have hne : ¬ cdv (msc σ) (σ 6 8) (mT0 ρ) (mT1 ρ) w s e c = Tw (mT0 ρ) (mT1 ρ) w s e := fun z => hno ⟨c7, z⟩
                  generalize cdv (msc σ) (σ 6 8) (mT0 ρ) (mT1 ρ) w s e c = v at *
                  refine vX6_fold 100 ?_
                  simp only [↓S_X6_fold_1, ↓S_X6_fold_2, ↓S_X6_fold_3, ↓S_X6_fold_4, ↓pI_c, ↓pL_c, ↓pR_c, ↓pC_I, ↓pC_R, ↓pE_n, ↓gI_0, ↓gI_s, ↓gL_0, ↓gL_s, ↓gR_0, ↓gR_s, ↓popN_0, ↓popN_s, ↓kl_I, ↓kl_L, ↓kl_R, ↓kl_n, ↓put1_0, ↓put1_s, ↓putk_0, ↓putk_s, ↓put2_0, ↓put2_s, ↓putl_0, ↓putl_s, ↓callK_0, ↓callK_1, ↓callK_2, cats_n, cats_c, catA_I, catA_L, catA_R, KL, LV, lval_f, ltag_f, llen_f, lcm_lt, lcm_le, lcm_gt, lcm_ge, lcm_eq, lcm_R1, lcm_R2, inR, inL, true_and, and_true, eq_self, List.head?_cons, Option.some.injEq, Sum.inr.injEq, Sum.inl.injEq, false_or, or_false, true_or, or_true, Nat.reduceAdd, Nat.reduceLeDiff, Int.reduceLE, Int.reduceLT, Int.reduceEq, Int.reduceNeg, Int.reduceAdd, Int.reduceSub, Int.reduceMul, Int.reduceNe, ne_eq, not_false_eq_true, not_true_eq_false, false_implies, forall_const, Nat.le_refl, Nat.zero_le, implies_true, and_self]
                  (repeat' (first | apply And.intro | intro _ | with_reducible refine Exists.intro _ (Exists.intro _ (And.intro mj ?_)) | with_reducible refine Exists.intro _ (And.intro mj ?_) | with_reducible refine Exists.intro _ (Exists.intro _ (And.intro wc ?_)) | with_reducible refine Exists.intro _ (And.intro wc ?_) | with_reducible refine Exists.intro _ (Exists.intro _ (And.intro a2 ?_)) | with_reducible refine Exists.intro _ (And.intro a2 ?_)))
                  all_goals (try first | omega | trivial | (rfl; done) | assumption | (exfalso; omega) | (exact t) | (refine V.wk t ?_; simp [lle]; done) | (simp only [ev2]; done) | (simp only [ev2]; first | omega | (rfl; done) | (exact t) | (refine V.wk t ?_; simp [lle]; done)))
                · rw [if_neg c7] at mj
                  refine vX6_fold 100 ?_
                  simp only [↓S_X6_fold_1, ↓S_X6_fold_2, ↓S_X6_fold_3, ↓S_X6_fold_4, ↓pI_c, ↓pL_c, ↓pR_c, ↓pC_I, ↓pC_R, ↓pE_n, ↓gI_0, ↓gI_s, ↓gL_0, ↓gL_s, ↓gR_0, ↓gR_s, ↓popN_0, ↓popN_s, ↓kl_I, ↓kl_L, ↓kl_R, ↓kl_n, ↓put1_0, ↓put1_s, ↓putk_0, ↓putk_s, ↓put2_0, ↓put2_s, ↓putl_0, ↓putl_s, ↓callK_0, ↓callK_1, ↓callK_2, cats_n, cats_c, catA_I, catA_L, catA_R, KL, LV, lval_f, ltag_f, llen_f, lcm_lt, lcm_le, lcm_gt, lcm_ge, lcm_eq, lcm_R1, lcm_R2, inR, inL, true_and, and_true, eq_self, List.head?_cons, Option.some.injEq, Sum.inr.injEq, Sum.inl.injEq, false_or, or_false, true_or, or_true, Nat.reduceAdd, Nat.reduceLeDiff, Int.reduceLE, Int.reduceLT, Int.reduceEq, Int.reduceNeg, Int.reduceAdd, Int.reduceSub, Int.reduceMul, Int.reduceNe, ne_eq, not_false_eq_true, not_true_eq_false, false_implies, forall_const, Nat.le_refl, Nat.zero_le, implies_true, and_self]
                  (repeat' (first | apply And.intro | intro _ | with_reducible refine Exists.intro _ (Exists.intro _ (And.intro mj ?_)) | with_reducible refine Exists.intro _ (And.intro mj ?_)))
                  all_goals (try first | omega | trivial | (rfl; done) | assumption | (exfalso; omega) | (exact t) | (refine V.wk t ?_; simp [lle]; done))
            have t := wh (k0 - (s + 1)).toNat (s + 1) (by omega) (by omega)
            refine vX6_fold 100 ?_
            simp only [↓S_X6_fold_1, ↓S_X6_fold_2, ↓S_X6_fold_3, ↓S_X6_fold_4, ↓pI_c, ↓pL_c, ↓pR_c, ↓pC_I, ↓pC_R, ↓pE_n, ↓gI_0, ↓gI_s, ↓gL_0, ↓gL_s, ↓gR_0, ↓gR_s, ↓popN_0, ↓popN_s, ↓kl_I, ↓kl_L, ↓kl_R, ↓kl_n, ↓put1_0, ↓put1_s, ↓putk_0, ↓putk_s, ↓put2_0, ↓put2_s, ↓putl_0, ↓putl_s, ↓callK_0, ↓callK_1, ↓callK_2, cats_n, cats_c, catA_I, catA_L, catA_R, KL, LV, lval_f, ltag_f, llen_f, lcm_lt, lcm_le, lcm_gt, lcm_ge, lcm_eq, lcm_R1, lcm_R2, inR, inL, true_and, and_true, eq_self, List.head?_cons, Option.some.injEq, Sum.inr.injEq, Sum.inl.injEq, false_or, or_false, true_or, or_true, Nat.reduceAdd, Nat.reduceLeDiff, Int.reduceLE, Int.reduceLT, Int.reduceEq, Int.reduceNeg, Int.reduceAdd, Int.reduceSub, Int.reduceMul, Int.reduceNe, ne_eq, not_false_eq_true, not_true_eq_false, false_implies, forall_const, Nat.le_refl, Nat.zero_le, implies_true, and_self]
            rw [h5, h6, h7]
            (repeat' (first | apply And.intro | intro _ | with_reducible refine Exists.intro _ (Exists.intro _ (And.intro a1 ?_)) | with_reducible refine Exists.intro _ (And.intro a1 ?_) | with_reducible refine Exists.intro _ (Exists.intro _ (And.intro a2 ?_)) | with_reducible refine Exists.intro _ (And.intro a2 ?_)))
            all_goals (try first | omega | trivial | (rfl; done) | assumption | (exfalso; omega) | (exact t) | (refine V.wk t ?_; simp [lle]; done))
  have cl := r_X6_clear (D + 3) ρ n
  generalize hχ : up (up (up (ff (up ρ 6 0 n) 26 0 24 (-1)) 38 0 0) 39 0 n) 40 0 0 = χ
  have χ26 : ∀ p, 0 ≤ p → p < 24 → χ 26 p = -1 := fun p p0 p1 => by
    rw [← hχ]; unfold up ff; rw [if_neg (by omega), if_neg (by omega), if_neg (by omega), if_pos ⟨rfl, p0, p1⟩]
  have χL : χ 6 0 = n := by
    rw [← hχ]; unfold up ff; rw [if_neg (by omega), if_neg (by omega), if_neg (by omega), if_neg (by omega)]; dsimp only; rw [if_pos ⟨rfl, rfl⟩]
  have χf : FKp ρ χ := fun x y x1 x2 x3 x4 x5 => by
    rw [← hχ]; unfold up ff; rw [if_neg (by omega), if_neg (by omega), if_neg (by omega), if_neg (by omega)]; dsimp only; rw [if_neg (by omega)]
  obtain ⟨τ, t1, t2, t3, t4, t5⟩ := loop (n + 1).toNat 0 1 [(n, 0)] χ (by omega) (by omega) (fun _ => rfl) χf χL
    ⟨by omega, by omega, fun a a0 a1 => Or.inl (χ26 a a0 (by omega)), fun a a0 a1 => χ26 a (by omega) a1⟩
    ⟨by omega, by show 0 ≤ n; omega, by show n ≤ n; omega, Or.inl rfl, by rw [← hχ]; unfold up; rw [if_neg (by omega), if_neg (by omega), if_pos ⟨rfl, rfl⟩], by rw [← hχ]; unfold up; rw [if_neg (by omega), if_pos ⟨rfl, rfl⟩], by rw [← hχ]; unfold up; rw [if_pos ⟨rfl, rfl⟩], fun p p0 p1 => by have p1 : p < n := p1; exact χ26 p p0 (by omega), ⟨rfl, rfl⟩⟩
    Kc.init
  have sc := t2.sc
  refine ⟨τ, ?_, fun x y x1 x2 x3 => by rw [t2 x y x1 (by omega) (by omega) (by omega) x3]; exact kl x y (by omega) (by omega) (by omega), t3, t4, fun a e a0 ae en => ?_, by rw [sc.2.2.2.2.1, sc.2.2.2.2.2]; exact t5⟩
  · rw [sc.2.2.2.2.1]
    rw [← hχ] at t1
    refine Ret.of 6 [some (aR 6), none, none, none, none, none] rfl (by decide) rfl (Nat.le_of_ble_eq_true rfl) ?_
    have e64 : ρ 6 4 = n := rsc.2.2.2
    have e65 : (up (ff (up ρ 6 0 n) 26 0 24 (-1)) 38 0 0) 6 4 = n := by unfold ff up; rw [if_neg (by omega)]; dsimp only; rw [if_neg (by omega), if_neg (by omega)]; exact e64
    refine vX6_fold 100 ?_
    simp only [↓S_X6_fold_1, ↓S_X6_fold_2, ↓S_X6_fold_3, ↓S_X6_fold_4, ↓pI_c, ↓pL_c, ↓pR_c, ↓pC_I, ↓pC_R, ↓pE_n, ↓gI_0, ↓gI_s, ↓gL_0, ↓gL_s, ↓gR_0, ↓gR_s, ↓popN_0, ↓popN_s, ↓kl_I, ↓kl_L, ↓kl_R, ↓kl_n, ↓put1_0, ↓put1_s, ↓putk_0, ↓putk_s, ↓put2_0, ↓put2_s, ↓putl_0, ↓putl_s, ↓callK_0, ↓callK_1, ↓callK_2, cats_n, cats_c, catA_I, catA_L, catA_R, KL, LV, lval_f, ltag_f, llen_f, lcm_lt, lcm_le, lcm_gt, lcm_ge, lcm_eq, lcm_R1, lcm_R2, inR, inL, true_and, and_true, eq_self, List.head?_cons, Option.some.injEq, Sum.inr.injEq, Sum.inl.injEq, false_or, or_false, true_or, or_true, Nat.reduceAdd, Nat.reduceLeDiff, Int.reduceLE, Int.reduceLT, Int.reduceEq, Int.reduceNeg, Int.reduceAdd, Int.reduceSub, Int.reduceMul, Int.reduceNe, ne_eq, not_false_eq_true, not_true_eq_false, false_implies, forall_const, Nat.le_refl, Nat.zero_le, implies_true, and_self]
    refine ⟨_, la, ?_⟩
    rw [e64]
    refine ⟨_, cl, ?_⟩
    (repeat' (first | apply And.intro | intro _))
    all_goals (try first | omega | trivial | (rfl; done) | assumption | (exfalso; omega) | (exact t1) | (refine V.wk t1 ?_; simp [lle]; done) | (simp only [e65]; done) | (simp only [e65]; first | omega | (rfl; done) | (exact t1) | (refine V.wk t1 ?_; simp [lle]; done)))
  · refine ME.tr ae (fun u v u0 uv ve => ?_) (hME a e a0 ae en)
    exact ⟨t2 _ _ (by omega) (by omega) (by omega) (by omega) (by omega), t2 _ _ (by omega) (by omega) (by omega) (by omega) (by omega), t2 _ _ (by omega) (by omega) (by omega) (by omega) (by omega), t2 _ _ (by omega) (by omega) (by omega) (by omega) (by omega), t2 _ _ (by omega) (by omega) (by omega) (by omega) (by omega)⟩

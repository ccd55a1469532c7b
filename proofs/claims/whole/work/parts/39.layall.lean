/-! the model's tables -/
theorem fold_tr2 {sc : Int → Int → Int} {mj : Int → Int → Bool} {bn : Int} {T0 T1 W0 W1 T0' T1' W0' W1' : Int → Int → Int} {w a e : Int} (ae : a < e) (hc : ∀ u v, a < u → u ≤ v → v ≤ e → T0' u v = T0 u v ∧ T1' u v = T1 u v ∧ W0' u v = W0 u v ∧ W1' u v = W1 u v) :
    fr (stp sc mj bn T0' T1' W0' W1' w a e) (a + 1) (e - (a + 1)).toNat (T0' (a + 1) e, W0' (a + 1) e) = fr (stp sc mj bn T0 T1 W0 W1 w a e) (a + 1) (e - (a + 1)).toNat (T0 (a + 1) e, W0 (a + 1) e) := by
  have i1 := hc (a + 1) e (by omega) (by omega) (by omega)
  rw [i1.1, i1.2.2.1]
  refine fr_congr _ _ _ (fun j x j0 j1 => ?_)
  have i2 := hc (a + 1) j (by omega) (by omega) (by omega)
  have i3 := hc (j + 1) e (by omega) (by omega) (by omega)
  unfold stp
  rw [i2.2.1, i2.2.2.2, i3.1, i3.2.2.1]
def QE (sc : Int → Int → Int) (mj : Int → Int → Bool) (bn : Int) (σ : Sg) (w a e : Int) : Prop := (a = e → σ 35 ((25 * a + e) * 2 + w) = 0 ∧ σ 36 ((25 * a + e) * 2 + w) = 1) ∧ (a < e → (σ 35 ((25 * a + e) * 2 + w), σ 36 ((25 * a + e) * 2 + w)) = fr (stp sc mj bn (mT0 σ) (mT1 σ) (mW0 σ) (mW1 σ) w a e) (a + 1) (e - (a + 1)).toNat (mT0 σ (a + 1) e, mW0 σ (a + 1) e))
def AE (mj : Int → Int → Bool) (σ : Sg) (a e : Int) : Prop := (a = e → mA σ a e = 1) ∧ (a < e → mA σ a e = mA σ (a + 1) e + rs (fun c => if mj a c = true then mA σ (a + 1) c * mA σ (c + 1) e else 0) (a + 1) (e - (a + 1)).toNat)
def ME (sc : Int → Int → Int) (mj : Int → Int → Bool) (bn : Int) (σ : Sg) (a e : Int) : Prop := QE sc mj bn σ 0 a e ∧ QE sc mj bn σ 1 a e ∧ AE mj σ a e
/-- the tables of χ and ψ say the same at (x, y) -/
def Sm (χ ψ : Sg) (x y : Int) : Prop := mT0 ψ x y = mT0 χ x y ∧ mT1 ψ x y = mT1 χ x y ∧ mW0 ψ x y = mW0 χ x y ∧ mW1 ψ x y = mW1 χ x y ∧ mA ψ x y = mA χ x y
theorem AE.tr {mj : Int → Int → Bool} {χ ψ : Sg} {a e : Int} (hA : mA ψ a e = mA χ a e) (hc : ∀ u v, a < u → u ≤ v → v ≤ e → mA ψ u v = mA χ u v) (h : AE mj χ a e) : AE mj ψ a e := by
  refine ⟨fun q => by rw [hA]; exact h.1 q, fun q => ?_⟩
  rw [hA, h.2 q, hc (a + 1) e (by omega) (by omega) (by omega)]
  congr 1
  refine rs_congr _ _ (fun c c0 c1 => ?_)
  show (if mj a c = true then mA χ (a + 1) c * mA χ (c + 1) e else 0) = (if mj a c = true then mA ψ (a + 1) c * mA ψ (c + 1) e else 0)
  rw [hc (a + 1) c (by omega) (by omega) (by omega), hc (c + 1) e (by omega) (by omega) (by omega)]
theorem QE.tr {sc : Int → Int → Int} {mj : Int → Int → Bool} {bn : Int} {χ ψ : Sg} {w a e : Int} (h35 : ψ 35 ((25 * a + e) * 2 + w) = χ 35 ((25 * a + e) * 2 + w)) (h36 : ψ 36 ((25 * a + e) * 2 + w) = χ 36 ((25 * a + e) * 2 + w)) (hc : ∀ u v, a < u → u ≤ v → v ≤ e → mT0 ψ u v = mT0 χ u v ∧ mT1 ψ u v = mT1 χ u v ∧ mW0 ψ u v = mW0 χ u v ∧ mW1 ψ u v = mW1 χ u v) (h : QE sc mj bn χ w a e) : QE sc mj bn ψ w a e := by
  refine ⟨fun q => by rw [h35, h36]; exact h.1 q, fun q => ?_⟩
  rw [h35, h36, h.2 q]
  exact (fold_tr2 q hc).symm
theorem ME.tr {sc : Int → Int → Int} {mj : Int → Int → Bool} {bn : Int} {χ ψ : Sg} {a e : Int} (ae : a ≤ e) (hc : ∀ u v, a ≤ u → u ≤ v → v ≤ e → Sm χ ψ u v) (h : ME sc mj bn χ a e) : ME sc mj bn ψ a e := by
  have o := hc a e (by omega) ae (by omega)
  exact ⟨h.1.tr o.1 o.2.2.1 (fun u v u0 uv ve => ⟨(hc u v (by omega) uv ve).1, (hc u v (by omega) uv ve).2.1, (hc u v (by omega) uv ve).2.2.1, (hc u v (by omega) uv ve).2.2.2.1⟩),
    h.2.1.tr o.2.1 o.2.2.2.1 (fun u v u0 uv ve => ⟨(hc u v (by omega) uv ve).1, (hc u v (by omega) uv ve).2.1, (hc u v (by omega) uv ve).2.2.1, (hc u v (by omega) uv ve).2.2.2.1⟩),
    h.2.2.tr o.2.2.2.2 (fun u v u0 uv ve => (hc u v (by omega) uv ve).2.2.2.2)⟩
theorem ME.bd {n : Int} {sc : Int → Int → Int} {mj : Int → Int → Bool} {bn : Int} {σ : Sg} (hs : scB n sc bn) {z : Int} (h : ∀ x y, 0 ≤ x → x ≤ y → y ≤ n → y - x < z → ME sc mj bn σ x y) : ∀ (k : Nat) (a e : Int), 0 ≤ a → a ≤ e → e ≤ n → e - a < z → e - a < k → (-41 * (e - a) ≤ mT0 σ a e ∧ mT0 σ a e ≤ 0) ∧ (-41 * (e - a) ≤ mT1 σ a e ∧ mT1 σ a e ≤ 0)
  | 0, a, e, _, h1, _, _, h2 => by omega
  | k + 1, a, e, a0, ae, en, hz, hk => by
    obtain ⟨d0, d1, _⟩ := h a e a0 ae en hz
    by_cases q : a = e
    · have x0 : mT0 σ a e = 0 := (d0.1 q).1
      have x1 : mT1 σ a e = 0 := (d1.1 q).1
      omega
    · have g0 : (mT0 σ a e, mW0 σ a e) = _ := d0.2 (by omega)
      have g1 : (mT1 σ a e, mW1 σ a e) = _ := d1.2 (by omega)
      have ih : ∀ x y, a < x → x ≤ y → y ≤ e → (-41 * (y - x) ≤ mT0 σ x y ∧ mT0 σ x y ≤ 0) ∧ (-41 * (y - x) ≤ mT1 σ x y ∧ mT1 σ x y ≤ 0) := fun x y h1 h2 h3 => ME.bd hs h k x y (by omega) h2 (by omega) (by omega) (by omega)
      have i0 := (ih (a + 1) e (by omega) (by omega) (by omega)).1
      have s0 := stp_bd (mj := mj) (W0 := mW0 σ) (W1 := mW1 σ) hs (w := 0) (show 0 ≤ a by omega) (show a < e by omega) en ih (e - (a + 1)).toNat (a + 1) (mT0 σ (a + 1) e, mW0 σ (a + 1) e) (by omega) (by omega) (by show -41 * (e - a) ≤ mT0 σ (a + 1) e ∧ mT0 σ (a + 1) e ≤ 0; omega)
      have s1 := stp_bd (mj := mj) (W0 := mW0 σ) (W1 := mW1 σ) hs (w := 1) (show 0 ≤ a by omega) (show a < e by omega) en ih (e - (a + 1)).toNat (a + 1) (mT0 σ (a + 1) e, mW0 σ (a + 1) e) (by omega) (by omega) (by show -41 * (e - a) ≤ mT0 σ (a + 1) e ∧ mT0 σ (a + 1) e ≤ 0; omega)
      rw [← g0] at s0
      rw [← g1] at s1
      exact ⟨s0, s1⟩
theorem lay_QE {σ τ : Sg} {i j w : Int} (i0 : 0 ≤ i) (ij : i ≤ j) (jn : j ≤ 24) (hw : w = 0 ∨ w = 1) (hf : ∀ x y, ¬ ((x = 35 ∨ x = 36) ∧ y = (25 * i + j) * 2 + w) → ¬ (x = 37 ∧ y = 25 * i + j) → τ x y = σ x y) (h1 : i = j → τ 35 ((25 * i + j) * 2 + w) = 0 ∧ τ 36 ((25 * i + j) * 2 + w) = 1 ∧ τ 37 (25 * i + j) = 1) (h2 : i < j → (τ 35 ((25 * i + j) * 2 + w), τ 36 ((25 * i + j) * 2 + w)) = fr (stp (msc σ) (mmj σ) (σ 6 8) (mT0 σ) (mT1 σ) (mW0 σ) (mW1 σ) w i j) (i + 1) (j - (i + 1)).toNat (mT0 σ (i + 1) j, mW0 σ (i + 1) j) ∧ τ 37 (25 * i + j) = mA σ (i + 1) j + rs (fun c => if mmj σ i c = true then mA σ (i + 1) c * mA σ (c + 1) j else 0) (i + 1) (j - (i + 1)).toNat) : QE (msc σ) (mmj σ) (σ 6 8) τ w i j ∧ AE (mmj σ) τ i j := by
  have hT : ∀ u v, i < u → u ≤ v → v ≤ j → mT0 τ u v = mT0 σ u v ∧ mT1 τ u v = mT1 σ u v ∧ mW0 τ u v = mW0 σ u v ∧ mW1 τ u v = mW1 σ u v := fun u v u0 uv vj => ⟨hf _ _ (by omega) (by omega), hf _ _ (by omega) (by omega), hf _ _ (by omega) (by omega), hf _ _ (by omega) (by omega)⟩
  have hA : ∀ u v, i < u → u ≤ v → v ≤ j → mA τ u v = mA σ u v := fun u v u0 uv vj => hf _ _ (by omega) (by omega)
  refine ⟨⟨fun q => ⟨(h1 q).1, (h1 q).2.1⟩, fun q => ?_⟩, ⟨fun q => (h1 q).2.2, fun q => ?_⟩⟩
  · rw [(h2 q).1]
    exact (fold_tr2 q hT).symm
  · show τ 37 (25 * i + j) = _
    rw [(h2 q).2, hA (i + 1) j (by omega) (by omega) (by omega)]
    congr 1
    refine rs_congr _ _ (fun c c0 c1 => ?_)
    show (if mmj σ i c = true then mA σ (i + 1) c * mA σ (c + 1) j else 0) = (if mmj σ i c = true then mA τ (i + 1) c * mA τ (c + 1) j else 0)
    rw [hA (i + 1) c (by omega) (by omega) (by omega), hA (c + 1) j (by omega) (by omega) (by omega)]
/-- letters, scores, gap and bonus are kept -/
def KpL (σ χ : Sg) : Prop := ∀ x y, x ≠ 35 → x ≠ 36 → x ≠ 37 → χ x y = σ x y
theorem KpL.wm {σ χ : Sg} (h : KpL σ χ) (hw : WM σ) : WM χ := by
  unfold WM
  rw [h 6 4 (by omega) (by omega) (by omega), h 6 7 (by omega) (by omega) (by omega), h 6 8 (by omega) (by omega) (by omega)]
  refine ⟨hw.1, fun a a0 a1 => ?_, hw.2.2.1, hw.2.2.2.1, fun a a0 a1 => ?_⟩
  · rw [h 28 a (by omega) (by omega) (by omega)]; exact hw.2.1 a a0 a1
  · rw [h 29 a (by omega) (by omega) (by omega)]; exact hw.2.2.2.2 a a0 a1
theorem KpL.sc {σ χ : Sg} (h : KpL σ χ) : msc χ = msc σ ∧ mmj χ = mmj σ ∧ χ 6 8 = σ 6 8 ∧ χ 6 4 = σ 6 4 := by
  have e : msc χ = msc σ := by
    funext a b
    unfold msc
    rw [h 28 a (by omega) (by omega) (by omega), h 28 b (by omega) (by omega) (by omega), h 29 _ (by omega) (by omega) (by omega)]
  refine ⟨e, ?_, h 6 8 (by omega) (by omega) (by omega), h 6 4 (by omega) (by omega) (by omega)⟩
  funext a b
  unfold mmj
  rw [e, h 6 7 (by omega) (by omega) (by omega)]
set_option maxRecDepth 100000 in
theorem r_X6_layAll (D : Nat) (σ : Sg) (h : WM σ) : ∃ τ, Ret (D + 4) miX6_layAll [aR 6] σ none τ ∧ KpL σ τ ∧ ∀ a e, 0 ≤ a → a ≤ e → e ≤ σ 6 4 → ME (msc σ) (mmj σ) (σ 6 8) τ a e := by
  have hn := h.1
  have hsB : scB (σ 6 4) (msc σ) (σ 6 8) := ⟨fun x y x0 x1 y0 y1 => h.sc x0 x1 y0 y1, h.2.2.2.1.1, h.2.2.2.1.2⟩
  have outer : ∀ (k : Nat) (z : Int) (χ : Sg), 0 ≤ z → z + k = σ 6 4 + 1 → KpL σ χ → (∀ a e, 0 ≤ a → a ≤ e → e ≤ σ 6 4 → e - a < z → ME (msc σ) (mmj σ) (σ 6 8) χ a e) → ∃ τ, V (D + 3) miX6_layAll 6 none τ 2 [some (aR 6), some (aI z), none] [] χ ∧ KpL σ τ ∧ ∀ a e, 0 ≤ a → a ≤ e → e ≤ σ 6 4 → ME (msc σ) (mmj σ) (σ 6 8) τ a e := by
    intro k
    induction k with
    | zero =>
      intro z χ z0 zk hk hE
      have e6 := hk.sc.2.2.2
      refine ⟨χ, ?_, hk, fun a e a0 ae en => hE a e a0 ae en (by omega)⟩
      refine vX6_layAll 60 ?_
      simp only [↓S_X6_layAll, ↓pI_c, ↓pL_c, ↓pR_c, ↓pC_I, ↓pC_R, ↓pE_n, ↓gI_0, ↓gI_s, ↓gL_0, ↓gL_s, ↓gR_0, ↓gR_s, ↓popN_0, ↓popN_s, ↓kl_I, ↓kl_L, ↓kl_R, ↓kl_n, ↓put1_0, ↓put1_s, ↓putk_0, ↓putk_s, ↓put2_0, ↓put2_s, ↓putl_0, ↓putl_s, ↓callK_0, ↓callK_1, ↓callK_2, cats_n, cats_c, catA_I, catA_L, catA_R, KL, LV, lval_f, ltag_f, llen_f, lcm_lt, lcm_le, lcm_gt, lcm_ge, lcm_eq, lcm_R1, lcm_R2, inR, inL, true_and, and_true, eq_self, List.head?_cons, Option.some.injEq, Sum.inr.injEq, Sum.inl.injEq, false_or, or_false, true_or, or_true, Nat.reduceAdd, Nat.reduceLeDiff, Int.reduceLE, Int.reduceLT, Int.reduceEq, Int.reduceNeg, Int.reduceAdd, Int.reduceSub, Int.reduceMul, Int.reduceNe, ne_eq, not_false_eq_true, not_true_eq_false, false_implies, forall_const, Nat.le_refl, Nat.zero_le, implies_true, and_self]
      rw [e6]
      (repeat' (first | apply And.intro | intro _))
      all_goals (try first | omega | trivial | (rfl; done) | assumption | (exfalso; omega))
    | succ k ih =>
      intro z χ z0 zk hk hE
      have inner : ∀ (n : Nat) (i : Int) (χ : Sg), 0 ≤ i → i + n = σ 6 4 - z + 1 → KpL σ χ → (∀ a e, 0 ≤ a → a ≤ e → e ≤ σ 6 4 → (e - a < z ∨ (e - a = z ∧ a < i)) → ME (msc σ) (mmj σ) (σ 6 8) χ a e) → ∃ τ, V (D + 3) miX6_layAll 6 none τ 12 [some (aR 6), some (aI z), some (aI i)] [] χ ∧ KpL σ τ ∧ ∀ a e, 0 ≤ a → a ≤ e → e ≤ σ 6 4 → ME (msc σ) (mmj σ) (σ 6 8) τ a e := by
        intro n
        induction n with
        | zero =>
          intro i χ i0 ik hk hE
          have e6 := hk.sc.2.2.2
          obtain ⟨τ, t, tr⟩ := ih (z + 1) χ (by omega) (by omega) hk (fun a e a0 ae en q => hE a e a0 ae en (by omega))
          refine ⟨τ, ?_, tr⟩
          refine vX6_layAll 60 ?_
          simp only [↓S_X6_layAll, ↓pI_c, ↓pL_c, ↓pR_c, ↓pC_I, ↓pC_R, ↓pE_n, ↓gI_0, ↓gI_s, ↓gL_0, ↓gL_s, ↓gR_0, ↓gR_s, ↓popN_0, ↓popN_s, ↓kl_I, ↓kl_L, ↓kl_R, ↓kl_n, ↓put1_0, ↓put1_s, ↓putk_0, ↓putk_s, ↓put2_0, ↓put2_s, ↓putl_0, ↓putl_s, ↓callK_0, ↓callK_1, ↓callK_2, cats_n, cats_c, catA_I, catA_L, catA_R, KL, LV, lval_f, ltag_f, llen_f, lcm_lt, lcm_le, lcm_gt, lcm_ge, lcm_eq, lcm_R1, lcm_R2, inR, inL, true_and, and_true, eq_self, List.head?_cons, Option.some.injEq, Sum.inr.injEq, Sum.inl.injEq, false_or, or_false, true_or, or_true, Nat.reduceAdd, Nat.reduceLeDiff, Int.reduceLE, Int.reduceLT, Int.reduceEq, Int.reduceNeg, Int.reduceAdd, Int.reduceSub, Int.reduceMul, Int.reduceNe, ne_eq, not_false_eq_true, not_true_eq_false, false_implies, forall_const, Nat.le_refl, Nat.zero_le, implies_true, and_self]
          rw [e6]
          (repeat' (first | apply And.intro | intro _))
          all_goals (try first | omega | trivial | (rfl; done) | assumption | (exfalso; omega) | (exact t) | (refine V.wk t ?_; simp [lle]; done))
        | succ n ih2 =>
          intro i χ i0 ik hk hE
          obtain ⟨s1, s2, s3, e6⟩ := hk.sc
          have hbd := ME.bd hsB (z := z) (fun x y x0 xy yn q => hE x y x0 xy yn (Or.inl q)) 30
          obtain ⟨ψ, p1, p2, p3, p4⟩ := r_X6_layStretch D χ i (i + z) 0 (hk.wm h) i0 (by omega) (by omega) (Or.inl rfl) (fun x y x0 xy yj => hbd x y (by omega) xy (by omega) (by omega) (by omega))
          obtain ⟨P1, P2⟩ := lay_QE i0 (by omega) (by omega) (Or.inl rfl) p2 p3 p4
          rw [s1, s2, s3] at P1
          rw [s2] at P2
          have hk1 : KpL σ ψ := fun x y x1 x2 x3 => by rw [p2 x y (by omega) (by omega)]; exact hk x y x1 x2 x3
          obtain ⟨r1, r2, r3, r6⟩ := hk1.sc
          have sub1 : ∀ x y, i < x → x ≤ y → y ≤ i + z → Sm χ ψ x y := fun x y x0 xy yz => ⟨p2 _ _ (by omega) (by omega), p2 _ _ (by omega) (by omega), p2 _ _ (by omega) (by omega), p2 _ _ (by omega) (by omega), p2 _ _ (by omega) (by omega)⟩
          obtain ⟨ω, q1, q2, q3, q4⟩ := r_X6_layStretch D ψ i (i + z) 1 (hk1.wm h) i0 (by omega) (by omega) (Or.inr rfl) (fun x y x0 xy yj => by
            have o := sub1 x y x0 xy yj
            rw [o.1, o.2.1]
            exact hbd x y (by omega) xy (by omega) (by omega) (by omega))
          obtain ⟨Q1, Q2⟩ := lay_QE i0 (by omega) (by omega) (Or.inr rfl) q2 q3 q4
          rw [r1, r2, r3] at Q1
          rw [r2] at Q2
          have hk2 : KpL σ ω := fun x y x1 x2 x3 => by rw [q2 x y (by omega) (by omega)]; exact hk1 x y x1 x2 x3
          have sub2 : ∀ x y, i < x → x ≤ y → y ≤ i + z → mT0 ω x y = mT0 ψ x y ∧ mT1 ω x y = mT1 ψ x y ∧ mW0 ω x y = mW0 ψ x y ∧ mW1 ω x y = mW1 ψ x y := fun x y x0 xy yz => ⟨q2 _ _ (by omega) (by omega), q2 _ _ (by omega) (by omega), q2 _ _ (by omega) (by omega), q2 _ _ (by omega) (by omega)⟩
          have P1' : QE (msc σ) (mmj σ) (σ 6 8) ω 0 i (i + z) := P1.tr (q2 _ _ (by omega) (by omega)) (q2 _ _ (by omega) (by omega)) sub2
          obtain ⟨τ, t, tr⟩ := ih2 (i + 1) ω (by omega) (by omega) hk2 (fun a e a0 ae en q => by
            by_cases c : a = i ∧ e = i + z
            · rw [c.1, c.2]
              exact ⟨P1', Q1, Q2⟩
            · refine ME.tr ae (fun u v u0 uv ve => ?_) (hE a e a0 ae en (by omega))
              have e1 : ¬ (u = i ∧ v = i + z) := by omega
              have key : ∀ w w' : Int, (w = 0 ∨ w = 1) → (w' = 0 ∨ w' = 1) → ¬ (25 * u + v) * 2 + w = (25 * i + (i + z)) * 2 + w' := fun w w' h1 h2 => by omega
              have key2 : ¬ 25 * u + v = 25 * i + (i + z) := by omega
              have one : ∀ x w, (x = 35 ∨ x = 36) → (w = 0 ∨ w = 1) → ω x ((25 * u + v) * 2 + w) = χ x ((25 * u + v) * 2 + w) := fun x w hx hw => by
                rw [q2 _ _ (fun z => key w 1 hw (Or.inr rfl) z.2) (by omega), p2 _ _ (fun z => key w 0 hw (Or.inl rfl) z.2) (by omega)]
              exact ⟨one 35 0 (Or.inl rfl) (Or.inl rfl), one 35 1 (Or.inl rfl) (Or.inr rfl), one 36 0 (Or.inr rfl) (Or.inl rfl), one 36 1 (Or.inr rfl) (Or.inr rfl), by
                show ω 37 (25 * u + v) = χ 37 (25 * u + v)
                rw [q2 37 _ (by omega) (by omega), p2 37 _ (by omega) (by omega)]⟩)
          refine ⟨τ, ?_, tr⟩
          refine vX6_layAll 60 ?_
          simp only [↓S_X6_layAll, ↓pI_c, ↓pL_c, ↓pR_c, ↓pC_I, ↓pC_R, ↓pE_n, ↓gI_0, ↓gI_s, ↓gL_0, ↓gL_s, ↓gR_0, ↓gR_s, ↓popN_0, ↓popN_s, ↓kl_I, ↓kl_L, ↓kl_R, ↓kl_n, ↓put1_0, ↓put1_s, ↓putk_0, ↓putk_s, ↓put2_0, ↓put2_s, ↓putl_0, ↓putl_s, ↓callK_0, ↓callK_1, ↓callK_2, cats_n, cats_c, catA_I, catA_L, catA_R, KL, LV, lval_f, ltag_f, llen_f, lcm_lt, lcm_le, lcm_gt, lcm_ge, lcm_eq, lcm_R1, lcm_R2, inR, inL, true_and, and_true, eq_self, List.head?_cons, Option.some.injEq, Sum.inr.injEq, Sum.inl.injEq, false_or, or_false, true_or, or_true, Nat.reduceAdd, Nat.reduceLeDiff, Int.reduceLE, Int.reduceLT, Int.reduceEq, Int.reduceNeg, Int.reduceAdd, Int.reduceSub, Int.reduceMul, Int.reduceNe, ne_eq, not_false_eq_true, not_true_eq_false, false_implies, forall_const, Nat.le_refl, Nat.zero_le, implies_true, and_self]
          rw [e6]
          (repeat' (first | apply And.intro | intro _ | with_reducible refine Exists.intro _ (Exists.intro _ (And.intro p1 ?_)) | with_reducible refine Exists.intro _ (And.intro p1 ?_) | with_reducible refine Exists.intro _ (Exists.intro _ (And.intro q1 ?_)) | with_reducible refine Exists.intro _ (And.intro q1 ?_)))
          all_goals (try first | omega | trivial | (rfl; done) | assumption | (exfalso; omega) | (exact t) | (refine V.wk t ?_; simp [lle]; done))
      have e6 := hk.sc.2.2.2
      obtain ⟨τ, t, tr⟩ := inner (σ 6 4 - z + 1).toNat 0 χ (by omega) (by omega) hk (fun a e a0 ae en q => hE a e a0 ae en (by omega))
      refine ⟨τ, ?_, tr⟩
      refine vX6_layAll 60 ?_
      simp only [↓S_X6_layAll, ↓pI_c, ↓pL_c, ↓pR_c, ↓pC_I, ↓pC_R, ↓pE_n, ↓gI_0, ↓gI_s, ↓gL_0, ↓gL_s, ↓gR_0, ↓gR_s, ↓popN_0, ↓popN_s, ↓kl_I, ↓kl_L, ↓kl_R, ↓kl_n, ↓put1_0, ↓put1_s, ↓putk_0, ↓putk_s, ↓put2_0, ↓put2_s, ↓putl_0, ↓putl_s, ↓callK_0, ↓callK_1, ↓callK_2, cats_n, cats_c, catA_I, catA_L, catA_R, KL, LV, lval_f, ltag_f, llen_f, lcm_lt, lcm_le, lcm_gt, lcm_ge, lcm_eq, lcm_R1, lcm_R2, inR, inL, true_and, and_true, eq_self, List.head?_cons, Option.some.injEq, Sum.inr.injEq, Sum.inl.injEq, false_or, or_false, true_or, or_true, Nat.reduceAdd, Nat.reduceLeDiff, Int.reduceLE, Int.reduceLT, Int.reduceEq, Int.reduceNeg, Int.reduceAdd, Int.reduceSub, Int.reduceMul, Int.reduceNe, ne_eq, not_false_eq_true, not_true_eq_false, false_implies, forall_const, Nat.le_refl, Nat.zero_le, implies_true, and_self]
      rw [e6]
      (repeat' (first | apply And.intro | intro _))
      all_goals (try first | omega | trivial | (rfl; done) | assumption | (exfalso; omega) | (exact t) | (refine V.wk t ?_; simp [lle]; done))
  obtain ⟨τ, t, tr⟩ := outer (σ 6 4 + 1).toNat 0 σ (by omega) (by omega) (fun _ _ _ _ _ => rfl) (fun a e a0 ae en q => by omega)
  refine ⟨τ, ?_, tr⟩
  refine Ret.of 6 [some (aR 6), none, none] rfl (by decide) rfl (Nat.le_of_ble_eq_true rfl) ?_
  refine vX6_layAll 60 ?_
  simp only [↓S_X6_layAll, ↓pI_c, ↓pL_c, ↓pR_c, ↓pC_I, ↓pC_R, ↓pE_n, ↓gI_0, ↓gI_s, ↓gL_0, ↓gL_s, ↓gR_0, ↓gR_s, ↓popN_0, ↓popN_s, ↓kl_I, ↓kl_L, ↓kl_R, ↓kl_n, ↓put1_0, ↓put1_s, ↓putk_0, ↓putk_s, ↓put2_0, ↓put2_s, ↓putl_0, ↓putl_s, ↓callK_0, ↓callK_1, ↓callK_2, cats_n, cats_c, catA_I, catA_L, catA_R, KL, LV, lval_f, ltag_f, llen_f, lcm_lt, lcm_le, lcm_gt, lcm_ge, lcm_eq, lcm_R1, lcm_R2, inR, inL, true_and, and_true, eq_self, List.head?_cons, Option.some.injEq, Sum.inr.injEq, Sum.inl.injEq, false_or, or_false, true_or, or_true, Nat.reduceAdd, Nat.reduceLeDiff, Int.reduceLE, Int.reduceLT, Int.reduceEq, Int.reduceNeg, Int.reduceAdd, Int.reduceSub, Int.reduceMul, Int.reduceNe, ne_eq, not_false_eq_true, not_true_eq_false, false_implies, forall_const, Nat.le_refl, Nat.zero_le, implies_true, and_self]
  (repeat' (first | apply And.intro | intro _))
  all_goals (try first | omega | trivial | (rfl; done) | assumption | (exfalso; omega) | (exact t) | (refine V.wk t ?_; simp [lle]; done))

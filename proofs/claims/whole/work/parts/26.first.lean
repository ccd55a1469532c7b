/-! the first of the best folds -/
def cdv (sc : Int → Int → Int) (bn : Int) (T0 T1 : Int → Int → Int) (w a e c : Int) : Int := sc a c + (if w = 1 ∧ c = e - 1 then bn else 0) + T1 (a + 1) c + T0 (c + 1) e
def Tw (T0 T1 : Int → Int → Int) (w a e : Int) : Int := if w = 1 then T1 a e else T0 a e
theorem fr_stp_ex {sc : Int → Int → Int} {mj : Int → Int → Bool} {bn : Int} {T0 T1 W0 W1 : Int → Int → Int} {w a e : Int} : ∀ (k : Nat) (i : Int) (x : Int × Int), (fr (stp sc mj bn T0 T1 W0 W1 w a e) i k x).1 = x.1 ∨ ∃ c, i ≤ c ∧ c < i + k ∧ mj a c = true ∧ (fr (stp sc mj bn T0 T1 W0 W1 w a e) i k x).1 = cdv sc bn T0 T1 w a e c
  | 0, i, x => Or.inl rfl
  | k + 1, i, x => by
    rw [fr_s]
    rcases fr_stp_ex (sc := sc) (mj := mj) (bn := bn) (T0 := T0) (T1 := T1) (W0 := W0) (W1 := W1) (w := w) (a := a) (e := e) k (i + 1) (stp sc mj bn T0 T1 W0 W1 w a e i x) with q | ⟨c, c0, c1, c2, c3⟩
    · rw [q]
      by_cases hm : mj a i = true
      · have e1 : stp sc mj bn T0 T1 W0 W1 w a e i x = ofr (cdv sc bn T0 T1 w a e i) (W1 (a + 1) i * W0 (i + 1) e) x := by
          unfold stp cdv
          rw [if_pos hm]
        rw [e1, ofr_1]
        split
        · exact Or.inr ⟨i, by omega, by omega, hm, rfl⟩
        · exact Or.inl rfl
      · have e1 : stp sc mj bn T0 T1 W0 W1 w a e i x = x := by
          unfold stp
          rw [if_neg hm]
        rw [e1]
        exact Or.inl rfl
    · exact Or.inr ⟨c, by omega, by omega, c2, c3⟩
/-- the first partner that keeps the least score -/
def fstM (sc : Int → Int → Int) (mj : Int → Int → Bool) (bn : Int) (T0 T1 : Int → Int → Int) (w a e k : Int) : Prop := a < k ∧ k < e ∧ mj a k = true ∧ cdv sc bn T0 T1 w a e k = Tw T0 T1 w a e ∧ ∀ c, a < c → c < k → ¬ (mj a c = true ∧ cdv sc bn T0 T1 w a e c = Tw T0 T1 w a e)
theorem fstM.ex {sc : Int → Int → Int} {mj : Int → Int → Bool} {bn : Int} {T0 T1 : Int → Int → Int} {w a e : Int} : ∀ (k : Nat) (c : Int), a < c → c < e → c - a ≤ k → mj a c = true → cdv sc bn T0 T1 w a e c = Tw T0 T1 w a e → ∃ k, fstM sc mj bn T0 T1 w a e k
  | 0, c, h1, h2, h3, h4, h5 => by omega
  | k + 1, c, h1, h2, h3, h4, h5 => by
    by_cases q : ∃ d, a < d ∧ d < c ∧ mj a d = true ∧ cdv sc bn T0 T1 w a e d = Tw T0 T1 w a e
    · obtain ⟨d, d1, d2, d3, d4⟩ := q
      exact fstM.ex k d d1 (by omega) (by omega) d3 d4
    · exact ⟨c, h1, h2, h4, h5, fun d d1 d2 d3 => q ⟨d, d1, d2, d3.1, d3.2⟩⟩
theorem fstM.one {sc : Int → Int → Int} {mj : Int → Int → Bool} {bn : Int} {T0 T1 : Int → Int → Int} {w a e k k2 : Int} (h : fstM sc mj bn T0 T1 w a e k) (h2 : fstM sc mj bn T0 T1 w a e k2) : k = k2 := by
  rcases Int.lt_trichotomy k k2 with q | q | q
  · exact absurd ⟨h.2.2.1, h.2.2.2.1⟩ (h2.2.2.2.2 k h.1 q)
  · exact q
  · exact absurd ⟨h2.2.2.1, h2.2.2.2.1⟩ (h.2.2.2.2 k2 h2.1 q)
/-- the drawing m is the first best fold on the stretch i .. j - 1 -/
def Gf (sc : Int → Int → Int) (mj : Int → Int → Bool) (bn : Int) (T0 T1 : Int → Int → Int) (m : Int → Int) : Nat → Int → Int → Int → Prop
  | 0, _, _, _ => False
  | f + 1, i, j, w => i = j ∨ (i < j ∧ T0 (i + 1) j = Tw T0 T1 w i j ∧ m i = -1 ∧ Gf sc mj bn T0 T1 m f (i + 1) j 0) ∨ (i < j ∧ T0 (i + 1) j ≠ Tw T0 T1 w i j ∧ ∃ k, fstM sc mj bn T0 T1 w i j k ∧ m i = k ∧ m k = i ∧ Gf sc mj bn T0 T1 m f (i + 1) k 1 ∧ Gf sc mj bn T0 T1 m f (k + 1) j 0)
theorem Gf.up {sc : Int → Int → Int} {mj : Int → Int → Bool} {bn : Int} {T0 T1 : Int → Int → Int} {m : Int → Int} : ∀ (f g : Nat) (i j w : Int), f ≤ g → Gf sc mj bn T0 T1 m f i j w → Gf sc mj bn T0 T1 m g i j w
  | 0, g, i, j, w, _, h => h.elim
  | f + 1, g, i, j, w, hg, h => by
    obtain ⟨g', rfl⟩ : ∃ g', g = g' + 1 := ⟨g - 1, by omega⟩
    rcases h with h | ⟨h1, h2, h3, h4⟩ | ⟨h1, h2, k, h3, h4, h5, h6, h7⟩
    · exact Or.inl h
    · exact Or.inr (Or.inl ⟨h1, h2, h3, Gf.up f g' _ _ _ (by omega) h4⟩)
    · exact Or.inr (Or.inr ⟨h1, h2, k, h3, h4, h5, Gf.up f g' _ _ _ (by omega) h6, Gf.up f g' _ _ _ (by omega) h7⟩)
theorem Gf.one {n : Int} {sc sc' : Int → Int → Int} {mj mj' : Int → Int → Bool} {bn : Int} {T0 T1 T0' T1' : Int → Int → Int} {m m2 : Int → Int} (hs : ∀ a b, 0 ≤ a → a < n → 0 ≤ b → b < n → sc a b = sc' a b ∧ mj a b = mj' a b) (hT : ∀ a e, 0 ≤ a → a ≤ e → e ≤ n → T0 a e = T0' a e ∧ T1 a e = T1' a e) : ∀ (f f2 : Nat) (i j w : Int), 0 ≤ i → i ≤ j → j ≤ n → Gf sc mj bn T0 T1 m f i j w → Gf sc' mj' bn T0' T1' m2 f2 i j w → ∀ p, i ≤ p → p < j → m p = m2 p
  | 0, f2, i, j, w, _, _, _, h, _ => h.elim
  | f + 1, 0, i, j, w, _, _, _, _, h => h.elim
  | f + 1, f2 + 1, i, j, w, i0, ij, jn, h, h2 => by
    have eT : ∀ a e, 0 ≤ a → a ≤ e → e ≤ n → Tw T0 T1 w a e = Tw T0' T1' w a e := fun a e a0 ae en => by
      unfold Tw
      rw [(hT a e a0 ae en).1, (hT a e a0 ae en).2]
    have eC : ∀ c, i < c → c < j → cdv sc bn T0 T1 w i j c = cdv sc' bn T0' T1' w i j c := fun c c0 c1 => by
      unfold cdv
      rw [(hs i c i0 (by omega) (by omega) (by omega)).1, (hT (i + 1) c (by omega) (by omega) (by omega)).2, (hT (c + 1) j (by omega) (by omega) jn).1]
    have eF : ∀ k, i < j → fstM sc mj bn T0 T1 w i j k → fstM sc' mj' bn T0' T1' w i j k := fun k hij hk => by
      refine ⟨hk.1, hk.2.1, ?_, ?_, fun c c0 c1 c2 => hk.2.2.2.2 c c0 c1 ?_⟩
      · rw [← (hs i k i0 (by omega) (by have := hk.1; omega) (by have := hk.2.1; omega)).2]; exact hk.2.2.1
      · rw [← eC k hk.1 hk.2.1, ← eT i j i0 ij jn]; exact hk.2.2.2.1
      · rw [(hs i c i0 (by omega) (by omega) (by have := hk.2.1; omega)).2, eC c c0 (by have := hk.2.1; omega), eT i j i0 ij jn]
        exact c2
    intro p p0 p1
    rcases h with h | ⟨h1, h2', h3, h4⟩ | ⟨h1, h2', k, h3, h4, h5, h6, h7⟩
    · omega
    · have e0 := (hT (i + 1) j (by omega) (by omega) jn).1
      have e1 := eT i j i0 ij jn
      rcases h2 with g | ⟨g1, g2, g3, g4⟩ | ⟨g1, g2, k2, g3, g4, g5, g6, g7⟩
      · omega
      · by_cases q : p = i
        · rw [q, h3, g3]
        · exact Gf.one hs hT f f2 (i + 1) j 0 (by omega) (by omega) jn h4 g4 p (by omega) p1
      · exact absurd (by rw [← e0, ← e1]; exact h2') g2
    · have e0 := (hT (i + 1) j (by omega) (by omega) jn).1
      have e1 := eT i j i0 ij jn
      rcases h2 with g | ⟨g1, g2, g3, g4⟩ | ⟨g1, g2, k2, g3, g4, g5, g6, g7⟩
      · omega
      · exact absurd (by rw [e0, e1]; exact g2) h2'
      · have ek := (eF k h1 h3).one g3
        subst ek
        have := h3.1
        have := h3.2.1
        by_cases q : p = i
        · rw [q, h4, g4]
        · by_cases q2 : p = k
          · rw [q2, h5, g5]
          · by_cases q3 : p < k
            · exact Gf.one hs hT f f2 (i + 1) k 1 (by omega) (by omega) (by omega) h6 g6 p (by omega) q3
            · exact Gf.one hs hT f f2 (k + 1) j 0 (by omega) (by omega) jn h7 g7 p (by omega) p1
def Gd (sc : Int → Int → Int) (mj : Int → Int → Bool) (bn : Int) (T0 T1 : Int → Int → Int) (m : Int → Int) (i j w : Int) : Prop := ∃ f, Gf sc mj bn T0 T1 m f i j w
/-- stretches still to be folded, one behind the other: (end, within) each -/
def Gs (sc : Int → Int → Int) (mj : Int → Int → Bool) (bn : Int) (T0 T1 : Int → Int → Int) (m : Int → Int) : Int → List (Int × Int) → Prop
  | _, [] => True
  | s, q :: t => Gd sc mj bn T0 T1 m s q.1 q.2 ∧ Gs sc mj bn T0 T1 m (q.1 + 1) t
/-- what is left to be done, from a drawing m at hand, with places ahead of s done -/
def Kc (sc : Int → Int → Int) (mj : Int → Int → Bool) (bn : Int) (T0 T1 : Int → Int → Int) (n : Int) (m : Int → Int) (s : Int) (pd : List (Int × Int)) : Prop := ∀ m', (∀ p, 0 ≤ p → p < n → (m p ≠ -1 ∨ p < s) → m' p = m p) → Gs sc mj bn T0 T1 m' s pd → Gd sc mj bn T0 T1 m' 0 n 0
theorem Kc.skip {sc : Int → Int → Int} {mj : Int → Int → Bool} {bn : Int} {T0 T1 : Int → Int → Int} {n : Int} {m : Int → Int} {s e w : Int} {t : List (Int × Int)} (s0 : 0 ≤ s) (sn : s < n) (h : Kc sc mj bn T0 T1 n m s ((e, w) :: t)) (hse : s < e) (hT : T0 (s + 1) e = Tw T0 T1 w s e) (hm : m s = -1) : Kc sc mj bn T0 T1 n m (s + 1) ((e, 0) :: t) := by
  intro m' hm' hg
  refine h m' (fun p p0 p1 p2 => hm' p p0 p1 (by omega)) ⟨?_, hg.2⟩
  obtain ⟨f, hf⟩ := hg.1
  exact ⟨f + 1, Or.inr (Or.inl ⟨hse, hT, by rw [hm' s s0 sn (by omega)]; exact hm, hf⟩)⟩
theorem Kc.join {sc : Int → Int → Int} {mj : Int → Int → Bool} {bn : Int} {T0 T1 : Int → Int → Int} {n : Int} {m : Int → Int} {s e w k : Int} {t : List (Int × Int)} (s0 : 0 ≤ s) (en : e ≤ n) (h : Kc sc mj bn T0 T1 n m s ((e, w) :: t)) (hT : T0 (s + 1) e ≠ Tw T0 T1 w s e) (hk : fstM sc mj bn T0 T1 w s e k) (hf : m s = -1) (hfk : m k = -1) : Kc sc mj bn T0 T1 n (lk2 m s k) (s + 1) ((k, 1) :: (e, 0) :: t) := by
  intro m' hm' hg
  have k1 := hk.1
  have k2 := hk.2.1
  have l1 : lk2 m s k s = k := by unfold lk2; rw [if_neg (by omega), if_pos rfl]
  have l2 : lk2 m s k k = s := by unfold lk2; rw [if_pos rfl]
  refine h m' (fun p p0 p1 p2 => ?_) ⟨?_, hg.2.2⟩
  · have hps : p ≠ s := fun z => by subst z; rcases p2 with q | q; exact q hf; omega
    have hpk : p ≠ k := fun z => by subst z; rcases p2 with q | q; exact q hfk; omega
    rw [hm' p p0 p1 (by
      rcases p2 with q | q
      · left; unfold lk2; rw [if_neg hpk, if_neg hps]; exact q
      · right; omega)]
    unfold lk2
    rw [if_neg hpk, if_neg hps]
  · obtain ⟨f1, h1⟩ := hg.1
    obtain ⟨f2, h2⟩ := hg.2.1
    refine ⟨max f1 f2 + 1, Or.inr (Or.inr ⟨by omega, hT, k, hk, ?_, ?_, h1.up _ _ _ _ _ (by omega), h2.up _ _ _ _ _ (by omega)⟩)⟩
    · rw [hm' s s0 (by omega) (Or.inr (by omega)), l1]
    · rw [hm' k (by omega) (by omega) (Or.inl (by rw [l2]; omega)), l2]
theorem Kc.pop {sc : Int → Int → Int} {mj : Int → Int → Bool} {bn : Int} {T0 T1 : Int → Int → Int} {n : Int} {m : Int → Int} {s w : Int} {t : List (Int × Int)} (h : Kc sc mj bn T0 T1 n m s ((s, w) :: t)) : Kc sc mj bn T0 T1 n m (s + 1) t := by
  intro m' hm' hg
  exact h m' (fun p p0 p1 p2 => hm' p p0 p1 (by omega)) ⟨⟨1, Or.inl rfl⟩, hg⟩
theorem Kc.nil {sc : Int → Int → Int} {mj : Int → Int → Bool} {bn : Int} {T0 T1 : Int → Int → Int} {n : Int} {m : Int → Int} {s : Int} (h : Kc sc mj bn T0 T1 n m s []) : Gd sc mj bn T0 T1 m 0 n 0 := h m (fun _ _ _ _ => rfl) trivial
theorem Kc.init {sc : Int → Int → Int} {mj : Int → Int → Bool} {bn : Int} {T0 T1 : Int → Int → Int} {n : Int} {m : Int → Int} : Kc sc mj bn T0 T1 n m 0 [(n, 0)] := fun _ _ hg => hg.1
set_option maxRecDepth 100000 in
theorem r_X2_startStretch (D : Nat) (σ : Sg) (a e b : Int) (a0 : 0 ≤ a) (a1 : a < 25) (hb : b = 0 ∨ b = 1) : Ret (D + 1) miX2_startStretch [aR 2, aI a, aI e, aI b] σ none (up (up σ 16 a e) 17 a b) := by
  refine Ret.of 2 [some (aR 2), some (aI a), some (aI e), some (aI b)] rfl (by decide) rfl (Nat.le_of_ble_eq_true rfl) ?_
  refine vX2_startStretch 60 ?_
  simp only [↓S_X2_startStretch, ↓pI_c, ↓pL_c, ↓pR_c, ↓pC_I, ↓pC_R, ↓pE_n, ↓gI_0, ↓gI_s, ↓gL_0, ↓gL_s, ↓gR_0, ↓gR_s, ↓popN_0, ↓popN_s, ↓kl_I, ↓kl_L, ↓kl_R, ↓kl_n, ↓put1_0, ↓put1_s, ↓putk_0, ↓putk_s, ↓put2_0, ↓put2_s, ↓putl_0, ↓putl_s, ↓callK_0, ↓callK_1, ↓callK_2, cats_n, cats_c, catA_I, catA_L, catA_R, KL, LV, lval_f, ltag_f, llen_f, lcm_lt, lcm_le, lcm_gt, lcm_ge, lcm_eq, lcm_R1, lcm_R2, inR, inL, true_and, and_true, eq_self, List.head?_cons, Option.some.injEq, Sum.inr.injEq, Sum.inl.injEq, false_or, or_false, true_or, or_true, Nat.reduceAdd, Nat.reduceLeDiff, Int.reduceLE, Int.reduceLT, Int.reduceEq, Int.reduceNeg, Int.reduceAdd, Int.reduceSub, Int.reduceMul, Int.reduceNe, ne_eq, not_false_eq_true, not_true_eq_false, false_implies, forall_const, Nat.le_refl, Nat.zero_le, implies_true, and_self]
  (repeat' (first | apply And.intro | intro _))
  all_goals (try first | omega | trivial | (rfl; done) | assumption | (exfalso; omega) | (split <;> first | omega | (rfl; done) | (exfalso; omega)))
set_option maxRecDepth 100000 in
theorem r_X2_firstMate (D : Nat) (σ : Sg) (a e w : Int) (h : WS σ) (hE : ∀ x y, 0 ≤ x → x ≤ y → y ≤ σ 4 0 → EQ σ x y) (a0 : 0 ≤ a) (ae : a < e) (en : e ≤ σ 4 0) (hw : w = 0 ∨ w = 1) :
    (cT0 σ (a + 1) e = Tw (cT0 σ) (cT1 σ) w a e ∧ Ret (D + 3) miX2_firstMate [aR 2, aR 4, aI a, aI e, aI w] σ (some (aI (-1))) σ) ∨ (cT0 σ (a + 1) e ≠ Tw (cT0 σ) (cT1 σ) w a e ∧ ∃ k, fstM (csc σ) (cmj σ) (σ 4 2) (cT0 σ) (cT1 σ) w a e k ∧ Ret (D + 3) miX2_firstMate [aR 2, aR 4, aI a, aI e, aI w] σ (some (aI k)) σ) := by
  have hn := h.1
  have hbn := h.2.2.2.1
  have hbd := EQ.bd h (lo := 0) (by omega) hE 30
  have b0 := hbd a e a0 (by omega) en (by omega)
  have b1 := hbd (a + 1) e (by omega) (by omega) en (by omega)
  have hka := (krow (i := a)).2.1 (by omega) (by omega)
  have hka1 := (krow (i := a + 1)).2.1 (by omega) (by omega)
  have hTw : Tw (cT0 σ) (cT1 σ) w a e = if w = 1 then cT1 σ a e else cT0 σ a e := rfl
  generalize hg : Tw (cT0 σ) (cT1 σ) w a e = g at hTw
  have hgb : -41 * (e - a) ≤ g ∧ g ≤ 0 := by rw [hTw]; split <;> omega
  have u0 : -41 * (e - a) ≤ σ (45 + a) e ∧ σ (45 + a) e ≤ 0 := ⟨b0.1.1, b0.1.2⟩
  have u1 : -41 * (e - a) ≤ σ (70 + a) e ∧ σ (70 + a) e ≤ 0 := ⟨b0.2.1, b0.2.2⟩
  have u2 : -41 * (e - (a + 1)) ≤ σ (45 + (a + 1)) e ∧ σ (45 + (a + 1)) e ≤ 0 := ⟨b1.1.1, b1.1.2⟩
  by_cases c0 : cT0 σ (a + 1) e = g
  · refine Or.inl ⟨c0, ?_⟩
    refine Ret.of 2 [some (aR 2), some (aR 4), some (aI a), some (aI e), some (aI w), none, none, none] rfl (by decide) rfl (Nat.le_of_ble_eq_true rfl) ?_
    refine vX2_firstMate 100 ?_
    simp only [↓S_X2_firstMate_1, ↓S_X2_firstMate_2, ↓pI_c, ↓pL_c, ↓pR_c, ↓pC_I, ↓pC_R, ↓pE_n, ↓gI_0, ↓gI_s, ↓gL_0, ↓gL_s, ↓gR_0, ↓gR_s, ↓popN_0, ↓popN_s, ↓kl_I, ↓kl_L, ↓kl_R, ↓kl_n, ↓put1_0, ↓put1_s, ↓putk_0, ↓putk_s, ↓put2_0, ↓put2_s, ↓putl_0, ↓putl_s, ↓callK_0, ↓callK_1, ↓callK_2, cats_n, cats_c, catA_I, catA_L, catA_R, KL, LV, lval_f, ltag_f, llen_f, lcm_lt, lcm_le, lcm_gt, lcm_ge, lcm_eq, lcm_R1, lcm_R2, inR, inL, true_and, and_true, eq_self, List.head?_cons, Option.some.injEq, Sum.inr.injEq, Sum.inl.injEq, false_or, or_false, true_or, or_true, Nat.reduceAdd, Nat.reduceLeDiff, Int.reduceLE, Int.reduceLT, Int.reduceEq, Int.reduceNeg, Int.reduceAdd, Int.reduceSub, Int.reduceMul, Int.reduceNe, ne_eq, not_false_eq_true, not_true_eq_false, false_implies, forall_const, Nat.le_refl, Nat.zero_le, implies_true, and_self]
    rw [hka.1, hka.2.1, hka.2.2.1, hka.2.2.2.1, hka1.1, hka1.2.1]
    rcases hw with rfl | rfl
    · rw [if_neg (by omega)] at hTw
      have e1 : ¬ ¬ σ (45 + (a + 1)) e = σ (45 + a) e := fun z => z (c0.trans hTw)
      (repeat' (first | apply And.intro | intro _))
      all_goals (try first | omega | trivial | (rfl; done) | assumption | (exfalso; omega) | (exact absurd ‹_› e1) | (split <;> first | omega | (rfl; done) | (exfalso; omega)))
    · rw [if_pos rfl] at hTw
      have e1 : ¬ ¬ σ (45 + (a + 1)) e = σ (70 + a) e := fun z => z (c0.trans hTw)
      (repeat' (first | apply And.intro | intro _))
      all_goals (try first | omega | trivial | (rfl; done) | assumption | (exfalso; omega) | (exact absurd ‹_› e1) | (split <;> first | omega | (rfl; done) | (exfalso; omega)))
  · refine Or.inr ⟨c0, ?_⟩
    have hex : ∃ k, fstM (csc σ) (cmj σ) (σ 4 2) (cT0 σ) (cT1 σ) w a e k := by
      obtain ⟨d1, d2⟩ := (hE a e a0 (by omega) en).2 ae
      have key : ∃ c, a + 1 ≤ c ∧ c < a + 1 + ((e - (a + 1)).toNat : Int) ∧ cmj σ a c = true ∧ g = cdv (csc σ) (σ 4 2) (cT0 σ) (cT1 σ) w a e c := by
        rcases hw with rfl | rfl
        · rw [if_neg (by omega)] at hTw
          rcases fr_stp_ex (sc := csc σ) (mj := cmj σ) (bn := σ 4 2) (T0 := cT0 σ) (T1 := cT1 σ) (W0 := cW0 σ) (W1 := cW1 σ) (w := 0) (a := a) (e := e) (e - (a + 1)).toNat (a + 1) (cT0 σ (a + 1) e, cW0 σ (a + 1) e) with q | ⟨c, q1, q2, q3, q4⟩
          · rw [← d1] at q
            have q : cT0 σ a e = cT0 σ (a + 1) e := q
            omega
          · rw [← d1] at q4
            exact ⟨c, q1, q2, q3, by rw [hTw]; exact q4⟩
        · rw [if_pos rfl] at hTw
          rcases fr_stp_ex (sc := csc σ) (mj := cmj σ) (bn := σ 4 2) (T0 := cT0 σ) (T1 := cT1 σ) (W0 := cW0 σ) (W1 := cW1 σ) (w := 1) (a := a) (e := e) (e - (a + 1)).toNat (a + 1) (cT0 σ (a + 1) e, cW0 σ (a + 1) e) with q | ⟨c, q1, q2, q3, q4⟩
          · rw [← d2] at q
            have q : cT1 σ a e = cT0 σ (a + 1) e := q
            omega
          · rw [← d2] at q4
            exact ⟨c, q1, q2, q3, by rw [hTw]; exact q4⟩
      obtain ⟨c, q1, q2, q3, q4⟩ := key
      exact fstM.ex 30 c (by omega) (by omega) (by omega) q3 (by rw [hg]; exact q4.symm)
    obtain ⟨k, hk⟩ := hex
    refine ⟨k, hk, ?_⟩
    have hk1 := hk.1
    have hk2 := hk.2.1
    have loop : ∀ (n : Nat) (c : Int), a < c → c + n = k → V (D + 2) miX2_firstMate 2 (some (aI k)) σ 48 [some (aR 2), some (aR 4), some (aI a), some (aI e), some (aI w), some (aI g), some (aI c), none] [] σ := by
      intro n
      induction n with
      | zero =>
        intro c q0 q1
        have : c = k := by omega
        subst this
        have hmj := r_X4_mayJoin (D) σ a c h a0 (by omega) (by omega) (by omega)
        rw [if_pos hk.2.2.1] at hmj
        have sw := r_X2_scoreWith (D) σ a c e h a0 (by omega) (by omega) (by omega)
        have b2 := (hbd (a + 1) c (by omega) (by omega) (by omega) (by omega)).2
        have b3 := (hbd (c + 1) e (by omega) (by omega) (by omega) (by omega)).1
        have b4 := h.sc a0 (show a < σ 4 0 by omega) (show 0 ≤ c by omega) (show c < σ 4 0 by omega)
        have hcd := hk.2.2.2.1
        rw [hg] at hcd
        unfold cdv at hcd
        refine vX2_firstMate 100 ?_
        simp only [↓S_X2_firstMate_1, ↓S_X2_firstMate_2, ↓pI_c, ↓pL_c, ↓pR_c, ↓pC_I, ↓pC_R, ↓pE_n, ↓gI_0, ↓gI_s, ↓gL_0, ↓gL_s, ↓gR_0, ↓gR_s, ↓popN_0, ↓popN_s, ↓kl_I, ↓kl_L, ↓kl_R, ↓kl_n, ↓put1_0, ↓put1_s, ↓putk_0, ↓putk_s, ↓put2_0, ↓put2_s, ↓putl_0, ↓putl_s, ↓callK_0, ↓callK_1, ↓callK_2, cats_n, cats_c, catA_I, catA_L, catA_R, KL, LV, lval_f, ltag_f, llen_f, lcm_lt, lcm_le, lcm_gt, lcm_ge, lcm_eq, lcm_R1, lcm_R2, inR, inL, true_and, and_true, eq_self, List.head?_cons, Option.some.injEq, Sum.inr.injEq, Sum.inl.injEq, false_or, or_false, true_or, or_true, Nat.reduceAdd, Nat.reduceLeDiff, Int.reduceLE, Int.reduceLT, Int.reduceEq, Int.reduceNeg, Int.reduceAdd, Int.reduceSub, Int.reduceMul, Int.reduceNe, ne_eq, not_false_eq_true, not_true_eq_false, false_implies, forall_const, Nat.le_refl, Nat.zero_le, implies_true, and_self]
        refine ⟨by omega, by omega, fun q => by omega, fun q => ⟨_, _, hmj, by omega, fun q => by omega, fun q => ?_⟩⟩
        by_cases c5 : w = 1 ∧ c = e - 1
        · rw [if_pos c5] at hcd
          refine ⟨by omega, fun q => by omega, fun q => ⟨by omega, by omega, fun q => by omega, fun q => ⟨_, _, sw, by omega, by omega, fun q => by omega, fun q => ?_⟩⟩⟩
          rfl
        · rw [if_neg c5] at hcd
          refine ⟨by omega, fun q => ⟨_, _, sw, by omega, by omega, fun q => by omega, fun q => rfl⟩, fun q => ⟨by omega, by omega, fun q => ⟨_, _, sw, by omega, by omega, fun q => by omega, fun q => rfl⟩, fun q => by omega⟩⟩
      | succ n ih =>
        intro c q0 q1
        have t1 := ih (c + 1) (by omega) (by omega)
        have hno := hk.2.2.2.2 c q0 (by omega)
        have hmj := r_X4_mayJoin (D) σ a c h a0 (by omega) (by omega) (by omega)
        have sw := r_X2_scoreWith (D) σ a c e h a0 (by omega) (by omega) (by omega)
        have b2 := (hbd (a + 1) c (by omega) (by omega) (by omega) (by omega)).2
        have b3 := (hbd (c + 1) e (by omega) (by omega) (by omega) (by omega)).1
        have b4 := h.sc a0 (show a < σ 4 0 by omega) (show 0 ≤ c by omega) (show c < σ 4 0 by omega)
        by_cases c4 : cmj σ a c = true
        · rw [if_pos c4] at hmj
          have hcd : ¬ cdv (csc σ) (σ 4 2) (cT0 σ) (cT1 σ) w a e c = g := fun z => hno ⟨c4, by rw [hg]; exact z⟩
          unfold cdv at hcd
          refine vX2_firstMate 100 ?_
          simp only [↓S_X2_firstMate_1, ↓S_X2_firstMate_2, ↓pI_c, ↓pL_c, ↓pR_c, ↓pC_I, ↓pC_R, ↓pE_n, ↓gI_0, ↓gI_s, ↓gL_0, ↓gL_s, ↓gR_0, ↓gR_s, ↓popN_0, ↓popN_s, ↓kl_I, ↓kl_L, ↓kl_R, ↓kl_n, ↓put1_0, ↓put1_s, ↓putk_0, ↓putk_s, ↓put2_0, ↓put2_s, ↓putl_0, ↓putl_s, ↓callK_0, ↓callK_1, ↓callK_2, cats_n, cats_c, catA_I, catA_L, catA_R, KL, LV, lval_f, ltag_f, llen_f, lcm_lt, lcm_le, lcm_gt, lcm_ge, lcm_eq, lcm_R1, lcm_R2, inR, inL, true_and, and_true, eq_self, List.head?_cons, Option.some.injEq, Sum.inr.injEq, Sum.inl.injEq, false_or, or_false, true_or, or_true, Nat.reduceAdd, Nat.reduceLeDiff, Int.reduceLE, Int.reduceLT, Int.reduceEq, Int.reduceNeg, Int.reduceAdd, Int.reduceSub, Int.reduceMul, Int.reduceNe, ne_eq, not_false_eq_true, not_true_eq_false, false_implies, forall_const, Nat.le_refl, Nat.zero_le, implies_true, and_self]
          refine ⟨by omega, by omega, fun q => by omega, fun q => ⟨_, _, hmj, by omega, fun q => by omega, fun q => ?_⟩⟩
          by_cases c5 : w = 1 ∧ c = e - 1
          · rw [if_pos c5] at hcd
            refine ⟨by omega, fun q => by omega, fun q => ⟨by omega, by omega, fun q => by omega, fun q => ⟨_, _, sw, by omega, by omega, fun q => V.wk t1 (by simp [lle]), fun q => by omega⟩⟩⟩
          · rw [if_neg c5] at hcd
            refine ⟨by omega, fun q => ⟨_, _, sw, by omega, by omega, fun q => V.wk t1 (by simp [lle]), fun q => by omega⟩, fun q => ⟨by omega, by omega, fun q => ⟨_, _, sw, by omega, by omega, fun q => V.wk t1 (by simp [lle]), fun q => by omega⟩, fun q => by omega⟩⟩
        · rw [if_neg c4] at hmj
          refine vX2_firstMate 100 ?_
          simp only [↓S_X2_firstMate_1, ↓S_X2_firstMate_2, ↓pI_c, ↓pL_c, ↓pR_c, ↓pC_I, ↓pC_R, ↓pE_n, ↓gI_0, ↓gI_s, ↓gL_0, ↓gL_s, ↓gR_0, ↓gR_s, ↓popN_0, ↓popN_s, ↓kl_I, ↓kl_L, ↓kl_R, ↓kl_n, ↓put1_0, ↓put1_s, ↓putk_0, ↓putk_s, ↓put2_0, ↓put2_s, ↓putl_0, ↓putl_s, ↓callK_0, ↓callK_1, ↓callK_2, cats_n, cats_c, catA_I, catA_L, catA_R, KL, LV, lval_f, ltag_f, llen_f, lcm_lt, lcm_le, lcm_gt, lcm_ge, lcm_eq, lcm_R1, lcm_R2, inR, inL, true_and, and_true, eq_self, List.head?_cons, Option.some.injEq, Sum.inr.injEq, Sum.inl.injEq, false_or, or_false, true_or, or_true, Nat.reduceAdd, Nat.reduceLeDiff, Int.reduceLE, Int.reduceLT, Int.reduceEq, Int.reduceNeg, Int.reduceAdd, Int.reduceSub, Int.reduceMul, Int.reduceNe, ne_eq, not_false_eq_true, not_true_eq_false, false_implies, forall_const, Nat.le_refl, Nat.zero_le, implies_true, and_self]
          exact ⟨by omega, by omega, fun q => by omega, fun q => ⟨_, _, hmj, by omega, fun q => t1, fun q => by omega⟩⟩
    have t1 := loop (k - (a + 1)).toNat (a + 1) (by omega) (by omega)
    refine Ret.of 2 [some (aR 2), some (aR 4), some (aI a), some (aI e), some (aI w), none, none, none] rfl (by decide) rfl (Nat.le_of_ble_eq_true rfl) ?_
    refine vX2_firstMate 100 ?_
    simp only [↓S_X2_firstMate_1, ↓S_X2_firstMate_2, ↓pI_c, ↓pL_c, ↓pR_c, ↓pC_I, ↓pC_R, ↓pE_n, ↓gI_0, ↓gI_s, ↓gL_0, ↓gL_s, ↓gR_0, ↓gR_s, ↓popN_0, ↓popN_s, ↓kl_I, ↓kl_L, ↓kl_R, ↓kl_n, ↓put1_0, ↓put1_s, ↓putk_0, ↓putk_s, ↓put2_0, ↓put2_s, ↓putl_0, ↓putl_s, ↓callK_0, ↓callK_1, ↓callK_2, cats_n, cats_c, catA_I, catA_L, catA_R, KL, LV, lval_f, ltag_f, llen_f, lcm_lt, lcm_le, lcm_gt, lcm_ge, lcm_eq, lcm_R1, lcm_R2, inR, inL, true_and, and_true, eq_self, List.head?_cons, Option.some.injEq, Sum.inr.injEq, Sum.inl.injEq, false_or, or_false, true_or, or_true, Nat.reduceAdd, Nat.reduceLeDiff, Int.reduceLE, Int.reduceLT, Int.reduceEq, Int.reduceNeg, Int.reduceAdd, Int.reduceSub, Int.reduceMul, Int.reduceNe, ne_eq, not_false_eq_true, not_true_eq_false, false_implies, forall_const, Nat.le_refl, Nat.zero_le, implies_true, and_self]
    rw [hka.1, hka.2.1, hka.2.2.1, hka.2.2.2.1, hka1.1, hka1.2.1]
    rcases hw with rfl | rfl
    · rw [if_neg (by omega)] at hTw
      have e1 : σ (45 + a) e = g := hTw.symm
      rw [e1]
      (repeat' (first | apply And.intro | intro _))
      all_goals (try first | omega | trivial | (rfl; done) | assumption | (exfalso; omega) | (split <;> first | omega | (rfl; done) | (exfalso; omega)))
    · rw [if_pos rfl] at hTw
      have e1 : σ (70 + a) e = g := hTw.symm
      rw [e1]
      (repeat' (first | apply And.intro | intro _))
      all_goals (try first | omega | trivial | (rfl; done) | assumption | (exfalso; omega) | (split <;> first | omega | (rfl; done) | (exfalso; omega)))

/-! the most of a fold; chains; Drawing's tangle -/
theorem frm {Q : Int → Prop} [DecidablePred Q] {h : Int → Int} : ∀ (k : Nat) (i x : Int), x ≤ fr (fun c d => if Q c then mx d (h c) else d) i k x ∧ (∀ c, i ≤ c → c < i + k → Q c → h c ≤ fr (fun c d => if Q c then mx d (h c) else d) i k x) ∧ (fr (fun c d => if Q c then mx d (h c) else d) i k x = x ∨ ∃ c, i ≤ c ∧ c < i + k ∧ Q c ∧ fr (fun c d => if Q c then mx d (h c) else d) i k x = h c)
  | 0, i, x => ⟨Int.le_refl _, fun c h1 h2 => by omega, Or.inl rfl⟩
  | k + 1, i, x => by
    rw [fr_s]
    by_cases q : Q i
    · rw [if_pos q]
      obtain ⟨a1, a2, a3⟩ := frm (Q := Q) (h := h) k (i + 1) (mx x (h i))
      have m1 : x ≤ mx x (h i) ∧ h i ≤ mx x (h i) ∧ (mx x (h i) = x ∨ mx x (h i) = h i) := by unfold mx; split <;> omega
      refine ⟨by omega, fun c c0 c1 c2 => ?_, ?_⟩
      · by_cases e : c = i
        · subst e; omega
        · exact a2 c (by omega) (by omega) c2
      · rcases a3 with e | ⟨c, c0, c1, c2, c3⟩
        · rcases m1.2.2 with e2 | e2
          · exact Or.inl (by omega)
          · exact Or.inr ⟨i, by omega, by omega, q, by omega⟩
        · exact Or.inr ⟨c, by omega, by omega, c2, c3⟩
    · rw [if_neg q]
      obtain ⟨a1, a2, a3⟩ := frm (Q := Q) (h := h) k (i + 1) x
      refine ⟨a1, fun c c0 c1 c2 => ?_, ?_⟩
      · by_cases e : c = i
        · subst e; exact absurd c2 q
        · exact a2 c (by omega) (by omega) c2
      · rcases a3 with e | ⟨c, c0, c1, c2, c3⟩
        · exact Or.inl e
        · exact Or.inr ⟨c, by omega, by omega, c2, c3⟩
/-- a chain downwards from a: every place below, every partner less -/
def Dn (m : Int → Int) (P : Int → Prop) : Int → List Int → Prop
  | a, [] => P a
  | a, c :: l => P a ∧ c < a ∧ m c < m a ∧ Dn m P c l
theorem Dn.P {m : Int → Int} {P : Int → Prop} : ∀ {a : Int} {l : List Int}, Dn m P a l → P a
  | _, [], h => h
  | _, _ :: _, h => h.1
/-- h counts the longest chain downwards among P -/
def DpE (m : Int → Int) (P : Int → Prop) (h : Int → Int) : Prop := ∀ a, P a → (∀ l, Dn m P a l → (l.length : Int) + 1 ≤ h a) ∧ ∃ l, Dn m P a l ∧ (l.length : Int) + 1 = h a
theorem DpE.of {m : Int → Int} {P : Int → Prop} {h : Int → Int} {lo : Int} (hP : ∀ a, P a → lo ≤ a) (ub : ∀ a c, P a → P c → c < a → m c < m a → h c + 1 ≤ h a) (at1 : ∀ a, P a → 1 ≤ h a) (ex : ∀ a, P a → h a = 1 ∨ ∃ c, P c ∧ c < a ∧ m c < m a ∧ h a = h c + 1) : DpE m P h := by
  have key : ∀ (k : Nat) (a : Int), a < lo + k → P a → (∀ l, Dn m P a l → (l.length : Int) + 1 ≤ h a) ∧ ∃ l, Dn m P a l ∧ (l.length : Int) + 1 = h a := by
    intro k
    induction k with
    | zero => intro a h1 h2; have := hP a h2; omega
    | succ k ih =>
      intro a h1 h2
      refine ⟨fun l hl => ?_, ?_⟩
      · match l, hl with
        | [], hl => have := at1 a h2; simp; omega
        | c :: l, hl =>
          obtain ⟨g1, g2, g3, g4⟩ := hl
          have := (ih c (by omega) g4.P).1 l g4
          have := ub a c h2 g4.P g2 g3
          simp only [List.length_cons]
          omega
      · rcases ex a h2 with e | ⟨c, c1, c2, c3, c4⟩
        · exact ⟨[], h2, by simp; omega⟩
        · obtain ⟨l, l1, l2⟩ := (ih c (by omega) c1).2
          exact ⟨c :: l, ⟨h2, c2, c3, l1⟩, by simp only [List.length_cons]; omega⟩
  exact fun a ha => key (a + 1 - lo).toNat a (by have := hP a ha; omega) ha
def tanE (m : Int → Int) (p : Int) (h : Int → Int) : Prop := ∀ a, 0 ≤ a → a ≤ p → p < m a → h a = fr (fun c d => if p < m c ∧ m c < m a then mx d (h c) else d) 0 a.toNat 0 + 1
theorem tanE.dp {m : Int → Int} {p : Int} {h : Int → Int} (e : tanE m p h) : DpE m (fun a => 0 ≤ a ∧ a ≤ p ∧ p < m a) h := by
  refine DpE.of (lo := 0) (fun a ha => ha.1) (fun a c ha hc h1 h2 => ?_) (fun a ha => ?_) (fun a ha => ?_)
  · rw [e a ha.1 ha.2.1 ha.2.2]
    have := (frm (Q := fun c => p < m c ∧ m c < m a) (h := h) a.toNat 0 0).2.1 c hc.1 (by omega) ⟨hc.2.2, h2⟩
    omega
  · rw [e a ha.1 ha.2.1 ha.2.2]
    have := (frm (Q := fun c => p < m c ∧ m c < m a) (h := h) a.toNat 0 0).1
    omega
  · rw [e a ha.1 ha.2.1 ha.2.2]
    rcases (frm (Q := fun c => p < m c ∧ m c < m a) (h := h) a.toNat 0 0).2.2 with q | ⟨c, c0, c1, c2, c3⟩
    · exact Or.inl (by omega)
    · exact Or.inr ⟨c, ⟨c0, by omega, c2.1⟩, by omega, c2.2, by omega⟩
theorem Dn.len {m : Int → Int} {P : Int → Prop} (hP : ∀ a, P a → 0 ≤ a) : ∀ {a : Int} {l : List Int}, Dn m P a l → (l.length : Int) ≤ a
  | a, [], h => by have := hP a h; simpa using this
  | a, c :: l, h => by
    have := Dn.len hP h.2.2.2
    have := h.2.1
    simp only [List.length_cons]
    omega
set_option maxRecDepth 100000 in
theorem r_X1_tangleOver (D : Nat) (σ : Sg) (p : Int) (hw : WD (σ 1 0) (σ 7)) (h0 : 0 ≤ p) (h1 : p < 24) : ∃ h τ, tanE (σ 7) p h ∧ Ret (D + 1) miX1_tangleOver [aR 1, aI p] σ (some (aI (fr (fun a mo => if p < σ 7 a then mx mo (h a) else mo) 0 (p + 1).toNat 0))) τ ∧ (∀ a b, a ≠ 11 → τ a b = σ a b) := by
  have hex : ∀ k : Nat, k ≤ 24 → ∃ h : Int → Int, ∀ b : Int, 0 ≤ b → b < (k : Int) → p < σ 7 b → h b = fr (fun c d => if p < σ 7 c ∧ σ 7 c < σ 7 b then mx d (h c) else d) 0 b.toNat 0 + 1 := by
    intro k
    induction k with
    | zero => intro _; exact ⟨fun _ => 0, fun b h0 h1 => by omega⟩
    | succ k ih =>
      intro hk
      obtain ⟨h, hh⟩ := ih (by omega)
      refine ⟨fun b => if b = k then fr (fun c d => if p < σ 7 c ∧ σ 7 c < σ 7 k then mx d (h c) else d) 0 k 0 + 1 else h b, fun b h0 h1 h2 => ?_⟩
      have cong : ∀ b : Int, b ≤ k → fr (fun c d => if p < σ 7 c ∧ σ 7 c < σ 7 b then mx d ((fun b => if b = (k : Int) then fr (fun c d => if p < σ 7 c ∧ σ 7 c < σ 7 k then mx d (h c) else d) 0 k 0 + 1 else h b) c) else d) 0 b.toNat 0 = fr (fun c d => if p < σ 7 c ∧ σ 7 c < σ 7 b then mx d (h c) else d) 0 b.toNat 0 := by
        intro b hb
        refine fr_congr _ _ _ (fun j x j0 j1 => ?_)
        show (if p < σ 7 j ∧ σ 7 j < σ 7 b then mx x (if j = (k : Int) then fr (fun c d => if p < σ 7 c ∧ σ 7 c < σ 7 k then mx d (h c) else d) 0 k 0 + 1 else h j) else x) = _
        rw [if_neg (show ¬ j = (k : Int) by omega)]
      rw [cong b (by omega)]
      by_cases q : b = k
      · subst q
        show (if (k : Int) = k then _ else _) = _
        rw [if_pos rfl]
        rfl
      · show (if b = (k : Int) then _ else h b) = _
        rw [if_neg q]
        exact hh b h0 (by omega) h2
  obtain ⟨h, hh⟩ := hex 24 (by omega)
  have hn : tanE (σ 7) p h := fun a a0 a1 a2 => hh a a0 (by omega) a2
  have hbd : ∀ a, 0 ≤ a → a ≤ p → p < σ 7 a → 1 ≤ h a ∧ h a ≤ 24 := by
    intro a a0 a1 a2
    obtain ⟨-, l, l1, l2⟩ := hn.dp a ⟨a0, a1, a2⟩
    have := Dn.len (fun a ha => ha.1) l1
    omega
  refine ⟨h, ?_⟩
  have loop : ∀ (k : Nat) (i mo : Int) (ρ : Sg), 0 ≤ i → i + k = p + 1 → 0 ≤ mo → mo ≤ 24 → (∀ a b, a ≠ 11 → ρ a b = σ a b) → (∀ b, 0 ≤ b → b < i → p < σ 7 b → ρ 11 b = h b) →
      ∃ τ, V D miX1_tangleOver 1 (some (aI (fr (fun a mo => if p < σ 7 a then mx mo (h a) else mo) i k mo))) τ 4 [some (aR 1), some (aI p), some (aI mo), some (aI i), none, none] [] ρ ∧ (∀ a b, a ≠ 11 → τ a b = σ a b) := by
    intro k
    induction k with
    | zero =>
      intro i mo ρ i0 i1 m0 m1 hρ hc
      refine ⟨ρ, ?_, hρ⟩
      refine vX1_tangleOver 60 ?_
      simp only [↓S_X1_tangleOver_1, ↓S_X1_tangleOver_2, ↓pI_c, ↓pL_c, ↓pR_c, ↓pC_I, ↓pC_R, ↓pE_n, ↓gI_0, ↓gI_s, ↓gL_0, ↓gL_s, ↓gR_0, ↓gR_s, ↓popN_0, ↓popN_s, ↓kl_I, ↓kl_L, ↓kl_R, ↓kl_n, ↓put1_0, ↓put1_s, ↓putk_0, ↓putk_s, ↓put2_0, ↓put2_s, ↓putl_0, ↓putl_s, ↓callK_0, ↓callK_1, ↓callK_2, cats_n, cats_c, catA_I, catA_L, catA_R, KL, LV, lval_f, ltag_f, llen_f, lcm_lt, lcm_le, lcm_gt, lcm_ge, lcm_eq, lcm_R1, lcm_R2, inR, inL, true_and, and_true, eq_self, List.head?_cons, Option.some.injEq, Sum.inr.injEq, Sum.inl.injEq, false_or, or_false, true_or, or_true, Nat.reduceAdd, Nat.reduceLeDiff, Int.reduceLE, Int.reduceLT, Int.reduceEq, Int.reduceNeg, Int.reduceAdd, Int.reduceSub, Int.reduceMul, Int.reduceNe, ne_eq, not_false_eq_true, not_true_eq_false, false_implies, forall_const, Nat.le_refl, Nat.zero_le, implies_true, and_self]
      simp only [fr]
      (repeat' (first | apply And.intro | intro _))
      all_goals (try first | omega | trivial | (rfl; done) | assumption | (exfalso; omega) | (split <;> first | omega | (rfl; done) | (exfalso; omega)))
    | succ k ih =>
      intro i mo ρ i0 i1 m0 m1 hρ hc
      have e7 : ∀ x, ρ 7 x = σ 7 x := fun x => hρ 7 x (by decide)
      have hr := hw.r i0 (by omega)
      rw [fr_s]
      by_cases c : p < σ 7 i
      · rw [if_pos c]
        have hb1 := hbd i i0 (by omega) c
        obtain ⟨τ, t1, t2⟩ := ih (i + 1) (mx mo (h i)) (up ρ 11 i (h i)) (by omega) (by omega) (by unfold mx; split <;> omega) (by unfold mx; split <;> omega) (fun a b hh => by unfold up; rw [if_neg (fun z => hh z.1)]; exact hρ a b hh) (fun b b0 b1 b2 => by
          unfold up
          by_cases q : b = i
          · rw [if_pos ⟨rfl, q⟩, q]
          · rw [if_neg (fun z => q z.2)]
            exact hc b b0 (by omega) b2)
        refine ⟨τ, ?_, t2⟩
        have hei := hn i i0 (by omega) c
        have inner : ∀ (n : Nat) (x dp : Int), 0 ≤ x → x + n = i → 0 ≤ dp → dp ≤ 24 → h i = fr (fun c d => if p < σ 7 c ∧ σ 7 c < σ 7 i then mx d (h c) else d) x n dp + 1 → V D miX1_tangleOver 1 (some (aI (fr (fun a mo => if p < σ 7 a then mx mo (h a) else mo) (i + 1) k (mx mo (h i))))) τ 25 [some (aR 1), some (aI p), some (aI mo), some (aI i), some (aI dp), some (aI x)] [] ρ := by
          intro n
          induction n with
          | zero =>
            intro x dp x0 x1 d0 d1 he
            simp only [fr] at he
            unfold mx at t1
            have eu : up ρ 11 i (dp + 1) 11 i = dp + 1 := by unfold up; rw [if_pos ⟨rfl, rfl⟩]
            rw [he] at t1
            unfold mx
            rw [he]
            refine vX1_tangleOver 60 ?_
            simp only [↓S_X1_tangleOver_1, ↓S_X1_tangleOver_2, ↓pI_c, ↓pL_c, ↓pR_c, ↓pC_I, ↓pC_R, ↓pE_n, ↓gI_0, ↓gI_s, ↓gL_0, ↓gL_s, ↓gR_0, ↓gR_s, ↓popN_0, ↓popN_s, ↓kl_I, ↓kl_L, ↓kl_R, ↓kl_n, ↓put1_0, ↓put1_s, ↓putk_0, ↓putk_s, ↓put2_0, ↓put2_s, ↓putl_0, ↓putl_s, ↓callK_0, ↓callK_1, ↓callK_2, cats_n, cats_c, catA_I, catA_L, catA_R, KL, LV, lval_f, ltag_f, llen_f, lcm_lt, lcm_le, lcm_gt, lcm_ge, lcm_eq, lcm_R1, lcm_R2, inR, inL, true_and, and_true, eq_self, List.head?_cons, Option.some.injEq, Sum.inr.injEq, Sum.inl.injEq, false_or, or_false, true_or, or_true, Nat.reduceAdd, Nat.reduceLeDiff, Int.reduceLE, Int.reduceLT, Int.reduceEq, Int.reduceNeg, Int.reduceAdd, Int.reduceSub, Int.reduceMul, Int.reduceNe, ne_eq, not_false_eq_true, not_true_eq_false, false_implies, forall_const, Nat.le_refl, Nat.zero_le, implies_true, and_self]
            rw [eu]
            (repeat' (first | apply And.intro | intro _))
            all_goals (try first | omega | trivial | (rfl; done) | assumption | (exfalso; omega) | (exact V.wk t1 (by simp [lle])) | (split <;> first | omega | (rfl; done) | (exfalso; omega)))
          | succ n ih2 =>
            intro x dp x0 x1 d0 d1 he
            rw [fr_s] at he
            have hrx := hw.r (a := x) (by omega) (by omega)
            by_cases c2 : p < σ 7 x ∧ σ 7 x < σ 7 i
            · rw [if_pos c2] at he
              have hbx := hbd x x0 (by omega) c2.1
              have ec := hc x x0 (by omega) c2.1
              have t2 := ih2 (x + 1) (mx dp (h x)) (by omega) (by omega) (by unfold mx; split <;> omega) (by unfold mx; split <;> omega) he
              unfold mx at t2
              refine vX1_tangleOver 60 ?_
              simp only [↓S_X1_tangleOver_1, ↓S_X1_tangleOver_2, ↓pI_c, ↓pL_c, ↓pR_c, ↓pC_I, ↓pC_R, ↓pE_n, ↓gI_0, ↓gI_s, ↓gL_0, ↓gL_s, ↓gR_0, ↓gR_s, ↓popN_0, ↓popN_s, ↓kl_I, ↓kl_L, ↓kl_R, ↓kl_n, ↓put1_0, ↓put1_s, ↓putk_0, ↓putk_s, ↓put2_0, ↓put2_s, ↓putl_0, ↓putl_s, ↓callK_0, ↓callK_1, ↓callK_2, cats_n, cats_c, catA_I, catA_L, catA_R, KL, LV, lval_f, ltag_f, llen_f, lcm_lt, lcm_le, lcm_gt, lcm_ge, lcm_eq, lcm_R1, lcm_R2, inR, inL, true_and, and_true, eq_self, List.head?_cons, Option.some.injEq, Sum.inr.injEq, Sum.inl.injEq, false_or, or_false, true_or, or_true, Nat.reduceAdd, Nat.reduceLeDiff, Int.reduceLE, Int.reduceLT, Int.reduceEq, Int.reduceNeg, Int.reduceAdd, Int.reduceSub, Int.reduceMul, Int.reduceNe, ne_eq, not_false_eq_true, not_true_eq_false, false_implies, forall_const, Nat.le_refl, Nat.zero_le, implies_true, and_self]
              unfold mx at ⊢
              rw [e7, e7, ec]
              (repeat' (first | apply And.intro | intro _))
              all_goals (try first | omega | trivial | (rfl; done) | assumption | (exfalso; omega) | (split <;> first | omega | (rfl; done) | (exfalso; omega)))
            · rw [if_neg c2] at he
              have t2 := ih2 (x + 1) dp (by omega) (by omega) d0 d1 he
              refine vX1_tangleOver 60 ?_
              simp only [↓S_X1_tangleOver_1, ↓S_X1_tangleOver_2, ↓pI_c, ↓pL_c, ↓pR_c, ↓pC_I, ↓pC_R, ↓pE_n, ↓gI_0, ↓gI_s, ↓gL_0, ↓gL_s, ↓gR_0, ↓gR_s, ↓popN_0, ↓popN_s, ↓kl_I, ↓kl_L, ↓kl_R, ↓kl_n, ↓put1_0, ↓put1_s, ↓putk_0, ↓putk_s, ↓put2_0, ↓put2_s, ↓putl_0, ↓putl_s, ↓callK_0, ↓callK_1, ↓callK_2, cats_n, cats_c, catA_I, catA_L, catA_R, KL, LV, lval_f, ltag_f, llen_f, lcm_lt, lcm_le, lcm_gt, lcm_ge, lcm_eq, lcm_R1, lcm_R2, inR, inL, true_and, and_true, eq_self, List.head?_cons, Option.some.injEq, Sum.inr.injEq, Sum.inl.injEq, false_or, or_false, true_or, or_true, Nat.reduceAdd, Nat.reduceLeDiff, Int.reduceLE, Int.reduceLT, Int.reduceEq, Int.reduceNeg, Int.reduceAdd, Int.reduceSub, Int.reduceMul, Int.reduceNe, ne_eq, not_false_eq_true, not_true_eq_false, false_implies, forall_const, Nat.le_refl, Nat.zero_le, implies_true, and_self]
              rw [e7, e7]
              (repeat' (first | apply And.intro | intro _))
              all_goals (try first | omega | trivial | (rfl; done) | assumption | (exfalso; omega) | (split <;> first | omega | (rfl; done) | (exfalso; omega)))
        have t3 := inner i.toNat 0 0 (by omega) (by omega) (by omega) (by omega) hei
        refine vX1_tangleOver 60 ?_
        simp only [↓S_X1_tangleOver_1, ↓S_X1_tangleOver_2, ↓pI_c, ↓pL_c, ↓pR_c, ↓pC_I, ↓pC_R, ↓pE_n, ↓gI_0, ↓gI_s, ↓gL_0, ↓gL_s, ↓gR_0, ↓gR_s, ↓popN_0, ↓popN_s, ↓kl_I, ↓kl_L, ↓kl_R, ↓kl_n, ↓put1_0, ↓put1_s, ↓putk_0, ↓putk_s, ↓put2_0, ↓put2_s, ↓putl_0, ↓putl_s, ↓callK_0, ↓callK_1, ↓callK_2, cats_n, cats_c, catA_I, catA_L, catA_R, KL, LV, lval_f, ltag_f, llen_f, lcm_lt, lcm_le, lcm_gt, lcm_ge, lcm_eq, lcm_R1, lcm_R2, inR, inL, true_and, and_true, eq_self, List.head?_cons, Option.some.injEq, Sum.inr.injEq, Sum.inl.injEq, false_or, or_false, true_or, or_true, Nat.reduceAdd, Nat.reduceLeDiff, Int.reduceLE, Int.reduceLT, Int.reduceEq, Int.reduceNeg, Int.reduceAdd, Int.reduceSub, Int.reduceMul, Int.reduceNe, ne_eq, not_false_eq_true, not_true_eq_false, false_implies, forall_const, Nat.le_refl, Nat.zero_le, implies_true, and_self]
        rw [e7]
        (repeat' (first | apply And.intro | intro _))
        all_goals (try first | omega | trivial | (rfl; done) | assumption | (exfalso; omega) | (split <;> first | omega | (rfl; done) | (exfalso; omega)))
      · rw [if_neg c]
        obtain ⟨τ, t1, t2⟩ := ih (i + 1) mo ρ (by omega) (by omega) m0 m1 hρ (fun b b0 b1 b2 => hc b b0 (by
          apply Classical.byContradiction
          intro q
          have : b = i := by omega
          subst this
          exact c b2) b2)
        refine ⟨τ, ?_, t2⟩
        refine vX1_tangleOver 60 ?_
        simp only [↓S_X1_tangleOver_1, ↓S_X1_tangleOver_2, ↓pI_c, ↓pL_c, ↓pR_c, ↓pC_I, ↓pC_R, ↓pE_n, ↓gI_0, ↓gI_s, ↓gL_0, ↓gL_s, ↓gR_0, ↓gR_s, ↓popN_0, ↓popN_s, ↓kl_I, ↓kl_L, ↓kl_R, ↓kl_n, ↓put1_0, ↓put1_s, ↓putk_0, ↓putk_s, ↓put2_0, ↓put2_s, ↓putl_0, ↓putl_s, ↓callK_0, ↓callK_1, ↓callK_2, cats_n, cats_c, catA_I, catA_L, catA_R, KL, LV, lval_f, ltag_f, llen_f, lcm_lt, lcm_le, lcm_gt, lcm_ge, lcm_eq, lcm_R1, lcm_R2, inR, inL, true_and, and_true, eq_self, List.head?_cons, Option.some.injEq, Sum.inr.injEq, Sum.inl.injEq, false_or, or_false, true_or, or_true, Nat.reduceAdd, Nat.reduceLeDiff, Int.reduceLE, Int.reduceLT, Int.reduceEq, Int.reduceNeg, Int.reduceAdd, Int.reduceSub, Int.reduceMul, Int.reduceNe, ne_eq, not_false_eq_true, not_true_eq_false, false_implies, forall_const, Nat.le_refl, Nat.zero_le, implies_true, and_self]
        rw [e7]
        (repeat' (first | apply And.intro | intro _))
        all_goals (try first | omega | trivial | (rfl; done) | assumption | (exfalso; omega) | (split <;> first | omega | (rfl; done) | (exfalso; omega)))
  obtain ⟨τ, t1, t2⟩ := loop (p + 1).toNat 0 0 σ (by omega) (by omega) (by omega) (by omega) (fun a b _ => rfl) (fun b b0 b1 => by omega)
  refine ⟨τ, hn, ?_, t2⟩
  refine Ret.of 1 [some (aR 1), some (aI p), none, none, none, none] rfl (by decide) rfl (Nat.le_of_ble_eq_true rfl) ?_
  refine vX1_tangleOver 60 ?_
  simp only [↓S_X1_tangleOver_1, ↓S_X1_tangleOver_2, ↓pI_c, ↓pL_c, ↓pR_c, ↓pC_I, ↓pC_R, ↓pE_n, ↓gI_0, ↓gI_s, ↓gL_0, ↓gL_s, ↓gR_0, ↓gR_s, ↓popN_0, ↓popN_s, ↓kl_I, ↓kl_L, ↓kl_R, ↓kl_n, ↓put1_0, ↓put1_s, ↓putk_0, ↓putk_s, ↓put2_0, ↓put2_s, ↓putl_0, ↓putl_s, ↓callK_0, ↓callK_1, ↓callK_2, cats_n, cats_c, catA_I, catA_L, catA_R, KL, LV, lval_f, ltag_f, llen_f, lcm_lt, lcm_le, lcm_gt, lcm_ge, lcm_eq, lcm_R1, lcm_R2, inR, inL, true_and, and_true, eq_self, List.head?_cons, Option.some.injEq, Sum.inr.injEq, Sum.inl.injEq, false_or, or_false, true_or, or_true, Nat.reduceAdd, Nat.reduceLeDiff, Int.reduceLE, Int.reduceLT, Int.reduceEq, Int.reduceNeg, Int.reduceAdd, Int.reduceSub, Int.reduceMul, Int.reduceNe, ne_eq, not_false_eq_true, not_true_eq_false, false_implies, forall_const, Nat.le_refl, Nat.zero_le, implies_true, and_self]
  exact t1
/-- the tangle: no chain of chords that all are open behind a place is longer, and one is as long -/
def TanV (L : Int) (m : Int → Int) (v : Int) : Prop := (∀ p a l, 0 ≤ p → p < L → p < m p → Dn m (fun a => 0 ≤ a ∧ a ≤ p ∧ p < m a) a l → (l.length : Int) + 1 ≤ v) ∧ (v = 0 ∨ ∃ p a l, 0 ≤ p ∧ p < L ∧ p < m p ∧ Dn m (fun a => 0 ≤ a ∧ a ≤ p ∧ p < m a) a l ∧ (l.length : Int) + 1 = v)
set_option maxRecDepth 100000 in
theorem r_X1_tangle (D : Nat) (σ : Sg) (hw : WD (σ 1 0) (σ 7)) : ∃ v τ, TanV (σ 1 0) (σ 7) v ∧ inR v ∧ Ret (D + 2) miX1_tangle [aR 1] σ (some (aI v)) τ ∧ (∀ a b, a ≠ 11 → τ a b = σ a b) := by
  have w1 := hw.1
  have w2 := hw.2.1
  have loop : ∀ (k : Nat) (i mo : Int) (ρ : Sg), 0 ≤ i → i + k = σ 1 0 → 0 ≤ mo → mo ≤ 24 → (∀ a b, a ≠ 11 → ρ a b = σ a b) →
      (∀ p a l, 0 ≤ p → p < i → p < σ 7 p → Dn (σ 7) (fun a => 0 ≤ a ∧ a ≤ p ∧ p < σ 7 a) a l → (l.length : Int) + 1 ≤ mo) → (mo = 0 ∨ ∃ p a l, 0 ≤ p ∧ p < i ∧ p < σ 7 p ∧ Dn (σ 7) (fun a => 0 ≤ a ∧ a ≤ p ∧ p < σ 7 a) a l ∧ (l.length : Int) + 1 = mo) →
      ∃ v τ, TanV (σ 1 0) (σ 7) v ∧ inR v ∧ V (D + 1) miX1_tangle 1 (some (aI v)) τ 4 [some (aR 1), some (aI mo), some (aI i)] [] ρ ∧ (∀ a b, a ≠ 11 → τ a b = σ a b) := by
    intro k
    induction k with
    | zero =>
      intro i mo ρ i0 i1 m0 m1 hρ h1 h2
      have e : i = σ 1 0 := by omega
      subst e
      refine ⟨mo, ρ, ⟨h1, h2⟩, by omega, ?_, hρ⟩
      have e1 := hρ 1 0 (by decide)
      refine vX1_tangle 60 ?_
      simp only [↓S_X1_tangle, ↓pI_c, ↓pL_c, ↓pR_c, ↓pC_I, ↓pC_R, ↓pE_n, ↓gI_0, ↓gI_s, ↓gL_0, ↓gL_s, ↓gR_0, ↓gR_s, ↓popN_0, ↓popN_s, ↓kl_I, ↓kl_L, ↓kl_R, ↓kl_n, ↓put1_0, ↓put1_s, ↓putk_0, ↓putk_s, ↓put2_0, ↓put2_s, ↓putl_0, ↓putl_s, ↓callK_0, ↓callK_1, ↓callK_2, cats_n, cats_c, catA_I, catA_L, catA_R, KL, LV, lval_f, ltag_f, llen_f, lcm_lt, lcm_le, lcm_gt, lcm_ge, lcm_eq, lcm_R1, lcm_R2, inR, inL, true_and, and_true, eq_self, List.head?_cons, Option.some.injEq, Sum.inr.injEq, Sum.inl.injEq, false_or, or_false, true_or, or_true, Nat.reduceAdd, Nat.reduceLeDiff, Int.reduceLE, Int.reduceLT, Int.reduceEq, Int.reduceNeg, Int.reduceAdd, Int.reduceSub, Int.reduceMul, Int.reduceNe, ne_eq, not_false_eq_true, not_true_eq_false, false_implies, forall_const, Nat.le_refl, Nat.zero_le, implies_true, and_self]
      rw [e1]
      (repeat' (first | apply And.intro | intro _))
      all_goals (try first | omega | trivial | (rfl; done) | assumption | (exfalso; omega) | (split <;> first | omega | (rfl; done) | (exfalso; omega)))
    | succ k ih =>
      intro i mo ρ i0 i1 m0 m1 hρ h1 h2
      have e1 := hρ 1 0 (by decide)
      have e7 : ρ 7 = σ 7 := funext fun x => hρ 7 x (by decide)
      have hr := hw.r i0 (by omega)
      have hbg := r_X1_begins D ρ i i0 (by omega) (by rw [e7]; omega)
      rw [e7] at hbg
      by_cases c : i < σ 7 i
      · rw [if_pos c] at hbg
        obtain ⟨h, χ, t1, t2, t3⟩ := r_X1_tangleOver D ρ i (by rw [e1, e7]; exact hw) i0 (by omega)
        rw [e7] at t1 t2
        have hdp := t1.dp
        obtain ⟨f1, f2, f3⟩ := frm (Q := fun a => i < σ 7 a) (h := h) (i + 1).toNat 0 0
        generalize hv : fr (fun a mo => if i < σ 7 a then mx mo (h a) else mo) 0 (i + 1).toNat 0 = v at t2 f1 f2 f3
        have hub : ∀ a l, Dn (σ 7) (fun a => 0 ≤ a ∧ a ≤ i ∧ i < σ 7 a) a l → (l.length : Int) + 1 ≤ v := by
          intro a l hl
          have g1 := (hdp a hl.P).1 l hl
          have g2 := f2 a hl.P.1 (by have := hl.P.2.1; omega) hl.P.2.2
          omega
        have hex : v = 0 ∨ ∃ a l, Dn (σ 7) (fun a => 0 ≤ a ∧ a ≤ i ∧ i < σ 7 a) a l ∧ (l.length : Int) + 1 = v := by
          rcases f3 with e | ⟨a, a0, a1, a2, a3⟩
          · exact Or.inl e
          · obtain ⟨-, l, l1, l2⟩ := hdp a ⟨a0, by omega, a2⟩
            exact Or.inr ⟨a, l, l1, by omega⟩
        have hv24 : v ≤ 24 := by
          rcases hex with e | ⟨a, l, l1, l2⟩
          · omega
          · have := Dn.len (fun a ha => ha.1) l1
            have := l1.P
            omega
        have hmx : mx mo v = (if mo < v then v else mo) := rfl
        obtain ⟨v', τ, g1, g2, g3, g4⟩ := ih (i + 1) (mx mo v) χ (by omega) (by omega) (by unfold mx; split <;> omega) (by unfold mx; split <;> omega) (fun a b hh => by rw [t3 a b hh, hρ a b hh]) (fun p a l p0 p1 p2 hl => by
          by_cases q : p = i
          · subst q
            have := hub a l hl
            unfold mx
            split <;> omega
          · have := h1 p a l p0 (by omega) p2 hl
            unfold mx
            split <;> omega) (by
          unfold mx
          split
          · rcases hex with e | ⟨a, l, l1, l2⟩
            · exact Or.inl e
            · exact Or.inr ⟨i, a, l, i0, by omega, c, l1, l2⟩
          · rcases h2 with e | ⟨p, a, l, p0, p1, p2, l1, l2⟩
            · exact Or.inl e
            · exact Or.inr ⟨p, a, l, p0, by omega, p2, l1, l2⟩)
        refine ⟨v', τ, g1, g2, ?_, g4⟩
        refine vX1_tangle 60 ?_
        simp only [↓S_X1_tangle, ↓pI_c, ↓pL_c, ↓pR_c, ↓pC_I, ↓pC_R, ↓pE_n, ↓gI_0, ↓gI_s, ↓gL_0, ↓gL_s, ↓gR_0, ↓gR_s, ↓popN_0, ↓popN_s, ↓kl_I, ↓kl_L, ↓kl_R, ↓kl_n, ↓put1_0, ↓put1_s, ↓putk_0, ↓putk_s, ↓put2_0, ↓put2_s, ↓putl_0, ↓putl_s, ↓callK_0, ↓callK_1, ↓callK_2, cats_n, cats_c, catA_I, catA_L, catA_R, KL, LV, lval_f, ltag_f, llen_f, lcm_lt, lcm_le, lcm_gt, lcm_ge, lcm_eq, lcm_R1, lcm_R2, inR, inL, true_and, and_true, eq_self, List.head?_cons, Option.some.injEq, Sum.inr.injEq, Sum.inl.injEq, false_or, or_false, true_or, or_true, Nat.reduceAdd, Nat.reduceLeDiff, Int.reduceLE, Int.reduceLT, Int.reduceEq, Int.reduceNeg, Int.reduceAdd, Int.reduceSub, Int.reduceMul, Int.reduceNe, ne_eq, not_false_eq_true, not_true_eq_false, false_implies, forall_const, Nat.le_refl, Nat.zero_le, implies_true, and_self]
        rw [e1]
        refine ⟨by omega, by omega, fun q => by omega, fun q => ⟨_, _, hbg, by omega, fun q => by omega, fun q => ⟨_, _, t2, by omega, by omega, ?_⟩⟩⟩
        rw [hmx] at g3
        exact g3
      · rw [if_neg c] at hbg
        obtain ⟨v', τ, g1, g2, g3, g4⟩ := ih (i + 1) mo ρ (by omega) (by omega) m0 m1 hρ (fun p a l p0 p1 p2 hl => h1 p a l p0 (by
          apply Classical.byContradiction
          intro q
          have : p = i := by omega
          subst this
          exact c p2) p2 hl) (by
          rcases h2 with e | ⟨p, a, l, p0, p1, p2, l1, l2⟩
          · exact Or.inl e
          · exact Or.inr ⟨p, a, l, p0, by omega, p2, l1, l2⟩)
        refine ⟨v', τ, g1, g2, ?_, g4⟩
        refine vX1_tangle 60 ?_
        simp only [↓S_X1_tangle, ↓pI_c, ↓pL_c, ↓pR_c, ↓pC_I, ↓pC_R, ↓pE_n, ↓gI_0, ↓gI_s, ↓gL_0, ↓gL_s, ↓gR_0, ↓gR_s, ↓popN_0, ↓popN_s, ↓kl_I, ↓kl_L, ↓kl_R, ↓kl_n, ↓put1_0, ↓put1_s, ↓putk_0, ↓putk_s, ↓put2_0, ↓put2_s, ↓putl_0, ↓putl_s, ↓callK_0, ↓callK_1, ↓callK_2, cats_n, cats_c, catA_I, catA_L, catA_R, KL, LV, lval_f, ltag_f, llen_f, lcm_lt, lcm_le, lcm_gt, lcm_ge, lcm_eq, lcm_R1, lcm_R2, inR, inL, true_and, and_true, eq_self, List.head?_cons, Option.some.injEq, Sum.inr.injEq, Sum.inl.injEq, false_or, or_false, true_or, or_true, Nat.reduceAdd, Nat.reduceLeDiff, Int.reduceLE, Int.reduceLT, Int.reduceEq, Int.reduceNeg, Int.reduceAdd, Int.reduceSub, Int.reduceMul, Int.reduceNe, ne_eq, not_false_eq_true, not_true_eq_false, false_implies, forall_const, Nat.le_refl, Nat.zero_le, implies_true, and_self]
        rw [e1]
        refine ⟨by omega, by omega, fun q => by omega, fun q => ⟨_, _, hbg, ?_⟩⟩
        (repeat' (first | apply And.intro | intro _))
        all_goals (try first | omega | trivial | (rfl; done) | assumption | (exfalso; omega) | (split <;> first | omega | (rfl; done) | (exfalso; omega)))
  obtain ⟨v, τ, g1, g2, g3, g4⟩ := loop (σ 1 0).toNat 0 0 σ (by omega) (by omega) (by omega) (by omega) (fun a b _ => rfl) (fun p a l p0 p1 => by omega) (Or.inl rfl)
  refine ⟨v, τ, g1, g2, ?_, g4⟩
  refine Ret.of 1 [some (aR 1), none, none] rfl (by decide) rfl (Nat.le_of_ble_eq_true rfl) ?_
  refine vX1_tangle 60 ?_
  simp only [↓S_X1_tangle, ↓pI_c, ↓pL_c, ↓pR_c, ↓pC_I, ↓pC_R, ↓pE_n, ↓gI_0, ↓gI_s, ↓gL_0, ↓gL_s, ↓gR_0, ↓gR_s, ↓popN_0, ↓popN_s, ↓kl_I, ↓kl_L, ↓kl_R, ↓kl_n, ↓put1_0, ↓put1_s, ↓putk_0, ↓putk_s, ↓put2_0, ↓put2_s, ↓putl_0, ↓putl_s, ↓callK_0, ↓callK_1, ↓callK_2, cats_n, cats_c, catA_I, catA_L, catA_R, KL, LV, lval_f, ltag_f, llen_f, lcm_lt, lcm_le, lcm_gt, lcm_ge, lcm_eq, lcm_R1, lcm_R2, inR, inL, true_and, and_true, eq_self, List.head?_cons, Option.some.injEq, Sum.inr.injEq, Sum.inl.injEq, false_or, or_false, true_or, or_true, Nat.reduceAdd, Nat.reduceLeDiff, Int.reduceLE, Int.reduceLT, Int.reduceEq, Int.reduceNeg, Int.reduceAdd, Int.reduceSub, Int.reduceMul, Int.reduceNe, ne_eq, not_false_eq_true, not_true_eq_false, false_implies, forall_const, Nat.le_refl, Nat.zero_le, implies_true, and_self]
  exact g3

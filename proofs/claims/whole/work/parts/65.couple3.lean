/-! both sides together: folds -/
theorem St.sc {σ : Sg} (h : St σ) {a b : Int} (a0 : 0 ≤ a) (a1 : a < σ 4 0) (b0 : 0 ≤ b) (b1 : b < σ 4 0) : csc σ a b = msc σ a b ∧ cmj σ a b = mmj σ a b := by
  obtain ⟨hws, hwm, ⟨s1, s2, s3⟩, s4, s5⟩ := h
  have la := hws.2.1 a a0 a1
  have lb := hws.2.1 b b0 b1
  have e : csc σ a b = msc σ a b := by
    unfold csc msc
    rw [s4 a a0 a1, s4 b b0 b1, s5 _ _ la.1 la.2 lb.1 lb.2]
  refine ⟨e, ?_⟩
  unfold cmj mmj
  rw [e, s2]
theorem EQ.dpe {ρ : Sg} {n : Int} (h : ∀ x y, 0 ≤ x → x ≤ y → y ≤ n → EQ ρ x y) : DPE n (csc ρ) (cmj ρ) (ρ 4 2) (cT0 ρ) (cT1 ρ) (cW0 ρ) (cW1 ρ) := fun a e a0 ae en => h a e a0 ae en
theorem ME.dpe {τ : Sg} {n bn : Int} {sc : Int → Int → Int} {mj : Int → Int → Bool} (h : ∀ x y, 0 ≤ x → x ≤ y → y ≤ n → ME sc mj bn τ x y) : DPE n sc mj bn (mT0 τ) (mT1 τ) (mW0 τ) (mW1 τ) := fun a e a0 ae en => by
  obtain ⟨h0, h1, -⟩ := h a e a0 ae en
  exact ⟨fun q => ⟨(h0.1 q).1, (h1.1 q).1, (h0.1 q).2, (h1.1 q).2⟩, fun q => ⟨h0.2 q, h1.2 q⟩⟩
/-- nothing that is kept has changed -/
theorem Inv.fo {σ τ : Sg} (h : Inv σ) (e : ∀ x y, x = 0 ∨ x = 1 ∨ (3 ≤ x ∧ x < 16) ∨ x = 26 ∨ x = 27 ∨ x = 28 ∨ x = 29 ∨ (41 ≤ x ∧ x < 45) ∨ (170 ≤ x ∧ x < 210) → x ≠ 2 → τ x y = σ x y) : InvW τ :=
  ⟨h.1.w.tr fun x y hx => e x y (by omega) (by omega), h.2.1.tr fun x y hx => e x y (by omega) (by omega), h.2.2.1.tr ⟨e 0 3 (by omega) (by omega), e 0 4 (by omega) (by omega)⟩ (fun x y h1 h2 => e x y (by omega) (by omega)), h.2.2.2.tr fun x y hx => e x y (by omega) (by omega)⟩
theorem c_best {σ : Sg} (h : Inv σ) : CpI miX5_best miX6_best [] σ := by
  have hws := h.2.1.1
  have hn := hws.1
  obtain ⟨ρ, r5, f1, hE⟩ := r_X5_best 1 σ hws
  have hSt : St ρ := h.2.1.tr fun x y hx => f1 x y (by omega) (by omega)
  have e40 : ρ 4 0 = σ 4 0 := f1 4 0 (by omega) (by omega)
  obtain ⟨τ, r6, kl, hM⟩ := r_X6_best 1 ρ hSt.2.1
  rw [hSt.2.2.1.1, e40] at r6 hM
  rw [hSt.2.2.1.2.2] at hM
  have key := DPE.one (n := σ 4 0) (fun a b a0 a1 b0 b1 => hSt.sc a0 (by omega) b0 (by omega)) (EQ.dpe hE) (ME.dpe hM) 25 0 (σ 4 0) (by omega) (by omega) (by omega) (by omega)
  rw [← key.1] at r6
  have fr : ∀ x y, x ≠ 2 → ¬ (45 ≤ x ∧ x < 145) → x ≠ 35 → x ≠ 36 → x ≠ 37 → τ x y = σ x y := fun x y x1 x2 x3 x4 x5 => by rw [kl x y x3 x4 x5]; exact f1 x y x1 x2
  exact ⟨_, _, _, r5, r6, h.fo (fun x y x1 x2 => fr x y (by omega) (by omega) (by omega) (by omega) (by omega))⟩
theorem c_folds {σ : Sg} (h : Inv σ) {x : Int} (hx : inR x) : CpL miX5_folds miX6_folds [aI x] σ := by
  have hws := h.2.1.1
  have hn := hws.1
  by_cases c : x = 0 ∨ x = 1
  · by_cases c0 : x = 0
    · subst c0
      obtain ⟨ρ, r5, f1, hA⟩ := r_X5_folds0 1 σ hws
      have hSt : St ρ := h.2.1.tr fun x y hx => f1 x y (by omega)
      have e40 : ρ 4 0 = σ 4 0 := f1 4 0 (by omega)
      rcases r_X6_folds 1 ρ 0 hx hSt.2.1 with ⟨q, -⟩ | ⟨-, τ, r6, kl, hM⟩
      · omega
      rw [if_pos rfl] at r6
      rw [hSt.2.2.1.1, e40] at r6 hM
      have key := AEQ.one (n := σ 4 0) (mj := cmj σ) (mj' := mmj ρ) (A := fun x y => ρ (145 + x) y) (B := mA τ) (fun a b a0 a1 b0 b1 => by
        rw [← (hSt.sc a0 (by omega) b0 (by omega)).2]
        exact ((SE.sc (σ := σ) (χ := ρ) (fun x y hx => f1 x y (by omega)) hws a0 a1 b0 b1).2).symm) hA (fun a e a0 ae en => (hM a e a0 ae en).2.2) 25 0 (σ 4 0) (by omega) (by omega) (by omega) (by omega)
      rw [← key] at r6
      have fr : ∀ x y, ¬ (145 ≤ x ∧ x < 170) → x ≠ 35 → x ≠ 36 → x ≠ 37 → τ x y = σ x y := fun x y x1 x3 x4 x5 => by rw [kl x y x3 x4 x5]; exact f1 x y x1
      exact ⟨_, _, _, r5, r6, h.fo (fun x y x1 x2 => fr x y (by omega) (by omega) (by omega) (by omega))⟩
    · have c1 : x = 1 := by omega
      subst c1
      obtain ⟨ρ, r5, f1, hE⟩ := r_X5_folds1 1 σ hws
      have hSt : St ρ := h.2.1.tr fun x y hx => f1 x y (by omega) (by omega)
      have e40 : ρ 4 0 = σ 4 0 := f1 4 0 (by omega) (by omega)
      rcases r_X6_folds 1 ρ 1 hx hSt.2.1 with ⟨q, -⟩ | ⟨-, τ, r6, kl, hM⟩
      · omega
      rw [if_neg (by omega)] at r6
      rw [hSt.2.2.1.1, e40] at r6 hM
      rw [hSt.2.2.1.2.2] at hM
      have key := DPE.one (n := σ 4 0) (fun a b a0 a1 b0 b1 => hSt.sc a0 (by omega) b0 (by omega)) (EQ.dpe hE) (ME.dpe hM) 25 0 (σ 4 0) (by omega) (by omega) (by omega) (by omega)
      rw [← key.2.2.1] at r6
      have fr : ∀ x y, x ≠ 2 → ¬ (45 ≤ x ∧ x < 145) → x ≠ 35 → x ≠ 36 → x ≠ 37 → τ x y = σ x y := fun x y x1 x2 x3 x4 x5 => by rw [kl x y x3 x4 x5]; exact f1 x y x1 x2
      exact ⟨_, _, _, r5, r6, h.fo (fun x y x1 x2 => fr x y (by omega) (by omega) (by omega) (by omega) (by omega))⟩
  · have r5 := r_X5_folds2 1 σ x hx c
    rcases r_X6_folds 1 σ x hx h.2.1.2.1 with ⟨-, r6⟩ | ⟨q, -⟩
    · exact ⟨_, _, _, r5, r6, h.w⟩
    · exact absurd q c
theorem c_fold {σ : Sg} (h : Inv σ) : CpI miX5_fold miX6_fold [] σ := by
  have hws := h.2.1.1
  have hn := hws.1
  obtain ⟨ρ, χ, r5, hse, hE, f1, g1, w1, hG⟩ := r_X5_fold 1 σ hws
  have hSt : St χ := h.2.1.tr fun x y hx => f1 x y (by omega) (by omega) (by omega) (by omega) (by omega) (by omega)
  have e40 : χ 4 0 = σ 4 0 := f1 4 0 (by omega) (by omega) (by omega) (by omega) (by omega) (by omega)
  have e42 : ρ 4 2 = χ 4 2 := by rw [hse 4 2 (by omega)]; exact (f1 4 2 (by omega) (by omega) (by omega) (by omega) (by omega) (by omega)).symm
  obtain ⟨τ, r6, f2, g2, w2, hM, hG2⟩ := r_X6_fold 1 χ hSt.2.1
  rw [hSt.2.2.1.1, e40] at r6 hM hG2 w2 g2
  rw [hSt.2.2.1.2.2, ← e42] at hM hG2
  have hsc : ∀ a b, 0 ≤ a → a < σ 4 0 → 0 ≤ b → b < σ 4 0 → csc ρ a b = msc χ a b ∧ cmj ρ a b = mmj χ a b := fun a b a0 a1 b0 b1 => by
    have q1 := hse.sc hws a0 a1 b0 b1
    have q2 := SE.sc (σ := σ) (χ := χ) (fun x y hx => f1 x y (by omega) (by omega) (by omega) (by omega) (by omega) (by omega)) hws a0 a1 b0 b1
    have q3 := hSt.sc a0 (b := b) (by omega) b0 (by omega)
    rw [q1.1, q1.2, ← q2.1, ← q2.2, q3.1, q3.2]
    exact ⟨rfl, rfl⟩
  have key := fun a e a0 ae en => DPE.one (n := σ 4 0) hsc (EQ.dpe hE) (ME.dpe hM) 25 a e a0 ae en (by omega)
  have k0 := key 0 (σ 4 0) (by omega) (by omega) (by omega)
  rw [← k0.1] at r6
  obtain ⟨q1, hq1⟩ := hG
  obtain ⟨q2, hq2⟩ := hG2
  have em := Gf.one (n := σ 4 0) hsc (fun a e a0 ae en => ⟨(key a e a0 ae en).1, (key a e a0 ae en).2.1⟩) q1 q2 0 (σ 4 0) 0 (by omega) (by omega) (by omega) hq1 hq2
  have g7' : τ 7 = χ 7 := funext fun y => f2 7 y (by omega) (by omega) (by omega)
  have g10 : τ 1 0 = σ 4 0 := by rw [f2 1 0 (by omega) (by omega) (by omega)]; exact g1
  have fr : ∀ x y, x ≠ 2 → x ≠ 7 → x ≠ 16 → x ≠ 17 → ¬ (45 ≤ x ∧ x < 145) → ¬ (x = 1 ∧ y = 0) → x ≠ 26 → ¬ (35 ≤ x ∧ x ≤ 40) → ¬ (x = 6 ∧ y = 0) → τ x y = σ x y := fun x y x1 x2 x3 x4 x5 x6 x7 x8 x9 => by rw [f2 x y x7 x8 x9]; exact f1 x y x1 x2 x3 x4 x5 x6
  refine ⟨_, _, _, r5, r6, ⟨by rw [g2, g10], fun a a0 a1 => ?_, by rw [g10, g7']; exact w1⟩, h.2.1.tr fun x y hx => fr x y (by omega) (by omega) (by omega) (by omega) (by omega) (by omega) (by omega) (by omega) (by omega), h.2.2.1.tr ⟨fr 0 3 (by omega) (by omega) (by omega) (by omega) (by omega) (by omega) (by omega) (by omega) (by omega), fr 0 4 (by omega) (by omega) (by omega) (by omega) (by omega) (by omega) (by omega) (by omega) (by omega)⟩ (fun x y h1 h2 => fr x y (by omega) (by omega) (by omega) (by omega) (by omega) (by omega) (by omega) (by omega) (by omega)), h.2.2.2.tr fun x y hx => fr x y (by omega) (by omega) (by omega) (by omega) (by omega) (by omega) (by omega) (by omega) (by omega)⟩
  rw [g7']
  by_cases q : a < σ 4 0
  · exact (em a a0 q).symm
  · rw [w1.2.2.2 a (by omega) a1, w2.2.2.2 a (by omega) a1]
theorem c_judge {σ : Sg} (h : Inv σ) : CpI miX5_judge miX6_judge [] σ := by
  obtain ⟨d1, d2, d3⟩ := h.1
  have hSt := h.2.1
  obtain ⟨z, r5, hz⟩ := r_X5_judge 1 σ hSt.1 d3
  obtain ⟨z2, r6, hz2⟩ := r_X6_judge 3 σ hSt.2.1 (by rw [d1, d2]; exact d3)
  rw [d1, d2, hSt.2.2.1.1, hSt.2.2.1.2.2] at hz2
  rw [judge_eq d3] at hz2
  have ok : σ 1 0 = σ 4 0 → (okF (mmj σ) (σ 1 0) (σ 7) ↔ okF (cmj σ) (σ 1 0) (σ 7)) := fun eL => by
    have e : ∀ a, 0 ≤ a → a < σ 1 0 → a < σ 7 a → mmj σ a (σ 7 a) = cmj σ a (σ 7 a) := fun a a0 a1 a2 => by
      have hb : σ 7 a < σ 1 0 := by rcases d3.2.2.1 a a0 a1 with q | q <;> omega
      exact (hSt.sc a0 (by omega) (by omega) (by omega)).2.symm
    exact ⟨fun q a a0 a1 a2 => by rw [← e a a0 a1 a2]; exact q a a0 a1 a2, fun q a a0 a1 a2 => by rw [e a a0 a1 a2]; exact q a a0 a1 a2⟩
  have ez : z2 = z := by
    rcases hz with ⟨q1, q2, q3, q4⟩ | ⟨q1, q2⟩
    · rcases hz2 with ⟨p1, p2, p3, p4⟩ | ⟨p1, p2⟩
      · rw [p1, q1]
        congr 1
        refine rs_congr _ _ (fun a a0 a1 => ?_)
        show (if a < σ 7 a then msc σ a (σ 7 a) else 0) = (if a < σ 7 a then csc σ a (σ 7 a) else 0)
        by_cases c : a < σ 7 a
        · have w1 := d3.1
          have hb : σ 7 a < σ 1 0 := by rcases d3.2.2.1 a a0 (by omega) with q | q <;> omega
          rw [if_pos c, if_pos c, (hSt.sc a0 (show a < σ 4 0 by omega) (show 0 ≤ σ 7 a by omega) (by omega)).1]
        · rw [if_neg c, if_neg c]
      · exact absurd ⟨q2, q3, (ok q2).2 q4⟩ p2
    · rcases hz2 with ⟨p1, p2, p3, p4⟩ | ⟨p1, p2⟩
      · exact absurd ⟨p2, p3, (ok p2).1 p4⟩ q2
      · rw [p1, q1]
  rw [ez] at r6
  exact ⟨_, _, _, r5, r6, h.w⟩

/-! both sides together: signs and strands -/
theorem c_sign {σ : Sg} (h : Inv σ) {v : Int} (hv : inR v) : CpI miX5_sign miX6_sign [aI v] σ := by
  obtain ⟨n, n3, n6, hS⟩ := h.2.2.2
  have hO := hS.O
  have hn := hS.1
  have op : ∀ ρ : Sg, (∀ y, ρ 6 y = σ 6 y) → (∀ y, ρ 27 y = σ 27 y) → Ret 5 miX6_open [aR 6] ρ (some (aI (σ 3 1))) ρ := fun ρ e6 e27 => by
    have e27' : ρ 27 = σ 27 := funext e27
    have o := r_X6_open 4 ρ (by rw [e6, n6]; omega) (by rw [e6, n6]; omega) (fun i i0 i1 => by
      rw [e27]
      rw [e6, n6] at i1
      obtain ⟨j, rfl⟩ := Int.eq_ofNat_of_zero_le i0
      rcases hS.2.2.1 j (by omega) with q | q <;> omega)
    rw [e6, n6, e27', show ((n : Int)).toNat = n from by omega, ← hS.2.1] at o
    exact o
  by_cases c : σ 3 0 < 24 ∧ 1 ≤ v ∧ (v = 1 ∨ v - 2 < σ 3 1)
  · have fin : ∀ ρ : Sg, Ret 5 miX3_take [aR 3, aI v] σ none ρ → (∀ a b, a ≠ 3 → a ≠ 12 → a ≠ 13 → ρ a b = σ a b) → ρ 3 0 = σ 3 0 + 1 → (∀ s' : Int → Int, (∀ x, x ≠ (n : Int) → s' x = σ 27 x) → s' n = v → SI (n + 1) (ρ 3 1) s' (ρ 13) (ρ 12)) → CpI miX5_sign miX6_sign [aI v] σ := by
      intro ρ tk f1 e30 hSI
      have r5 := r_X5_sign 4 σ ρ v hv (by omega) (by omega) (by omega) (by omega) c tk
      have e62 : ρ 6 2 = n := by rw [f1 6 2 (by omega) (by omega) (by omega)]; exact n6
      have r6 := r_X6_sign 4 ρ v (σ 3 1) hv (by omega) (by omega) (by omega) (op ρ (fun y => f1 6 y (by omega) (by omega) (by omega)) (fun y => f1 27 y (by omega) (by omega) (by omega))) (by rw [e62, ← n3]; exact c)
      rw [e30, n3] at r5
      rw [e62] at r6
      have fr : ∀ x y, x ≠ 3 → x ≠ 12 → x ≠ 13 → x ≠ 27 → ¬ (x = 6 ∧ y = 2) → up (up ρ 27 n v) 6 2 ((n : Int) + 1) x y = σ x y := fun x y x1 x2 x3 x4 x5 => by
        rw [up_o x5, up_o (by omega)]
        exact f1 x y x1 x2 x3
      refine ⟨_, _, _, r5, r6, h.1.w.tr fun x y hx => fr x y (by omega) (by omega) (by omega) (by omega) (by omega), h.2.1.tr fun x y hx => fr x y (by omega) (by omega) (by omega) (by omega) (by omega), h.2.2.1.tr ⟨fr 0 3 (by omega) (by omega) (by omega) (by omega) (by omega), fr 0 4 (by omega) (by omega) (by omega) (by omega) (by omega)⟩ (fun x y h1 h2 => fr x y (by omega) (by omega) (by omega) (by omega) (by omega)), n + 1, ?_, ?_, ?_⟩
      · rw [up_o (by omega), up_o (by omega), e30, n3]
        rfl
      · rw [up_e]
        rfl
      · have e13 : (up (up ρ 27 n v) 6 2 ((n : Int) + 1)) 13 = ρ 13 := funext fun y => by rw [up_o (by omega), up_o (by omega)]
        have e12 : (up (up ρ 27 n v) 6 2 ((n : Int) + 1)) 12 = ρ 12 := funext fun y => by rw [up_o (by omega), up_o (by omega)]
        have e31 : (up (up ρ 27 n v) 6 2 ((n : Int) + 1)) 3 1 = ρ 3 1 := by rw [up_o (by omega), up_o (by omega)]
        rw [e13, e12, e31]
        refine hSI _ (fun x hx => ?_) ?_
        · rw [up_o (by omega), up_o (by omega)]
          exact f1 27 x (by omega) (by omega) (by omega)
        · rw [up_o (by omega), up_e]
    by_cases c1 : v = 1
    · subst c1
      obtain ⟨ρ, tk, f1, e30, e31, e13, e12⟩ := r_X3_take1 4 σ (by omega) (by omega) (by omega) (by omega)
      refine fin ρ tk f1 e30 (fun s' hs' hsn => ?_)
      rw [e31]
      exact hS.t1 (by omega) (fun x x0 x1 => ⟨hs' x (by omega), by rw [e13, if_neg (by omega)]⟩) hsn (by rw [e13, if_pos n3.symm]) (fun t t0 t1 => by rw [e12, if_neg (by omega)]) (by rw [e12, if_pos rfl]; exact n3)
    · obtain ⟨ρ, tk, f1, e30, e31, e13, e12⟩ := r_X3_take2 4 σ v (by omega) (by omega) (by omega) (by omega) (by omega)
      refine fin ρ tk f1 e30 (fun s' hs' hsn => ?_)
      rw [e31]
      exact hS.t2 (v := v) (by omega) (by omega) (by omega) (fun x x0 x1 => ⟨hs' x (by omega), by rw [e13, if_neg (by omega)]⟩) hsn (by rw [e13, if_pos n3.symm]) (fun t t0 t1 => e12 t t0 t1)
  · have r5 := r_X5_sign_bad 4 σ v hv (by omega) (by omega) (by omega) (by omega) c
    have r6 := r_X6_sign_bad 4 σ v (σ 3 1) hv (by omega) (by omega) (by omega) (op σ (fun _ => rfl) (fun _ => rfl)) (by rw [n6, ← n3]; exact c)
    exact ⟨_, _, _, r5, r6, h.w⟩
theorem c_draw {σ : Sg} (h : Inv σ) : CpI miX5_draw miX6_draw [] σ := by
  obtain ⟨n, n3, n6, hS⟩ := h.2.2.2
  have hO := hS.O
  have hn := hS.1
  have op : ∀ ρ : Sg, (∀ y, ρ 6 y = σ 6 y) → (∀ y, ρ 27 y = σ 27 y) → Ret 5 miX6_open [aR 6] ρ (some (aI (σ 3 1))) ρ := fun ρ e6 e27 => by
    have e27' : ρ 27 = σ 27 := funext e27
    have o := r_X6_open 4 ρ (by rw [e6, n6]; omega) (by rw [e6, n6]; omega) (fun i i0 i1 => by
      rw [e27]
      rw [e6, n6] at i1
      obtain ⟨j, rfl⟩ := Int.eq_ofNat_of_zero_le i0
      rcases hS.2.2.1 j (by omega) with q | q <;> omega)
    rw [e6, n6, e27', show ((n : Int)).toNat = n from by omega, ← hS.2.1] at o
    exact o
  by_cases c : 0 < σ 3 1
  · exact ⟨_, _, _, r_X5_draw_not 5 σ c (by omega), r_X6_draw_not 4 σ (σ 3 1) (by omega) c (op σ (fun _ => rfl) (fun _ => rfl)), h.w⟩
  · have c0 : σ 3 1 = 0 := by omega
    rw [c0] at hS
    obtain ⟨ρ, r5, f1, g1, g3, w1, m1⟩ := r_X5_draw 2 σ n (σ 27) n3 c0 hS
    have o := op ρ (fun y => f1 6 y (by omega) (by omega) (by omega)) (fun y => f1 27 y (by omega) (by omega) (by omega))
    rw [c0] at o
    have e27 : ρ 27 = σ 27 := funext fun y => f1 27 y (by omega) (by omega) (by omega)
    obtain ⟨τ, r6, f2, g2, g4, m2⟩ := r_X6_draw 4 ρ n (σ 13) (σ 12) (by rw [f1 6 2 (by omega) (by omega) (by omega)]; exact n6) (by rw [e27]; exact hS) o
    have fr : ∀ x y, x ≠ 7 → ¬ (x = 1 ∧ y = 0) → ¬ (x = 3 ∧ y = 0) → x ≠ 26 → ¬ (x = 6 ∧ y = 0) → ¬ (x = 6 ∧ y = 2) → τ x y = σ x y := fun x y x1 x2 x3 x4 x5 x6 => by rw [f2 x y x4 x5 x6]; exact f1 x y x1 x2 x3
    have g7' : τ 7 = ρ 7 := funext fun y => f2 7 y (by omega) (by omega) (by omega)
    have g10 : τ 1 0 = n := by rw [f2 1 0 (by omega) (by omega) (by omega)]; exact g1
    refine ⟨_, _, _, r5, r6, ⟨by rw [g2, g10], fun a a0 a1 => by rw [g7', m1 a a0 a1, m2 a a0 a1], by rw [g10, g7']; exact w1⟩, h.2.1.tr fun x y hx => fr x y (by omega) (by omega) (by omega) (by omega) (by omega) (by omega), h.2.2.1.tr ⟨fr 0 3 (by omega) (by omega) (by omega) (by omega) (by omega) (by omega), fr 0 4 (by omega) (by omega) (by omega) (by omega) (by omega) (by omega)⟩ (fun x y h1 h2 => fr x y (by omega) (by omega) (by omega) (by omega) (by omega) (by omega)), 0, by rw [f2 3 0 (by omega) (by omega) (by omega), g3]; rfl, g4, ?_⟩
    rw [fr 3 1 (by omega) (by omega) (by omega) (by omega) (by omega) (by omega), c0]
    exact SI.nil _ _ _
theorem c_count {σ : Sg} (h : Inv σ) {k : Int} (hk : inR k) : CpI miX5_count miX6_count [aI k] σ := by
  obtain ⟨n, n3, n6, hS⟩ := h.2.2.2
  have hn := hS.1
  by_cases c : 0 ≤ k ∧ k ≤ 3
  · rcases (show k = 0 ∨ k = 1 ∨ k = 2 ∨ k = 3 by omega) with rfl | rfl | rfl | rfl
    · have r6 := r_X6_count0 5 σ
      rw [h.1.1] at r6
      exact ⟨_, _, _, r_X5_count0 5 σ, r6, h.w⟩
    · have r6 := r_X6_count1 5 σ
      rw [h.2.1.2.2.1.1] at r6
      exact ⟨_, _, _, r_X5_count1 5 σ, r6, h.w⟩
    · have r6 := r_X6_count2 5 σ
      rw [n6, ← n3] at r6
      exact ⟨_, _, _, r_X5_count2 5 σ, r6, h.w⟩
    · have o := r_X6_open 4 σ (by rw [n6]; omega) (by rw [n6]; omega) (fun i i0 i1 => by
        rw [n6] at i1
        obtain ⟨j, rfl⟩ := Int.eq_ofNat_of_zero_le i0
        rcases hS.2.2.1 j (by omega) with q | q <;> omega)
      rw [n6, show ((n : Int)).toNat = n from by omega, ← hS.2.1] at o
      exact ⟨_, _, _, r_X5_count3 5 σ, r_X6_count3 5 σ _ o, h.w⟩
  · exact ⟨_, _, _, r_X5_count_bad 5 σ k hk c, r_X6_count_bad 5 σ k hk c, h.w⟩
/-- all but the strand is as it was -/
theorem Inv.st {σ τ : Sg} (h : Inv σ) (hd : St τ) (e : ∀ x y, x ≠ 4 → x ≠ 14 → x ≠ 28 → x ≠ 29 → ¬ (41 ≤ x ∧ x < 45) → ¬ (x = 6 ∧ (y = 4 ∨ y = 7 ∨ y = 8)) → τ x y = σ x y) : InvW τ :=
  ⟨h.1.w.tr fun x y hx => e x y (by omega) (by omega) (by omega) (by omega) (by omega) (by omega), hd, h.2.2.1.tr ⟨e 0 3 (by omega) (by omega) (by omega) (by omega) (by omega) (by omega), e 0 4 (by omega) (by omega) (by omega) (by omega) (by omega) (by omega)⟩ (fun x y h1 h2 => e x y (by omega) (by omega) (by omega) (by omega) (by omega) (by omega)), h.2.2.2.tr fun x y hx => e x y (by omega) (by omega) (by omega) (by omega) (by omega) (by omega)⟩
theorem c_letter {σ : Sg} (h : Inv σ) {x : Int} (hx : inR x) : CpI miX5_letter miX6_letter [aI x] σ := by
  obtain ⟨hws, hwm, ⟨s1, s2, s3⟩, s4, s5⟩ := h.2.1
  have hn := hws.1
  have r5 := r_X5_letter 4 σ x hx hn.1 hn.2
  by_cases c : 0 ≤ x ∧ x < 4 ∧ σ 4 0 < 24
  · rw [if_pos (by omega), if_pos (by omega), if_pos c] at r5
    have e64 : (up (up σ 14 (σ 4 0) x) 4 0 (σ 4 0 + 1)) 6 4 = σ 4 0 := by rw [up_o (by omega), up_o (by omega)]; exact s1
    have r6 := r_X6_letter 4 (up (up σ 14 (σ 4 0) x) 4 0 (σ 4 0 + 1)) x hx (by rw [e64]; exact hn.1) (by rw [e64]; exact hn.2)
    rw [e64, if_pos (by omega), if_pos (by omega), if_pos c] at r6
    generalize hτ : up (up (up (up σ 14 (σ 4 0) x) 4 0 (σ 4 0 + 1)) 28 (σ 4 0) x) 6 4 (σ 4 0 + 1) = τ at r6
    have fr : ∀ a b, ¬ (a = 14 ∧ b = σ 4 0) → ¬ (a = 4 ∧ b = 0) → ¬ (a = 28 ∧ b = σ 4 0) → ¬ (a = 6 ∧ b = 4) → τ a b = σ a b := fun a b a1 a2 a3 a4 => by rw [← hτ, up_o a4, up_o a3, up_o a2, up_o a1]
    have t4 : τ 4 0 = σ 4 0 + 1 := by rw [← hτ, up_o (by omega), up_o (by omega), up_e]
    have t6 : τ 6 4 = σ 4 0 + 1 := by rw [← hτ, up_e]
    have t14 : τ 14 (σ 4 0) = x := by rw [← hτ, up_o (by omega), up_o (by omega), up_o (by omega), up_e]
    have t28 : τ 28 (σ 4 0) = x := by rw [← hτ, up_o (by omega), up_e]
    refine ⟨_, _, _, r5, r6, h.st ⟨⟨by omega, fun i i0 i1 => ?_, ?_, ?_, fun a b a0 a1 b0 b1 => ?_⟩, ⟨by omega, fun i i0 i1 => ?_, ?_, ?_, fun a a0 a1 => ?_⟩, ⟨by omega, ?_, ?_⟩, fun i i0 i1 => ?_, fun a b a0 a1 b0 b1 => ?_⟩ (fun a b a1 a2 a3 a4 a5 a6 => fr a b (by omega) (by omega) (by omega) (by omega))⟩
    · by_cases q : i = σ 4 0
      · rw [q, t14]; omega
      · rw [fr 14 i (by omega) (by omega) (by omega) (by omega)]; exact hws.2.1 i i0 (by omega)
    · rw [fr 4 1 (by omega) (by omega) (by omega) (by omega)]; exact hws.2.2.1
    · rw [fr 4 2 (by omega) (by omega) (by omega) (by omega)]; exact hws.2.2.2.1
    · rw [fr (41 + a) b (by omega) (by omega) (by omega) (by omega)]; exact hws.2.2.2.2 a b a0 a1 b0 b1
    · by_cases q : i = σ 4 0
      · rw [q, t28]; omega
      · rw [fr 28 i (by omega) (by omega) (by omega) (by omega)]; exact hwm.2.1 i i0 (by omega)
    · rw [fr 6 7 (by omega) (by omega) (by omega) (by omega)]; exact hwm.2.2.1
    · rw [fr 6 8 (by omega) (by omega) (by omega) (by omega)]; exact hwm.2.2.2.1
    · rw [fr 29 a (by omega) (by omega) (by omega) (by omega)]; exact hwm.2.2.2.2 a a0 a1
    · rw [fr 6 7 (by omega) (by omega) (by omega) (by omega), fr 4 1 (by omega) (by omega) (by omega) (by omega)]; exact s2
    · rw [fr 6 8 (by omega) (by omega) (by omega) (by omega), fr 4 2 (by omega) (by omega) (by omega) (by omega)]; exact s3
    · by_cases q : i = σ 4 0
      · rw [q, t28, t14]
      · rw [fr 28 i (by omega) (by omega) (by omega) (by omega), fr 14 i (by omega) (by omega) (by omega) (by omega)]; exact s4 i i0 (by omega)
    · rw [fr 29 _ (by omega) (by omega) (by omega) (by omega), fr (41 + a) b (by omega) (by omega) (by omega) (by omega)]; exact s5 a b a0 a1 b0 b1
  · rw [if_neg c] at r5
    have r6 := r_X6_letter 4 σ x hx (by rw [s1]; exact hn.1) (by rw [s1]; exact hn.2)
    rw [s1, if_neg c] at r6
    exact ⟨_, _, _, r5, r6, h.w⟩
theorem c_wipe {σ : Sg} (h : Inv σ) : CpI miX5_wipe miX6_wipe [] σ := by
  obtain ⟨hws, hwm, ⟨s1, s2, s3⟩, s4, s5⟩ := h.2.1
  have r5 := r_X5_wipe 5 σ
  have r6 := r_X6_wipe 5 (up σ 4 0 0)
  rw [up_o (by omega), s1] at r6
  generalize hτ : up (up σ 4 0 0) 6 4 0 = τ at r6
  have fr : ∀ a b, ¬ (a = 4 ∧ b = 0) → ¬ (a = 6 ∧ b = 4) → τ a b = σ a b := fun a b a1 a2 => by rw [← hτ, up_o a2, up_o a1]
  have t4 : τ 4 0 = 0 := by rw [← hτ, up_o (by omega), up_e]
  have t6 : τ 6 4 = 0 := by rw [← hτ, up_e]
  refine ⟨_, _, _, r5, r6, h.st ⟨⟨by omega, fun i i0 i1 => by omega, ?_, ?_, fun a b a0 a1 b0 b1 => ?_⟩, ⟨by omega, fun i i0 i1 => by omega, ?_, ?_, fun a a0 a1 => ?_⟩, ⟨by omega, ?_, ?_⟩, fun i i0 i1 => by omega, fun a b a0 a1 b0 b1 => ?_⟩ (fun a b a1 a2 a3 a4 a5 a6 => fr a b (by omega) (by omega))⟩
  · rw [fr 4 1 (by omega) (by omega)]; exact hws.2.2.1
  · rw [fr 4 2 (by omega) (by omega)]; exact hws.2.2.2.1
  · rw [fr (41 + a) b (by omega) (by omega)]; exact hws.2.2.2.2 a b a0 a1 b0 b1
  · rw [fr 6 7 (by omega) (by omega)]; exact hwm.2.2.1
  · rw [fr 6 8 (by omega) (by omega)]; exact hwm.2.2.2.1
  · rw [fr 29 a (by omega) (by omega)]; exact hwm.2.2.2.2 a a0 a1
  · rw [fr 6 7 (by omega) (by omega), fr 4 1 (by omega) (by omega)]; exact s2
  · rw [fr 6 8 (by omega) (by omega), fr 4 2 (by omega) (by omega)]; exact s3
  · rw [fr 29 _ (by omega) (by omega), fr (41 + a) b (by omega) (by omega)]; exact s5 a b a0 a1 b0 b1
theorem c_score {σ : Sg} (h : Inv σ) {x y v : Int} (hx : inR x) (hy : inR y) (hv : inR v) : CpI miX5_score miX6_score [aI x, aI y, aI v] σ := by
  obtain ⟨hws, hwm, ⟨s1, s2, s3⟩, s4, s5⟩ := h.2.1
  rcases r_X5_score 4 σ x y v hx hy hv with ⟨q, r5⟩ | ⟨q, r5⟩
  · rcases r_X6_score 4 σ x y v hx hy hv with ⟨p, r6⟩ | ⟨p, r6⟩
    · exact ⟨_, _, _, r5, r6, h.w⟩
    · exact absurd p q
  · rcases r_X6_score 4 (up (up σ (41 + x) y v) (41 + y) x v) x y v hx hy hv with ⟨p, r6⟩ | ⟨p, r6⟩
    · exact absurd q p
    · rw [up_o (by omega), up_o (by omega), s5 x y (by omega) (by omega) (by omega) (by omega)] at r6
      generalize hτ : up (up (up (up σ (41 + x) y v) (41 + y) x v) 29 (4 * x + y) v) 29 (4 * y + x) v = τ at r6
      have fr : ∀ a b, ¬ (a = 29 ∧ (b = 4 * x + y ∨ b = 4 * y + x)) → ¬ (a = 41 + x ∧ b = y) → ¬ (a = 41 + y ∧ b = x) → τ a b = σ a b := fun a b a1 a2 a3 => by rw [← hτ, up_o (by omega), up_o (by omega), up_o a3, up_o a2]
      have t29 : ∀ b, (b = 4 * x + y ∨ b = 4 * y + x) → τ 29 b = v := fun b hb => by
        rw [← hτ]
        by_cases c : b = 4 * y + x
        · rw [c, up_e]
        · rw [up_o (by omega), show b = 4 * x + y from by omega, up_e]
      have t41 : ∀ a b, (a = 41 + x ∧ b = y) ∨ (a = 41 + y ∧ b = x) → τ a b = v := fun a b hb => by
        rw [← hτ, up_o (by omega), up_o (by omega)]
        by_cases c : a = 41 + y ∧ b = x
        · rw [c.1, c.2, up_e]
        · rw [up_o c]
          rcases hb with hb | hb
          · rw [hb.1, hb.2, up_e]
          · exact absurd hb c
      refine ⟨_, _, _, r5, r6, h.st ⟨⟨?_, fun i i0 i1 => ?_, ?_, ?_, fun a b a0 a1 b0 b1 => ?_⟩, ⟨?_, fun i i0 i1 => ?_, ?_, ?_, fun a a0 a1 => ?_⟩, ⟨?_, ?_, ?_⟩, fun i i0 i1 => ?_, fun a b a0 a1 b0 b1 => ?_⟩ (fun a b a1 a2 a3 a4 a5 a6 => fr a b (by omega) (by omega) (by omega))⟩
      · rw [fr 4 0 (by omega) (by omega) (by omega)]; exact hws.1
      · rw [fr 4 0 (by omega) (by omega) (by omega)] at i1
        rw [fr 14 i (by omega) (by omega) (by omega)]; exact hws.2.1 i i0 i1
      · rw [fr 4 1 (by omega) (by omega) (by omega)]; exact hws.2.2.1
      · rw [fr 4 2 (by omega) (by omega) (by omega)]; exact hws.2.2.2.1
      · by_cases c : (41 + a = 41 + x ∧ b = y) ∨ (41 + a = 41 + y ∧ b = x)
        · rw [t41 _ _ c]; omega
        · rw [fr (41 + a) b (by omega) (by omega) (by omega)]; exact hws.2.2.2.2 a b a0 a1 b0 b1
      · rw [fr 6 4 (by omega) (by omega) (by omega)]; exact hwm.1
      · rw [fr 6 4 (by omega) (by omega) (by omega)] at i1
        rw [fr 28 i (by omega) (by omega) (by omega)]; exact hwm.2.1 i i0 i1
      · rw [fr 6 7 (by omega) (by omega) (by omega)]; exact hwm.2.2.1
      · rw [fr 6 8 (by omega) (by omega) (by omega)]; exact hwm.2.2.2.1
      · by_cases c : a = 4 * x + y ∨ a = 4 * y + x
        · rw [t29 a c]; omega
        · rw [fr 29 a (by omega) (by omega) (by omega)]; exact hwm.2.2.2.2 a a0 a1
      · rw [fr 6 4 (by omega) (by omega) (by omega), fr 4 0 (by omega) (by omega) (by omega)]; exact s1
      · rw [fr 6 7 (by omega) (by omega) (by omega), fr 4 1 (by omega) (by omega) (by omega)]; exact s2
      · rw [fr 6 8 (by omega) (by omega) (by omega), fr 4 2 (by omega) (by omega) (by omega)]; exact s3
      · rw [fr 4 0 (by omega) (by omega) (by omega)] at i1
        rw [fr 28 i (by omega) (by omega) (by omega), fr 14 i (by omega) (by omega) (by omega)]; exact s4 i i0 i1
      · by_cases c : (41 + a = 41 + x ∧ b = y) ∨ (41 + a = 41 + y ∧ b = x)
        · rw [t41 _ _ c, t29 _ (by omega)]
        · rw [fr (41 + a) b (by omega) (by omega) (by omega), fr 29 _ (by omega) (by omega) (by omega)]; exact s5 a b a0 a1 b0 b1
theorem c_set {σ : Sg} (h : Inv σ) {x v : Int} (hx : inR x) (hv : inR v) : CpI miX5_set miX6_set [aI x, aI v] σ := by
  obtain ⟨hws, hwm, ⟨s1, s2, s3⟩, s4, s5⟩ := h.2.1
  have key : ∀ (ρ τ : Sg) (g b : Int), (∀ a c, ¬ (a = 4 ∧ (c = 1 ∨ c = 2)) → ¬ (a = 6 ∧ (c = 7 ∨ c = 8)) → τ a c = σ a c) → τ 4 1 = g → τ 6 7 = g → τ 4 2 = b → τ 6 8 = b → 0 ≤ g → g ≤ 8 → -20 ≤ b → b ≤ 20 → InvW τ := by
    intro ρ τ g b fr e1 e2 e3 e4 g0 g1 b0 b1
    refine h.st ⟨⟨?_, fun i i0 i1 => ?_, by omega, by omega, fun a b a0 a1 b0 b1 => ?_⟩, ⟨?_, fun i i0 i1 => ?_, by omega, by omega, fun a a0 a1 => ?_⟩, ⟨?_, by omega, by omega⟩, fun i i0 i1 => ?_, fun a b a0 a1 b0 b1 => ?_⟩ (fun a b a1 a2 a3 a4 a5 a6 => fr a b (by omega) (by omega))
    · rw [fr 4 0 (by omega) (by omega)]; exact hws.1
    · rw [fr 4 0 (by omega) (by omega)] at i1
      rw [fr 14 i (by omega) (by omega)]; exact hws.2.1 i i0 i1
    · rw [fr (41 + a) b (by omega) (by omega)]; exact hws.2.2.2.2 a b a0 a1 b0 b1
    · rw [fr 6 4 (by omega) (by omega)]; exact hwm.1
    · rw [fr 6 4 (by omega) (by omega)] at i1
      rw [fr 28 i (by omega) (by omega)]; exact hwm.2.1 i i0 i1
    · rw [fr 29 a (by omega) (by omega)]; exact hwm.2.2.2.2 a a0 a1
    · rw [fr 6 4 (by omega) (by omega), fr 4 0 (by omega) (by omega)]; exact s1
    · rw [fr 4 0 (by omega) (by omega)] at i1
      rw [fr 28 i (by omega) (by omega), fr 14 i (by omega) (by omega)]; exact s4 i i0 i1
    · rw [fr (41 + a) b (by omega) (by omega), fr 29 _ (by omega) (by omega)]; exact s5 a b a0 a1 b0 b1
  obtain ⟨z, ρ, r5, q⟩ := r_X5_set 4 σ x v hx hv
  obtain ⟨z2, τ, r6, p⟩ := r_X6_set 4 ρ x v hx hv
  have hg := hws.2.2.1
  have hbn := hws.2.2.2.1
  rcases q with ⟨q1, q2, q3, q4, q5⟩ | ⟨q1, q2, q3, q4, q5⟩ | ⟨q1, q2, q4, q5⟩
  · rcases p with ⟨p1, p2, p3, p4, p5⟩ | ⟨p1, p2, p3, p4, p5⟩ | ⟨p1, p2, p4, p5⟩
    · have ez : z2 = z := by rw [p4, q4, q5, up_o (by omega), s2]
      rw [ez] at r6
      have e68 : ρ 6 8 = σ 6 8 := by rw [q5, up_o (by omega)]
      refine ⟨_, _, _, r5, r6, key ρ τ v (σ 4 2) (fun a c a1 a2 => ?_) ?_ ?_ ?_ ?_ q2 q3 hbn.1 hbn.2⟩
      · rw [p5, up_o (by omega), up_o (by omega), q5, up_o (by omega)]
      · rw [p5, up_o (by omega), up_o (by omega), q5, up_e]
      · rw [p5, up_o (by omega), up_e]
      · rw [p5, up_o (by omega), up_o (by omega), q5, up_o (by omega)]
      · rw [p5, up_e, e68, s3]
    · omega
    · omega
  · rcases p with ⟨p1, p2, p3, p4, p5⟩ | ⟨p1, p2, p3, p4, p5⟩ | ⟨p1, p2, p4, p5⟩
    · omega
    · have ez : z2 = z := by rw [p4, q4, q5, up_o (by omega), s3]
      rw [ez] at r6
      have e67 : ρ 6 7 = σ 6 7 := by rw [q5, up_o (by omega)]
      refine ⟨_, _, _, r5, r6, key ρ τ (σ 4 1) v (fun a c a1 a2 => ?_) ?_ ?_ ?_ ?_ hg.1 hg.2 q2 q3⟩
      · rw [p5, up_o (by omega), up_o (by omega), q5, up_o (by omega)]
      · rw [p5, up_o (by omega), up_o (by omega), q5, up_o (by omega)]
      · rw [p5, up_o (by omega), up_e, e67, s2]
      · rw [p5, up_o (by omega), up_o (by omega), q5, up_e]
      · rw [p5, up_e]
    · omega
  · rcases p with ⟨p1, p2, p3, p4, p5⟩ | ⟨p1, p2, p3, p4, p5⟩ | ⟨p1, p2, p4, p5⟩
    · omega
    · omega
    · have ez : z2 = z := by rw [p4, q4]
      rw [ez, p5, q5] at r6
      rw [q5] at r5
      exact ⟨_, _, _, r5, r6, h.w⟩

/-! both sides together: what holds between calls -/
def Dr (σ : Sg) : Prop := σ 6 0 = σ 1 0 ∧ σ 26 = σ 7 ∧ WD (σ 1 0) (σ 7)
def DrW (σ : Sg) : Prop := σ 6 0 = σ 1 0 ∧ (∀ a, 0 ≤ a → a < 24 → σ 26 a = σ 7 a) ∧ WD (σ 1 0) (σ 7)
def St (σ : Sg) : Prop := WS σ ∧ WM σ ∧ (σ 6 4 = σ 4 0 ∧ σ 6 7 = σ 4 1 ∧ σ 6 8 = σ 4 2) ∧ (∀ i, 0 ≤ i → i < σ 4 0 → σ 28 i = σ 14 i) ∧ (∀ x y, 0 ≤ x → x < 4 → 0 ≤ y → y < 4 → σ 29 (4 * x + y) = σ (41 + x) y)
def Sn (σ : Sg) : Prop := ∃ n : Nat, σ 3 0 = n ∧ σ 6 2 = n ∧ SI n (σ 3 1) (σ 27) (σ 13) (σ 12)
def Inv (σ : Sg) : Prop := Dr σ ∧ St σ ∧ CI σ ∧ Sn σ
def InvW (σ : Sg) : Prop := DrW σ ∧ St σ ∧ CI σ ∧ Sn σ
theorem Dr.w {σ : Sg} (h : Dr σ) : DrW σ := ⟨h.1, fun a _ _ => by rw [h.2.1], h.2.2⟩
theorem DrW.tr {σ τ : Sg} (h : DrW σ) (e : ∀ x y, x = 7 ∨ x = 26 ∨ (x = 1 ∧ y = 0) ∨ (x = 6 ∧ y = 0) → τ x y = σ x y) : DrW τ := by
  have e7 : τ 7 = σ 7 := funext fun y => e 7 y (by omega)
  have e26 : τ 26 = σ 26 := funext fun y => e 26 y (by omega)
  unfold DrW
  rw [e7, e26, e 1 0 (by omega), e 6 0 (by omega)]
  exact h
theorem St.tr {σ τ : Sg} (h : St σ) (e : ∀ x y, x = 4 ∨ x = 14 ∨ x = 28 ∨ x = 29 ∨ (41 ≤ x ∧ x < 45) ∨ (x = 6 ∧ (y = 4 ∨ y = 7 ∨ y = 8)) → τ x y = σ x y) : St τ := by
  have e14 : τ 14 = σ 14 := funext fun y => e 14 y (by omega)
  have e28 : τ 28 = σ 28 := funext fun y => e 28 y (by omega)
  have e29 : τ 29 = σ 29 := funext fun y => e 29 y (by omega)
  obtain ⟨h1, h2, h3, h4, h5⟩ := h
  refine ⟨?_, ?_, ?_, ?_, ?_⟩
  · refine SE.ws (σ := σ) (fun x y hx => e x y (by omega)) h1
  · unfold WM
    rw [e28, e29, e 6 4 (by omega), e 6 7 (by omega), e 6 8 (by omega)]
    exact h2
  · rw [e 6 4 (by omega), e 6 7 (by omega), e 6 8 (by omega), e 4 0 (by omega), e 4 1 (by omega), e 4 2 (by omega)]
    exact h3
  · rw [e14, e28, e 4 0 (by omega)]
    exact h4
  · intro x y x0 x1 y0 y1
    rw [e29, e (41 + x) y (by omega)]
    exact h5 x y x0 x1 y0 y1
theorem Sn.tr {σ τ : Sg} (h : Sn σ) (e : ∀ x y, x = 3 ∨ x = 12 ∨ x = 13 ∨ x = 27 ∨ (x = 6 ∧ y = 2) → τ x y = σ x y) : Sn τ := by
  have e12 : τ 12 = σ 12 := funext fun y => e 12 y (by omega)
  have e13 : τ 13 = σ 13 := funext fun y => e 13 y (by omega)
  have e27 : τ 27 = σ 27 := funext fun y => e 27 y (by omega)
  unfold Sn
  rw [e12, e13, e27, e 3 0 (by omega), e 3 1 (by omega), e 6 2 (by omega)]
  exact h
/-- a call of the class and the same call of the model, one after the other: the same answer -/
def CpI (m5 m6 : MI) (as : List AV) (σ : Sg) : Prop := ∃ z ρ τ, Ret 6 m5 (aR 5 :: as) σ (some (aI z)) ρ ∧ Ret 6 m6 (aR 6 :: as) ρ (some (aI z)) τ ∧ InvW τ
def CpL (m5 m6 : MI) (as : List AV) (σ : Sg) : Prop := ∃ z ρ τ, Ret 6 m5 (aR 5 :: as) σ (some (aL z)) ρ ∧ Ret 6 m6 (aR 6 :: as) ρ (some (aL z)) τ ∧ InvW τ
theorem Inv.w {σ : Sg} (h : Inv σ) : InvW σ := ⟨h.1.w, h.2⟩
/-- all but the drawing is as it was -/
theorem Inv.dr {σ τ : Sg} (h : Inv σ) (hd : DrW τ) (e : ∀ x y, x ≠ 7 → ¬ (8 ≤ x ∧ x < 12) → ¬ (x = 1 ∧ y = 0) → x ≠ 26 → x ≠ 30 → x ≠ 31 → ¬ (x = 6 ∧ y = 0) → τ x y = σ x y) : InvW τ :=
  ⟨hd, h.2.1.tr fun x y hx => e x y (by omega) (by omega) (by omega) (by omega) (by omega) (by omega) (by omega), h.2.2.1.tr ⟨e 0 3 (by omega) (by omega) (by omega) (by omega) (by omega) (by omega) (by omega), e 0 4 (by omega) (by omega) (by omega) (by omega) (by omega) (by omega) (by omega)⟩ (fun x y h1 h2 => e x y (by omega) (by omega) (by omega) (by omega) (by omega) (by omega) (by omega)), h.2.2.2.tr fun x y hx => e x y (by omega) (by omega) (by omega) (by omega) (by omega) (by omega) (by omega)⟩
theorem up_e (σ : Sg) (id k v : Int) : up σ id k v id k = v := if_pos ⟨rfl, rfl⟩
theorem up_o {σ : Sg} {id k v a b : Int} (h : ¬ (a = id ∧ b = k)) : up σ id k v a b = σ a b := if_neg h
theorem ff_i {σ : Sg} {id lo hi v b : Int} (h0 : lo ≤ b) (h1 : b < hi) : ff σ id lo hi v id b = v := if_pos ⟨rfl, h0, h1⟩
theorem ff_o {σ : Sg} {id lo hi v a b : Int} (h : ¬ (a = id ∧ lo ≤ b ∧ b < hi)) : ff σ id lo hi v a b = σ a b := if_neg h
theorem c_points {σ : Sg} (h : Inv σ) {n : Int} (hn : inR n) : CpI miX5_points miX6_points [aI n] σ := by
  have r5 := r_X5_points 3 σ n hn
  by_cases c : 0 ≤ n ∧ n ≤ 24
  · rw [if_pos c, if_pos c] at r5
    have r6 := r_X6_points 4 (ff (up σ 1 0 n) 7 0 24 (-1)) n hn
    rw [if_pos c, if_pos c] at r6
    refine ⟨_, _, _, r5, r6, h.dr ⟨?_, fun a a0 a1 => ?_, ?_⟩ (fun x y x1 x2 x3 x4 x5 x6 x7 => ?_)⟩
    · rw [ff_o (by omega), up_e, ff_o (by omega), up_o (by omega), ff_o (by omega), up_e]
    · rw [ff_i a0 a1, ff_o (by omega), up_o (by omega), ff_i a0 a1]
    · have e1 : ff (up (ff (up σ 1 0 n) 7 0 24 (-1)) 6 0 n) 26 0 24 (-1) 1 0 = n := by
        rw [ff_o (by omega), up_o (by omega), ff_o (by omega), up_e]
      have e2 : ∀ a, 0 ≤ a → a < 24 → ff (up (ff (up σ 1 0 n) 7 0 24 (-1)) 6 0 n) 26 0 24 (-1) 7 a = -1 := fun a a0 a1 => by
        rw [ff_o (by omega), up_o (by omega), ff_i a0 a1]
      rw [e1]
      exact ⟨c.1, c.2, fun a a0 a1 => Or.inl (e2 a a0 (by omega)), fun a a0 a1 => e2 a (by omega) a1⟩
    · rw [ff_o (by omega), up_o (by omega), ff_o (by omega), up_o (by omega)]
  · rw [if_neg c, if_neg c] at r5
    have r6 := r_X6_points 4 σ n hn
    rw [if_neg c, if_neg c] at r6
    exact ⟨_, _, _, r5, r6, h.w⟩
theorem c_join {σ : Sg} (h : Inv σ) {a b : Int} (ha : inR a) (hb : inR b) : CpI miX5_join miX6_join [aI a, aI b] σ := by
  obtain ⟨d1, d2, d3⟩ := h.1
  rcases r_X5_join 3 σ a b ha hb d3 with ⟨q, r5⟩ | ⟨q, ⟨q2, r5⟩ | ⟨q2, r5⟩⟩
  · have w6 : WD (σ 6 0) (σ 26) := by rw [d1, d2]; exact d3
    rcases r_X6_join 3 σ a b ha hb w6 with ⟨p, r6⟩ | ⟨p, -⟩
    · exact ⟨_, _, _, r5, r6, h.w⟩
    · rw [d1] at p
      exact absurd p q
  · have w6 : WD (σ 6 0) (σ 26) := by rw [d1, d2]; exact d3
    rcases r_X6_join 3 σ a b ha hb w6 with ⟨p, r6⟩ | ⟨p, ⟨p2, r6⟩ | ⟨p2, r6⟩⟩
    · rw [d1] at p
      exact absurd q p
    · exact ⟨_, _, _, r5, r6, h.w⟩
    · rw [d2] at p2
      exact absurd p2 q2
  · have e26 : (up (up σ 7 a b) 7 b a) 26 = σ 7 := by
      rw [← d2]
      funext y
      unfold up
      rw [if_neg (by omega), if_neg (by omega)]
    have e6 : (up (up σ 7 a b) 7 b a) 6 0 = σ 1 0 := by
      rw [← d1]
      unfold up
      rw [if_neg (by omega), if_neg (by omega)]
    rcases r_X6_join 3 (up (up σ 7 a b) 7 b a) a b ha hb (by rw [e26, e6]; exact d3) with ⟨p, r6⟩ | ⟨p, ⟨p2, r6⟩ | ⟨p2, r6⟩⟩
    · rw [e6] at p
      exact absurd q p
    · rw [e26] at p2
      exact absurd q2 p2
    · rw [e26, e6] at r6
      refine ⟨_, _, _, r5, r6, h.dr ⟨?_, fun c c0 c1 => ?_, ?_⟩ (fun x y x1 x2 x3 x4 x5 x6 x7 => ?_)⟩
      · unfold up
        rw [if_neg (by omega), if_neg (by omega), if_neg (by omega), if_neg (by omega), if_neg (by omega), if_neg (by omega), if_neg (by omega), if_neg (by omega)]
        exact d1
      · rw [up_lk2, e26]
        have : (up (up (up (up σ 7 a b) 7 b a) 26 a b) 26 b a) 7 = lk2 (σ 7) a b := by
          rw [← up_lk2]
          funext y
          unfold up
          rw [if_neg (c := (7 : Int) = 26 ∧ y = b) (by omega), if_neg (c := (7 : Int) = 26 ∧ y = a) (by omega)]
        rw [this]
      · have e7 : (up (up (up (up σ 7 a b) 7 b a) 26 a b) 26 b a) 7 = lk2 (σ 7) a b := by
          rw [← up_lk2]
          funext y
          unfold up
          rw [if_neg (c := (7 : Int) = 26 ∧ y = b) (by omega), if_neg (c := (7 : Int) = 26 ∧ y = a) (by omega)]
        have e1 : (up (up (up (up σ 7 a b) 7 b a) 26 a b) 26 b a) 1 0 = σ 1 0 := by
          unfold up
          rw [if_neg (by omega), if_neg (by omega), if_neg (by omega), if_neg (by omega)]
        rw [e7, e1]
        exact d3.link q.1 q.2.1 q.2.2.1 q.2.2.2.1 q.2.2.2.2 q2.1 q2.2
      · unfold up
        rw [if_neg (by omega), if_neg (by omega), if_neg (by omega), if_neg (by omega)]
theorem c_part {σ : Sg} (h : Inv σ) {a : Int} (ha : inR a) : CpI miX5_part miX6_part [aI a] σ := by
  obtain ⟨d1, d2, d3⟩ := h.1
  have w6 : WD (σ 6 0) (σ 26) := by rw [d1, d2]; exact d3
  rcases r_X5_part 3 σ a ha d3 with ⟨q, r5⟩ | ⟨q, ⟨q2, r5⟩ | ⟨q2, r5⟩⟩
  · rcases r_X6_part 3 σ a ha w6 with ⟨p, r6⟩ | ⟨p, -⟩
    · exact ⟨_, _, _, r5, r6, h.w⟩
    · rw [d1] at p
      exact absurd p q
  · rcases r_X6_part 3 σ a ha w6 with ⟨p, r6⟩ | ⟨p, ⟨p2, r6⟩ | ⟨p2, r6⟩⟩
    · rw [d1] at p
      exact absurd q p
    · exact ⟨_, _, _, r5, r6, h.w⟩
    · rw [d2] at p2
      exact absurd q2 p2
  · have e26 : (up (up σ 7 a (-1)) 7 (σ 7 a) (-1)) 26 = σ 7 := by
      rw [← d2]
      funext y
      unfold up
      rw [if_neg (by omega), if_neg (by omega)]
    have e6 : (up (up σ 7 a (-1)) 7 (σ 7 a) (-1)) 6 0 = σ 1 0 := by
      rw [← d1]
      unfold up
      rw [if_neg (by omega), if_neg (by omega)]
    rcases r_X6_part 3 (up (up σ 7 a (-1)) 7 (σ 7 a) (-1)) a ha (by rw [e26, e6]; exact d3) with ⟨p, r6⟩ | ⟨p, ⟨p2, r6⟩ | ⟨p2, r6⟩⟩
    · rw [e6] at p
      exact absurd q p
    · rw [e26] at p2
      exact absurd p2 q2
    · rw [e26] at r6
      have e7 : ∀ b, (up (up (up (up σ 7 a (-1)) 7 b (-1)) 26 a (-1)) 26 b (-1)) 7 = un2 (σ 7) a b := fun b => by
        rw [← up_un2]
        funext y
        unfold up
        rw [if_neg (c := (7 : Int) = 26 ∧ y = b) (by omega), if_neg (c := (7 : Int) = 26 ∧ y = a) (by omega)]
      refine ⟨_, _, _, r5, r6, h.dr ⟨?_, fun c c0 c1 => ?_, ?_⟩ (fun x y x1 x2 x3 x4 x5 x6 x7 => ?_)⟩
      · unfold up
        rw [if_neg (by omega), if_neg (by omega), if_neg (by omega), if_neg (by omega), if_neg (by omega), if_neg (by omega), if_neg (by omega), if_neg (by omega)]
        exact d1
      · rw [up_un2, e26, e7]
      · have e1 : ∀ b, (up (up (up (up σ 7 a (-1)) 7 b (-1)) 26 a (-1)) 26 b (-1)) 1 0 = σ 1 0 := fun b => by
          unfold up
          rw [if_neg (by omega), if_neg (by omega), if_neg (by omega), if_neg (by omega)]
        rw [e7, e1]
        exact d3.unlink q.1 q.2 q2
      · unfold up
        rw [if_neg (by omega), if_neg (by omega), if_neg (by omega), if_neg (by omega)]
theorem c_at {σ : Sg} (h : Inv σ) {a : Int} (ha : inR a) : CpI miX5_at miX6_at [aI a] σ := by
  obtain ⟨d1, d2, d3⟩ := h.1
  have r5 := r_X5_at 4 σ a ha d3
  have r6 := r_X6_at 3 σ a ha (by rw [d1, d2]; exact d3)
  rw [d1, d2] at r6
  exact ⟨_, _, _, r5, r6, h.w⟩
theorem c_height {σ : Sg} (h : Inv σ) {a : Int} (ha : inR a) : CpI miX5_height miX6_height [aI a] σ := by
  obtain ⟨d1, d2, d3⟩ := h.1
  have r5 := r_X5_height 3 σ a ha d3
  have r6 := r_X6_height 3 σ a ha (by rw [d1, d2]; exact d3)
  rw [d1, d2] at r6
  exact ⟨_, _, _, r5, r6, h.w⟩
theorem c_worth {σ : Sg} (h : Inv σ) {a : Int} (ha : inR a) : CpI miX5_worth miX6_worth [aI a] σ := by
  obtain ⟨d1, d2, d3⟩ := h.1
  have r5 := r_X5_worth 2 σ a ha d3
  have r6 := r_X6_worth 3 σ a ha (by rw [d1, d2]; exact d3)
  rw [d1, d2] at r6
  exact ⟨_, _, _, r5, r6, h.w⟩
theorem c_place {σ : Sg} (h : Inv σ) : CpL miX5_place miX6_place [] σ := by
  obtain ⟨d1, d2, d3⟩ := h.1
  by_cases c : 2 * nb (σ 7) (σ 1 0) = σ 1 0
  · have r5 := r_X5_place 2 σ d3 c
    have r6 := r_X6_place 3 σ (by rw [d1, d2]; exact d3) (by rw [d1, d2]; exact c)
    rw [d1, d2] at r6
    exact ⟨_, _, _, r5, r6, h.w⟩
  · have r5 := r_X5_place_not 2 σ d3 c
    have r6 := r_X6_place_not 3 σ (by rw [d1, d2]; exact d3) (by rw [d1, d2]; exact c)
    exact ⟨_, _, _, r5, r6, h.w⟩
/-- the drawing's cells alone of the class have changed: the model's drawing is still the old one -/
theorem Dr.at6 {σ ρ : Sg} (h : Dr σ) (e : ∀ y, ρ 26 y = σ 26 y) (e6 : ρ 6 0 = σ 6 0) : ρ 26 = σ 7 ∧ ρ 6 0 = σ 1 0 ∧ WD (ρ 6 0) (ρ 26) := by
  have e26 : ρ 26 = σ 7 := by rw [← h.2.1]; exact funext e
  have e60 : ρ 6 0 = σ 1 0 := by rw [e6, h.1]
  exact ⟨e26, e60, by rw [e26, e60]; exact h.2.2⟩
theorem c_number {σ : Sg} (h : Inv σ) {k : Int} (hk : inR k) : CpI miX5_number miX6_number [aI k] σ := by
  have hd := h.1
  obtain ⟨d1, d2, d3⟩ := hd
  have w6 : WD (σ 6 0) (σ 26) := by rw [d1, d2]; exact d3
  by_cases c : 0 ≤ k ∧ k ≤ 8
  · rcases (show k = 0 ∨ k = 1 ∨ k = 2 ∨ k = 3 ∨ k = 4 ∨ k = 5 ∨ k = 6 ∨ k = 7 ∨ k = 8 by omega) with rfl | rfl | rfl | rfl | rfl | rfl | rfl | rfl | rfl
    · have a5 := r_X1_chords 3 σ d3
      have a6 := r_X6_chords 3 σ w6
      rw [d1, d2] at a6
      exact ⟨_, _, _, r_X5_number0 5 σ σ _ a5, r_X6_number0 5 σ σ _ a6, h.w⟩
    · obtain ⟨F, ρ, hF, a5, fr⟩ := r_X1_handles 2 σ d3
      obtain ⟨e26, e60, w6'⟩ := h.1.at6 (ρ := ρ) (fun y => fr 26 y (by omega) (by omega) (by omega)) (fr 6 0 (by omega) (by omega) (by omega))
      have a6 := r_X6_handles 2 ρ F w6' (by rw [e26, e60]; exact hF)
      rw [e26, e60] at a6
      exact ⟨_, _, _, r_X5_number1 5 σ ρ _ a5, r_X6_number1 5 ρ ρ _ a6, h.dr (h.1.w.tr fun x y hx => fr x y (by omega) (by omega) (by omega)) (fun x y x1 x2 x3 x4 x5 x6 x7 => fr x y (by omega) (by omega) (by omega))⟩
    · have a5 := r_X1_crossings 4 σ d3
      have a6 := r_X6_pairs 3 σ 1 (Or.inr rfl) w6
      rw [pairs_x w6, d1, d2] at a6
      exact ⟨_, _, _, r_X5_number2 5 σ σ _ a5, r_X6_number2 5 σ σ _ a6, h.w⟩
    · have a5 := r_X1_nestings 3 σ d3
      have a6 := r_X6_pairs 3 σ 0 (Or.inl rfl) w6
      rw [pairs_n w6, d1, d2] at a6
      exact ⟨_, _, _, r_X5_number3 5 σ σ _ a5, r_X6_number3 5 σ σ _ a6, h.w⟩
    · have a5 := r_X1_parts 3 σ d3
      have a6 := r_X6_parts 2 σ w6
      rw [parts_eq w6, d1, d2] at a6
      exact ⟨_, _, _, r_X5_number4 5 σ σ _ a5, r_X6_number4 5 σ σ _ a6, h.w⟩
    · obtain ⟨v, ρ, hv, -, a5, fr⟩ := r_X1_tangle 3 σ d3
      obtain ⟨e26, e60, w6'⟩ := h.1.at6 (ρ := ρ) (fun y => fr 26 y (by omega)) (fr 6 0 (by omega))
      obtain ⟨v2, τ, hv2, a6, fr2⟩ := r_X6_tangle 2 ρ w6'
      rw [e26, e60] at hv2
      rw [TanV.one hv2 hv] at a6
      exact ⟨_, _, _, r_X5_number5 5 σ ρ _ a5, r_X6_number5 5 ρ τ _ a6, h.dr (h.1.w.tr fun x y hx => by rw [fr2 x y (by omega)]; exact fr x y (by omega)) (fun x y x1 x2 x3 x4 x5 x6 x7 => by rw [fr2 x y (by omega)]; exact fr x y (by omega))⟩
    · obtain ⟨g, ρ, hg, a5, fr⟩ := r_X1_nest 3 σ d3
      obtain ⟨e26, e60, w6'⟩ := h.1.at6 (ρ := ρ) (fun y => fr 26 y (by omega)) (fr 6 0 (by omega))
      obtain ⟨τ, a6, fr2⟩ := r_X6_nest 3 ρ g w6' (by rw [e26]; exact hg)
      rw [e26, e60] at a6
      exact ⟨_, _, _, r_X5_number6 5 σ ρ _ a5, r_X6_number6 5 ρ τ _ a6, h.dr (h.1.w.tr fun x y hx => by rw [fr2 x y (by omega)]; exact fr x y (by omega)) (fun x y x1 x2 x3 x4 x5 x6 x7 => by rw [fr2 x y (by omega)]; exact fr x y (by omega))⟩
    · have a5 := r_X1_shortest 3 σ d3
      have a6 := r_X6_shortest 3 σ w6
      rw [d1, d2] at a6
      exact ⟨_, _, _, r_X5_number7 5 σ σ _ a5, r_X6_number7 5 σ σ _ a6, h.w⟩
    · have a5 := r_X1_stacks 2 σ d3
      have a6 := r_X6_stacks 3 σ w6
      rw [stk_eq w6, d1, d2] at a6
      exact ⟨_, _, _, r_X5_number8 5 σ σ _ a5, r_X6_number8 5 σ σ _ a6, h.w⟩
  · exact ⟨_, _, _, r_X5_number_bad 5 σ k hk c, r_X6_number_bad 5 σ k hk c, h.w⟩
theorem WD.eqv {L : Int} {m m' : Int → Int} (h : WD L m) (e : ∀ a, 0 ≤ a → a < 24 → m' a = m a) : WD L m' := by
  obtain ⟨h1, h2, h3, h4⟩ := h
  refine ⟨h1, h2, fun a a0 a1 => ?_, fun a a0 a1 => by rw [e a (by omega) a1]; exact h4 a a0 a1⟩
  rw [e a a0 (by omega)]
  rcases h3 a a0 a1 with q | ⟨q1, q2, q3, q4⟩
  · exact Or.inl q
  · exact Or.inr ⟨q1, q2, q3, by rw [e _ q1 (by omega)]; exact q4⟩
theorem c_shape {σ : Sg} (h : Inv σ) : CpI miX5_shape miX6_shape [] σ := by
  obtain ⟨d1, d2, d3⟩ := h.1
  obtain ⟨ρ, r5, f1, w1, s1, k1⟩ := r_X5_shape 1 σ d3
  obtain ⟨e26, e60, w6'⟩ := h.1.at6 (ρ := ρ) (fun y => f1 26 y (by omega) (by omega) (by omega) (by omega)) (f1 6 0 (by omega) (by omega) (by omega) (by omega))
  obtain ⟨τ, r6, f2, w2, s2, k2⟩ := r_X6_shape 3 ρ w6'
  rw [e26, e60] at s2
  obtain ⟨eL, em⟩ := SR.one w2 w1 s2 s1 k2 k1
  rw [eL] at r6
  have g7 : ∀ y, τ 7 y = ρ 7 y := fun y => f2 7 y (by omega) (by omega)
  have g7' : τ 7 = ρ 7 := funext g7
  have g1 : τ 1 0 = ρ 1 0 := f2 1 0 (by omega) (by omega)
  refine ⟨_, _, _, r5, r6, h.dr ⟨by rw [eL, g1], fun a a0 a1 => ?_, by rw [g1, g7']; exact w1⟩ (fun x y x1 x2 x3 x4 x5 x6 x7 => by rw [f2 x y x4 x7]; exact f1 x y x1 (by omega) (by omega) x3)⟩
  rw [g7']
  by_cases q : a < τ 6 0
  · exact em a a0 q
  · rw [w2.2.2.2 a (by omega) a1, w1.2.2.2 a (by omega) a1]
theorem WD.mir {L : Int} {m m' : Int → Int} (h : WD L m) (e : ∀ b, m' b = if 0 ≤ b ∧ b < L then (if m (L - 1 - b) = -1 then -1 else L - 1 - m (L - 1 - b)) else m b) : WD L m' := by
  obtain ⟨h1, h2, h3, h4⟩ := h
  refine ⟨h1, h2, fun a a0 a1 => ?_, fun a a0 a1 => by rw [e a, if_neg (by omega)]; exact h4 a a0 a1⟩
  have ea := e a
  rw [if_pos ⟨a0, a1⟩] at ea
  rcases h3 (L - 1 - a) (by omega) (by omega) with q | ⟨q1, q2, q3, q4⟩
  · rw [if_pos q] at ea
    exact Or.inl ea
  · rw [if_neg (by omega)] at ea
    refine Or.inr ⟨by omega, by omega, by omega, ?_⟩
    rw [ea, e, if_pos (by omega), show L - 1 - (L - 1 - m (L - 1 - a)) = m (L - 1 - a) from by omega, q4, if_neg (by omega)]
    omega
theorem c_mirror {σ : Sg} (h : Inv σ) : CpI miX5_mirror miX6_mirror [] σ := by
  obtain ⟨d1, d2, d3⟩ := h.1
  obtain ⟨ρ, r5, f1, g1⟩ := r_X5_mirror 4 σ d3
  obtain ⟨e26, e60, w6'⟩ := h.1.at6 (ρ := ρ) (fun y => f1 26 y (by omega) (by omega)) (f1 6 0 (by omega) (by omega))
  obtain ⟨τ, r6, f2, g2⟩ := r_X6_mirror 5 ρ w6'
  rw [e26, e60] at g2
  have g7' : τ 7 = ρ 7 := funext fun y => f2 7 y (by omega) (by omega)
  have g10 : τ 1 0 = σ 1 0 := by rw [f2 1 0 (by omega) (by omega)]; exact f1 1 0 (by omega) (by omega)
  refine ⟨_, _, _, r5, r6, h.dr ⟨by rw [f2 6 0 (by omega) (by omega), e60, g10], fun a a0 a1 => by rw [g7', g1 a, g2 a], by rw [g10, g7']; exact d3.mir g1⟩ (fun x y x1 x2 x3 x4 x5 x6 x7 => by rw [f2 x y x4 x6]; exact f1 x y x1 (by omega))⟩
theorem c_row {σ : Sg} (h : Inv σ) {n k : Int} (hn : inR n) (hk : inL k) : CpI miX5_row miX6_row [aI n, aL k] σ := by
  by_cases c : 0 ≤ n ∧ n ≤ 12 ∧ 0 ≤ k ∧ k < fdv n
  · obtain ⟨ρ, r5, f1, g1, w1, s1⟩ := r_X5_row 2 σ n k c.1 c.2.1 c.2.2.1 c.2.2.2
    obtain ⟨τ, r6, f2, g2, w2, s2⟩ := r_X6_row 4 ρ n k c.1 c.2.1 c.2.2.1 c.2.2.2
    have em := RowR.one (by omega) n.toNat _ _ k (ρ 7) (τ 26) (fun b b0 b1 => by unfold ff; rw [if_pos ⟨rfl, b0, b1⟩]) s1 s2
    have g7' : τ 7 = ρ 7 := funext fun y => f2 7 y (by omega) (by omega)
    have g10 : τ 1 0 = 2 * n := by rw [f2 1 0 (by omega) (by omega)]; exact g1
    exact ⟨_, _, _, r5, r6, h.dr ⟨by rw [g2, g10], fun a a0 a1 => by rw [g7']; exact (em a a0 a1).symm, by rw [g10, g7']; exact w1⟩ (fun x y x1 x2 x3 x4 x5 x6 x7 => by rw [f2 x y x4 x7]; exact f1 x y x1 x3)⟩
  · exact ⟨_, _, _, r_X5_row_bad 5 σ n k hn hk c, r_X6_row_bad 4 σ n k hn hk c, h.w⟩
theorem c_many {σ : Sg} (h : Inv σ) {w n v : Int} (hw : inR w) (hn : inR n) (hv : inR v) : CpL miX5_many miX6_many [aI w, aI n, aI v] σ := by
  obtain ⟨ρ, r5, f1, c1⟩ := r_X5_many 2 σ w n v h.2.2.1 hw hn hv
  obtain ⟨τ, r6, f2⟩ := r_X6_many 4 ρ w n v hw hn hv
  have e : ∀ x y, ¬ (x = 0 ∧ (y = 3 ∨ y = 4)) → ¬ (170 ≤ x ∧ x < 210) → x ≠ 32 → x ≠ 33 → x ≠ 34 → τ x y = σ x y := fun x y x1 x2 x3 x4 x5 => by rw [f2 x y x3 x4 x5]; exact f1 x y x1 x2
  exact ⟨_, _, _, r5, r6, h.1.w.tr fun x y hx => e x y (by omega) (by omega) (by omega) (by omega) (by omega), h.2.1.tr fun x y hx => e x y (by omega) (by omega) (by omega) (by omega) (by omega), c1.tr ⟨f2 0 3 (by omega) (by omega) (by omega), f2 0 4 (by omega) (by omega) (by omega)⟩ (fun x y h1 h2 => f2 x y (by omega) (by omega) (by omega)), h.2.2.2.tr fun x y hx => e x y (by omega) (by omega) (by omega) (by omega) (by omega)⟩

/-! the row of signs: what both sides keep -/
theorem mkd_s (bo : Int → Int) (k : Nat) : mkd bo (k + 1) = if bo k = -1 then mkd bo k else lk2 (mkd bo k) (bo k) k := rfl
theorem mkd_congr {bo bo' : Int → Int} : ∀ (k : Nat), (∀ x, 0 ≤ x → x < (k : Int) → bo' x = bo x) → mkd bo' k = mkd bo k
  | 0, _ => rfl
  | k + 1, h => by
    rw [mkd_s, mkd_s, mkd_congr k (fun x h1 h2 => h x h1 (by omega)), h k (by omega) (by omega)]
def opn (s bo : Int → Int) (k : Nat) (c : Int) : Int := if s c = 1 ∧ mkd bo k c = -1 then 1 else 0
theorem opn_01 (s bo : Int → Int) (k : Nat) (c : Int) : opn s bo k c = 0 ∨ opn s bo k c = 1 := by unfold opn; split <;> omega
def Sr (s bo : Int → Int) (i : Nat) : Prop := (s i = 1 ∧ bo i = -1) ∨ (2 ≤ s i ∧ s i ≤ 25 ∧ 0 ≤ bo i ∧ bo i < i ∧ s (bo i) = 1 ∧ mkd bo i (bo i) = -1 ∧ rs (opn s bo i) (bo i + 1) ((i : Int) - (bo i + 1)).toNat = s i - 2)
theorem Sr.bo {s bo : Int → Int} {i : Nat} (h : Sr s bo i) : -1 ≤ bo i ∧ bo i < i := by
  rcases h with h | h <;> omega
theorem Sr.congr {s bo s' bo' : Int → Int} {i : Nat} (e : ∀ x, 0 ≤ x → x ≤ (i : Int) → s' x = s x ∧ bo' x = bo x) (h : Sr s bo i) : Sr s' bo' i := by
  have e0 := e i (by omega) (by omega)
  unfold Sr
  rw [e0.1, e0.2]
  rcases h with h | ⟨h1, h2, h3, h4, h5, h6, h7⟩
  · exact Or.inl h
  · have em : mkd bo' i = mkd bo i := mkd_congr i (fun x x0 x1 => (e x x0 (by omega)).2)
    refine Or.inr ⟨h1, h2, h3, h4, by rw [(e (bo i) h3 (by omega)).1]; exact h5, by rw [em]; exact h6, ?_⟩
    rw [← h7]
    refine rs_congr _ _ (fun j j0 j1 => ?_)
    unfold opn
    rw [em, (e j (by omega) (by omega)).1]
theorem mkd_hi {bo : Int → Int} : ∀ (k : Nat), (∀ i : Nat, i < k → -1 ≤ bo i ∧ bo i < i) → ∀ p, (k : Int) ≤ p → mkd bo k p = -1
  | 0, _, _, _ => rfl
  | k + 1, h, p, hp => by
    have ih := mkd_hi k (fun i hi => h i (by omega)) p (by omega)
    have hk := h k (by omega)
    rw [mkd_s]
    split
    · exact ih
    · unfold lk2
      rw [if_neg (by omega), if_neg (by omega)]
      exact ih
theorem mkd_WD {s bo : Int → Int} {L : Int} (hL : L ≤ 24) (h0 : 0 ≤ L) : ∀ (k : Nat), (k : Int) ≤ L → (∀ i : Nat, i < k → Sr s bo i) → WD L (mkd bo k)
  | 0, _, _ => ⟨h0, hL, fun _ _ _ => Or.inl rfl, fun _ _ _ => rfl⟩
  | k + 1, hk, h => by
    have ih := mkd_WD hL h0 k (by omega) (fun i hi => h i (by omega))
    have hh := mkd_hi k (fun i hi => (h i (by omega)).bo) k (by omega)
    rw [mkd_s]
    rcases h k (by omega) with q | ⟨h1, h2, h3, h4, h5, h6, h7⟩
    · rw [if_pos q.2]
      exact ih
    · rw [if_neg (by omega)]
      exact ih.link h3 (by omega) (by omega) (by omega) (by omega) h6 hh
theorem mkd_j {s bo : Int → Int} {i : Nat} (hi : 2 ≤ s i) : ∀ (k : Nat), i < k → (∀ i : Nat, i < k → Sr s bo i) → mkd bo k i ≠ -1
  | 0, h, _ => by omega
  | k + 1, hk, h => by
    rw [mkd_s]
    by_cases c : i = k
    · subst c
      rcases h i (by omega) with q | ⟨h1, h2, h3, h4, h5, h6, h7⟩
      · omega
      · rw [if_neg (by omega)]
        unfold lk2
        rw [if_pos rfl]
        omega
    · have ih := mkd_j hi k (by omega) (fun i hi => h i (by omega))
      have hb := (h k (by omega)).bo
      split
      · exact ih
      · unfold lk2
        split
        · omega
        · split
          · omega
          · exact ih
def SI (n : Nat) (O : Int) (s bo bg : Int → Int) : Prop := n ≤ 24 ∧ O = sop s n ∧ (∀ i : Nat, i < n → Sr s bo i) ∧ (∀ t, 0 ≤ t → t < O → 0 ≤ bg t ∧ bg t < n ∧ opn s bo n (bg t) = 1 ∧ rs (opn s bo n) 0 (bg t).toNat = t) ∧ rs (opn s bo n) 0 n = O
theorem sop_s (s : Int → Int) (n : Nat) : sop s (n + 1) = sop s n + (if s n = 1 then 1 else -1) := by
  unfold sop
  rw [rs_last, Int.zero_add]
theorem sop_congr {s s' : Int → Int} (n : Nat) (h : ∀ x, 0 ≤ x → x < (n : Int) → s' x = s x) : sop s' n = sop s n := rs_congr n 0 (fun j j0 j1 => by rw [h j j0 (by omega)])
theorem SI.O {n : Nat} {O : Int} {s bo bg : Int → Int} (h : SI n O s bo bg) : 0 ≤ O ∧ O ≤ n := by
  rw [← h.2.2.2.2]
  exact rs_01 n 0 (fun j _ _ => opn_01 s bo n j)
theorem SI.t1 {n : Nat} {O : Int} {s bo bg s' bo' bg' : Int → Int} (h : SI n O s bo bg) (hn : n < 24) (hs : ∀ x, 0 ≤ x → x < (n : Int) → s' x = s x ∧ bo' x = bo x) (h1 : s' n = 1) (h2 : bo' n = -1) (hg : ∀ t, 0 ≤ t → t < O → bg' t = bg t) (hO : bg' O = n) : SI (n + 1) (O + 1) s' bo' bg' := by
  obtain ⟨g0, g1, g2, g3, g4⟩ := h
  have em : mkd bo' (n + 1) = mkd bo n := by
    rw [mkd_s, if_pos h2]
    exact mkd_congr n (fun x x0 x1 => (hs x x0 x1).2)
  have eo : ∀ c, 0 ≤ c → c < (n : Int) → opn s' bo' (n + 1) c = opn s bo n c := fun c c0 c1 => by
    unfold opn
    rw [em, (hs c c0 c1).1]
  have en : opn s' bo' (n + 1) n = 1 := by
    unfold opn
    rw [em, if_pos ⟨h1, mkd_hi n (fun i hi => (g2 i hi).bo) n (by omega)⟩]
  have er : ∀ k : Nat, k ≤ n → rs (opn s' bo' (n + 1)) 0 k = rs (opn s bo n) 0 k := fun k hk => rs_congr k 0 (fun j j0 j1 => eo j j0 (by omega))
  refine ⟨by omega, ?_, ?_, ?_, ?_⟩
  · rw [sop_s, if_pos h1, sop_congr n (fun x x0 x1 => (hs x x0 x1).1), g1]
  · intro i hi
    by_cases c : i = n
    · rw [c]
      exact Or.inl ⟨h1, h2⟩
    · exact Sr.congr (fun x x0 x1 => hs x x0 (by omega)) (g2 i (by omega))
  · intro t t0 t1
    by_cases c : t = O
    · rw [c, hO]
      refine ⟨by omega, by omega, en, ?_⟩
      rw [show ((n : Int)).toNat = n from by omega, er n (by omega)]
      exact g4
    · obtain ⟨q1, q2, q3, q4⟩ := g3 t t0 (by omega)
      rw [hg t t0 (by omega)]
      exact ⟨q1, by omega, by rw [eo _ q1 q2]; exact q3, by rw [er _ (by omega)]; exact q4⟩
  · rw [rs_last, Int.zero_add, en, er n (by omega), g4]
theorem SI.t2 {n : Nat} {O v : Int} {s bo bg s' bo' bg' : Int → Int} (h : SI n O s bo bg) (hn : n < 24) (v2 : 2 ≤ v) (vO : v - 2 < O) (hs : ∀ x, 0 ≤ x → x < (n : Int) → s' x = s x ∧ bo' x = bo x) (h1 : s' n = v) (h2 : bo' n = bg (O - 1 - (v - 2))) (hg : ∀ t, 0 ≤ t → t < O - 1 → bg' t = if t < O - 1 - (v - 2) then bg t else bg (t + 1)) : SI (n + 1) (O - 1) s' bo' bg' := by
  have hOn := h.O
  obtain ⟨g0, g1, g2, g3, g4⟩ := h
  generalize hw : O - 1 - (v - 2) = w at *
  obtain ⟨p0, p1, p2, p3⟩ := g3 w (by omega) (by omega)
  generalize hp : bg w = p at *
  have hop : s p = 1 ∧ mkd bo n p = -1 := by
    unfold opn at p2
    split at p2
    · assumption
    · omega
  have em0 : mkd bo' n = mkd bo n := mkd_congr n (fun x x0 x1 => (hs x x0 x1).2)
  have em : mkd bo' (n + 1) = lk2 (mkd bo n) p n := by
    rw [mkd_s, h2, if_neg (by omega), em0]
  have eo : ∀ c, 0 ≤ c → c < (n : Int) → opn s' bo' (n + 1) c = opn s bo n c - (if c = p then 1 else 0) := fun c c0 c1 => by
    unfold opn
    rw [em, (hs c c0 c1).1]
    by_cases q : c = p
    · subst q
      rw [if_pos hop, if_pos rfl, if_neg]
      · omega
      · unfold lk2
        rw [if_neg (by omega), if_pos rfl]
        omega
    · have el : lk2 (mkd bo n) p n c = mkd bo n c := by
        unfold lk2
        rw [if_neg (by omega), if_neg q]
      rw [if_neg q, el]
      omega
  have en : opn s' bo' (n + 1) n = 0 := by
    unfold opn
    rw [if_neg (by omega)]
  have er : ∀ k : Nat, k ≤ n → rs (opn s' bo' (n + 1)) 0 k = rs (opn s bo n) 0 k - (if p < k then 1 else 0) := fun k hk => by
    have e1 := rs_add (opn s' bo' (n + 1)) (fun c => if c = p then 1 else 0) k 0
    rw [rs_pt] at e1
    have e2 : rs (fun j => opn s' bo' (n + 1) j + if j = p then 1 else 0) 0 k = rs (opn s bo n) 0 k := rs_congr k 0 (fun j j0 j1 => by
      show opn s' bo' (n + 1) j + (if j = p then 1 else 0) = _
      rw [eo j j0 (by omega)]
      omega)
    rw [e2] at e1
    by_cases q : p < k
    · rw [if_pos (by omega)] at e1
      rw [if_pos q]
      omega
    · rw [if_neg (by omega)] at e1
      rw [if_neg q]
      omega
  have mono : ∀ (a b : Nat), a ≤ b → rs (opn s bo n) 0 a ≤ rs (opn s bo n) 0 b := fun a b hab => by
    have := rs_split (opn s bo n) a (b - a) 0
    have h2 := rs_01 (f := opn s bo n) (b - a) (0 + (a : Int)) (fun j _ _ => opn_01 s bo n j)
    rw [show a + (b - a) = b from by omega] at this
    omega
  have ep1 : rs (opn s bo n) 0 (p.toNat + 1) = w + 1 := by
    rw [rs_last, p3, show (0 : Int) + (p.toNat : Int) = p from by omega, p2]
  refine ⟨by omega, ?_, ?_, ?_, ?_⟩
  · rw [sop_s, if_neg (by omega), sop_congr n (fun x x0 x1 => (hs x x0 x1).1), g1]
    omega
  · intro i hi
    by_cases c : i = n
    · subst c
      refine Or.inr ⟨by omega, by omega, by rw [h2]; exact p0, by rw [h2]; exact p1, by rw [h2, (hs p p0 p1).1]; exact hop.1, by rw [h2, em0]; exact hop.2, ?_⟩
      rw [h2, h1]
      have e1 := rs_split (opn s bo i) (p.toNat + 1) ((i : Int) - (p + 1)).toNat 0
      rw [ep1, show (p.toNat + 1) + ((i : Int) - (p + 1)).toNat = i from by omega, g4, show (0 : Int) + ((p.toNat + 1 : Nat) : Int) = p + 1 from by omega] at e1
      have e2 : rs (opn s' bo' i) (p + 1) ((i : Int) - (p + 1)).toNat = rs (opn s bo i) (p + 1) ((i : Int) - (p + 1)).toNat := rs_congr _ _ (fun j j0 j1 => by
        unfold opn
        rw [em0, (hs j (by omega) (by omega)).1])
      omega
    · exact Sr.congr (fun x x0 x1 => hs x x0 (by omega)) (g2 i (by omega))
  · intro t t0 t1
    rw [hg t t0 t1]
    by_cases c : t < w
    · rw [if_pos c]
      obtain ⟨q1, q2, q3, q4⟩ := g3 t t0 (by omega)
      have hlt : bg t < p := by
        apply Classical.byContradiction
        intro z
        have := mono p.toNat (bg t).toNat (by omega)
        omega
      refine ⟨q1, by omega, by rw [eo _ q1 q2, if_neg (by omega)]; omega, ?_⟩
      rw [er _ (by omega), if_neg (by omega)]
      omega
    · rw [if_neg c]
      obtain ⟨q1, q2, q3, q4⟩ := g3 (t + 1) (by omega) (by omega)
      have hlt : p < bg (t + 1) := by
        apply Classical.byContradiction
        intro z
        have := mono (bg (t + 1)).toNat p.toNat (by omega)
        omega
      refine ⟨q1, by omega, by rw [eo _ q1 q2, if_neg (by omega)]; omega, ?_⟩
      rw [er _ (by omega), if_pos (by omega)]
      omega
  · rw [rs_last, Int.zero_add, en, er n (by omega), g4, if_pos p1]
    omega
/-- no sign at hand -/
theorem SI.nil (s bo bg : Int → Int) : SI 0 0 s bo bg := ⟨by omega, rfl, fun i hi => by omega, fun t t0 t1 => by omega, rfl⟩
/-- nothing open: all points are joined -/
theorem SI.full {n : Nat} {s bo bg : Int → Int} (h : SI n 0 s bo bg) : ∀ a, 0 ≤ a → a < (n : Int) → mkd bo n a ≠ -1 := by
  intro a a0 a1 hm
  obtain ⟨g0, g1, g2, g3, g4⟩ := h
  obtain ⟨i, rfl⟩ := Int.eq_ofNat_of_zero_le a0
  rcases g2 i (by omega) with q | q
  · have e1 := rs_split (opn s bo n) i (n - i) 0
    rw [show i + (n - i) = n from by omega, g4] at e1
    have e2 := rs_01 (f := opn s bo n) i 0 (fun j _ _ => opn_01 s bo n j)
    have e3 := rs_01 (f := opn s bo n) (n - i - 1) (0 + (i : Int) + 1) (fun j _ _ => opn_01 s bo n j)
    rw [show n - i = (n - i - 1) + 1 from by omega, rs_s] at e1
    have e4 : opn s bo n (0 + (i : Int)) = 1 := by
      unfold opn
      rw [Int.zero_add, if_pos ⟨q.1, hm⟩]
    omega
  · exact mkd_j (by omega) n (by omega) g2 hm

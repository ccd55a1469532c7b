/-! the model's layCrossings -/
def Pn (n : Int) : Nat → Int → Int → Int
  | 0, h, x => if h = 0 ∧ x = 0 then 1 else 0
  | s + 1, h, x => (if 0 < h ∧ h ≤ n then Pn n s (h - 1) x else 0) + rs (fun y => if 0 ≤ y then Pn n s (h + 1) y else 0) (x - h) (h + 1).toNat
theorem Pn_s (n : Int) (s : Nat) (h x : Int) : Pn n (s + 1) h x = (if 0 < h ∧ h ≤ n then Pn n s (h - 1) x else 0) + rs (fun y => if 0 ≤ y then Pn n s (h + 1) y else 0) (x - h) (h + 1).toNat := rfl
theorem Pn_hi {n : Int} (n0 : 0 ≤ n) : ∀ (s : Nat) (h x : Int), n < h → Pn n s h x = 0
  | 0, h, x, hh => if_neg (by omega)
  | s + 1, h, x, hh => by
    rw [Pn_s, if_neg (by omega), rs_zero _ _ (fun j _ _ => by
      show (if 0 ≤ j then Pn n s (h + 1) j else 0) = 0
      split
      · exact Pn_hi n0 s (h + 1) j (by omega)
      · rfl)]
    rfl
theorem rs_mono {f g : Int → Int} : ∀ (k : Nat) (i : Int), (∀ j, 0 ≤ f j ∧ f j ≤ g j) → 0 ≤ rs f i k ∧ rs f i k ≤ rs g i k
  | 0, i, _ => ⟨Int.le_refl 0, Int.le_refl 0⟩
  | k + 1, i, h => by
    have h1 := rs_mono k (i + 1) h
    have h2 := h i
    rw [rs_s, rs_s]
    omega
theorem Pn_le (n : Int) : ∀ (s : Nat) (h x : Int), 0 ≤ Pn n s h x ∧ Pn n s h x ≤ Pc s h x
  | 0, h, x => by
    show 0 ≤ (if h = 0 ∧ x = 0 then 1 else 0 : Int) ∧ (if h = 0 ∧ x = 0 then 1 else 0 : Int) ≤ (if h = 0 ∧ x = 0 then 1 else 0 : Int)
    split <;> omega
  | s + 1, h, x => by
    have h1 := rs_mono (f := fun y => if 0 ≤ y then Pn n s (h + 1) y else 0) (g := fun y => if 0 ≤ y then Pc s (h + 1) y else 0) (h + 1).toNat (x - h) (fun j => by
      show 0 ≤ (if 0 ≤ j then Pn n s (h + 1) j else 0) ∧ (if 0 ≤ j then Pn n s (h + 1) j else 0) ≤ (if 0 ≤ j then Pc s (h + 1) j else 0)
      have := Pn_le n s (h + 1) j
      split <;> omega)
    have h2 := Pn_le n s (h - 1) x
    rw [Pn_s, Pc_s]
    by_cases c : 0 < h
    · rw [if_pos c]
      by_cases c2 : h ≤ n
      · rw [if_pos ⟨c, c2⟩]
        omega
      · rw [if_neg (by omega)]
        omega
    · rw [if_neg c, if_neg (by omega)]
      omega
theorem Pn_eq {n : Int} (n0 : 0 ≤ n) : ∀ (s : Nat) (h x : Int), 0 ≤ h → h + s ≤ 2 * n → Pn n s h x = Pc s h x
  | 0, h, x, _, _ => rfl
  | s + 1, h, x, h0, hh => by
    rw [Pn_s, Pc_s]
    congr 1
    · by_cases c : 0 < h
      · rw [if_pos c]
        by_cases c2 : h ≤ n
        · rw [if_pos ⟨c, c2⟩]
          exact Pn_eq n0 s (h - 1) x (by omega) (by omega)
        · rw [if_neg (by omega), Pc_hi s (h - 1) x (by omega)]
      · rw [if_neg c, if_neg (by omega)]
    · refine rs_congr _ _ (fun y y0 y1 => ?_)
      show (if 0 ≤ y then Pn n s (h + 1) y else 0) = (if 0 ≤ y then Pc s (h + 1) y else 0)
      rw [Pn_eq n0 s (h + 1) y (by omega) (by omega)]
theorem rs_pv (q v : Int) : ∀ (k : Nat) (i : Int), rs (fun c => if c = q then v else 0) i k = if i ≤ q ∧ q < i + k then v else 0
  | 0, i => by rw [if_neg (by omega)]; rfl
  | k + 1, i => by
    rw [rs_s, rs_pv q v k (i + 1)]
    by_cases c : i = q
    · rw [if_pos c, if_neg (by omega), if_pos (by omega)]
      omega
    · rw [if_neg c]
      by_cases c2 : i + 1 ≤ q ∧ q < i + 1 + k
      · rw [if_pos c2, if_pos (by omega)]
        omega
      · rw [if_neg c2, if_neg (by omega)]
        omega
/-- what has come to (H, X) out of the cells ahead of (h0, x0) -/
def Gq (n : Int) (B : Int → Int → Int) (h0 x0 H X : Int) : Int := (if 0 < H ∧ H ≤ n ∧ (H - 1 < h0 ∨ (H - 1 = h0 ∧ X < x0)) then B (H - 1) X else 0) + rs (fun y => if 0 ≤ y ∧ (H + 1 < h0 ∨ (H + 1 = h0 ∧ y < x0)) then B (H + 1) y else 0) (X - H) (H + 1).toNat
theorem Gq_step {n : Int} {B : Int → Int → Int} {h0 x0 H X : Int} (h00 : 0 ≤ h0) (x00 : 0 ≤ x0) (H0 : 0 ≤ H) : Gq n B h0 (x0 + 1) H X = Gq n B h0 x0 H X + (if H = h0 + 1 ∧ X = x0 ∧ h0 < n then B h0 x0 else 0) + (if H = h0 - 1 ∧ x0 ≤ X ∧ X < x0 + h0 then B h0 x0 else 0) := by
  unfold Gq
  have e2 : rs (fun y => if 0 ≤ y ∧ (H + 1 < h0 ∨ (H + 1 = h0 ∧ y < x0 + 1)) then B (H + 1) y else 0) (X - H) (H + 1).toNat = rs (fun y => if 0 ≤ y ∧ (H + 1 < h0 ∨ (H + 1 = h0 ∧ y < x0)) then B (H + 1) y else 0) (X - H) (H + 1).toNat + (if H = h0 - 1 ∧ x0 ≤ X ∧ X < x0 + h0 then B h0 x0 else 0) := by
    by_cases c : H + 1 = h0
    · subst c
      have := rs_pv x0 (B (H + 1) x0) (H + 1).toNat (X - H)
      rw [show (if H = H + 1 - 1 ∧ x0 ≤ X ∧ X < x0 + (H + 1) then B (H + 1) x0 else 0) = (if X - H ≤ x0 ∧ x0 < X - H + ((H + 1).toNat : Int) then B (H + 1) x0 else 0) from by
        by_cases q : X - H ≤ x0 ∧ x0 < X - H + ((H + 1).toNat : Int)
        · rw [if_pos q, if_pos (by omega)]
        · rw [if_neg q, if_neg (by omega)], ← this, ← rs_add]
      refine rs_congr _ _ (fun y _ _ => ?_)
      show (if 0 ≤ y ∧ (H + 1 < H + 1 ∨ (H + 1 = H + 1 ∧ y < x0 + 1)) then B (H + 1) y else 0) = (if 0 ≤ y ∧ (H + 1 < H + 1 ∨ (H + 1 = H + 1 ∧ y < x0)) then B (H + 1) y else 0) + (if y = x0 then B (H + 1) x0 else 0)
      by_cases q : y = x0
      · subst q
        rw [if_pos (by omega), if_neg (by omega), if_pos rfl]
        omega
      · rw [if_neg q]
        by_cases q2 : 0 ≤ y ∧ y < x0
        · rw [if_pos (by omega), if_pos (by omega)]
          omega
        · rw [if_neg (by omega), if_neg (by omega)]
          omega
    · rw [if_neg (by omega), Int.add_zero]
      refine rs_congr _ _ (fun y _ _ => ?_)
      show (if 0 ≤ y ∧ (H + 1 < h0 ∨ (H + 1 = h0 ∧ y < x0 + 1)) then B (H + 1) y else 0) = (if 0 ≤ y ∧ (H + 1 < h0 ∨ (H + 1 = h0 ∧ y < x0)) then B (H + 1) y else 0)
      by_cases q2 : 0 ≤ y ∧ H + 1 < h0
      · rw [if_pos (by omega), if_pos (by omega)]
      · rw [if_neg (by omega), if_neg (by omega)]
  have e1 : (if 0 < H ∧ H ≤ n ∧ (H - 1 < h0 ∨ (H - 1 = h0 ∧ X < x0 + 1)) then B (H - 1) X else 0) = (if 0 < H ∧ H ≤ n ∧ (H - 1 < h0 ∨ (H - 1 = h0 ∧ X < x0)) then B (H - 1) X else 0) + (if H = h0 + 1 ∧ X = x0 ∧ h0 < n then B h0 x0 else 0) := by
    by_cases c : H = h0 + 1 ∧ X = x0
    · obtain ⟨rfl, rfl⟩ := c
      by_cases c2 : h0 < n ∧ 0 < h0 + 1
      · rw [if_pos (by omega), if_neg (by omega), if_pos (by omega), show h0 + 1 - 1 = h0 from by omega]
        omega
      · rw [if_neg (by omega), if_neg (by omega), if_neg (by omega)]
        omega
    · rw [show (if H = h0 + 1 ∧ X = x0 ∧ h0 < n then B h0 x0 else 0) = 0 from if_neg (by omega), Int.add_zero]
      by_cases c2 : 0 < H ∧ H ≤ n ∧ (H - 1 < h0 ∨ (H - 1 = h0 ∧ X < x0))
      · rw [if_pos c2, if_pos (by omega)]
      · rw [if_neg c2, if_neg (by omega)]
  rw [e1, e2]
  omega
theorem Gq_row {n : Int} {B : Int → Int → Int} {h0 H X : Int} (X0 : 0 ≤ X) (X1 : X < 67) (H0 : 0 ≤ H) : Gq n B h0 67 H X = Gq n B (h0 + 1) 0 H X := by
  unfold Gq
  congr 1
  · by_cases c : 0 < H ∧ H ≤ n ∧ H - 1 ≤ h0
    · rw [if_pos (by omega), if_pos (by omega)]
    · rw [if_neg (by omega), if_neg (by omega)]
  · refine rs_congr _ _ (fun y y0 y1 => ?_)
    show (if 0 ≤ y ∧ (H + 1 < h0 ∨ (H + 1 = h0 ∧ y < 67)) then B (H + 1) y else 0) = (if 0 ≤ y ∧ (H + 1 < h0 + 1 ∨ (H + 1 = h0 + 1 ∧ y < 0)) then B (H + 1) y else 0)
    by_cases c : 0 ≤ y ∧ H + 1 ≤ h0
    · rw [if_pos (by omega), if_pos (by omega)]
    · rw [if_neg (by omega), if_neg (by omega)]
theorem Gq_0 {n : Int} {B : Int → Int → Int} {H X : Int} (H0 : 0 ≤ H) (X0 : 0 ≤ X) : Gq n B 0 0 H X = 0 := by
  unfold Gq
  rw [if_neg (by omega), rs_zero _ _ (fun y y0 y1 => by
    show (if 0 ≤ y ∧ (H + 1 < 0 ∨ (H + 1 = 0 ∧ y < 0)) then B (H + 1) y else 0) = 0
    rw [if_neg (by omega)])]
  rfl
theorem Gq_end {n : Int} (n0 : 0 ≤ n) {s : Nat} {H X : Int} (H0 : 0 ≤ H) : Gq n (Pn n s) (n + 1) 0 H X = Pn n (s + 1) H X := by
  rw [Pn_s]
  unfold Gq
  congr 1
  · by_cases c : 0 < H ∧ H ≤ n
    · rw [if_pos (by omega), if_pos c]
    · rw [if_neg (by omega), if_neg c]
  · refine rs_congr _ _ (fun y y0 y1 => ?_)
    show (if 0 ≤ y ∧ (H + 1 < n + 1 ∨ (H + 1 = n + 1 ∧ y < 0)) then Pn n s (H + 1) y else 0) = (if 0 ≤ y then Pn n s (H + 1) y else 0)
    by_cases c : 0 ≤ y
    · by_cases c2 : H + 1 < n + 1
      · rw [if_pos (by omega), if_pos c]
      · rw [if_neg (by omega), if_pos c, Pn_hi n0 s (H + 1) y (by omega)]
    · rw [if_neg (by omega), if_neg c]

/-! THE CLAIM OUT OF ONE WALK OF THE LAW'S BODY. Your part is whole_start (and what it stands on); all else here is the same for every law, but numbers. -/
def R_law : String := "ChordFoldsLaw"
def lw_P (b : Addr) (xs : List Int32) (args : Array Value) (s : State) : Prop := args = #[.ref b] ∧ s.IntsAt b xs ∧ xs.length ≤ 2048 ∧ (Jvm.Cond.and given_1 narrow_1).before args s = true
def lw_Q (_ : Array Value) (s : State) (o : Outcome) (t : State) : Prop := o = .returned (some (.int 1)) ∧ Framed s o t [] 600000 7302250
def lw_Z (below : List Frame) (a : Array Value) (s : State) : State → Prop := fun t => ∃ o, t.status = .running ∧ Ended t below o ∧ lw_Q a s o t
/-- the law's own end, with 1 on the stack, nothing written that was there before, its room as the claim has it -/
theorem lw_ret {p : Program} {l : Launch} {e : Env} {s : State} {m : MethodId} {below : List Frame} {meth : Method} {c : Code} {b : Nat} (hx : p.tables.exec = Jvm.exec) (hb : c.code = code) (hr : meth.sig.returnType = ret) (hlocks : meth.locks = false) {pc : Nat} {H : Heap} {ls : Array Slot} (hdg : decode code pc = .ok (.ireturn, 1)) : W p l e room_1 s m #[Value.ref b] below meth c H [] 600000 7302250 (lw_Z below #[Value.ref b] s) (F0 m pc ls [.int 1]) := by
  intro T hT X
  obtain ⟨fs, hret, hrun, hended, hW, hframe⟩ := X.leave (v := some (.int 1)) (hlocks := hlocks) (fun h => by rw [hr] at h; cases h)
  have hmeth' : T.vm.method? m = some meth := X.method'
  refine ⟨T.setFrames fs, ?_, .returned (some (.int 1)), hrun, hended, rfl, ⟨_, rfl⟩, hW, hframe⟩
  jvm_step X.here [X.here.top, hx, hb, hdg, hmeth', hr, ret, narrow_b1]
  (try refine ⟨rfl, ?_⟩); (try refine ⟨rfl, ?_⟩)
  first | (intro acts; rw [hret _ acts rfl rfl rfl]) | rw [hret _ _ rfl rfl rfl]
  exact Steps.refl _
/-- what holds at the law's entry: the machine, the code, the tables' words (any of lw_tbl by 'hts w (by decide +kernel)'), the script of L ints xs at the cell b, what the Statement gives of the start (any of its parts by flat_of_before) -/
def lw_At (p : Program) (s : State) (m : MethodId) (meth : Method) (c : Code) (b L : Nat) (xs : Nat → Int32) : Prop :=
  p.tables.exec = Jvm.exec ∧ c.code = code ∧ meth.sig.returnType = ret ∧ c.maxLocals = 4 ∧ s.vm.findClass R_law = some m.cls ∧ (∀ w ∈ lw_tbl, w.before #[Value.ref b] s = true) ∧ va_X b L xs s s.heap ∧ b < s.heap.size ∧ meth.locks = false ∧ (Jvm.Cond.and given_1 narrow_1).before #[Value.ref b] s = true
/-! the law: a step of its own for the script's cells -/
def eyL (L : Int) (sv : Int → Int) (K : Nat → Lv → List AV → Sg → Prop) (pc len : Nat) (ls : Lv) (st : List AV) (σ : Sg) (i : Instr) : Prop := match i with
  | .iaload => chk (Nat.beq len 1) (pI st fun i st => pR st fun id st => id = 211 ∧ 0 ≤ i ∧ i < L ∧ K (pc + 1) ls (aI (sv i) :: st) σ)
  | .arraylength => chk (Nat.beq len 1) (pR st fun id st => id = 211 ∧ K (pc + 1) ls (aI L :: st) σ)
  | .if_icmp .eq off => chk (Nat.beq len 3 && decide (0 ≤ (pc : Int) + off)) (pI st fun y st => pI st fun x st => x = y ∧ K ((pc : Int) + off).toNat ls st σ)
  | i => ey 7 6 4 (some .boolean) (fun r _ => r = some (aI 1)) K pc len ls st σ i
def vcL (L : Int) (sv : Int → Int) (cuts : List Nat) (K : Nat → Lv → List AV → Sg → Prop) : Nat → Nat → Lv → List AV → Sg → Prop
  | 0, pc, ls, st, σ => K pc ls st σ
  | n + 1, pc, ls, st, σ => vcm (decode code pc) fun i len => eyL L sv (fun pc ls st σ => vci (isC cuts pc) (K pc ls st σ) (vcL L sv cuts K n pc ls st σ)) pc len ls st σ i
theorem vcL_at {L : Int} {sv : Int → Int} {cuts : List Nat} {K : Nat → Lv → List AV → Sg → Prop} {n pc : Nat} {ls : Lv} {st : List AV} {σ : Sg} {i : Instr} {len : Nat} (h : decode code pc = .ok (i, len)) :
    vcL L sv cuts K (n + 1) pc ls st σ = eyL L sv (fun pc ls st σ => vci (isC cuts pc) (K pc ls st σ) (vcL L sv cuts K n pc ls st σ)) pc len ls st σ i := by
  show vcm (decode code pc) _ = _
  rw [h]
  rfl
def svx (xs : Nat → Int32) (i : Int) : Int := (xs i.toNat).toInt
theorem svx_R (xs : Nat → Int32) (i : Int) : inR (svx xs i) := by
  have h1 := Int32.le_toInt (xs i.toNat)
  have h2 := Int32.toInt_lt (xs i.toNat)
  unfold svx inR
  omega
section LAWS
variable {p : Program} {l : Launch} {e : Env} {s : State} {m : MethodId} {below : List Frame} {meth : Method} {c : Code} {X : Cx} {b L : Nat} {xs : Nat → Int32} {cells slots : Nat}
/-- what holds in the law once both objects are made -/
def LawC (p : Program) (s : State) (m : MethodId) (meth : Method) (c : Code) (X : Cx) (b L : Nat) (xs : Nat → Int32) (cells slots : Nat) : Prop := Ev p s m #[Value.ref b] c X 7 code 4 ∧ meth.sig.returnType = ret ∧ meth.locks = false ∧ X.2.2 211 = b ∧ va_X b L xs s s.heap ∧ b < s.heap.size ∧ (∀ id, id < 210 → s.heap.size ≤ X.2.2 id) ∧ cells ≤ 600000 ∧ slots ≤ 7302250 ∧ L ≤ 2048
def VLx (p : Program) (l : Launch) (e : Env) (s : State) (m : MethodId) (below : List Frame) (meth : Method) (c : Code) (X : Cx) (b cells slots : Nat) : Nat → Lv → List AV → Sg → Prop := fun pc ls st σ => ∃ _ : Unit, Vx p l e room_1 s m #[Value.ref b] below meth c X cells slots (lw_Z below #[Value.ref b] s) 4 pc ls st σ
theorem reg_b (C : LawC p s m meth c X b L xs cells slots) : ¬ reg X b := by
  rintro ⟨id, h1, h2⟩
  have := C.2.2.2.2.2.2.1 id h1
  have := C.2.2.2.2.2.1
  omega
set_option maxHeartbeats 4000000 in
set_option maxRecDepth 100000 in
theorem vcL_sound (C : LawC p s m meth c X b L xs cells slots) (cuts : List Nat) : ∀ (n pc : Nat) (ls : Lv) (st : List AV) (σ : Sg), vcL L (svx xs) cuts (VLx p l e s m below meth c X b cells slots) n pc ls st σ → VLx p l e s m below meth c X b cells slots pc ls st σ
  | 0, pc, ls, st, σ, h => h
  | n + 1, pc, ls, st, σ, h => by
    have hb2 := reg_b C
    obtain ⟨E, hr, hlk, hA, hX, hbl, hfr, hC1, hC2, hL⟩ := id C
    have hK : ∀ pc ls st σ, vci (isC cuts pc) (VLx p l e s m below meth c X b cells slots pc ls st σ) (vcL L (svx xs) cuts (VLx p l e s m below meth c X b cells slots) n pc ls st σ) → Vx p l e room_1 s m #[Value.ref b] below meth c X cells slots (lw_Z below #[Value.ref b] s) 4 pc ls st σ := fun pc ls st σ hk => by
      unfold vci at hk
      split at hk
      · obtain ⟨-, hk⟩ := hk
        exact hk
      · obtain ⟨-, hk⟩ := vcL_sound C cuts n pc ls st σ hk
        exact hk
    refine ⟨(), ?_⟩
    unfold vcL vcm at h
    split at h
    · rename_i i len hdg
      unfold eyL at h
      split at h
      · obtain ⟨a0, g⟩ := chk_of h
        clear h
        obtain rfl := beq_of a0
        obtain ⟨x, t, rfl, g2⟩ := pI_of g
        obtain ⟨y, t2, rfl, rfl, h1, h2, g3⟩ := pR_of g2
        intro H locs la hP hS hl
        have hk := hK _ _ _ _ g3 H locs la hP hS hl
        show W p l e room_1 s m #[Value.ref b] below meth c H locs cells slots (lw_Z below #[Value.ref b] s) (F0 m pc la (.int (Int32.ofInt x) :: .ref (X.2.2 211) :: t2.map (cv X.2.2)))
        rw [hA]
        refine va_sld E.1 E.2.1 hX hbl hb2 hS (ofI_in h1 (by omega) (by omega)) hdg ?_
        rw [ofI_cl h1 (by omega)]
        have e1 : Value.int (Int32.ofInt (svx xs x)) = Value.int (xs x.toNat) := by
          unfold svx
          rw [Int32.ofInt_toInt]
        rw [← e1]
        exact hk
      · obtain ⟨a0, g⟩ := chk_of h
        clear h
        obtain rfl := beq_of a0
        obtain ⟨y, t2, rfl, rfl, g3⟩ := pR_of g
        intro H locs la hP hS hl
        have hk := hK _ _ _ _ g3 H locs la hP hS hl
        show W p l e room_1 s m #[Value.ref b] below meth c H locs cells slots (lw_Z below #[Value.ref b] s) (F0 m pc la (.ref (X.2.2 211) :: t2.map (cv X.2.2)))
        rw [hA]
        exact va_slen E.1 E.2.1 hX hbl hb2 hS hdg hk
      · obtain ⟨a0, g⟩ := chk_of h
        clear h
        obtain ⟨a1, a2⟩ := and2 a0
        obtain rfl := beq_of a1
        have h3 := of_decide_eq_true a2
        obtain ⟨y, t, rfl, g2⟩ := pI_of g
        obtain ⟨x, t2, rfl, rfl, g3⟩ := pI_of g2
        intro H locs la hP hS hl
        have hk := hK _ _ _ _ g3 H locs la hP hS hl
        exact lv_icmp_eq E.1 E.2.1 hdg (jpc h3) (fun _ => hk) (fun q => absurd rfl q)
      · refine ex_sound E ⟨Nat.le_of_ble_eq_true rfl, Nat.le_of_ble_eq_true rfl⟩ ⟨hC1, hC2⟩ hK ?_ hdg (ey_ex h)
        intro r σ' pc' H locs la hF hP hS hl ho
        subst hF
        obtain ⟨-, hd⟩ := ho
        refine va_forget (fun q hq => ?_) (W.widen hC1 hC2 ?_)
        · obtain ⟨id, h1, h2⟩ := hS.2.2 q hq
          rw [h2]
          exact hfr id h1
        · exact lw_ret E.1 E.2.1 hr hlk hd
    · exact h.elim
/-- cells outside the drawing's rows say nothing -/
theorem mkW_norm {X : Cx} {σ τ : Sg} (e : ∀ x y, (x ≠ 7 ∧ x ≠ 26) ∨ (0 ≤ y ∧ y < 24) → τ x y = σ x y) {H : Heap} (h : va_P X.1 classes (mkW X σ) H) : va_P X.1 classes (mkW X τ) H := by
  intro k q hk
  have hl : k < 210 := by
    have := (List.getElem?_eq_some_iff.mp hk).1
    simpa [mkW] using this
  rw [mkW_at X τ hl] at hk
  cases hk
  have h0 := h k _ (mkW_at X σ hl)
  by_cases c : k = 7 ∨ k = 26
  · have hkd : (kd k).1 = 1 ∧ (kd k).2.1 = 24 := by rcases c with rfl | rfl <;> exact ⟨rfl, rfl⟩
    rw [ent_1 X σ hkd.1] at h0
    rw [ent_1 X τ hkd.1]
    have h1 : H[X.2.2 k]? = some (vp_cell (X.2.1 0) ((kd k).2.1, .inl (fun j => Int32.ofInt (σ k j)))) := h0
    show H[X.2.2 k]? = some (vp_cell (X.2.1 0) ((kd k).2.1, .inl (fun j => Int32.ofInt (τ k j))))
    rw [h1, vp_cell_i, vp_cell_i]
    congr 1
    unfold arrV
    congr 1
    congr 1
    funext j
    have hj : j.val < 24 := by have := j.isLt; omega
    show Value.int (Int32.ofInt (σ k j.val)) = Value.int (Int32.ofInt (τ k j.val))
    rw [e k j.val (Or.inr (by omega))]
  · rw [ent_congr X (σ := τ) (τ := σ) (fun j => e k j (Or.inl (by omega)))]
    exact h0
theorem InvW.norm {τ : Sg} (h : InvW τ) : ∃ τ', Inv τ' ∧ ∀ x y, (x ≠ 7 ∧ x ≠ 26) ∨ (0 ≤ y ∧ y < 24) → τ' x y = τ x y := by
  obtain ⟨⟨d1, d2, d3⟩, h2, h3, h4⟩ := h
  have e : ∀ x y, (x ≠ 7 ∧ x ≠ 26) ∨ (0 ≤ y ∧ y < 24) → (fun x y => if (x = 7 ∨ x = 26) ∧ ¬ (0 ≤ y ∧ y < 24) then -1 else τ x y : Sg) x y = τ x y := fun x y hx => if_neg (by omega)
  generalize ht : (fun x y => if (x = 7 ∨ x = 26) ∧ ¬ (0 ≤ y ∧ y < 24) then -1 else τ x y : Sg) = τ' at e
  refine ⟨τ', ⟨⟨by rw [e 6 0 (by omega), e 1 0 (by omega)]; exact d1, ?_, ?_⟩, h2.tr fun x y hx => e x y (by omega), h3.tr ⟨e 0 3 (by omega), e 0 4 (by omega)⟩ (fun x y a1 a2 => e x y (by omega)), h4.tr fun x y hx => e x y (by omega)⟩, e⟩
  · funext y
    by_cases c : 0 ≤ y ∧ y < 24
    · rw [e 26 y (by omega), e 7 y (by omega)]
      exact d2 y c.1 c.2
    · rw [← ht]
      show (if ((26 : Int) = 7 ∨ (26 : Int) = 26) ∧ ¬ (0 ≤ y ∧ y < 24) then -1 else τ 26 y) = (if ((7 : Int) = 7 ∨ (7 : Int) = 26) ∧ ¬ (0 ≤ y ∧ y < 24) then -1 else τ 7 y)
      rw [if_pos ⟨Or.inr rfl, c⟩, if_pos ⟨Or.inl rfl, c⟩]
  · rw [e 1 0 (by omega)]
    exact d3.eqv fun a a0 a1 => e 7 a (by omega)
theorem iand31 (v : Int) : 0 ≤ iand32 v 31 ∧ iand32 v 31 ≤ 31 := by
  unfold iand32
  have e1 : (Int32.ofInt v &&& Int32.ofInt 31).toInt = ((Int32.ofInt v).toBitVec &&& 31#32).toInt := rfl
  have h1 : ((Int32.ofInt v).toBitVec &&& 31#32).toNat ≤ 31 := by
    rw [BitVec.toNat_and]
    exact Nat.and_le_right
  rw [e1, BitVec.toInt_eq_toNat_of_lt (by omega)]
  omega
theorem lor64_L (x y : Int) : inL (lor64 x y) := by
  have h1 := Int64.le_toInt (Int64.ofInt x ||| Int64.ofInt y)
  have h2 := Int64.toInt_lt (Int64.ofInt x ||| Int64.ofInt y)
  unfold lor64 inL
  omega
end LAWS

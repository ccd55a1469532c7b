/-! the law's start: the tables, the static row, both objects made, and on into the loop -/
theorem Inv_s0 : Inv s0 := by
  have e7 : ∀ y, s0 7 y = -1 := fun y => by unfold s0; rw [if_pos (by omega)]
  have e26 : ∀ y, s0 26 y = -1 := fun y => by unfold s0; rw [if_pos (by omega)]
  have e29 : ∀ y, s0 29 y = 21 := fun y => by unfold s0; rw [if_neg (by omega), if_pos (by omega)]
  have e41 : ∀ x y, 0 ≤ x → x < 4 → s0 (41 + x) y = 21 := fun x y h1 h2 => by unfold s0; rw [if_neg (by omega), if_pos (by omega)]
  have e10 : s0 1 0 = 8 := by unfold s0; rw [if_neg (by omega), if_neg (by omega), if_pos (by omega)]
  have e60 : s0 6 0 = 8 := by unfold s0; rw [if_neg (by omega), if_neg (by omega), if_pos (by omega)]
  have e41' : s0 4 1 = 3 := by unfold s0; rw [if_neg (by omega), if_neg (by omega), if_neg (by omega), if_pos (by omega)]
  have e67 : s0 6 7 = 3 := by unfold s0; rw [if_neg (by omega), if_neg (by omega), if_neg (by omega), if_pos (by omega)]
  have z : ∀ x y, x ≠ 7 → x ≠ 26 → x ≠ 29 → ¬ (41 ≤ x ∧ x < 45) → ¬ (x = 1 ∧ y = 0) → ¬ (x = 6 ∧ y = 0) → ¬ (x = 4 ∧ y = 1) → ¬ (x = 6 ∧ y = 7) → s0 x y = 0 := fun x y h1 h2 h3 h4 h5 h6 h7 h8 => by unfold s0; rw [if_neg (by omega), if_neg (by omega), if_neg (by omega), if_neg (by omega)]
  have z40 : s0 4 0 = 0 := z 4 0 (by omega) (by omega) (by omega) (by omega) (by omega) (by omega) (by omega) (by omega)
  have z42 : s0 4 2 = 0 := z 4 2 (by omega) (by omega) (by omega) (by omega) (by omega) (by omega) (by omega) (by omega)
  have z64 : s0 6 4 = 0 := z 6 4 (by omega) (by omega) (by omega) (by omega) (by omega) (by omega) (by omega) (by omega)
  have z68 : s0 6 8 = 0 := z 6 8 (by omega) (by omega) (by omega) (by omega) (by omega) (by omega) (by omega) (by omega)
  have z30 : s0 3 0 = 0 := z 3 0 (by omega) (by omega) (by omega) (by omega) (by omega) (by omega) (by omega) (by omega)
  have z31 : s0 3 1 = 0 := z 3 1 (by omega) (by omega) (by omega) (by omega) (by omega) (by omega) (by omega) (by omega)
  have z62 : s0 6 2 = 0 := z 6 2 (by omega) (by omega) (by omega) (by omega) (by omega) (by omega) (by omega) (by omega)
  have z03 : s0 0 3 = 0 := z 0 3 (by omega) (by omega) (by omega) (by omega) (by omega) (by omega) (by omega) (by omega)
  have z04 : s0 0 4 = 0 := z 0 4 (by omega) (by omega) (by omega) (by omega) (by omega) (by omega) (by omega) (by omega)
  refine ⟨⟨by rw [e10, e60], funext fun y => by rw [e7, e26], ?_⟩, ⟨⟨by omega, fun i i0 i1 => by omega, by omega, by omega, fun x y x0 x1 y0 y1 => by rw [e41 x y x0 x1]; omega⟩, ⟨by omega, fun i i0 i1 => by omega, by omega, by omega, fun x x0 x1 => by rw [e29]; omega⟩, ⟨by omega, by omega, by omega⟩, fun i i0 i1 => by omega, fun x y x0 x1 y0 y1 => by rw [e29, e41 x y x0 x1]⟩, ⟨Or.inl ⟨z03, fun g g0 g1 => z _ _ (by omega) (by omega) (by omega) (by omega) (by omega) (by omega) (by omega) (by omega)⟩, Or.inl ⟨z04, fun h x h0 h1 x0 x1 => z _ _ (by omega) (by omega) (by omega) (by omega) (by omega) (by omega) (by omega) (by omega), fun x x0 x1 => z _ _ (by omega) (by omega) (by omega) (by omega) (by omega) (by omega) (by omega) (by omega)⟩⟩, 0, by rw [z30]; rfl, by rw [z62]; rfl, ?_⟩
  · rw [e10]
    exact ⟨by omega, by omega, fun a _ _ => Or.inl (e7 a), fun a _ _ => e7 a⟩
  · rw [z31]
    exact SI.nil _ _ _
theorem LL0_congr2 {cA : Nat → ClassId} {A B : Nat → Nat} (h : ∀ id, ((23 ≤ id ∧ id < 26) ∨ (170 ≤ id ∧ id < 210)) → A id = B id) : LL0 cA A = LL0 cA B := by
  unfold LL0
  rw [seg_congr (r' := fun i => B (170 + i)) (h 23 (by omega)) (fun i hi => h (170 + i) (by omega)), seg_congr (r' := fun i => B (183 + i)) (h 24 (by omega)) (fun i hi => h (183 + i) (by omega)), seg_congr (r' := fun i => B (196 + i)) (h 25 (by omega)) (fun i hi => h (196 + i) (by omega))]
theorem fvs0_congr2 {A B : Nat → Nat} (h : ∀ id, ((23 ≤ id ∧ id < 26) ∨ (170 ≤ id ∧ id < 210)) → A id = B id) : fvs A s0 0 = fvs B s0 0 := by
  show ([.ref (A 23), .ref (A 24), .ref (A 25), .int (Int32.ofInt (s0 0 3)), .int (Int32.ofInt (s0 0 4))] : List Value) = [.ref (B 23), .ref (B 24), .ref (B 25), .int (Int32.ofInt (s0 0 3)), .int (Int32.ofInt (s0 0 4))]
  rw [h 23 (by omega), h 24 (by omega), h 25 (by omega)]
theorem LL5_congr {cA : Nat → ClassId} {A B : Nat → Nat} (h : ∀ id, id < 210 → id ≠ 5 → id ≠ 6 → ¬ (26 ≤ id ∧ id ≤ 40) → A id = B id) : LL5 cA A = LL5 cA B := by
  unfold LL5
  rw [h 0 (by omega) (by omega) (by omega) (by omega), h 1 (by omega) (by omega) (by omega) (by omega), h 2 (by omega) (by omega) (by omega) (by omega), h 3 (by omega) (by omega) (by omega) (by omega), h 4 (by omega) (by omega) (by omega) (by omega)]
  have b1 : ∀ id, (7 ≤ id ∧ id < 12) → A id = B id := fun id hi => h id (by omega) (by omega) (by omega) (by omega)
  have b0 : ∀ id, ((23 ≤ id ∧ id < 26) ∨ (170 ≤ id ∧ id < 210)) → A id = B id := fun id hi => h id (by omega) (by omega) (by omega) (by omega)
  have b3 : ∀ id, (12 ≤ id ∧ id < 14) → A id = B id := fun id hi => h id (by omega) (by omega) (by omega) (by omega)
  have b4 : ∀ id, (id = 14 ∨ id = 15 ∨ (41 ≤ id ∧ id < 45)) → A id = B id := fun id hi => h id (by omega) (by omega) (by omega) (by omega)
  have b2 : ∀ id, ((16 ≤ id ∧ id < 23) ∨ (45 ≤ id ∧ id < 170)) → A id = B id := fun id hi => h id (by omega) (by omega) (by omega) (by omega)
  rw [LL1_congr b1, LL0_congr2 b0, LL3_congr b3, LL4_congr b4, LL2_congr b2, fvs1_congr b1, fvs0_congr2 b0, fvs3_congr b3, fvs4_congr b4, fvs2_congr b2]
theorem LL6_congr {cA : Nat → ClassId} {A B : Nat → Nat} (h : ∀ id, (26 ≤ id ∧ id ≤ 40) → A id = B id) : LL6 cA A = LL6 cA B := by
  unfold LL6
  rw [h 26 (by omega), h 27 (by omega), h 28 (by omega), h 29 (by omega), h 30 (by omega), h 31 (by omega), h 32 (by omega), h 33 (by omega), h 34 (by omega), h 35 (by omega), h 36 (by omega), h 37 (by omega), h 38 (by omega), h 39 (by omega), h 40 (by omega)]
theorem fvs5_congr {A B : Nat → Nat} (h : ∀ id, id < 5 → A id = B id) : fvs A s0 5 = fvs B s0 5 := by
  show ([.ref (A 1), .ref (A 0), .ref (A 3), .ref (A 4), .ref (A 2)] : List Value) = [.ref (B 1), .ref (B 0), .ref (B 3), .ref (B 4), .ref (B 2)]
  rw [h 0 (by omega), h 1 (by omega), h 2 (by omega), h 3 (by omega), h 4 (by omega)]
theorem fvs_congr {A B : Nat → Nat} {σ : Sg} {ci : Nat} (h : ∀ x, x + 3 ∈ FK ci → A x = B x) : fvs A σ ci = fvs B σ ci := by
  unfold fvs
  apply List.ext_getElem?
  intro n
  rw [List.getElem?_mapIdx, List.getElem?_mapIdx]
  cases hf : (FK ci)[n]? with
  | none => rfl
  | some f =>
    simp only [Option.map_some]
    congr 1
    have hm := List.mem_of_getElem? hf
    match f, hm with
    | 0, _ => rfl
    | 1, _ => rfl
    | 2, _ => rfl
    | x + 3, hm =>
      show Value.ref (A x) = Value.ref (B x)
      rw [h x hm]
theorem fvs6_congr {A B : Nat → Nat} (h : ∀ id, (26 ≤ id ∧ id ≤ 40) → A id = B id) : fvs A s0 6 = fvs B s0 6 := by
  refine fvs_congr (fun x hx => h x ?_)
  have hx : x + 3 ∈ [0, 29, 0, 30, 0, 31, 32, 0, 0, 33, 34, 35, 36, 37, 38, 39, 40, 41, 42, 43] := hx
  simp only [List.mem_cons, List.not_mem_nil, or_false] at hx
  omega
theorem tbl1 {i : Nat} {w : Cond} (h : tables_1_1[i]? = some w) : w ∈ lw_tbl := List.mem_append_right _ (List.mem_append_left _ (List.mem_of_getElem? h))
theorem tbl2 {i : Nat} {w : Cond} (h : tables_1_2[i]? = some w) : w ∈ lw_tbl := List.mem_append_right _ (List.mem_append_right _ (List.mem_append_left _ (List.mem_of_getElem? h)))
theorem arr_prim {args : Array Value} {s : State} {ty : FieldType} (h : (Cond.arrayClass ty).before args s = true) : ∃ cA : ClassId, ArrOfT s cA ty ∧ s.vm.findClass ("[" ++ ty.toString) = some cA := by
  obtain ⟨cA, k, comp, h1, h2, h3⟩ := Cond.arrayClass_spec h
  exact ⟨cA, fun n z => ⟨fun k h => (by cases h), k, h2, comp, h3⟩, h1⟩
theorem arr_arr {args : Array Value} {s : State} {ty : FieldType} (h : (Cond.arrayOver (.array ty)).before args s = true) : ∃ cA : ClassId, ArrOfT s cA (.array ty) ∧ s.vm.findClass ("[" ++ (FieldType.array ty).toString) = some cA := by
  obtain ⟨comp, cA, k, -, h2, h3, h1⟩ := mn_over h
  exact ⟨cA, fun n z => ⟨fun k h => (by cases h), k, h2, comp, h3⟩, h1⟩
set_option maxRecDepth 100000 in
set_option maxHeartbeats 4000000 in
theorem k_start {args : Array Value} {s : State} (hts : ∀ w ∈ lw_tbl, w.before args s = true) : ∃ (D : va_G) (cA : Nat → ClassId), KcT D cA s := by
  have hG : ∀ w ∈ GG, w.before args s = true := fun w hw => hts w (GG_tbl w hw)
  obtain ⟨c0, i0, k0⟩ := u_known (C := RX0) (T := TX0) (N := 5) (n := 5) hG in_X0 (hG _ (mem1 (i := 54) rfl rfl))
  obtain ⟨c1, i1, k1⟩ := u_known (C := RX1) (T := TX1) (N := 6) (n := 6) hG in_X1 (hG _ (mem1 (i := 20) rfl rfl))
  obtain ⟨c2, i2, k2⟩ := u_known (C := RX2) (T := TX2) (N := 9) (n := 9) hG in_X2 (hG _ (mem1 (i := 131) rfl rfl))
  obtain ⟨c3, i3, k3⟩ := u_known (C := RX3) (T := TX3) (N := 4) (n := 4) hG in_X3 (hG _ (mem1 (i := 79) rfl rfl))
  obtain ⟨c4, i4, k4⟩ := u_known (C := RX4) (T := TX4) (N := 5) (n := 5) hG in_X4 (hG _ (mem1 (i := 100) rfl rfl))
  obtain ⟨c5, i5, k5⟩ := u_known (C := RX5) (T := TX5) (N := 5) (n := 5) hG in_X5 (hG _ (mem1 (i := 12) rfl rfl))
  obtain ⟨c6, i6, k6⟩ := u_known (C := RX6) (T := TX6) (N := 20) (n := 20) hG in_X6 (hG _ (mem3 (i := 58) rfl rfl))
  obtain ⟨d0, a0, f0⟩ := arr_prim (hG (.arrayClass .int) (mem1 (i := 51) rfl rfl))
  obtain ⟨d1, a1, f1⟩ := arr_prim (hG (.arrayClass .long) (mem1 (i := 77) rfl rfl))
  obtain ⟨d2, a2, f2⟩ := arr_prim (hG (.arrayClass .boolean) (mem1 (i := 52) rfl rfl))
  have o1 : (Cond.arrayOver (.array .int)).before args s = true := hts _ (tbl1 (i := 106) rfl)
  have o2 : (Cond.arrayOver (.array .long)).before args s = true := hts _ (tbl1 (i := 60) rfl)
  obtain ⟨d3, a3, f3⟩ := arr_arr o1
  obtain ⟨d4, a4, f4⟩ := arr_arr o2
  refine ⟨(fun k => match k with | 0 => c0 | 1 => c1 | 2 => c2 | 3 => c3 | 4 => c4 | 5 => c5 | _ => c6, fun k => match k with | 0 => i0 | 1 => i1 | 2 => i2 | 3 => i3 | 4 => i4 | 5 => i5 | _ => i6), fun k => match k with | 0 => d0 | 1 => d1 | 2 => d2 | 3 => d3 | _ => d4, ⟨?_, ?_⟩, va_AOA.of o1, va_AOA.of o2, va_Nw.of rfl (hts _ (tbl1 (i := 55) rfl)), va_Nw.of rfl (hts _ (tbl1 (i := 80) rfl)), va_Nw.of rfl (hts _ (tbl1 (i := 132) rfl))⟩
  · intro k q hq
    match k, hq with
    | 0, hq => cases hq; exact k0
    | 1, hq => cases hq; exact k1
    | 2, hq => cases hq; exact k2
    | 3, hq => cases hq; exact k3
    | 4, hq => cases hq; exact k4
    | 5, hq => cases hq; exact k5
    | 6, hq => cases hq; exact k6
    | k + 7, hq => simp [classes] at hq
  · intro k q hq
    match k, hq with
    | 0, hq => cases hq; exact ⟨a0, f0⟩
    | 1, hq => cases hq; exact ⟨a1, f1⟩
    | 2, hq => cases hq; exact ⟨a2, f2⟩
    | 3, hq => cases hq; exact ⟨a3, f3⟩
    | 4, hq => cases hq; exact ⟨a4, f4⟩
    | k + 5, hq => simp [tysG] at hq
set_option maxRecDepth 100000 in
theorem t_start {args : Array Value} {s : State} (hts : ∀ w ∈ lw_tbl, w.before args s = true) (hg : (Jvm.Cond.and given_1 narrow_1).before args s = true) : ∃ fd : Nat, va_Z "ChordFolds" "FULL_DRAWINGS" "[J" (.ref fd) (Ah s.heap.size) s s.heap ∧ va_T .long fd 13 (fun j => .long (Int64.ofInt (fdv j))) (Ah s.heap.size) s s.heap := by
  have hs := flat_of_before _ hg
  have hA : ∀ a : Nat, a < s.heap.size → ¬ Ah s.heap.size a := fun a h1 h2 => Nat.not_le.mpr h1 h2
  have key : ∀ j : Nat, j < 13 → (Term.elem (.static "ChordFolds" "FULL_DRAWINGS" "[J") (.int (Int32.ofNat j))).eval args s none [] s = some (.long (Int64.ofInt (fdv j))) := by
    intro j hj
    match j, hj with
    | 0, _ => exact va_eqtl (hs (.eq (.elem (.static "ChordFolds" "FULL_DRAWINGS" "[J") (.int 0)) (.long 1)) (by decide +kernel))
    | 1, _ => exact va_eqtl (hs (.eq (.elem (.static "ChordFolds" "FULL_DRAWINGS" "[J") (.int 1)) (.long 1)) (by decide +kernel))
    | 2, _ => exact va_eqtl (hs (.eq (.elem (.static "ChordFolds" "FULL_DRAWINGS" "[J") (.int 2)) (.long 3)) (by decide +kernel))
    | 3, _ => exact va_eqtl (hs (.eq (.elem (.static "ChordFolds" "FULL_DRAWINGS" "[J") (.int 3)) (.long 15)) (by decide +kernel))
    | 4, _ => exact va_eqtl (hs (.eq (.elem (.static "ChordFolds" "FULL_DRAWINGS" "[J") (.int 4)) (.long 105)) (by decide +kernel))
    | 5, _ => exact va_eqtl (hs (.eq (.elem (.static "ChordFolds" "FULL_DRAWINGS" "[J") (.int 5)) (.long 945)) (by decide +kernel))
    | 6, _ => exact va_eqtl (hs (.eq (.elem (.static "ChordFolds" "FULL_DRAWINGS" "[J") (.int 6)) (.long 10395)) (by decide +kernel))
    | 7, _ => exact va_eqtl (hs (.eq (.elem (.static "ChordFolds" "FULL_DRAWINGS" "[J") (.int 7)) (.long 135135)) (by decide +kernel))
    | 8, _ => exact va_eqtl (hs (.eq (.elem (.static "ChordFolds" "FULL_DRAWINGS" "[J") (.int 8)) (.long 2027025)) (by decide +kernel))
    | 9, _ => exact va_eqtl (hs (.eq (.elem (.static "ChordFolds" "FULL_DRAWINGS" "[J") (.int 9)) (.long 34459425)) (by decide +kernel))
    | 10, _ => exact va_eqtl (hs (.eq (.elem (.static "ChordFolds" "FULL_DRAWINGS" "[J") (.int 10)) (.long 654729075)) (by decide +kernel))
    | 11, _ => exact va_eqtl (hs (.eq (.elem (.static "ChordFolds" "FULL_DRAWINGS" "[J") (.int 11)) (.long 13749310575)) (by decide +kernel))
    | 12, _ => exact va_eqtl (hs (.eq (.elem (.static "ChordFolds" "FULL_DRAWINGS" "[J") (.int 12)) (.long 316234143225)) (by decide +kernel))
    | j + 13, h => omega
  obtain ⟨fd, h1, h2⟩ := va_Tof (args := args) (s := s) (tm := .static "ChordFolds" "FULL_DRAWINGS" "[J") (ty := .long) (N := 13) (f := fun j => .long (Int64.ofInt (fdv j))) (A := Ah s.heap.size) (by decide) (hs (.arrayOf (.static "ChordFolds" "FULL_DRAWINGS" "[J") .long) (by decide +kernel)) (va_eqt (hs (.eq (.length (.static "ChordFolds" "FULL_DRAWINGS" "[J")) (.int 13)) (by decide +kernel))) key hA
  exact ⟨fd, va_Zref (hts _ (tbl2 (i := 119) rfl)) (hts _ (tbl1 (i := 1) rfl)) h1 hA, h2⟩
theorem g_astore {p : Program} {l : Launch} {e : Env} {R : Room} {s : State} {m : MethodId} {args : Array Value} {below : List Frame} {meth : Method} {c : Code} {D : va_G} {cA : Nat → ClassId} {h : Nat} {Q : State → Prop} {nL o pc : Nat} {cc : ByteArray} {lv : List (Nat × Value)} {st : List Value} {ws : va_W} {k n : Nat} (C : Ci p s m args c D cA cc nL o h) {i : Fin 4} {x : Nat} {lv' : List (Nat × Value)} (hdg : decode cc pc = .ok (.astore_n i, 1)) (hn : (i : Nat) < nL) (hlv : ((i : Nat), Value.ref x) :: lv.filter (fun q => !(q.1 == (i : Nat)) && !(q.1 + 1 == (i : Nat) && q.2.category == 2)) = lv') (kk : Gx p l e R s m args below meth c D h Q nL (pc + 1) lv' st ws k n) : Gx p l e R s m args below meth c D h Q nL pc lv (.ref x :: st) ws k n := fun H locs la hP hD hS hl => lv_astore_n C.1 C.2.1 hdg rfl hl hn hlv (fun la1 hl1 => kk H locs la1 hP hD hS hl1)
theorem g_istore3 {p : Program} {l : Launch} {e : Env} {R : Room} {s : State} {m : MethodId} {args : Array Value} {below : List Frame} {meth : Method} {c : Code} {D : va_G} {cA : Nat → ClassId} {h : Nat} {Q : State → Prop} {nL o pc : Nat} {cc : ByteArray} {lv : List (Nat × Value)} {st : List Value} {ws : va_W} {k n : Nat} (C : Ci p s m args c D cA cc nL o h) {i : Fin 4} {x : Int32} {lv' : List (Nat × Value)} (hdg : decode cc pc = .ok (.istore_n i, 1)) (hn : (i : Nat) < nL) (hlv : ((i : Nat), Value.int x) :: lv.filter (fun q => !(q.1 == (i : Nat)) && !(q.1 + 1 == (i : Nat) && q.2.category == 2)) = lv') (kk : Gx p l e R s m args below meth c D h Q nL (pc + 1) lv' st ws k n) : Gx p l e R s m args below meth c D h Q nL pc lv (.int x :: st) ws k n := fun H locs la hP hD hS hl => lv_istore_n C.1 C.2.1 hdg rfl hl hn hlv (fun la1 hl1 => kk H locs la1 hP hD hS hl1)
/-- both objects are made: the law goes round -/
theorem into_loop {p : Program} {e : Env} {s : State} {m : MethodId} {below : List Frame} {meth : Method} {c : Code} (l : Launch) {b L : Nat} {xs : Nat → Int32} (hL : L ≤ 2048) (C0 : lw_At p s m meth c b L xs) {D : va_G} {cA : Nat → ClassId} (hK : KcT D cA s) {fd : Nat} (hZ : va_Z "ChordFolds" "FULL_DRAWINGS" "[J" (.ref fd) (Ah s.heap.size) s s.heap) (hT : va_T .long fd 13 (fun j => .long (Int64.ofInt (fdv j))) (Ah s.heap.size) s s.heap) {q5 q6 : Nat} {A5 A6 : Nat → Nat} {cells slots : Nat} (hc : cells ≤ 600000) (hsl : slots ≤ 7302250)
    {H : Heap} {locs : List Loc} {la : Array Slot} (hP : va_P D classes ((q5, .inr (5, fvs A5 s0 5)) :: (LL5 cA A5 ++ ((q6, .inr (6, fvs A6 s0 6)) :: LL6 cA A6))) H) (hD : va_D (Ah s.heap.size) ((q5, .inr (5, fvs A5 s0 5)) :: (LL5 cA A5 ++ ((q6, .inr (6, fvs A6 s0 6)) :: LL6 cA A6)))) (hS : va_S (Ah s.heap.size) s.heap H locs) (hl : lv_has la 4 [(3, .int (Int32.ofInt 0)), (2, .ref q6), (1, .ref q5), (0, .ref b)]) : W p l e room_1 s m #[Value.ref b] below meth c H locs cells slots (lw_Z below #[Value.ref b] s) (F0 m 18 la []) := by
  obtain ⟨hx, hb, hr, hml, hown, hts, hX, hbl, hlocks, hgv⟩ := id C0
  generalize hA : (fun id : Nat => if id = 5 then q5 else if id = 6 then q6 else if 26 ≤ id ∧ id ≤ 40 then A6 id else if id = 210 then fd else if id = 211 then b else A5 id) = A
  have a5 : A 5 = q5 := by rw [← hA]; rfl
  have a6 : A 6 = q6 := by rw [← hA]; rfl
  have a210 : A 210 = fd := by rw [← hA]; rfl
  have a211 : A 211 = b := by rw [← hA]; rfl
  have am : ∀ id, (26 ≤ id ∧ id ≤ 40) → A id = A6 id := fun id hi => by
    rw [← hA]
    show (if id = 5 then q5 else if id = 6 then q6 else if 26 ≤ id ∧ id ≤ 40 then A6 id else if id = 210 then fd else if id = 211 then b else A5 id) = _
    rw [if_neg (by omega), if_neg (by omega), if_pos hi]
  have ac : ∀ id, id < 210 → id ≠ 5 → id ≠ 6 → ¬ (26 ≤ id ∧ id ≤ 40) → A id = A5 id := fun id h1 h2 h3 h4 => by
    rw [← hA]
    show (if id = 5 then q5 else if id = 6 then q6 else if 26 ≤ id ∧ id ≤ 40 then A6 id else if id = 210 then fd else if id = 211 then b else A5 id) = _
    rw [if_neg h2, if_neg h3, if_neg h4, if_neg (by omega), if_neg (by omega)]
  have eW : ((q5, .inr (5, fvs A5 s0 5)) :: (LL5 cA A5 ++ ((q6, .inr (6, fvs A6 s0 6)) :: LL6 cA A6)) : va_W) = WW cA A := by
    unfold WW
    rw [a5, a6, LL5_congr ac, LL6_congr am, fvs5_congr (A := A) (B := A5) (fun id hi => ac id (by omega) (by omega) (by omega) (by omega)), fvs6_congr am]
  rw [eW] at hP hD
  have at' : ∀ i, i < 210 → (WW cA A)[off i]? = some (A i, ent (D, (cA, A)) s0 i) := fun i hi => WW_at (D, (cA, A)) i hi
  have inj : ∀ i j, i < 210 → j < 210 → A i = A j → i = j := fun i j hi hj hij => by
    have := hD.1 (off i) (off j) _ _ (at' i hi) (at' j hj) hij
    rw [← off_inv i hi, ← off_inv j hj, this]
  have fresh : ∀ i, i < 210 → s.heap.size ≤ A i := fun i hi => hD.2 (off i) _ (at' i hi)
  have rg : ∀ q, reg (D, (cA, A)) q → Ah s.heap.size q := by
    rintro q ⟨i, hi, rfl⟩
    exact fresh i hi
  have hSx : Sx (D, (cA, A)) s s.heap := ⟨hK.1, inj, by show va_Z _ _ _ (.ref (A 210)) _ _ _; rw [a210]; exact hZ.narrow rg, by show va_T _ (A 210) _ _ _ _ _; rw [a210]; exact hT.narrow rg, va_Nw.of rfl (hts _ (tbl2 (i := 125) rfl))⟩
  have C : LawC p s m meth c (D, (cA, A)) b L xs cells slots := ⟨⟨hx, hb, hml, hown, fun w hw => hts w (GG_tbl w hw), hSx⟩, hr, hlocks, a211, hX, hbl, fresh, hc, hsl, hL⟩
  obtain ⟨-, hv⟩ := law_loop (l := l) (e := e) (below := below) C (L + 1) 0 s0 Inv_s0 (by omega) (by omega) (by omega)
  refine va_forget (fun q hq => hS.2.2 q hq) ?_
  refine hv H [] la ?_ ⟨hS.1, fun q h1 _ => hS.2.1 q h1 (Nat.not_le.mpr h1), fun q hq => by cases hq⟩ ?_
  · intro k q hk
    have hk2 : k < 210 := by
      have := (List.getElem?_eq_some_iff.mp hk).1
      simpa [mkW] using this
    rw [mkW_at _ _ hk2] at hk
    cases hk
    exact hP (off k) _ (at' k hk2)
  · have e1 : lvs A 0 [some (aR 211), some (aR 5), some (aR 6), some (aI 0)] = [(0, .ref (A 211)), (1, .ref (A 5)), (2, .ref (A 6)), (3, .int (Int32.ofInt 0))] := rfl
    show lv_has la 4 (lvs A 0 [some (aR 211), some (aR 5), some (aR 6), some (aI 0)])
    rw [e1, a211, a5, a6]
    exact lv_sub hl [3, 2, 1, 0] rfl
set_option maxHeartbeats 4000000 in
set_option maxRecDepth 100000 in
/-- THE LAW, from its entry -/
theorem whole_start {p : Program} {e : Env} {s : State} {m : MethodId} {below : List Frame} {meth : Method} {c : Code} (l : Launch) {b L : Nat} {xs : Nat → Int32} (hL : L ≤ 2048) (C0 : lw_At p s m meth c b L xs) : W p l e room_1 s m #[Value.ref b] below meth c s.heap [] 0 0 (lw_Z below #[Value.ref b] s) (entryFrame m ([Value.ref b] : List Value).toArray 4) := by
  obtain ⟨hx, hb, hr, hml, hown, hts, hX, hbl, hlocks, hgv⟩ := id C0
  obtain ⟨D, cA, hK⟩ := k_start hts
  obtain ⟨fd, hZ, hT⟩ := t_start hts hgv
  have C : Ci p s m #[Value.ref b] c D cA code 4 7 s.heap.size := ⟨hx, hb, hml, hown, fun w hw => hts w (GG_tbl w hw), hK, Nat.le_refl _⟩
  have hl := lv_entry ([.ref b]) (n := 4) (Nat.le_of_ble_eq_true rfl)
  rw [lg_entry_eq]
  generalize (lg_sl ([.ref b]) ++ List.replicate (4 - (lg_sl ([.ref b])).length) Slot.unset).toArray = ls at hl ⊢
  have hl : lv_has ls 4 [(0, .ref b)] := hl
  have main : Gx p l e room_1 s m #[Value.ref b] below meth c D s.heap.size (lw_Z below #[Value.ref b] s) 4 0 [(0, .ref b)] [] [] 0 0 := by
    refine g_new C (ci := 5) (fs := bln 5) (by decide) (mem1 (i := 11) rfl rfl) (mem1 (i := 12) rfl rfl) (mem1 (i := 1) rfl rfl) (fun j h9 => by have h9 : j < 5 := h9; rcases (show j = 0 ∨ j = 1 ∨ j = 2 ∨ j = 3 ∨ j = 4 by omega) with rfl | rfl | rfl | rfl | rfl <;> rfl) (Nat.le_of_ble_eq_true rfl) (Nat.le_of_ble_eq_true rfl) D_L_law_1.1 (fun q5 => ?_)
    refine g_dup C D_L_law_1.2.1 ?_
    refine g_init C (con_X5 l D cA s.heap.size) (jx := 0) rfl (mem1 (i := 15) rfl rfl) (mem1 (i := 1) rfl rfl) (mem1 (i := 13) rfl rfl) (mem1 (i := 14) rfl rfl) rfl ⟨by decide, by decide, by decide +kernel⟩ ⟨Nat.le_of_ble_eq_true rfl, Nat.le_of_ble_eq_true rfl⟩ ⟨Nat.le_of_ble_eq_true rfl, Nat.le_of_ble_eq_true rfl⟩ (Nat.le_of_ble_eq_true rfl) D_L_law_1.2.2.1 (fun A5 => ?_)
    refine g_astore C (lv' := [(1, .ref q5), (0, .ref b)]) D_L_law_1.2.2.2.1 (by decide) rfl ?_
    refine g_new C (ci := 6) (fs := bln 6) (by decide) (mem3 (i := 57) rfl rfl) (mem3 (i := 58) rfl rfl) (mem1 (i := 8) rfl rfl) (fun j h9 => by have h9 : j < 20 := h9; rcases (show j = 0 ∨ j = 1 ∨ j = 2 ∨ j = 3 ∨ j = 4 ∨ j = 5 ∨ j = 6 ∨ j = 7 ∨ j = 8 ∨ j = 9 ∨ j = 10 ∨ j = 11 ∨ j = 12 ∨ j = 13 ∨ j = 14 ∨ j = 15 ∨ j = 16 ∨ j = 17 ∨ j = 18 ∨ j = 19 by omega) with rfl | rfl | rfl | rfl | rfl | rfl | rfl | rfl | rfl | rfl | rfl | rfl | rfl | rfl | rfl | rfl | rfl | rfl | rfl | rfl <;> rfl) (Nat.le_of_ble_eq_true rfl) (Nat.le_of_ble_eq_true rfl) D_L_law_1.2.2.2.2.1 (fun q6 => ?_)
    refine g_dup C D_L_law_1.2.2.2.2.2.1 ?_
    have eB : (([] ++ [(q5, Sum.inr (5, bln 5))] : va_W).set 0 (q5, .inr (5, fvs A5 s0 5)) ++ LL5 cA A5) = (q5, .inr (5, fvs A5 s0 5)) :: LL5 cA A5 := rfl
    rw [eB]
    generalize hB : ((q5, Sum.inr (5, fvs A5 s0 5)) :: LL5 cA A5 : va_W) = B
    refine g_init C (con_X6 l D cA s.heap.size) (wsx := B ++ [(q6, .inr (6, bln 6))]) (jx := B.length) (q := q6) (st := [.ref q6]) (R := room_1) (k := 0 + 1 + 193 + 1) (n := 0 + NN 5 + 5481 + NN 6) (by simp) (mem3 (i := 61) rfl rfl) (mem1 (i := 8) rfl rfl) (mem3 (i := 59) rfl rfl) (mem3 (i := 60) rfl rfl) rfl ⟨by decide, by decide, by decide +kernel⟩ ⟨by exact Nat.le_of_ble_eq_true rfl, by exact Nat.le_of_ble_eq_true rfl⟩ ⟨by exact Nat.le_of_ble_eq_true rfl, by exact Nat.le_of_ble_eq_true rfl⟩ (by exact Nat.le_of_ble_eq_true rfl) D_L_law_1.2.2.2.2.2.2.1 (fun A6 => ?_)
    have eE : ((B ++ [(q6, Sum.inr (6, bln 6))]).set B.length (q6, .inr (6, fvs A6 s0 6)) ++ LL6 cA A6) = B ++ ((q6, .inr (6, fvs A6 s0 6)) :: LL6 cA A6) := by simp
    rw [eE]
    refine g_astore C (lv' := [(2, .ref q6), (1, .ref q5), (0, .ref b)]) D_L_law_1.2.2.2.2.2.2.2.1 (by decide) rfl ?_
    refine g_iconst C (v := Int32.ofInt 0) D_L_law_1.2.2.2.2.2.2.2.2.1 rfl ?_
    refine g_istore3 C (lv' := [(3, .int (Int32.ofInt 0)), (2, .ref q6), (1, .ref q5), (0, .ref b)]) D_L_law_1.2.2.2.2.2.2.2.2.2.1 (by decide) rfl ?_
    intro H locs la hP hD hS hl
    rw [← hB, List.cons_append] at hP hD
    exact into_loop l hL C0 hK hZ hT (Nat.le_of_ble_eq_true rfl) (Nat.le_of_ble_eq_true rfl) hP hD hS hl
  exact main s.heap [] ls (fun k q h => by simp at h) ⟨fun i j p q h => by simp at h, fun k q h => by simp at h⟩ va_S.rf hl

/-! the constructors, walked (made by gen_cons.py) -/
theorem loop_c {p : Program} {l : Launch} {e : Env} {R : Room} {s : State} {m : MethodId} {args : Array Value} {below : List Frame} {meth : Method} {c : Code} {D : va_G} {h : Nat} {Q : State → Prop} {nL pc tgt : Nat} {ws0 : va_W} {j a ci b : Nat} {fs : List Value} {L : va_W} {k n : Nat} {i q N : Nat} {c9 : ClassId} {f : Nat → Int32} {v : Int32} (hL : L[i]? = some (q, .inl (c9, N, .inl f)))
    (step : ∀ (L9 : va_W) (i9 : Nat) (f9 : Nat → Int32), i9 < N → L9[i]? = some (q, .inl (c9, N, .inl f9)) → Gc p l e R s m args below meth c D h Q nL ws0 j a ci pc [(1, .int (Int32.ofInt ((i9 : Int) + 1))), (0, .ref b)] [] fs (L9.set i (q, .inl (c9, N, .inl (upd f9 i9 v)))) k n → Gc p l e R s m args below meth c D h Q nL ws0 j a ci pc [(1, .int (Int32.ofInt (i9 : Int))), (0, .ref b)] [] fs L9 k n)
    (last : ∀ L9 : va_W, L9 = L.set i (q, .inl (c9, N, .inl (fun _ => v))) → Gc p l e R s m args below meth c D h Q nL ws0 j a ci tgt [(1, .int (Int32.ofInt (N : Int))), (0, .ref b)] [] fs L9 k n → Gc p l e R s m args below meth c D h Q nL ws0 j a ci pc [(1, .int (Int32.ofInt (N : Int))), (0, .ref b)] [] fs L9 k n)
    (kk : Gc p l e R s m args below meth c D h Q nL ws0 j a ci tgt [(1, .int (Int32.ofInt (N : Int))), (0, .ref b)] [] fs (L.set i (q, .inl (c9, N, .inl (fun _ => v)))) k n) : Gc p l e R s m args below meth c D h Q nL ws0 j a ci pc [(1, .int (Int32.ofInt 0)), (0, .ref b)] [] fs L k n := by
  have hi : i < L.length := (List.getElem?_eq_some_iff.mp hL).1
  have main : ∀ (r i9 : Nat), i9 + r = N → Gc p l e R s m args below meth c D h Q nL ws0 j a ci pc [(1, .int (Int32.ofInt (i9 : Int))), (0, .ref b)] [] fs (L.set i (q, .inl (c9, N, .inl (fun x => if x < i9 then v else f x)))) k n := by
    intro r
    induction r with
    | zero =>
      intro i9 e0
      have e1 : i9 = N := by omega
      subst e1
      refine c_fun hi (g := fun _ => v) (fun x hx => if_pos hx) ?_
      exact last _ rfl kk
    | succ r ih =>
      intro i9 e0
      refine step _ i9 _ (by omega) (List.getElem?_set_self hi) ?_
      rw [List.set_set]
      refine c_fun hi (g := fun x => if x < i9 + 1 then v else f x) (fun x hx => ?_) ?_
      · unfold upd
        by_cases c0 : x = i9
        · rw [if_pos c0, if_pos (by omega)]
        · rw [if_neg c0]
          show (if x < i9 then v else f x) = _
          by_cases c1 : x < i9
          · rw [if_pos c1, if_pos (by omega)]
          · rw [if_neg c1, if_neg (by omega)]
      · exact ih (i9 + 1) (by omega)
  have := main N 0 (by omega)
  have e2 : L.set i (q, .inl (c9, N, .inl (fun x => if x < 0 then v else f x))) = L := by
    have : (fun x : Nat => if x < 0 then v else f x) = f := funext fun x => if_neg (by omega)
    rw [this]
    exact set_same hL
  rw [e2] at this
  exact this
set_option maxRecDepth 100000 in
set_option maxHeartbeats 4000000 in
theorem con_X1 (l : Launch) (D : va_G) (cA : Nat → ClassId) (h : Nat) : Con l D cA h 1 yX1_init cX1_init 1 (LL1 cA) 2 5 120 := by
  refine Con.of (by decide) rfl rfl (by decide) ?_
  intro p e s m below meth c ws j a C hin hr hlk hj
  refine g_aload C 0 D_X1_init.1 rfl ?_
  refine g_obj C (mem1 (i := 24) rfl rfl) (mem1 (i := 17) rfl rfl) (mem1 (i := 18) rfl rfl) D_X1_init.2.1 rfl ⟨by decide, by decide⟩ ?_
  refine g_aload C 0 D_X1_init.2.2.1 rfl ?_
  refine g_bipush C (v := Int32.ofInt (24)) D_X1_init.2.2.2.1 (ofI_b (by decide) (by decide)) ?_
  refine c_newa C (a0 := zI 24) (i := 0) (ty := .int) rfl (mem1 (i := 51) rfl rfl) rfl (fun _ z => z) (fun _ => rfl) (by decide) (by decide) (by decide) (Nat.le_of_ble_eq_true rfl) (Nat.le_of_ble_eq_true rfl) D_X1_init.2.2.2.2.1 (fun q0 => ?_)
  refine c_putF C hin hj rfl (by decide) (kf := 1) (by decide) (mem1 (i := 31) rfl rfl) rfl rfl (tyN_ok (by decide) 1 (by decide)) rfl rfl (Nat.le_of_ble_eq_true rfl) D_X1_init.2.2.2.2.2.1 ?_
  refine g_aload C 0 D_X1_init.2.2.2.2.2.2.1 rfl ?_
  refine g_bipush C (v := Int32.ofInt (24)) D_X1_init.2.2.2.2.2.2.2.1 (ofI_b (by decide) (by decide)) ?_
  refine c_newa C (a0 := zI 24) (i := 0) (ty := .int) rfl (mem1 (i := 51) rfl rfl) rfl (fun _ z => z) (fun _ => rfl) (by decide) (by decide) (by decide) (Nat.le_of_ble_eq_true rfl) (Nat.le_of_ble_eq_true rfl) D_X1_init.2.2.2.2.2.2.2.2.1 (fun q1 => ?_)
  refine c_putF C hin hj rfl (by decide) (kf := 2) (by decide) (mem1 (i := 34) rfl rfl) rfl rfl (tyN_ok (by decide) 2 (by decide)) rfl rfl (Nat.le_of_ble_eq_true rfl) D_X1_init.2.2.2.2.2.2.2.2.2.1 ?_
  refine g_aload C 0 D_X1_init.2.2.2.2.2.2.2.2.2.2.1 rfl ?_
  refine g_bipush C (v := Int32.ofInt (24)) D_X1_init.2.2.2.2.2.2.2.2.2.2.2.1 (ofI_b (by decide) (by decide)) ?_
  refine c_newa C (a0 := zI 24) (i := 0) (ty := .int) rfl (mem1 (i := 51) rfl rfl) rfl (fun _ z => z) (fun _ => rfl) (by decide) (by decide) (by decide) (Nat.le_of_ble_eq_true rfl) (Nat.le_of_ble_eq_true rfl) D_X1_init.2.2.2.2.2.2.2.2.2.2.2.2.1 (fun q2 => ?_)
  refine c_putF C hin hj rfl (by decide) (kf := 3) (by decide) (mem1 (i := 35) rfl rfl) rfl rfl (tyN_ok (by decide) 3 (by decide)) rfl rfl (Nat.le_of_ble_eq_true rfl) D_X1_init.2.2.2.2.2.2.2.2.2.2.2.2.2.1 ?_
  refine g_aload C 0 D_X1_init.2.2.2.2.2.2.2.2.2.2.2.2.2.2.1 rfl ?_
  refine g_bipush C (v := Int32.ofInt (24)) D_X1_init.2.2.2.2.2.2.2.2.2.2.2.2.2.2.2.1 (ofI_b (by decide) (by decide)) ?_
  refine c_newa C (a0 := zI 24) (i := 2) (ty := .boolean) rfl (mem1 (i := 52) rfl rfl) rfl (fun _ z => z) (fun _ => rfl) (by decide) (by decide) (by decide) (Nat.le_of_ble_eq_true rfl) (Nat.le_of_ble_eq_true rfl) D_X1_init.2.2.2.2.2.2.2.2.2.2.2.2.2.2.2.2.1 (fun q3 => ?_)
  refine c_putF C hin hj rfl (by decide) (kf := 4) (by decide) (mem1 (i := 36) rfl rfl) rfl rfl (tyN_ok (by decide) 4 (by decide)) rfl rfl (Nat.le_of_ble_eq_true rfl) D_X1_init.2.2.2.2.2.2.2.2.2.2.2.2.2.2.2.2.2.1 ?_
  refine g_aload C 0 D_X1_init.2.2.2.2.2.2.2.2.2.2.2.2.2.2.2.2.2.2.1 rfl ?_
  refine g_bipush C (v := Int32.ofInt (24)) D_X1_init.2.2.2.2.2.2.2.2.2.2.2.2.2.2.2.2.2.2.2.1 (ofI_b (by decide) (by decide)) ?_
  refine c_newa C (a0 := zI 24) (i := 0) (ty := .int) rfl (mem1 (i := 51) rfl rfl) rfl (fun _ z => z) (fun _ => rfl) (by decide) (by decide) (by decide) (Nat.le_of_ble_eq_true rfl) (Nat.le_of_ble_eq_true rfl) D_X1_init.2.2.2.2.2.2.2.2.2.2.2.2.2.2.2.2.2.2.2.2.1 (fun q4 => ?_)
  refine c_putF C hin hj rfl (by decide) (kf := 5) (by decide) (mem1 (i := 37) rfl rfl) rfl rfl (tyN_ok (by decide) 5 (by decide)) rfl rfl (Nat.le_of_ble_eq_true rfl) D_X1_init.2.2.2.2.2.2.2.2.2.2.2.2.2.2.2.2.2.2.2.2.2.1 ?_
  refine g_aload C 0 D_X1_init.2.2.2.2.2.2.2.2.2.2.2.2.2.2.2.2.2.2.2.2.2.2.1 rfl ?_
  refine g_bipush C (v := Int32.ofInt (8)) D_X1_init.2.2.2.2.2.2.2.2.2.2.2.2.2.2.2.2.2.2.2.2.2.2.2.1 (ofI_b (by decide) (by decide)) ?_
  refine c_put C hj (by decide) (kf := 0) (by decide) (mem1 (i := 28) rfl rfl) rfl (tyN_ok (by decide) 0 (by decide)) rfl rfl (Nat.le_of_ble_eq_true rfl) D_X1_init.2.2.2.2.2.2.2.2.2.2.2.2.2.2.2.2.2.2.2.2.2.2.2.2.1 ?_
  refine g_aload C 0 D_X1_init.2.2.2.2.2.2.2.2.2.2.2.2.2.2.2.2.2.2.2.2.2.2.2.2.2.1 rfl ?_
  refine c_get C hj (by decide) (kf := 1) (by decide) (mem1 (i := 31) rfl rfl) rfl D_X1_init.2.2.2.2.2.2.2.2.2.2.2.2.2.2.2.2.2.2.2.2.2.2.2.2.2.2.1 ?_
  refine g_iconst C (v := Int32.ofInt (-1)) D_X1_init.2.2.2.2.2.2.2.2.2.2.2.2.2.2.2.2.2.2.2.2.2.2.2.2.2.2.2.1 rfl ?_
  refine c_fill C (i := 0) rfl (by decide) (mem1 (i := 25) rfl rfl) ⟨by decide, by decide⟩ ⟨(Nat.le_of_ble_eq_true rfl), (Nat.le_of_ble_eq_true rfl)⟩ D_X1_init.2.2.2.2.2.2.2.2.2.2.2.2.2.2.2.2.2.2.2.2.2.2.2.2.2.2.2.2.1 ?_
  exact c_ret C hr hlk (fun id => if id = 7 then q0 else if id = 8 then q1 else if id = 9 then q2 else if id = 10 then q3 else if id = 11 then q4 else 0) rfl rfl D_X1_init.2.2.2.2.2.2.2.2.2.2.2.2.2.2.2.2.2.2.2.2.2.2.2.2.2.2.2.2.2
set_option maxRecDepth 100000 in
set_option maxHeartbeats 4000000 in
theorem con_X0 (l : Launch) (D : va_G) (cA : Nat → ClassId) (h : Nat) : Con l D cA h 0 yX0_init cX0_init 1 (LL0 cA) 2 43 1940 := by
  refine Con.of (by decide) rfl rfl (by decide) ?_
  intro p e s m below meth c ws j a C hin hr hlk hj
  refine g_aload C 0 D_X0_init.1 rfl ?_
  refine g_obj C (mem1 (i := 58) rfl rfl) (mem1 (i := 17) rfl rfl) (mem1 (i := 18) rfl rfl) D_X0_init.2.1 rfl ⟨by decide, by decide⟩ ?_
  refine g_aload C 0 D_X0_init.2.2.1 rfl ?_
  refine g_bipush C (v := Int32.ofInt (13)) D_X0_init.2.2.2.1 (ofI_b (by decide) (by decide)) ?_
  refine g_bipush C (v := Int32.ofInt (7)) D_X0_init.2.2.2.2.1 (ofI_b (by decide) (by decide)) ?_
  refine c_mna C (z := zL 7) (i1 := 1) (i2 := 4) (ty := .long) (N := 13) (K := 7) (mem1 (i := 59) rfl rfl) C.2.2.2.2.2.1.2.2.1 (mem1 (i := 77) rfl rfl) rfl rfl (fun _ z => z) rfl (by decide) (by decide) (by decide) (by decide) (by decide) (by decide) (by decide) rfl rfl (Nat.le_of_ble_eq_true rfl) (Nat.le_of_ble_eq_true rfl) (fun c9 => rfl) D_X0_init.2.2.2.2.2.1 (fun q0 r0 => ?_)
  refine c_putF C hin hj rfl (by decide) (kf := 0) (by decide) (mem1 (i := 61) rfl rfl) rfl rfl (tyN_ok (by decide) 0 (by decide)) rfl rfl (Nat.le_of_ble_eq_true rfl) D_X0_init.2.2.2.2.2.2.1 ?_
  refine g_aload C 0 D_X0_init.2.2.2.2.2.2.2.1 rfl ?_
  refine g_bipush C (v := Int32.ofInt (13)) D_X0_init.2.2.2.2.2.2.2.2.1 (ofI_b (by decide) (by decide)) ?_
  refine g_bipush C (v := Int32.ofInt (67)) D_X0_init.2.2.2.2.2.2.2.2.2.1 (ofI_b (by decide) (by decide)) ?_
  refine c_mna C (z := zL 67) (i1 := 1) (i2 := 4) (ty := .long) (N := 13) (K := 67) (mem1 (i := 59) rfl rfl) C.2.2.2.2.2.1.2.2.1 (mem1 (i := 77) rfl rfl) rfl rfl (fun _ z => z) rfl (by decide) (by decide) (by decide) (by decide) (by decide) (by decide) (by decide) rfl rfl (Nat.le_of_ble_eq_true rfl) (Nat.le_of_ble_eq_true rfl) (fun c9 => rfl) D_X0_init.2.2.2.2.2.2.2.2.2.2.1 (fun q1 r1 => ?_)
  refine c_putF C hin hj rfl (by decide) (kf := 1) (by decide) (mem1 (i := 62) rfl rfl) rfl rfl (tyN_ok (by decide) 1 (by decide)) rfl rfl (Nat.le_of_ble_eq_true rfl) D_X0_init.2.2.2.2.2.2.2.2.2.2.2.1 ?_
  refine g_aload C 0 D_X0_init.2.2.2.2.2.2.2.2.2.2.2.2.1 rfl ?_
  refine g_bipush C (v := Int32.ofInt (14)) D_X0_init.2.2.2.2.2.2.2.2.2.2.2.2.2.1 (ofI_b (by decide) (by decide)) ?_
  refine g_bipush C (v := Int32.ofInt (67)) D_X0_init.2.2.2.2.2.2.2.2.2.2.2.2.2.2.1 (ofI_b (by decide) (by decide)) ?_
  refine c_mna C (z := zL 67) (i1 := 1) (i2 := 4) (ty := .long) (N := 14) (K := 67) (mem1 (i := 59) rfl rfl) C.2.2.2.2.2.1.2.2.1 (mem1 (i := 77) rfl rfl) rfl rfl (fun _ z => z) rfl (by decide) (by decide) (by decide) (by decide) (by decide) (by decide) (by decide) rfl rfl (Nat.le_of_ble_eq_true rfl) (Nat.le_of_ble_eq_true rfl) (fun c9 => rfl) D_X0_init.2.2.2.2.2.2.2.2.2.2.2.2.2.2.2.1 (fun q2 r2 => ?_)
  refine c_putF C hin hj rfl (by decide) (kf := 2) (by decide) (mem1 (i := 63) rfl rfl) rfl rfl (tyN_ok (by decide) 2 (by decide)) rfl rfl (Nat.le_of_ble_eq_true rfl) D_X0_init.2.2.2.2.2.2.2.2.2.2.2.2.2.2.2.2.1 ?_
  refine c_ret C hr hlk (fun id => if id = 23 then q0 else if id = 24 then q1 else if id = 25 then q2 else  if 170 ≤ id ∧ id < 183 then r0 (id - 170) else if 183 ≤ id ∧ id < 196 then r1 (id - 183) else if 196 ≤ id ∧ id < 210 then r2 (id - 196) else 0) rfl ?_ D_X0_init.2.2.2.2.2.2.2.2.2.2.2.2.2.2.2.2.2
  unfold LL0
  rw [seg_congr (cO := cA 4) (cI := cA 1) (z := zL 7) (N := 13) (r' := r0) (q' := q0) (q := (fun id => if id = 23 then q0 else if id = 24 then q1 else if id = 25 then q2 else  if 170 ≤ id ∧ id < 183 then r0 (id - 170) else if 183 ≤ id ∧ id < 196 then r1 (id - 183) else if 196 ≤ id ∧ id < 210 then r2 (id - 196) else 0) 23) (r := fun i => (fun id => if id = 23 then q0 else if id = 24 then q1 else if id = 25 then q2 else  if 170 ≤ id ∧ id < 183 then r0 (id - 170) else if 183 ≤ id ∧ id < 196 then r1 (id - 183) else if 196 ≤ id ∧ id < 210 then r2 (id - 196) else 0) (170 + i)) rfl (fun i hi => by show (fun id => if id = 23 then q0 else if id = 24 then q1 else if id = 25 then q2 else  if 170 ≤ id ∧ id < 183 then r0 (id - 170) else if 183 ≤ id ∧ id < 196 then r1 (id - 183) else if 196 ≤ id ∧ id < 210 then r2 (id - 196) else 0) (170 + i) = _; simp only []; rw [if_neg (by omega), if_neg (by omega), if_neg (by omega), if_pos (by omega), show 170 + i - 170 = i from by omega])]
  rw [seg_congr (cO := cA 4) (cI := cA 1) (z := zL 67) (N := 13) (r' := r1) (q' := q1) (q := (fun id => if id = 23 then q0 else if id = 24 then q1 else if id = 25 then q2 else  if 170 ≤ id ∧ id < 183 then r0 (id - 170) else if 183 ≤ id ∧ id < 196 then r1 (id - 183) else if 196 ≤ id ∧ id < 210 then r2 (id - 196) else 0) 24) (r := fun i => (fun id => if id = 23 then q0 else if id = 24 then q1 else if id = 25 then q2 else  if 170 ≤ id ∧ id < 183 then r0 (id - 170) else if 183 ≤ id ∧ id < 196 then r1 (id - 183) else if 196 ≤ id ∧ id < 210 then r2 (id - 196) else 0) (183 + i)) rfl (fun i hi => by show (fun id => if id = 23 then q0 else if id = 24 then q1 else if id = 25 then q2 else  if 170 ≤ id ∧ id < 183 then r0 (id - 170) else if 183 ≤ id ∧ id < 196 then r1 (id - 183) else if 196 ≤ id ∧ id < 210 then r2 (id - 196) else 0) (183 + i) = _; simp only []; rw [if_neg (by omega), if_neg (by omega), if_neg (by omega), if_neg (by omega), if_pos (by omega), show 183 + i - 183 = i from by omega])]
  rw [seg_congr (cO := cA 4) (cI := cA 1) (z := zL 67) (N := 14) (r' := r2) (q' := q2) (q := (fun id => if id = 23 then q0 else if id = 24 then q1 else if id = 25 then q2 else  if 170 ≤ id ∧ id < 183 then r0 (id - 170) else if 183 ≤ id ∧ id < 196 then r1 (id - 183) else if 196 ≤ id ∧ id < 210 then r2 (id - 196) else 0) 25) (r := fun i => (fun id => if id = 23 then q0 else if id = 24 then q1 else if id = 25 then q2 else  if 170 ≤ id ∧ id < 183 then r0 (id - 170) else if 183 ≤ id ∧ id < 196 then r1 (id - 183) else if 196 ≤ id ∧ id < 210 then r2 (id - 196) else 0) (196 + i)) rfl (fun i hi => by show (fun id => if id = 23 then q0 else if id = 24 then q1 else if id = 25 then q2 else  if 170 ≤ id ∧ id < 183 then r0 (id - 170) else if 183 ≤ id ∧ id < 196 then r1 (id - 183) else if 196 ≤ id ∧ id < 210 then r2 (id - 196) else 0) (196 + i) = _; simp only []; rw [if_neg (by omega), if_neg (by omega), if_neg (by omega), if_neg (by omega), if_neg (by omega), if_pos (by omega), show 196 + i - 196 = i from by omega])]
  rfl
set_option maxRecDepth 100000 in
set_option maxHeartbeats 4000000 in
theorem con_X3 (l : Launch) (D : va_G) (cA : Nat → ClassId) (h : Nat) : Con l D cA h 3 yX3_init cX3_init 1 (LL3 cA) 2 2 48 := by
  refine Con.of (by decide) rfl rfl (by decide) ?_
  intro p e s m below meth c ws j a C hin hr hlk hj
  refine g_aload C 0 D_X3_init.1 rfl ?_
  refine g_obj C (mem1 (i := 83) rfl rfl) (mem1 (i := 17) rfl rfl) (mem1 (i := 18) rfl rfl) D_X3_init.2.1 rfl ⟨by decide, by decide⟩ ?_
  refine g_aload C 0 D_X3_init.2.2.1 rfl ?_
  refine g_bipush C (v := Int32.ofInt (24)) D_X3_init.2.2.2.1 (ofI_b (by decide) (by decide)) ?_
  refine c_newa C (a0 := zI 24) (i := 0) (ty := .int) rfl (mem1 (i := 51) rfl rfl) rfl (fun _ z => z) (fun _ => rfl) (by decide) (by decide) (by decide) (Nat.le_of_ble_eq_true rfl) (Nat.le_of_ble_eq_true rfl) D_X3_init.2.2.2.2.1 (fun q0 => ?_)
  refine c_putF C hin hj rfl (by decide) (kf := 2) (by decide) (mem1 (i := 88) rfl rfl) rfl rfl (tyN_ok (by decide) 2 (by decide)) rfl rfl (Nat.le_of_ble_eq_true rfl) D_X3_init.2.2.2.2.2.1 ?_
  refine g_aload C 0 D_X3_init.2.2.2.2.2.2.1 rfl ?_
  refine g_bipush C (v := Int32.ofInt (24)) D_X3_init.2.2.2.2.2.2.2.1 (ofI_b (by decide) (by decide)) ?_
  refine c_newa C (a0 := zI 24) (i := 0) (ty := .int) rfl (mem1 (i := 51) rfl rfl) rfl (fun _ z => z) (fun _ => rfl) (by decide) (by decide) (by decide) (Nat.le_of_ble_eq_true rfl) (Nat.le_of_ble_eq_true rfl) D_X3_init.2.2.2.2.2.2.2.2.1 (fun q1 => ?_)
  refine c_putF C hin hj rfl (by decide) (kf := 3) (by decide) (mem1 (i := 89) rfl rfl) rfl rfl (tyN_ok (by decide) 3 (by decide)) rfl rfl (Nat.le_of_ble_eq_true rfl) D_X3_init.2.2.2.2.2.2.2.2.2.1 ?_
  exact c_ret C hr hlk (fun id => if id = 12 then q0 else if id = 13 then q1 else 0) rfl rfl D_X3_init.2.2.2.2.2.2.2.2.2.2
set_option maxRecDepth 100000 in
set_option maxHeartbeats 4000000 in
theorem con_X4 (l : Launch) (D : va_G) (cA : Nat → ClassId) (h : Nat) : Con l D cA h 4 yX4_init cX4_init 2 (LL4 cA) 2 6 44 := by
  refine Con.of (by decide) rfl rfl (by decide) ?_
  intro p e s m below meth c ws j a C hin hr hlk hj
  refine g_aload C 0 D_X4_init.1 rfl ?_
  refine g_obj C (mem1 (i := 104) rfl rfl) (mem1 (i := 17) rfl rfl) (mem1 (i := 18) rfl rfl) D_X4_init.2.1 rfl ⟨by decide, by decide⟩ ?_
  refine g_aload C 0 D_X4_init.2.2.1 rfl ?_
  refine g_iconst C (v := Int32.ofInt (3)) D_X4_init.2.2.2.1 rfl ?_
  refine c_put C hj (by decide) (kf := 1) (by decide) (mem1 (i := 111) rfl rfl) rfl (tyN_ok (by decide) 1 (by decide)) rfl rfl (Nat.le_of_ble_eq_true rfl) D_X4_init.2.2.2.2.1 ?_
  refine g_aload C 0 D_X4_init.2.2.2.2.2.1 rfl ?_
  refine g_iconst C (v := Int32.ofInt (4)) D_X4_init.2.2.2.2.2.2.1 rfl ?_
  refine g_iconst C (v := Int32.ofInt (4)) D_X4_init.2.2.2.2.2.2.2.1 rfl ?_
  refine c_mna C (z := zI 4) (i1 := 0) (i2 := 3) (ty := .int) (N := 4) (K := 4) (mem1 (i := 105) rfl rfl) C.2.2.2.2.2.1.2.1 (mem1 (i := 51) rfl rfl) rfl rfl (fun _ z => z) rfl (by decide) (by decide) (by decide) (by decide) (by decide) (by decide) (by decide) rfl rfl (Nat.le_of_ble_eq_true rfl) (Nat.le_of_ble_eq_true rfl) (fun c9 => rfl) D_X4_init.2.2.2.2.2.2.2.2.1 (fun q0 r0 => ?_)
  refine c_putF C hin hj rfl (by decide) (kf := 3) (by decide) (mem1 (i := 116) rfl rfl) rfl rfl (tyN_ok (by decide) 3 (by decide)) rfl rfl (Nat.le_of_ble_eq_true rfl) D_X4_init.2.2.2.2.2.2.2.2.2.1 ?_
  refine g_aload C 0 D_X4_init.2.2.2.2.2.2.2.2.2.2.1 rfl ?_
  refine g_bipush C (v := Int32.ofInt (24)) D_X4_init.2.2.2.2.2.2.2.2.2.2.2.1 (ofI_b (by decide) (by decide)) ?_
  refine c_newa C (a0 := zI 24) (i := 0) (ty := .int) rfl (mem1 (i := 51) rfl rfl) rfl (fun _ z => z) (fun _ => rfl) (by decide) (by decide) (by decide) (Nat.le_of_ble_eq_true rfl) (Nat.le_of_ble_eq_true rfl) D_X4_init.2.2.2.2.2.2.2.2.2.2.2.2.1 (fun q1 => ?_)
  refine c_putF C hin hj rfl (by decide) (kf := 4) (by decide) (mem1 (i := 118) rfl rfl) rfl rfl (tyN_ok (by decide) 4 (by decide)) rfl rfl (Nat.le_of_ble_eq_true rfl) D_X4_init.2.2.2.2.2.2.2.2.2.2.2.2.2.1 ?_
  refine g_iconst C (v := Int32.ofInt (0)) D_X4_init.2.2.2.2.2.2.2.2.2.2.2.2.2.2.1 rfl ?_
  refine g_istore1 C (lv' := [(1, .int (Int32.ofInt 0)), (0, .ref a)]) D_X4_init.2.2.2.2.2.2.2.2.2.2.2.2.2.2.2.1 (by decide) rfl ?_
  refine g_iload1 C 0 D_X4_init.2.2.2.2.2.2.2.2.2.2.2.2.2.2.2.2.1 rfl ?_
  refine g_iconst C (v := Int32.ofInt (4)) D_X4_init.2.2.2.2.2.2.2.2.2.2.2.2.2.2.2.2.2.1 rfl ?_
  refine g_icmpge_f C 51 D_X4_init.2.2.2.2.2.2.2.2.2.2.2.2.2.2.2.2.2.2.1 (by decide) (by decide) ?_
  refine g_aload C 1 D_X4_init.2.2.2.2.2.2.2.2.2.2.2.2.2.2.2.2.2.2.2.1 rfl ?_
  refine c_get C hj (by decide) (kf := 3) (by decide) (mem1 (i := 116) rfl rfl) rfl D_X4_init.2.2.2.2.2.2.2.2.2.2.2.2.2.2.2.2.2.2.2.2.1 ?_
  refine g_iload1 C 0 D_X4_init.2.2.2.2.2.2.2.2.2.2.2.2.2.2.2.2.2.2.2.2.2.1 rfl ?_
  refine c_aald C (i := 0) (r := r0) (x := 0) (v := r0 0) rfl (by decide) (by decide) (by decide) rfl D_X4_init.2.2.2.2.2.2.2.2.2.2.2.2.2.2.2.2.2.2.2.2.2.2.1 ?_
  refine g_bipush C (v := Int32.ofInt (21)) D_X4_init.2.2.2.2.2.2.2.2.2.2.2.2.2.2.2.2.2.2.2.2.2.2.2.1 (ofI_b (by decide) (by decide)) ?_
  refine c_fill C (i := 1) rfl (by decide) (mem1 (i := 107) rfl rfl) ⟨by decide, by decide⟩ ⟨(Nat.le_of_ble_eq_true rfl), (Nat.le_of_ble_eq_true rfl)⟩ D_X4_init.2.2.2.2.2.2.2.2.2.2.2.2.2.2.2.2.2.2.2.2.2.2.2.2.1 ?_
  refine g_iinc1 C 0 (i := 0) (lv' := [(1, .int (Int32.ofInt 1)), (0, .ref a)]) D_X4_init.2.2.2.2.2.2.2.2.2.2.2.2.2.2.2.2.2.2.2.2.2.2.2.2.2.1 rfl (by decide) rfl ?_
  refine g_goto C 29 D_X4_init.2.2.2.2.2.2.2.2.2.2.2.2.2.2.2.2.2.2.2.2.2.2.2.2.2.2.1 (by decide) ?_
  refine g_iload1 C 0 D_X4_init.2.2.2.2.2.2.2.2.2.2.2.2.2.2.2.2.1 rfl ?_
  refine g_iconst C (v := Int32.ofInt (4)) D_X4_init.2.2.2.2.2.2.2.2.2.2.2.2.2.2.2.2.2.1 rfl ?_
  refine g_icmpge_f C 51 D_X4_init.2.2.2.2.2.2.2.2.2.2.2.2.2.2.2.2.2.2.1 (by decide) (by decide) ?_
  refine g_aload C 1 D_X4_init.2.2.2.2.2.2.2.2.2.2.2.2.2.2.2.2.2.2.2.1 rfl ?_
  refine c_get C hj (by decide) (kf := 3) (by decide) (mem1 (i := 116) rfl rfl) rfl D_X4_init.2.2.2.2.2.2.2.2.2.2.2.2.2.2.2.2.2.2.2.2.1 ?_
  refine g_iload1 C 0 D_X4_init.2.2.2.2.2.2.2.2.2.2.2.2.2.2.2.2.2.2.2.2.2.1 rfl ?_
  refine c_aald C (i := 0) (r := r0) (x := 1) (v := r0 1) rfl (by decide) (by decide) (by decide) rfl D_X4_init.2.2.2.2.2.2.2.2.2.2.2.2.2.2.2.2.2.2.2.2.2.2.1 ?_
  refine g_bipush C (v := Int32.ofInt (21)) D_X4_init.2.2.2.2.2.2.2.2.2.2.2.2.2.2.2.2.2.2.2.2.2.2.2.1 (ofI_b (by decide) (by decide)) ?_
  refine c_fill C (i := 2) rfl (by decide) (mem1 (i := 107) rfl rfl) ⟨by decide, by decide⟩ ⟨(Nat.le_of_ble_eq_true rfl), (Nat.le_of_ble_eq_true rfl)⟩ D_X4_init.2.2.2.2.2.2.2.2.2.2.2.2.2.2.2.2.2.2.2.2.2.2.2.2.1 ?_
  refine g_iinc1 C 0 (i := 1) (lv' := [(1, .int (Int32.ofInt 2)), (0, .ref a)]) D_X4_init.2.2.2.2.2.2.2.2.2.2.2.2.2.2.2.2.2.2.2.2.2.2.2.2.2.1 rfl (by decide) rfl ?_
  refine g_goto C 29 D_X4_init.2.2.2.2.2.2.2.2.2.2.2.2.2.2.2.2.2.2.2.2.2.2.2.2.2.2.1 (by decide) ?_
  refine g_iload1 C 0 D_X4_init.2.2.2.2.2.2.2.2.2.2.2.2.2.2.2.2.1 rfl ?_
  refine g_iconst C (v := Int32.ofInt (4)) D_X4_init.2.2.2.2.2.2.2.2.2.2.2.2.2.2.2.2.2.1 rfl ?_
  refine g_icmpge_f C 51 D_X4_init.2.2.2.2.2.2.2.2.2.2.2.2.2.2.2.2.2.2.1 (by decide) (by decide) ?_
  refine g_aload C 1 D_X4_init.2.2.2.2.2.2.2.2.2.2.2.2.2.2.2.2.2.2.2.1 rfl ?_
  refine c_get C hj (by decide) (kf := 3) (by decide) (mem1 (i := 116) rfl rfl) rfl D_X4_init.2.2.2.2.2.2.2.2.2.2.2.2.2.2.2.2.2.2.2.2.1 ?_
  refine g_iload1 C 0 D_X4_init.2.2.2.2.2.2.2.2.2.2.2.2.2.2.2.2.2.2.2.2.2.1 rfl ?_
  refine c_aald C (i := 0) (r := r0) (x := 2) (v := r0 2) rfl (by decide) (by decide) (by decide) rfl D_X4_init.2.2.2.2.2.2.2.2.2.2.2.2.2.2.2.2.2.2.2.2.2.2.1 ?_
  refine g_bipush C (v := Int32.ofInt (21)) D_X4_init.2.2.2.2.2.2.2.2.2.2.2.2.2.2.2.2.2.2.2.2.2.2.2.1 (ofI_b (by decide) (by decide)) ?_
  refine c_fill C (i := 3) rfl (by decide) (mem1 (i := 107) rfl rfl) ⟨by decide, by decide⟩ ⟨(Nat.le_of_ble_eq_true rfl), (Nat.le_of_ble_eq_true rfl)⟩ D_X4_init.2.2.2.2.2.2.2.2.2.2.2.2.2.2.2.2.2.2.2.2.2.2.2.2.1 ?_
  refine g_iinc1 C 0 (i := 2) (lv' := [(1, .int (Int32.ofInt 3)), (0, .ref a)]) D_X4_init.2.2.2.2.2.2.2.2.2.2.2.2.2.2.2.2.2.2.2.2.2.2.2.2.2.1 rfl (by decide) rfl ?_
  refine g_goto C 29 D_X4_init.2.2.2.2.2.2.2.2.2.2.2.2.2.2.2.2.2.2.2.2.2.2.2.2.2.2.1 (by decide) ?_
  refine g_iload1 C 0 D_X4_init.2.2.2.2.2.2.2.2.2.2.2.2.2.2.2.2.1 rfl ?_
  refine g_iconst C (v := Int32.ofInt (4)) D_X4_init.2.2.2.2.2.2.2.2.2.2.2.2.2.2.2.2.2.1 rfl ?_
  refine g_icmpge_f C 51 D_X4_init.2.2.2.2.2.2.2.2.2.2.2.2.2.2.2.2.2.2.1 (by decide) (by decide) ?_
  refine g_aload C 1 D_X4_init.2.2.2.2.2.2.2.2.2.2.2.2.2.2.2.2.2.2.2.1 rfl ?_
  refine c_get C hj (by decide) (kf := 3) (by decide) (mem1 (i := 116) rfl rfl) rfl D_X4_init.2.2.2.2.2.2.2.2.2.2.2.2.2.2.2.2.2.2.2.2.1 ?_
  refine g_iload1 C 0 D_X4_init.2.2.2.2.2.2.2.2.2.2.2.2.2.2.2.2.2.2.2.2.2.1 rfl ?_
  refine c_aald C (i := 0) (r := r0) (x := 3) (v := r0 3) rfl (by decide) (by decide) (by decide) rfl D_X4_init.2.2.2.2.2.2.2.2.2.2.2.2.2.2.2.2.2.2.2.2.2.2.1 ?_
  refine g_bipush C (v := Int32.ofInt (21)) D_X4_init.2.2.2.2.2.2.2.2.2.2.2.2.2.2.2.2.2.2.2.2.2.2.2.1 (ofI_b (by decide) (by decide)) ?_
  refine c_fill C (i := 4) rfl (by decide) (mem1 (i := 107) rfl rfl) ⟨by decide, by decide⟩ ⟨(Nat.le_of_ble_eq_true rfl), (Nat.le_of_ble_eq_true rfl)⟩ D_X4_init.2.2.2.2.2.2.2.2.2.2.2.2.2.2.2.2.2.2.2.2.2.2.2.2.1 ?_
  refine g_iinc1 C 0 (i := 3) (lv' := [(1, .int (Int32.ofInt 4)), (0, .ref a)]) D_X4_init.2.2.2.2.2.2.2.2.2.2.2.2.2.2.2.2.2.2.2.2.2.2.2.2.2.1 rfl (by decide) rfl ?_
  refine g_goto C 29 D_X4_init.2.2.2.2.2.2.2.2.2.2.2.2.2.2.2.2.2.2.2.2.2.2.2.2.2.2.1 (by decide) ?_
  refine g_iload1 C 0 D_X4_init.2.2.2.2.2.2.2.2.2.2.2.2.2.2.2.2.1 rfl ?_
  refine g_iconst C (v := Int32.ofInt (4)) D_X4_init.2.2.2.2.2.2.2.2.2.2.2.2.2.2.2.2.2.1 rfl ?_
  refine g_icmpge_t C 51 D_X4_init.2.2.2.2.2.2.2.2.2.2.2.2.2.2.2.2.2.2.1 (by decide) (by decide) ?_
  refine c_ret C hr hlk (fun id => if id = 15 then q0 else if id = 14 then q1 else if 41 ≤ id ∧ id < 45 then r0 (id - 41) else 0) rfl ?_ D_X4_init.2.2.2.2.2.2.2.2.2.2.2.2.2.2.2.2.2.2.2.2.2.2.2.2.2.2.2
  unfold LL4
  rw [seg_congr (cO := cA 3) (cI := cA 0) (z := vI 4 21) (N := 4) (r' := r0) (q' := q0) (q := (fun id => if id = 15 then q0 else if id = 14 then q1 else if 41 ≤ id ∧ id < 45 then r0 (id - 41) else 0) 15) (r := fun i => (fun id => if id = 15 then q0 else if id = 14 then q1 else if 41 ≤ id ∧ id < 45 then r0 (id - 41) else 0) (41 + i)) rfl (fun i hi => by show (fun id => if id = 15 then q0 else if id = 14 then q1 else if 41 ≤ id ∧ id < 45 then r0 (id - 41) else 0) (41 + i) = _; simp only []; rw [if_neg (by omega), if_neg (by omega), if_pos (by omega), show 41 + i - 41 = i from by omega])]
  rfl
set_option maxRecDepth 100000 in
set_option maxHeartbeats 4000000 in
theorem con_X2 (l : Launch) (D : va_G) (cA : Nat → ClassId) (h : Nat) : Con l D cA h 2 yX2_init cX2_init 1 (LL2 cA) 2 132 3300 := by
  refine Con.of (by decide) rfl rfl (by decide) ?_
  intro p e s m below meth c ws j a C hin hr hlk hj
  refine g_aload C 0 D_X2_init.1 rfl ?_
  refine g_obj C (mem1 (i := 135) rfl rfl) (mem1 (i := 17) rfl rfl) (mem1 (i := 18) rfl rfl) D_X2_init.2.1 rfl ⟨by decide, by decide⟩ ?_
  refine g_aload C 0 D_X2_init.2.2.1 rfl ?_
  refine g_bipush C (v := Int32.ofInt (25)) D_X2_init.2.2.2.1 (ofI_b (by decide) (by decide)) ?_
  refine g_bipush C (v := Int32.ofInt (25)) D_X2_init.2.2.2.2.1 (ofI_b (by decide) (by decide)) ?_
  refine c_mna C (z := zI 25) (i1 := 0) (i2 := 3) (ty := .int) (N := 25) (K := 25) (mem1 (i := 136) rfl rfl) C.2.2.2.2.2.1.2.1 (mem1 (i := 51) rfl rfl) rfl rfl (fun _ z => z) rfl (by decide) (by decide) (by decide) (by decide) (by decide) (by decide) (by decide) rfl rfl (Nat.le_of_ble_eq_true rfl) (Nat.le_of_ble_eq_true rfl) (fun c9 => rfl) D_X2_init.2.2.2.2.2.1 (fun q0 r0 => ?_)
  refine c_putF C hin hj rfl (by decide) (kf := 0) (by decide) (mem1 (i := 138) rfl rfl) rfl rfl (tyN_ok (by decide) 0 (by decide)) rfl rfl (Nat.le_of_ble_eq_true rfl) D_X2_init.2.2.2.2.2.2.1 ?_
  refine g_aload C 0 D_X2_init.2.2.2.2.2.2.2.1 rfl ?_
  refine g_bipush C (v := Int32.ofInt (25)) D_X2_init.2.2.2.2.2.2.2.2.1 (ofI_b (by decide) (by decide)) ?_
  refine g_bipush C (v := Int32.ofInt (25)) D_X2_init.2.2.2.2.2.2.2.2.2.1 (ofI_b (by decide) (by decide)) ?_
  refine c_mna C (z := zI 25) (i1 := 0) (i2 := 3) (ty := .int) (N := 25) (K := 25) (mem1 (i := 136) rfl rfl) C.2.2.2.2.2.1.2.1 (mem1 (i := 51) rfl rfl) rfl rfl (fun _ z => z) rfl (by decide) (by decide) (by decide) (by decide) (by decide) (by decide) (by decide) rfl rfl (Nat.le_of_ble_eq_true rfl) (Nat.le_of_ble_eq_true rfl) (fun c9 => rfl) D_X2_init.2.2.2.2.2.2.2.2.2.2.1 (fun q1 r1 => ?_)
  refine c_putF C hin hj rfl (by decide) (kf := 1) (by decide) (mem1 (i := 139) rfl rfl) rfl rfl (tyN_ok (by decide) 1 (by decide)) rfl rfl (Nat.le_of_ble_eq_true rfl) D_X2_init.2.2.2.2.2.2.2.2.2.2.2.1 ?_
  refine g_aload C 0 D_X2_init.2.2.2.2.2.2.2.2.2.2.2.2.1 rfl ?_
  refine g_bipush C (v := Int32.ofInt (25)) D_X2_init.2.2.2.2.2.2.2.2.2.2.2.2.2.1 (ofI_b (by decide) (by decide)) ?_
  refine g_bipush C (v := Int32.ofInt (25)) D_X2_init.2.2.2.2.2.2.2.2.2.2.2.2.2.2.1 (ofI_b (by decide) (by decide)) ?_
  refine c_mna C (z := zL 25) (i1 := 1) (i2 := 4) (ty := .long) (N := 25) (K := 25) (mem1 (i := 137) rfl rfl) C.2.2.2.2.2.1.2.2.1 (mem1 (i := 77) rfl rfl) rfl rfl (fun _ z => z) rfl (by decide) (by decide) (by decide) (by decide) (by decide) (by decide) (by decide) rfl rfl (Nat.le_of_ble_eq_true rfl) (Nat.le_of_ble_eq_true rfl) (fun c9 => rfl) D_X2_init.2.2.2.2.2.2.2.2.2.2.2.2.2.2.2.1 (fun q2 r2 => ?_)
  refine c_putF C hin hj rfl (by decide) (kf := 2) (by decide) (mem1 (i := 140) rfl rfl) rfl rfl (tyN_ok (by decide) 2 (by decide)) rfl rfl (Nat.le_of_ble_eq_true rfl) D_X2_init.2.2.2.2.2.2.2.2.2.2.2.2.2.2.2.2.1 ?_
  refine g_aload C 0 D_X2_init.2.2.2.2.2.2.2.2.2.2.2.2.2.2.2.2.2.1 rfl ?_
  refine g_bipush C (v := Int32.ofInt (25)) D_X2_init.2.2.2.2.2.2.2.2.2.2.2.2.2.2.2.2.2.2.1 (ofI_b (by decide) (by decide)) ?_
  refine g_bipush C (v := Int32.ofInt (25)) D_X2_init.2.2.2.2.2.2.2.2.2.2.2.2.2.2.2.2.2.2.2.1 (ofI_b (by decide) (by decide)) ?_
  refine c_mna C (z := zL 25) (i1 := 1) (i2 := 4) (ty := .long) (N := 25) (K := 25) (mem1 (i := 137) rfl rfl) C.2.2.2.2.2.1.2.2.1 (mem1 (i := 77) rfl rfl) rfl rfl (fun _ z => z) rfl (by decide) (by decide) (by decide) (by decide) (by decide) (by decide) (by decide) rfl rfl (Nat.le_of_ble_eq_true rfl) (Nat.le_of_ble_eq_true rfl) (fun c9 => rfl) D_X2_init.2.2.2.2.2.2.2.2.2.2.2.2.2.2.2.2.2.2.2.2.1 (fun q3 r3 => ?_)
  refine c_putF C hin hj rfl (by decide) (kf := 3) (by decide) (mem1 (i := 141) rfl rfl) rfl rfl (tyN_ok (by decide) 3 (by decide)) rfl rfl (Nat.le_of_ble_eq_true rfl) D_X2_init.2.2.2.2.2.2.2.2.2.2.2.2.2.2.2.2.2.2.2.2.2.1 ?_
  refine g_aload C 0 D_X2_init.2.2.2.2.2.2.2.2.2.2.2.2.2.2.2.2.2.2.2.2.2.2.1 rfl ?_
  refine g_bipush C (v := Int32.ofInt (25)) D_X2_init.2.2.2.2.2.2.2.2.2.2.2.2.2.2.2.2.2.2.2.2.2.2.2.1 (ofI_b (by decide) (by decide)) ?_
  refine g_bipush C (v := Int32.ofInt (25)) D_X2_init.2.2.2.2.2.2.2.2.2.2.2.2.2.2.2.2.2.2.2.2.2.2.2.2.1 (ofI_b (by decide) (by decide)) ?_
  refine c_mna C (z := zL 25) (i1 := 1) (i2 := 4) (ty := .long) (N := 25) (K := 25) (mem1 (i := 137) rfl rfl) C.2.2.2.2.2.1.2.2.1 (mem1 (i := 77) rfl rfl) rfl rfl (fun _ z => z) rfl (by decide) (by decide) (by decide) (by decide) (by decide) (by decide) (by decide) rfl rfl (Nat.le_of_ble_eq_true rfl) (Nat.le_of_ble_eq_true rfl) (fun c9 => rfl) D_X2_init.2.2.2.2.2.2.2.2.2.2.2.2.2.2.2.2.2.2.2.2.2.2.2.2.2.1 (fun q4 r4 => ?_)
  refine c_putF C hin hj rfl (by decide) (kf := 4) (by decide) (mem1 (i := 142) rfl rfl) rfl rfl (tyN_ok (by decide) 4 (by decide)) rfl rfl (Nat.le_of_ble_eq_true rfl) D_X2_init.2.2.2.2.2.2.2.2.2.2.2.2.2.2.2.2.2.2.2.2.2.2.2.2.2.2.1 ?_
  refine g_aload C 0 D_X2_init.2.2.2.2.2.2.2.2.2.2.2.2.2.2.2.2.2.2.2.2.2.2.2.2.2.2.2.1 rfl ?_
  refine g_bipush C (v := Int32.ofInt (25)) D_X2_init.2.2.2.2.2.2.2.2.2.2.2.2.2.2.2.2.2.2.2.2.2.2.2.2.2.2.2.2.1 (ofI_b (by decide) (by decide)) ?_
  refine c_newa C (a0 := zI 25) (i := 0) (ty := .int) rfl (mem1 (i := 51) rfl rfl) rfl (fun _ z => z) (fun _ => rfl) (by decide) (by decide) (by decide) (Nat.le_of_ble_eq_true rfl) (Nat.le_of_ble_eq_true rfl) D_X2_init.2.2.2.2.2.2.2.2.2.2.2.2.2.2.2.2.2.2.2.2.2.2.2.2.2.2.2.2.2.1 (fun q5 => ?_)
  refine c_putF C hin hj rfl (by decide) (kf := 5) (by decide) (mem1 (i := 143) rfl rfl) rfl rfl (tyN_ok (by decide) 5 (by decide)) rfl rfl (Nat.le_of_ble_eq_true rfl) D_X2_init.2.2.2.2.2.2.2.2.2.2.2.2.2.2.2.2.2.2.2.2.2.2.2.2.2.2.2.2.2.2.1 ?_
  refine g_aload C 0 D_X2_init.2.2.2.2.2.2.2.2.2.2.2.2.2.2.2.2.2.2.2.2.2.2.2.2.2.2.2.2.2.2.2.1 rfl ?_
  refine g_bipush C (v := Int32.ofInt (25)) D_X2_init.2.2.2.2.2.2.2.2.2.2.2.2.2.2.2.2.2.2.2.2.2.2.2.2.2.2.2.2.2.2.2.2.1 (ofI_b (by decide) (by decide)) ?_
  refine c_newa C (a0 := zI 25) (i := 2) (ty := .boolean) rfl (mem1 (i := 52) rfl rfl) rfl (fun _ z => z) (fun _ => rfl) (by decide) (by decide) (by decide) (Nat.le_of_ble_eq_true rfl) (Nat.le_of_ble_eq_true rfl) D_X2_init.2.2.2.2.2.2.2.2.2.2.2.2.2.2.2.2.2.2.2.2.2.2.2.2.2.2.2.2.2.2.2.2.2.1 (fun q6 => ?_)
  refine c_putF C hin hj rfl (by decide) (kf := 6) (by decide) (mem1 (i := 144) rfl rfl) rfl rfl (tyN_ok (by decide) 6 (by decide)) rfl rfl (Nat.le_of_ble_eq_true rfl) D_X2_init.2.2.2.2.2.2.2.2.2.2.2.2.2.2.2.2.2.2.2.2.2.2.2.2.2.2.2.2.2.2.2.2.2.2.1 ?_
  refine c_ret C hr hlk (fun id => if id = 18 then q0 else if id = 19 then q1 else if id = 20 then q2 else if id = 21 then q3 else if id = 22 then q4 else if id = 16 then q5 else if id = 17 then q6 else if 45 ≤ id ∧ id < 70 then r0 (id - 45) else if 70 ≤ id ∧ id < 95 then r1 (id - 70) else if 95 ≤ id ∧ id < 120 then r2 (id - 95) else if 120 ≤ id ∧ id < 145 then r3 (id - 120) else if 145 ≤ id ∧ id < 170 then r4 (id - 145) else 0) rfl ?_ D_X2_init.2.2.2.2.2.2.2.2.2.2.2.2.2.2.2.2.2.2.2.2.2.2.2.2.2.2.2.2.2.2.2.2.2.2.2
  unfold LL2
  rw [seg_congr (cO := cA 3) (cI := cA 0) (z := zI 25) (N := 25) (r' := r0) (q' := q0) (q := (fun id => if id = 18 then q0 else if id = 19 then q1 else if id = 20 then q2 else if id = 21 then q3 else if id = 22 then q4 else if id = 16 then q5 else if id = 17 then q6 else if 45 ≤ id ∧ id < 70 then r0 (id - 45) else if 70 ≤ id ∧ id < 95 then r1 (id - 70) else if 95 ≤ id ∧ id < 120 then r2 (id - 95) else if 120 ≤ id ∧ id < 145 then r3 (id - 120) else if 145 ≤ id ∧ id < 170 then r4 (id - 145) else 0) 18) (r := fun i => (fun id => if id = 18 then q0 else if id = 19 then q1 else if id = 20 then q2 else if id = 21 then q3 else if id = 22 then q4 else if id = 16 then q5 else if id = 17 then q6 else if 45 ≤ id ∧ id < 70 then r0 (id - 45) else if 70 ≤ id ∧ id < 95 then r1 (id - 70) else if 95 ≤ id ∧ id < 120 then r2 (id - 95) else if 120 ≤ id ∧ id < 145 then r3 (id - 120) else if 145 ≤ id ∧ id < 170 then r4 (id - 145) else 0) (45 + i)) rfl (fun i hi => by show (fun id => if id = 18 then q0 else if id = 19 then q1 else if id = 20 then q2 else if id = 21 then q3 else if id = 22 then q4 else if id = 16 then q5 else if id = 17 then q6 else if 45 ≤ id ∧ id < 70 then r0 (id - 45) else if 70 ≤ id ∧ id < 95 then r1 (id - 70) else if 95 ≤ id ∧ id < 120 then r2 (id - 95) else if 120 ≤ id ∧ id < 145 then r3 (id - 120) else if 145 ≤ id ∧ id < 170 then r4 (id - 145) else 0) (45 + i) = _; simp only []; rw [if_neg (by omega), if_neg (by omega), if_neg (by omega), if_neg (by omega), if_neg (by omega), if_neg (by omega), if_neg (by omega), if_pos (by omega), show 45 + i - 45 = i from by omega])]
  rw [seg_congr (cO := cA 3) (cI := cA 0) (z := zI 25) (N := 25) (r' := r1) (q' := q1) (q := (fun id => if id = 18 then q0 else if id = 19 then q1 else if id = 20 then q2 else if id = 21 then q3 else if id = 22 then q4 else if id = 16 then q5 else if id = 17 then q6 else if 45 ≤ id ∧ id < 70 then r0 (id - 45) else if 70 ≤ id ∧ id < 95 then r1 (id - 70) else if 95 ≤ id ∧ id < 120 then r2 (id - 95) else if 120 ≤ id ∧ id < 145 then r3 (id - 120) else if 145 ≤ id ∧ id < 170 then r4 (id - 145) else 0) 19) (r := fun i => (fun id => if id = 18 then q0 else if id = 19 then q1 else if id = 20 then q2 else if id = 21 then q3 else if id = 22 then q4 else if id = 16 then q5 else if id = 17 then q6 else if 45 ≤ id ∧ id < 70 then r0 (id - 45) else if 70 ≤ id ∧ id < 95 then r1 (id - 70) else if 95 ≤ id ∧ id < 120 then r2 (id - 95) else if 120 ≤ id ∧ id < 145 then r3 (id - 120) else if 145 ≤ id ∧ id < 170 then r4 (id - 145) else 0) (70 + i)) rfl (fun i hi => by show (fun id => if id = 18 then q0 else if id = 19 then q1 else if id = 20 then q2 else if id = 21 then q3 else if id = 22 then q4 else if id = 16 then q5 else if id = 17 then q6 else if 45 ≤ id ∧ id < 70 then r0 (id - 45) else if 70 ≤ id ∧ id < 95 then r1 (id - 70) else if 95 ≤ id ∧ id < 120 then r2 (id - 95) else if 120 ≤ id ∧ id < 145 then r3 (id - 120) else if 145 ≤ id ∧ id < 170 then r4 (id - 145) else 0) (70 + i) = _; simp only []; rw [if_neg (by omega), if_neg (by omega), if_neg (by omega), if_neg (by omega), if_neg (by omega), if_neg (by omega), if_neg (by omega), if_neg (by omega), if_pos (by omega), show 70 + i - 70 = i from by omega])]
  rw [seg_congr (cO := cA 4) (cI := cA 1) (z := zL 25) (N := 25) (r' := r2) (q' := q2) (q := (fun id => if id = 18 then q0 else if id = 19 then q1 else if id = 20 then q2 else if id = 21 then q3 else if id = 22 then q4 else if id = 16 then q5 else if id = 17 then q6 else if 45 ≤ id ∧ id < 70 then r0 (id - 45) else if 70 ≤ id ∧ id < 95 then r1 (id - 70) else if 95 ≤ id ∧ id < 120 then r2 (id - 95) else if 120 ≤ id ∧ id < 145 then r3 (id - 120) else if 145 ≤ id ∧ id < 170 then r4 (id - 145) else 0) 20) (r := fun i => (fun id => if id = 18 then q0 else if id = 19 then q1 else if id = 20 then q2 else if id = 21 then q3 else if id = 22 then q4 else if id = 16 then q5 else if id = 17 then q6 else if 45 ≤ id ∧ id < 70 then r0 (id - 45) else if 70 ≤ id ∧ id < 95 then r1 (id - 70) else if 95 ≤ id ∧ id < 120 then r2 (id - 95) else if 120 ≤ id ∧ id < 145 then r3 (id - 120) else if 145 ≤ id ∧ id < 170 then r4 (id - 145) else 0) (95 + i)) rfl (fun i hi => by show (fun id => if id = 18 then q0 else if id = 19 then q1 else if id = 20 then q2 else if id = 21 then q3 else if id = 22 then q4 else if id = 16 then q5 else if id = 17 then q6 else if 45 ≤ id ∧ id < 70 then r0 (id - 45) else if 70 ≤ id ∧ id < 95 then r1 (id - 70) else if 95 ≤ id ∧ id < 120 then r2 (id - 95) else if 120 ≤ id ∧ id < 145 then r3 (id - 120) else if 145 ≤ id ∧ id < 170 then r4 (id - 145) else 0) (95 + i) = _; simp only []; rw [if_neg (by omega), if_neg (by omega), if_neg (by omega), if_neg (by omega), if_neg (by omega), if_neg (by omega), if_neg (by omega), if_neg (by omega), if_neg (by omega), if_pos (by omega), show 95 + i - 95 = i from by omega])]
  rw [seg_congr (cO := cA 4) (cI := cA 1) (z := zL 25) (N := 25) (r' := r3) (q' := q3) (q := (fun id => if id = 18 then q0 else if id = 19 then q1 else if id = 20 then q2 else if id = 21 then q3 else if id = 22 then q4 else if id = 16 then q5 else if id = 17 then q6 else if 45 ≤ id ∧ id < 70 then r0 (id - 45) else if 70 ≤ id ∧ id < 95 then r1 (id - 70) else if 95 ≤ id ∧ id < 120 then r2 (id - 95) else if 120 ≤ id ∧ id < 145 then r3 (id - 120) else if 145 ≤ id ∧ id < 170 then r4 (id - 145) else 0) 21) (r := fun i => (fun id => if id = 18 then q0 else if id = 19 then q1 else if id = 20 then q2 else if id = 21 then q3 else if id = 22 then q4 else if id = 16 then q5 else if id = 17 then q6 else if 45 ≤ id ∧ id < 70 then r0 (id - 45) else if 70 ≤ id ∧ id < 95 then r1 (id - 70) else if 95 ≤ id ∧ id < 120 then r2 (id - 95) else if 120 ≤ id ∧ id < 145 then r3 (id - 120) else if 145 ≤ id ∧ id < 170 then r4 (id - 145) else 0) (120 + i)) rfl (fun i hi => by show (fun id => if id = 18 then q0 else if id = 19 then q1 else if id = 20 then q2 else if id = 21 then q3 else if id = 22 then q4 else if id = 16 then q5 else if id = 17 then q6 else if 45 ≤ id ∧ id < 70 then r0 (id - 45) else if 70 ≤ id ∧ id < 95 then r1 (id - 70) else if 95 ≤ id ∧ id < 120 then r2 (id - 95) else if 120 ≤ id ∧ id < 145 then r3 (id - 120) else if 145 ≤ id ∧ id < 170 then r4 (id - 145) else 0) (120 + i) = _; simp only []; rw [if_neg (by omega), if_neg (by omega), if_neg (by omega), if_neg (by omega), if_neg (by omega), if_neg (by omega), if_neg (by omega), if_neg (by omega), if_neg (by omega), if_neg (by omega), if_pos (by omega), show 120 + i - 120 = i from by omega])]
  rw [seg_congr (cO := cA 4) (cI := cA 1) (z := zL 25) (N := 25) (r' := r4) (q' := q4) (q := (fun id => if id = 18 then q0 else if id = 19 then q1 else if id = 20 then q2 else if id = 21 then q3 else if id = 22 then q4 else if id = 16 then q5 else if id = 17 then q6 else if 45 ≤ id ∧ id < 70 then r0 (id - 45) else if 70 ≤ id ∧ id < 95 then r1 (id - 70) else if 95 ≤ id ∧ id < 120 then r2 (id - 95) else if 120 ≤ id ∧ id < 145 then r3 (id - 120) else if 145 ≤ id ∧ id < 170 then r4 (id - 145) else 0) 22) (r := fun i => (fun id => if id = 18 then q0 else if id = 19 then q1 else if id = 20 then q2 else if id = 21 then q3 else if id = 22 then q4 else if id = 16 then q5 else if id = 17 then q6 else if 45 ≤ id ∧ id < 70 then r0 (id - 45) else if 70 ≤ id ∧ id < 95 then r1 (id - 70) else if 95 ≤ id ∧ id < 120 then r2 (id - 95) else if 120 ≤ id ∧ id < 145 then r3 (id - 120) else if 145 ≤ id ∧ id < 170 then r4 (id - 145) else 0) (145 + i)) rfl (fun i hi => by show (fun id => if id = 18 then q0 else if id = 19 then q1 else if id = 20 then q2 else if id = 21 then q3 else if id = 22 then q4 else if id = 16 then q5 else if id = 17 then q6 else if 45 ≤ id ∧ id < 70 then r0 (id - 45) else if 70 ≤ id ∧ id < 95 then r1 (id - 70) else if 95 ≤ id ∧ id < 120 then r2 (id - 95) else if 120 ≤ id ∧ id < 145 then r3 (id - 120) else if 145 ≤ id ∧ id < 170 then r4 (id - 145) else 0) (145 + i) = _; simp only []; rw [if_neg (by omega), if_neg (by omega), if_neg (by omega), if_neg (by omega), if_neg (by omega), if_neg (by omega), if_neg (by omega), if_neg (by omega), if_neg (by omega), if_neg (by omega), if_neg (by omega), if_pos (by omega), show 145 + i - 145 = i from by omega])]
  rfl
theorem LL1_congr {cA : Nat → ClassId} {A B : Nat → Nat} (h : ∀ id, (7 ≤ id ∧ id < 12) → A id = B id) : LL1 cA A = LL1 cA B := by
  unfold LL1
  rw [h 7 (by omega), h 8 (by omega), h 9 (by omega), h 10 (by omega), h 11 (by omega)]
theorem LL3_congr {cA : Nat → ClassId} {A B : Nat → Nat} (h : ∀ id, (12 ≤ id ∧ id < 14) → A id = B id) : LL3 cA A = LL3 cA B := by
  unfold LL3
  rw [h 12 (by omega), h 13 (by omega)]
theorem LL0_congr {cA : Nat → ClassId} {A B : Nat → Nat} (h : ∀ id, ((23 ≤ id ∧ id < 26) ∨ 170 ≤ id) → A id = B id) : LL0 cA A = LL0 cA B := by
  unfold LL0
  rw [seg_congr (r' := fun i => B (170 + i)) (h 23 (by omega)) (fun i _ => h (170 + i) (by omega)), seg_congr (r' := fun i => B (183 + i)) (h 24 (by omega)) (fun i _ => h (183 + i) (by omega)), seg_congr (r' := fun i => B (196 + i)) (h 25 (by omega)) (fun i _ => h (196 + i) (by omega))]
theorem LL4_congr {cA : Nat → ClassId} {A B : Nat → Nat} (h : ∀ id, (id = 14 ∨ id = 15 ∨ (41 ≤ id ∧ id < 45)) → A id = B id) : LL4 cA A = LL4 cA B := by
  unfold LL4
  rw [seg_congr (r' := fun i => B (41 + i)) (h 15 (by omega)) (fun i _ => h (41 + i) (by omega)), h 14 (by omega)]
theorem LL2_congr {cA : Nat → ClassId} {A B : Nat → Nat} (h : ∀ id, ((16 ≤ id ∧ id < 23) ∨ (45 ≤ id ∧ id < 170)) → A id = B id) : LL2 cA A = LL2 cA B := by
  unfold LL2
  rw [seg_congr (r' := fun i => B (45 + i)) (h 18 (by omega)) (fun i _ => h (45 + i) (by omega)), seg_congr (r' := fun i => B (70 + i)) (h 19 (by omega)) (fun i _ => h (70 + i) (by omega)), seg_congr (r' := fun i => B (95 + i)) (h 20 (by omega)) (fun i _ => h (95 + i) (by omega)), seg_congr (r' := fun i => B (120 + i)) (h 21 (by omega)) (fun i _ => h (120 + i) (by omega)), seg_congr (r' := fun i => B (145 + i)) (h 22 (by omega)) (fun i _ => h (145 + i) (by omega)), h 16 (by omega), h 17 (by omega)]
theorem fvs1_congr {A B : Nat → Nat} (h : ∀ id, (7 ≤ id ∧ id < 12) → A id = B id) : fvs A s0 1 = fvs B s0 1 := by
  show ([.int (Int32.ofInt (s0 1 0)), .ref (A 7), .ref (A 8), .ref (A 9), .ref (A 10), .ref (A 11)] : List Value) = [.int (Int32.ofInt (s0 1 0)), .ref (B 7), .ref (B 8), .ref (B 9), .ref (B 10), .ref (B 11)]
  rw [h 7 (by omega), h 8 (by omega), h 9 (by omega), h 10 (by omega), h 11 (by omega)]
theorem fvs0_congr {A B : Nat → Nat} (h : ∀ id, ((23 ≤ id ∧ id < 26) ∨ 170 ≤ id) → A id = B id) : fvs A s0 0 = fvs B s0 0 := by
  show ([.ref (A 23), .ref (A 24), .ref (A 25), .int (Int32.ofInt (s0 0 3)), .int (Int32.ofInt (s0 0 4))] : List Value) = [.ref (B 23), .ref (B 24), .ref (B 25), .int (Int32.ofInt (s0 0 3)), .int (Int32.ofInt (s0 0 4))]
  rw [h 23 (by omega), h 24 (by omega), h 25 (by omega)]
theorem fvs3_congr {A B : Nat → Nat} (h : ∀ id, (12 ≤ id ∧ id < 14) → A id = B id) : fvs A s0 3 = fvs B s0 3 := by
  show ([.int (Int32.ofInt (s0 3 0)), .int (Int32.ofInt (s0 3 1)), .ref (A 12), .ref (A 13)] : List Value) = [.int (Int32.ofInt (s0 3 0)), .int (Int32.ofInt (s0 3 1)), .ref (B 12), .ref (B 13)]
  rw [h 12 (by omega), h 13 (by omega)]
theorem fvs4_congr {A B : Nat → Nat} (h : ∀ id, (id = 14 ∨ id = 15 ∨ (41 ≤ id ∧ id < 45)) → A id = B id) : fvs A s0 4 = fvs B s0 4 := by
  show ([.int (Int32.ofInt (s0 4 0)), .int (Int32.ofInt (s0 4 1)), .int (Int32.ofInt (s0 4 2)), .ref (A 15), .ref (A 14)] : List Value) = [.int (Int32.ofInt (s0 4 0)), .int (Int32.ofInt (s0 4 1)), .int (Int32.ofInt (s0 4 2)), .ref (B 15), .ref (B 14)]
  rw [h 15 (by omega), h 14 (by omega)]
theorem fvs2_congr {A B : Nat → Nat} (h : ∀ id, ((16 ≤ id ∧ id < 23) ∨ (45 ≤ id ∧ id < 170)) → A id = B id) : fvs A s0 2 = fvs B s0 2 := by
  show ([.ref (A 18), .ref (A 19), .ref (A 20), .ref (A 21), .ref (A 22), .ref (A 16), .ref (A 17), .int (Int32.ofInt (s0 2 7)), .long (Int64.ofInt (s0 2 8))] : List Value) = [.ref (B 18), .ref (B 19), .ref (B 20), .ref (B 21), .ref (B 22), .ref (B 16), .ref (B 17), .int (Int32.ofInt (s0 2 7)), .long (Int64.ofInt (s0 2 8))]
  rw [h 18 (by omega), h 19 (by omega), h 20 (by omega), h 21 (by omega), h 22 (by omega), h 16 (by omega), h 17 (by omega)]
set_option maxRecDepth 100000 in
set_option maxHeartbeats 4000000 in
theorem con_X5 (l : Launch) (D : va_G) (cA : Nat → ClassId) (h : Nat) : Con l D cA h 5 yX5_init cX5_init 1 (LL5 cA) 3 193 5481 := by
  refine Con.of (by decide) rfl rfl (by decide) ?_
  intro p e s m below meth c ws j a C hin hr hlk hj
  refine g_aload C 0 D_X5_init.1 rfl ?_
  refine g_obj C (mem1 (i := 16) rfl rfl) (mem1 (i := 17) rfl rfl) (mem1 (i := 18) rfl rfl) D_X5_init.2.1 rfl ⟨by decide, by decide⟩ ?_
  refine g_aload C 0 D_X5_init.2.2.1 rfl ?_
  refine c_new C (cj := 1) (fj := bln 1) (by decide) (mem1 (i := 19) rfl rfl) (mem1 (i := 20) rfl rfl) (mem1 (i := 2) rfl rfl) (fun j h9 => by have h9 : j < 6 := h9; rcases (show j = 0 ∨ j = 1 ∨ j = 2 ∨ j = 3 ∨ j = 4 ∨ j = 5 by omega) with rfl | rfl | rfl | rfl | rfl | rfl <;> rfl) (Nat.le_of_ble_eq_true rfl) (Nat.le_of_ble_eq_true rfl) D_X5_init.2.2.2.1 (fun q0 => ?_)
  refine g_dup C D_X5_init.2.2.2.2.1 ?_
  refine g_init C (con_X1 l D cA h) (made_at (i := 0) rfl) (mem1 (i := 23) rfl rfl) (mem1 (i := 2) rfl rfl) (mem1 (i := 21) rfl rfl) (mem1 (i := 22) rfl rfl) rfl ⟨by decide, by decide, by decide +kernel⟩ ⟨by decide, by decide⟩ ⟨(Nat.le_of_ble_eq_true rfl), (Nat.le_of_ble_eq_true rfl)⟩ (Nat.le_of_ble_eq_true rfl) D_X5_init.2.2.2.2.2.1 (fun A1 => c_back (cj := 1) (q := 0) ?_)
  refine c_putF C hin hj rfl (by decide) (kf := 0) (by decide) (mem1 (i := 166) rfl rfl) rfl rfl (tyN_ok (by decide) 0 (by decide)) rfl rfl (Nat.le_of_ble_eq_true rfl) D_X5_init.2.2.2.2.2.2.1 ?_
  refine g_aload C 0 D_X5_init.2.2.2.2.2.2.2.1 rfl ?_
  refine c_new C (cj := 0) (fj := bln 0) (by decide) (mem1 (i := 53) rfl rfl) (mem1 (i := 54) rfl rfl) (mem1 (i := 4) rfl rfl) (fun j h9 => by have h9 : j < 5 := h9; rcases (show j = 0 ∨ j = 1 ∨ j = 2 ∨ j = 3 ∨ j = 4 by omega) with rfl | rfl | rfl | rfl | rfl <;> rfl) (Nat.le_of_ble_eq_true rfl) (Nat.le_of_ble_eq_true rfl) D_X5_init.2.2.2.2.2.2.2.2.1 (fun q1 => ?_)
  refine g_dup C D_X5_init.2.2.2.2.2.2.2.2.2.1 ?_
  refine g_initN C (con_X0 l D cA h) (made_at (i := 6) rfl) (mem1 (i := 57) rfl rfl) (mem1 (i := 4) rfl rfl) C.2.2.2.2.2.1.2.2.2.1 (mem1 (i := 56) rfl rfl) rfl ⟨by decide, by decide, by decide +kernel⟩ ⟨by decide, by decide⟩ ⟨(Nat.le_of_ble_eq_true rfl), (Nat.le_of_ble_eq_true rfl)⟩ (Nat.le_of_ble_eq_true rfl) D_X5_init.2.2.2.2.2.2.2.2.2.2.1 (fun A0 => c_back (cj := 0) (q := 0) ?_)
  refine c_putF C hin hj rfl (by decide) (kf := 1) (by decide) (mem1 (i := 167) rfl rfl) rfl rfl (tyN_ok (by decide) 1 (by decide)) rfl rfl (Nat.le_of_ble_eq_true rfl) D_X5_init.2.2.2.2.2.2.2.2.2.2.2.1 ?_
  refine g_aload C 0 D_X5_init.2.2.2.2.2.2.2.2.2.2.2.2.1 rfl ?_
  refine c_new C (cj := 3) (fj := bln 3) (by decide) (mem1 (i := 78) rfl rfl) (mem1 (i := 79) rfl rfl) (mem1 (i := 5) rfl rfl) (fun j h9 => by have h9 : j < 4 := h9; rcases (show j = 0 ∨ j = 1 ∨ j = 2 ∨ j = 3 by omega) with rfl | rfl | rfl | rfl <;> rfl) (Nat.le_of_ble_eq_true rfl) (Nat.le_of_ble_eq_true rfl) D_X5_init.2.2.2.2.2.2.2.2.2.2.2.2.2.1 (fun q2 => ?_)
  refine g_dup C D_X5_init.2.2.2.2.2.2.2.2.2.2.2.2.2.2.1 ?_
  refine g_initN C (con_X3 l D cA h) (made_at (i := 50) rfl) (mem1 (i := 82) rfl rfl) (mem1 (i := 5) rfl rfl) C.2.2.2.2.2.1.2.2.2.2.1 (mem1 (i := 81) rfl rfl) rfl ⟨by decide, by decide, by decide +kernel⟩ ⟨by decide, by decide⟩ ⟨(Nat.le_of_ble_eq_true rfl), (Nat.le_of_ble_eq_true rfl)⟩ (Nat.le_of_ble_eq_true rfl) D_X5_init.2.2.2.2.2.2.2.2.2.2.2.2.2.2.2.1 (fun A3 => c_back (cj := 3) (q := 0) ?_)
  refine c_putF C hin hj rfl (by decide) (kf := 2) (by decide) (mem1 (i := 168) rfl rfl) rfl rfl (tyN_ok (by decide) 2 (by decide)) rfl rfl (Nat.le_of_ble_eq_true rfl) D_X5_init.2.2.2.2.2.2.2.2.2.2.2.2.2.2.2.2.1 ?_
  refine g_aload C 0 D_X5_init.2.2.2.2.2.2.2.2.2.2.2.2.2.2.2.2.2.1 rfl ?_
  refine c_new C (cj := 4) (fj := bln 4) (by decide) (mem1 (i := 99) rfl rfl) (mem1 (i := 100) rfl rfl) (mem1 (i := 6) rfl rfl) (fun j h9 => by have h9 : j < 5 := h9; rcases (show j = 0 ∨ j = 1 ∨ j = 2 ∨ j = 3 ∨ j = 4 by omega) with rfl | rfl | rfl | rfl | rfl <;> rfl) (Nat.le_of_ble_eq_true rfl) (Nat.le_of_ble_eq_true rfl) D_X5_init.2.2.2.2.2.2.2.2.2.2.2.2.2.2.2.2.2.2.1 (fun q3 => ?_)
  refine g_dup C D_X5_init.2.2.2.2.2.2.2.2.2.2.2.2.2.2.2.2.2.2.2.1 ?_
  refine g_init C (con_X4 l D cA h) (made_at (i := 53) rfl) (mem1 (i := 103) rfl rfl) (mem1 (i := 6) rfl rfl) (mem1 (i := 101) rfl rfl) (mem1 (i := 102) rfl rfl) rfl ⟨by decide, by decide, by decide +kernel⟩ ⟨by decide, by decide⟩ ⟨(Nat.le_of_ble_eq_true rfl), (Nat.le_of_ble_eq_true rfl)⟩ (Nat.le_of_ble_eq_true rfl) D_X5_init.2.2.2.2.2.2.2.2.2.2.2.2.2.2.2.2.2.2.2.2.1 (fun A4 => c_back (cj := 4) (q := 0) ?_)
  refine c_putF C hin hj rfl (by decide) (kf := 3) (by decide) (mem1 (i := 169) rfl rfl) rfl rfl (tyN_ok (by decide) 3 (by decide)) rfl rfl (Nat.le_of_ble_eq_true rfl) D_X5_init.2.2.2.2.2.2.2.2.2.2.2.2.2.2.2.2.2.2.2.2.2.1 ?_
  refine g_aload C 0 D_X5_init.2.2.2.2.2.2.2.2.2.2.2.2.2.2.2.2.2.2.2.2.2.2.1 rfl ?_
  refine c_new C (cj := 2) (fj := bln 2) (by decide) (mem1 (i := 130) rfl rfl) (mem1 (i := 131) rfl rfl) (mem1 (i := 7) rfl rfl) (fun j h9 => by have h9 : j < 9 := h9; rcases (show j = 0 ∨ j = 1 ∨ j = 2 ∨ j = 3 ∨ j = 4 ∨ j = 5 ∨ j = 6 ∨ j = 7 ∨ j = 8 by omega) with rfl | rfl | rfl | rfl | rfl | rfl | rfl | rfl | rfl <;> rfl) (Nat.le_of_ble_eq_true rfl) (Nat.le_of_ble_eq_true rfl) D_X5_init.2.2.2.2.2.2.2.2.2.2.2.2.2.2.2.2.2.2.2.2.2.2.2.1 (fun q4 => ?_)
  refine g_dup C D_X5_init.2.2.2.2.2.2.2.2.2.2.2.2.2.2.2.2.2.2.2.2.2.2.2.2.1 ?_
  refine g_initN C (con_X2 l D cA h) (made_at (i := 60) rfl) (mem1 (i := 134) rfl rfl) (mem1 (i := 7) rfl rfl) C.2.2.2.2.2.1.2.2.2.2.2 (mem1 (i := 133) rfl rfl) rfl ⟨by decide, by decide, by decide +kernel⟩ ⟨by decide, by decide⟩ ⟨(Nat.le_of_ble_eq_true rfl), (Nat.le_of_ble_eq_true rfl)⟩ (Nat.le_of_ble_eq_true rfl) D_X5_init.2.2.2.2.2.2.2.2.2.2.2.2.2.2.2.2.2.2.2.2.2.2.2.2.2.1 (fun A2 => c_back (cj := 2) (q := 0) ?_)
  refine c_putF C hin hj rfl (by decide) (kf := 4) (by decide) (mem1 (i := 170) rfl rfl) rfl rfl (tyN_ok (by decide) 4 (by decide)) rfl rfl (Nat.le_of_ble_eq_true rfl) D_X5_init.2.2.2.2.2.2.2.2.2.2.2.2.2.2.2.2.2.2.2.2.2.2.2.2.2.2.1 ?_
  generalize hA : (fun id => if id = 1 then q0 else if id = 0 then q1 else if id = 3 then q2 else if id = 4 then q3 else if id = 2 then q4 else if 7 ≤ id ∧ id < 12 then A1 id else if (23 ≤ id ∧ id < 26) ∨ 170 ≤ id then A0 id else if 12 ≤ id ∧ id < 14 then A3 id else if id = 14 ∨ id = 15 ∨ (41 ≤ id ∧ id < 45) then A4 id else if (16 ≤ id ∧ id < 23) ∨ (45 ≤ id ∧ id < 170) then A2 id else 0) = A
  have a1 : A 1 = q0 := by rw [← hA]; rfl
  have a0 : A 0 = q1 := by rw [← hA]; rfl
  have a3 : A 3 = q2 := by rw [← hA]; rfl
  have a4 : A 4 = q3 := by rw [← hA]; rfl
  have a2 : A 2 = q4 := by rw [← hA]; rfl
  have b1 : ∀ id, (7 ≤ id ∧ id < 12) → A id = A1 id := fun id hi => by rw [← hA]; show (if id = 1 then q0 else if id = 0 then q1 else if id = 3 then q2 else if id = 4 then q3 else if id = 2 then q4 else if 7 ≤ id ∧ id < 12 then A1 id else if (23 ≤ id ∧ id < 26) ∨ 170 ≤ id then A0 id else if 12 ≤ id ∧ id < 14 then A3 id else if id = 14 ∨ id = 15 ∨ (41 ≤ id ∧ id < 45) then A4 id else if (16 ≤ id ∧ id < 23) ∨ (45 ≤ id ∧ id < 170) then A2 id else 0) = _; rw [if_neg (by omega), if_neg (by omega), if_neg (by omega), if_neg (by omega), if_neg (by omega), if_pos hi]
  have b0 : ∀ id, ((23 ≤ id ∧ id < 26) ∨ 170 ≤ id) → A id = A0 id := fun id hi => by rw [← hA]; show (if id = 1 then q0 else if id = 0 then q1 else if id = 3 then q2 else if id = 4 then q3 else if id = 2 then q4 else if 7 ≤ id ∧ id < 12 then A1 id else if (23 ≤ id ∧ id < 26) ∨ 170 ≤ id then A0 id else if 12 ≤ id ∧ id < 14 then A3 id else if id = 14 ∨ id = 15 ∨ (41 ≤ id ∧ id < 45) then A4 id else if (16 ≤ id ∧ id < 23) ∨ (45 ≤ id ∧ id < 170) then A2 id else 0) = _; rw [if_neg (by omega), if_neg (by omega), if_neg (by omega), if_neg (by omega), if_neg (by omega), if_neg (by omega), if_pos hi]
  have b3 : ∀ id, (12 ≤ id ∧ id < 14) → A id = A3 id := fun id hi => by rw [← hA]; show (if id = 1 then q0 else if id = 0 then q1 else if id = 3 then q2 else if id = 4 then q3 else if id = 2 then q4 else if 7 ≤ id ∧ id < 12 then A1 id else if (23 ≤ id ∧ id < 26) ∨ 170 ≤ id then A0 id else if 12 ≤ id ∧ id < 14 then A3 id else if id = 14 ∨ id = 15 ∨ (41 ≤ id ∧ id < 45) then A4 id else if (16 ≤ id ∧ id < 23) ∨ (45 ≤ id ∧ id < 170) then A2 id else 0) = _; rw [if_neg (by omega), if_neg (by omega), if_neg (by omega), if_neg (by omega), if_neg (by omega), if_neg (by omega), if_neg (by omega), if_pos hi]
  have b4 : ∀ id, (id = 14 ∨ id = 15 ∨ (41 ≤ id ∧ id < 45)) → A id = A4 id := fun id hi => by rw [← hA]; show (if id = 1 then q0 else if id = 0 then q1 else if id = 3 then q2 else if id = 4 then q3 else if id = 2 then q4 else if 7 ≤ id ∧ id < 12 then A1 id else if (23 ≤ id ∧ id < 26) ∨ 170 ≤ id then A0 id else if 12 ≤ id ∧ id < 14 then A3 id else if id = 14 ∨ id = 15 ∨ (41 ≤ id ∧ id < 45) then A4 id else if (16 ≤ id ∧ id < 23) ∨ (45 ≤ id ∧ id < 170) then A2 id else 0) = _; rw [if_neg (by omega), if_neg (by omega), if_neg (by omega), if_neg (by omega), if_neg (by omega), if_neg (by omega), if_neg (by omega), if_neg (by omega), if_pos hi]
  have b2 : ∀ id, ((16 ≤ id ∧ id < 23) ∨ (45 ≤ id ∧ id < 170)) → A id = A2 id := fun id hi => by rw [← hA]; show (if id = 1 then q0 else if id = 0 then q1 else if id = 3 then q2 else if id = 4 then q3 else if id = 2 then q4 else if 7 ≤ id ∧ id < 12 then A1 id else if (23 ≤ id ∧ id < 26) ∨ 170 ≤ id then A0 id else if 12 ≤ id ∧ id < 14 then A3 id else if id = 14 ∨ id = 15 ∨ (41 ≤ id ∧ id < 45) then A4 id else if (16 ≤ id ∧ id < 23) ∨ (45 ≤ id ∧ id < 170) then A2 id else 0) = _; rw [if_neg (by omega), if_neg (by omega), if_neg (by omega), if_neg (by omega), if_neg (by omega), if_neg (by omega), if_neg (by omega), if_neg (by omega), if_neg (by omega), if_pos hi]
  refine c_ret C hr hlk A ?_ ?_ D_X5_init.2.2.2.2.2.2.2.2.2.2.2.2.2.2.2.2.2.2.2.2.2.2.2.2.2.2.2
  · show _ = [Value.ref (A 1), Value.ref (A 0), Value.ref (A 3), Value.ref (A 4), Value.ref (A 2)]
    rw [a0, a1, a2, a3, a4]
    rfl
  · unfold LL5
    rw [a0, a1, a2, a3, a4, LL1_congr b1, LL0_congr b0, LL3_congr b3, LL4_congr b4, LL2_congr b2, fvs1_congr b1, fvs0_congr b0, fvs3_congr b3, fvs4_congr b4, fvs2_congr b2]
    rfl
set_option maxRecDepth 100000 in
set_option maxHeartbeats 4000000 in
theorem con_X6 (l : Launch) (D : va_G) (cA : Nat → ClassId) (h : Nat) : Con l D cA h 6 yX6_init cX6_init 2 (LL6 cA) 2 15 5313 := by
  refine Con.of (by decide) rfl rfl (by decide) ?_
  intro p e s m below meth c ws j a C hin hr hlk hj
  refine g_aload C 0 D_X6_init_1.1 rfl ?_
  refine g_obj C (mem3 (i := 62) rfl rfl) (mem1 (i := 17) rfl rfl) (mem1 (i := 18) rfl rfl) D_X6_init_1.2.1 rfl ⟨by decide, by decide⟩ ?_
  refine g_aload C 0 D_X6_init_1.2.2.1 rfl ?_
  refine g_bipush C (v := Int32.ofInt (8)) D_X6_init_1.2.2.2.1 (ofI_b (by decide) (by decide)) ?_
  refine c_put C hj (by decide) (kf := 0) (by decide) (mem3 (i := 63) rfl rfl) rfl (tyN_ok (by decide) 0 (by decide)) rfl rfl (Nat.le_of_ble_eq_true rfl) D_X6_init_1.2.2.2.2.1 ?_
  refine g_aload C 0 D_X6_init_1.2.2.2.2.2.1 rfl ?_
  refine g_bipush C (v := Int32.ofInt (24)) D_X6_init_1.2.2.2.2.2.2.1 (ofI_b (by decide) (by decide)) ?_
  refine c_newa C (a0 := zI 24) (i := 0) (ty := .int) rfl (mem1 (i := 51) rfl rfl) rfl (fun _ z => z) (fun _ => rfl) (by decide) (by decide) (by decide) (Nat.le_of_ble_eq_true rfl) (Nat.le_of_ble_eq_true rfl) D_X6_init_1.2.2.2.2.2.2.2.1 (fun q0 => ?_)
  refine c_putF C hin hj rfl (by decide) (kf := 1) (by decide) (mem3 (i := 64) rfl rfl) rfl rfl (tyN_ok (by decide) 1 (by decide)) rfl rfl (Nat.le_of_ble_eq_true rfl) D_X6_init_1.2.2.2.2.2.2.2.2.1 ?_
  refine g_aload C 0 D_X6_init_1.2.2.2.2.2.2.2.2.2.1 rfl ?_
  refine g_bipush C (v := Int32.ofInt (24)) D_X6_init_1.2.2.2.2.2.2.2.2.2.2.1 (ofI_b (by decide) (by decide)) ?_
  refine c_newa C (a0 := zI 24) (i := 0) (ty := .int) rfl (mem1 (i := 51) rfl rfl) rfl (fun _ z => z) (fun _ => rfl) (by decide) (by decide) (by decide) (Nat.le_of_ble_eq_true rfl) (Nat.le_of_ble_eq_true rfl) D_X6_init_1.2.2.2.2.2.2.2.2.2.2.2.1 (fun q1 => ?_)
  refine c_putF C hin hj rfl (by decide) (kf := 3) (by decide) (mem3 (i := 66) rfl rfl) rfl rfl (tyN_ok (by decide) 3 (by decide)) rfl rfl (Nat.le_of_ble_eq_true rfl) D_X6_init_1.2.2.2.2.2.2.2.2.2.2.2.2.1 ?_
  refine g_aload C 0 D_X6_init_1.2.2.2.2.2.2.2.2.2.2.2.2.2.1 rfl ?_
  refine g_bipush C (v := Int32.ofInt (24)) D_X6_init_1.2.2.2.2.2.2.2.2.2.2.2.2.2.2.1 (ofI_b (by decide) (by decide)) ?_
  refine c_newa C (a0 := zI 24) (i := 0) (ty := .int) rfl (mem1 (i := 51) rfl rfl) rfl (fun _ z => z) (fun _ => rfl) (by decide) (by decide) (by decide) (Nat.le_of_ble_eq_true rfl) (Nat.le_of_ble_eq_true rfl) D_X6_init_1.2.2.2.2.2.2.2.2.2.2.2.2.2.2.2.1 (fun q2 => ?_)
  refine c_putF C hin hj rfl (by decide) (kf := 5) (by decide) (mem3 (i := 68) rfl rfl) rfl rfl (tyN_ok (by decide) 5 (by decide)) rfl rfl (Nat.le_of_ble_eq_true rfl) D_X6_init_1.2.2.2.2.2.2.2.2.2.2.2.2.2.2.2.2.1 ?_
  refine g_aload C 0 D_X6_init_1.2.2.2.2.2.2.2.2.2.2.2.2.2.2.2.2.2.1 rfl ?_
  refine g_bipush C (v := Int32.ofInt (16)) D_X6_init_1.2.2.2.2.2.2.2.2.2.2.2.2.2.2.2.2.2.2.1 (ofI_b (by decide) (by decide)) ?_
  refine c_newa C (a0 := zI 16) (i := 0) (ty := .int) rfl (mem1 (i := 51) rfl rfl) rfl (fun _ z => z) (fun _ => rfl) (by decide) (by decide) (by decide) (Nat.le_of_ble_eq_true rfl) (Nat.le_of_ble_eq_true rfl) D_X6_init_1.2.2.2.2.2.2.2.2.2.2.2.2.2.2.2.2.2.2.2.1 (fun q3 => ?_)
  refine c_putF C hin hj rfl (by decide) (kf := 6) (by decide) (mem3 (i := 69) rfl rfl) rfl rfl (tyN_ok (by decide) 6 (by decide)) rfl rfl (Nat.le_of_ble_eq_true rfl) D_X6_init_1.2.2.2.2.2.2.2.2.2.2.2.2.2.2.2.2.2.2.2.2.1 ?_
  refine g_aload C 0 D_X6_init_1.2.2.2.2.2.2.2.2.2.2.2.2.2.2.2.2.2.2.2.2.2.1 rfl ?_
  refine g_iconst C (v := Int32.ofInt (3)) D_X6_init_1.2.2.2.2.2.2.2.2.2.2.2.2.2.2.2.2.2.2.2.2.2.2.1 rfl ?_
  refine c_put C hj (by decide) (kf := 7) (by decide) (mem3 (i := 70) rfl rfl) rfl (tyN_ok (by decide) 7 (by decide)) rfl rfl (Nat.le_of_ble_eq_true rfl) D_X6_init_1.2.2.2.2.2.2.2.2.2.2.2.2.2.2.2.2.2.2.2.2.2.2.2.1 ?_
  refine g_aload C 0 D_X6_init_1.2.2.2.2.2.2.2.2.2.2.2.2.2.2.2.2.2.2.2.2.2.2.2.2.1 rfl ?_
  refine g_bipush C (v := Int32.ofInt (24)) D_X6_init_1.2.2.2.2.2.2.2.2.2.2.2.2.2.2.2.2.2.2.2.2.2.2.2.2.2.1 (ofI_b (by decide) (by decide)) ?_
  refine c_newa C (a0 := zI 24) (i := 0) (ty := .int) rfl (mem1 (i := 51) rfl rfl) rfl (fun _ z => z) (fun _ => rfl) (by decide) (by decide) (by decide) (Nat.le_of_ble_eq_true rfl) (Nat.le_of_ble_eq_true rfl) D_X6_init_1.2.2.2.2.2.2.2.2.2.2.2.2.2.2.2.2.2.2.2.2.2.2.2.2.2.2.1 (fun q4 => ?_)
  refine c_putF C hin hj rfl (by decide) (kf := 9) (by decide) (mem3 (i := 72) rfl rfl) rfl rfl (tyN_ok (by decide) 9 (by decide)) rfl rfl (Nat.le_of_ble_eq_true rfl) D_X6_init_1.2.2.2.2.2.2.2.2.2.2.2.2.2.2.2.2.2.2.2.2.2.2.2.2.2.2.2.1 ?_
  refine g_aload C 0 D_X6_init_1.2.2.2.2.2.2.2.2.2.2.2.2.2.2.2.2.2.2.2.2.2.2.2.2.2.2.2.2.1 rfl ?_
  refine g_bipush C (v := Int32.ofInt (24)) D_X6_init_1.2.2.2.2.2.2.2.2.2.2.2.2.2.2.2.2.2.2.2.2.2.2.2.2.2.2.2.2.2.1 (ofI_b (by decide) (by decide)) ?_
  refine c_newa C (a0 := zI 24) (i := 0) (ty := .int) rfl (mem1 (i := 51) rfl rfl) rfl (fun _ z => z) (fun _ => rfl) (by decide) (by decide) (by decide) (Nat.le_of_ble_eq_true rfl) (Nat.le_of_ble_eq_true rfl) D_X6_init_1.2.2.2.2.2.2.2.2.2.2.2.2.2.2.2.2.2.2.2.2.2.2.2.2.2.2.2.2.2.2.1 (fun q5 => ?_)
  refine c_putF C hin hj rfl (by decide) (kf := 10) (by decide) (mem3 (i := 73) rfl rfl) rfl rfl (tyN_ok (by decide) 10 (by decide)) rfl rfl (Nat.le_of_ble_eq_true rfl) D_X6_init_1.2.2.2.2.2.2.2.2.2.2.2.2.2.2.2.2.2.2.2.2.2.2.2.2.2.2.2.2.2.2.2.1 ?_
  refine g_aload C 0 D_X6_init_1.2.2.2.2.2.2.2.2.2.2.2.2.2.2.2.2.2.2.2.2.2.2.2.2.2.2.2.2.2.2.2.2.1 rfl ?_
  refine g_bipush C (v := Int32.ofInt (104)) D_X6_init_1.2.2.2.2.2.2.2.2.2.2.2.2.2.2.2.2.2.2.2.2.2.2.2.2.2.2.2.2.2.2.2.2.2.1 (ofI_b (by decide) (by decide)) ?_
  refine c_newa C (a0 := zL 104) (i := 1) (ty := .long) rfl (mem1 (i := 77) rfl rfl) rfl (fun _ z => z) (fun _ => rfl) (by decide) (by decide) (by decide) (Nat.le_of_ble_eq_true rfl) (Nat.le_of_ble_eq_true rfl) D_X6_init_1.2.2.2.2.2.2.2.2.2.2.2.2.2.2.2.2.2.2.2.2.2.2.2.2.2.2.2.2.2.2.2.2.2.2.1 (fun q6 => ?_)
  refine c_putF C hin hj rfl (by decide) (kf := 11) (by decide) (mem3 (i := 74) rfl rfl) rfl rfl (tyN_ok (by decide) 11 (by decide)) rfl rfl (Nat.le_of_ble_eq_true rfl) D_X6_init_1.2.2.2.2.2.2.2.2.2.2.2.2.2.2.2.2.2.2.2.2.2.2.2.2.2.2.2.2.2.2.2.2.2.2.2.1 ?_
  refine g_aload C 0 D_X6_init_1.2.2.2.2.2.2.2.2.2.2.2.2.2.2.2.2.2.2.2.2.2.2.2.2.2.2.2.2.2.2.2.2.2.2.2.2.1 rfl ?_
  refine g_sipush C (v := Int32.ofInt (938)) D_X6_init_1.2.2.2.2.2.2.2.2.2.2.2.2.2.2.2.2.2.2.2.2.2.2.2.2.2.2.2.2.2.2.2.2.2.2.2.2.2.1 (ofI_s (by decide) (by decide)) ?_
  refine c_newa C (a0 := zL 938) (i := 1) (ty := .long) rfl (mem1 (i := 77) rfl rfl) rfl (fun _ z => z) (fun _ => rfl) (by decide) (by decide) (by decide) (Nat.le_of_ble_eq_true rfl) (Nat.le_of_ble_eq_true rfl) D_X6_init_1.2.2.2.2.2.2.2.2.2.2.2.2.2.2.2.2.2.2.2.2.2.2.2.2.2.2.2.2.2.2.2.2.2.2.2.2.2.2.1 (fun q7 => ?_)
  refine c_putF C hin hj rfl (by decide) (kf := 12) (by decide) (mem3 (i := 75) rfl rfl) rfl rfl (tyN_ok (by decide) 12 (by decide)) rfl rfl (Nat.le_of_ble_eq_true rfl) D_X6_init_1.2.2.2.2.2.2.2.2.2.2.2.2.2.2.2.2.2.2.2.2.2.2.2.2.2.2.2.2.2.2.2.2.2.2.2.2.2.2.2 ?_
  refine g_aload C 0 D_X6_init_2.1 rfl ?_
  refine g_sipush C (v := Int32.ofInt (938)) D_X6_init_2.2.1 (ofI_s (by decide) (by decide)) ?_
  refine c_newa C (a0 := zL 938) (i := 1) (ty := .long) rfl (mem1 (i := 77) rfl rfl) rfl (fun _ z => z) (fun _ => rfl) (by decide) (by decide) (by decide) (Nat.le_of_ble_eq_true rfl) (Nat.le_of_ble_eq_true rfl) D_X6_init_2.2.2.1 (fun q8 => ?_)
  refine c_putF C hin hj rfl (by decide) (kf := 13) (by decide) (mem3 (i := 76) rfl rfl) rfl rfl (tyN_ok (by decide) 13 (by decide)) rfl rfl (Nat.le_of_ble_eq_true rfl) D_X6_init_2.2.2.2.1 ?_
  refine g_aload C 0 D_X6_init_2.2.2.2.2.1 rfl ?_
  refine g_sipush C (v := Int32.ofInt (1250)) D_X6_init_2.2.2.2.2.2.1 (ofI_s (by decide) (by decide)) ?_
  refine c_newa C (a0 := zI 1250) (i := 0) (ty := .int) rfl (mem1 (i := 51) rfl rfl) rfl (fun _ z => z) (fun _ => rfl) (by decide) (by decide) (by decide) (Nat.le_of_ble_eq_true rfl) (Nat.le_of_ble_eq_true rfl) D_X6_init_2.2.2.2.2.2.2.1 (fun q9 => ?_)
  refine c_putF C hin hj rfl (by decide) (kf := 14) (by decide) (mem3 (i := 77) rfl rfl) rfl rfl (tyN_ok (by decide) 14 (by decide)) rfl rfl (Nat.le_of_ble_eq_true rfl) D_X6_init_2.2.2.2.2.2.2.2.1 ?_
  refine g_aload C 0 D_X6_init_2.2.2.2.2.2.2.2.2.1 rfl ?_
  refine g_sipush C (v := Int32.ofInt (1250)) D_X6_init_2.2.2.2.2.2.2.2.2.2.1 (ofI_s (by decide) (by decide)) ?_
  refine c_newa C (a0 := zL 1250) (i := 1) (ty := .long) rfl (mem1 (i := 77) rfl rfl) rfl (fun _ z => z) (fun _ => rfl) (by decide) (by decide) (by decide) (Nat.le_of_ble_eq_true rfl) (Nat.le_of_ble_eq_true rfl) D_X6_init_2.2.2.2.2.2.2.2.2.2.2.1 (fun q10 => ?_)
  refine c_putF C hin hj rfl (by decide) (kf := 15) (by decide) (mem3 (i := 78) rfl rfl) rfl rfl (tyN_ok (by decide) 15 (by decide)) rfl rfl (Nat.le_of_ble_eq_true rfl) D_X6_init_2.2.2.2.2.2.2.2.2.2.2.2.1 ?_
  refine g_aload C 0 D_X6_init_2.2.2.2.2.2.2.2.2.2.2.2.2.1 rfl ?_
  refine g_sipush C (v := Int32.ofInt (625)) D_X6_init_2.2.2.2.2.2.2.2.2.2.2.2.2.2.1 (ofI_s (by decide) (by decide)) ?_
  refine c_newa C (a0 := zL 625) (i := 1) (ty := .long) rfl (mem1 (i := 77) rfl rfl) rfl (fun _ z => z) (fun _ => rfl) (by decide) (by decide) (by decide) (Nat.le_of_ble_eq_true rfl) (Nat.le_of_ble_eq_true rfl) D_X6_init_2.2.2.2.2.2.2.2.2.2.2.2.2.2.2.1 (fun q11 => ?_)
  refine c_putF C hin hj rfl (by decide) (kf := 16) (by decide) (mem3 (i := 79) rfl rfl) rfl rfl (tyN_ok (by decide) 16 (by decide)) rfl rfl (Nat.le_of_ble_eq_true rfl) D_X6_init_2.2.2.2.2.2.2.2.2.2.2.2.2.2.2.2.1 ?_
  refine g_aload C 0 D_X6_init_2.2.2.2.2.2.2.2.2.2.2.2.2.2.2.2.2.1 rfl ?_
  refine g_bipush C (v := Int32.ofInt (24)) D_X6_init_2.2.2.2.2.2.2.2.2.2.2.2.2.2.2.2.2.2.1 (ofI_b (by decide) (by decide)) ?_
  refine c_newa C (a0 := zI 24) (i := 0) (ty := .int) rfl (mem1 (i := 51) rfl rfl) rfl (fun _ z => z) (fun _ => rfl) (by decide) (by decide) (by decide) (Nat.le_of_ble_eq_true rfl) (Nat.le_of_ble_eq_true rfl) D_X6_init_2.2.2.2.2.2.2.2.2.2.2.2.2.2.2.2.2.2.2.1 (fun q12 => ?_)
  refine c_putF C hin hj rfl (by decide) (kf := 17) (by decide) (mem3 (i := 80) rfl rfl) rfl rfl (tyN_ok (by decide) 17 (by decide)) rfl rfl (Nat.le_of_ble_eq_true rfl) D_X6_init_2.2.2.2.2.2.2.2.2.2.2.2.2.2.2.2.2.2.2.2.1 ?_
  refine g_aload C 0 D_X6_init_2.2.2.2.2.2.2.2.2.2.2.2.2.2.2.2.2.2.2.2.2.1 rfl ?_
  refine g_bipush C (v := Int32.ofInt (24)) D_X6_init_2.2.2.2.2.2.2.2.2.2.2.2.2.2.2.2.2.2.2.2.2.2.1 (ofI_b (by decide) (by decide)) ?_
  refine c_newa C (a0 := zI 24) (i := 0) (ty := .int) rfl (mem1 (i := 51) rfl rfl) rfl (fun _ z => z) (fun _ => rfl) (by decide) (by decide) (by decide) (Nat.le_of_ble_eq_true rfl) (Nat.le_of_ble_eq_true rfl) D_X6_init_2.2.2.2.2.2.2.2.2.2.2.2.2.2.2.2.2.2.2.2.2.2.2.1 (fun q13 => ?_)
  refine c_putF C hin hj rfl (by decide) (kf := 18) (by decide) (mem3 (i := 81) rfl rfl) rfl rfl (tyN_ok (by decide) 18 (by decide)) rfl rfl (Nat.le_of_ble_eq_true rfl) D_X6_init_2.2.2.2.2.2.2.2.2.2.2.2.2.2.2.2.2.2.2.2.2.2.2.2.1 ?_
  refine g_aload C 0 D_X6_init_2.2.2.2.2.2.2.2.2.2.2.2.2.2.2.2.2.2.2.2.2.2.2.2.2.1 rfl ?_
  refine g_bipush C (v := Int32.ofInt (24)) D_X6_init_2.2.2.2.2.2.2.2.2.2.2.2.2.2.2.2.2.2.2.2.2.2.2.2.2.2.1 (ofI_b (by decide) (by decide)) ?_
  refine c_newa C (a0 := zI 24) (i := 0) (ty := .int) rfl (mem1 (i := 51) rfl rfl) rfl (fun _ z => z) (fun _ => rfl) (by decide) (by decide) (by decide) (Nat.le_of_ble_eq_true rfl) (Nat.le_of_ble_eq_true rfl) D_X6_init_2.2.2.2.2.2.2.2.2.2.2.2.2.2.2.2.2.2.2.2.2.2.2.2.2.2.2.1 (fun q14 => ?_)
  refine c_putF C hin hj rfl (by decide) (kf := 19) (by decide) (mem3 (i := 82) rfl rfl) rfl rfl (tyN_ok (by decide) 19 (by decide)) rfl rfl (Nat.le_of_ble_eq_true rfl) D_X6_init_2.2.2.2.2.2.2.2.2.2.2.2.2.2.2.2.2.2.2.2.2.2.2.2.2.2.2.2.1 ?_
  refine g_iconst C (v := Int32.ofInt (0)) D_X6_init_2.2.2.2.2.2.2.2.2.2.2.2.2.2.2.2.2.2.2.2.2.2.2.2.2.2.2.2.2.1 rfl ?_
  refine g_istore1 C (lv' := [(1, .int (Int32.ofInt 0)), (0, .ref a)]) D_X6_init_2.2.2.2.2.2.2.2.2.2.2.2.2.2.2.2.2.2.2.2.2.2.2.2.2.2.2.2.2.2.1 (by decide) rfl ?_
  refine loop_c (i := 0) (q := q0) (N := 24) (c9 := cA 0) (v := Int32.ofInt (-1)) (pc := 142) (tgt := 161) (b := a) (f := fun _ => Int32.ofInt 0) rfl (fun L9 i9 f9 h9 e9 k9 => ?_) (fun L9 e9 k9 => ?_) ?_
  · refine g_iload1 C 0 D_X6_init_2.2.2.2.2.2.2.2.2.2.2.2.2.2.2.2.2.2.2.2.2.2.2.2.2.2.2.2.2.2.2.1 rfl ?_
    refine g_bipush C (v := Int32.ofInt (24)) D_X6_init_2.2.2.2.2.2.2.2.2.2.2.2.2.2.2.2.2.2.2.2.2.2.2.2.2.2.2.2.2.2.2.2.1 (ofI_b (by decide) (by decide)) ?_
    refine g_icmpge_f C 161 D_X6_init_2.2.2.2.2.2.2.2.2.2.2.2.2.2.2.2.2.2.2.2.2.2.2.2.2.2.2.2.2.2.2.2.2.1 (by decide) (fun z => by have := (ofI_le (by unfold inR; omega) (by unfold inR; omega)).mp z; omega) ?_
    refine g_aload C 1 D_X6_init_2.2.2.2.2.2.2.2.2.2.2.2.2.2.2.2.2.2.2.2.2.2.2.2.2.2.2.2.2.2.2.2.2.2.1 rfl ?_
    refine c_get C hj (by decide) (kf := 1) (by decide) (mem3 (i := 64) rfl rfl) rfl D_X6_init_2.2.2.2.2.2.2.2.2.2.2.2.2.2.2.2.2.2.2.2.2.2.2.2.2.2.2.2.2.2.2.2.2.2.2.1 ?_
    refine g_iload1 C 0 D_X6_init_2.2.2.2.2.2.2.2.2.2.2.2.2.2.2.2.2.2.2.2.2.2.2.2.2.2.2.2.2.2.2.2.2.2.2.2.1 rfl ?_
    refine g_iconst C (v := Int32.ofInt (-1)) D_X6_init_2.2.2.2.2.2.2.2.2.2.2.2.2.2.2.2.2.2.2.2.2.2.2.2.2.2.2.2.2.2.2.2.2.2.2.2.2.1 rfl ?_
    refine c_iast C (i := 0) (x := (i9 : Int)) e9 (by omega) (by omega) (by decide) D_X6_init_2.2.2.2.2.2.2.2.2.2.2.2.2.2.2.2.2.2.2.2.2.2.2.2.2.2.2.2.2.2.2.2.2.2.2.2.2.2.1 ?_
    refine g_iinc1 C 0 (i := (i9 : Int)) (lv' := [(1, .int (Int32.ofInt ((i9 : Int) + 1))), (0, .ref a)]) D_X6_init_2.2.2.2.2.2.2.2.2.2.2.2.2.2.2.2.2.2.2.2.2.2.2.2.2.2.2.2.2.2.2.2.2.2.2.2.2.2.2.1 rfl (by decide) rfl ?_
    refine g_goto C 142 D_X6_init_2.2.2.2.2.2.2.2.2.2.2.2.2.2.2.2.2.2.2.2.2.2.2.2.2.2.2.2.2.2.2.2.2.2.2.2.2.2.2.2 (by decide) ?_
    exact k9
  · refine g_iload1 C 0 D_X6_init_2.2.2.2.2.2.2.2.2.2.2.2.2.2.2.2.2.2.2.2.2.2.2.2.2.2.2.2.2.2.2.1 rfl ?_
    refine g_bipush C (v := Int32.ofInt (24)) D_X6_init_2.2.2.2.2.2.2.2.2.2.2.2.2.2.2.2.2.2.2.2.2.2.2.2.2.2.2.2.2.2.2.2.1 (ofI_b (by decide) (by decide)) ?_
    refine g_icmpge_t C 161 D_X6_init_2.2.2.2.2.2.2.2.2.2.2.2.2.2.2.2.2.2.2.2.2.2.2.2.2.2.2.2.2.2.2.2.2.1 (by decide) (by decide) ?_
    exact k9
  have hT : True := trivial
  refine g_iconst C (v := Int32.ofInt (0)) D_X6_init_3.1 rfl ?_
  refine g_istore1 C (lv' := [(1, .int (Int32.ofInt 0)), (0, .ref a)]) D_X6_init_3.2.1 (by decide) rfl ?_
  refine loop_c (i := 3) (q := q3) (N := 16) (c9 := cA 0) (v := Int32.ofInt (21)) (pc := 163) (tgt := 183) (b := a) (f := fun _ => Int32.ofInt 0) rfl (fun L9 i9 f9 h9 e9 k9 => ?_) (fun L9 e9 k9 => ?_) ?_
  · refine g_iload1 C 0 D_X6_init_3.2.2.1 rfl ?_
    refine g_bipush C (v := Int32.ofInt (16)) D_X6_init_3.2.2.2.1 (ofI_b (by decide) (by decide)) ?_
    refine g_icmpge_f C 183 D_X6_init_3.2.2.2.2.1 (by decide) (fun z => by have := (ofI_le (by unfold inR; omega) (by unfold inR; omega)).mp z; omega) ?_
    refine g_aload C 1 D_X6_init_3.2.2.2.2.2.1 rfl ?_
    refine c_get C hj (by decide) (kf := 6) (by decide) (mem3 (i := 69) rfl rfl) rfl D_X6_init_3.2.2.2.2.2.2.1 ?_
    refine g_iload1 C 0 D_X6_init_3.2.2.2.2.2.2.2.1 rfl ?_
    refine g_bipush C (v := Int32.ofInt (21)) D_X6_init_3.2.2.2.2.2.2.2.2.1 (ofI_b (by decide) (by decide)) ?_
    refine c_iast C (i := 3) (x := (i9 : Int)) e9 (by omega) (by omega) (by decide) D_X6_init_3.2.2.2.2.2.2.2.2.2.1 ?_
    refine g_iinc1 C 0 (i := (i9 : Int)) (lv' := [(1, .int (Int32.ofInt ((i9 : Int) + 1))), (0, .ref a)]) D_X6_init_3.2.2.2.2.2.2.2.2.2.2.1 rfl (by decide) rfl ?_
    refine g_goto C 163 D_X6_init_3.2.2.2.2.2.2.2.2.2.2.2.1 (by decide) ?_
    exact k9
  · refine g_iload1 C 0 D_X6_init_3.2.2.1 rfl ?_
    refine g_bipush C (v := Int32.ofInt (16)) D_X6_init_3.2.2.2.1 (ofI_b (by decide) (by decide)) ?_
    refine g_icmpge_t C 183 D_X6_init_3.2.2.2.2.1 (by decide) (by decide) ?_
    exact k9
  have hT : True := trivial
  exact c_ret C hr hlk (fun id => if id = 26 then q0 else if id = 27 then q1 else if id = 28 then q2 else if id = 29 then q3 else if id = 30 then q4 else if id = 31 then q5 else if id = 32 then q6 else if id = 33 then q7 else if id = 34 then q8 else if id = 35 then q9 else if id = 36 then q10 else if id = 37 then q11 else if id = 38 then q12 else if id = 39 then q13 else if id = 40 then q14 else 0) rfl rfl D_X6_init_3.2.2.2.2.2.2.2.2.2.2.2.2

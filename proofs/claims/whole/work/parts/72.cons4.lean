/-! constructors: loops -/
section GLS
variable {p : Program} {l : Launch} {e : Env} {R : Room} {s : State} {m : MethodId} {args : Array Value} {below : List Frame} {meth : Method} {c : Code} {D : va_G} {cA : Nat → ClassId} {h : Nat} {Q : State → Prop} {nL o pc : Nat} {cc : ByteArray} {lv : List (Nat × Value)} {st : List Value} {ws ws0 : va_W} {j a ci : Nat} {fs : List Value} {L : va_W} {k n : Nat}
theorem g_aload (C : Ci p s m args c D cA cc nL o h) (pl : Nat) {b : Nat} (hdg : decode cc pc = .ok (.aload_n 0, 1)) (hl0 : lv[pl]? = some (0, .ref b)) (kk : Gx p l e R s m args below meth c D h Q nL (pc + 1) lv (.ref b :: st) ws k n) : Gx p l e R s m args below meth c D h Q nL pc lv st ws k n := fun H locs la hP hD hS hl => lv_aload_n C.1 C.2.1 hdg rfl (lv_at hl pl hl0) (kk H locs la hP hD hS hl)
theorem g_iload1 (C : Ci p s m args c D cA cc nL o h) (pl : Nat) {x : Int32} (hdg : decode cc pc = .ok (.iload_n 1, 1)) (hl0 : lv[pl]? = some (1, .int x)) (kk : Gx p l e R s m args below meth c D h Q nL (pc + 1) lv (.int x :: st) ws k n) : Gx p l e R s m args below meth c D h Q nL pc lv st ws k n := fun H locs la hP hD hS hl => lv_iload_n C.1 C.2.1 hdg rfl (lv_at hl pl hl0) (kk H locs la hP hD hS hl)
theorem g_istore1 (C : Ci p s m args c D cA cc nL o h) {x : Int32} {lv' : List (Nat × Value)} (hdg : decode cc pc = .ok (.istore_n 1, 1)) (hn : 1 < nL) (hlv : (1, Value.int x) :: lv.filter (fun q => !(q.1 == 1) && !(q.1 + 1 == 1 && q.2.category == 2)) = lv') (kk : Gx p l e R s m args below meth c D h Q nL (pc + 1) lv' st ws k n) : Gx p l e R s m args below meth c D h Q nL pc lv (.int x :: st) ws k n := fun H locs la hP hD hS hl => lv_istore_n C.1 C.2.1 hdg rfl hl hn hlv (fun la1 hl1 => kk H locs la1 hP hD hS hl1)
theorem g_iinc1 (C : Ci p s m args c D cA cc nL o h) (pl : Nat) {i : Int} {lv' : List (Nat × Value)} (hdg : decode cc pc = .ok (.iinc 1 1, 3)) (hl0 : lv[pl]? = some (1, .int (Int32.ofInt i))) (hn : 1 < nL) (hlv : (1, Value.int (Int32.ofInt (i + 1))) :: lv.filter (fun q => !(q.1 == 1) && !(q.1 + 1 == 1 && q.2.category == 2)) = lv') (kk : Gx p l e R s m args below meth c D h Q nL (pc + 3) lv' st ws k n) : Gx p l e R s m args below meth c D h Q nL pc lv st ws k n := fun H locs la hP hD hS hl => lv_iinc (v := Int32.ofInt (i + 1)) C.1 C.2.1 hdg hl hl0 (ofI_add _ _) hn hlv (fun la1 hl1 => kk H locs la1 hP hD hS hl1)
theorem g_goto (C : Ci p s m args c D cA cc nL o h) {off : Int} (tgt : Nat) (hdg : decode cc pc = .ok (.goto off, 3)) (ht : (pc : Int) + off = (tgt : Int)) (kk : Gx p l e R s m args below meth c D h Q nL tgt lv st ws k n) : Gx p l e R s m args below meth c D h Q nL pc lv st ws k n := fun H locs la hP hD hS hl => lv_goto C.1 C.2.1 hdg ht (kk H locs la hP hD hS hl)
theorem g_icmpge_t (C : Ci p s m args c D cA cc nL o h) {off : Int} (tgt : Nat) {x y : Int32} (hdg : decode cc pc = .ok (.if_icmp .ge off, 3)) (ht : (pc : Int) + off = (tgt : Int)) (hxy : y ≤ x) (kk : Gx p l e R s m args below meth c D h Q nL tgt lv st ws k n) : Gx p l e R s m args below meth c D h Q nL pc lv (.int y :: .int x :: st) ws k n := fun H locs la hP hD hS hl => lv_icmp_ge C.1 C.2.1 hdg ht (fun _ => kk H locs la hP hD hS hl) (fun q => absurd hxy q)
theorem g_icmpge_f (C : Ci p s m args c D cA cc nL o h) {off : Int} (tgt : Nat) {x y : Int32} (hdg : decode cc pc = .ok (.if_icmp .ge off, 3)) (ht : (pc : Int) + off = (tgt : Int)) (hxy : ¬ y ≤ x) (kk : Gx p l e R s m args below meth c D h Q nL (pc + 3) lv st ws k n) : Gx p l e R s m args below meth c D h Q nL pc lv (.int y :: .int x :: st) ws k n := fun H locs la hP hD hS hl => lv_icmp_ge C.1 C.2.1 hdg ht (fun q => absurd q hxy) (fun _ => kk H locs la hP hD hS hl)
theorem c_aald (C : Ci p s m args c D cA cc nL o h) {i q N : Nat} {r : Nat → Nat} {x : Int} {v : Nat} (hLi : L[i]? = some (q, .inl (cA 3, N, .inr (.inr (.inr (.inr (fun i => if i < N then some (r i) else none))))))) (x0 : 0 ≤ x) (x1 : x < N) (hN : N < 2000) (hv : r x.toNat = v) (hdg : decode cc pc = .ok (.aaload, 1)) (kk : Gc p l e R s m args below meth c D h Q nL ws0 j a ci (pc + 1) lv (.ref v :: st) fs L k n) : Gc p l e R s m args below meth c D h Q nL ws0 j a ci pc lv (.int (Int32.ofInt x) :: .ref q :: st) fs L k n := by
  intro H locs la hP hD hS hl
  obtain ⟨hx, hb, hml, hown, hts, hK, hh⟩ := C
  have hc := hP _ _ (made_at (ws0 := ws0) (j := j) (a := a) (ci := ci) (fs := fs) hLi)
  refine W.aald (v := .ref v) (ty := .array .int) hx hb hc ((hK.1.2 3 _ rfl).1 _ _) rfl (fun q => by cases q) ?_ ?_ rfl rfl hdg (kk H locs la hP hD hS hl)
  · show ¬ (Int32.ofInt x < 0 ∨ (arrV _ _ _).slots.size ≤ _)
    rw [arrV_size]
    exact ofI_in (n := N) x0 x1 (by omega)
  · show (arrV _ _ _).slots[_]? = _
    rw [ofI_cl x0 (by omega), arrV_read _ _ (by show x.toNat < N; omega)]
    show some (va_rf (if x.toNat < N then some (r x.toNat) else none)) = _
    rw [if_pos (by omega), hv]
    rfl
theorem c_iast (C : Ci p s m args c D cA cc nL o h) {i q N : Nat} {f : Nat → Int32} {x : Int} {v : Int32} (hLi : L[i]? = some (q, .inl (cA 0, N, .inl f))) (x0 : 0 ≤ x) (x1 : x < N) (hN : N < 2000) (hdg : decode cc pc = .ok (.iastore, 1)) (kk : Gc p l e R s m args below meth c D h Q nL ws0 j a ci (pc + 1) lv st fs (L.set i (q, .inl (cA 0, N, .inl (upd f x.toNat v)))) k n) : Gc p l e R s m args below meth c D h Q nL ws0 j a ci pc lv (.int v :: .int (Int32.ofInt x) :: .ref q :: st) fs L k n := by
  intro H locs la hP hD hS hl
  obtain ⟨hx, hb, hml, hown, hts, hK, hh⟩ := C
  refine va_iast hx hb hK.1 hP hD hS (ws0.length + i) 0 (made_at hLi) rfl (ofI_in x0 x1 (by omega)) hdg (fun H1 locs1 hP1 hD1 hS1 => ?_)
  rw [ofI_cl x0 (by omega), made_set] at hP1 hD1
  exact kk H1 locs1 la hP1 hD1 hS1 hl
theorem c_fun {i q N : Nat} {f g : Nat → Int32} {c' : ClassId} (hi : i < L.length) (h0 : ∀ x, x < N → f x = g x) (kk : Gc p l e R s m args below meth c D h Q nL ws0 j a ci pc lv st fs (L.set i (q, .inl (c', N, .inl g))) k n) : Gc p l e R s m args below meth c D h Q nL ws0 j a ci pc lv st fs (L.set i (q, .inl (c', N, .inl f))) k n := by
  intro H locs la hP hD hS hl
  have e1 : ∀ x, (ws0.set j (a, .inr (ci, fs)) ++ L).set (ws0.length + i) x = ws0.set j (a, .inr (ci, fs)) ++ L.set i x := fun x => made_set i x
  refine kk H locs la ?_ ?_ hS hl
  · rw [← e1] at hP ⊢
    exact P_congr (e0 := .inr (0, [])) (e1 := .inr (0, [])) h0 hP
  · rw [← e1] at hD ⊢
    have := hD.set (e := .inl (c', N, .inl g)) (p := ws0.length + i) (List.getElem?_set_self (by simp; omega))
    rw [List.set_set] at this
    exact this
end GLS

/-! constructors: what they leave; calls of them -/
/-- the start of all cells -/
def s0 : Sg := fun id k => if id = 7 ∨ id = 26 then -1 else if id = 29 ∨ (41 ≤ id ∧ id < 45) then 21 else if (id = 1 ∧ k = 0) ∨ (id = 6 ∧ k = 0) then 8 else if (id = 4 ∧ k = 1) ∨ (id = 6 ∧ k = 7) then 3 else 0
abbrev zI (N : Nat) : vp_A := (N, .inl (fun _ => Int32.ofInt 0))
abbrev zL (N : Nat) : vp_A := (N, .inr (.inl (fun _ => Int64.ofInt 0)))
abbrev vI (N : Nat) (v : Int) : vp_A := (N, .inl (fun _ => Int32.ofInt v))
def LL1 (cA : Nat → ClassId) (A : Nat → Nat) : va_W := [(A 7, .inl (cA 0, vI 24 (-1))), (A 8, .inl (cA 0, zI 24)), (A 9, .inl (cA 0, zI 24)), (A 10, .inl (cA 2, zI 24)), (A 11, .inl (cA 0, zI 24))]
def LL0 (cA : Nat → ClassId) (A : Nat → Nat) : va_W := seg (cA 4) (cA 1) (zL 7) 13 (A 23) (fun i => A (170 + i)) ++ (seg (cA 4) (cA 1) (zL 67) 13 (A 24) (fun i => A (183 + i)) ++ seg (cA 4) (cA 1) (zL 67) 14 (A 25) (fun i => A (196 + i)))
def LL3 (cA : Nat → ClassId) (A : Nat → Nat) : va_W := [(A 12, .inl (cA 0, zI 24)), (A 13, .inl (cA 0, zI 24))]
def LL4 (cA : Nat → ClassId) (A : Nat → Nat) : va_W := seg (cA 3) (cA 0) (vI 4 21) 4 (A 15) (fun i => A (41 + i)) ++ [(A 14, .inl (cA 0, zI 24))]
def LL2 (cA : Nat → ClassId) (A : Nat → Nat) : va_W := seg (cA 3) (cA 0) (zI 25) 25 (A 18) (fun i => A (45 + i)) ++ (seg (cA 3) (cA 0) (zI 25) 25 (A 19) (fun i => A (70 + i)) ++ (seg (cA 4) (cA 1) (zL 25) 25 (A 20) (fun i => A (95 + i)) ++ (seg (cA 4) (cA 1) (zL 25) 25 (A 21) (fun i => A (120 + i)) ++ (seg (cA 4) (cA 1) (zL 25) 25 (A 22) (fun i => A (145 + i)) ++ [(A 16, .inl (cA 0, zI 25)), (A 17, .inl (cA 2, zI 25))]))))
def LL6 (cA : Nat → ClassId) (A : Nat → Nat) : va_W := [(A 26, .inl (cA 0, vI 24 (-1))), (A 27, .inl (cA 0, zI 24)), (A 28, .inl (cA 0, zI 24)), (A 29, .inl (cA 0, vI 16 21)), (A 30, .inl (cA 0, zI 24)), (A 31, .inl (cA 0, zI 24)), (A 32, .inl (cA 1, zL 104)), (A 33, .inl (cA 1, zL 938)), (A 34, .inl (cA 1, zL 938)), (A 35, .inl (cA 0, zI 1250)), (A 36, .inl (cA 1, zL 1250)), (A 37, .inl (cA 1, zL 625)), (A 38, .inl (cA 0, zI 24)), (A 39, .inl (cA 0, zI 24)), (A 40, .inl (cA 0, zI 24))]
def LL5 (cA : Nat → ClassId) (A : Nat → Nat) : va_W := (A 1, .inr (1, fvs A s0 1)) :: (LL1 cA A ++ ((A 0, .inr (0, fvs A s0 0)) :: (LL0 cA A ++ ((A 3, .inr (3, fvs A s0 3)) :: (LL3 cA A ++ ((A 4, .inr (4, fvs A s0 4)) :: (LL4 cA A ++ ((A 2, .inr (2, fvs A s0 2)) :: LL2 cA A))))))))
def bln (ci : Nat) : List Value := (FK ci).map (fun f => match f with | 0 => .int 0 | 1 => .long 0 | 2 => .int 0 | _ => .null)
abbrev rmI (d mc ms : Nat) : Room := { frames := d, cells := mc, slots := ms, locals := 32 * d }
abbrev PcI (D : va_G) (cA : Nat → ClassId) (h : Nat) (ws : va_W) (a : Nat) : Array Value → State → Prop := va_Pc [.ref a] (fun U => va_P D classes ws U.heap ∧ va_D (Ah h) ws ∧ KcT D cA U ∧ h ≤ U.heap.size)
abbrev QcI (D : va_G) (h : Nat) (ws : va_W) (j a ci : Nat) (LL : (Nat → Nat) → va_W) : Array Value → State → Outcome → State → Prop := va_Qv (fun _ : Nat → Nat => True) (fun A t => va_P D classes (ws.set j (a, .inr (ci, fvs A s0 ci)) ++ LL A) t.heap ∧ va_D (Ah h) (ws.set j (a, .inr (ci, fvs A s0 ci)) ++ LL A)) (Ah h)
/-- a constructor's contract -/
def Con (l : Launch) (D : va_G) (cA : Nat → ClassId) (h ci : Nat) (y : MethodName) (cc : ByteArray) (nL : Nat) (LL : (Nat → Nat) → va_W) (d mc ms : Nat) : Prop := ∀ (ws : va_W) (j a : Nat), ws[j]? = some (a, .inr (ci, bln ci)) → Met l y (Cond.code y cc nL none :: GG) (rmI d mc ms) (PcI D cA h ws a) (QcI D h ws j a ci LL) mc ms (Ah h)
theorem set_same {ws : va_W} {j : Nat} {x : Nat × va_E} (hj : ws[j]? = some x) : ws.set j x = ws := by
  have hjl : j < ws.length := (List.getElem?_eq_some_iff.mp hj).1
  apply List.ext_getElem?
  intro k
  by_cases q : j = k
  · subst q
    rw [List.getElem?_set_self hjl, hj]
  · rw [List.getElem?_set_ne q]
theorem Con.of {l : Launch} {D : va_G} {cA : Nat → ClassId} {h ci : Nat} {y : MethodName} {cc : ByteArray} {nL : Nat} {LL : (Nat → Nat) → va_W} {d mc ms : Nat} (hy : plainName y.cls = true) (ho : y.cls = RN ci) (hnm : y.name = "<init>") (hnL : 1 ≤ nL)
    (body : ∀ (p : Program) (e : Env) (s : State) (m : MethodId) (below : List Frame) (meth : Method) (c : Code) (ws : va_W) (j a : Nat), Ci p s m #[.ref a] c D cA cc nL ci h → meth.name = "<init>" → meth.sig.returnType = none → meth.locks = false → j < ws.length → Gc p l e (rmI d mc ms) s m #[.ref a] below meth c D h (MQ below (QcI D h ws j a ci LL) #[.ref a] s mc ms (Ah h)) nL ws j a ci 0 [(0, .ref a)] [] (bln ci) [] 0 0) : Con l D cA h ci y cc nL LL d mc ms := by
  intro ws j a hj
  refine Met.ofW (cc := cc) (maxL := nL) (ret := none) hy rfl ?_
  intro p e s m args below meth c s₁ B hml hv
  obtain ⟨rfl, hP, hD, hK, hh⟩ := hv
  have hts := atoms_spec (ws := Cond.code y cc nL none :: GG) B.pre
  have hown : s.vm.findClass y.cls = some m.cls := findClass_of_methodNamed B.named
  rw [ho] at hown
  have hin : meth.name = "<init>" := by rw [(name_of_methodNamed B.named B.method).1, hnm]
  have hl := lv_entry ([.ref a]) (n := nL) (by show 1 ≤ nL; exact hnL)
  rw [lg_entry_eq]
  have hb := body p e s m below meth c ws j a ⟨B.exec, B.bytes, hml, hown, fun w hw => hts w (List.mem_cons_of_mem _ hw), hK, hh⟩ hin B.returns B.notSynchronized (List.getElem?_eq_some_iff.mp hj).1
  refine hb s.heap [] _ ?_ ?_ va_S.rf hl
  · rw [set_same hj, List.append_nil]
    exact hP
  · rw [set_same hj, List.append_nil]
    exact hD
section GIS
variable {p : Program} {l : Launch} {e : Env} {R : Room} {s : State} {m : MethodId} {args : Array Value} {below : List Frame} {meth : Method} {c : Code} {D : va_G} {cA : Nat → ClassId} {h : Nat} {Q : State → Prop} {nL o pc : Nat} {cc : ByteArray} {lv : List (Nat × Value)} {st : List Value} {ws0 : va_W} {j a ci : Nat} {fs : List Value} {L : va_W} {k n : Nat}
theorem good_I {y : MethodName} {ccj : ByteArray} {nLj : Nat} (hc : Cond.code y ccj nLj none ∈ GG) : GoodIn GG (Cond.code y ccj nLj none :: GG) := by
  intro w hw
  rcases List.mem_cons.mp hw with rfl | hw
  · exact ⟨hc, GG_good _ hc⟩
  · exact ⟨hw, GG_good _ hw⟩
theorem I_blind (D : va_G) (cA : Nat → ClassId) (h : Nat) (ws : va_W) (a : Nat) : FrameBlind (PcI D cA h ws a) := fun a' U g mk z => ⟨z.1, z.2.1, z.2.2.1, z.2.2.2.1.blind, z.2.2.2.2⟩
/-- behind a constructor's run, at any world -/
theorem g_back {cj d mc ms : Nat} {LL : (Nat → Nat) → va_W} {wsx : va_W} {jx q : Nat} {rest : List Value} {av : Array Value} {la : Array Slot} {H : Heap} {locs : List Loc} {st0 : List Value} (hr : va_Run p l e R s m args below meth c H locs k n mc ms (F0 m pc la st0) rest (QcI D h wsx jx q cj LL av) (Ah h)) (hS : va_S (Ah h) s.heap H locs) (hl : lv_has la nL lv)
    (kk : ∀ A : Nat → Nat, Gx p l e R s m args below meth c D h Q nL (pc + 3) lv rest (wsx.set jx (q, .inr (cj, fvs A s0 cj)) ++ LL A) (k + mc) (n + ms)) : W p l e R s m args below meth c H locs k n Q (F0 m pc la st0) :=
  va_callv hr hS (fun _ _ z => z) (fun _ z => z) (fun A t H1 locs1 ht hvm _ hB hz1 hk1 hS1 => kk A H1 locs1 la (by rw [← ht]; exact hB.1) hB.2 hS1 hl)
theorem g_init (C : Ci p s m args c D cA cc nL o h) {cj nLj d mc ms : Nat} {y : MethodName} {ccj : ByteArray} {LL : (Nat → Nat) → va_W} (hCon : Con l D cA h cj y ccj nLj LL d mc ms) {wsx : va_W} {jx q idx : Nat} (hj : wsx[jx]? = some (q, .inr (cj, bln cj))) (hcode : Cond.code y ccj nLj none ∈ GG) (hini : Cond.initialized y.cls ∈ GG) (hlink : Cond.methodLink (RN o) idx y ∈ GG) (hinst : Cond.instanceMethod y ∈ GG) (hy1 : y.name = "<init>") (hd : y.cls ≠ "java/lang/invoke/MethodHandle" ∧ y.cls ≠ "java/lang/invoke/VarHandle" ∧ (parseMethodDescriptor y.desc).map (fun d => d.parameters.length) = some 0) (hR : d + 1 ≤ R.frames ∧ 8 + (nLj + 11) + 32 * d ≤ R.locals) (hC : k + mc ≤ R.cells ∧ n + ms ≤ R.slots) (hrest : (st.map fun v => v.category).sum ≤ 8) (hdg : decode cc pc = .ok (.invokespecial idx, 3))
    (kk : ∀ A : Nat → Nat, Gx p l e R s m args below meth c D h Q nL (pc + 3) lv st (wsx.set jx (q, .inr (cj, fvs A s0 cj)) ++ LL A) (k + mc) (n + ms)) : Gx p l e R s m args below meth c D h Q nL pc lv (.ref q :: st) wsx k n := by
  intro H locs la hP hD hS hl
  obtain ⟨hx, hb, hml, hown, hts, hK, hh⟩ := C
  refine g_back (d := d) (va_runI (As := []) (rest := st) (Ts := GG) ⟨hx, hb, hml, hown, hts⟩ (hCon wsx jx q hj) (cwI 0 hts (good_I hcode) rfl rfl rfl (hts _ hini) (hts _ hlink) (hts _ hinst) hy1 hd hR) ⟨I_blind D cA h wsx q, fun U hU hW => ⟨rfl, by rw [hU]; exact hP, hD, hK.moved hW, by rw [hU]; exact Nat.le_trans hh hS.1⟩⟩ rfl rfl hl.1 rfl (lv_room hrest) hdg hC) hS hl kk
theorem g_initN (C : Ci p s m args c D cA cc nL o h) {cj nLj d mc ms : Nat} {y : MethodName} {ccj : ByteArray} {LL : (Nat → Nat) → va_W} (hCon : Con l D cA h cj y ccj nLj LL d mc ms) {wsx : va_W} {jx q idx : Nat} (hj : wsx[jx]? = some (q, .inr (cj, bln cj))) (hcode : Cond.code y ccj nLj none ∈ GG) (hini : Cond.initialized y.cls ∈ GG) {host : String} (hlink : va_Nw (.methodLinkNest (RN o) idx y host) s) (hinst : Cond.instanceMethod y ∈ GG) (hy1 : y.name = "<init>") (hd : y.cls ≠ "java/lang/invoke/MethodHandle" ∧ y.cls ≠ "java/lang/invoke/VarHandle" ∧ (parseMethodDescriptor y.desc).map (fun d => d.parameters.length) = some 0) (hR : d + 1 ≤ R.frames ∧ 8 + (nLj + 11) + 32 * d ≤ R.locals) (hC : k + mc ≤ R.cells ∧ n + ms ≤ R.slots) (hrest : (st.map fun v => v.category).sum ≤ 8) (hdg : decode cc pc = .ok (.invokespecial idx, 3))
    (kk : ∀ A : Nat → Nat, Gx p l e R s m args below meth c D h Q nL (pc + 3) lv st (wsx.set jx (q, .inr (cj, fvs A s0 cj)) ++ LL A) (k + mc) (n + ms)) : Gx p l e R s m args below meth c D h Q nL pc lv (.ref q :: st) wsx k n := by
  intro H locs la hP hD hS hl
  obtain ⟨hx, hb, hml, hown, hts, hK, hh⟩ := C
  refine g_back (d := d) (va_runIN (As := []) (rest := st) (Ts := GG) ⟨hx, hb, hml, hown, hts⟩ (hCon wsx jx q hj) ⟨va_cnB 0 hts (good_I hcode) rfl rfl rfl hlink (hts _ hini) hd hR, hy1, hts _ hinst⟩ ⟨I_blind D cA h wsx q, fun U hU hW => ⟨rfl, by rw [hU]; exact hP, hD, hK.moved hW, by rw [hU]; exact Nat.le_trans hh hS.1⟩⟩ rfl rfl hl.1 rfl (lv_room hrest) hdg hC) hS hl kk
theorem c_back {cj : Nat} {LL : va_W} {i q : Nat} {x : Nat × va_E} (kk : Gc p l e R s m args below meth c D h Q nL ws0 j a ci pc lv st fs (L.set i x ++ LL) k n) : Gx p l e R s m args below meth c D h Q nL pc lv st ((ws0.set j (a, .inr (ci, fs)) ++ L).set (ws0.length + i) x ++ LL) k n := by
  rw [made_set, List.append_assoc]
  exact kk
theorem c_ret (C : Ci p s m args c D cA cc nL o h) (hr : meth.sig.returnType = none) (hlk : meth.locks = false) {LL : (Nat → Nat) → va_W} (A : Nat → Nat) (hfs : fs = fvs A s0 ci) (hL : L = LL A) (hdg : decode cc pc = .ok (.return_, 1)) : Gc p l e R s m args below meth c D h (MQ below (QcI D h ws0 j a ci LL) args s k n (Ah h)) nL ws0 j a ci pc lv [] fs L k n := by
  intro H locs la hP hD hS hl
  subst hfs hL
  exact W.vret C.1 C.2.1 hr (fun t ht _ => ⟨⟨A, rfl, trivial, by rw [ht]; exact hP, hD⟩, hS.F ht⟩) hS.2.2 hdg hlk
end GIS

/-! constructors: worlds that grow, cells at addresses that are variables -/
def va_AOA (ty : FieldType) (U : State) : Prop := (Cond.arrayOver (.array ty)).before #[] U = true
theorem va_AOA.use {ty : FieldType} {A : Array Value} {U : State} (h : va_AOA ty U) : (Cond.arrayOver (.array ty)).before A U = true := mn_over_vm (Vm.Alike.refl U.vm) h
theorem va_AOA.of {ty : FieldType} {A : Array Value} {U : State} (h : (Cond.arrayOver (.array ty)).before A U = true) : va_AOA ty U := mn_over_vm (Vm.Alike.refl U.vm) h
theorem va_AOA.moved {ty : FieldType} {u U : State} (hvm : u.vm.Alike U.vm) (h : va_AOA ty u) : va_AOA ty U := mn_over_vm hvm h
abbrev tysG (cA : Nat → ClassId) : List (ClassId × FieldType) := [(cA 0, .int), (cA 1, .long), (cA 2, .boolean), (cA 3, .array .int), (cA 4, .array .long)]
/-- what the constructors need of the tables -/
def KcT (D : va_G) (cA : Nat → ClassId) (U : State) : Prop := va_K D classes (tysG cA) U ∧ va_AOA .int U ∧ va_AOA .long U ∧ va_Nw (.methodLinkNest "ChordFolds" 18 yX0_init "ChordFolds") U ∧ va_Nw (.methodLinkNest "ChordFolds" 25 yX3_init "ChordFolds") U ∧ va_Nw (.methodLinkNest "ChordFolds" 39 yX2_init "ChordFolds") U
theorem KcT.moved {D : va_G} {cA : Nat → ClassId} {s U : State} (hW : s.WarmedH U.vm) (h : KcT D cA s) : KcT D cA U := ⟨va_K.moved hW.alike h.1, va_AOA.moved hW.alike h.2.1, va_AOA.moved hW.alike h.2.2.1, va_Nw.warmM hW h.2.2.2.1, va_Nw.warmM hW h.2.2.2.2.1, va_Nw.warmM hW h.2.2.2.2.2⟩
theorem KcT.blind {D : va_G} {cA : Nat → ClassId} {U : State} {g : JFrame} {mk : MethodId} {a : Array Value} (h : KcT D cA U) : KcT D cA (U.calling g mk a) := ⟨va_K.moved (u := U) (U := U.calling g mk a) (Vm.Alike.refl U.vm) h.1, va_AOA.moved (u := U) (U := U.calling g mk a) (Vm.Alike.refl U.vm) h.2.1, va_AOA.moved (u := U) (U := U.calling g mk a) (Vm.Alike.refl U.vm) h.2.2.1, va_Nw.same (u := U) (U := U.calling g mk a) rfl rfl h.2.2.2.1, va_Nw.same (u := U) (U := U.calling g mk a) rfl rfl h.2.2.2.2.1, va_Nw.same (u := U) (U := U.calling g mk a) rfl rfl h.2.2.2.2.2⟩
abbrev Ah (h : Nat) : Nat → Prop := fun q => h ≤ q
/-- in a constructor's frame -/
def Ci (p : Program) (s : State) (m : MethodId) (args : Array Value) (c : Code) (D : va_G) (cA : Nat → ClassId) (cc : ByteArray) (nL o h : Nat) : Prop := p.tables.exec = Jvm.exec ∧ c.code = cc ∧ c.maxLocals = nL ∧ s.vm.findClass (RN o) = some m.cls ∧ (∀ w ∈ GG, w.before args s = true) ∧ KcT D cA s ∧ h ≤ s.heap.size
def Gx (p : Program) (l : Launch) (e : Env) (R : Room) (s : State) (m : MethodId) (args : Array Value) (below : List Frame) (meth : Method) (c : Code) (D : va_G) (h : Nat) (Q : State → Prop) (nL : Nat) (pc : Nat) (lv : List (Nat × Value)) (st : List Value) (ws : va_W) (k n : Nat) : Prop :=
  ∀ (H : Heap) (locs : List Loc) (la : Array Slot), va_P D classes ws H → va_D (Ah h) ws → va_S (Ah h) s.heap H locs → lv_has la nL lv → W p l e R s m args below meth c H locs k n Q (F0 m pc la st)
section GXS
variable {p : Program} {l : Launch} {e : Env} {R : Room} {s : State} {m : MethodId} {args : Array Value} {below : List Frame} {meth : Method} {c : Code} {D : va_G} {cA : Nat → ClassId} {h : Nat} {Q : State → Prop} {nL o pc : Nat} {cc : ByteArray} {lv : List (Nat × Value)} {st : List Value} {ws : va_W} {k n : Nat}
theorem g_aload0 (C : Ci p s m args c D cA cc nL o h) {a : Nat} (hdg : decode cc pc = .ok (.aload_n 0, 1)) (hl0 : lv[0]? = some (0, .ref a)) (kk : Gx p l e R s m args below meth c D h Q nL (pc + 1) lv (.ref a :: st) ws k n) : Gx p l e R s m args below meth c D h Q nL pc lv st ws k n := fun H locs la hP hD hS hl => lv_aload_n C.1 C.2.1 hdg rfl (lv_at hl 0 hl0) (kk H locs la hP hD hS hl)
theorem g_bipush (C : Ci p s m args c D cA cc nL o h) {x : Int} {v : Int32} (hdg : decode cc pc = .ok (.bipush x, 2)) (hv : (Int8.ofInt x).toInt32 = v) (kk : Gx p l e R s m args below meth c D h Q nL (pc + 2) lv (.int v :: st) ws k n) : Gx p l e R s m args below meth c D h Q nL pc lv st ws k n := fun H locs la hP hD hS hl => lv_bipush C.1 C.2.1 hdg hv (kk H locs la hP hD hS hl)
theorem g_sipush (C : Ci p s m args c D cA cc nL o h) {x : Int} {v : Int32} (hdg : decode cc pc = .ok (.sipush x, 3)) (hv : (Int16.ofInt x).toInt32 = v) (kk : Gx p l e R s m args below meth c D h Q nL (pc + 3) lv (.int v :: st) ws k n) : Gx p l e R s m args below meth c D h Q nL pc lv st ws k n := fun H locs la hP hD hS hl => lv_sipush C.1 C.2.1 hdg hv (kk H locs la hP hD hS hl)
theorem g_iconst (C : Ci p s m args c D cA cc nL o h) {x : Int} {v : Int32} (hdg : decode cc pc = .ok (.iconst x, 1)) (hv : Int32.ofInt x = v) (kk : Gx p l e R s m args below meth c D h Q nL (pc + 1) lv (.int v :: st) ws k n) : Gx p l e R s m args below meth c D h Q nL pc lv st ws k n := fun H locs la hP hD hS hl => lv_iconst C.1 C.2.1 hdg hv (kk H locs la hP hD hS hl)
theorem g_dup (C : Ci p s m args c D cA cc nL o h) {a : Nat} (hdg : decode cc pc = .ok (.dup, 1)) (kk : Gx p l e R s m args below meth c D h Q nL (pc + 1) lv (.ref a :: .ref a :: st) ws k n) : Gx p l e R s m args below meth c D h Q nL pc lv (.ref a :: st) ws k n := fun H locs la hP hD hS hl => lv_dup C.1 C.2.1 hdg rfl (kk H locs la hP hD hS hl)
theorem g_obj (C : Ci p s m args c D cA cc nL o h) {a idx : Nat} (hlink : Cond.methodLink (RN o) idx Lib.objectInit ∈ GG) (hinst : Cond.instanceMethod Lib.objectInit ∈ GG) (hcode : Cond.code Lib.objectInit ⟨#[0xb1]⟩ 1 none ∈ GG) (hdg : decode cc pc = .ok (.invokespecial idx, 3)) (hst : st = []) (hR : 1 ≤ R.frames ∧ 12 ≤ R.locals) (kk : Gx p l e R s m args below meth c D h Q nL (pc + 3) lv st ws k n) : Gx p l e R s m args below meth c D h Q nL pc lv (.ref a :: st) ws k n := fun H locs la hP hD hS hl => by
  subst hst
  exact W.objInit C.1 C.2.1 C.2.2.2.1 (C.2.2.2.2.1 _ hlink) (C.2.2.2.2.1 _ hinst) (C.2.2.2.2.1 _ hcode) (g := F0 m pc la [.ref a]) rfl (hl.1.trans C.2.2.1.symm) rfl hdg hR.1 (by show 2 * _ + 0 + 12 ≤ _; exact (by simpa [F0, JFrame.monitorRoom] using hR.2)) (kk H locs la hP hD hS hl)
theorem g_newa (C : Ci p s m args c D cA cc nL o h) {atype : ArrayType} {ty : FieldType} (hty : newarray.typeOf atype = ty) (harr : Cond.arrayClass ty ∈ GG) {i : Nat} (hi : (tysG cA)[i]? = some (cA i, ty)) (hfc : ∀ c' : ClassId, va_RA s c' ty → s.vm.findClass ("[" ++ ty.toString) = some c') {x : Int32} {N : Nat} {a0 : vp_A} (ha : ∀ c' : ClassId, vp_cell c' a0 = arrV c' N (fun _ => defaultValue ty)) (hn : ¬ x < 0) (hN : x.toNatClampNeg = N) (hbytes : N * componentBytes ty ≤ 536870912) (hcells : k + 1 ≤ R.cells) (hslots : n + N ≤ R.slots) (hdg : decode cc pc = .ok (.newarray atype, 2))
    (kk : ∀ q : Nat, Gx p l e R s m args below meth c D h Q nL (pc + 2) lv (.ref q :: st) (ws ++ [(q, .inl (cA i, a0))]) (k + 1) (n + N)) : Gx p l e R s m args below meth c D h Q nL pc lv (.int x :: st) ws k n := fun H locs la hP hD hS hl => by
  obtain ⟨hx, hb, hml, hown, hts, hK, hh⟩ := C
  refine va_newa hx hb (by rw [hty]; exact hts _ harr) hty hK.1 hP hD hS (fun q hq => Nat.le_trans hh hq) ha hn hN hbytes hcells hslots hdg (fun q c' H1 hK2 hP2 hD2 hS2 => ?_)
  have e1 := hfc _ (hK2.2 5 (c', ty) rfl).2
  have e2 := hfc _ (hK.1.2 i _ hi).2
  have ec : c' = cA i := Option.some.inj (e1.symm.trans e2)
  subst ec
  exact kk q H1 locs la hP2 hD2 hS2 hl
theorem g_putF (C : Ci p s m args c D cA cc nL o h) (hin2 : meth.name = "<init>") {ci : Nat} (hci : o = ci) (hc7 : ci < 7) {fs : List Value} {a j kf idx : Nat} (he : ws[j]? = some (a, .inr (ci, fs))) (hk : kf < NN ci) (hlink : Cond.fieldLink (RN o) idx (TT ci kf).1 (TT ci kf).2.1 (TT ci kf).2.2.1 ∈ GG) (hfin : (TT ci kf).2.2.2 = true) (hdecl : (TT ci kf).1 = RN o) {ty : FieldType} {v : Value} (hd : parseFieldDescriptor (TT ci kf).2.2.1 = some ty) (hn : narrow ty v = v) (hfit : fits ty v = true) (hl : kf < fs.length) (hdg : decode cc pc = .ok (.putfield idx, 3)) (kk : Gx p l e R s m args below meth c D h Q nL (pc + 3) lv st (ws.set j (a, .inr (ci, fs.set kf v))) k n) : Gx p l e R s m args below meth c D h Q nL pc lv (v :: .ref a :: st) ws k n := fun H locs la hP hD hS hlv => by
  obtain ⟨hx, hb, hml, hown, hts, hK, hh⟩ := C
  exact va_putF hx hb hts (in_GG hc7) (tyN ci) (tyN_ok hc7) (nmN hc7) hown hK.1 hP hD hS j he (classes_at hc7) kf hk (hts _ hlink) (fun x hx => hx) hfin hin2 hdecl hd hn hfit hl hdg (fun H1 locs1 hP1 hD1 hS1 => kk H1 locs1 la hP1 hD1 hS1 hlv)
theorem g_put (C : Ci p s m args c D cA cc nL o h) {ci : Nat} (hc7 : ci < 7) {fs : List Value} {a j kf idx : Nat} (he : ws[j]? = some (a, .inr (ci, fs))) (hk : kf < NN ci) (hlink : Cond.fieldLink (RN o) idx (TT ci kf).1 (TT ci kf).2.1 (TT ci kf).2.2.1 ∈ GG) (hfin : (TT ci kf).2.2.2 = false) {ty : FieldType} {v : Value} (hd : parseFieldDescriptor (TT ci kf).2.2.1 = some ty) (hn : narrow ty v = v) (hfit : fits ty v = true) (hl : kf < fs.length) (hdg : decode cc pc = .ok (.putfield idx, 3)) (kk : Gx p l e R s m args below meth c D h Q nL (pc + 3) lv st (ws.set j (a, .inr (ci, fs.set kf v))) k n) : Gx p l e R s m args below meth c D h Q nL pc lv (v :: .ref a :: st) ws k n := fun H locs la hP hD hS hlv => by
  obtain ⟨hx, hb, hml, hown, hts, hK, hh⟩ := C
  exact va_put hx hb hts (in_GG hc7) (tyN ci) (tyN_ok hc7) (nmN hc7) hown hK.1 hP hD hS j he (classes_at hc7) kf hk (hts _ hlink) (fun x hx => hx) hfin hd hn hfit hl hdg (fun H1 locs1 hP1 hD1 hS1 => kk H1 locs1 la hP1 hD1 hS1 hlv)
theorem g_get (C : Ci p s m args c D cA cc nL o h) {ci : Nat} (hc7 : ci < 7) {fs : List Value} {a j kf idx : Nat} (he : ws[j]? = some (a, .inr (ci, fs))) (hk : kf < NN ci) (hlink : Cond.fieldLink (RN o) idx (TT ci kf).1 (TT ci kf).2.1 (TT ci kf).2.2.1 ∈ GG) {v : Value} (hv : fs[kf]? = some v) (hdg : decode cc pc = .ok (.getfield idx, 3)) (kk : Gx p l e R s m args below meth c D h Q nL (pc + 3) lv (v :: st) ws k n) : Gx p l e R s m args below meth c D h Q nL pc lv (.ref a :: st) ws k n := fun H locs la hP hD hS hlv => by
  obtain ⟨hx, hb, hml, hown, hts, hK, hh⟩ := C
  exact va_get hx hb hts (in_GG hc7) hown hK.1 hP j he (classes_at hc7) kf hk (hts _ hlink) (fun x hx => hx) hv hdg (kk H locs la hP hD hS hlv)
theorem g_new (C : Ci p s m args c D cA cc nL o h) {ci idx : Nat} (hc7 : ci < 7) (hcl : Cond.classLink (RN o) idx (RN ci) ∈ GG) (hinst : Cond.instantiable (RN ci) (NN ci) ∈ GG) (hini : Cond.initialized (RN ci) ∈ GG) {fs : List Value} (hfs : ∀ j, j < NN ci → defaultValue (tyN ci j) = vp_V fs j) (hcells : k + 1 ≤ R.cells) (hslots : n + NN ci ≤ R.slots) (hdg : decode cc pc = .ok (.new idx, 3))
    (kk : ∀ q : Nat, Gx p l e R s m args below meth c D h Q nL (pc + 3) lv (.ref q :: st) (ws ++ [(q, .inr (ci, fs))]) (k + 1) (n + NN ci)) : Gx p l e R s m args below meth c D h Q nL pc lv st ws k n := fun H locs la hP hD hS hlv => by
  obtain ⟨hx, hb, hml, hown, hts, hK, hh⟩ := C
  exact va_new hx hb hts (in_GG hc7) (tyN ci) (tyN_ok hc7) hown (hts _ hcl) (hts _ hinst) (hts _ hini) hK.1 hP hD hS (fun q hq => Nat.le_trans hh hq) (classes_at hc7) hfs hcells hslots hdg (fun q H1 hP1 hD1 hS1 => kk q H1 locs la hP1 hD1 hS1 hlv)
theorem D_fresh {A : Nat → Prop} {ws nw : va_W} {z : Nat} (hD : va_D A ws) (h1 : ∀ (k : Nat) (x : Nat × va_E), ws[k]? = some x → x.1 < z) (h2 : ∀ (i : Nat) (x : Nat × va_E), nw[i]? = some x → x.1 = z + i) (h3 : ∀ q, z ≤ q → A q) : va_D A (ws ++ nw) := by
  refine va_D.app hD ⟨fun i j x y hi hj hxy => ?_, fun i x hi => ?_⟩ (fun i j x y hi hj => ?_)
  · have a1 := h2 i x hi
    have a2 := h2 j y hj
    omega
  · exact h3 _ (by rw [h2 i x hi]; omega)
  · have a1 := h1 i x hi
    have a2 := h2 j y hj
    omega
/-- new T[N][K]: the outer row and its rows -/
theorem g_mna (C : Ci p s m args c D cA cc nL o h) {idx : Nat} {ty : FieldType} (hclink : Cond.classLink (RN o) idx ("[" ++ (FieldType.array ty).toString) ∈ GG) (hover : va_AOA ty s) (harr : Cond.arrayClass ty ∈ GG) {i1 i2 : Nat} (h1 : (tysG cA)[i1]? = some (cA i1, ty)) (h2 : (tysG cA)[i2]? = some (cA i2, .array ty)) (hfc1 : ∀ c' : ClassId, va_RA s c' ty → s.vm.findClass ("[" ++ ty.toString) = some c') (hstr : (FieldType.array ty).toString = "[" ++ ty.toString)
    {x y : Int32} {N K : Nat} {z : vp_A} (hx0 : ¬ x < 0) (hy0 : ¬ y < 0) (hN : x.toNatClampNeg = N) (hK0 : y.toNatClampNeg = K) (hb1 : N * 4 ≤ 536870912) (hb2 : K * componentBytes ty ≤ 536870912) (hb3 : K ≤ 536870912) (hdf : fits ty (defaultValue ty) = true) (hdd : (defaultValue ty).isDefault = true) (hcells : k + (1 + N) ≤ R.cells) (hslots : n + (N + N * K) ≤ R.slots) (hz : ∀ c' : ClassId, arrV c' K (fun _ => defaultValue ty) = vp_cell c' z) (hdg : decode cc pc = .ok (.multianewarray idx 2, 4))
    (kk : ∀ (q : Nat) (r : Nat → Nat), Gx p l e R s m args below meth c D h Q nL (pc + 4) lv (.ref q :: st) (ws ++ ((q, .inl (cA i2, N, .inr (.inr (.inr (.inr (fun i => if i < N then some (r i) else none)))))) :: (List.range N).map (fun i => (r i, .inl (cA i1, z))))) (k + 1 + N) (n + N + N * K)) : Gx p l e R s m args below meth c D h Q nL pc lv (.int y :: .int x :: st) ws k n := fun H locs la hP hD hS hlv => by
  obtain ⟨hx, hb, hml, hown, hts, hK, hh⟩ := C
  subst hN
  subst hK0
  intro T hT Xs
  obtain ⟨vm₁, cO, comp, fA, fC, X', step⟩ := mn_law Xs hx hown (hts _ hclink) (va_AOA.use hover) (hts _ harr) hdf (g := F0 m pc la (.int y :: .int x :: st)) rfl (by rw [hb]; exact hdg) rfl hx0 hy0 hb1 hb2 hb3 hcells hslots
  have ec : comp = cA i1 := Option.some.inj (fC.symm.trans (hfc1 _ (hK.1.2 i1 _ h1).2))
  have e2 : s.vm.findClass ("[" ++ (FieldType.array ty).toString) = some (cA i2) := (hK.1.2 i2 _ h2).2
  have ec2 : cO = cA i2 := Option.some.inj (fA.symm.trans e2)
  subst ec ec2
  obtain ⟨f1, f2, f3, f4, -⟩ := mn_facts (cA i2) (cA i1) x.toNatClampNeg y.toNatClampNeg (defaultValue ty) (T.setVm vm₁) x.toNatClampNeg
  generalize mn_F (cA i2) (cA i1) x.toNatClampNeg y.toNatClampNeg (defaultValue ty) (T.setVm vm₁) x.toNatClampNeg = F at X' step f1 f2 f3 f4
  have hTh : (T.setVm vm₁).heap = H := hT
  rw [hTh] at f1 f2 f3 f4
  have hold : ∀ a : Nat, a < H.size → F.heap[a]? = H[a]? := f3
  have hrow : ∀ j : Nat, j < x.toNatClampNeg → F.heap[H.size + 1 + j]? = some (vp_cell (cA i1) z) := fun j hj => (f4 j hj).trans (congrArg some (hz _))
  have key : ∀ (i : Nat) (v : Nat × va_E), (((H.size, Sum.inl (cA i2, x.toNatClampNeg, .inr (.inr (.inr (.inr (fun i => if i < x.toNatClampNeg then some (H.size + 1 + i) else none)))))) :: (List.range x.toNatClampNeg).map (fun i => (H.size + 1 + i, Sum.inl (cA i1, z))) : va_W))[i]? = some v → v.1 = H.size + i ∧ va_at D classes v F.heap := by
    intro i v hv
    cases i with
    | zero =>
      simp only [List.getElem?_cons_zero, Option.some.injEq] at hv
      subst hv
      refine ⟨rfl, ?_⟩
      show F.heap[H.size]? = some (vp_cell _ _)
      rw [vp_cell_q]
      exact f2
    | succ i =>
      simp only [List.getElem?_cons_succ, List.getElem?_map] at hv
      by_cases hi : i < x.toNatClampNeg
      · rw [List.getElem?_range hi] at hv
        simp only [Option.map_some, Option.some.injEq] at hv
        subst hv
        exact ⟨by show H.size + 1 + i = H.size + (i + 1); omega, hrow i hi⟩
      · rw [List.getElem?_eq_none (by rw [List.length_range]; omega)] at hv
        simp at hv
  have hlt : ∀ (i : Nat) (v : Nat × va_E), ws[i]? = some v → v.1 < H.size := fun i v hv => (hP i v hv).lt
  obtain ⟨t, a1, b1⟩ := kk H.size (fun i => H.size + 1 + i) F.heap locs la ((hP.kept (fun i v hv => hold v.1 (hlt i v hv))).app (fun i v hv => (key i v hv).2)) (D_fresh hD hlt (fun i v hv => (key i v hv).1) (fun q hq => by have := hS.1; show h ≤ q; omega)) ⟨by rw [f1]; have := hS.1; omega, fun a h1 h2 => (hold a (Nat.lt_of_lt_of_le h1 hS.1)).trans (hS.2.1 a h1 h2), hS.2.2⟩ hlv F rfl X'
  refine ⟨t, step t ?_, b1⟩
  have e0 : T.heap.size = H.size := by rw [hT]
  rw [e0]
  exact a1
end GXS

/-! constructors: Arrays.fill at any world; the rules of a constructor's frame -/
theorem arr_congr (c' : ClassId) (N : Nat) (f g : Nat → Int32) (h : ∀ i, i < N → f i = g i) : vp_cell c' (N, .inl f) = vp_cell c' (N, .inl g) := by
  rw [vp_cell_i, vp_cell_i]
  unfold arrV
  congr 1
  congr 1
  funext j
  show Value.int (f j.val) = Value.int (g j.val)
  rw [h j.val j.isLt]
theorem P_congr {D : va_G} {cl : List vw_C} {ws : va_W} {j a : Nat} {e0 e1 : va_E} {H : Heap} {c' : ClassId} {N : Nat} {f g : Nat → Int32} (h : ∀ i, i < N → f i = g i) (hP : va_P D cl (ws.set j (a, .inl (c', N, .inl f))) H) : va_P D cl (ws.set j (a, .inl (c', N, .inl g))) H := by
  intro k q hk
  by_cases c : j = k
  · subst c
    by_cases hl : j < ws.length
    · rw [List.getElem?_set_self hl] at hk
      have h0 := hP j _ (List.getElem?_set_self hl)
      cases hk
      show H[a]? = some (vp_cell c' (N, .inl g))
      rw [← arr_congr c' N f g h]
      exact h0
    · rw [List.getElem?_eq_none (by simp; omega)] at hk
      cases hk
  · rw [List.getElem?_set_ne c] at hk
    exact hP k q (by rw [List.getElem?_set_ne c]; exact hk)
set_option maxRecDepth 100000 in
set_option maxHeartbeats 4000000 in
theorem f_fill (l : Launch) (D : va_G) (cA : Nat → ClassId) (h : Nat) (ws : va_W) (j a N : Nat) (f : Nat → Int32) (v : Int32) (hj : ws[j]? = some (a, .inl (cA 0, N, .inl f))) (hN : N < 2000) : Met l yJ7_fill_53178 (wsM miJ7_fill_53178) (rmM 1) (va_Pc [.ref a, .int v] (fun U => va_P D classes ws U.heap ∧ va_D (Ah h) ws ∧ KcT D cA U ∧ h ≤ U.heap.size)) (va_Qv (fun _ : Unit => True) (fun _ t => va_P D classes (ws.set j (a, .inl (cA 0, N, .inl (fun _ => v)))) t.heap) (Ah h)) 0 0 (Ah h) := by
  refine Met.ofW (cc := cJ7_fill_53178) (maxL := 4) (ret := none) (by decide) rfl ?_
  intro p e s m args below meth c s₁ B hml hv
  obtain ⟨rfl, hP, hD, hK, hh⟩ := hv
  have hx := B.exec
  have hb := B.bytes
  have hr := B.returns
  have hlocks := B.notSynchronized
  have hl := lv_entry ([.ref a, .int v]) (n := 4) (Nat.le_of_ble_eq_true rfl)
  rw [lg_entry_eq]
  generalize (lg_sl ([.ref a, .int v]) ++ List.replicate (4 - (lg_sl ([.ref a, .int v])).length) Slot.unset).toArray = ls at hl ⊢
  have hl : lv_has ls 4 [(0, .ref a), (1, .int v)] := hl
  have hjl : j < ws.length := (List.getElem?_eq_some_iff.mp hj).1
  have dd := D_J7_fill_53178
  have loop : ∀ (r i : Nat) (H : Heap) (locs : List Loc) (la : Array Slot), i + r = N → va_P D classes (ws.set j (a, .inl (cA 0, N, .inl (fun k => if k < i then v else f k)))) H → va_S (Ah h) s.heap H locs → lv_has la 4 [(2, .int (Int32.ofInt i)), (3, .int (Int32.ofInt N)), (0, .ref a), (1, .int v)] → W p l e (headSpec (wsM miJ7_fill_53178) (rmM 1)).room s m #[.ref a, .int v] below meth c H locs 0 0 (MQ below (va_Qv (fun _ : Unit => True) (fun _ t => va_P D classes (ws.set j (a, .inl (cA 0, N, .inl (fun _ => v)))) t.heap) (Ah h)) #[.ref a, .int v] s 0 0 (Ah h)) (F0 m 5 la []) := by
    intro r
    induction r with
    | zero =>
      intro i H locs la ir hP hS hl
      refine lv_iload_n hx hb dd.2.2.2.2.2.1 rfl (lv_at hl 0 rfl) ?_
      refine lv_iload_n hx hb dd.2.2.2.2.2.2.1 rfl (lv_at hl 1 rfl) ?_
      refine lv_icmp_ge (tgt := 20) hx hb dd.2.2.2.2.2.2.2.1 (by decide) (fun q => ?_) (fun q => ?_)
      · refine W.vret hx hb hr (fun t ht _ => ⟨⟨(), rfl, trivial, ?_⟩, hS.F ht⟩) hS.2.2 dd.2.2.2.2.2.2.2.2.2.2.2.2.2.2 hlocks
        show va_P D classes (ws.set j (a, .inl (cA 0, N, .inl (fun _ => v)))) t.heap
        rw [ht]
        exact P_congr (e0 := .inr (0, [])) (e1 := .inr (0, [])) (fun k hk => if_pos (by omega)) hP
      · exact absurd ((ofI_le (by unfold inR; omega) (by unfold inR; omega)).mpr (by omega)) q
    | succ r ih =>
      intro i H locs la ir hP hS hl
      refine lv_iload_n hx hb dd.2.2.2.2.2.1 rfl (lv_at hl 0 rfl) ?_
      refine lv_iload_n hx hb dd.2.2.2.2.2.2.1 rfl (lv_at hl 1 rfl) ?_
      refine lv_icmp_ge (tgt := 20) hx hb dd.2.2.2.2.2.2.2.1 (by decide) (fun q => ?_) (fun q => ?_)
      · have := (ofI_le (by unfold inR; omega) (by unfold inR; omega)).mp q
        omega
      · refine lv_aload_n hx hb dd.2.2.2.2.2.2.2.2.1 rfl (lv_at hl 2 rfl) ?_
        refine lv_iload_n hx hb dd.2.2.2.2.2.2.2.2.2.1 rfl (lv_at hl 0 rfl) ?_
        refine lv_iload_n hx hb dd.2.2.2.2.2.2.2.2.2.2.1 rfl (lv_at hl 3 rfl) ?_
        refine va_iast hx hb hK.1 hP (hD.set hj) hS j 0 (List.getElem?_set_self hjl) rfl (ofI_in (by omega) (by omega) (by omega)) dd.2.2.2.2.2.2.2.2.2.2.2.1 (fun H1 locs1 hP1 hD1 hS1 => ?_)
        rw [List.set_set] at hP1
        refine lv_iinc (v := Int32.ofInt ((i : Int) + 1)) (lv' := [(2, .int (Int32.ofInt ((i : Int) + 1))), (3, .int (Int32.ofInt N)), (0, .ref a), (1, .int v)]) hx hb dd.2.2.2.2.2.2.2.2.2.2.2.2.1 hl (k := 0) rfl (ofI_add _ _) (by decide) rfl (fun la1 hl1 => ?_)
        refine lv_goto (tgt := 5) hx hb dd.2.2.2.2.2.2.2.2.2.2.2.2.2.1 (by decide) ?_
        refine ih (i + 1) H1 locs1 la1 (by omega) (P_congr (e0 := .inr (0, [])) (e1 := .inr (0, [])) (fun k hk => ?_) hP1) hS1 hl1
        rw [ofI_cl (by omega) (by omega)]
        unfold upd
        by_cases c0 : k = i
        · rw [if_pos (by omega), if_pos (by omega)]
        · rw [if_neg (by omega)]
          show (if k < i then v else f k) = _
          by_cases c1 : k < i
          · rw [if_pos c1, if_pos (by omega)]
          · rw [if_neg c1, if_neg (by omega)]
  refine lv_iconst (v := Int32.ofInt 0) hx hb dd.1 rfl ?_
  refine lv_istore_n (lv' := [(2, .int (Int32.ofInt 0)), (0, .ref a), (1, .int v)]) hx hb dd.2.1 rfl hl (by decide) rfl (fun la hl => ?_)
  refine lv_aload_n hx hb dd.2.2.1 rfl (lv_at hl 1 rfl) ?_
  refine va_alen hx hb hK.1 hP j 0 hj rfl (v := Int32.ofInt N) rfl dd.2.2.2.1 ?_
  refine lv_istore_n (lv' := [(3, .int (Int32.ofInt N)), (2, .int (Int32.ofInt 0)), (0, .ref a), (1, .int v)]) hx hb dd.2.2.2.2.1 rfl hl (by decide) rfl (fun la hl => ?_)
  have e0 : ws.set j (a, .inl (cA 0, N, .inl (fun k => if k < 0 then v else f k))) = ws := by
    have : (fun k : Nat => if k < 0 then v else f k) = f := funext fun k => if_neg (by omega)
    rw [this]
    apply List.ext_getElem?
    intro k
    by_cases q : j = k
    · subst q
      rw [List.getElem?_set_self hjl, hj]
    · rw [List.getElem?_set_ne q]
  exact loop N 0 s.heap [] la (by omega) (by rw [e0]; exact hP) va_S.rf (lv_sub hl [1, 0, 2, 3] rfl)
/-- a constructor's frame: its own object, and what it has made -/
abbrev Gc (p : Program) (l : Launch) (e : Env) (R : Room) (s : State) (m : MethodId) (args : Array Value) (below : List Frame) (meth : Method) (c : Code) (D : va_G) (h : Nat) (Q : State → Prop) (nL : Nat) (ws0 : va_W) (j a ci : Nat) (pc : Nat) (lv : List (Nat × Value)) (st : List Value) (fs : List Value) (L : va_W) (k n : Nat) : Prop := Gx p l e R s m args below meth c D h Q nL pc lv st (ws0.set j (a, .inr (ci, fs)) ++ L) k n
def seg (cO cI : ClassId) (z : vp_A) (N q : Nat) (r : Nat → Nat) : va_W := (q, .inl (cO, N, .inr (.inr (.inr (.inr (fun i => if i < N then some (r i) else none)))))) :: (List.range N).map (fun i => (r i, .inl (cI, z)))
theorem seg_congr {cO cI : ClassId} {z : vp_A} {N q q' : Nat} {r r' : Nat → Nat} (hq : q = q') (h : ∀ i, i < N → r i = r' i) : seg cO cI z N q r = seg cO cI z N q' r' := by
  unfold seg
  subst hq
  congr 1
  · have : (fun i => if i < N then some (r i) else none) = (fun i => if i < N then some (r' i) else none) := funext fun i => by
      split
      · rw [h i (by assumption)]
      · rfl
    rw [this]
  · refine List.map_congr_left (fun i hi => ?_)
    rw [h i (List.mem_range.mp hi)]
section GCS
variable {p : Program} {l : Launch} {e : Env} {R : Room} {s : State} {m : MethodId} {args : Array Value} {below : List Frame} {meth : Method} {c : Code} {D : va_G} {cA : Nat → ClassId} {h : Nat} {Q : State → Prop} {nL o pc : Nat} {cc : ByteArray} {lv : List (Nat × Value)} {st : List Value} {ws0 : va_W} {j a ci : Nat} {fs : List Value} {L : va_W} {k n : Nat}
theorem c_newa (C : Ci p s m args c D cA cc nL o h) {atype : ArrayType} {ty : FieldType} (hty : newarray.typeOf atype = ty) (harr : Cond.arrayClass ty ∈ GG) {i : Nat} (hi : (tysG cA)[i]? = some (cA i, ty)) (hfc : ∀ c' : ClassId, va_RA s c' ty → s.vm.findClass ("[" ++ ty.toString) = some c') {x : Int32} {N : Nat} {a0 : vp_A} (ha : ∀ c' : ClassId, vp_cell c' a0 = arrV c' N (fun _ => defaultValue ty)) (hn : ¬ x < 0) (hN : x.toNatClampNeg = N) (hbytes : N * componentBytes ty ≤ 536870912) (hcells : k + 1 ≤ R.cells) (hslots : n + N ≤ R.slots) (hdg : decode cc pc = .ok (.newarray atype, 2))
    (kk : ∀ q : Nat, Gc p l e R s m args below meth c D h Q nL ws0 j a ci (pc + 2) lv (.ref q :: st) fs (L ++ [(q, .inl (cA i, a0))]) (k + 1) (n + N)) : Gc p l e R s m args below meth c D h Q nL ws0 j a ci pc lv (.int x :: st) fs L k n := by
  refine g_newa C hty harr hi hfc ha hn hN hbytes hcells hslots hdg (fun q => ?_)
  rw [List.append_assoc]
  exact kk q
theorem c_mna (C : Ci p s m args c D cA cc nL o h) {idx : Nat} {ty : FieldType} (hclink : Cond.classLink (RN o) idx ("[" ++ (FieldType.array ty).toString) ∈ GG) (hover : va_AOA ty s) (harr : Cond.arrayClass ty ∈ GG) {i1 i2 : Nat} (h1 : (tysG cA)[i1]? = some (cA i1, ty)) (h2 : (tysG cA)[i2]? = some (cA i2, .array ty)) (hfc1 : ∀ c' : ClassId, va_RA s c' ty → s.vm.findClass ("[" ++ ty.toString) = some c') (hstr : (FieldType.array ty).toString = "[" ++ ty.toString)
    {x y : Int32} {N K : Nat} {z : vp_A} (hx0 : ¬ x < 0) (hy0 : ¬ y < 0) (hN : x.toNatClampNeg = N) (hK0 : y.toNatClampNeg = K) (hb1 : N * 4 ≤ 536870912) (hb2 : K * componentBytes ty ≤ 536870912) (hb3 : K ≤ 536870912) (hdf : fits ty (defaultValue ty) = true) (hdd : (defaultValue ty).isDefault = true) (hcells : k + (1 + N) ≤ R.cells) (hslots : n + (N + N * K) ≤ R.slots) (hz : ∀ c' : ClassId, arrV c' K (fun _ => defaultValue ty) = vp_cell c' z) (hdg : decode cc pc = .ok (.multianewarray idx 2, 4))
    (kk : ∀ (q : Nat) (r : Nat → Nat), Gc p l e R s m args below meth c D h Q nL ws0 j a ci (pc + 4) lv (.ref q :: st) fs (L ++ seg (cA i2) (cA i1) z N q r) (k + 1 + N) (n + N + N * K)) : Gc p l e R s m args below meth c D h Q nL ws0 j a ci pc lv (.int y :: .int x :: st) fs L k n := by
  refine g_mna C hclink hover harr h1 h2 hfc1 hstr hx0 hy0 hN hK0 hb1 hb2 hb3 hdf hdd hcells hslots hz hdg (fun q r => ?_)
  have := kk q r
  unfold seg at this
  rw [List.append_assoc]
  exact this
theorem c_new (C : Ci p s m args c D cA cc nL o h) {cj idx : Nat} (hc7 : cj < 7) (hcl : Cond.classLink (RN o) idx (RN cj) ∈ GG) (hinst : Cond.instantiable (RN cj) (NN cj) ∈ GG) (hini : Cond.initialized (RN cj) ∈ GG) {fj : List Value} (hfs : ∀ j, j < NN cj → defaultValue (tyN cj j) = vp_V fj j) (hcells : k + 1 ≤ R.cells) (hslots : n + NN cj ≤ R.slots) (hdg : decode cc pc = .ok (.new idx, 3))
    (kk : ∀ q : Nat, Gc p l e R s m args below meth c D h Q nL ws0 j a ci (pc + 3) lv (.ref q :: st) fs (L ++ [(q, .inr (cj, fj))]) (k + 1) (n + NN cj)) : Gc p l e R s m args below meth c D h Q nL ws0 j a ci pc lv st fs L k n := by
  refine g_new C hc7 hcl hinst hini hfs hcells hslots hdg (fun q => ?_)
  rw [List.append_assoc]
  exact kk q
theorem own_at (hj : j < ws0.length) : (ws0.set j (a, .inr (ci, fs)) ++ L)[j]? = some (a, .inr (ci, fs)) := by
  rw [List.getElem?_append_left (by simpa using hj), List.getElem?_set_self hj]
theorem own_set (hj : j < ws0.length) (x : Nat × va_E) : (ws0.set j (a, .inr (ci, fs)) ++ L).set j x = ws0.set j x ++ L := by
  rw [List.set_append_left _ _ (by simpa using hj), List.set_set]
theorem made_at {i : Nat} {x : Nat × va_E} (hi : L[i]? = some x) : (ws0.set j (a, .inr (ci, fs)) ++ L)[ws0.length + i]? = some x := by
  rw [List.getElem?_append_right (by simp)]
  simpa using hi
theorem made_set (i : Nat) (x : Nat × va_E) : (ws0.set j (a, .inr (ci, fs)) ++ L).set (ws0.length + i) x = ws0.set j (a, .inr (ci, fs)) ++ L.set i x := by
  rw [List.set_append_right _ _ (by simp)]
  simp
theorem c_putF (C : Ci p s m args c D cA cc nL o h) (hin2 : meth.name = "<init>") (hj : j < ws0.length) (hci : o = ci) (hc7 : ci < 7) {kf idx : Nat} (hk : kf < NN ci) (hlink : Cond.fieldLink (RN o) idx (TT ci kf).1 (TT ci kf).2.1 (TT ci kf).2.2.1 ∈ GG) (hfin : (TT ci kf).2.2.2 = true) (hdecl : (TT ci kf).1 = RN o) {ty : FieldType} {v : Value} (hd : parseFieldDescriptor (TT ci kf).2.2.1 = some ty) (hn : narrow ty v = v) (hfit : fits ty v = true) (hl : kf < fs.length) (hdg : decode cc pc = .ok (.putfield idx, 3)) (kk : Gc p l e R s m args below meth c D h Q nL ws0 j a ci (pc + 3) lv st (fs.set kf v) L k n) : Gc p l e R s m args below meth c D h Q nL ws0 j a ci pc lv (v :: .ref a :: st) fs L k n := by
  refine g_putF C hin2 hci hc7 (own_at hj) hk hlink hfin hdecl hd hn hfit hl hdg ?_
  rw [own_set hj]
  exact kk
theorem c_put (C : Ci p s m args c D cA cc nL o h) (hj : j < ws0.length) (hc7 : ci < 7) {kf idx : Nat} (hk : kf < NN ci) (hlink : Cond.fieldLink (RN o) idx (TT ci kf).1 (TT ci kf).2.1 (TT ci kf).2.2.1 ∈ GG) (hfin : (TT ci kf).2.2.2 = false) {ty : FieldType} {v : Value} (hd : parseFieldDescriptor (TT ci kf).2.2.1 = some ty) (hn : narrow ty v = v) (hfit : fits ty v = true) (hl : kf < fs.length) (hdg : decode cc pc = .ok (.putfield idx, 3)) (kk : Gc p l e R s m args below meth c D h Q nL ws0 j a ci (pc + 3) lv st (fs.set kf v) L k n) : Gc p l e R s m args below meth c D h Q nL ws0 j a ci pc lv (v :: .ref a :: st) fs L k n := by
  refine g_put C hc7 (own_at hj) hk hlink hfin hd hn hfit hl hdg ?_
  rw [own_set hj]
  exact kk
theorem c_get (C : Ci p s m args c D cA cc nL o h) (hj : j < ws0.length) (hc7 : ci < 7) {kf idx : Nat} (hk : kf < NN ci) (hlink : Cond.fieldLink (RN o) idx (TT ci kf).1 (TT ci kf).2.1 (TT ci kf).2.2.1 ∈ GG) {v : Value} (hv : fs[kf]? = some v) (hdg : decode cc pc = .ok (.getfield idx, 3)) (kk : Gc p l e R s m args below meth c D h Q nL ws0 j a ci (pc + 3) lv (v :: st) fs L k n) : Gc p l e R s m args below meth c D h Q nL ws0 j a ci pc lv (.ref a :: st) fs L k n := g_get C hc7 (own_at hj) hk hlink hv hdg kk
theorem c_fill (C : Ci p s m args c D cA cc nL o h) {i q N idx : Nat} {f : Nat → Int32} {v : Int32} (hLi : L[i]? = some (q, .inl (cA 0, N, .inl f))) (hN : N < 2000) (hlink : Cond.methodLink (RN o) idx yJ7_fill_53178 ∈ GG) (hR : 2 ≤ R.frames ∧ 64 ≤ R.locals) (hC : k ≤ R.cells ∧ n ≤ R.slots) (hdg : decode cc pc = .ok (.invokestatic idx, 3)) (kk : Gc p l e R s m args below meth c D h Q nL ws0 j a ci (pc + 3) lv [] fs (L.set i (q, .inl (cA 0, N, .inl (fun _ => v)))) k n) : Gc p l e R s m args below meth c D h Q nL ws0 j a ci pc lv [.int v, .ref q] fs L k n := by
  intro H locs la hP hD hS hl
  obtain ⟨hx, hb, hml, hown, hts, hK, hh⟩ := C
  have cw := va_cwS (R := R) (s := s) (args := args) (own := RN o) (index := idx) (y := yJ7_fill_53178) (bytes := cJ7_fill_53178) (maxL := 4) (mc := 0) (ms := 0) (ret := none) (ws := wsM miJ7_fill_53178) (rm := rmM 1) 2 hts (good_S hlink okJ7_fill_53178) rfl rfl rfl ⟨by decide, by decide, by decide +kernel⟩ ⟨by show 1 + 1 ≤ _; omega, by show 8 + (4 + 11) + 32 * 1 ≤ _; omega⟩
  have hMet := f_fill l D cA h (ws0.set j (a, .inr (ci, fs)) ++ L) (ws0.length + i) q N f v (made_at hLi) hN
  refine va_callv (va_runS (As := [.ref q, .int v]) (rest := []) (Ts := GG) ⟨hx, hb, hml, hown, hts⟩ hMet cw ⟨fun a' U g mk z => ⟨z.1, z.2.1, z.2.2.1, z.2.2.2.1.blind, z.2.2.2.2⟩, fun U hU hW => ⟨rfl, by rw [hU]; exact hP, hD, hK.moved hW, by rw [hU]; exact Nat.le_trans hh hS.1⟩⟩ rfl rfl hl.1 rfl (lv_room (Nat.le_of_ble_eq_true rfl)) hdg ⟨by omega, by omega⟩) hS (fun _ _ z => z) (fun _ z => z) (fun u t H1 locs1 ht hvm _ hB hz1 hk1 hS1 => ?_)
  have hB : va_P D classes ((ws0.set j (a, .inr (ci, fs)) ++ L).set (ws0.length + i) (q, .inl (cA 0, N, .inl (fun _ => v)))) t.heap := hB
  rw [made_set, ht] at hB
  have hD2 := hD.set (e := .inl (cA 0, N, .inl (fun _ => v))) (made_at (ws0 := ws0) (j := j) (a := a) (ci := ci) (fs := fs) hLi)
  rw [made_set] at hD2
  exact kk H1 locs1 la hB hD2 hS1 hl
end GCS

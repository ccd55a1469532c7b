/-! new T[n][k]: the step of multianewarray, out of the model's own text of it -/
theorem mn_over {args : Array Value} {s : State} {ty : FieldType} (h : (Cond.arrayOver (.array ty)).before args s = true) :
    ∃ (cI cO : ClassId) (kO : Class), s.vm.findClass (FieldType.array ty).toString = some cI ∧ s.vm.classes[cO]? = some kO ∧ kO.kind = .array cI (.array ty) ∧ s.vm.findClass ("[" ++ (FieldType.array ty).toString) = some cO := by
  simp only [Cond.before, Cond.holds, Cond.value, beq_iff_eq] at h
  obtain ⟨cI, hI, h⟩ := Option.bind_eq_some_iff.mp h
  obtain ⟨cO, hf, h⟩ := Option.bind_eq_some_iff.mp h
  obtain ⟨kO, hO, h⟩ := Option.map_eq_some_iff.mp h
  have hq := (Array.findIdx?_eq_some_iff_getElem.mp hf).2.1
  rw [(Array.getElem?_eq_some_iff.mp hO).2] at hq
  refine ⟨cI, cO, kO, hI, hO, ?_, ?_⟩
  · revert h hq
    cases kO.kind <;> simp
    intro a _ b
    exact ⟨b, a⟩
  · revert h
    cases kO.kind <;> simp
theorem mn_over_vm {A B : Array Value} {u U : State} {ty : FieldType} (hvm : u.vm.Alike U.vm) (h : (Cond.arrayOver ty).before A u = true) : (Cond.arrayOver ty).before B U = true := by
  have h1 : (Cond.arrayOver ty).before A (u.setVm U.vm) = true := (Cond.arrayOver_setVmC hvm ty).trans h
  exact h1
/-- the outer row, with its first i rows laid -/
def mn_out (cO : ClassId) (N b i : Nat) : Cell := arrV cO N (fun j => va_rf (if j < i then some (b + 1 + j) else none))
theorem mn_out_0 (cO : ClassId) (N b : Nat) : ({ cls := cO, slots := Array.replicate N .null, vm := .none } : Cell) = mn_out cO N b 0 := by
  rw [arrV_new]
  exact congrArg (arrV cO N) (funext fun j => by simp [va_rf])
theorem mn_out_s (cO : ClassId) (N b i : Nat) : (mn_out cO N b i).setSlot i (.ref (b + 1 + i)) = mn_out cO N b (i + 1) := by
  unfold mn_out
  rw [arrV_store]
  refine congrArg (arrV cO N) (funext fun j => ?_)
  rcases Nat.lt_trichotomy j i with h | h | h
  · simp [updV, h, Nat.ne_of_lt h, Nat.lt_succ_of_lt h]
  · subst h
    simp [updV, va_rf]
  · simp [updV, Nat.ne_of_gt h, Nat.not_lt_of_gt h, show ¬ j < i + 1 by omega]
/-- the state when i rows are laid -/
def mn_F (cO cI : ClassId) (N K : Nat) (v : Value) (T : State) : Nat → State
  | 0 => T.pushCell (mn_out cO N T.heap.size 0)
  | i + 1 => ((mn_F cO cI N K v T i).pushCell (arrV cI K (fun _ => v))).setCell T.heap.size (mn_out cO N T.heap.size (i + 1))
theorem mn_facts (cO cI : ClassId) (N K : Nat) (v : Value) (T : State) : ∀ i : Nat, (mn_F cO cI N K v T i).heap.size = T.heap.size + 1 + i ∧ (mn_F cO cI N K v T i).heap[T.heap.size]? = some (mn_out cO N T.heap.size i) ∧
    (∀ a, a < T.heap.size → (mn_F cO cI N K v T i).heap[a]? = T.heap[a]?) ∧ (∀ j, j < i → (mn_F cO cI N K v T i).heap[T.heap.size + 1 + j]? = some (arrV cI K (fun _ => v))) ∧ (mn_F cO cI N K v T i).vm = T.vm
  | 0 => by
    refine ⟨by simp [mn_F], by simp [mn_F], fun a ha => ?_, fun j hj => absurd hj (Nat.not_lt_zero j), rfl⟩
    exact State.heap_pushCell_of_lt _ _ ha
  | i + 1 => by
    obtain ⟨h1, h2, h3, h4, h5⟩ := mn_facts cO cI N K v T i
    have hl : ∀ a : Nat, a < T.heap.size + 1 + i → ((mn_F cO cI N K v T i).pushCell (arrV cI K (fun _ => v))).heap[a]? = (mn_F cO cI N K v T i).heap[a]? := fun a ha => State.heap_pushCell_of_lt _ _ (by rw [h1]; exact ha)
    have hp := (hl T.heap.size (by omega)).trans h2
    have ho : ∀ a : Nat, T.heap.size ≠ a → (mn_F cO cI N K v T (i + 1)).heap[a]? = ((mn_F cO cI N K v T i).pushCell (arrV cI K (fun _ => v))).heap[a]? := fun a ha => State.heap_setCell_other ha
    refine ⟨?_, State.heap_setCell_self hp, fun a ha => ?_, fun j hj => ?_, h5⟩
    · show (((mn_F cO cI N K v T i).heap.push _).setIfInBounds _ _).size = _
      rw [Array.size_setIfInBounds, Array.size_push, h1]
      omega
    · exact (ho a (by omega)).trans ((hl a (by omega)).trans (h3 a ha))
    · refine (ho _ (by omega)).trans ?_
      by_cases h : j < i
      · exact (hl _ (by omega)).trans (h4 j h)
      · obtain rfl : j = i := by omega
        rw [← h1]
        exact State.heap_pushCell_size _ _
section MNS
variable {p : Program} {l : Launch} {e : Env} {R : Room} {s : State} {m : MethodId} {args : Array Value} {below : List Frame} {meth : Method} {c : Code} {T : State} {locs : List Loc} {cells slots : Nat}
theorem mn_stand (X : Stand p l e R s m args below meth c T locs cells slots) (cO cI : ClassId) (N K : Nat) (v : Value) : ∀ i : Nat, Stand p l e R s m args below meth c (mn_F cO cI N K v T i) locs (cells + 1 + i) (slots + N + i * K)
  | 0 => by
    have h := X.pushed (mn_out cO N T.heap.size 0)
    rw [show (mn_out cO N T.heap.size 0).slots.size = N from arrV_size _ _ _] at h
    rw [Nat.zero_mul]
    exact h
  | i + 1 => by
    have h0 := mn_stand X cO cI N K v i
    have h1 := h0.pushed (arrV cI K (fun _ => v))
    rw [arrV_size] at h1
    obtain ⟨f1, f2, -⟩ := mn_facts cO cI N K v T i
    have hlt : T.heap.size < (mn_F cO cI N K v T i).heap.size := by rw [f1]; omega
    have hp : ((mn_F cO cI N K v T i).pushCell (arrV cI K (fun _ => v))).heap[T.heap.size]? = some (mn_out cO N T.heap.size i) := (State.heap_pushCell_of_lt _ _ hlt).trans f2
    have h2 := (h1.stored hp i (.ref (T.heap.size + 1 + i))).dropFresh (fun x hx => by
      rw [List.mem_singleton.mp hx]
      exact X.heapGrown)
    rw [mn_out_s] at h2
    rw [show slots + N + (i + 1) * K = slots + N + i * K + K by rw [Nat.succ_mul]; omega]
    exact h2
end MNS
section MNW
variable {E : CtlPost} {e : Env} {d : Bool} {acts : List Action}
/-- one row: room and type suffice -/
theorem mn_row {Q : Addr → Pre} {U : State} {f : JFrame} {cc comp : ClassId} {k : Class} {ty : FieldType} {n : Nat} {v : Value} (hk : U.vm.classes[cc]? = some k) (hkind : k.kind = .array comp ty) (hfit : fits ty v = true)
    (h1 : ¬ n > e.platform.arrayLengthLimit) (h2 : ¬ n * componentBytes ty > e.platform.maxHeapBytes) (h3 : U.heap.size + 1 ≤ e.platform.maxCells) (h4 : U.slotsUsed + n ≤ e.platform.maxSlots)
    (kk : ∀ acts', Q U.heap.size d acts' ((U.pushCell (arrV cc n (fun _ => v))).setTop f)) : wp (Jvm.newArray cc n v) Q E e d acts (U.setTop f) := by
  have h5 : ¬ n > e.platform.maxSlots := by omega
  simp only [Jvm.newArray, Jvm.arrayFits, wp_bind', W.ite, W.ask, h1, h2, h5, if_false, wp_pure', W.theClass, State.vm_setTop, hk, hkind, Option.some.injEq, exists_eq_left', W.alloc]
  refine ⟨h3, by rw [Array.size_replicate]; exact h4, fun i w hw => ?_, ?_⟩
  · rw [Array.getElem?_replicate] at hw
    split at hw
    · cases hw
      simp [State.fitsSlot, State.slotType?, hk, hkind, hfit]
    · cases hw
  · rw [arrV_new]
    exact kk _
theorem mn_laid {T : State} {cO cI cP : ClassId} {kO kI : Class} {ty : FieldType} {N : Nat} {k : Int32} (hkO : T.vm.classes[cO]? = some kO) (hkindO : kO.kind = .array cI (.array ty)) (hkI : T.vm.classes[cI]? = some kI) (hkindI : kI.kind = .array cP ty) (hfit : fits ty (defaultValue ty) = true) (hk : ¬ k < 0)
    (h1 : ¬ k.toNatClampNeg > e.platform.arrayLengthLimit) (h2 : ¬ k.toNatClampNeg * componentBytes ty > e.platform.maxHeapBytes)
    (hr : ∀ i, i < N → (mn_F cO cI N k.toNatClampNeg (defaultValue ty) T i).heap.size + 1 ≤ e.platform.maxCells ∧ (mn_F cO cI N k.toNatClampNeg (defaultValue ty) T i).slotsUsed + k.toNatClampNeg ≤ e.platform.maxSlots)
    {f : JFrame} {Q : PUnit → Pre} (kk : ∀ d' acts', Q PUnit.unit d' acts' ((mn_F cO cI N k.toNatClampNeg (defaultValue ty) T N).setTop f)) :
    wp (forIn (List.range' 0 N) PUnit.unit (fun i (_ : PUnit) => do
      let r ← multianewarray.make cI [k]
      writeLoc T.heap.size i (.ref r)
      Pure.pure (ForInStep.yield PUnit.unit))) Q E e d acts ((mn_F cO cI N k.toNatClampNeg (defaultValue ty) T 0).setTop f) := by
  refine wp_forIn_inv (fun rest s' => ∃ i, i ≤ N ∧ rest = List.range' i (N - i) ∧ s' = (mn_F cO cI N k.toNatClampNeg (defaultValue ty) T i).setTop f) _ _ ⟨0, Nat.zero_le _, rfl, rfl⟩ ?_ ?_
  · rintro x rest s' d' acts' Q' ⟨i, hi, hrest, rfl⟩ hq
    obtain ⟨w, hw⟩ : ∃ w, N - i = w + 1 := by
      cases h : N - i with
      | zero => rw [h] at hrest; cases hrest
      | succ w => exact ⟨w, rfl⟩
    rw [hw, List.range'_succ] at hrest
    obtain ⟨rfl, rfl⟩ := List.cons.inj hrest
    obtain ⟨f1, f2, -, -, f5⟩ := mn_facts cO cI N k.toNatClampNeg (defaultValue ty) T x
    have hI : (mn_F cO cI N k.toNatClampNeg (defaultValue ty) T x).vm.classes[cI]? = some kI := by rw [f5]; exact hkI
    have hO : (mn_F cO cI N k.toNatClampNeg (defaultValue ty) T x).vm.classes[cO]? = some kO := by rw [f5]; exact hkO
    obtain ⟨r1, r2⟩ := hr x (by omega)
    simp only [multianewarray.make, wp_bind', W.ite, hk, if_false, wp_pure', W.theClass, State.vm_setTop, hI, Option.some.injEq, exists_eq_left', hkindI]
    refine mn_row hI hkindI hfit h1 h2 r1 r2 (fun acts2 => ?_)
    simp only [wp_bind', W.writeLoc, wp_pure']
    have hlt : T.heap.size < (mn_F cO cI N k.toNatClampNeg (defaultValue ty) T x).heap.size := by rw [f1]; omega
    refine ⟨mn_out cO N T.heap.size x, (State.heap_pushCell_of_lt _ _ hlt).trans f2, (fun h => by cases h), (by rw [show (mn_out cO N T.heap.size x).slots.size = N from arrV_size _ _ _]; omega), ?_, ?_⟩
    · simp [State.fitsSlot, State.slotType?, mn_out, arrV, hO, hkindO, fits]
    · rw [f1, mn_out_s]
      exact hq _ _ _ ⟨x + 1, by omega, by rw [show N - (x + 1) = w by omega], rfl⟩
  · rintro s' d' acts' ⟨i, hi, hrest, rfl⟩
    have : N - i = 0 := by
      cases h : N - i with
      | zero => rfl
      | succ w => rw [h] at hrest; cases hrest
    obtain rfl : i = N := by omega
    exact kk _ _
theorem mn_wp {T : State} {f : JFrame} {index : Nat} {cO cI cP : ClassId} {kO kI : Class} {ty : FieldType} {n k : Int32} {rest : List Value} (hs : T.topJava?.isSome) (hready : T.vm.classReady f.method.cls index cO)
    (hkO : T.vm.classes[cO]? = some kO) (hkindO : kO.kind = .array cI (.array ty)) (hkI : T.vm.classes[cI]? = some kI) (hkindI : kI.kind = .array cP ty) (hfit : fits ty (defaultValue ty) = true) (hstack : f.stack = .int k :: .int n :: rest) (hn : ¬ n < 0) (hk : ¬ k < 0)
    (g1 : ¬ n.toNatClampNeg > e.platform.arrayLengthLimit) (g2 : ¬ n.toNatClampNeg * componentBytes (.array ty) > e.platform.maxHeapBytes) (h1 : ¬ k.toNatClampNeg > e.platform.arrayLengthLimit) (h2 : ¬ k.toNatClampNeg * componentBytes ty > e.platform.maxHeapBytes)
    (hr0 : T.heap.size + 1 ≤ e.platform.maxCells ∧ T.slotsUsed + n.toNatClampNeg ≤ e.platform.maxSlots)
    (hr : ∀ i, i < n.toNatClampNeg → (mn_F cO cI n.toNatClampNeg k.toNatClampNeg (defaultValue ty) T i).heap.size + 1 ≤ e.platform.maxCells ∧ (mn_F cO cI n.toNatClampNeg k.toNatClampNeg (defaultValue ty) T i).slotsUsed + k.toNatClampNeg ≤ e.platform.maxSlots)
    (htop : (mn_F cO cI n.toNatClampNeg k.toNatClampNeg (defaultValue ty) T n.toNatClampNeg).topJava?.isSome)
    {Q : Unit → Pre} (kk : ∀ d' acts', Q () d' acts' ((mn_F cO cI n.toNatClampNeg k.toNatClampNeg (defaultValue ty) T n.toNatClampNeg).setTop { f with stack := .ref T.heap.size :: rest })) :
    wp (multianewarray.sem index 2) Q E e d acts (T.setTop f) := by
  simp only [multianewarray.sem, wp_bind', W.resolveClassAt_ready (State.method?_setTop f hs) hready]
  refine (popN_top (args := [.int n, .int k]) hs hstack).mpr ?_
  have hfind : ([k] : List Int32).find? (fun x => decide (x < 0)) = none := by simp [hk]
  simp only [List.mapM_cons, List.mapM_nil, wp_bind', wp_pure']
  rw [multianewarray.make]
  simp only [wp_bind', W.ite, hn, if_false, wp_pure', W.theClass, State.vm_setTop, hkO, Option.some.injEq, exists_eq_left', hkindO]
  refine mn_row hkO hkindO rfl g1 g2 hr0.1 hr0.2 (fun acts2 => ?_)
  simp only [wp_bind', W.ite, hfind, wp_pure', Std.Legacy.Range.forIn_eq_forIn_range', ite_self]
  rw [show arrV cO n.toNatClampNeg (fun _ => Value.null) = mn_out cO n.toNatClampNeg T.heap.size 0 from (arrV_new _ _ _).symm.trans (mn_out_0 _ _ _), show ([:n.toNatClampNeg] : Std.Legacy.Range).size = n.toNatClampNeg by simp [Std.Legacy.Range.size]]
  refine mn_laid (f := { f with stack := rest }) hkO hkindO hkI hkindI hfit hk h1 h2 hr (fun d' acts' => ?_)
  simp only [wp_pure', wp_bind', W.mark, W.pushRef, State.topJava?_setTop' _ htop, Option.some.injEq, exists_eq_left', State.setTop_setTop]
  exact kk _ _
end MNW
section MNL
variable {p : Program} {l : Launch} {e : Env} {R : Room} {s : State} {m : MethodId} {args : Array Value} {below : List Frame} {meth : Method} {c : Code} {T : State} {locs : List Loc} {cells slots : Nat}
/-- the instruction as a whole: the walk goes on behind it, with N rows of K below one outer row, all fresh -/
theorem mn_law (X : Stand p l e R s m args below meth c T locs cells slots) (hexec : p.tables.exec = Jvm.exec) {own : String} {index : Nat} {ty : FieldType} (hown : s.vm.findClass own = some m.cls) (hclink : (Cond.classLink own index ("[" ++ (FieldType.array ty).toString)).before args s = true)
    (hover : (Cond.arrayOver (.array ty)).before args s = true) (harr : (Cond.arrayClass ty).before args s = true) (hfit : fits ty (defaultValue ty) = true) {g : JFrame} (hg : g.method = m) (hdg : decode c.code g.pc = .ok (.multianewarray index 2, 4)) {n k : Int32} {rest : List Value} (hstack : g.stack = .int k :: .int n :: rest) (hn : ¬ n < 0) (hk : ¬ k < 0)
    (hb1 : n.toNatClampNeg * 4 ≤ 536870912) (hb2 : k.toNatClampNeg * componentBytes ty ≤ 536870912) (hb3 : k.toNatClampNeg ≤ 536870912) (hcells : cells + (1 + n.toNatClampNeg) ≤ R.cells) (hslots : slots + (n.toNatClampNeg + n.toNatClampNeg * k.toNatClampNeg) ≤ R.slots) :
    ∃ (vm₁ : Vm) (cO cI : ClassId), s.vm.findClass ("[" ++ (FieldType.array ty).toString) = some cO ∧ s.vm.findClass ("[" ++ ty.toString) = some cI ∧
      Stand p l e R s m args below meth c (mn_F cO cI n.toNatClampNeg k.toNatClampNeg (defaultValue ty) (T.setVm vm₁) n.toNatClampNeg) locs (cells + 1 + n.toNatClampNeg) (slots + n.toNatClampNeg + n.toNatClampNeg * k.toNatClampNeg) ∧
      ∀ target, Steps p.tables e below ((mn_F cO cI n.toNatClampNeg k.toNatClampNeg (defaultValue ty) (T.setVm vm₁) n.toNatClampNeg).setTop { g with pc := g.pc + 4, stack := .ref T.heap.size :: rest }) target → Steps p.tables e below (T.setTop g) target := by
  subst hg
  obtain ⟨cI, cO, kO, fI, hkO, hkindO, fO⟩ := mn_over hover
  obtain ⟨cI', kI, cP, fI', hkI, hkindI⟩ := Cond.arrayClass_spec harr
  obtain rfl : cI' = cI := Option.some.inj (fI'.symm.trans fI)
  obtain ⟨cO', fO', hcl⟩ := Cond.classLink_spec hown hclink e.platform (by rw [X.admits.platform])
  obtain rfl : cO' = cO := Option.some.inj (fO'.symm.trans fO)
  obtain ⟨hg₁, hW, hready⟩ := State.classEntry (e := e) X.warmed hcl
  generalize T.vm.noted g.method.cls index (.cls cO') = vm₁ at hg₁ hW hready
  obtain ⟨kO₁, hkO₁, eO⟩ := hW.alike.2.2 _ _ hkO
  obtain ⟨kI₁, hkI₁, eI⟩ := hW.alike.2.2 _ _ hkI
  have X₁ := X.noted hW
  have XF := mn_stand X₁ cO' cI' n.toNatClampNeg k.toNatClampNeg (defaultValue ty)
  have hmul : ∀ i, i < n.toNatClampNeg → i * k.toNatClampNeg + k.toNatClampNeg ≤ n.toNatClampNeg * k.toNatClampNeg := fun i hi => by
    rw [← Nat.succ_mul]
    exact Nat.mul_le_mul_right _ hi
  have hroom : ∀ i, i < n.toNatClampNeg → _ := fun i hi => (XF i).roomAbove (a := 1) (b := k.toNatClampNeg) (by omega) (by have := hmul i hi; omega)
  refine ⟨vm₁, cO', cI', fO, fI', XF _, fun target hrest => ?_⟩
  have hlim : ∀ x : Nat, x ≤ 536870912 → ¬ x > e.platform.arrayLengthLimit := fun x hx => by rw [Launch.admits_arrayLengthLimit X.admits]; omega
  have hmem : ∀ x : Nat, x ≤ 536870912 → ¬ x > e.platform.maxHeapBytes := fun x hx => by rw [Launch.admits_maxHeapBytes X.admits]; omega
  refine Steps.instr (c := _) (by simpa using X.here) ?_
  simp only [hdg, hexec, wpRun, exec]
  have hcold : ∀ (Q : Unit → Pre) (E : CtlPost), wp (multianewarray.sem index 2) Q E e false [] ((T.setVm vm₁).setTop g) → wp (multianewarray.sem index 2) Q E e false [] (T.setTop g) := fun Q E h => by
    simp only [multianewarray.sem, wp_bind'] at h ⊢
    exact (W.resolveClassAt_transfer (s := T.setTop g) (State.method?_setTop g X.here.top) hg₁ hready).mpr h
  refine hcold _ _ (mn_wp (T := T.setVm vm₁) X₁.here.top hready hkO₁ (by rw [eO]; exact hkindO) hkI₁ (by rw [eI]; exact hkindI) hfit hstack hn hk (hlim _ (by omega)) (hmem _ (by show _ * 4 ≤ _; exact hb1)) (hlim _ hb3) (hmem _ hb2) (X₁.roomAbove (by omega) (by omega)) hroom (XF _).here.top (fun d' acts' acts2 => ?_))
  simpa [jvm, (XF n.toNatClampNeg).here.top] using hrest
end MNL

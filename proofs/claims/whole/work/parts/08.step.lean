section SND
variable {p : Program} {l : Launch} {e : Env} {R : Room} {s : State} {m : MethodId} {args : Array Value} {below : List Frame} {meth : Method} {c : Code} {X : Cx} {cells slots : Nat} {Q : State → Prop} {o d nL : Nat} {cc : ByteArray} {rt : Option FieldType} {Fin : Option AV → Sg → Prop} {K : Nat → Lv → List AV → Sg → Prop} {pc len : Nat} {ls : Lv} {st : List AV} {σ : Sg}
theorem PcX_blind (X : Cx) (as : List AV) (σ : Sg) : FrameBlind (PcX X as σ) := by
  intro a U g mk h
  obtain ⟨h1, h2, h3, h4, h5, h6, h7⟩ := h
  exact ⟨h1, h2, va_K.moved (u := U) (U := U.calling g mk a) (Vm.Alike.refl U.vm) h3, h4, va_Z.moved (u := U) (U := U.calling g mk a) (Vm.Alike.refl U.vm) h5, va_T.moved (u := U) (U := U.calling g mk a) (Vm.Alike.refl U.vm) h6, va_Nw.same (u := U) (U := U.calling g mk a) rfl rfl h7⟩
theorem good_V {o idx : Nat} {mi : MI} (h1 : Cond.methodLink (RN o) idx mi.1 ∈ GG) (h2 : vOK mi) : GoodIn GG (wsV (RN o) idx mi.1.cls mi.1 (wsM mi)) := by
  have key : ∀ w ∈ wsV (RN o) idx mi.1.cls mi.1 (wsM mi), w ∈ GG := by
    intro w hw
    unfold wsV wsM at hw
    simp only [List.cons_append, List.nil_append, List.mem_cons] at hw
    rcases hw with rfl | rfl | rfl | rfl | rfl | hw
    · exact h1
    · exact h2.2.1
    · exact h2.2.2.1
    · exact h2.2.2.2
    · exact h2.1
    · exact hw
  exact fun w hw => ⟨key w hw, GG_good w (key w hw)⟩
theorem good_S {o idx : Nat} {mi : MI} (h1 : Cond.methodLink (RN o) idx mi.1 ∈ GG) (h2 : sOK mi) : GoodIn GG (va_wsS (RN o) idx mi.1 (wsM mi)) := by
  have key : ∀ w ∈ va_wsS (RN o) idx mi.1 (wsM mi), w ∈ GG := by
    intro w hw
    unfold va_wsS wsM at hw
    simp only [List.cons_append, List.nil_append, List.mem_cons] at hw
    rcases hw with rfl | rfl | rfl | rfl | hw
    · exact h1
    · exact h2.2.1
    · exact h2.2.2
    · exact h2.1
    · exact hw
  exact fun w hw => ⟨key w hw, GG_good w (key w hw)⟩
theorem run_on {g : JFrame} {la : Array Slot} {H : Heap} {locs : List Loc} {rest : List AV} {r : Option AV} {τ : Sg} {a : Array Value} (hg : g = F0 m pc la (st.map (cv X.2.2))) (hS : va_S (reg X) s.heap H locs) (hl : lv_has la nL (lvs X.2.2 0 ls))
    (hrun : va_Run p l e R s m args below meth c H locs cells slots 0 0 g (rest.map (cv X.2.2)) (QcX X r τ a) (reg X)) (hk : Vx p l e R s m args below meth c X cells slots Q nL (pc + 3) ls (r.toList ++ rest) τ) : W p l e R s m args below meth c H locs cells slots Q g := by
  intro T hT X0
  obtain ⟨v, st₀, t, T', L, h0, X', hL, e1, e2, ⟨hv, hP1, hF⟩, st⟩ := hrun T hT X0
  cases hv
  have hS1 : va_S (reg X) s.heap T'.heap (locs ++ L) := by
    rw [e1]
    refine ⟨Nat.le_trans hS.1 (by rw [← h0]; exact hF.1), fun q h1 h2 => ?_, fun q hq => ?_⟩
    · rw [hF.2 q (by rw [h0]; exact Nat.lt_of_lt_of_le h1 hS.1) h2, h0]
      exact hS.2.1 q h1 h2
    · rcases List.mem_append.mp hq with h | h
      · exact hS.2.2 q h
      · exact hL q h
  rw [← e1] at hP1
  obtain ⟨t2, a1, b1⟩ := hk T'.heap (locs ++ L) la hP1 hS1 hl T' rfl X'
  refine ⟨t2, st t2 ?_, b1⟩
  rw [hg]
  have e : (r.map (cv X.2.2)).toList ++ rest.map (cv X.2.2) = (r.toList ++ rest).map (cv X.2.2) := by cases r <;> rfl
  rw [e]
  exact a1
theorem callV_sound {idx n rk C : Nat} {mi : MI} {as rest : List AV} {r : Option AV} {τ : Sg} (E : Ev p s m args c X o cc nL) (hR : d + 1 ≤ R.frames ∧ 32 + 32 * d ≤ R.locals) (hC : cells ≤ R.cells ∧ slots ≤ R.slots) (hdg : decode cc pc = .ok (.invokevirtual idx, 3))
    (hm : mt o idx = some (mi, (0, (n, (rk, C))))) (hlen : as.length = n + 1) (hhd : as.head? = some (aR C)) (hst : st = as.reverse ++ rest) (hcat : cats rest ≤ 8) (hret : Ret d mi as σ r τ) (hk : Vx p l e R s m args below meth c X cells slots Q nL (pc + 3) ls (r.toList ++ rest) τ) : Vx p l e R s m args below meth c X cells slots Q nL pc ls st σ := by
  intro H locs la hP hS hl
  obtain ⟨hx, hb, hml, hown, hts, hSx⟩ := E
  obtain ⟨q1, q2, -, q4, q5⟩ := mOK_all _ (lk_mem _ _ _ _ hm)
  obtain ⟨q2, q6, q7⟩ := q2 rfl
  have q7 : C < 7 := q7
  have q6 : mi.1.cls = RN C := q6
  match as, hlen, hhd with
  | a0 :: as', hlen, hhd =>
    obtain rfl : a0 = aR C := by simpa using hhd
    have hcl := classes_at q7
    have hw := mkW_at X σ (id := C) (by omega)
    rw [ent_0 X σ q7] at hw
    have hc2 : classes[C]? = some (mi.1.cls, TT C, NN C) := by rw [hcl, ← q6]
    have cw : CallW R s args (RN o) mi.1.cls idx mi.1 mi.2.1 mi.2.2.1 mi.2.2.2 (wsM mi) (rmM d) 0 0 n := cwV n hts (good_V q1 q2) rfl rfl rfl ⟨rfl, q4⟩ ⟨by show d + 1 ≤ _; exact hR.1, by show 8 + (mi.2.2.1 + 11) + 32 * d ≤ _; have q5 : mi.2.2.1 ≤ 13 := q5; omega⟩
    refine run_on (st := st) rfl hS hl ?_ hk (a := (Value.ref (X.2.2 C) :: as'.map (cv X.2.2)).toArray)
    refine va_runV (b := X.2.2 C) (C := mi.1.cls) (As := as'.map (cv X.2.2)) (rest := rest.map (cv X.2.2)) (Ts := GG) ⟨hx, hb, hml, hown, hts⟩ (hret l X) cw ⟨PcX_blind X _ σ, ?_, ?_⟩ rfl ?_ hl.1 ?_ ?_ hdg ⟨by omega, by omega⟩
    · exact va_recv hSx.1 hP hc2 hw
    · intro U hU hW
      refine ⟨rfl, by rw [hU]; exact hP, ?_⟩
      refine hSx.moved hW (fun a h1 h2 => ?_)
      rw [hU]
      exact hS.2.1 a h1 h2
    · simp only [List.length_cons] at hlen
      rw [List.length_map]
      omega
    · show st.map (cv X.2.2) = _
      rw [hst]
      simp [cv]
    · refine lv_room ?_
      rw [cats_eq]
      exact hcat
theorem callS_sound {idx n rk C : Nat} {mi : MI} {as rest : List AV} {r : Option AV} {τ : Sg} (E : Ev p s m args c X o cc nL) (hR : d + 1 ≤ R.frames ∧ 32 + 32 * d ≤ R.locals) (hC : cells ≤ R.cells ∧ slots ≤ R.slots) (hdg : decode cc pc = .ok (.invokestatic idx, 3))
    (hm : mt o idx = some (mi, (1, (n, (rk, C))))) (hlen : as.length = n) (hst : st = as.reverse ++ rest) (hcat : cats rest ≤ 8) (hret : Ret d mi as σ r τ) (hk : Vx p l e R s m args below meth c X cells slots Q nL (pc + 3) ls (r.toList ++ rest) τ) : Vx p l e R s m args below meth c X cells slots Q nL pc ls st σ := by
  intro H locs la hP hS hl
  obtain ⟨hx, hb, hml, hown, hts, hSx⟩ := E
  obtain ⟨q1, -, q2, q4, q5⟩ := mOK_all _ (lk_mem _ _ _ _ hm)
  have q2 := q2 rfl
  have cw : CallB R s args (RN o) idx mi.1 mi.2.1 mi.2.2.1 mi.2.2.2 (wsM mi) (rmM d) 0 0 n ∧ (Cond.static mi.1).before args s = true := va_cwS n hts (good_S q1 q2) rfl rfl rfl q4 ⟨by show d + 1 ≤ _; exact hR.1, by show 8 + (mi.2.2.1 + 11) + 32 * d ≤ _; have q5 : mi.2.2.1 ≤ 13 := q5; omega⟩
  refine run_on (st := st) rfl hS hl ?_ hk (a := (as.map (cv X.2.2)).toArray)
  refine va_runS (As := as.map (cv X.2.2)) (rest := rest.map (cv X.2.2)) (Ts := GG) ⟨hx, hb, hml, hown, hts⟩ (hret l X) cw ⟨PcX_blind X _ σ, ?_⟩ rfl ?_ hl.1 ?_ ?_ hdg ⟨by omega, by omega⟩
  · intro U hU hW
    refine ⟨rfl, by rw [hU]; exact hP, ?_⟩
    refine hSx.moved hW (fun a h1 h2 => ?_)
    rw [hU]
    exact hS.2.1 a h1 h2
  · rw [List.length_map]
    exact hlen
  · show st.map (cv X.2.2) = _
    rw [hst]
    simp
  · refine lv_room ?_
    rw [cats_eq]
    exact hcat
theorem callK_of {mi : MI} {as rest : List AV} {rk : Nat} {K2 : List AV → Sg → Prop} (h : callK d mi as σ rk K2 rest) : ∃ r τ, Ret d mi as σ r τ ∧ K2 (r.toList ++ rest) τ := by
  unfold callK at h
  split at h
  · obtain ⟨τ, h1, h2⟩ := h
    exact ⟨none, τ, h1, h2⟩
  · obtain ⟨z, τ, h1, h2⟩ := h
    exact ⟨_, τ, h1, h2⟩
  · obtain ⟨z, τ, h1, h2⟩ := h
    exact ⟨_, τ, h1, h2⟩
theorem rtk_st (n : Nat) (st : List AV) : st = (rtk n st []).reverse ++ dr n st := by
  have := rtk_dr n st []
  simpa using this.symm
def rOK (rt : Option FieldType) (cc : ByteArray) (pc : Nat) (r : Option AV) : Prop := match r with
  | some (.inl x) => zOK rt x ∧ decode cc pc = .ok (.ireturn, 1)
  | some (.inr (.inl _)) => rt = some .long ∧ decode cc pc = .ok (.lreturn, 1)
  | some _ => False
  | none => rt = none ∧ decode cc pc = .ok (.return_, 1)
theorem cpy_ent1 (X : Cx) (σ : Sg) {a b : Nat} (ha : (kd a).1 = 1) (hb : (kd b).1 = 1) {sp dp n : Int} (h1 : 0 ≤ sp) (h2 : 0 ≤ dp) (h3 : 0 ≤ n) : ent X (cpy σ a b sp dp n) b = .inl (X.2.1 0, (kd b).2.1, .inl (va_cpy (fun k : Nat => Int32.ofInt (σ a k)) (fun k : Nat => Int32.ofInt (σ b k)) sp.toNat dp.toNat n.toNat)) := by
  rw [ent_1 X _ hb]
  congr 4
  funext k
  unfold cpy va_cpy
  by_cases hq : dp ≤ (k : Int) ∧ (k : Int) < dp + n
  · rw [if_pos ⟨rfl, hq⟩, if_pos (by omega)]
    have e : ((sp.toNat + (k - dp.toNat) : Nat) : Int) = sp + ((k : Int) - dp) := by omega
    show _ = Int32.ofInt (σ a ((sp.toNat + (k - dp.toNat) : Nat) : Int))
    rw [e]
  · rw [if_neg (fun z => hq z.2), if_neg (by omega)]
theorem cpy_ent2 (X : Cx) (σ : Sg) {a b : Nat} (ha : (kd a).1 = 2) (hb : (kd b).1 = 2) {sp dp n : Int} (h1 : 0 ≤ sp) (h2 : 0 ≤ dp) (h3 : 0 ≤ n) : ent X (cpy σ a b sp dp n) b = .inl (X.2.1 1, (kd b).2.1, .inr (.inl (va_cpy (fun k : Nat => Int64.ofInt (σ a k)) (fun k : Nat => Int64.ofInt (σ b k)) sp.toNat dp.toNat n.toNat))) := by
  rw [ent_2 X _ hb]
  congr 5
  funext k
  unfold cpy va_cpy
  by_cases hq : dp ≤ (k : Int) ∧ (k : Int) < dp + n
  · rw [if_pos ⟨rfl, hq⟩, if_pos (by omega)]
    have e : ((sp.toNat + (k - dp.toNat) : Nat) : Int) = sp + ((k : Int) - dp) := by omega
    show _ = Int64.ofInt (σ a ((sp.toNat + (k - dp.toNat) : Nat) : Int))
    rw [e]
  · rw [if_neg (fun z => hq z.2), if_neg (by omega)]
theorem cpy_ne {σ : Sg} {src dst sp dp n : Int} {j : Nat} (h : (j : Int) ≠ dst) (k' : Int) : cpy σ src dst sp dp n j k' = σ j k' := by
  simp [cpy, h]
theorem tsw_of {x : Int} : ∀ (offs : List Int) (lo : Int), tsw K pc ls st σ x lo offs → lo ≤ x → x < lo + offs.length → ∃ off, offs[(x - lo).toNat]? = some off ∧ jmp K pc off ls st σ
  | [], lo, _, h1, h2 => by simp at h2; omega
  | off :: t, lo, h, h1, h2 => by
    by_cases e : x = lo
    · refine ⟨off, ?_, h.1 e⟩
      rw [e]
      simp
    · obtain ⟨of2, g1, g2⟩ := tsw_of t (lo + 1) h.2 (by omega) (by simp at h2; omega)
      refine ⟨of2, ?_, g2⟩
      have e2 : (x - lo).toNat = (x - (lo + 1)).toNat + 1 := by omega
      rw [e2]
      simpa using g1
theorem nb_nar {x : Int} (h : x = 0 ∨ x = 1) : narrow .boolean (.int (Int32.ofInt x)) = .int (Int32.ofInt x) := by
  rcases h with rfl | rfl
  · exact congrArg Value.int (by decide : Int32.ofInt 0 &&& 1 = Int32.ofInt 0)
  · exact congrArg Value.int (by decide : Int32.ofInt 1 &&& 1 = Int32.ofInt 1)
theorem nb_fit {x : Int} (h : x = 0 ∨ x = 1) : fits .boolean (.int (Int32.ofInt x)) = true := by
  rcases h with rfl | rfl <;> decide
theorem cat1 (A : Nat → Nat) {a : AV} (h : catA a = 1) : (cv A a).category = 1 := by
  rcases a with z | z | z
  · rfl
  · cases h
  · rfl
theorem jpc {off : Int} (h : 0 ≤ (pc : Int) + off) : (pc : Int) + off = ((((pc : Int) + off).toNat : Nat) : Int) := by omega
set_option maxHeartbeats 4000000 in
theorem ex_sound (E : Ev p s m args c X o cc nL) (hR : d + 1 ≤ R.frames ∧ 32 + 32 * d ≤ R.locals) (hC : cells ≤ R.cells ∧ slots ≤ R.slots) (hK : ∀ pc ls st σ, K pc ls st σ → Vx p l e R s m args below meth c X cells slots Q nL pc ls st σ)
    (hRet : ∀ (r : Option AV) (σ : Sg) (pc : Nat) (H : Heap) (locs : List Loc) (la : Array Slot), Fin r σ → va_P X.1 classes (mkW X σ) H → va_S (reg X) s.heap H locs → lv_has la nL (lvs X.2.2 0 ls) → rOK rt cc pc r → W p l e R s m args below meth c H locs cells slots Q (F0 m pc la (r.toList.map (cv X.2.2)))) {i : Instr} (hdg : decode cc pc = .ok (i, len)) (h : ex o d nL rt Fin K pc len ls st σ i) : Vx p l e R s m args below meth c X cells slots Q nL pc ls st σ := by
  intro H locs la hP hS hl
  obtain ⟨hx, hb, hml, hown, hts, hSx⟩ := E
  cases i with
  | iconst n =>
    obtain ⟨rfl, h⟩ := h
    exact lv_iconst hx hb hdg rfl (hK _ _ _ _ h H locs la hP hS hl)
  | bipush n =>
    obtain ⟨rfl, h1, h2, h⟩ := h
    exact lv_bipush hx hb hdg (ofI_b h1 h2) (hK _ _ _ _ h H locs la hP hS hl)
  | sipush n =>
    obtain ⟨rfl, h1, h2, h⟩ := h
    exact lv_sipush hx hb hdg (ofI_s h1 h2) (hK _ _ _ _ h H locs la hP hS hl)
  | lconst n =>
    obtain ⟨rfl, h⟩ := h
    exact lv_lconst hx hb hdg (by rfl) (hK _ _ _ _ h H locs la hP hS hl)
  | ldc n =>
    obtain ⟨rfl, h⟩ := h
    split at h
    · rename_i v hv
      exact lv_ldc hx hb hown (hts _ (ciOK_all _ (lk_mem _ _ _ _ hv))) hdg (hK _ _ _ _ h H locs la hP hS hl)
    · exact h.elim
  | ldc2_w n =>
    obtain ⟨rfl, h⟩ := h
    split at h
    · rename_i v hv
      exact lv_ldc2 hx hb hown (hts _ (clOK_all _ (lk_mem _ _ _ _ hv))) hdg (hK _ _ _ _ h H locs la hP hS hl)
    · exact h.elim
  | iload_n k =>
    obtain ⟨rfl, h⟩ := h
    obtain ⟨x, h1, h⟩ := gI_of h
    exact lv_iload_n hx hb hdg rfl (lvs_get X.2.2 hl h1) (hK _ _ _ _ h H locs la hP hS hl)
  | iload k =>
    obtain ⟨rfl, h⟩ := h
    obtain ⟨x, h1, h⟩ := gI_of h
    exact lv_iload hx hb hdg (lvs_get X.2.2 hl h1) (hK _ _ _ _ h H locs la hP hS hl)
  | lload_n k =>
    obtain ⟨rfl, h⟩ := h
    obtain ⟨x, h1, h⟩ := gL_of h
    exact lv_lload_n hx hb hdg rfl (lvs_get X.2.2 hl h1) (hK _ _ _ _ h H locs la hP hS hl)
  | lload k =>
    obtain ⟨rfl, h⟩ := h
    obtain ⟨x, h1, h⟩ := gL_of h
    exact lv_lload hx hb hdg (lvs_get X.2.2 hl h1) (hK _ _ _ _ h H locs la hP hS hl)
  | aload_n k =>
    obtain ⟨rfl, h⟩ := h
    obtain ⟨x, h1, h⟩ := gR_of h
    exact lv_aload_n hx hb hdg rfl (lvs_get X.2.2 hl h1) (hK _ _ _ _ h H locs la hP hS hl)
  | aload k =>
    obtain ⟨rfl, h⟩ := h
    obtain ⟨x, h1, h⟩ := gR_of h
    exact lv_aload hx hb hdg (lvs_get X.2.2 hl h1) (hK _ _ _ _ h H locs la hP hS hl)
  | istore_n k =>
    obtain ⟨rfl, h1, h⟩ := h
    replace h := pI_of h
    obtain ⟨x, t, rfl, h⟩ := h
    exact lv_istore_n hx hb hdg rfl hl h1 rfl (fun la1 hl1 => hK _ _ _ _ h H locs la1 hP hS (lvs_set1 X.2.2 hl1))
  | istore k =>
    obtain ⟨rfl, h1, h⟩ := h
    replace h := pI_of h
    obtain ⟨x, t, rfl, h⟩ := h
    exact lv_istore hx hb hdg hl h1 rfl (fun la1 hl1 => hK _ _ _ _ h H locs la1 hP hS (lvs_set1 X.2.2 hl1))
  | lstore_n k =>
    obtain ⟨rfl, h1, h⟩ := h
    replace h := pL_of h
    obtain ⟨x, t, rfl, h⟩ := h
    exact lv_lstore_n hx hb hdg rfl hl h1 rfl (fun la1 hl1 => hK _ _ _ _ h H locs la1 hP hS (lvs_set2 X.2.2 hl1))
  | lstore k =>
    obtain ⟨rfl, h1, h⟩ := h
    replace h := pL_of h
    obtain ⟨x, t, rfl, h⟩ := h
    exact lv_lstore hx hb hdg hl h1 rfl (fun la1 hl1 => hK _ _ _ _ h H locs la1 hP hS (lvs_set2 X.2.2 hl1))
  | astore_n k =>
    obtain ⟨rfl, h1, h⟩ := h
    replace h := pR_of h
    obtain ⟨x, t, rfl, h⟩ := h
    exact lv_astore_n hx hb hdg rfl hl h1 rfl (fun la1 hl1 => hK _ _ _ _ h H locs la1 hP hS (lvs_set1 X.2.2 hl1))
  | astore k =>
    obtain ⟨rfl, h1, h⟩ := h
    replace h := pR_of h
    obtain ⟨x, t, rfl, h⟩ := h
    exact lv_astore hx hb hdg hl h1 rfl (fun la1 hl1 => hK _ _ _ _ h H locs la1 hP hS (lvs_set1 X.2.2 hl1))
  | iinc k n =>
    obtain ⟨rfl, h1, h⟩ := h
    obtain ⟨x, h2, h⟩ := gI_of h
    obtain ⟨j, hj⟩ := lvs_idx X.2.2 h2
    refine lv_iinc (v := Int32.ofInt (x + n)) hx hb hdg hl hj (ofI_add x n) h1 rfl (fun la1 hl1 => hK _ _ _ _ h H locs la1 hP hS (lvs_set1 X.2.2 (v := aI (x + n)) hl1))
  | iadd =>
    obtain ⟨rfl, h⟩ := h
    replace h := pI_of h
    obtain ⟨y, t, rfl, h⟩ := h
    replace h := pI_of h
    obtain ⟨x, t, rfl, h⟩ := h
    refine lv_iadd (x := Int32.ofInt x) (y := Int32.ofInt y) hx hb hdg ?_
    rw [ofI_add]
    exact hK _ _ _ _ h H locs la hP hS hl
  | isub =>
    obtain ⟨rfl, h⟩ := h
    replace h := pI_of h
    obtain ⟨y, t, rfl, h⟩ := h
    replace h := pI_of h
    obtain ⟨x, t, rfl, h⟩ := h
    refine lv_isub (x := Int32.ofInt x) (y := Int32.ofInt y) hx hb hdg ?_
    rw [ofI_sub]
    exact hK _ _ _ _ h H locs la hP hS hl
  | imul =>
    obtain ⟨rfl, h⟩ := h
    replace h := pI_of h
    obtain ⟨y, t, rfl, h⟩ := h
    replace h := pI_of h
    obtain ⟨x, t, rfl, h⟩ := h
    refine lv_imul (x := Int32.ofInt x) (y := Int32.ofInt y) hx hb hdg ?_
    rw [ofI_mul]
    exact hK _ _ _ _ h H locs la hP hS hl
  | ladd =>
    obtain ⟨rfl, h⟩ := h
    replace h := pL_of h
    obtain ⟨y, t, rfl, h⟩ := h
    replace h := pL_of h
    obtain ⟨x, t, rfl, h⟩ := h
    refine lv_ladd (x := Int64.ofInt x) (y := Int64.ofInt y) hx hb hdg ?_
    rw [ofL_add]
    exact hK _ _ _ _ h H locs la hP hS hl
  | lsub =>
    obtain ⟨rfl, h⟩ := h
    replace h := pL_of h
    obtain ⟨y, t, rfl, h⟩ := h
    replace h := pL_of h
    obtain ⟨x, t, rfl, h⟩ := h
    refine lv_lsub (x := Int64.ofInt x) (y := Int64.ofInt y) hx hb hdg ?_
    rw [ofL_sub]
    exact hK _ _ _ _ h H locs la hP hS hl
  | lmul =>
    obtain ⟨rfl, h⟩ := h
    replace h := pL_of h
    obtain ⟨y, t, rfl, h⟩ := h
    replace h := pL_of h
    obtain ⟨x, t, rfl, h⟩ := h
    refine lv_lmul (x := Int64.ofInt x) (y := Int64.ofInt y) hx hb hdg ?_
    rw [ofL_mul]
    exact hK _ _ _ _ h H locs la hP hS hl
  | idiv =>
    obtain ⟨rfl, h⟩ := h
    replace h := pI_of h
    obtain ⟨y, t, rfl, h⟩ := h
    replace h := pI_of h
    obtain ⟨x, t, rfl, h⟩ := h
    obtain ⟨h1, h2, h3, h⟩ := h
    refine lv_idiv (x := Int32.ofInt x) (y := Int32.ofInt y) hx hb hdg (ofI_ne h2 h3) ?_
    rw [ofI_div h1 h2]
    exact hK _ _ _ _ h H locs la hP hS hl
  | irem =>
    obtain ⟨rfl, h⟩ := h
    replace h := pI_of h
    obtain ⟨y, t, rfl, h⟩ := h
    replace h := pI_of h
    obtain ⟨x, t, rfl, h⟩ := h
    obtain ⟨h1, h2, h3, h⟩ := h
    refine lv_irem (x := Int32.ofInt x) (y := Int32.ofInt y) hx hb hdg (ofI_ne h2 h3) ?_
    rw [ofI_rem h1 h2]
    exact hK _ _ _ _ h H locs la hP hS hl
  | ldiv =>
    obtain ⟨rfl, h⟩ := h
    replace h := pL_of h
    obtain ⟨y, t, rfl, h⟩ := h
    replace h := pL_of h
    obtain ⟨x, t, rfl, h⟩ := h
    obtain ⟨h1, h2, h3, h⟩ := h
    refine lv_ldiv (x := Int64.ofInt x) (y := Int64.ofInt y) hx hb hdg (ofL_ne h2 h3) ?_
    rw [ofL_div h1 h2]
    exact hK _ _ _ _ h H locs la hP hS hl
  | lrem =>
    obtain ⟨rfl, h⟩ := h
    replace h := pL_of h
    obtain ⟨y, t, rfl, h⟩ := h
    replace h := pL_of h
    obtain ⟨x, t, rfl, h⟩ := h
    obtain ⟨h1, h2, h3, h⟩ := h
    refine lv_lrem (x := Int64.ofInt x) (y := Int64.ofInt y) hx hb hdg (ofL_ne h2 h3) ?_
    rw [ofL_rem h1 h2]
    exact hK _ _ _ _ h H locs la hP hS hl
  | iand =>
    obtain ⟨rfl, h⟩ := h
    replace h := pI_of h
    obtain ⟨y, t, rfl, h⟩ := h
    replace h := pI_of h
    obtain ⟨x, t, rfl, h⟩ := h
    refine lv_iand (x := Int32.ofInt x) (y := Int32.ofInt y) hx hb hdg ?_
    have h2 := hK _ _ _ _ h H locs la hP hS hl
    simp only [List.map_cons, cv, iand32, Int32.ofInt_toInt] at h2
    exact h2
  | ior =>
    obtain ⟨rfl, h⟩ := h
    replace h := pI_of h
    obtain ⟨y, t, rfl, h⟩ := h
    replace h := pI_of h
    obtain ⟨x, t, rfl, h⟩ := h
    refine lv_ior (x := Int32.ofInt x) (y := Int32.ofInt y) hx hb hdg ?_
    have h2 := hK _ _ _ _ h H locs la hP hS hl
    simp only [List.map_cons, cv, ior32, Int32.ofInt_toInt] at h2
    exact h2
  | ishl =>
    obtain ⟨rfl, h⟩ := h
    replace h := pI_of h
    obtain ⟨y, t, rfl, h⟩ := h
    replace h := pI_of h
    obtain ⟨x, t, rfl, h⟩ := h
    refine lv_ishl (x := Int32.ofInt x) (y := Int32.ofInt y) hx hb hdg ?_
    have h2 := hK _ _ _ _ h H locs la hP hS hl
    simp only [List.map_cons, cv, ishl32, Int32.ofInt_toInt] at h2
    exact h2
  | ishr =>
    obtain ⟨rfl, h⟩ := h
    replace h := pI_of h
    obtain ⟨y, t, rfl, h⟩ := h
    replace h := pI_of h
    obtain ⟨x, t, rfl, h⟩ := h
    refine lv_ishr (x := Int32.ofInt x) (y := Int32.ofInt y) hx hb hdg ?_
    have h2 := hK _ _ _ _ h H locs la hP hS hl
    simp only [List.map_cons, cv, ishr32, Int32.ofInt_toInt] at h2
    exact h2
  | land =>
    obtain ⟨rfl, h⟩ := h
    replace h := pL_of h
    obtain ⟨y, t, rfl, h⟩ := h
    replace h := pL_of h
    obtain ⟨x, t, rfl, h⟩ := h
    refine lv_land (x := Int64.ofInt x) (y := Int64.ofInt y) hx hb hdg ?_
    have h2 := hK _ _ _ _ h H locs la hP hS hl
    simp only [List.map_cons, cv, land64, Int64.ofInt_toInt] at h2
    exact h2
  | lor =>
    obtain ⟨rfl, h⟩ := h
    replace h := pL_of h
    obtain ⟨y, t, rfl, h⟩ := h
    replace h := pL_of h
    obtain ⟨x, t, rfl, h⟩ := h
    refine lv_lor (x := Int64.ofInt x) (y := Int64.ofInt y) hx hb hdg ?_
    have h2 := hK _ _ _ _ h H locs la hP hS hl
    simp only [List.map_cons, cv, lor64, Int64.ofInt_toInt] at h2
    exact h2
  | lshl =>
    obtain ⟨rfl, h⟩ := h
    replace h := pI_of h
    obtain ⟨y, t, rfl, h⟩ := h
    replace h := pL_of h
    obtain ⟨x, t, rfl, h⟩ := h
    refine lv_lshl (x := Int64.ofInt x) (y := Int32.ofInt y) hx hb hdg rfl ?_
    have h2 := hK _ _ _ _ h H locs la hP hS hl
    simp only [List.map_cons, cv, lshl64, Int64.ofInt_toInt] at h2
    exact h2
  | i2l =>
    obtain ⟨rfl, h⟩ := h
    replace h := pI_of h
    obtain ⟨x, t, rfl, h⟩ := h
    exact lv_i2l (x := Int32.ofInt x) hx hb hdg (ofI_i2l h.1) (hK _ _ _ _ h.2 H locs la hP hS hl)
  | lcmp =>
    obtain ⟨rfl, h⟩ := h
    replace h := pL_of h
    obtain ⟨y, t, rfl, h⟩ := h
    replace h := pL_of h
    obtain ⟨x, t, rfl, h⟩ := h
    obtain ⟨h1, h⟩ := h
    refine W.lcmp (x := Int64.ofInt x) (y := Int64.ofInt y) hx hb hdg ?_
    rw [ofI_lcm2 h1]
    exact hK _ _ _ _ h H locs la hP hS hl
  | dup =>
    obtain ⟨rfl, h⟩ := h
    match st, h with
    | a :: t, h => exact lv_dup hx hb hdg (by rw [cat1 X.2.2 h.1]) (hK _ _ _ _ h.2 H locs la hP hS hl)
  | dup2 =>
    obtain ⟨rfl, h⟩ := h
    match st, h with
    | a :: b :: t, h => exact lv_dup2_11 hx hb hdg (by rw [cat1 X.2.2 h.1]) (by rw [cat1 X.2.2 h.2.1]) (hK _ _ _ _ h.2.2 H locs la hP hS hl)
  | pop =>
    obtain ⟨rfl, h⟩ := h
    match st, h with
    | a :: t, h => exact lv_pop hx hb hdg (by rw [cat1 X.2.2 h.1]) (hK _ _ _ _ h.2 H locs la hP hS hl)
  | ifCond cn off =>
    obtain ⟨rfl, h0, h⟩ := h
    replace h := pI_of h
    obtain ⟨x, t, rfl, h⟩ := h
    obtain ⟨h1, h⟩ := h
    cases cn with
    | eq => exact lv_if_eq (x := Int32.ofInt x) (tgt := ((pc : Int) + off).toNat) hx hb hdg (jpc h0) (fun q => hK _ _ _ _ (h.1 ((ofI_eq h1 inR_0).mp q)).2 H locs la hP hS hl) (fun q => hK _ _ _ _ (h.2 (fun z => q ((ofI_eq h1 inR_0).mpr z))) H locs la hP hS hl)
    | ne => exact lv_if_ne (x := Int32.ofInt x) (tgt := ((pc : Int) + off).toNat) hx hb hdg (jpc h0) (fun q => hK _ _ _ _ (h.1 ((not_congr (ofI_eq h1 inR_0)).mp q)).2 H locs la hP hS hl) (fun q => hK _ _ _ _ (h.2 (fun z => z ((ofI_eq h1 inR_0).mp q))) H locs la hP hS hl)
    | lt => exact lv_if_lt (x := Int32.ofInt x) (tgt := ((pc : Int) + off).toNat) hx hb hdg (jpc h0) (fun q => hK _ _ _ _ (h.1 ((ofI_lt h1 inR_0).mp q)).2 H locs la hP hS hl) (fun q => hK _ _ _ _ (h.2 (fun z => q ((ofI_lt h1 inR_0).mpr z))) H locs la hP hS hl)
    | ge => exact lv_if_ge (x := Int32.ofInt x) (tgt := ((pc : Int) + off).toNat) hx hb hdg (jpc h0) (fun q => hK _ _ _ _ (h.1 ((ofI_le inR_0 h1).mp q)).2 H locs la hP hS hl) (fun q => hK _ _ _ _ (h.2 (fun z => q ((ofI_le inR_0 h1).mpr z))) H locs la hP hS hl)
    | gt => exact lv_if_gt (x := Int32.ofInt x) (tgt := ((pc : Int) + off).toNat) hx hb hdg (jpc h0) (fun q => hK _ _ _ _ (h.1 ((ofI_lt inR_0 h1).mp q)).2 H locs la hP hS hl) (fun q => hK _ _ _ _ (h.2 (fun z => q ((ofI_lt inR_0 h1).mpr z))) H locs la hP hS hl)
    | le => exact lv_if_le (x := Int32.ofInt x) (tgt := ((pc : Int) + off).toNat) hx hb hdg (jpc h0) (fun q => hK _ _ _ _ (h.1 ((ofI_le h1 inR_0).mp q)).2 H locs la hP hS hl) (fun q => hK _ _ _ _ (h.2 (fun z => q ((ofI_le h1 inR_0).mpr z))) H locs la hP hS hl)
  | if_icmp cn off =>
    obtain ⟨rfl, h0, h⟩ := h
    replace h := pI_of h
    obtain ⟨y, t, rfl, h⟩ := h
    replace h := pI_of h
    obtain ⟨x, t, rfl, h⟩ := h
    obtain ⟨h1, h2, h⟩ := h
    cases cn with
    | eq => exact lv_icmp_eq (x := Int32.ofInt x) (y := Int32.ofInt y) (tgt := ((pc : Int) + off).toNat) hx hb hdg (jpc h0) (fun q => hK _ _ _ _ (h.1 ((ofI_eq h1 h2).mp q)).2 H locs la hP hS hl) (fun q => hK _ _ _ _ (h.2 (fun z => q ((ofI_eq h1 h2).mpr z))) H locs la hP hS hl)
    | ne => exact lv_icmp_ne (x := Int32.ofInt x) (y := Int32.ofInt y) (tgt := ((pc : Int) + off).toNat) hx hb hdg (jpc h0) (fun q => hK _ _ _ _ (h.1 ((not_congr (ofI_eq h1 h2)).mp q)).2 H locs la hP hS hl) (fun q => hK _ _ _ _ (h.2 (fun z => z ((ofI_eq h1 h2).mp q))) H locs la hP hS hl)
    | lt => exact lv_icmp_lt (x := Int32.ofInt x) (y := Int32.ofInt y) (tgt := ((pc : Int) + off).toNat) hx hb hdg (jpc h0) (fun q => hK _ _ _ _ (h.1 ((ofI_lt h1 h2).mp q)).2 H locs la hP hS hl) (fun q => hK _ _ _ _ (h.2 (fun z => q ((ofI_lt h1 h2).mpr z))) H locs la hP hS hl)
    | ge => exact lv_icmp_ge (x := Int32.ofInt x) (y := Int32.ofInt y) (tgt := ((pc : Int) + off).toNat) hx hb hdg (jpc h0) (fun q => hK _ _ _ _ (h.1 ((ofI_le h2 h1).mp q)).2 H locs la hP hS hl) (fun q => hK _ _ _ _ (h.2 (fun z => q ((ofI_le h2 h1).mpr z))) H locs la hP hS hl)
    | gt => exact lv_icmp_gt (x := Int32.ofInt x) (y := Int32.ofInt y) (tgt := ((pc : Int) + off).toNat) hx hb hdg (jpc h0) (fun q => hK _ _ _ _ (h.1 ((ofI_lt h2 h1).mp q)).2 H locs la hP hS hl) (fun q => hK _ _ _ _ (h.2 (fun z => q ((ofI_lt h2 h1).mpr z))) H locs la hP hS hl)
    | le => exact lv_icmp_le (x := Int32.ofInt x) (y := Int32.ofInt y) (tgt := ((pc : Int) + off).toNat) hx hb hdg (jpc h0) (fun q => hK _ _ _ _ (h.1 ((ofI_le h1 h2).mp q)).2 H locs la hP hS hl) (fun q => hK _ _ _ _ (h.2 (fun z => q ((ofI_le h1 h2).mpr z))) H locs la hP hS hl)
  | goto off =>
    obtain ⟨rfl, h⟩ := h
    exact lv_goto (tgt := ((pc : Int) + off).toNat) hx hb hdg (by have := h.1; omega) (hK _ _ _ _ h.2 H locs la hP hS hl)
  | tableswitch dflt lo hi offs =>
    replace h := pI_of h
    obtain ⟨x, t, rfl, h⟩ := h
    obtain ⟨h1, h2, h3, h4⟩ := h
    by_cases hq : x < lo ∨ hi < x
    · have h5 := h2 hq
      exact lv_tableOut (x := Int32.ofInt x) (tgt := ((pc : Int) + dflt).toNat) hx hb hdg (by rw [tI h1]; exact hq) (by have := h5.1; omega) (hK _ _ _ _ h5.2 H locs la hP hS hl)
    · obtain ⟨off, g1, g2⟩ := tsw_of _ _ h4 (by omega) (by rw [h3]; omega)
      exact lv_tableIn (x := Int32.ofInt x) (off := off) (tgt := ((pc : Int) + off).toNat) hx hb hdg (by rw [tI h1]; omega) (by rw [tI h1]; omega) (by rw [tI h1, ← Array.getElem?_toList]; exact g1) (by have := g2.1; omega) (hK _ _ _ _ g2.2 H locs la hP hS hl)
  | getfield n =>
    obtain ⟨rfl, h⟩ := h
    replace h := pR_of h
    obtain ⟨id, t, rfl, h⟩ := h
    split at h
    · rename_i C k f hf
      obtain ⟨rfl, h⟩ := h
      obtain ⟨q1, q2, q3, q4, -⟩ := fOK_all _ (lk_mem _ _ _ _ hf)
      have q2 : C < 7 := q2
      have q4 : (FK C)[k]? = some f := q4
      have hw := mkW_at X σ (id := C) (by omega)
      rw [ent_0 X σ q2] at hw
      refine va_get (own := RN o) (C := RN C) (T := TT C) (N := NN C) hx hb hts (in_GG q2) hown hSx.1 hP C hw (classes_at q2) k q3 (hts _ q1) (fun _ z => z) (v := fval X.2.2 σ C k f) (by unfold fvs; rw [List.getElem?_mapIdx, q4]; rfl) hdg ?_
      have h2 := hK _ _ _ _ h H locs la hP hS hl
      rw [List.map_cons, cv_fav] at h2
      exact h2
    · exact h.elim
  | putfield n =>
    obtain ⟨rfl, h⟩ := h
    split at h
    · rename_i C k hf
      replace h := pI_of h
      obtain ⟨x, t, rfl, h⟩ := h
      replace h := pR_of h
      obtain ⟨id, t, rfl, h⟩ := h
      obtain ⟨rfl, h⟩ := h
      obtain ⟨q1, q2, q3, q4, q5, q6, q7, q8⟩ := fOK_all _ (lk_mem _ _ _ _ hf)
      have q2 : C < 7 := q2
      have q4 : (FK C)[k]? = some 0 := q4
      have q5 := q5 (show 0 < 3 by decide)
      have hw := mkW_at X σ (id := C) (by omega)
      rw [ent_0 X σ q2] at hw
      refine va_put (own := RN o) (C := RN C) (T := TT C) (N := NN C) hx hb hts (in_GG q2) (tyN C) (tyN_ok q2) (nmN q2) hown hSx.1 hP (mkW_D σ hSx.2.1) hS C hw (classes_at q2) k q3 (hts _ q1) (fun _ z => z) q5 (v := fval X.2.2 (fun _ _ => x) C k 0) (q6 rfl) rfl rfl (by unfold fvs; rw [List.length_mapIdx]; exact (List.getElem?_eq_some_iff.mp q4).1) hdg (fun H1 locs1 hP1 _ hS1 => ?_)
      rw [fvs_up X.2.2 σ q4 (show 0 < 3 by decide), mkW_set X (τ := up σ C k x) (by omega) (ent_0 X _ q2) (fun j _ hj k2 => up_ne (by omega) k2)] at hP1
      exact hK _ _ _ _ h H1 locs1 la hP1 hS1 hl
    · rename_i C k hf
      replace h := pL_of h
      obtain ⟨x, t, rfl, h⟩ := h
      replace h := pR_of h
      obtain ⟨id, t, rfl, h⟩ := h
      obtain ⟨rfl, h⟩ := h
      obtain ⟨q1, q2, q3, q4, q5, q6, q7, q8⟩ := fOK_all _ (lk_mem _ _ _ _ hf)
      have q2 : C < 7 := q2
      have q4 : (FK C)[k]? = some 1 := q4
      have q5 := q5 (show 1 < 3 by decide)
      have hw := mkW_at X σ (id := C) (by omega)
      rw [ent_0 X σ q2] at hw
      refine va_put (own := RN o) (C := RN C) (T := TT C) (N := NN C) hx hb hts (in_GG q2) (tyN C) (tyN_ok q2) (nmN q2) hown hSx.1 hP (mkW_D σ hSx.2.1) hS C hw (classes_at q2) k q3 (hts _ q1) (fun _ z => z) q5 (v := fval X.2.2 (fun _ _ => x) C k 1) (q7 rfl) rfl rfl (by unfold fvs; rw [List.length_mapIdx]; exact (List.getElem?_eq_some_iff.mp q4).1) hdg (fun H1 locs1 hP1 _ hS1 => ?_)
      rw [fvs_up X.2.2 σ q4 (show 1 < 3 by decide), mkW_set X (τ := up σ C k x) (by omega) (ent_0 X _ q2) (fun j _ hj k2 => up_ne (by omega) k2)] at hP1
      exact hK _ _ _ _ h H1 locs1 la hP1 hS1 hl
    · rename_i C k hf
      replace h := pI_of h
      obtain ⟨x, t, rfl, h⟩ := h
      replace h := pR_of h
      obtain ⟨id, t, rfl, h⟩ := h
      obtain ⟨rfl, hz, h⟩ := h
      obtain ⟨q1, q2, q3, q4, q5, q6, q7, q8⟩ := fOK_all _ (lk_mem _ _ _ _ hf)
      have q2 : C < 7 := q2
      have q4 : (FK C)[k]? = some 2 := q4
      have q5 := q5 (show 2 < 3 by decide)
      have hw := mkW_at X σ (id := C) (by omega)
      rw [ent_0 X σ q2] at hw
      refine va_put (own := RN o) (C := RN C) (T := TT C) (N := NN C) hx hb hts (in_GG q2) (tyN C) (tyN_ok q2) (nmN q2) hown hSx.1 hP (mkW_D σ hSx.2.1) hS C hw (classes_at q2) k q3 (hts _ q1) (fun _ z => z) q5 (v := fval X.2.2 (fun _ _ => x) C k 2) (q8 rfl) (nb_nar hz) (nb_fit hz) (by unfold fvs; rw [List.length_mapIdx]; exact (List.getElem?_eq_some_iff.mp q4).1) hdg (fun H1 locs1 hP1 _ hS1 => ?_)
      rw [fvs_up X.2.2 σ q4 (show 2 < 3 by decide), mkW_set X (τ := up σ C k x) (by omega) (ent_0 X _ q2) (fun j _ hj k2 => up_ne (by omega) k2)] at hP1
      exact hK _ _ _ _ h H1 locs1 la hP1 hS1 hl
    · exact h.elim
  | getstatic n =>
    obtain ⟨rfl, h1, h⟩ := h
    have h2 := hK _ _ _ _ h H locs la hP hS hl
    rcases h1 with ⟨rfl, rfl⟩ | ⟨rfl, rfl⟩
    · exact va_gets (own := "ChordFolds") hx hb hSx.2.2.1 hS hown (hts _ fl_fd5) (fun _ z => z) hdg h2
    · exact va_getsN (own := "ChordFolds$Drawing") hx hb hSx.2.2.1 hS hown (va_Nw.use rfl hSx.2.2.2.2) (fun _ z => z) hdg h2
  | iaload =>
    obtain ⟨rfl, h⟩ := h
    replace h := pI_of h
    obtain ⟨i, t, rfl, h⟩ := h
    replace h := pR_of h
    obtain ⟨id, t, rfl, h⟩ := h
    obtain ⟨h1, h2, h3, h⟩ := h
    obtain ⟨a, rfl, ha, hk, hln, -⟩ := ktag_at h1 (by decide)
    rw [hln] at h3
    have hl2 := kd_len a
    have hw := mkW_at X σ ha
    rw [ent_1 X σ hk] at hw
    refine va_iald (a := X.2.2 a) (i := Int32.ofInt i) hx hb hSx.1 hP a 0 hw rfl (ofI_in h2 h3 (by omega)) hdg ?_
    have h5 := hK _ _ _ _ h H locs la hP hS hl
    rw [ofI_cl h2 (by omega), Int.toNat_of_nonneg h2]
    exact h5
  | baload =>
    obtain ⟨rfl, h⟩ := h
    replace h := pI_of h
    obtain ⟨i, t, rfl, h⟩ := h
    replace h := pR_of h
    obtain ⟨id, t, rfl, h⟩ := h
    obtain ⟨h1, h2, h3, h⟩ := h
    obtain ⟨a, rfl, ha, hk, hln, -⟩ := ktag_at h1 (by decide)
    rw [hln] at h3
    have hl2 := kd_len a
    have hw := mkW_at X σ ha
    rw [ent_3 X σ hk] at hw
    refine va_zald (a := X.2.2 a) (i := Int32.ofInt i) hx hb hSx.1 hP a 2 hw rfl (ofI_in h2 h3 (by omega)) hdg ?_
    have h5 := hK _ _ _ _ h H locs la hP hS hl
    rw [ofI_cl h2 (by omega), Int.toNat_of_nonneg h2]
    exact h5
  | laload =>
    obtain ⟨rfl, h⟩ := h
    replace h := pI_of h
    obtain ⟨i, t, rfl, h⟩ := h
    replace h := pR_of h
    obtain ⟨id, t, rfl, h⟩ := h
    obtain ⟨h1, h2, h3, h⟩ := h
    by_cases e : id = 210
    · subst e
      have h3 : i < 13 := h3
      have h5 := hK _ _ _ _ h H locs la hP hS hl
      refine va_tl (t := X.2.2 210) (N := 13) (i := Int32.ofInt i) hx hb hSx.2.2.2.1 hS (ofI_in h2 h3 (by omega)) (v := .long (Int64.ofInt (fdv i))) ?_ hdg h5
      rw [ofI_cl h2 (by omega), Int.toNat_of_nonneg h2]
    · unfold ltag at h1
      unfold llen at h3
      unfold lval at h
      rw [if_neg e] at h1 h3 h
      obtain ⟨a, rfl, ha, hk, hln, -⟩ := ktag_at h1 (by decide)
      rw [hln] at h3
      have hl2 := kd_len a
      have hw := mkW_at X σ ha
      rw [ent_2 X σ hk] at hw
      refine va_lald (a := X.2.2 a) (i := Int32.ofInt i) hx hb hSx.1 hP a 1 hw rfl (ofI_in h2 h3 (by omega)) hdg ?_
      have h5 := hK _ _ _ _ h H locs la hP hS hl
      rw [ofI_cl h2 (by omega), Int.toNat_of_nonneg h2]
      exact h5
  | aaload =>
    obtain ⟨rfl, h⟩ := h
    replace h := pI_of h
    obtain ⟨i, t, rfl, h⟩ := h
    replace h := pR_of h
    obtain ⟨id, t, rfl, h⟩ := h
    obtain ⟨h1, h2, h3, h⟩ := h
    rcases h1 with h1 | h1
    · obtain ⟨a, rfl, ha, hk, hln, hbs⟩ := ktag_at h1 (by decide)
      rw [hln] at h3
      have hl2 := kd_len a
      have hw := mkW_at X σ ha
      rw [ent_4 X σ hk] at hw
      have hh := hP a _ hw
      refine W.aald (a := X.2.2 a) (j := Int32.ofInt i) (v := .ref (X.2.2 ((kd a).2.2 + i.toNat))) (ty := .array .int) hx hb hh ((hSx.1.2 3 _ rfl).1 _ _) rfl (fun q => by cases q) ?_ ?_ rfl rfl hdg ?_
      · show ¬ (_ ∨ (arrV _ _ _).slots.size ≤ _)
        rw [arrV_size]
        exact (ofI_in h2 h3 (by omega) : vp_in (Int32.ofInt i) (kd a).2.1)
      · show (arrV _ _ _).slots[_]? = _
        rw [ofI_cl h2 (by omega), arrV_read _ _ (show i.toNat < (kd a).2.1 by omega)]
        show some (va_rf (if i.toNat < (kd a).2.1 then some (X.2.2 ((kd a).2.2 + i.toNat)) else none)) = _
        rw [if_pos (by omega)]
        rfl
      · have h5 := hK _ _ _ _ h H locs la hP hS hl
        rw [hbs] at h5
        have e2 : ((((kd a).2.2 : Nat) : Int) + i).toNat = (kd a).2.2 + i.toNat := by omega
        rw [List.map_cons, cv, e2] at h5
        exact h5
    · obtain ⟨a, rfl, ha, hk, hln, hbs⟩ := ktag_at h1 (by decide)
      rw [hln] at h3
      have hl2 := kd_len a
      have hw := mkW_at X σ ha
      rw [ent_5 X σ hk] at hw
      have hh := hP a _ hw
      refine W.aald (a := X.2.2 a) (j := Int32.ofInt i) (v := .ref (X.2.2 ((kd a).2.2 + i.toNat))) (ty := .array .long) hx hb hh ((hSx.1.2 4 _ rfl).1 _ _) rfl (fun q => by cases q) ?_ ?_ rfl rfl hdg ?_
      · show ¬ (_ ∨ (arrV _ _ _).slots.size ≤ _)
        rw [arrV_size]
        exact (ofI_in h2 h3 (by omega) : vp_in (Int32.ofInt i) (kd a).2.1)
      · show (arrV _ _ _).slots[_]? = _
        rw [ofI_cl h2 (by omega), arrV_read _ _ (show i.toNat < (kd a).2.1 by omega)]
        show some (va_rf (if i.toNat < (kd a).2.1 then some (X.2.2 ((kd a).2.2 + i.toNat)) else none)) = _
        rw [if_pos (by omega)]
        rfl
      · have h5 := hK _ _ _ _ h H locs la hP hS hl
        rw [hbs] at h5
        have e2 : ((((kd a).2.2 : Nat) : Int) + i).toNat = (kd a).2.2 + i.toNat := by omega
        rw [List.map_cons, cv, e2] at h5
        exact h5
  | iastore =>
    obtain ⟨rfl, h⟩ := h
    replace h := pI_of h
    obtain ⟨x, t, rfl, h⟩ := h
    replace h := pI_of h
    obtain ⟨i, t, rfl, h⟩ := h
    replace h := pR_of h
    obtain ⟨id, t, rfl, h⟩ := h
    obtain ⟨h1, h2, h3, h⟩ := h
    obtain ⟨a, rfl, ha, hk, hln, -⟩ := ktag_at h1 (by decide)
    rw [hln] at h3
    have hl2 := kd_len a
    have hw := mkW_at X σ ha
    rw [ent_1 X σ hk] at hw
    refine va_iast (a := X.2.2 a) (i := Int32.ofInt i) (x := Int32.ofInt x) hx hb hSx.1 hP (mkW_D σ hSx.2.1) hS a 0 hw rfl (ofI_in h2 h3 (by omega)) hdg (fun H1 locs1 hP1 _ hS1 => ?_)
    rw [upd_ofI σ a h2 (by omega) x, mkW_set X (τ := up σ a i x) ha (ent_1 X _ hk) (fun j _ hj k2 => up_ne (by omega) k2)] at hP1
    exact hK _ _ _ _ h H1 locs1 la hP1 hS1 hl
  | bastore =>
    obtain ⟨rfl, h⟩ := h
    replace h := pI_of h
    obtain ⟨x, t, rfl, h⟩ := h
    replace h := pI_of h
    obtain ⟨i, t, rfl, h⟩ := h
    replace h := pR_of h
    obtain ⟨id, t, rfl, h⟩ := h
    obtain ⟨h1, h2, h3, hz, h⟩ := h
    obtain ⟨a, rfl, ha, hk, hln, -⟩ := ktag_at h1 (by decide)
    rw [hln] at h3
    have hl2 := kd_len a
    have hw := mkW_at X σ ha
    rw [ent_3 X σ hk] at hw
    refine va_zast (a := X.2.2 a) (i := Int32.ofInt i) (x := Int32.ofInt x) hx hb hSx.1 hP (mkW_D σ hSx.2.1) hS a 2 hw rfl (ofI_in h2 h3 (by omega)) hdg (fun H1 locs1 hP1 _ hS1 => ?_)
    have hn : vp_nar .boolean (Int32.ofInt x) = Int32.ofInt x := by rcases hz with rfl | rfl <;> rfl
    rw [hn] at hP1
    rw [upd_ofI σ a h2 (by omega) x, mkW_set X (τ := up σ a i x) ha (ent_3 X _ hk) (fun j _ hj k2 => up_ne (by omega) k2)] at hP1
    exact hK _ _ _ _ h H1 locs1 la hP1 hS1 hl
  | lastore =>
    obtain ⟨rfl, h⟩ := h
    replace h := pL_of h
    obtain ⟨x, t, rfl, h⟩ := h
    replace h := pI_of h
    obtain ⟨i, t, rfl, h⟩ := h
    replace h := pR_of h
    obtain ⟨id, t, rfl, h⟩ := h
    obtain ⟨h1, h2, h3, h⟩ := h
    obtain ⟨a, rfl, ha, hk, hln, -⟩ := ktag_at h1 (by decide)
    rw [hln] at h3
    have hl2 := kd_len a
    have hw := mkW_at X σ ha
    rw [ent_2 X σ hk] at hw
    refine va_last (a := X.2.2 a) (i := Int32.ofInt i) (x := Int64.ofInt x) hx hb hSx.1 hP (mkW_D σ hSx.2.1) hS a 1 hw rfl (ofI_in h2 h3 (by omega)) hdg (fun H1 locs1 hP1 _ hS1 => ?_)
    rw [upd_ofL σ a h2 (by omega) x, mkW_set X (τ := up σ a i x) ha (ent_2 X _ hk) (fun j _ hj k2 => up_ne (by omega) k2)] at hP1
    exact hK _ _ _ _ h H1 locs1 la hP1 hS1 hl
  | arraylength =>
    obtain ⟨rfl, h⟩ := h
    replace h := pR_of h
    obtain ⟨id, t, rfl, h⟩ := h
    obtain ⟨h1, h⟩ := h
    obtain ⟨a, rfl, ha, hk, hln, -⟩ := ktag_at h1 (by decide)
    have hw := mkW_at X σ ha
    rw [ent_1 X σ hk] at hw
    rw [hln] at h
    exact va_alen (a := X.2.2 a) hx hb hSx.1 hP a 0 hw rfl (v := Int32.ofInt ((kd a).2.1 : Nat)) rfl hdg (hK _ _ _ _ h H locs la hP hS hl)
  | invokevirtual n =>
    obtain ⟨rfl, h⟩ := h
    unfold calM at h
    split at h
    · rename_i mi k n1 rk C hm
      obtain ⟨rfl, h1, h2, h3, h⟩ := h
      obtain ⟨r, τ, g1, g2⟩ := callK_of h
      exact callV_sound ⟨hx, hb, hml, hown, hts, hSx⟩ hR hC hdg hm h1 h2 (rtk_st (n1 + 1) st) h3 g1 (hK _ _ _ _ g2) H locs la hP hS hl
    · exact h.elim
  | invokestatic n =>
    obtain ⟨rfl, h⟩ := h
    split at h
    · rename_i hbt
      replace h := pI_of h
      obtain ⟨y, t, rfl, h⟩ := h
      replace h := pI_of h
      obtain ⟨x, t, rfl, h⟩ := h
      obtain ⟨h1, h2, h3, h⟩ := h
      have hbo := bOK_all _ (lk_mem _ _ _ _ hbt)
      refine va_mmax (x := Int32.ofInt x) (y := Int32.ofInt y) hx hb (hml.trans hl.1.symm) hown (hts _ hbo) (hts _ bw_max.1) (hts _ bw_math) (hts _ bw_max.2) (by omega) (by rw [cats_eq]; omega) hC.1 hC.2 hdg ?_
      have h5 := hK _ _ _ _ h H locs la hP hS hl
      have e2 : (if Int32.ofInt x < Int32.ofInt y then Int32.ofInt y else Int32.ofInt x) = Int32.ofInt (if x < y then y else x) := by
        simp only [ofI_lt h1 h2]
        split <;> rfl
      rw [e2]
      exact h5
    · rename_i hbt
      replace h := pI_of h
      obtain ⟨y, t, rfl, h⟩ := h
      replace h := pI_of h
      obtain ⟨x, t, rfl, h⟩ := h
      obtain ⟨h1, h2, h3, h⟩ := h
      have hbo := bOK_all _ (lk_mem _ _ _ _ hbt)
      refine va_mmin (x := Int32.ofInt x) (y := Int32.ofInt y) hx hb (hml.trans hl.1.symm) hown (hts _ hbo) (hts _ bw_min.1) (hts _ bw_math) (hts _ bw_min.2) (by omega) (by rw [cats_eq]; omega) hC.1 hC.2 hdg ?_
      have h5 := hK _ _ _ _ h H locs la hP hS hl
      have e2 : (if Int32.ofInt y < Int32.ofInt x then Int32.ofInt y else Int32.ofInt x) = Int32.ofInt (if y < x then y else x) := by
        simp only [ofI_lt h2 h1]
        split <;> rfl
      rw [e2]
      exact h5
    · rename_i b hb0 hb1 hbt
      replace h := pI_of h
      obtain ⟨n0, t, rfl, h⟩ := h
      replace h := pI_of h
      obtain ⟨dp, t, rfl, h⟩ := h
      replace h := pR_of h
      obtain ⟨dst, t, rfl, h⟩ := h
      replace h := pI_of h
      obtain ⟨sp, t, rfl, h⟩ := h
      replace h := pR_of h
      obtain ⟨src, t, rfl, h⟩ := h
      obtain ⟨h1, h2, h3, h4, h5, h6, h7, h⟩ := h
      have hbo := bOK_all _ (lk_mem _ _ _ _ hbt)
      rw [show bName b = arraycopyName from by match b, hb0, hb1 with
        | 0, hb0, _ => exact absurd rfl hb0
        | 1, _, hb1 => exact absurd rfl hb1
        | j + 2, _, _ => rfl] at hbo
      rcases h1 with h1 | h1
      ·
        obtain ⟨a, rfl, ha, hka, hla, -⟩ := ktag_at h1.1 (by decide)
        obtain ⟨b, rfl, hb2, hkb, hlb, -⟩ := ktag_at h1.2 (by decide)
        rw [hla] at h5
        rw [hlb] at h6
        have hl2 := kd_len a
        have hl3 := kd_len b
        have hwa := mkW_at X σ ha
        rw [ent_1 X σ hka] at hwa
        have hwb := mkW_at X σ hb2
        rw [ent_1 X σ hkb] at hwb
        refine va_copyi (a := X.2.2 b) (a0 := X.2.2 a) (sp := Int32.ofInt sp) (dp := Int32.ofInt dp) (n := Int32.ofInt n0) hx hb (hml.trans hl.1.symm) hown (hts _ hbo) (hts _ bw_copy.1) (hts _ bw_copy.2.1) (hts _ bw_copy.2.2) hSx.1 hP (mkW_D σ hSx.2.1) hS a b 0 0 hwa hwb rfl rfl rfl (by rw [Int32.lt_iff_toInt_lt, tI (by omega)]; exact Int.not_lt.mpr h2) (by rw [Int32.lt_iff_toInt_lt, tI (by omega)]; exact Int.not_lt.mpr h3) (by rw [Int32.lt_iff_toInt_lt, tI (by omega)]; exact Int.not_lt.mpr h4) (by rw [ofI_cl h2 (by omega), ofI_cl h4 (by omega)]; omega) (by rw [ofI_cl h3 (by omega), ofI_cl h4 (by omega)]; omega) (fun _ _ => rfl) (by omega) (by rw [cats_eq]; show _ + 18 ≤ _; omega) hdg (fun H1 locs1 hP1 _ hS1 => ?_)
        rw [ofI_cl h2 (by omega), ofI_cl h3 (by omega), ofI_cl h4 (by omega), mkW_set X (τ := cpy σ a b sp dp n0) hb2 (cpy_ent1 X σ hka hkb h2 h3 h4) (fun j _ hj k2 => cpy_ne (by omega) k2)] at hP1
        exact hK _ _ _ _ h H1 locs1 la hP1 hS1 hl
      ·
        obtain ⟨a, rfl, ha, hka, hla, -⟩ := ktag_at h1.1 (by decide)
        obtain ⟨b, rfl, hb2, hkb, hlb, -⟩ := ktag_at h1.2 (by decide)
        rw [hla] at h5
        rw [hlb] at h6
        have hl2 := kd_len a
        have hl3 := kd_len b
        have hwa := mkW_at X σ ha
        rw [ent_2 X σ hka] at hwa
        have hwb := mkW_at X σ hb2
        rw [ent_2 X σ hkb] at hwb
        refine va_copyl (a := X.2.2 b) (a0 := X.2.2 a) (sp := Int32.ofInt sp) (dp := Int32.ofInt dp) (n := Int32.ofInt n0) hx hb (hml.trans hl.1.symm) hown (hts _ hbo) (hts _ bw_copy.1) (hts _ bw_copy.2.1) (hts _ bw_copy.2.2) hSx.1 hP (mkW_D σ hSx.2.1) hS a b 1 1 hwa hwb rfl rfl rfl (by rw [Int32.lt_iff_toInt_lt, tI (by omega)]; exact Int.not_lt.mpr h2) (by rw [Int32.lt_iff_toInt_lt, tI (by omega)]; exact Int.not_lt.mpr h3) (by rw [Int32.lt_iff_toInt_lt, tI (by omega)]; exact Int.not_lt.mpr h4) (by rw [ofI_cl h2 (by omega), ofI_cl h4 (by omega)]; omega) (by rw [ofI_cl h3 (by omega), ofI_cl h4 (by omega)]; omega) (fun _ _ => rfl) (by omega) (by rw [cats_eq]; show _ + 18 ≤ _; omega) hdg (fun H1 locs1 hP1 _ hS1 => ?_)
        rw [ofI_cl h2 (by omega), ofI_cl h3 (by omega), ofI_cl h4 (by omega), mkW_set X (τ := cpy σ a b sp dp n0) hb2 (cpy_ent2 X σ hka hkb h2 h3 h4) (fun j _ hj k2 => cpy_ne (by omega) k2)] at hP1
        exact hK _ _ _ _ h H1 locs1 la hP1 hS1 hl
    · unfold calM at h
      split at h
      · rename_i mi k n1 rk C hm
        obtain ⟨rfl, h1, h3, h⟩ := h
        obtain ⟨r, τ, g1, g2⟩ := callK_of h
        exact callS_sound ⟨hx, hb, hml, hown, hts, hSx⟩ hR hC hdg hm h1 (rtk_st n1 st) h3 g1 (hK _ _ _ _ g2) H locs la hP hS hl
      · exact h.elim
  | ireturn =>
    obtain ⟨rfl, h⟩ := h
    match st, h with
    | [.inl x], h => exact hRet _ _ _ H locs la h.2 hP hS hl ⟨h.1, hdg⟩
  | lreturn =>
    obtain ⟨rfl, h1, h⟩ := h
    match st, h with
    | [.inr (.inl x)], h => exact hRet _ _ _ H locs la h hP hS hl ⟨h1, hdg⟩
  | return_ =>
    obtain ⟨rfl, h1, rfl, h⟩ := h
    exact hRet _ _ _ H locs la h hP hS hl ⟨h1, hdg⟩
  | _ => exact h.elim
end SND

/-! the symbolic step once more, as a program that hands on what it knows; a method by its symbolic run -/
def chk (b : Bool) (x : Prop) : Prop := match b with
  | true => x
  | false => False
theorem chk_of {b : Bool} {x : Prop} (h : chk b x) : b = true ∧ x := by
  cases b
  · exact h.elim
  · exact ⟨rfl, h⟩
def popN : Nat → List AV → List AV → (List AV → List AV → Prop) → Prop
  | 0, st, acc, k => k acc st
  | n + 1, a :: t, acc, k => popN n t (a :: acc) k
  | _ + 1, [], _, _ => False
theorem popN_of : ∀ (n : Nat) (st acc : List AV) (k : List AV → List AV → Prop), popN n st acc k → (rtk n st acc).length = n + acc.length ∧ k (rtk n st acc) (dr n st)
  | 0, st, acc, k, h => ⟨by simp [rtk], h⟩
  | n + 1, a :: t, acc, k, h => by
    have := popN_of n t (a :: acc) k h
    refine ⟨?_, this.2⟩
    have h1 := this.1
    simp only [List.length_cons] at h1
    show (rtk n t (a :: acc)).length = _
    omega
  | n + 1, [], _, _, h => h.elim
def kl (a : Option AV) (f : Option AV → Prop) : Prop := match a with
  | some (.inr (.inl _)) => f none
  | a => f a
def put0 : Nat → AV → Lv → (Lv → Prop) → Prop
  | 0, v, _ :: t, k => k (some v :: t)
  | n + 1, v, a :: t, k => put0 n v t (fun t' => k (a :: t'))
  | _, _, [], _ => False
def putk : Nat → AV → Lv → (Lv → Prop) → Prop
  | 0, v, a :: _ :: t, k => kl a (fun a' => k (a' :: some v :: t))
  | n + 1, v, a :: t, k => putk n v t (fun t' => k (a :: t'))
  | _, _, _, _ => False
def put1 : Nat → AV → Lv → (Lv → Prop) → Prop
  | 0, v, ls, k => put0 0 v ls k
  | n + 1, v, ls, k => putk n v ls k
def putl : Nat → AV → Lv → (Lv → Prop) → Prop
  | 0, v, a :: _ :: _ :: t, k => kl a (fun a' => k (a' :: some v :: none :: t))
  | n + 1, v, a :: t, k => putl n v t (fun t' => k (a :: t'))
  | _, _, _, _ => False
def put2 : Nat → AV → Lv → (Lv → Prop) → Prop
  | 0, v, _ :: _ :: t, k => k (some v :: none :: t)
  | 0, _, _, _ => False
  | n + 1, v, ls, k => putl n v ls k
theorem kl_of {a : Option AV} {f : Option AV → Prop} (h : kl a f) : f (if isL a = true then none else a) := by
  rcases a with - | z | z | z <;> exact h
theorem lkill_1 (a : Option AV) (t : Lv) : lkill (a :: t) (0 + 1) = (if isL a = true then none else a) :: t := by
  show (if isL a = true then none :: t else a :: t) = _
  split <;> rfl
theorem lkill_2 (a : Option AV) (t : Lv) (n : Nat) : lkill (a :: t) (n + 1 + 1) = a :: lkill t (n + 1) := by
  show (if isL (lget t n) = true then a :: lput t n none else a :: t) = a :: (if isL (lget t n) = true then lput t n none else t)
  split <;> rfl
theorem putk_of : ∀ (n : Nat) (v : AV) (ls : Lv) (k : Lv → Prop), putk n v ls k → k (lset1 ls (n + 1) v)
  | 0, v, a :: b :: t, k, h => by
    have h := kl_of h
    unfold lset1
    rw [lkill_1]
    exact h
  | n + 1, v, a :: t, k, h => by
    have h := putk_of n v t _ h
    have e : lset1 (a :: t) (n + 1 + 1) v = a :: lset1 t (n + 1) v := by
      unfold lset1
      rw [lkill_2]
      rfl
    rw [e]
    exact h
theorem put1_of (n : Nat) (v : AV) (ls : Lv) (k : Lv → Prop) (h : put1 n v ls k) : k (lset1 ls n v) := by
  cases n with
  | zero =>
    match ls, h with
    | a :: t, h => exact h
  | succ n => exact putk_of n v ls k h
theorem putl_of : ∀ (n : Nat) (v : AV) (ls : Lv) (k : Lv → Prop), putl n v ls k → k (lset2 ls (n + 1) v)
  | 0, v, a :: b :: c :: t, k, h => by
    have h := kl_of h
    unfold lset2
    rw [lkill_1]
    exact h
  | n + 1, v, a :: t, k, h => by
    have h := putl_of n v t _ h
    have e : lset2 (a :: t) (n + 1 + 1) v = a :: lset2 t (n + 1) v := by
      unfold lset2
      rw [lkill_2]
      rfl
    rw [e]
    exact h
theorem put2_of (n : Nat) (v : AV) (ls : Lv) (k : Lv → Prop) (h : put2 n v ls k) : k (lset2 ls n v) := by
  cases n with
  | zero =>
    match ls, h with
    | a :: b :: t, h => exact h
  | succ n => exact putl_of n v ls k h
def pC (st : List AV) (k : AV → List AV → Prop) : Prop := match st with
  | .inl x :: t => k (.inl x) t
  | .inr (.inr x) :: t => k (.inr (.inr x)) t
  | _ => False
theorem pC_of {st : List AV} {k : AV → List AV → Prop} (h : pC st k) : ∃ a t, st = a :: t ∧ catA a = 1 ∧ k a t := by
  match st, h with
  | .inl x :: t, h => exact ⟨_, t, rfl, rfl, h⟩
  | .inr (.inr x) :: t, h => exact ⟨_, t, rfl, rfl, h⟩
def pE (st : List AV) (x : Prop) : Prop := match st with
  | [] => x
  | _ => False
theorem pE_of {st : List AV} {x : Prop} (h : pE st x) : st = [] ∧ x := by
  match st, h with
  | [], h => exact ⟨rfl, h⟩
def oF (q : Option (Nat × (Nat × Nat))) (k : Nat → Nat → Nat → Prop) : Prop := match q with
  | some (C, (s, f)) => k C s f
  | none => False
theorem oF_of {q : Option (Nat × (Nat × Nat))} {k : Nat → Nat → Nat → Prop} (h : oF q k) : ∃ C s f, q = some (C, (s, f)) ∧ k C s f := by
  match q, h with
  | some (C, (s, f)), h => exact ⟨C, s, f, rfl, h⟩
def oC (q : Option Int) (k : Int → Prop) : Prop := match q with
  | some v => k v
  | none => False
def clV (d : Nat) (q : Option (MI × (Nat × (Nat × (Nat × Nat))))) (kind : Nat) (st : List AV) (σ : Sg) (K : List AV → Sg → Prop) : Prop := match q with
  | some (mi, (0, (n, (rk, C)))) => chk (Nat.beq 0 kind) (popN (n + 1) st [] fun as rest => as.head? = some (aR C) ∧ cats rest ≤ 8 ∧ callK d mi as σ rk K rest)
  | some (mi, (k + 1, (n, (rk, _)))) => chk (Nat.beq (k + 1) kind && Nat.beq k 0) (popN n st [] fun as rest => cats rest ≤ 8 ∧ callK d mi as σ rk K rest)
  | none => False
theorem clV_of {o d n kind : Nat} {st : List AV} {σ : Sg} {K : List AV → Sg → Prop} (h : clV d (mt o n) kind st σ K) : calM o d n kind st σ K := by
  unfold calM
  unfold clV at h
  split at h
  · rename_i mi n1 rk C hm
    obtain ⟨h1, h⟩ := chk_of h
    have e := Nat.eq_of_beq_eq_true h1
    subst e
    rw [hm]
    obtain ⟨g1, g2, g3, g4⟩ := popN_of _ _ _ _ h
    exact ⟨rfl, by simpa using g1, g2, g3, g4⟩
  · rename_i mi k n1 rk C hm
    obtain ⟨h1, h⟩ := chk_of h
    rw [Bool.and_eq_true] at h1
    have e := Nat.eq_of_beq_eq_true h1.1
    have e2 := Nat.eq_of_beq_eq_true h1.2
    subst e2
    subst e
    rw [hm]
    obtain ⟨g1, g2, g3⟩ := popN_of _ _ _ _ h
    exact ⟨rfl, by simpa using g1, g2, g3⟩
  · exact h.elim
def ey (o d nL : Nat) (rt : Option FieldType) (Fi : Option AV → Sg → Prop) (K : Nat → Lv → List AV → Sg → Prop) (pc len : Nat) (ls : Lv) (st : List AV) (σ : Sg) (i : Instr) : Prop := match i with
  | .iconst n => chk (Nat.beq len 1) (K (pc + 1) ls (aI n :: st) σ)
  | .bipush n => chk (Nat.beq len 2 && (decide (-128 ≤ n) && decide (n < 128))) (K (pc + 2) ls (aI n :: st) σ)
  | .sipush n => chk (Nat.beq len 3 && (decide (-32768 ≤ n) && decide (n < 32768))) (K (pc + 3) ls (aI n :: st) σ)
  | .lconst n => chk (Nat.beq len 1) (K (pc + 1) ls (aL ((n : Nat) : Int) :: st) σ)
  | .ldc n => chk (Nat.beq len 2) (oC (cit o n) fun v => K (pc + 2) ls (aI v :: st) σ)
  | .ldc2_w n => chk (Nat.beq len 3) (oC (clt o n) fun v => K (pc + 3) ls (aL v :: st) σ)
  | .iload_n k => chk (Nat.beq len 1) (gI ls k fun x => K (pc + 1) ls (aI x :: st) σ)
  | .iload k => chk (Nat.beq len 2) (gI ls k fun x => K (pc + 2) ls (aI x :: st) σ)
  | .lload_n k => chk (Nat.beq len 1) (gL ls k fun x => K (pc + 1) ls (aL x :: st) σ)
  | .lload k => chk (Nat.beq len 2) (gL ls k fun x => K (pc + 2) ls (aL x :: st) σ)
  | .aload_n k => chk (Nat.beq len 1) (gR ls k fun x => K (pc + 1) ls (aR x :: st) σ)
  | .aload k => chk (Nat.beq len 2) (gR ls k fun x => K (pc + 2) ls (aR x :: st) σ)
  | .istore_n k => chk (Nat.beq len 1 && Nat.blt k nL) (pI st fun x st => put1 k (aI x) ls fun ls => K (pc + 1) ls st σ)
  | .istore k => chk (Nat.beq len 2 && Nat.blt k nL) (pI st fun x st => put1 k (aI x) ls fun ls => K (pc + 2) ls st σ)
  | .lstore_n k => chk (Nat.beq len 1 && Nat.blt (k + 1) nL) (pL st fun x st => put2 k (aL x) ls fun ls => K (pc + 1) ls st σ)
  | .lstore k => chk (Nat.beq len 2 && Nat.blt (k + 1) nL) (pL st fun x st => put2 k (aL x) ls fun ls => K (pc + 2) ls st σ)
  | .astore_n k => chk (Nat.beq len 1 && Nat.blt k nL) (pR st fun x st => put1 k (aR x) ls fun ls => K (pc + 1) ls st σ)
  | .astore k => chk (Nat.beq len 2 && Nat.blt k nL) (pR st fun x st => put1 k (aR x) ls fun ls => K (pc + 2) ls st σ)
  | .iinc k n => chk (Nat.beq len 3 && Nat.blt k nL) (gI ls k fun x => put1 k (aI (x + n)) ls fun ls => K (pc + 3) ls st σ)
  | .iadd => chk (Nat.beq len 1) (pI st fun y st => pI st fun x st => K (pc + 1) ls (aI (x + y) :: st) σ)
  | .isub => chk (Nat.beq len 1) (pI st fun y st => pI st fun x st => K (pc + 1) ls (aI (x - y) :: st) σ)
  | .imul => chk (Nat.beq len 1) (pI st fun y st => pI st fun x st => K (pc + 1) ls (aI (x * y) :: st) σ)
  | .idiv => chk (Nat.beq len 1) (pI st fun y st => pI st fun x st => inR x ∧ inR y ∧ y ≠ 0 ∧ K (pc + 1) ls (aI (x.tdiv y) :: st) σ)
  | .irem => chk (Nat.beq len 1) (pI st fun y st => pI st fun x st => inR x ∧ inR y ∧ y ≠ 0 ∧ K (pc + 1) ls (aI (x.tmod y) :: st) σ)
  | .iand => chk (Nat.beq len 1) (pI st fun y st => pI st fun x st => K (pc + 1) ls (aI (iand32 x y) :: st) σ)
  | .ior => chk (Nat.beq len 1) (pI st fun y st => pI st fun x st => K (pc + 1) ls (aI (ior32 x y) :: st) σ)
  | .ishl => chk (Nat.beq len 1) (pI st fun y st => pI st fun x st => K (pc + 1) ls (aI (ishl32 x y) :: st) σ)
  | .ishr => chk (Nat.beq len 1) (pI st fun y st => pI st fun x st => K (pc + 1) ls (aI (ishr32 x y) :: st) σ)
  | .ladd => chk (Nat.beq len 1) (pL st fun y st => pL st fun x st => K (pc + 1) ls (aL (x + y) :: st) σ)
  | .lsub => chk (Nat.beq len 1) (pL st fun y st => pL st fun x st => K (pc + 1) ls (aL (x - y) :: st) σ)
  | .lmul => chk (Nat.beq len 1) (pL st fun y st => pL st fun x st => K (pc + 1) ls (aL (x * y) :: st) σ)
  | .ldiv => chk (Nat.beq len 1) (pL st fun y st => pL st fun x st => inL x ∧ inL y ∧ y ≠ 0 ∧ K (pc + 1) ls (aL (x.tdiv y) :: st) σ)
  | .lrem => chk (Nat.beq len 1) (pL st fun y st => pL st fun x st => inL x ∧ inL y ∧ y ≠ 0 ∧ K (pc + 1) ls (aL (x.tmod y) :: st) σ)
  | .land => chk (Nat.beq len 1) (pL st fun y st => pL st fun x st => K (pc + 1) ls (aL (land64 x y) :: st) σ)
  | .lor => chk (Nat.beq len 1) (pL st fun y st => pL st fun x st => K (pc + 1) ls (aL (lor64 x y) :: st) σ)
  | .lshl => chk (Nat.beq len 1) (pI st fun y st => pL st fun x st => K (pc + 1) ls (aL (lshl64 x y) :: st) σ)
  | .i2l => chk (Nat.beq len 1) (pI st fun x st => inR x ∧ K (pc + 1) ls (aL x :: st) σ)
  | .lcmp => chk (Nat.beq len 1) (pL st fun y st => pL st fun x st => (x = y ∨ (inL x ∧ inL y)) ∧ K (pc + 1) ls (aI (lcm x y) :: st) σ)
  | .dup => chk (Nat.beq len 1) (pC st fun a st => K (pc + 1) ls (a :: a :: st) σ)
  | .dup2 => chk (Nat.beq len 1) (pC st fun a st => pC st fun b st => K (pc + 1) ls (a :: b :: a :: b :: st) σ)
  | .pop => chk (Nat.beq len 1) (pC st fun _ st => K (pc + 1) ls st σ)
  | .ifCond c off => chk (Nat.beq len 3 && decide (0 ≤ (pc : Int) + off)) (pI st fun x st => inR x ∧ (match c with
    | .eq => ((x = 0 → K ((pc : Int) + off).toNat ls st σ) ∧ (¬ x = 0 → K (pc + 3) ls st σ))
    | .ne => ((¬ x = 0 → K ((pc : Int) + off).toNat ls st σ) ∧ (¬ ¬ x = 0 → K (pc + 3) ls st σ))
    | .lt => ((x < 0 → K ((pc : Int) + off).toNat ls st σ) ∧ (¬ x < 0 → K (pc + 3) ls st σ))
    | .ge => ((0 ≤ x → K ((pc : Int) + off).toNat ls st σ) ∧ (¬ 0 ≤ x → K (pc + 3) ls st σ))
    | .gt => ((0 < x → K ((pc : Int) + off).toNat ls st σ) ∧ (¬ 0 < x → K (pc + 3) ls st σ))
    | .le => ((x ≤ 0 → K ((pc : Int) + off).toNat ls st σ) ∧ (¬ x ≤ 0 → K (pc + 3) ls st σ))))
  | .if_icmp c off => chk (Nat.beq len 3 && decide (0 ≤ (pc : Int) + off)) (pI st fun y st => pI st fun x st => inR x ∧ inR y ∧ (match c with
    | .eq => ((x = y → K ((pc : Int) + off).toNat ls st σ) ∧ (¬ x = y → K (pc + 3) ls st σ))
    | .ne => ((¬ x = y → K ((pc : Int) + off).toNat ls st σ) ∧ (¬ ¬ x = y → K (pc + 3) ls st σ))
    | .lt => ((x < y → K ((pc : Int) + off).toNat ls st σ) ∧ (¬ x < y → K (pc + 3) ls st σ))
    | .ge => ((y ≤ x → K ((pc : Int) + off).toNat ls st σ) ∧ (¬ y ≤ x → K (pc + 3) ls st σ))
    | .gt => ((y < x → K ((pc : Int) + off).toNat ls st σ) ∧ (¬ y < x → K (pc + 3) ls st σ))
    | .le => ((x ≤ y → K ((pc : Int) + off).toNat ls st σ) ∧ (¬ x ≤ y → K (pc + 3) ls st σ))))
  | .goto off => chk (Nat.beq len 3 && decide (0 ≤ (pc : Int) + off)) (K ((pc : Int) + off).toNat ls st σ)
  | .tableswitch dflt lo hi offs => pI st fun x st => inR x ∧ ((x < lo ∨ hi < x) → jmp K pc dflt ls st σ) ∧ offs.toList.length = (hi - lo + 1).toNat ∧ tsw K pc ls st σ x lo offs.toList
  | .getfield n => chk (Nat.beq len 3) (pR st fun id st => oF (ft o n) fun C k f => id = C ∧ K (pc + 3) ls (fav σ C k f :: st) σ)
  | .putfield n => chk (Nat.beq len 3) (oF (ft o n) fun C k f => match f with
    | 0 => pI st fun x st => pR st fun id st => id = C ∧ K (pc + 3) ls st (up σ C k x)
    | 1 => pL st fun x st => pR st fun id st => id = C ∧ K (pc + 3) ls st (up σ C k x)
    | 2 => pI st fun x st => pR st fun id st => id = C ∧ (x = 0 ∨ x = 1) ∧ K (pc + 3) ls st (up σ C k x)
    | _ => False)
  | .getstatic n => chk (Nat.beq len 3 && ((Nat.beq o 5 && Nat.beq n 117) || (Nat.beq o 1 && Nat.beq n 99))) (K (pc + 3) ls (aR 210 :: st) σ)
  | .iaload => chk (Nat.beq len 1) (pI st fun i st => pR st fun id st => ktag id = 1 ∧ 0 ≤ i ∧ i < klen id ∧ K (pc + 1) ls (aI (σ id i) :: st) σ)
  | .baload => chk (Nat.beq len 1) (pI st fun i st => pR st fun id st => ktag id = 3 ∧ 0 ≤ i ∧ i < klen id ∧ K (pc + 1) ls (aI (σ id i) :: st) σ)
  | .laload => chk (Nat.beq len 1) (pI st fun i st => pR st fun id st => ltag id = 2 ∧ 0 ≤ i ∧ i < llen id ∧ K (pc + 1) ls (aL (lval σ id i) :: st) σ)
  | .aaload => chk (Nat.beq len 1) (pI st fun i st => pR st fun id st => (ktag id = 4 ∨ ktag id = 5) ∧ 0 ≤ i ∧ i < klen id ∧ K (pc + 1) ls (aR (kbas id + i) :: st) σ)
  | .iastore => chk (Nat.beq len 1) (pI st fun x st => pI st fun i st => pR st fun id st => ktag id = 1 ∧ 0 ≤ i ∧ i < klen id ∧ K (pc + 1) ls st (up σ id i x))
  | .bastore => chk (Nat.beq len 1) (pI st fun x st => pI st fun i st => pR st fun id st => ktag id = 3 ∧ 0 ≤ i ∧ i < klen id ∧ (x = 0 ∨ x = 1) ∧ K (pc + 1) ls st (up σ id i x))
  | .lastore => chk (Nat.beq len 1) (pL st fun x st => pI st fun i st => pR st fun id st => ktag id = 2 ∧ 0 ≤ i ∧ i < klen id ∧ K (pc + 1) ls st (up σ id i x))
  | .arraylength => chk (Nat.beq len 1) (pR st fun id st => ktag id = 1 ∧ K (pc + 1) ls (aI (klen id) :: st) σ)
  | .invokevirtual n => chk (Nat.beq len 3) (clV d (mt o n) 0 st σ fun st σ => K (pc + 3) ls st σ)
  | .invokestatic n => chk (Nat.beq len 3) (match bt o n with
    | some 0 => pI st fun y st => pI st fun x st => inR x ∧ inR y ∧ cats st ≤ 8 ∧ K (pc + 3) ls (aI (if x < y then y else x) :: st) σ
    | some 1 => pI st fun y st => pI st fun x st => inR x ∧ inR y ∧ cats st ≤ 8 ∧ K (pc + 3) ls (aI (if y < x then y else x) :: st) σ
    | some _ => pI st fun n st => pI st fun dp st => pR st fun dst st => pI st fun sp st => pR st fun src st => ((ktag src = 1 ∧ ktag dst = 1) ∨ (ktag src = 2 ∧ ktag dst = 2)) ∧ 0 ≤ sp ∧ 0 ≤ dp ∧ 0 ≤ n ∧ sp + n ≤ klen src ∧ dp + n ≤ klen dst ∧ cats st ≤ 8 ∧ K (pc + 3) ls st (cpy σ src dst sp dp n)
    | none => clV d (mt o n) 1 st σ fun st σ => K (pc + 3) ls st σ)
  | .ireturn => chk (Nat.beq len 1) (pI st fun x st => pE st (zOK rt x ∧ Fi (some (aI x)) σ))
  | .lreturn => chk (Nat.beq len 1) (pL st fun x st => pE st (rt = some .long ∧ Fi (some (aL x)) σ))
  | .return_ => chk (Nat.beq len 1) (pE st (rt = none ∧ Fi none σ))
  | _ => False
section EYX
variable {o d nL : Nat} {rt : Option FieldType} {Fi : Option AV → Sg → Prop} {K : Nat → Lv → List AV → Sg → Prop} {pc len : Nat} {ls : Lv} {st : List AV} {σ : Sg}
theorem beq_of {a b : Nat} (h : Nat.beq a b = true) : a = b := Nat.eq_of_beq_eq_true h
theorem blt_of {a b : Nat} (h : Nat.blt a b = true) : a < b := Nat.le_of_ble_eq_true h
theorem pI_mono {st : List AV} {k k2 : Int → List AV → Prop} (h : pI st k) (f : ∀ x t, k x t → k2 x t) : pI st k2 := by
  obtain ⟨x, t, rfl, h⟩ := pI_of h
  exact f x t h
theorem gI_mono {ls : Lv} {n : Nat} {k k2 : Int → Prop} (h : gI ls n k) (f : ∀ x, k x → k2 x) : gI ls n k2 := by
  obtain ⟨x, e, h⟩ := gI_of h
  unfold gI
  rw [e]
  exact f x h
theorem pL_mono {st : List AV} {k k2 : Int → List AV → Prop} (h : pL st k) (f : ∀ x t, k x t → k2 x t) : pL st k2 := by
  obtain ⟨x, t, rfl, h⟩ := pL_of h
  exact f x t h
theorem pR_mono {st : List AV} {k k2 : Int → List AV → Prop} (h : pR st k) (f : ∀ x t, k x t → k2 x t) : pR st k2 := by
  obtain ⟨x, t, rfl, h⟩ := pR_of h
  exact f x t h
theorem oC_of {q : Option Int} {k : Int → Prop} (h : oC q k) : ∃ v, q = some v ∧ k v := by
  match q, h with
  | some v, h => exact ⟨v, rfl, h⟩
theorem and2 {a b : Bool} (h : (a && b) = true) : a = true ∧ b = true := by
  rw [Bool.and_eq_true] at h
  exact h
set_option maxHeartbeats 4000000 in
theorem ey_ex {i : Instr} (h : ey o d nL rt Fi K pc len ls st σ i) : ex o d nL rt Fi K pc len ls st σ i := by
  cases i with
  | iconst n =>
    obtain ⟨h1, h⟩ := chk_of h
    exact ⟨beq_of h1, h⟩
  | lconst n =>
    obtain ⟨h1, h⟩ := chk_of h
    exact ⟨beq_of h1, h⟩
  | iload_n k =>
    obtain ⟨h1, h⟩ := chk_of h
    exact ⟨beq_of h1, h⟩
  | iload k =>
    obtain ⟨h1, h⟩ := chk_of h
    exact ⟨beq_of h1, h⟩
  | lload_n k =>
    obtain ⟨h1, h⟩ := chk_of h
    exact ⟨beq_of h1, h⟩
  | lload k =>
    obtain ⟨h1, h⟩ := chk_of h
    exact ⟨beq_of h1, h⟩
  | aload_n k =>
    obtain ⟨h1, h⟩ := chk_of h
    exact ⟨beq_of h1, h⟩
  | aload k =>
    obtain ⟨h1, h⟩ := chk_of h
    exact ⟨beq_of h1, h⟩
  | iadd =>
    obtain ⟨h1, h⟩ := chk_of h
    exact ⟨beq_of h1, h⟩
  | isub =>
    obtain ⟨h1, h⟩ := chk_of h
    exact ⟨beq_of h1, h⟩
  | imul =>
    obtain ⟨h1, h⟩ := chk_of h
    exact ⟨beq_of h1, h⟩
  | idiv =>
    obtain ⟨h1, h⟩ := chk_of h
    exact ⟨beq_of h1, h⟩
  | irem =>
    obtain ⟨h1, h⟩ := chk_of h
    exact ⟨beq_of h1, h⟩
  | iand =>
    obtain ⟨h1, h⟩ := chk_of h
    exact ⟨beq_of h1, h⟩
  | ior =>
    obtain ⟨h1, h⟩ := chk_of h
    exact ⟨beq_of h1, h⟩
  | ishl =>
    obtain ⟨h1, h⟩ := chk_of h
    exact ⟨beq_of h1, h⟩
  | ishr =>
    obtain ⟨h1, h⟩ := chk_of h
    exact ⟨beq_of h1, h⟩
  | ladd =>
    obtain ⟨h1, h⟩ := chk_of h
    exact ⟨beq_of h1, h⟩
  | lsub =>
    obtain ⟨h1, h⟩ := chk_of h
    exact ⟨beq_of h1, h⟩
  | lmul =>
    obtain ⟨h1, h⟩ := chk_of h
    exact ⟨beq_of h1, h⟩
  | ldiv =>
    obtain ⟨h1, h⟩ := chk_of h
    exact ⟨beq_of h1, h⟩
  | lrem =>
    obtain ⟨h1, h⟩ := chk_of h
    exact ⟨beq_of h1, h⟩
  | land =>
    obtain ⟨h1, h⟩ := chk_of h
    exact ⟨beq_of h1, h⟩
  | lor =>
    obtain ⟨h1, h⟩ := chk_of h
    exact ⟨beq_of h1, h⟩
  | lshl =>
    obtain ⟨h1, h⟩ := chk_of h
    exact ⟨beq_of h1, h⟩
  | i2l =>
    obtain ⟨h1, h⟩ := chk_of h
    exact ⟨beq_of h1, h⟩
  | lcmp =>
    obtain ⟨h1, h⟩ := chk_of h
    exact ⟨beq_of h1, h⟩
  | iaload =>
    obtain ⟨h1, h⟩ := chk_of h
    exact ⟨beq_of h1, h⟩
  | baload =>
    obtain ⟨h1, h⟩ := chk_of h
    exact ⟨beq_of h1, h⟩
  | laload =>
    obtain ⟨h1, h⟩ := chk_of h
    exact ⟨beq_of h1, h⟩
  | aaload =>
    obtain ⟨h1, h⟩ := chk_of h
    exact ⟨beq_of h1, h⟩
  | iastore =>
    obtain ⟨h1, h⟩ := chk_of h
    exact ⟨beq_of h1, h⟩
  | bastore =>
    obtain ⟨h1, h⟩ := chk_of h
    exact ⟨beq_of h1, h⟩
  | lastore =>
    obtain ⟨h1, h⟩ := chk_of h
    exact ⟨beq_of h1, h⟩
  | arraylength =>
    obtain ⟨h1, h⟩ := chk_of h
    exact ⟨beq_of h1, h⟩
  | bipush n =>
    obtain ⟨h1, h⟩ := chk_of h
    exact ⟨beq_of (and2 h1).1, of_decide_eq_true (and2 (and2 h1).2).1, of_decide_eq_true (and2 (and2 h1).2).2, h⟩
  | sipush n =>
    obtain ⟨h1, h⟩ := chk_of h
    exact ⟨beq_of (and2 h1).1, of_decide_eq_true (and2 (and2 h1).2).1, of_decide_eq_true (and2 (and2 h1).2).2, h⟩
  | ldc n =>
    obtain ⟨h1, h⟩ := chk_of h
    obtain ⟨v, e, h⟩ := oC_of h
    refine ⟨beq_of h1, ?_⟩
    rw [e]
    exact h
  | ldc2_w n =>
    obtain ⟨h1, h⟩ := chk_of h
    obtain ⟨v, e, h⟩ := oC_of h
    refine ⟨beq_of h1, ?_⟩
    rw [e]
    exact h
  | istore_n k =>
    obtain ⟨h1, h⟩ := chk_of h
    exact ⟨beq_of (and2 h1).1, blt_of (and2 h1).2, pI_mono h fun x t h => put1_of _ _ _ _ h⟩
  | istore k =>
    obtain ⟨h1, h⟩ := chk_of h
    exact ⟨beq_of (and2 h1).1, blt_of (and2 h1).2, pI_mono h fun x t h => put1_of _ _ _ _ h⟩
  | lstore_n k =>
    obtain ⟨h1, h⟩ := chk_of h
    exact ⟨beq_of (and2 h1).1, blt_of (and2 h1).2, pL_mono h fun x t h => put2_of _ _ _ _ h⟩
  | lstore k =>
    obtain ⟨h1, h⟩ := chk_of h
    exact ⟨beq_of (and2 h1).1, blt_of (and2 h1).2, pL_mono h fun x t h => put2_of _ _ _ _ h⟩
  | astore_n k =>
    obtain ⟨h1, h⟩ := chk_of h
    exact ⟨beq_of (and2 h1).1, blt_of (and2 h1).2, pR_mono h fun x t h => put1_of _ _ _ _ h⟩
  | astore k =>
    obtain ⟨h1, h⟩ := chk_of h
    exact ⟨beq_of (and2 h1).1, blt_of (and2 h1).2, pR_mono h fun x t h => put1_of _ _ _ _ h⟩
  | iinc k n =>
    obtain ⟨h1, h⟩ := chk_of h
    exact ⟨beq_of (and2 h1).1, blt_of (and2 h1).2, gI_mono h fun x h => put1_of _ _ _ _ h⟩
  | dup =>
    obtain ⟨h1, h⟩ := chk_of h
    obtain ⟨a, t, rfl, h2, h⟩ := pC_of h
    exact ⟨beq_of h1, h2, h⟩
  | dup2 =>
    obtain ⟨h1, h⟩ := chk_of h
    obtain ⟨a, t, rfl, h2, h⟩ := pC_of h
    obtain ⟨b, t, rfl, h3, h⟩ := pC_of h
    exact ⟨beq_of h1, h2, h3, h⟩
  | pop =>
    obtain ⟨h1, h⟩ := chk_of h
    obtain ⟨a, t, rfl, h2, h⟩ := pC_of h
    exact ⟨beq_of h1, h2, h⟩
  | ifCond cn off =>
    obtain ⟨h1, h⟩ := chk_of h
    have h0 := of_decide_eq_true (and2 h1).2
    refine ⟨beq_of (and2 h1).1, h0, pI_mono h fun x t h => ⟨h.1, ?_⟩⟩
    have h := h.2
    cases cn with
    | eq => exact ⟨fun q => ⟨h0, h.1 q⟩, h.2⟩
    | ne => exact ⟨fun q => ⟨h0, h.1 q⟩, h.2⟩
    | lt => exact ⟨fun q => ⟨h0, h.1 q⟩, h.2⟩
    | ge => exact ⟨fun q => ⟨h0, h.1 q⟩, h.2⟩
    | gt => exact ⟨fun q => ⟨h0, h.1 q⟩, h.2⟩
    | le => exact ⟨fun q => ⟨h0, h.1 q⟩, h.2⟩
  | if_icmp cn off =>
    obtain ⟨h1, h⟩ := chk_of h
    have h0 := of_decide_eq_true (and2 h1).2
    refine ⟨beq_of (and2 h1).1, h0, pI_mono h fun y t h => pI_mono h fun x t h => ⟨h.1, h.2.1, ?_⟩⟩
    have h := h.2.2
    cases cn with
    | eq => exact ⟨fun q => ⟨h0, h.1 q⟩, h.2⟩
    | ne => exact ⟨fun q => ⟨h0, h.1 q⟩, h.2⟩
    | lt => exact ⟨fun q => ⟨h0, h.1 q⟩, h.2⟩
    | ge => exact ⟨fun q => ⟨h0, h.1 q⟩, h.2⟩
    | gt => exact ⟨fun q => ⟨h0, h.1 q⟩, h.2⟩
    | le => exact ⟨fun q => ⟨h0, h.1 q⟩, h.2⟩
  | goto off =>
    obtain ⟨h1, h⟩ := chk_of h
    exact ⟨beq_of (and2 h1).1, of_decide_eq_true (and2 h1).2, h⟩
  | tableswitch dflt lo hi offs =>
    exact h
  | getfield n =>
    obtain ⟨h1, h⟩ := chk_of h
    refine ⟨beq_of h1, pR_mono h fun x t h => ?_⟩
    obtain ⟨C, k, f, e, h⟩ := oF_of h
    rw [e]
    exact h
  | putfield n =>
    obtain ⟨h1, h⟩ := chk_of h
    obtain ⟨C, k, f, e, h⟩ := oF_of h
    refine ⟨beq_of h1, ?_⟩
    rw [e]
    match f, h with
    | 0, h => exact h
    | 1, h => exact h
    | 2, h => exact h
  | getstatic n =>
    obtain ⟨h1, h⟩ := chk_of h
    refine ⟨beq_of (and2 h1).1, ?_, h⟩
    have h2 := (and2 h1).2
    rw [Bool.or_eq_true] at h2
    rcases h2 with h2 | h2
    · exact Or.inl ⟨beq_of (and2 h2).1, beq_of (and2 h2).2⟩
    · exact Or.inr ⟨beq_of (and2 h2).1, beq_of (and2 h2).2⟩
  | invokevirtual n =>
    obtain ⟨h1, h⟩ := chk_of h
    exact ⟨beq_of h1, clV_of h⟩
  | invokestatic n =>
    obtain ⟨h1, h⟩ := chk_of h
    refine ⟨beq_of h1, ?_⟩
    split at h
    · rename_i e
      rw [e]
      exact h
    · rename_i e
      rw [e]
      exact h
    · rename_i b e0 e1 e
      rw [e]
      match b, e0, e1 with
      | 0, e0, _ => exact absurd rfl e0
      | 1, _, e1 => exact absurd rfl e1
      | b + 2, _, _ => exact h
    · rename_i e
      rw [e]
      exact clV_of h
  | ireturn =>
    obtain ⟨h1, h⟩ := chk_of h
    obtain ⟨x, t, rfl, h⟩ := pI_of h
    obtain ⟨rfl, h⟩ := pE_of h
    exact ⟨beq_of h1, h⟩
  | lreturn =>
    obtain ⟨h1, h⟩ := chk_of h
    obtain ⟨x, t, rfl, h⟩ := pL_of h
    obtain ⟨rfl, h⟩ := pE_of h
    exact ⟨beq_of h1, h.1, h.2⟩
  | return_ =>
    obtain ⟨h1, h⟩ := chk_of h
    obtain ⟨rfl, h⟩ := pE_of h
    exact ⟨beq_of h1, h.1, rfl, h.2⟩
  | _ => exact h.elim
end EYX
def isC : List Nat → Nat → Bool
  | [], _ => false
  | a :: t, n => Nat.beq a n || isC t n
def vcm (r : Except DecodeError (Instr × Nat)) (f : Instr → Nat → Prop) : Prop := match r with
  | .ok (i, len) => f i len
  | .error _ => False
def vci (b : Bool) (x y : Prop) : Prop := match b with
  | true => x
  | false => y
def vc (o d nL : Nat) (cc : ByteArray) (rt : Option FieldType) (cuts : List Nat) (Fi : Option AV → Sg → Prop) (K : Nat → Lv → List AV → Sg → Prop) : Nat → Nat → Lv → List AV → Sg → Prop
  | 0, pc, ls, st, σ => K pc ls st σ
  | n + 1, pc, ls, st, σ => vcm (decode cc pc) fun i len => ey o d nL rt Fi (fun pc ls st σ => vci (isC cuts pc) (K pc ls st σ) (vc o d nL cc rt cuts Fi K n pc ls st σ)) pc len ls st σ i
theorem vc_at {o d nL : Nat} {cc : ByteArray} {rt : Option FieldType} {cuts : List Nat} {Fi : Option AV → Sg → Prop} {K : Nat → Lv → List AV → Sg → Prop} {n pc : Nat} {ls : Lv} {st : List AV} {σ : Sg} {i : Instr} {len : Nat} (h : decode cc pc = .ok (i, len)) :
    vc o d nL cc rt cuts Fi K (n + 1) pc ls st σ = ey o d nL rt Fi (fun pc ls st σ => vci (isC cuts pc) (K pc ls st σ) (vc o d nL cc rt cuts Fi K n pc ls st σ)) pc len ls st σ i := by
  show vcm (decode cc pc) _ = _
  rw [h]
  rfl
def V (D : Nat) (mi : MI) (o : Nat) (r : Option AV) (τ : Sg) (pc : Nat) (ls : Lv) (st : List AV) (σ : Sg) : Prop :=
  ∃ _ : Unit, ∀ (p : Program) (l : Launch) (e : Env) (s : State) (m : MethodId) (args : Array Value) (below : List Frame) (meth : Method) (c : Code) (X : Cx), Ev p s m args c X o mi.2.1 mi.2.2.1 → meth.sig.returnType = mi.2.2.2 → meth.locks = false →
    Vx p l e (rmM (D + 1)) s m args below meth c X 0 0 (MQ below (QcX X r τ) args s 0 0 (reg X)) mi.2.2.1 pc ls st σ
theorem vc_sound0 {D : Nat} {mi : MI} {o : Nat} {r : Option AV} {τ : Sg} (cuts : List Nat) : ∀ (n pc : Nat) (ls : Lv) (st : List AV) (σ : Sg), vc o D mi.2.2.1 mi.2.1 mi.2.2.2 cuts (fun r' σ' => r' = r ∧ σ' = τ) (V D mi o r τ) n pc ls st σ → V D mi o r τ pc ls st σ
  | 0, pc, ls, st, σ, h => h
  | n + 1, pc, ls, st, σ, h => by
    refine ⟨(), ?_⟩
    intro p l e s m args below meth c X E hr hlk
    unfold vc vcm at h
    split at h
    · rename_i i len hdg
      refine ex_sound E ⟨Nat.le_refl _, by show 32 + 32 * D ≤ 32 * (D + 1); omega⟩ ⟨Nat.le_refl _, Nat.le_refl _⟩ (fun pc ls st σ hk => ?_) ?_ hdg (ey_ex h)
      · unfold vci at hk
        split at hk
        · obtain ⟨-, hk⟩ := hk
          exact hk p l e s m args below meth c X E hr hlk
        · obtain ⟨-, hk⟩ := vc_sound0 cuts n pc ls st σ hk
          exact hk p l e s m args below meth c X E hr hlk
      · intro r' σ' pc' H locs la hF hP hS hl ho
        obtain ⟨rfl, rfl⟩ := hF
        obtain ⟨hx, hb, hml, hown, hts, hSx⟩ := E
        have hq : ∀ t : State, t.heap = H → s.WarmedH t.vm → QcX X r' σ' args s (.returned (r'.map (cv X.2.2))) t := fun t ht _ => ⟨rfl, by rw [ht]; exact hP, hS.F ht⟩
        match r', ho, hq with
        | none, ho, hq => exact W.vret hx hb (hr.trans ho.1) hq hS.2.2 ho.2 hlk
        | some (.inr (.inl x)), ho, hq => exact W.lret hx hb (hr.trans ho.1) hq hS.2.2 ho.2 hlk
        | some (.inl x), ho, hq =>
          obtain ⟨hz, hd⟩ := ho
          unfold zOK at hz
          split at hz
          · rename_i hrt
            exact W.zret (ty := .boolean) hx hb (hr.trans hrt) (nb_nar hz) hq hS.2.2 hd hlk
          · rename_i hrt
            exact W.zret (ty := .int) hx hb (hr.trans hrt) rfl hq hS.2.2 hd hlk
          · exact hz.elim
    · exact h.elim
theorem vc_sound {D : Nat} {mi : MI} {o : Nat} {r : Option AV} {τ : Sg} {cc : ByteArray} {nL : Nat} {rt : Option FieldType} {pc : Nat} {ls : Lv} {st : List AV} {σ : Sg} (hm : mi.2 = (cc, (nL, rt))) (cuts : List Nat) (n : Nat) (h : vc o D nL cc rt cuts (fun r' σ' => r' = r ∧ σ' = τ) (V D mi o r τ) n pc ls st σ) : V D mi o r τ pc ls st σ := by
  refine vc_sound0 cuts n pc ls st σ ?_
  rw [hm]
  exact h
def ini : List AV → Lv
  | [] => []
  | v :: t => some v :: (if isL (some v) = true then none :: ini t else ini t)
def lv0 (nL : Nat) (as : List AV) : Lv := ini as ++ List.replicate (nL - (ini as).length) none
theorem lvs_app (A : Nat → Nat) : ∀ (ls ls2 : Lv) (i : Nat), lvs A i (ls ++ ls2) = lvs A i ls ++ lvs A (i + ls.length) ls2
  | [], ls2, i => by simp [lvs]
  | none :: t, ls2, i => by
    rw [List.cons_append, lvs, lvs, lvs_app A t ls2 (i + 1), List.length_cons, Nat.add_assoc, Nat.add_comm 1]
  | some v :: t, ls2, i => by
    rw [List.cons_append, lvs, lvs, lvs_app A t ls2 (i + 1), List.length_cons, Nat.add_assoc, Nat.add_comm 1, List.cons_append]
theorem lvs_none (A : Nat → Nat) : ∀ (n i : Nat), lvs A i (List.replicate n none) = []
  | 0, i => rfl
  | n + 1, i => by rw [List.replicate_succ, lvs, lvs_none A n]
theorem lvs_ini (A : Nat → Nat) : ∀ (as : List AV) (i : Nat), lvs A i (ini as) = lv_args i (as.map (cv A))
  | [], i => rfl
  | v :: t, i => by
    have hc := cv_cat A v
    rw [ini, lvs, List.map_cons, lv_args]
    by_cases h : isL (some v) = true
    · rw [if_pos h] at hc
      rw [if_pos h, if_pos hc, lvs, lvs_ini A t]
    · rw [if_neg h] at hc
      rw [if_neg h, if_neg (by omega), lvs_ini A t]
theorem ini_len (A : Nat → Nat) : ∀ (as : List AV), (lg_sl (as.map (cv A))).length = (ini as).length
  | [] => rfl
  | v :: t => by
    have hc := cv_cat A v
    have ih := ini_len A t
    unfold lg_sl at ih ⊢
    rw [List.map_cons, List.flatMap_cons, List.length_append, ih, ini, List.length_cons]
    by_cases h : isL (some v) = true
    · rw [if_pos h] at hc
      rw [if_pos h, if_pos hc, List.length_cons]
      simp; omega
    · rw [if_neg h] at hc
      rw [if_neg h, if_neg (by omega)]
      simp; omega
theorem Ret.of {D : Nat} {mi : MI} (o : Nat) {as : List AV} {σ : Sg} {r : Option AV} {τ : Sg} (ls0 : Lv) (ho : mi.1.cls = RN o) (hp : plainName mi.1.cls = true) (h1 : lv0 mi.2.2.1 as = ls0) (h2 : (ini as).length ≤ mi.2.2.1) (h : V D mi o r τ 0 ls0 [] σ) : Ret (D + 1) mi as σ r τ := by
  intro l X
  refine Met.ofW (cc := mi.2.1) (maxL := mi.2.2.1) (ret := mi.2.2.2) hp rfl ?_
  intro p e s m args below meth c s₁ B hml hv
  obtain ⟨rfl, hP, hSx⟩ := hv
  have hts := atoms_spec (ws := wsM mi) B.pre
  have hown : s.vm.findClass mi.1.cls = some m.cls := findClass_of_methodNamed B.named
  rw [ho] at hown
  have hl := lv_entry (as.map (cv X.2.2)) (n := mi.2.2.1) (by rw [ini_len]; exact h2)
  rw [lg_entry_eq]
  obtain ⟨-, h⟩ := h
  refine h p l e s m _ below meth c X ⟨B.exec, B.bytes, hml, hown, fun w hw => hts w (List.mem_cons_of_mem _ hw), hSx⟩ B.returns B.notSynchronized s.heap [] _ hP va_S.rf ?_
  have e1 : lvs X.2.2 0 ls0 = lv_args 0 (as.map (cv X.2.2)) := by
    rw [← h1]
    unfold lv0
    rw [lvs_app, lvs_none, List.append_nil, lvs_ini]
  rw [e1]
  exact hl
/-! equations for the symbolic run -/
section EQS
variable {d : Nat} {ls : Lv} {st : List AV} {σ : Sg}
theorem pI_c (x : Int) (t : List AV) (k : Int → List AV → Prop) : pI (Sum.inl x :: t) k = k x t := rfl
theorem pL_c (x : Int) (t : List AV) (k : Int → List AV → Prop) : pL (Sum.inr (Sum.inl x) :: t) k = k x t := rfl
theorem pR_c (x : Int) (t : List AV) (k : Int → List AV → Prop) : pR (Sum.inr (Sum.inr x) :: t) k = k x t := rfl
theorem pC_I (x : Int) (t : List AV) (k : AV → List AV → Prop) : pC (Sum.inl x :: t) k = k (Sum.inl x) t := rfl
theorem pC_R (x : Int) (t : List AV) (k : AV → List AV → Prop) : pC (Sum.inr (Sum.inr x) :: t) k = k (Sum.inr (Sum.inr x)) t := rfl
theorem pE_n (x : Prop) : pE [] x = x := rfl
theorem gI_0 (x : Int) (t : Lv) (f : Int → Prop) : gI (some (Sum.inl x) :: t) 0 f = f x := rfl
theorem gI_s (a : Option AV) (t : Lv) (k : Nat) (f : Int → Prop) : gI (a :: t) (k + 1) f = gI t k f := rfl
theorem gL_0 (x : Int) (t : Lv) (f : Int → Prop) : gL (some (Sum.inr (Sum.inl x)) :: t) 0 f = f x := rfl
theorem gL_s (a : Option AV) (t : Lv) (k : Nat) (f : Int → Prop) : gL (a :: t) (k + 1) f = gL t k f := rfl
theorem gR_0 (x : Int) (t : Lv) (f : Int → Prop) : gR (some (Sum.inr (Sum.inr x)) :: t) 0 f = f x := rfl
theorem gR_s (a : Option AV) (t : Lv) (k : Nat) (f : Int → Prop) : gR (a :: t) (k + 1) f = gR t k f := rfl
theorem popN_0 (st acc : List AV) (k : List AV → List AV → Prop) : popN 0 st acc k = k acc st := rfl
theorem popN_s (n : Nat) (a : AV) (t acc : List AV) (k : List AV → List AV → Prop) : popN (n + 1) (a :: t) acc k = popN n t (a :: acc) k := rfl
theorem kl_I (x : Int) (f : Option AV → Prop) : kl (some (Sum.inl x)) f = f (some (Sum.inl x)) := rfl
theorem kl_L (x : Int) (f : Option AV → Prop) : kl (some (Sum.inr (Sum.inl x))) f = f none := rfl
theorem kl_R (x : Int) (f : Option AV → Prop) : kl (some (Sum.inr (Sum.inr x))) f = f (some (Sum.inr (Sum.inr x))) := rfl
theorem kl_n (f : Option AV → Prop) : kl none f = f none := rfl
theorem put1_0 (v : AV) (a : Option AV) (t : Lv) (k : Lv → Prop) : put1 0 v (a :: t) k = k (some v :: t) := rfl
theorem put1_s (n : Nat) (v : AV) (ls : Lv) (k : Lv → Prop) : put1 (n + 1) v ls k = putk n v ls k := rfl
theorem putk_0 (v : AV) (a b : Option AV) (t : Lv) (k : Lv → Prop) : putk 0 v (a :: b :: t) k = kl a (fun a' => k (a' :: some v :: t)) := rfl
theorem putk_s (n : Nat) (v : AV) (a : Option AV) (t : Lv) (k : Lv → Prop) : putk (n + 1) v (a :: t) k = putk n v t (fun t' => k (a :: t')) := rfl
theorem put2_0 (v : AV) (a b : Option AV) (t : Lv) (k : Lv → Prop) : put2 0 v (a :: b :: t) k = k (some v :: none :: t) := rfl
theorem put2_s (n : Nat) (v : AV) (ls : Lv) (k : Lv → Prop) : put2 (n + 1) v ls k = putl n v ls k := rfl
theorem putl_0 (v : AV) (a b c : Option AV) (t : Lv) (k : Lv → Prop) : putl 0 v (a :: b :: c :: t) k = kl a (fun a' => k (a' :: some v :: none :: t)) := rfl
theorem putl_s (n : Nat) (v : AV) (a : Option AV) (t : Lv) (k : Lv → Prop) : putl (n + 1) v (a :: t) k = putl n v t (fun t' => k (a :: t')) := rfl
theorem cats_n : cats [] = 0 := rfl
theorem cats_c (a : AV) (t : List AV) : cats (a :: t) = catA a + cats t := rfl
theorem catA_I (x : Int) : catA (Sum.inl x) = 1 := rfl
theorem catA_L (x : Int) : catA (Sum.inr (Sum.inl x)) = 2 := rfl
theorem catA_R (x : Int) : catA (Sum.inr (Sum.inr x)) = 1 := rfl
theorem callK_0 (mi : MI) (as rest : List AV) (K2 : List AV → Sg → Prop) : callK d mi as σ 0 K2 rest = ∃ τ, Ret d mi as σ none τ ∧ K2 rest τ := rfl
theorem callK_1 (mi : MI) (as rest : List AV) (K2 : List AV → Sg → Prop) : callK d mi as σ 1 K2 rest = ∃ z τ, Ret d mi as σ (some (aI z)) τ ∧ K2 (aI z :: rest) τ := rfl
theorem callK_2 (mi : MI) (as rest : List AV) (K2 : List AV → Sg → Prop) : callK d mi as σ 2 K2 rest = ∃ z τ, Ret d mi as σ (some (aL z)) τ ∧ K2 (aL z :: rest) τ := rfl
theorem KL : ((ktag 7 = 1 ∧ ktag 8 = 1 ∧ ktag 9 = 1 ∧ ktag 10 = 3 ∧ ktag 11 = 1 ∧ ktag 12 = 1 ∧ ktag 13 = 1 ∧ ktag 14 = 1) ∧ (ktag 15 = 4 ∧ ktag 16 = 1 ∧ ktag 17 = 3 ∧ ktag 18 = 4 ∧ ktag 19 = 4 ∧ ktag 20 = 5 ∧ ktag 21 = 5 ∧ ktag 22 = 5) ∧ (ktag 23 = 5 ∧ ktag 24 = 5 ∧ ktag 25 = 5 ∧ ktag 26 = 1 ∧ ktag 27 = 1 ∧ ktag 28 = 1 ∧ ktag 29 = 1 ∧ ktag 30 = 1) ∧ (ktag 31 = 1 ∧ ktag 32 = 2 ∧ ktag 33 = 2 ∧ ktag 34 = 2 ∧ ktag 35 = 1 ∧ ktag 36 = 2 ∧ ktag 37 = 2 ∧ ktag 38 = 1 ∧ ktag 39 = 1 ∧ ktag 40 = 1))
    ∧ ((klen 7 = 24 ∧ klen 8 = 24 ∧ klen 9 = 24 ∧ klen 10 = 24 ∧ klen 11 = 24 ∧ klen 12 = 24 ∧ klen 13 = 24 ∧ klen 14 = 24) ∧ (klen 15 = 4 ∧ klen 16 = 25 ∧ klen 17 = 25 ∧ klen 18 = 25 ∧ klen 19 = 25 ∧ klen 20 = 25 ∧ klen 21 = 25 ∧ klen 22 = 25) ∧ (klen 23 = 13 ∧ klen 24 = 13 ∧ klen 25 = 14 ∧ klen 26 = 24 ∧ klen 27 = 24 ∧ klen 28 = 24 ∧ klen 29 = 16 ∧ klen 30 = 24) ∧ (klen 31 = 24 ∧ klen 32 = 104 ∧ klen 33 = 938 ∧ klen 34 = 938 ∧ klen 35 = 1250 ∧ klen 36 = 1250 ∧ klen 37 = 625 ∧ klen 38 = 24 ∧ klen 39 = 24 ∧ klen 40 = 24))
    ∧ (kbas 15 = 41 ∧ kbas 18 = 45 ∧ kbas 19 = 70 ∧ kbas 20 = 95 ∧ kbas 21 = 120 ∧ kbas 22 = 145 ∧ kbas 23 = 170 ∧ kbas 24 = 183 ∧ kbas 25 = 196) := by and_intros <;> decide
theorem lval_n {id i : Int} (h : ¬ id = 210) : lval σ id i = σ id i := if_neg h
theorem lval_f {i : Int} : lval σ 210 i = fdv i := rfl
theorem ltag_n {id : Int} (h : ¬ id = 210) : ltag id = ktag id := if_neg h
theorem llen_n {id : Int} (h : ¬ id = 210) : llen id = klen id := if_neg h
theorem ltag_f : ltag 210 = 2 := rfl
theorem llen_f : llen 210 = 13 := rfl
theorem lcm_lt (x y : Int) : (lcm x y < 0) = (x < y) := by unfold lcm; apply propext; split <;> (try split) <;> omega
theorem lcm_le (x y : Int) : (lcm x y ≤ 0) = (x ≤ y) := by unfold lcm; apply propext; split <;> (try split) <;> omega
theorem lcm_gt (x y : Int) : (0 < lcm x y) = (y < x) := by unfold lcm; apply propext; split <;> (try split) <;> omega
theorem lcm_ge (x y : Int) : (0 ≤ lcm x y) = (y ≤ x) := by unfold lcm; apply propext; split <;> (try split) <;> omega
theorem lcm_eq (x y : Int) : (lcm x y = 0) = (x = y) := by unfold lcm; apply propext; split <;> (try split) <;> omega
theorem lcm_R1 (x y : Int) : (-2147483648 ≤ lcm x y) = True := by unfold lcm; apply eq_true; split <;> (try split) <;> omega
theorem lcm_R2 (x y : Int) : (lcm x y < 2147483648) = True := by unfold lcm; apply eq_true; split <;> (try split) <;> omega
theorem LV : (lval σ 32 = σ 32 ∧ lval σ 33 = σ 33 ∧ lval σ 34 = σ 34 ∧ lval σ 36 = σ 36 ∧ lval σ 37 = σ 37) ∧ (ltag 32 = 2 ∧ ltag 33 = 2 ∧ ltag 34 = 2 ∧ ltag 36 = 2 ∧ ltag 37 = 2) ∧ (llen 32 = 104 ∧ llen 33 = 938 ∧ llen 34 = 938 ∧ llen 36 = 1250 ∧ llen 37 = 625) := by and_intros <;> rfl
theorem krow {i : Int} : (0 ≤ i → i < 4 → ktag (41 + i) = 1 ∧ klen (41 + i) = 4) ∧ (0 ≤ i → i < 25 → ktag (45 + i) = 1 ∧ klen (45 + i) = 25 ∧ ktag (70 + i) = 1 ∧ klen (70 + i) = 25 ∧ ktag (95 + i) = 2 ∧ klen (95 + i) = 25 ∧ ktag (120 + i) = 2 ∧ klen (120 + i) = 25 ∧ ktag (145 + i) = 2 ∧ klen (145 + i) = 25) ∧ (0 ≤ i → i < 13 → ktag (170 + i) = 2 ∧ klen (170 + i) = 7 ∧ ktag (183 + i) = 2 ∧ klen (183 + i) = 67) ∧ (0 ≤ i → i < 14 → ktag (196 + i) = 2 ∧ klen (196 + i) = 67) := by
  have key : ∀ (lo hi : Nat) (t n b : Nat), (∀ j : Nat, lo ≤ j → j < hi → kd j = (t, n, b)) → ∀ x : Int, (lo : Int) ≤ x → x < hi → ktag x = t ∧ klen x = n := by
    intro lo hi t n b h x h1 h2
    unfold ktag klen
    rw [if_pos (by omega), h x.toNat (by omega) (by omega)]
    exact ⟨rfl, rfl⟩
  have k1 := key 41 45 1 4 0 (fun j h1 h2 => by unfold kd; rw [if_neg (by omega), if_neg (by omega), if_pos (by omega)])
  have k2 := key 45 95 1 25 0 (fun j h1 h2 => by unfold kd; rw [if_neg (by omega), if_neg (by omega), if_neg (by omega), if_pos (by omega)])
  have k3 := key 95 170 2 25 0 (fun j h1 h2 => by unfold kd; rw [if_neg (by omega), if_neg (by omega), if_neg (by omega), if_neg (by omega), if_pos (by omega)])
  have k4 := key 170 183 2 7 0 (fun j h1 h2 => by unfold kd; rw [if_neg (by omega), if_neg (by omega), if_neg (by omega), if_neg (by omega), if_neg (by omega), if_pos (by omega)])
  have k5 := key 183 210 2 67 0 (fun j h1 h2 => by unfold kd; rw [if_neg (by omega), if_neg (by omega), if_neg (by omega), if_neg (by omega), if_neg (by omega), if_neg (by omega), if_pos (by omega)])
  refine ⟨fun h1 h2 => k1 _ (by omega) (by omega), fun h1 h2 => ?_, fun h1 h2 => ?_, fun h1 h2 => k5 _ (by omega) (by omega)⟩
  · exact ⟨(k2 (45 + i) (by omega) (by omega)).1, (k2 (45 + i) (by omega) (by omega)).2, (k2 (70 + i) (by omega) (by omega)).1, (k2 (70 + i) (by omega) (by omega)).2, (k3 (95 + i) (by omega) (by omega)).1, (k3 (95 + i) (by omega) (by omega)).2, (k3 (120 + i) (by omega) (by omega)).1, (k3 (120 + i) (by omega) (by omega)).2, (k3 (145 + i) (by omega) (by omega)).1, (k3 (145 + i) (by omega) (by omega)).2⟩
  · exact ⟨(k4 (170 + i) (by omega) (by omega)).1, (k4 (170 + i) (by omega) (by omega)).2, (k5 (183 + i) (by omega) (by omega)).1, (k5 (183 + i) (by omega) (by omega)).2⟩
end EQS


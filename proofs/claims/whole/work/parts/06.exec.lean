/-! the symbolic step -/
theorem tI {z : Int} (h : -2147483648 ≤ z ∧ z < 2147483648) : (Int32.ofInt z).toInt = z := by
  rw [Int32.toInt_ofInt]
  show z.bmod 4294967296 = z
  exact Int.bmod_eq_of_le (by omega) (by omega)
theorem tL {z : Int} (h : -9223372036854775808 ≤ z ∧ z < 9223372036854775808) : (Int64.ofInt z).toInt = z := by
  rw [Int64.toInt_ofInt]
  show z.bmod 18446744073709551616 = z
  exact Int.bmod_eq_of_le (by omega) (by omega)
abbrev inR (z : Int) : Prop := -2147483648 ≤ z ∧ z < 2147483648
abbrev inL (z : Int) : Prop := -9223372036854775808 ≤ z ∧ z < 9223372036854775808
def iand32 (x y : Int) : Int := (Int32.ofInt x &&& Int32.ofInt y).toInt
def ior32 (x y : Int) : Int := (Int32.ofInt x ||| Int32.ofInt y).toInt
def ishl32 (x y : Int) : Int := (Int32.ofInt x <<< (Int32.ofInt y &&& 31)).toInt
def ishr32 (x y : Int) : Int := (Int32.ofInt x >>> (Int32.ofInt y &&& 31)).toInt
def land64 (x y : Int) : Int := (Int64.ofInt x &&& Int64.ofInt y).toInt
def lor64 (x y : Int) : Int := (Int64.ofInt x ||| Int64.ofInt y).toInt
def lshl64 (x y : Int) : Int := (Int64.ofInt x <<< ((Int32.ofInt y).toInt64 &&& 63)).toInt
def lcm (x y : Int) : Int := if y < x then 1 else if x = y then 0 else -1
def ktag (id : Int) : Nat := if 0 ≤ id then (kd id.toNat).1 else 9
def klen (id : Int) : Int := (kd id.toNat).2.1
def kbas (id : Int) : Int := (kd id.toNat).2.2
def lval (σ : Sg) (id i : Int) : Int := if id = 210 then fdv i else σ id i
def ltag (id : Int) : Nat := if id = 210 then 2 else ktag id
def llen (id : Int) : Int := if id = 210 then 13 else klen id
def cpy (σ : Sg) (src dst sp dp n : Int) : Sg := fun a b => if a = dst ∧ dp ≤ b ∧ b < dp + n then σ src (sp + (b - dp)) else σ a b
def pI (st : List AV) (k : Int → List AV → Prop) : Prop := match st with
  | .inl x :: t => k x t
  | _ => False
def pL (st : List AV) (k : Int → List AV → Prop) : Prop := match st with
  | .inr (.inl x) :: t => k x t
  | _ => False
def pR (st : List AV) (k : Int → List AV → Prop) : Prop := match st with
  | .inr (.inr x) :: t => k x t
  | _ => False
def gI (ls : Lv) (k : Nat) (f : Int → Prop) : Prop := match lget ls k with
  | some (.inl x) => f x
  | _ => False
def gL (ls : Lv) (k : Nat) (f : Int → Prop) : Prop := match lget ls k with
  | some (.inr (.inl x)) => f x
  | _ => False
def gR (ls : Lv) (k : Nat) (f : Int → Prop) : Prop := match lget ls k with
  | some (.inr (.inr x)) => f x
  | _ => False
theorem pI_of {st : List AV} {k : Int → List AV → Prop} (h : pI st k) : ∃ x t, st = aI x :: t ∧ k x t := by
  match st, h with
  | .inl x :: t, h => exact ⟨x, t, rfl, h⟩
theorem pL_of {st : List AV} {k : Int → List AV → Prop} (h : pL st k) : ∃ x t, st = aL x :: t ∧ k x t := by
  match st, h with
  | .inr (.inl x) :: t, h => exact ⟨x, t, rfl, h⟩
theorem pR_of {st : List AV} {k : Int → List AV → Prop} (h : pR st k) : ∃ x t, st = aR x :: t ∧ k x t := by
  match st, h with
  | .inr (.inr x) :: t, h => exact ⟨x, t, rfl, h⟩
theorem gI_of {ls : Lv} {k : Nat} {f : Int → Prop} (h : gI ls k f) : ∃ x, lget ls k = some (aI x) ∧ f x := by
  unfold gI at h
  split at h
  · exact ⟨_, by assumption, h⟩
  · exact h.elim
theorem gL_of {ls : Lv} {k : Nat} {f : Int → Prop} (h : gL ls k f) : ∃ x, lget ls k = some (aL x) ∧ f x := by
  unfold gL at h
  split at h
  · exact ⟨_, by assumption, h⟩
  · exact h.elim
theorem gR_of {ls : Lv} {k : Nat} {f : Int → Prop} (h : gR ls k f) : ∃ x, lget ls k = some (aR x) ∧ f x := by
  unfold gR at h
  split at h
  · exact ⟨_, by assumption, h⟩
  · exact h.elim
def rtk : Nat → List AV → List AV → List AV
  | 0, _, acc => acc
  | _ + 1, [], acc => acc
  | n + 1, a :: t, acc => rtk n t (a :: acc)
def dr : Nat → List AV → List AV
  | 0, l => l
  | _ + 1, [] => []
  | n + 1, _ :: t => dr n t
def catA : AV → Nat
  | .inr (.inl _) => 2
  | _ => 1
def cats : List AV → Nat
  | [] => 0
  | a :: t => catA a + cats t
theorem rtk_dr : ∀ (n : Nat) (st acc : List AV), (rtk n st acc).reverse ++ dr n st = acc.reverse ++ st
  | 0, st, acc => rfl
  | n + 1, [], acc => rfl
  | n + 1, a :: t, acc => by
    rw [rtk, dr, rtk_dr n t (a :: acc)]
    simp
theorem cats_eq (A : Nat → Nat) : ∀ (l : List AV), ((l.map (cv A)).map fun v => v.category).sum = cats l
  | [] => rfl
  | a :: t => by
    rw [List.map_cons, List.map_cons, List.sum_cons, cats_eq A t, cats]
    rcases a with z | z | z <;> rfl
def rmM (d : Nat) : Room := { frames := d, cells := 0, slots := 0, locals := 32 * d }
def wsM (mi : MI) : List Cond := Cond.code mi.1 mi.2.1 mi.2.2.1 mi.2.2.2 :: GG
def PcX (X : Cx) (as : List AV) (σ : Sg) : Array Value → State → Prop := va_Pc (as.map (cv X.2.2)) (fun U => va_P X.1 classes (mkW X σ) U.heap ∧ Sx X U U.heap)
def QcX (X : Cx) (r : Option AV) (τ : Sg) : Array Value → State → Outcome → State → Prop := fun _ st oc t => oc = .returned (r.map (cv X.2.2)) ∧ va_P X.1 classes (mkW X τ) t.heap ∧ va_F (reg X) st t
/-- THE JUDGEMENT OF A CALL: with these arguments, in this state, the method returns r and leaves τ; d levels of calls below it are enough -/
def Ret (d : Nat) (mi : MI) (as : List AV) (σ : Sg) (r : Option AV) (τ : Sg) : Prop := ∀ (l : Launch) (X : Cx), Met l mi.1 (wsM mi) (rmM d) (PcX X as σ) (QcX X r τ) 0 0 (reg X)
def callK (d : Nat) (mi : MI) (as : List AV) (σ : Sg) (rk : Nat) (K : List AV → Sg → Prop) (rest : List AV) : Prop := match rk with
  | 0 => ∃ τ, Ret d mi as σ none τ ∧ K rest τ
  | 1 => ∃ z τ, Ret d mi as σ (some (aI z)) τ ∧ K (aI z :: rest) τ
  | _ => ∃ z τ, Ret d mi as σ (some (aL z)) τ ∧ K (aL z :: rest) τ
def calM (o d : Nat) (idx kind : Nat) (st : List AV) (σ : Sg) (K : List AV → Sg → Prop) : Prop := match mt o idx with
  | some (mi, (k, (n, (rk, C)))) => k = kind ∧ (match kind with
    | 0 => (rtk (n + 1) st []).length = n + 1 ∧ (rtk (n + 1) st []).head? = some (aR C) ∧ cats (dr (n + 1) st) ≤ 8 ∧ callK d mi (rtk (n + 1) st []) σ rk K (dr (n + 1) st)
    | _ => (rtk n st []).length = n ∧ cats (dr n st) ≤ 8 ∧ callK d mi (rtk n st []) σ rk K (dr n st))
  | none => False
def br (c : Prop) (a b : Prop) : Prop := (c → a) ∧ (¬ c → b)
def jmp (K : Nat → Lv → List AV → Sg → Prop) (pc : Nat) (off : Int) (ls : Lv) (st : List AV) (σ : Sg) : Prop := 0 ≤ (pc : Int) + off ∧ K ((pc : Int) + off).toNat ls st σ
def zOK (rt : Option FieldType) (z : Int) : Prop := match rt with
  | some .boolean => z = 0 ∨ z = 1
  | some .int => True
  | _ => False
def tsw (K : Nat → Lv → List AV → Sg → Prop) (pc : Nat) (ls : Lv) (st : List AV) (σ : Sg) (x : Int) : Int → List Int → Prop
  | _, [] => True
  | lo, off :: t => (x = lo → jmp K pc off ls st σ) ∧ tsw K pc ls st σ x (lo + 1) t
def ex (o d nL : Nat) (rt : Option FieldType) (Fin : Option AV → Sg → Prop) (K : Nat → Lv → List AV → Sg → Prop) (pc len : Nat) (ls : Lv) (st : List AV) (σ : Sg) (i : Instr) : Prop := match i with
  | .iconst n => len = 1 ∧ K (pc + 1) ls (aI n :: st) σ
  | .bipush n => len = 2 ∧ -128 ≤ n ∧ n < 128 ∧ K (pc + 2) ls (aI n :: st) σ
  | .sipush n => len = 3 ∧ -32768 ≤ n ∧ n < 32768 ∧ K (pc + 3) ls (aI n :: st) σ
  | .lconst n => len = 1 ∧ K (pc + 1) ls (aL ((n : Nat) : Int) :: st) σ
  | .ldc n => len = 2 ∧ (match cit o n with | some v => K (pc + 2) ls (aI v :: st) σ | none => False)
  | .ldc2_w n => len = 3 ∧ (match clt o n with | some v => K (pc + 3) ls (aL v :: st) σ | none => False)
  | .iload_n k => len = 1 ∧ gI ls k fun x => K (pc + 1) ls (aI x :: st) σ
  | .iload k => len = 2 ∧ gI ls k fun x => K (pc + 2) ls (aI x :: st) σ
  | .lload_n k => len = 1 ∧ gL ls k fun x => K (pc + 1) ls (aL x :: st) σ
  | .lload k => len = 2 ∧ gL ls k fun x => K (pc + 2) ls (aL x :: st) σ
  | .aload_n k => len = 1 ∧ gR ls k fun x => K (pc + 1) ls (aR x :: st) σ
  | .aload k => len = 2 ∧ gR ls k fun x => K (pc + 2) ls (aR x :: st) σ
  | .istore_n k => len = 1 ∧ (k : Nat) < nL ∧ pI st fun x st => K (pc + 1) (lset1 ls k (aI x)) st σ
  | .istore k => len = 2 ∧ k < nL ∧ pI st fun x st => K (pc + 2) (lset1 ls k (aI x)) st σ
  | .lstore_n k => len = 1 ∧ (k : Nat) + 1 < nL ∧ pL st fun x st => K (pc + 1) (lset2 ls k (aL x)) st σ
  | .lstore k => len = 2 ∧ k + 1 < nL ∧ pL st fun x st => K (pc + 2) (lset2 ls k (aL x)) st σ
  | .astore_n k => len = 1 ∧ (k : Nat) < nL ∧ pR st fun x st => K (pc + 1) (lset1 ls k (aR x)) st σ
  | .astore k => len = 2 ∧ k < nL ∧ pR st fun x st => K (pc + 2) (lset1 ls k (aR x)) st σ
  | .iinc k n => len = 3 ∧ k < nL ∧ gI ls k fun x => K (pc + 3) (lset1 ls k (aI (x + n))) st σ
  | .iadd => len = 1 ∧ pI st fun y st => pI st fun x st => K (pc + 1) ls (aI (x + y) :: st) σ
  | .isub => len = 1 ∧ pI st fun y st => pI st fun x st => K (pc + 1) ls (aI (x - y) :: st) σ
  | .imul => len = 1 ∧ pI st fun y st => pI st fun x st => K (pc + 1) ls (aI (x * y) :: st) σ
  | .idiv => len = 1 ∧ pI st fun y st => pI st fun x st => inR x ∧ inR y ∧ y ≠ 0 ∧ K (pc + 1) ls (aI (x.tdiv y) :: st) σ
  | .irem => len = 1 ∧ pI st fun y st => pI st fun x st => inR x ∧ inR y ∧ y ≠ 0 ∧ K (pc + 1) ls (aI (x.tmod y) :: st) σ
  | .iand => len = 1 ∧ pI st fun y st => pI st fun x st => K (pc + 1) ls (aI (iand32 x y) :: st) σ
  | .ior => len = 1 ∧ pI st fun y st => pI st fun x st => K (pc + 1) ls (aI (ior32 x y) :: st) σ
  | .ishl => len = 1 ∧ pI st fun y st => pI st fun x st => K (pc + 1) ls (aI (ishl32 x y) :: st) σ
  | .ishr => len = 1 ∧ pI st fun y st => pI st fun x st => K (pc + 1) ls (aI (ishr32 x y) :: st) σ
  | .ladd => len = 1 ∧ pL st fun y st => pL st fun x st => K (pc + 1) ls (aL (x + y) :: st) σ
  | .lsub => len = 1 ∧ pL st fun y st => pL st fun x st => K (pc + 1) ls (aL (x - y) :: st) σ
  | .lmul => len = 1 ∧ pL st fun y st => pL st fun x st => K (pc + 1) ls (aL (x * y) :: st) σ
  | .ldiv => len = 1 ∧ pL st fun y st => pL st fun x st => inL x ∧ inL y ∧ y ≠ 0 ∧ K (pc + 1) ls (aL (x.tdiv y) :: st) σ
  | .lrem => len = 1 ∧ pL st fun y st => pL st fun x st => inL x ∧ inL y ∧ y ≠ 0 ∧ K (pc + 1) ls (aL (x.tmod y) :: st) σ
  | .land => len = 1 ∧ pL st fun y st => pL st fun x st => K (pc + 1) ls (aL (land64 x y) :: st) σ
  | .lor => len = 1 ∧ pL st fun y st => pL st fun x st => K (pc + 1) ls (aL (lor64 x y) :: st) σ
  | .lshl => len = 1 ∧ pI st fun y st => pL st fun x st => K (pc + 1) ls (aL (lshl64 x y) :: st) σ
  | .i2l => len = 1 ∧ pI st fun x st => inR x ∧ K (pc + 1) ls (aL x :: st) σ
  | .lcmp => len = 1 ∧ pL st fun y st => pL st fun x st => (x = y ∨ (inL x ∧ inL y)) ∧ K (pc + 1) ls (aI (lcm x y) :: st) σ
  | .dup => len = 1 ∧ (match st with | a :: t => catA a = 1 ∧ K (pc + 1) ls (a :: a :: t) σ | [] => False)
  | .dup2 => len = 1 ∧ (match st with | a :: b :: t => catA a = 1 ∧ catA b = 1 ∧ K (pc + 1) ls (a :: b :: a :: b :: t) σ | _ => False)
  | .pop => len = 1 ∧ (match st with | a :: t => catA a = 1 ∧ K (pc + 1) ls t σ | [] => False)
  | .ifCond c off => len = 3 ∧ 0 ≤ (pc : Int) + off ∧ pI st fun x st => inR x ∧ (match c with
    | .eq => br (x = 0) (jmp K pc off ls st σ) (K (pc + 3) ls st σ)
    | .ne => br (¬ x = 0) (jmp K pc off ls st σ) (K (pc + 3) ls st σ)
    | .lt => br (x < 0) (jmp K pc off ls st σ) (K (pc + 3) ls st σ)
    | .ge => br (0 ≤ x) (jmp K pc off ls st σ) (K (pc + 3) ls st σ)
    | .gt => br (0 < x) (jmp K pc off ls st σ) (K (pc + 3) ls st σ)
    | .le => br (x ≤ 0) (jmp K pc off ls st σ) (K (pc + 3) ls st σ))
  | .if_icmp c off => len = 3 ∧ 0 ≤ (pc : Int) + off ∧ pI st fun y st => pI st fun x st => inR x ∧ inR y ∧ (match c with
    | .eq => br (x = y) (jmp K pc off ls st σ) (K (pc + 3) ls st σ)
    | .ne => br (¬ x = y) (jmp K pc off ls st σ) (K (pc + 3) ls st σ)
    | .lt => br (x < y) (jmp K pc off ls st σ) (K (pc + 3) ls st σ)
    | .ge => br (y ≤ x) (jmp K pc off ls st σ) (K (pc + 3) ls st σ)
    | .gt => br (y < x) (jmp K pc off ls st σ) (K (pc + 3) ls st σ)
    | .le => br (x ≤ y) (jmp K pc off ls st σ) (K (pc + 3) ls st σ))
  | .goto off => len = 3 ∧ jmp K pc off ls st σ
  | .tableswitch dflt lo hi offs => pI st fun x st => inR x ∧ ((x < lo ∨ hi < x) → jmp K pc dflt ls st σ) ∧ offs.toList.length = (hi - lo + 1).toNat ∧ tsw K pc ls st σ x lo offs.toList
  | .getfield n => len = 3 ∧ pR st fun id st => (match ft o n with | some (C, (k, f)) => id = C ∧ K (pc + 3) ls (fav σ C k f :: st) σ | none => False)
  | .putfield n => len = 3 ∧ (match ft o n with
    | some (C, (k, 0)) => pI st fun x st => pR st fun id st => id = C ∧ K (pc + 3) ls st (up σ C k x)
    | some (C, (k, 1)) => pL st fun x st => pR st fun id st => id = C ∧ K (pc + 3) ls st (up σ C k x)
    | some (C, (k, 2)) => pI st fun x st => pR st fun id st => id = C ∧ (x = 0 ∨ x = 1) ∧ K (pc + 3) ls st (up σ C k x)
    | _ => False)
  | .getstatic n => len = 3 ∧ ((o = 5 ∧ n = 117) ∨ (o = 1 ∧ n = 99)) ∧ K (pc + 3) ls (aR 210 :: st) σ
  | .iaload => len = 1 ∧ pI st fun i st => pR st fun id st => ktag id = 1 ∧ 0 ≤ i ∧ i < klen id ∧ K (pc + 1) ls (aI (σ id i) :: st) σ
  | .baload => len = 1 ∧ pI st fun i st => pR st fun id st => ktag id = 3 ∧ 0 ≤ i ∧ i < klen id ∧ K (pc + 1) ls (aI (σ id i) :: st) σ
  | .laload => len = 1 ∧ pI st fun i st => pR st fun id st => ltag id = 2 ∧ 0 ≤ i ∧ i < llen id ∧ K (pc + 1) ls (aL (lval σ id i) :: st) σ
  | .aaload => len = 1 ∧ pI st fun i st => pR st fun id st => (ktag id = 4 ∨ ktag id = 5) ∧ 0 ≤ i ∧ i < klen id ∧ K (pc + 1) ls (aR (kbas id + i) :: st) σ
  | .iastore => len = 1 ∧ pI st fun x st => pI st fun i st => pR st fun id st => ktag id = 1 ∧ 0 ≤ i ∧ i < klen id ∧ K (pc + 1) ls st (up σ id i x)
  | .bastore => len = 1 ∧ pI st fun x st => pI st fun i st => pR st fun id st => ktag id = 3 ∧ 0 ≤ i ∧ i < klen id ∧ (x = 0 ∨ x = 1) ∧ K (pc + 1) ls st (up σ id i x)
  | .lastore => len = 1 ∧ pL st fun x st => pI st fun i st => pR st fun id st => ktag id = 2 ∧ 0 ≤ i ∧ i < klen id ∧ K (pc + 1) ls st (up σ id i x)
  | .arraylength => len = 1 ∧ pR st fun id st => ktag id = 1 ∧ K (pc + 1) ls (aI (klen id) :: st) σ
  | .invokevirtual n => len = 3 ∧ calM o d n 0 st σ fun st σ => K (pc + 3) ls st σ
  | .invokestatic n => len = 3 ∧ (match bt o n with
    | some 0 => pI st fun y st => pI st fun x st => inR x ∧ inR y ∧ cats st ≤ 8 ∧ K (pc + 3) ls (aI (if x < y then y else x) :: st) σ
    | some 1 => pI st fun y st => pI st fun x st => inR x ∧ inR y ∧ cats st ≤ 8 ∧ K (pc + 3) ls (aI (if y < x then y else x) :: st) σ
    | some _ => pI st fun n st => pI st fun dp st => pR st fun dst st => pI st fun sp st => pR st fun src st => ((ktag src = 1 ∧ ktag dst = 1) ∨ (ktag src = 2 ∧ ktag dst = 2)) ∧ 0 ≤ sp ∧ 0 ≤ dp ∧ 0 ≤ n ∧ sp + n ≤ klen src ∧ dp + n ≤ klen dst ∧ cats st ≤ 8 ∧ K (pc + 3) ls st (cpy σ src dst sp dp n)
    | none => calM o d n 1 st σ fun st σ => K (pc + 3) ls st σ)
  | .ireturn => len = 1 ∧ (match st with | [.inl x] => zOK rt x ∧ Fin (some (aI x)) σ | _ => False)
  | .lreturn => len = 1 ∧ rt = some .long ∧ (match st with | [.inr (.inl x)] => Fin (some (aL x)) σ | _ => False)
  | .return_ => len = 1 ∧ rt = none ∧ st = [] ∧ Fin none σ
  | _ => False

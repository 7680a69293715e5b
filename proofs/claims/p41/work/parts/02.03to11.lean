section
/-! A SMALL MACHINE: values, a heap of typed maps by abstract addresses (0, 1 .. as the cells are made), one instruction as a function with what follows as its continuation. -/
abbrev MV : Type := Int32 ⊕ (Int64 ⊕ Option Nat)
abbrev mI (x : Int32) : MV := Sum.inl x
abbrev mL (x : Int64) : MV := Sum.inr (Sum.inl x)
abbrev mR (r : Option Nat) : MV := Sum.inr (Sum.inr r)
/-- ints, longs, references by address and place; kind and length of each cell; how many cells, how many slots. Kinds 0 to 10: the classes; 11 int[], 12 boolean[], 13 Route[], 14 Walker[], 15 World[], 16 int[][], 17 none yet -/
abbrev MH : Type := (Nat → Nat → Int32) × (Nat → Nat → Int64) × (Nat → Nat → Option Nat) × (Nat → Nat × Nat) × Nat × Nat
abbrev MO : Type := Option MV × MH
abbrev MF : Type := List MV → MH → Option MO
abbrev MLs : Type := List (Option MV)
abbrev MK : Type := Nat → MLs → List MV → MH → Option MO
def lk {α : Type} (k : Nat) : List (Nat × α) → Option α
  | [] => none
  | q :: l => cond (Nat.beq k q.1) (some q.2) (lk k l)
def pI (st : List MV) (f : Int32 → List MV → Option MO) : Option MO := match st with
  | Sum.inl x :: r => f x r
  | _ => none
def pL (st : List MV) (f : Int64 → List MV → Option MO) : Option MO := match st with
  | Sum.inr (Sum.inl x) :: r => f x r
  | _ => none
def pR (st : List MV) (f : Option Nat → List MV → Option MO) : Option MO := match st with
  | Sum.inr (Sum.inr x) :: r => f x r
  | _ => none
/-- any value of one word -/
def pC (st : List MV) (f : MV → List MV → Option MO) : Option MO := match st with
  | Sum.inl x :: r => f (Sum.inl x) r
  | Sum.inr (Sum.inr x) :: r => f (Sum.inr (Sum.inr x)) r
  | _ => none
/-- so many values, the deepest first -/
def pN : Nat → List MV → List MV → (List MV → List MV → Option MO) → Option MO
  | 0, acc, st, f => f acc st
  | n + 1, acc, st, f => match st with
    | v :: r => pN n (v :: acc) r f
    | [] => none
def nth : MLs → Nat → Option MV
  | [], _ => none
  | v :: _, 0 => v
  | _ :: l, n + 1 => nth l n
def dl (v : Option MV) : Option MV := match v with
  | some (Sum.inr (Sum.inl _)) => none
  | w => w
def lset : MLs → Nat → MV → MLs
  | [], _, _ => []
  | _ :: l, 0, v => some v :: l
  | w :: l, n + 1, v => dl w :: lset l n v
def lI (lo : MLs) (j : Nat) (f : Int32 → Option MO) : Option MO := match nth lo j with
  | some (Sum.inl x) => f x
  | _ => none
def lL (lo : MLs) (j : Nat) (f : Int64 → Option MO) : Option MO := match nth lo j with
  | some (Sum.inr (Sum.inl x)) => f x
  | _ => none
def lR (lo : MLs) (j : Nat) (f : Option Nat → Option MO) : Option MO := match nth lo j with
  | some (Sum.inr (Sum.inr x)) => f x
  | _ => none
def asV (r : Option MV) : Option Unit := match r with
  | none => some ()
  | _ => none
def asI (r : Option MV) : Option Int32 := match r with
  | some (Sum.inl x) => some x
  | _ => none
def asR (r : Option MV) : Option (Option Nat) := match r with
  | some (Sum.inr (Sum.inr x)) => some x
  | _ => none
def up2 {α : Type} (f : Nat → Nat → α) (a k : Nat) (v : α) : Nat → Nat → α := fun x y => if x = a ∧ y = k then v else f x y
def bz (x : Int32) : Int32 := if x = 0 then 0 else 1
abbrev sI (s : MH) (a k : Nat) (v : Int32) : MH := (up2 s.1 a k v, s.2)
abbrev sL (s : MH) (a k : Nat) (v : Int64) : MH := (s.1, up2 s.2.1 a k v, s.2.2)
abbrev sR (s : MH) (a k : Nat) (v : Option Nat) : MH := (s.1, s.2.1, up2 s.2.2.1 a k v, s.2.2.2)
abbrev kd (s : MH) (a : Nat) : Nat := (s.2.2.2.1 a).1
abbrev ln (s : MH) (a : Nat) : Nat := (s.2.2.2.1 a).2
abbrev sz (s : MH) : Nat := s.2.2.2.2.1
/-- a new cell -/
abbrev al (s : MH) (d n : Nat) : MH := (fun x y => if x = s.2.2.2.2.1 then 0 else s.1 x y, fun x y => if x = s.2.2.2.2.1 then 0 else s.2.1 x y, fun x y => if x = s.2.2.2.2.1 then none else s.2.2.1 x y, fun x => if x = s.2.2.2.2.1 then (d, n) else s.2.2.2.1 x, s.2.2.2.2.1 + 1, s.2.2.2.2.2 + n)
/-- new int[n][m]: the outer row, then the inner ones -/
abbrev alM (s : MH) (n w : Nat) : MH := (fun x y => if s.2.2.2.2.1 ≤ x ∧ x < s.2.2.2.2.1 + 1 + n then 0 else s.1 x y, fun x y => if s.2.2.2.2.1 ≤ x ∧ x < s.2.2.2.2.1 + 1 + n then 0 else s.2.1 x y, fun x y => if x = s.2.2.2.2.1 then (if y < n then some (s.2.2.2.2.1 + 1 + y) else none) else if s.2.2.2.2.1 ≤ x ∧ x < s.2.2.2.2.1 + 1 + n then none else s.2.2.1 x y, fun x => if x = s.2.2.2.2.1 then (16, n) else if s.2.2.2.2.1 ≤ x ∧ x < s.2.2.2.2.1 + 1 + n then (11, w) else s.2.2.2.1 x, s.2.2.2.2.1 + 1 + n, s.2.2.2.2.2 + n + n * w)
abbrev inb (j : Int32) (n : Nat) : Prop := ¬ (j < 0 ∨ n ≤ j.toNatClampNeg)
def fI (s : MH) (c a k : Nat) : Option Int32 := if kd s a = c then some (s.1 a k) else none
def fZ (s : MH) (c a k : Nat) : Option Int32 := if kd s a = c then some (bz (s.1 a k)) else none
def fL (s : MH) (c a k : Nat) : Option Int64 := if kd s a = c then some (s.2.1 a k) else none
def fR (s : MH) (c a k : Nat) : Option (Option Nat) := if kd s a = c then some (s.2.2.1 a k) else none
def wI (s : MH) (c a k : Nat) (v : Int32) : Option MH := if kd s a = c then some (sI s a k v) else none
def wZ (s : MH) (c a k : Nat) (v : Int32) : Option MH := if kd s a = c ∧ (v = 0 ∨ v = 1) then some (sI s a k v) else none
def wL (s : MH) (c a k : Nat) (v : Int64) : Option MH := if kd s a = c then some (sL s a k v) else none
def wR (s : MH) (c a k : Nat) (v : Option Nat) : Option MH := if kd s a = c then some (sR s a k v) else none
def ld (s : MH) (d a : Nat) (j : Int32) : Option Int32 := if kd s a = d ∧ inb j (ln s a) then some (s.1 a j.toNatClampNeg) else none
def st (s : MH) (d a : Nat) (j v : Int32) : Option MH := if kd s a = d ∧ inb j (ln s a) then some (sI s a j.toNatClampNeg v) else none
def ldR (s : MH) (a : Nat) (j : Int32) : Option (Option Nat) := if (13 ≤ kd s a ∧ kd s a ≤ 16) ∧ inb j (ln s a) then some (s.2.2.1 a j.toNatClampNeg) else none
/-- what an array of references may hold: nothing, or an object of its class -/
def elt (s : MH) (d : Nat) (v : Option Nat) : Bool := match v with
  | none => true
  | some b => (d == 13 && kd s b == 4) || (d == 14 && kd s b == 7) || (d == 15 && kd s b == 8)
def stR (s : MH) (a : Nat) (j : Int32) (v : Option Nat) : Option MH := if (13 ≤ kd s a ∧ kd s a ≤ 15) ∧ inb j (ln s a) ∧ elt s (kd s a) v = true then some (sR s a j.toNatClampNeg v) else none
def aln (s : MH) (a : Nat) : Option Int32 := if 11 ≤ kd s a ∧ kd s a ≤ 16 then some (Int32.ofNat (ln s a)) else none
/-- System.arraycopy over rows of ints, both apart -/
def cpy (s : MH) (a : Nat) (sp : Int32) (b : Nat) (dp n : Int32) : Option MH := if kd s a = 11 ∧ kd s b = 11 ∧ ¬ sp < 0 ∧ ¬ dp < 0 ∧ ¬ n < 0 ∧ sp.toNatClampNeg + n.toNatClampNeg ≤ ln s a ∧ dp.toNatClampNeg + n.toNatClampNeg ≤ ln s b ∧ a ≠ b then some (fun x y => if x = b ∧ dp.toNatClampNeg ≤ y ∧ y < dp.toNatClampNeg + n.toNatClampNeg then s.1 a (sp.toNatClampNeg + (y - dp.toNatClampNeg)) else s.1 x y, s.2) else none
def nw (s : MH) (d : Nat) (n : Int32) : Option MH := if ¬ n < 0 ∧ n.toNatClampNeg ≤ 100000 then some (al s d n.toNatClampNeg) else none
def nfl (c : Nat) : Nat := match c with
  | 0 => 3 | 1 => 17 | 2 => 7 | 3 => 7 | 4 => 2 | 5 => 2 | 6 => 7 | 7 => 9 | 8 => 4 | 9 => 16 | _ => 43
/-- an instruction, the next place, where it jumps (or the kind that it makes), its constant, its long constant, its cases -/
abbrev EN : Type := Jvm.ClassFile.Instr × Nat × Nat × Int32 × Int64 × List (Int32 × Nat)
/-- a method that is called: how many arguments behind the receiver, the receiver's class (95 Math.min, 96 Math.max, 97 arraycopy, 98 Object's constructor, 99 static), 0 void 1 int 2 reference, what it does -/
abbrev CE : Type := Nat × Nat × Nat × MF
/-- code; places where a walk is cut, with the locals that are kept there; fields by their entries: class, place, 0 int 1 boolean 2 long 3 reference; calls; 0 void 1 int 2 boolean 3 reference -/
abbrev MT : Type := List (Nat × EN) × List (Nat × List Bool) × List (Nat × Nat × Nat × Nat) × List (Nat × CE) × Nat
def swt (x : Int32) (d : Nat) : List (Int32 × Nat) → (Nat → Option MO) → Option MO
  | [], f => f d
  | q :: l, f => if x = q.1 then f q.2 else swt x d l f
def psh (rk : Nat) (o : MO) (r : List MV) (f : List MV → MH → Option MO) : Option MO := match rk with
  | 0 => (asV o.1).bind fun _ => f r o.2
  | 1 => (asI o.1).bind fun x => f (mI x :: r) o.2
  | _ => (asR o.1).bind fun x => f (mR x :: r) o.2
def csum : List MV → Nat
  | [] => 0
  | v :: l => (match v with
    | Sum.inr (Sum.inl _) => 2
    | _ => 1) + csum l
/-- not too much lies on the stack at a call -/
def few (r : List MV) (f : Option MO) : Option MO := cond (Nat.ble (csum r) 8) f none
def rtI (rk : Nat) (x : Int32) (r : List MV) (s : MH) : Option MO := match r with
  | [] => match rk with
    | 1 => some (some (mI x), s)
    | 2 => if x = 0 ∨ x = 1 then some (some (mI x), s) else none
    | _ => none
  | _ => none
def rtR (rk : Nat) (x : Option Nat) (r : List MV) (s : MH) : Option MO := match r with
  | [] => match rk with
    | 3 => some (some (mR x), s)
    | _ => none
  | _ => none
def rtV (rk : Nat) (r : List MV) (s : MH) : Option MO := match r with
  | [] => match rk with
    | 0 => some (none, s)
    | _ => none
  | _ => none
def c2 (c : Jvm.ClassFile.Cond) (x y : Int32) (t f : Option MO) : Option MO := match c with
  | .eq => if x = y then t else f
  | .ne => if x = y then f else t
  | .lt => if x < y then t else f
  | .ge => if y ≤ x then t else f
  | .gt => if y < x then t else f
  | .le => if x ≤ y then t else f
def cR (r : Option Nat) (n s : Option MO) : Option MO := match r with
  | none => n
  | some _ => s
def fgt (s : MH) (q : Nat × Nat × Nat) (a : Nat) (f : MV → Option MO) : Option MO := match q.2.2 with
  | 0 => (fI s q.1 a q.2.1).bind fun v => f (mI v)
  | 1 => (fZ s q.1 a q.2.1).bind fun v => f (mI v)
  | 2 => (fL s q.1 a q.2.1).bind fun v => f (mL v)
  | _ => (fR s q.1 a q.2.1).bind fun v => f (mR v)
def fpt (s : MH) (q : Nat × Nat × Nat) (o : List MV) (f : List MV → MH → Option MO) : Option MO := match q.2.2 with
  | 0 => pI o fun v r => pR r fun b r => b.bind fun a => (wI s q.1 a q.2.1 v).bind fun t => f r t
  | 1 => pI o fun v r => pR r fun b r => b.bind fun a => (wZ s q.1 a q.2.1 v).bind fun t => f r t
  | 2 => pL o fun v r => pR r fun b r => b.bind fun a => (wL s q.1 a q.2.1 v).bind fun t => f r t
  | _ => pR o fun v r => pR r fun b r => b.bind fun a => (wR s q.1 a q.2.1 v).bind fun t => f r t
/-- one instruction -/
def stI (T : MT) (k : MK) (q : EN) (lo : MLs) (o : List MV) (s : MH) : Option MO := match q.1 with
  | .iconst _ => k q.2.1 lo (mI q.2.2.2.1 :: o) s
  | .bipush _ => k q.2.1 lo (mI q.2.2.2.1 :: o) s
  | .sipush _ => k q.2.1 lo (mI q.2.2.2.1 :: o) s
  | .ldc _ => k q.2.1 lo (mI q.2.2.2.1 :: o) s
  | .lconst _ => k q.2.1 lo (mL q.2.2.2.2.1 :: o) s
  | .ldc2_w _ => k q.2.1 lo (mL q.2.2.2.2.1 :: o) s
  | .aconst_null => k q.2.1 lo (mR none :: o) s
  | .iload j => lI lo j fun x => k q.2.1 lo (mI x :: o) s
  | .iload_n j => lI lo j.val fun x => k q.2.1 lo (mI x :: o) s
  | .lload j => lL lo j fun x => k q.2.1 lo (mL x :: o) s
  | .lload_n j => lL lo j.val fun x => k q.2.1 lo (mL x :: o) s
  | .aload j => lR lo j fun x => k q.2.1 lo (mR x :: o) s
  | .aload_n j => lR lo j.val fun x => k q.2.1 lo (mR x :: o) s
  | .istore j => pI o fun x r => k q.2.1 (lset lo j (mI x)) r s
  | .istore_n j => pI o fun x r => k q.2.1 (lset lo j.val (mI x)) r s
  | .astore j => pR o fun x r => k q.2.1 (lset lo j (mR x)) r s
  | .astore_n j => pR o fun x r => k q.2.1 (lset lo j.val (mR x)) r s
  | .iinc j _ => lI lo j fun x => k q.2.1 (lset lo j (mI (x + q.2.2.2.1))) o s
  | .dup => pC o fun v r => k q.2.1 lo (v :: v :: r) s
  | .pop => pC o fun _ r => k q.2.1 lo r s
  | .dup2 => pC o fun v r => pC r fun w r => k q.2.1 lo (v :: w :: v :: w :: r) s
  | .iadd => pI o fun y r => pI r fun x r => k q.2.1 lo (mI (x + y) :: r) s
  | .isub => pI o fun y r => pI r fun x r => k q.2.1 lo (mI (x - y) :: r) s
  | .imul => pI o fun y r => pI r fun x r => k q.2.1 lo (mI (x * y) :: r) s
  | .idiv => pI o fun y r => pI r fun x r => if y = 0 then none else k q.2.1 lo (mI (x / y) :: r) s
  | .irem => pI o fun y r => pI r fun x r => if y = 0 then none else k q.2.1 lo (mI (x - x / y * y) :: r) s
  | .iand => pI o fun y r => pI r fun x r => k q.2.1 lo (mI (x &&& y) :: r) s
  | .ior => pI o fun y r => pI r fun x r => k q.2.1 lo (mI (x ||| y) :: r) s
  | .ishl => pI o fun y r => pI r fun x r => k q.2.1 lo (mI (x <<< (y &&& 31)) :: r) s
  | .ishr => pI o fun y r => pI r fun x r => k q.2.1 lo (mI (x >>> (y &&& 31)) :: r) s
  | .iushr => pI o fun y r => pI r fun x r => k q.2.1 lo (mI (x.toUInt32 >>> (y.toUInt32 &&& Int32.toUInt32 31)).toInt32 :: r) s
  | .ladd => pL o fun y r => pL r fun x r => k q.2.1 lo (mL (x + y) :: r) s
  | .lmul => pL o fun y r => pL r fun x r => k q.2.1 lo (mL (x * y) :: r) s
  | .ldiv => pL o fun y r => pL r fun x r => if y = 0 then none else k q.2.1 lo (mL (x / y) :: r) s
  | .lrem => pL o fun y r => pL r fun x r => if y = 0 then none else k q.2.1 lo (mL (x - x / y * y) :: r) s
  | .land => pL o fun y r => pL r fun x r => k q.2.1 lo (mL (x &&& y) :: r) s
  | .i2l => pI o fun x r => k q.2.1 lo (mL x.toInt64 :: r) s
  | .l2i => pL o fun x r => k q.2.1 lo (mI x.toInt32 :: r) s
  | .lcmp => pL o fun y r => pL r fun x r => k q.2.1 lo (mI (lg_cmp x y) :: r) s
  | .ifCond c _ => pI o fun x r => c2 c x 0 (k q.2.2.1 lo r s) (k q.2.1 lo r s)
  | .if_icmp c _ => pI o fun y r => pI r fun x r => c2 c x y (k q.2.2.1 lo r s) (k q.2.1 lo r s)
  | .ifnull _ => pR o fun x r => cR x (k q.2.2.1 lo r s) (k q.2.1 lo r s)
  | .ifnonnull _ => pR o fun x r => cR x (k q.2.1 lo r s) (k q.2.2.1 lo r s)
  | .goto _ => k q.2.2.1 lo o s
  | .tableswitch _ _ _ _ => pI o fun x r => swt x q.2.2.1 q.2.2.2.2.2 fun pc => k pc lo r s
  | .lookupswitch _ _ => pI o fun x r => swt x q.2.2.1 q.2.2.2.2.2 fun pc => k pc lo r s
  | .getfield i => (lk i T.2.2.1).bind fun g => pR o fun b r => b.bind fun a => fgt s g a fun v => k q.2.1 lo (v :: r) s
  | .putfield i => (lk i T.2.2.1).bind fun g => fpt s g o fun r t => k q.2.1 lo r t
  | .arraylength => pR o fun b r => b.bind fun a => (aln s a).bind fun n => k q.2.1 lo (mI n :: r) s
  | .iaload => pI o fun j r => pR r fun b r => b.bind fun a => (ld s 11 a j).bind fun x => k q.2.1 lo (mI x :: r) s
  | .baload => pI o fun j r => pR r fun b r => b.bind fun a => (ld s 12 a j).bind fun x => k q.2.1 lo (mI x :: r) s
  | .aaload => pI o fun j r => pR r fun b r => b.bind fun a => (ldR s a j).bind fun x => k q.2.1 lo (mR x :: r) s
  | .iastore => pI o fun v r => pI r fun j r => pR r fun b r => b.bind fun a => (st s 11 a j v).bind fun t => k q.2.1 lo r t
  | .bastore => pI o fun v r => pI r fun j r => pR r fun b r => b.bind fun a => (st s 12 a j (vp_nar .boolean v)).bind fun t => k q.2.1 lo r t
  | .aastore => pR o fun v r => pI r fun j r => pR r fun b r => b.bind fun a => (stR s a j v).bind fun t => k q.2.1 lo r t
  | .new _ => k q.2.1 lo (mR (some (sz s)) :: o) (al s q.2.2.1 (nfl q.2.2.1))
  | .newarray _ => pI o fun n r => (nw s q.2.2.1 n).bind fun t => k q.2.1 lo (mR (some (sz s)) :: r) t
  | .anewarray _ => pI o fun n r => (nw s q.2.2.1 n).bind fun t => k q.2.1 lo (mR (some (sz s)) :: r) t
  | .multianewarray _ _ => pI o fun m r => pI r fun n r => if (¬ m < 0 ∧ m.toNatClampNeg ≤ 1000) ∧ ¬ n < 0 ∧ n.toNatClampNeg ≤ 1000 then k q.2.1 lo (mR (some (sz s)) :: r) (alM s n.toNatClampNeg m.toNatClampNeg) else none
  | .invokevirtual i => (lk i T.2.2.2.1).bind fun g => pN g.1 [] o fun as r => pR r fun b r => b.bind fun a => few r (if kd s a = g.2.1 then (g.2.2.2 (mR (some a) :: as) s).bind fun u => psh g.2.2.1 u r fun r t => k q.2.1 lo r t else none)
  | .invokespecial i => (lk i T.2.2.2.1).bind fun g => cond (Nat.beq g.2.1 98) (pR o fun b r => b.bind fun _ => few r (k q.2.1 lo r s)) (pN g.1 [] o fun as r => pR r fun b r => b.bind fun a => few r (if kd s a = g.2.1 then (g.2.2.2 (mR (some a) :: as) s).bind fun u => psh g.2.2.1 u r fun r t => k q.2.1 lo r t else none))
  | .invokestatic i => (lk i T.2.2.2.1).bind fun g => cond (Nat.beq g.2.1 97) (pI o fun n r => pI r fun dp r => pR r fun b r => pI r fun sp r => pR r fun a r => a.bind fun a => b.bind fun b => few r ((cpy s a sp b dp n).bind fun t => k q.2.1 lo r t)) (cond (Nat.beq g.2.1 96) (pI o fun y r => pI r fun x r => few r (k q.2.1 lo (mI (if x < y then y else x) :: r) s)) (cond (Nat.beq g.2.1 95) (pI o fun y r => pI r fun x r => few r (k q.2.1 lo (mI (if y < x then y else x) :: r) s)) (pN g.1 [] o fun as r => few r ((g.2.2.2 as s).bind fun u => psh g.2.2.1 u r fun r t => k q.2.1 lo r t))))
  | .ireturn => pI o fun x r => rtI T.2.2.2.2 x r s
  | .areturn => pR o fun x r => rtR T.2.2.2.2 x r s
  | .return_ => rtV T.2.2.2.2 o s
  | _ => none
def stp (T : MT) (k : MK) (pc : Nat) (lo : MLs) (o : List MV) (s : MH) : Option MO := (lk pc T.1).bind fun q => stI T k q lo o s
def msk : List Bool → MLs → MLs
  | b :: m, v :: l => cond b v none :: msk m l
  | _, _ => []
def cutAt (T : MT) (pc : Nat) (lo : MLs) : MLs := match lk pc T.2.1 with
  | none => lo
  | some m => msk m lo
def exec (T : MT) : Nat → MK
  | 0 => fun _ _ _ _ => none
  | n + 1 => stp T fun pc lo o s => exec T n pc (cutAt T pc lo) o s
/-- so many instructions at most, up to a place where the walk is cut -/
def segK (T : MT) (k : MK) : Nat → MK
  | 0 => k
  | n + 1 => stp T fun pc lo o s => match lk pc T.2.1 with
    | none => segK T k n pc lo o s
    | some m => k pc (msk m lo) o s
end
section
/-! A walk of the small machine: what an instruction does with its continuation, the walk without a count of steps, its unfolding. -/
def Lin (F : MK → Option MO) : Prop := (∃ o, ∀ k, F k = o) ∨ ∃ pc lo o s, ∀ k, F k = k pc lo o s
theorem lin_c (o : Option MO) : Lin (fun _ => o) := Or.inl ⟨o, fun _ => rfl⟩
theorem lin_k (pc : Nat) (lo : MLs) (o : List MV) (s : MH) : Lin (fun k => k pc lo o s) := Or.inr ⟨pc, lo, o, s, fun _ => rfl⟩
theorem lin_ite (c : Prop) [h : Decidable c] {F G : MK → Option MO} (hF : Lin F) (hG : Lin G) : Lin (fun k => if c then F k else G k) := by
  by_cases hc : c
  · simp only [hc, if_true]; exact hF
  · simp only [hc, if_false]; exact hG
theorem lin_cond (b : Bool) {F G : MK → Option MO} (hF : Lin F) (hG : Lin G) : Lin (fun k => cond b (F k) (G k)) := by
  cases b
  · exact hG
  · exact hF
theorem lin_bind {α : Type} (x : Option α) {F : α → MK → Option MO} (h : ∀ a, Lin (F a)) : Lin (fun k => x.bind fun a => F a k) := by
  cases x with
  | none => exact lin_c none
  | some a => exact h a
theorem lin_pI (o : List MV) {F : Int32 → List MV → MK → Option MO} (h : ∀ x r, Lin (F x r)) : Lin (fun k => pI o fun x r => F x r k) := by
  unfold pI
  split
  · exact h _ _
  · exact lin_c none
theorem lin_pL (o : List MV) {F : Int64 → List MV → MK → Option MO} (h : ∀ x r, Lin (F x r)) : Lin (fun k => pL o fun x r => F x r k) := by
  unfold pL
  split
  · exact h _ _
  · exact lin_c none
theorem lin_pR (o : List MV) {F : Option Nat → List MV → MK → Option MO} (h : ∀ x r, Lin (F x r)) : Lin (fun k => pR o fun x r => F x r k) := by
  unfold pR
  split
  · exact h _ _
  · exact lin_c none
theorem lin_pC (o : List MV) {F : MV → List MV → MK → Option MO} (h : ∀ x r, Lin (F x r)) : Lin (fun k => pC o fun x r => F x r k) := by
  unfold pC
  split
  · exact h _ _
  · exact h _ _
  · exact lin_c none
theorem lin_pN (n : Nat) : ∀ (acc o : List MV) {F : List MV → List MV → MK → Option MO} (_ : ∀ x r, Lin (F x r)), Lin (fun k => pN n acc o fun x r => F x r k) := by
  induction n with
  | zero => intro acc o F h; exact h _ _
  | succ n ih =>
    intro acc o F h
    cases o with
    | nil => exact lin_c none
    | cons v r => exact ih (v :: acc) r h
theorem lin_lI (lo : MLs) (j : Nat) {F : Int32 → MK → Option MO} (h : ∀ x, Lin (F x)) : Lin (fun k => lI lo j fun x => F x k) := by
  unfold lI
  split
  · exact h _
  · exact lin_c none
theorem lin_lL (lo : MLs) (j : Nat) {F : Int64 → MK → Option MO} (h : ∀ x, Lin (F x)) : Lin (fun k => lL lo j fun x => F x k) := by
  unfold lL
  split
  · exact h _
  · exact lin_c none
theorem lin_lR (lo : MLs) (j : Nat) {F : Option Nat → MK → Option MO} (h : ∀ x, Lin (F x)) : Lin (fun k => lR lo j fun x => F x k) := by
  unfold lR
  split
  · exact h _
  · exact lin_c none
theorem lin_swt (x : Int32) (d : Nat) (l : List (Int32 × Nat)) {F : Nat → MK → Option MO} (h : ∀ x, Lin (F x)) : Lin (fun k => swt x d l fun x => F x k) := by
  induction l with
  | nil => exact h _
  | cons q l ih => exact lin_ite (x = q.1) (h q.2) ih
theorem lin_psh (rk : Nat) (u : MO) (r : List MV) {F : List MV → MH → MK → Option MO} (h : ∀ x r, Lin (F x r)) : Lin (fun k => psh rk u r fun x r => F x r k) := by
  unfold psh
  split
  · exact lin_bind _ fun _ => h _ _
  · exact lin_bind _ fun _ => h _ _
  · exact lin_bind _ fun _ => h _ _
theorem lin_few (r : List MV) {F : MK → Option MO} (h : Lin F) : Lin (fun k => few r (F k)) := lin_cond _ h (lin_c none)
theorem lin_c2 (c : Jvm.ClassFile.Cond) (x y : Int32) {F G : MK → Option MO} (hF : Lin F) (hG : Lin G) : Lin (fun k => c2 c x y (F k) (G k)) := by
  cases c
  · exact lin_ite _ hF hG
  · exact lin_ite _ hG hF
  · exact lin_ite _ hF hG
  · exact lin_ite _ hF hG
  · exact lin_ite _ hF hG
  · exact lin_ite _ hF hG
theorem lin_cR (r : Option Nat) {F G : MK → Option MO} (hF : Lin F) (hG : Lin G) : Lin (fun k => cR r (F k) (G k)) := by
  cases r
  · exact hF
  · exact hG
theorem lin_fgt (s : MH) (q : Nat × Nat × Nat) (a : Nat) {F : MV → MK → Option MO} (h : ∀ x, Lin (F x)) : Lin (fun k => fgt s q a fun x => F x k) := by
  unfold fgt
  split
  · exact lin_bind _ fun _ => h _
  · exact lin_bind _ fun _ => h _
  · exact lin_bind _ fun _ => h _
  · exact lin_bind _ fun _ => h _
theorem lin_fpt (s : MH) (q : Nat × Nat × Nat) (o : List MV) {F : List MV → MH → MK → Option MO} (h : ∀ x r, Lin (F x r)) : Lin (fun k => fpt s q o fun x r => F x r k) := by
  unfold fpt
  split
  · exact lin_pI _ fun _ _ => lin_pR _ fun _ _ => lin_bind _ fun _ => lin_bind _ fun _ => h _ _
  · exact lin_pI _ fun _ _ => lin_pR _ fun _ _ => lin_bind _ fun _ => lin_bind _ fun _ => h _ _
  · exact lin_pL _ fun _ _ => lin_pR _ fun _ _ => lin_bind _ fun _ => lin_bind _ fun _ => h _ _
  · exact lin_pR _ fun _ _ => lin_pR _ fun _ _ => lin_bind _ fun _ => lin_bind _ fun _ => h _ _
set_option maxHeartbeats 4000000 in
theorem lin_stI (T : MT) (q : EN) (lo : MLs) (o : List MV) (s : MH) : Lin (fun k => stI T k q lo o s) := by
  obtain ⟨i, nx, tg, cv, cl, sw⟩ := q
  cases i <;> dsimp only [stI] <;>
    repeat' (first
      | exact lin_c _
      | exact lin_k _ _ _ _
      | (refine lin_pI _ fun _ _ => ?_)
      | (refine lin_pL _ fun _ _ => ?_)
      | (refine lin_pR _ fun _ _ => ?_)
      | (refine lin_pC _ fun _ _ => ?_)
      | (refine lin_pN _ _ _ fun _ _ => ?_)
      | (refine lin_lI _ _ fun _ => ?_)
      | (refine lin_lL _ _ fun _ => ?_)
      | (refine lin_lR _ _ fun _ => ?_)
      | (refine lin_swt _ _ _ fun _ => ?_)
      | (refine lin_psh _ _ _ fun _ _ => ?_)
      | (refine lin_fgt _ _ _ fun _ => ?_)
      | (refine lin_fpt _ _ _ fun _ _ => ?_)
      | (refine lin_few _ ?_)
      | (refine lin_c2 _ _ _ ?_ ?_)
      | (refine lin_cR _ ?_ ?_)
      | (refine lin_bind _ fun _ => ?_)
      | (refine lin_ite _ ?_ ?_)
      | (refine lin_cond _ ?_ ?_))
theorem lin_stp (T : MT) (pc : Nat) (lo : MLs) (o : List MV) (s : MH) : (∃ q, ∀ k, stp T k pc lo o s = q) ∨ ∃ pc' lo' o' s', ∀ k : MK, stp T k pc lo o s = k pc' lo' o' s' := lin_bind _ fun q => lin_stI T q lo o s
theorem exec_succ {T : MT} : ∀ (n : Nat) {pc : Nat} {lo : MLs} {o : List MV} {s : MH} {r : MO}, exec T n pc lo o s = some r → exec T (n + 1) pc lo o s = some r := by
  intro n
  induction n with
  | zero => intro pc lo o s r h; cases h
  | succ n ih =>
    intro pc lo o s r h
    have e1 : exec T (n + 1) pc lo o s = stp T (fun pc lo o s => exec T n pc (cutAt T pc lo) o s) pc lo o s := rfl
    have e2 : exec T (n + 1 + 1) pc lo o s = stp T (fun pc lo o s => exec T (n + 1) pc (cutAt T pc lo) o s) pc lo o s := rfl
    rw [e1] at h
    rw [e2]
    rcases lin_stp T pc lo o s with ⟨q, hq⟩ | ⟨pc', lo', o', s', hq⟩
    · rw [hq] at h ⊢; exact h
    · rw [hq] at h ⊢; exact ih h
theorem exec_add {T : MT} {n : Nat} {pc : Nat} {lo : MLs} {o : List MV} {s : MH} {r : MO} (h : exec T n pc lo o s = some r) : ∀ k : Nat, exec T (n + k) pc lo o s = some r
  | 0 => h
  | k + 1 => exec_succ (n + k) (exec_add h k)
theorem exec_det {T : MT} {n m : Nat} {pc : Nat} {lo : MLs} {o : List MV} {s : MH} {r r' : MO} (h : exec T n pc lo o s = some r) (h' : exec T m pc lo o s = some r') : r = r' := by
  have h1 := exec_add h m
  have h2 := exec_add h' n
  rw [Nat.add_comm m n] at h2
  exact Option.some.inj (h1.symm.trans h2)
noncomputable def Ev (T : MT) : MK := fun pc lo o s => @dite (Option MO) (∃ (r : MO) (n : Nat), exec T n pc lo o s = some r) (Classical.propDecidable _) (fun h => some (Classical.choose h)) (fun _ => none)
theorem Ev_of {T : MT} {n : Nat} {pc : Nat} {lo : MLs} {o : List MV} {s : MH} {r : MO} (h : exec T n pc lo o s = some r) : Ev T pc lo o s = some r := by
  have hx : ∃ (r : MO) (n : Nat), exec T n pc lo o s = some r := ⟨r, n, h⟩
  unfold Ev
  rw [dif_pos hx]
  obtain ⟨m, hm⟩ := Classical.choose_spec hx
  exact congrArg some (exec_det hm h)
theorem Ev_ex {T : MT} {pc : Nat} {lo : MLs} {o : List MV} {s : MH} {r : MO} (h : Ev T pc lo o s = some r) : ∃ n, exec T n pc lo o s = some r := by
  by_cases hx : ∃ (r : MO) (n : Nat), exec T n pc lo o s = some r
  · obtain ⟨r', n, hr⟩ := hx
    have := Ev_of hr
    rw [h] at this
    exact ⟨n, by rw [hr, ← this]⟩
  · unfold Ev at h
    rw [dif_neg hx] at h
    cases h
theorem Ev_unf (T : MT) (pc : Nat) (lo : MLs) (o : List MV) (s : MH) : Ev T pc lo o s = stp T (fun pc lo o s => Ev T pc (cutAt T pc lo) o s) pc lo o s := by
  have key : ∀ r, Ev T pc lo o s = some r ↔ stp T (fun pc lo o s => Ev T pc (cutAt T pc lo) o s) pc lo o s = some r := by
    intro r
    constructor
    · intro h
      obtain ⟨n, hn⟩ := Ev_ex h
      cases n with
      | zero => cases hn
      | succ n =>
        have e1 : exec T (n + 1) pc lo o s = stp T (fun pc lo o s => exec T n pc (cutAt T pc lo) o s) pc lo o s := rfl
        rw [e1] at hn
        rcases lin_stp T pc lo o s with ⟨q, hq⟩ | ⟨pc', lo', o', s', hq⟩
        · rw [hq] at hn ⊢; exact hn
        · rw [hq] at hn ⊢; exact Ev_of hn
    · intro h
      rcases lin_stp T pc lo o s with ⟨q, hq⟩ | ⟨pc', lo', o', s', hq⟩
      · refine Ev_of (n := 1) ?_
        have e1 : exec T 1 pc lo o s = stp T (fun pc lo o s => exec T 0 pc (cutAt T pc lo) o s) pc lo o s := rfl
        rw [e1]
        rw [hq] at h ⊢; exact h
      · rw [hq] at h
        obtain ⟨n, hn⟩ := Ev_ex h
        refine Ev_of (n := n + 1) ?_
        have e1 : exec T (n + 1) pc lo o s = stp T (fun pc lo o s => exec T n pc (cutAt T pc lo) o s) pc lo o s := rfl
        rw [e1, hq]
        exact hn
  cases h : Ev T pc lo o s with
  | some r => exact ((key r).mp h).symm
  | none =>
    cases h2 : stp T (fun pc lo o s => Ev T pc (cutAt T pc lo) o s) pc lo o s with
    | none => rfl
    | some r => rw [(key r).mpr h2] at h; cases h
theorem Ev_seg (T : MT) : ∀ (n : Nat) (pc : Nat) (lo : MLs) (o : List MV) (s : MH), Ev T pc lo o s = segK T (Ev T) n pc lo o s := by
  intro n
  induction n with
  | zero => intro pc lo o s; rfl
  | succ n ih =>
    intro pc lo o s
    rw [Ev_unf]
    show stp T _ pc lo o s = stp T _ pc lo o s
    congr 1
    funext pc lo o s
    unfold cutAt
    cases lk pc T.2.1 with
    | none => exact ih pc lo o s
    | some m => rfl
/-- a method by its table: its arguments are the first locals, so many locals in all -/
noncomputable def runM (T : MT) (nL : Nat) : MF := fun as s => Ev T 0 (as.map some ++ List.replicate (nL - as.length) none) [] s
end
section
/-! The small machine's heap beside the machine's: which cell stands at base + a, and that it stays so behind each write. -/
def RXc (c : Nat) : String := match c with
  | 0 => RX0 | 1 => RX1 | 2 => RX2 | 3 => RX3 | 4 => RX4 | 5 => RX5 | 6 => RX6 | 7 => RX7 | 8 => RX8 | 9 => RX9 | _ => RX10
def TXc (c : Nat) : u_T := match c with
  | 0 => TX0 | 1 => TX1 | 2 => TX2 | 3 => TX3 | 4 => TX4 | 5 => TX5 | 6 => TX6 | 7 => TX7 | 8 => TX8 | 9 => TX9 | _ => TX10
def tyc (c : Nat) : Nat → FieldType := match c with
  | 0 => tyX0 | 1 => tyX1 | 2 => tyX2 | 3 => tyX3 | 4 => tyX4 | 5 => tyX5 | 6 => tyX6 | 7 => tyX7 | 8 => tyX8 | 9 => tyX9 | _ => tyX10
def mcl : List vw_C := [(RX0, TX0, 3), (RX1, TX1, 17), (RX2, TX2, 7), (RX3, TX3, 7), (RX4, TX4, 2), (RX5, TX5, 2), (RX6, TX6, 7), (RX7, TX7, 9), (RX8, TX8, 4), (RX9, TX9, 16), (RX10, TX10, 43)]
theorem le10 {P : Nat → Prop} (h0 : P 0) (h1 : P 1) (h2 : P 2) (h3 : P 3) (h4 : P 4) (h5 : P 5) (h6 : P 6) (h7 : P 7) (h8 : P 8) (h9 : P 9) (h10 : P 10) : ∀ c, c ≤ 10 → P c
  | 0, _ => h0 | 1, _ => h1 | 2, _ => h2 | 3, _ => h3 | 4, _ => h4 | 5, _ => h5 | 6, _ => h6 | 7, _ => h7 | 8, _ => h8 | 9, _ => h9 | 10, _ => h10
  | n + 11, h => absurd h (by omega)
theorem mcl_at : ∀ c, c ≤ 10 → mcl[c]? = some (RXc c, TXc c, nfl c) := le10 rfl rfl rfl rfl rfl rfl rfl rfl rfl rfl rfl
theorem ty_ok : ∀ c, c ≤ 10 → ∀ k, k < nfl c → parseFieldDescriptor (TXc c k).2.2.1 = some (tyc c k) := le10 tyX0_ok tyX1_ok tyX2_ok tyX3_ok tyX4_ok tyX5_ok tyX6_ok tyX7_ok tyX8_ok tyX9_ok tyX10_ok
theorem nm_ok : ∀ c, c ≤ 10 → ∀ a, a < nfl c → ∀ b, b < nfl c → a ≠ b → (TXc c a).2.1 ≠ (TXc c b).2.1 := le10 nmX0 nmX1 nmX2 nmX3 nmX4 nmX5 nmX6 nmX7 nmX8 nmX9 nmX10
theorem own_ok : ∀ c, c ≤ 10 → ∀ k, k < nfl c → (TXc c k).1 = RXc c := by
  refine le10 ?_ ?_ ?_ ?_ ?_ ?_ ?_ ?_ ?_ ?_ ?_ <;> decide +kernel
def isNestW (w : Cond) : Bool := match w with
  | .fieldLinkNest .. => true
  | .methodLinkNest .. => true
  | _ => false
def lw_nest : List Cond := tables_1.filter isNestW
def lw_good : List Cond := lw_tbl.filter goodWord
theorem lw_goodIn : GoodIn lw_good lw_good := fun w h => ⟨h, good_of_word (List.mem_filter.mp h).2⟩
theorem in_good {w : Cond} (h : w ∈ tables_1) (g : goodWord w = true) : w ∈ lw_good := List.mem_filter.mpr ⟨List.mem_append_right _ h, g⟩
theorem in_nest {w : Cond} (h : w ∈ tables_1) (g : isNestW w = true) : w ∈ lw_nest := List.mem_filter.mpr ⟨h, g⟩
/-- words by their places -/
theorem in_places {ws : List Cond} (ps : List Nat) (hp : ws = ps.filterMap (fun i => tables_1[i]?)) (h : ws.all goodWord = true) : ∀ w ∈ ws, w ∈ lw_good := by
  intro w hw
  have h1 := List.all_eq_true.mp h w hw
  rw [hp] at hw
  obtain ⟨i, -, hi⟩ := List.mem_filterMap.mp hw
  exact in_good (List.mem_of_getElem? hi) h1
def mval (base : Nat) (v : MV) : Value := match v with
  | Sum.inl x => .int x
  | Sum.inr (Sum.inl x) => .long x
  | Sum.inr (Sum.inr r) => va_rf (r.map (fun a => base + a))
def ftc (t : FieldType) : Nat := match t with
  | .int => 0
  | .boolean => 1
  | .long => 2
  | _ => 3
/-- a field's value by its type -/
def mfv (base : Nat) (s : MH) (a k : Nat) (t : Nat) : Value := match t with
  | 0 => .int (s.1 a k)
  | 1 => .int (bz (s.1 a k))
  | 2 => .long (s.2.1 a k)
  | _ => va_rf ((s.2.2.1 a k).map (fun a => base + a))
def mfs (base : Nat) (s : MH) (a c : Nat) : List Value := (List.range (nfl c)).map fun k => mfv base s a k (ftc (tyc c k))
def mcell (cy : Nat → ClassId) (base : Nat) (s : MH) (a : Nat) : va_E :=
  if kd s a ≤ 10 then .inr (kd s a, mfs base s a (kd s a))
  else if kd s a ≤ 12 then .inl (cy (kd s a), ln s a, .inl (s.1 a))
  else .inl (cy (kd s a), ln s a, .inr (.inr (.inr (.inr fun j => (s.2.2.1 a j).map (fun a => base + a)))))
def mty (cy : Nat → ClassId) : List (ClassId × FieldType) := [(cy 11, .int), (cy 12, .boolean), (cy 13, .object RX4), (cy 14, .object RX7), (cy 15, .object RX8), (cy 16, .array .int)]
def HR (D : va_G) (cy : Nat → ClassId) (base : Nat) (s : MH) (H : Heap) : Prop :=
  H.size = base + sz s ∧ (∀ a, a < sz s → kd s a ≤ 16 ∧ va_at D mcl (base + a, mcell cy base s a) H) ∧ ∀ a, sz s ≤ a → kd s a = 17
theorem HR.lt {D : va_G} {cy : Nat → ClassId} {base : Nat} {s : MH} {H : Heap} (h : HR D cy base s H) {a : Nat} (hk : kd s a ≤ 16) : a < sz s := by
  rcases Nat.lt_or_ge a (sz s) with q | q
  · exact q
  · have := h.2.2 a q; omega
theorem HR.cell {D : va_G} {cy : Nat → ClassId} {base : Nat} {s : MH} {H : Heap} (h : HR D cy base s H) {a : Nat} (hk : kd s a ≤ 16) : va_at D mcl (base + a, mcell cy base s a) H := (h.2.1 a (h.lt hk)).2
theorem HR.obj {D : va_G} {cy : Nat → ClassId} {base : Nat} {s : MH} {H : Heap} (h : HR D cy base s H) {a c : Nat} (hk : kd s a = c) (hc : c ≤ 10) : va_at D mcl (base + a, .inr (c, mfs base s a c)) H := by
  subst hk
  have := h.cell (a := a) (by omega)
  unfold mcell at this
  rw [if_pos hc] at this
  exact this
theorem HR.ints {D : va_G} {cy : Nat → ClassId} {base : Nat} {s : MH} {H : Heap} (h : HR D cy base s H) {a d : Nat} (hk : kd s a = d) (h1 : 11 ≤ d) (h2 : d ≤ 12) : va_at D mcl (base + a, .inl (cy d, ln s a, .inl (s.1 a))) H := by
  subst hk
  have := h.cell (a := a) (by omega)
  unfold mcell at this
  rw [if_neg (by omega), if_pos h2] at this
  exact this
theorem HR.refs {D : va_G} {cy : Nat → ClassId} {base : Nat} {s : MH} {H : Heap} (h : HR D cy base s H) {a d : Nat} (hk : kd s a = d) (h1 : 13 ≤ d) (h2 : d ≤ 16) : va_at D mcl (base + a, .inl (cy d, ln s a, .inr (.inr (.inr (.inr fun j => (s.2.2.1 a j).map (fun a => base + a)))))) H := by
  subst hk
  have := h.cell (a := a) (by omega)
  unfold mcell at this
  rw [if_neg (by omega), if_neg (by omega)] at this
  exact this
/-- one cell was written -/
theorem HR.upd {D : va_G} {cy : Nat → ClassId} {base : Nat} {s s' : MH} {H H1 : Heap} (h : HR D cy base s H) (hz : sz s' = sz s) (hs : s'.2.2.2.1 = s.2.2.2.1) {a : Nat} (hcell : va_at D mcl (base + a, mcell cy base s' a) H1) (hsize : H1.size = H.size) (ho : ∀ q : Nat, q ≠ base + a → H1[q]? = H[q]?) (hb : ∀ b, b ≠ a → mcell cy base s' b = mcell cy base s b) : HR D cy base s' H1 := by
  have hk : ∀ b, kd s' b = kd s b := fun b => by show (s'.2.2.2.1 b).1 = _; rw [hs]
  refine ⟨by rw [hsize, hz]; exact h.1, fun b hbz => ?_, fun b hbz => by rw [hk]; exact h.2.2 b (by rw [← hz]; exact hbz)⟩
  rw [hz] at hbz
  refine ⟨by rw [hk]; exact (h.2.1 b hbz).1, ?_⟩
  by_cases e : b = a
  · subst e; exact hcell
  · rw [hb b e]
    exact (h.2.1 b hbz).2.kept (ho _ (by show base + b ≠ base + a; omega))
theorem mcell_same {cy : Nat → ClassId} {base : Nat} {s s' : MH} {b : Nat} (h0 : s'.2.2.2.1 b = s.2.2.2.1 b) (h1 : s'.1 b = s.1 b) (h2 : s'.2.1 b = s.2.1 b) (h3 : s'.2.2.1 b = s.2.2.1 b) : mcell cy base s' b = mcell cy base s b := by
  have e : mfs base s' b = mfs base s b := by
    funext c
    unfold mfs
    congr 1
    funext k
    unfold mfv
    rw [h1, h2, h3]
  have hk : kd s' b = kd s b := by show (s'.2.2.2.1 b).1 = _; rw [h0]
  have hl : ln s' b = ln s b := by show (s'.2.2.2.1 b).2 = _; rw [h0]
  unfold mcell
  rw [hk, hl, h1, h3, e]
theorem up2_ne {α : Type} (f : Nat → Nat → α) (a k : Nat) (v : α) {b : Nat} (h : b ≠ a) : up2 f a k v b = f b := by
  funext y
  simp [up2, h]
theorem up2_at {α : Type} (f : Nat → Nat → α) (a k : Nat) (v : α) (j : Nat) : up2 f a k v a j = if j = k then v else f a j := by
  simp [up2]
theorem mfs_len (base : Nat) (s : MH) (a c : Nat) : (mfs base s a c).length = nfl c := by simp [mfs]
theorem mfs_get (base : Nat) (s : MH) (a : Nat) {c k : Nat} (hk : k < nfl c) : (mfs base s a c)[k]? = some (mfv base s a k (ftc (tyc c k))) := by
  simp [mfs, hk]
/-- a row of fields with one of them written -/
theorem mfs_set {base : Nat} {s s' : MH} {a c k : Nat} {v : Value} (hv : mfv base s' a k (ftc (tyc c k)) = v) (ho : ∀ j, j ≠ k → ∀ t, mfv base s' a j t = mfv base s a j t) : (mfs base s a c).set k v = mfs base s' a c := by
  apply List.ext_getElem?
  intro j
  rw [List.getElem?_set]
  by_cases hj : j < nfl c
  · rw [mfs_get base s' a hj, mfs_get base s a hj]
    by_cases e : k = j
    · subst e
      rw [if_pos rfl, if_pos (by rw [mfs_len]; exact hj), hv]
    · rw [if_neg e, ho j (Ne.symm e)]
  · have h1 : (mfs base s a c)[j]? = none := by rw [List.getElem?_eq_none]; rw [mfs_len]; omega
    have h2 : (mfs base s' a c)[j]? = none := by rw [List.getElem?_eq_none]; rw [mfs_len]; omega
    rw [h1, h2]
    by_cases e : k = j
    · subst e
      rw [if_pos rfl, if_neg (by rw [mfs_len]; exact hj)]
    · rw [if_neg e]
end
section
/-! Rows: an instruction of the machine that reads or writes the heap, over HR. -/
section ROWS
variable {p : Program} {l : Launch} {e : Env} {R : Room} {s : State} {m : MethodId} {args : Array Value} {below : List Frame} {meth : Method} {c : Code} {H : Heap} {locs : List Loc} {cells slots : Nat} {Q : State → Prop}
variable {cc : ByteArray} {pc : Nat} {ls : Array Slot} {rest : List Value} {D : va_G} {cy : Nat → ClassId} {base : Nat} {H0 : Heap} {u : MH}
/-- the fields' words stand among the good ones -/
def FW : Prop := ∀ ci, ci ≤ 10 → ∀ w ∈ u_ws (RXc ci) (TXc ci) (nfl ci), w ∈ lw_good
/-- an entry of a class that names a field -/
def FLk (own : String) (i ci fk : Nat) (s : State) (args : Array Value) : Prop := (Cond.fieldLink own i (RXc ci) (TXc ci fk).2.1 (TXc ci fk).2.2.1).before args s = true ∨ (Cond.fieldLinkNest own i (RXc ci) (TXc ci fk).2.1 (TXc ci fk).2.2.1 "NameKeeper").before args s = true
theorem hr_get (hF : FW) (hx : p.tables.exec = Jvm.exec) (hb : c.code = cc) (hts : ∀ w ∈ lw_good, w.before args s = true) {own : String} (hown : s.vm.findClass own = some m.cls) (hK : va_K D mcl (mty cy) s) (hH : HR D cy base u H) {a ci fk i : Nat} (hk : kd u a = ci) (hci : ci ≤ 10) (hfk : fk < nfl ci) (hlink : FLk own i ci fk s args) (hdg : decode cc pc = .ok (.getfield i, 3))
    (kk : W p l e R s m args below meth c H locs cells slots Q (F0 m (pc + 3) ls (mfv base u a fk (ftc (tyc ci fk)) :: rest))) : W p l e R s m args below meth c H locs cells slots Q (F0 m pc ls (.ref (base + a) :: rest)) := by
  have hP : va_P D mcl [(base + a, .inr (ci, mfs base u a ci))] H := fun k q hq => by
    cases k with
    | zero => cases hq; exact hH.obj hk hci
    | succ k => simp at hq
  have hsame : ∀ x, s.fieldFound? (TXc ci fk).1 (TXc ci fk).2.1 (TXc ci fk).2.2.1 = some x → s.fieldFound? (RXc ci) (TXc ci fk).2.1 (TXc ci fk).2.2.1 = some x := fun x h => by rw [← own_ok ci hci fk hfk]; exact h
  rcases hlink with h | h
  · exact va_get hx hb hts (hF ci hci) hown hK hP 0 rfl (mcl_at ci hci) fk hfk h hsame (mfs_get base u a hfk) hdg kk
  · exact va_getN hx hb hts (hF ci hci) hown hK hP 0 rfl (mcl_at ci hci) fk hfk h hsame (mfs_get base u a hfk) hdg kk
theorem va_S.wr {A : Nat → Prop} {H0 H H1 : Heap} {locs L : List Loc} {a : Nat} (h : va_S A H0 H locs) (z : H1.size = H.size) (oq : ∀ q : Nat, q ≠ a → H1[q]? = H[q]?) (ha : A a) (hL : ∀ q ∈ L, q.base = a) : va_S A H0 H1 (locs ++ L) := by
  refine ⟨by rw [z]; exact h.1, fun q h1 h2 => ?_, fun q hq => ?_⟩
  · rw [oq q (fun e => h2 (by rw [e]; exact ha))]
    exact h.2.1 q h1 h2
  · rcases List.mem_append.mp hq with h1 | h1
    · exact h.2.2 q h1
    · rw [hL q h1]; exact ha
/-- putfield: the value v of the field fk, s' the heap behind it -/
theorem hr_put (hF : FW) (hx : p.tables.exec = Jvm.exec) (hb : c.code = cc) (hts : ∀ w ∈ lw_good, w.before args s = true) {own : String} (hown : s.vm.findClass own = some m.cls) (hK : va_K D mcl (mty cy) s) (hH : HR D cy base u H) (hS : va_S (fun q => base ≤ q) H0 H locs) {a ci fk i : Nat} (hk : kd u a = ci) (hci : ci ≤ 10) (hfk : fk < nfl ci) (hlink : FLk own i ci fk s args)
    (hfin : (TXc ci fk).2.2.2 = false ∨ (meth.name = "<init>" ∧ RXc ci = own ∧ (Cond.fieldLink own i (RXc ci) (TXc ci fk).2.1 (TXc ci fk).2.2.1).before args s = true)) {v : Value} (hn : narrow (tyc ci fk) v = v) (hfit : fits (tyc ci fk) v = true) {u' : MH} (hz : sz u' = sz u) (hs : u'.2.2.2.1 = u.2.2.2.1) (hv : mfv base u' a fk (ftc (tyc ci fk)) = v) (ho : ∀ j, j ≠ fk → ∀ t, mfv base u' a j t = mfv base u a j t) (hb2 : ∀ b, b ≠ a → mcell cy base u' b = mcell cy base u b)
    (hdg : decode cc pc = .ok (.putfield i, 3)) (kk : ∀ (H1 : Heap) (locs1 : List Loc), HR D cy base u' H1 → va_S (fun q => base ≤ q) H0 H1 locs1 → W p l e R s m args below meth c H1 locs1 cells slots Q (F0 m (pc + 3) ls rest)) : W p l e R s m args below meth c H locs cells slots Q (F0 m pc ls (v :: .ref (base + a) :: rest)) := by
  have hc := mcl_at ci hci
  have hap := va_apart (own := own) hts (hF ci hci) (tyc ci) (ty_ok ci hci) (nm_ok ci hci) hK hc
  obtain ⟨r, h1, cell, q1, q2, q3, q4⟩ := hH.obj hk hci
  have hr : r = (RXc ci, TXc ci, nfl ci) := Option.some.inj (h1.symm.trans hc)
  subst hr
  obtain ⟨hSl, hfc, kC, hkC, hkind⟩ := hK.1 ci _ hc
  obtain ⟨cf, kf, fi, f, hi, hsl⟩ := hSl fk hfk
  have hd := ty_ok ci hci fk hfk
  have hlay0 := u_lays hts (hF ci hci) hfk
  have hst := (u_facts hfc hkC hlay0 hi).1
  have hi2 : s.fieldFound? (RXc ci) (TXc ci fk).2.1 (TXc ci fk).2.2.1 = some (cf, kf, fi, f) := by rw [← own_ok ci hci fk hfk]; exact hi
  have hkd : kd u' a = ci := by show (u'.2.2.2.1 a).1 = ci; rw [hs]; exact hk
  have fin : ∀ H' : Heap, H'[base + a]? = some (cell.setSlot f.slot v) → H'.size = H.size → (∀ q, q ≠ base + a → H'[q]? = H[q]?) → W p l e R s m args below meth c H' (locs ++ [⟨base + a, f.slot⟩]) cells slots Q (F0 m (pc + 3) ls rest) := by
    intro H' e1 e2 e3
    rw [hsl] at e1 ⊢
    refine kk H' _ (hH.upd hz hs (a := a) ?_ e2 e3 hb2) (hS.wr e2 e3 (Nat.le_add_right _ _) (fun q hq => by rw [List.mem_singleton.mp hq]))
    unfold mcell
    rw [hkd, if_pos hci]
    have := mfs_set (c := ci) hv ho
    rw [← this]
    exact ⟨_, hc, t_OB.to (V := updV (vp_V (mfs base u a ci)) fk v) ⟨_, e1, q2, q3, t_set q4 hap hfk v⟩ (fun j _ => vp_updV_set (by rw [mfs_len]; exact hfk) v j)⟩
  have hsz : f.slot < cell.slots.size := by rw [hsl]; exact k2_hasslot (q4 fk hfk)
  cases hff : (TXc ci fk).2.2.2 with
  | false =>
    have hlay := hts _ (hF ci hci _ (u_in_lay hfk))
    unfold u_lay at hlay
    rw [if_neg (by rw [hff]; decide)] at hlay
    have h6 := u_store hfc hkC hkind hlay hi hd hn hfit
    rcases hlink with hl | hl
    · exact W.putK hx hb (f := f) ⟨hown, hl, ⟨_, _, _, hi2⟩, hst⟩ (by rw [q2]; exact h6) q1 q3 hsz rfl rfl hdg fin
    · exact va_WputK hx hb (f := f) hown hl hi2 hst (by rw [q2]; exact h6) q1 q3 hsz rfl rfl hdg fin
  | true =>
    rcases hfin with hfin | ⟨hin2, hdecl, hl⟩
    · rw [hff] at hfin; cases hfin
    · have hlay := hts _ (hF ci hci _ (u_in_lay hfk))
      unfold u_lay at hlay
      rw [if_pos hff] at hlay
      have hcf : m.cls = cf := by
        obtain ⟨_, _, c', _, _, _, -, -, hf', -, -, -, hown2, -⟩ := Cond.laysFinal_spec hlay
        have e1 : c' = cf := by have := hi.symm.trans hf'; simp at this; exact this.1.symm
        rw [own_ok ci hci fk hfk, hdecl] at hown2
        rw [← e1]; exact Option.some.inj (hown.symm.trans hown2)
      have h6 := u_fits hfc hkC hkind (Or.inr hlay) hi hd hn hfit
      exact W.putFinK hx hb hown hl hi2 hst hcf hin2 (by rw [q2]; exact h6) q1 q3 hsz rfl rfl hdg fin
theorem hr_len (hx : p.tables.exec = Jvm.exec) (hb : c.code = cc) (hK : va_K D mcl (mty cy) s) (hH : HR D cy base u H) {a : Nat} (h1 : 11 ≤ kd u a) (h2 : kd u a ≤ 16) (hdg : decode cc pc = .ok (.arraylength, 1))
    (kk : W p l e R s m args below meth c H locs cells slots Q (F0 m (pc + 1) ls (.int (Int32.ofNat (ln u a)) :: rest))) : W p l e R s m args below meth c H locs cells slots Q (F0 m pc ls (.ref (base + a) :: rest)) := by
  have hcell := hH.cell (a := a) h2
  unfold mcell at hcell
  rw [if_neg (by omega)] at hcell
  have go : ∀ (x : vp_A), x.1 = ln u a → va_at D mcl (base + a, .inl (cy (kd u a), x)) H → W p l e R s m args below meth c H locs cells slots Q (F0 m pc ls (.ref (base + a) :: rest)) := by
    intro x hxl hat
    have hP : va_P D mcl [(base + a, .inl (cy (kd u a), x))] H := fun k q hq => by
      cases k with
      | zero => cases hq; exact hat
      | succ k => simp at hq
    have hd : kd u a = 11 ∨ kd u a = 12 ∨ kd u a = 13 ∨ kd u a = 14 ∨ kd u a = 15 ∨ kd u a = 16 := by omega
    rcases hd with hd | hd | hd | hd | hd | hd <;> rw [hd] at hP
    · exact va_alen hx hb hK hP 0 0 rfl (ty := .int) rfl (by rw [hxl]) hdg kk
    · exact va_alen hx hb hK hP 0 1 rfl (ty := .boolean) rfl (by rw [hxl]) hdg kk
    · exact va_alen hx hb hK hP 0 2 rfl (ty := .object RX4) rfl (by rw [hxl]) hdg kk
    · exact va_alen hx hb hK hP 0 3 rfl (ty := .object RX7) rfl (by rw [hxl]) hdg kk
    · exact va_alen hx hb hK hP 0 4 rfl (ty := .object RX8) rfl (by rw [hxl]) hdg kk
    · exact va_alen hx hb hK hP 0 5 rfl (ty := .array .int) rfl (by rw [hxl]) hdg kk
  by_cases h12 : kd u a ≤ 12
  · rw [if_pos h12] at hcell; exact go _ rfl hcell
  · rw [if_neg h12] at hcell; exact go _ rfl hcell
theorem hr_iald (hx : p.tables.exec = Jvm.exec) (hb : c.code = cc) (hK : va_K D mcl (mty cy) s) (hH : HR D cy base u H) {a : Nat} (hk : kd u a = 11) {j : Int32} (hin : inb j (ln u a)) (hdg : decode cc pc = .ok (.iaload, 1))
    (kk : W p l e R s m args below meth c H locs cells slots Q (F0 m (pc + 1) ls (.int (u.1 a j.toNatClampNeg) :: rest))) : W p l e R s m args below meth c H locs cells slots Q (F0 m pc ls (.int j :: .ref (base + a) :: rest)) := by
  have hP : va_P D mcl [(base + a, .inl (cy 11, ln u a, .inl (u.1 a)))] H := fun k q hq => by
    cases k with
    | zero => cases hq; exact hH.ints hk (by omega) (by omega)
    | succ k => simp at hq
  exact va_iald hx hb hK hP 0 0 rfl rfl hin hdg kk
theorem hr_zald (hx : p.tables.exec = Jvm.exec) (hb : c.code = cc) (hK : va_K D mcl (mty cy) s) (hH : HR D cy base u H) {a : Nat} (hk : kd u a = 12) {j : Int32} (hin : inb j (ln u a)) (hdg : decode cc pc = .ok (.baload, 1))
    (kk : W p l e R s m args below meth c H locs cells slots Q (F0 m (pc + 1) ls (.int (u.1 a j.toNatClampNeg) :: rest))) : W p l e R s m args below meth c H locs cells slots Q (F0 m pc ls (.int j :: .ref (base + a) :: rest)) := by
  have hP : va_P D mcl [(base + a, .inl (cy 12, ln u a, .inl (u.1 a)))] H := fun k q hq => by
    cases k with
    | zero => cases hq; exact hH.ints hk (by omega) (by omega)
    | succ k => simp at hq
  exact va_zald hx hb hK hP 0 1 rfl rfl hin hdg kk
theorem hr_aald (hx : p.tables.exec = Jvm.exec) (hb : c.code = cc) (hK : va_K D mcl (mty cy) s) (hH : HR D cy base u H) {a : Nat} (h1 : 13 ≤ kd u a) (h2 : kd u a ≤ 16) {j : Int32} (hin : inb j (ln u a)) (hdg : decode cc pc = .ok (.aaload, 1))
    (kk : W p l e R s m args below meth c H locs cells slots Q (F0 m (pc + 1) ls (va_rf ((u.2.2.1 a j.toNatClampNeg).map (fun a => base + a)) :: rest))) : W p l e R s m args below meth c H locs cells slots Q (F0 m pc ls (.int j :: .ref (base + a) :: rest)) := by
  have hP : va_P D mcl [(base + a, .inl (cy (kd u a), ln u a, .inr (.inr (.inr (.inr fun j => (u.2.2.1 a j).map (fun a => base + a))))))] H := fun k q hq => by
    cases k with
    | zero => cases hq; exact hH.refs rfl h1 h2
    | succ k => simp at hq
  have hd : kd u a = 13 ∨ kd u a = 14 ∨ kd u a = 15 ∨ kd u a = 16 := by omega
  have hlt : j.toNatClampNeg < ln u a := Nat.not_le.mp fun q => hin (Or.inr q)
  rcases hd with hd | hd | hd | hd <;> rw [hd] at hP
  · exact va_aldq hx hb hK hP 0 2 rfl (C := RX4) rfl hin hdg kk
  · exact va_aldq hx hb hK hP 0 3 rfl (C := RX7) rfl hin hdg kk
  · exact va_aldq hx hb hK hP 0 4 rfl (C := RX8) rfl hin hdg kk
  · exact W.aald (v := va_rf ((u.2.2.1 a j.toNatClampNeg).map (fun a => base + a))) (ty := .array .int) hx hb (hP 0 _ rfl) ((hK.2 5 _ rfl).1 (ln u a) (fun j => va_rf ((u.2.2.1 a j).map (fun a => base + a)))) rfl (fun q => by cases q) (by show ¬ (j < 0 ∨ (arrV _ _ _).slots.size ≤ _); rw [arrV_size]; exact hin) (by show (arrV _ _ _).slots[_]? = _; rw [arrV_read _ _ hlt]) rfl rfl hdg kk
/-- a cell of ints behind a store -/
theorem hr_sI {a : Nat} {d : Nat} (hk : kd u a = d) (h1 : 11 ≤ d) (h2 : d ≤ 12) {H1 : Heap} (hH : HR D cy base u H) {k : Nat} {x : Int32} (e : H1[base + a]? = some ((vp_cell (cy d) (ln u a, .inl (u.1 a))).setSlot k (.int x))) (z : H1.size = H.size) (oq : ∀ q, q ≠ base + a → H1[q]? = H[q]?) : HR D cy base (sI u a k x) H1 := by
  refine hH.upd rfl rfl (a := a) ?_ z oq (fun b hb => mcell_same rfl (up2_ne _ _ _ _ hb) rfl rfl)
  have hkd : kd (sI u a k x) a = d := hk
  unfold mcell
  rw [hkd, if_neg (by omega), if_pos h2]
  show H1[base + a]? = some (vp_cell _ _)
  rw [e, vp_cell_i, vp_cell_i, arrV_store]
  congr 2
  funext q
  by_cases hq : q = k
  · subst hq; simp [updV, up2]
  · simp [updV, up2, hq]
theorem hr_iast (hx : p.tables.exec = Jvm.exec) (hb : c.code = cc) (hK : va_K D mcl (mty cy) s) (hH : HR D cy base u H) (hS : va_S (fun q => base ≤ q) H0 H locs) {a : Nat} (hk : kd u a = 11) {j x : Int32} (hin : inb j (ln u a)) (hdg : decode cc pc = .ok (.iastore, 1))
    (kk : ∀ (H1 : Heap) (locs1 : List Loc), HR D cy base (sI u a j.toNatClampNeg x) H1 → va_S (fun q => base ≤ q) H0 H1 locs1 → W p l e R s m args below meth c H1 locs1 cells slots Q (F0 m (pc + 1) ls rest)) : W p l e R s m args below meth c H locs cells slots Q (F0 m pc ls (.int x :: .int j :: .ref (base + a) :: rest)) := by
  have hat : va_at D mcl (base + a, .inl (cy 11, ln u a, .inl (u.1 a))) H := hH.ints hk (by omega) (by omega)
  refine W.iast hx hb hat ((hK.2 0 _ rfl).1 (ln u a) (fun j => .int (u.1 a j))) (fun q => by cases q) (by show ¬ (j < 0 ∨ (arrV _ _ _).slots.size ≤ _); rw [arrV_size]; exact hin) rfl rfl hdg fun H1 e z oq => ?_
  exact kk H1 _ (hr_sI hk (by omega) (by omega) hH e z oq) (hS.wr z oq (Nat.le_add_right _ _) (fun q hq => by rw [List.mem_singleton.mp hq]))
theorem hr_zast (hx : p.tables.exec = Jvm.exec) (hb : c.code = cc) (hK : va_K D mcl (mty cy) s) (hH : HR D cy base u H) (hS : va_S (fun q => base ≤ q) H0 H locs) {a : Nat} (hk : kd u a = 12) {j x : Int32} (hin : inb j (ln u a)) (hdg : decode cc pc = .ok (.bastore, 1))
    (kk : ∀ (H1 : Heap) (locs1 : List Loc), HR D cy base (sI u a j.toNatClampNeg (vp_nar .boolean x)) H1 → va_S (fun q => base ≤ q) H0 H1 locs1 → W p l e R s m args below meth c H1 locs1 cells slots Q (F0 m (pc + 1) ls rest)) : W p l e R s m args below meth c H locs cells slots Q (F0 m pc ls (.int x :: .int j :: .ref (base + a) :: rest)) := by
  have hat : va_at D mcl (base + a, .inl (cy 12, ln u a, .inl (u.1 a))) H := hH.ints hk (by omega) (by omega)
  refine W.zast hx hb hat ((hK.2 1 _ rfl).1 (ln u a) (fun j => .int (u.1 a j))) (fun q => by cases q) (by show ¬ (j < 0 ∨ (arrV _ _ _).slots.size ≤ _); rw [arrV_size]; exact hin) rfl rfl hdg fun H1 e z oq => ?_
  exact kk H1 _ (hr_sI hk (by omega) (by omega) hH e z oq) (hS.wr z oq (Nat.le_add_right _ _) (fun q hq => by rw [List.mem_singleton.mp hq]))
/-- a cell of references behind a store -/
theorem hr_sR {a : Nat} {d : Nat} (hk : kd u a = d) (h1 : 13 ≤ d) (h2 : d ≤ 16) {H1 : Heap} (hH : HR D cy base u H) {k : Nat} {v : Option Nat} (e : H1[base + a]? = some ((vp_cell (cy d) (ln u a, .inr (.inr (.inr (.inr fun j => (u.2.2.1 a j).map (fun a => base + a)))))).setSlot k (va_rf (v.map (fun a => base + a))))) (z : H1.size = H.size) (oq : ∀ q, q ≠ base + a → H1[q]? = H[q]?) : HR D cy base (sR u a k v) H1 := by
  refine hH.upd rfl rfl (a := a) ?_ z oq (fun b hb => mcell_same rfl rfl rfl (up2_ne _ _ _ _ hb))
  have hkd : kd (sR u a k v) a = d := hk
  unfold mcell
  rw [hkd, if_neg (by omega), if_neg (by omega)]
  show H1[base + a]? = some (vp_cell _ _)
  rw [e, vp_cell_q, vp_cell_q, arrV_store]
  congr 2
  funext q
  by_cases hq : q = k
  · subst hq; simp [updV, up2]
  · simp [updV, up2, hq]
theorem hr_aast (hx : p.tables.exec = Jvm.exec) (hb : c.code = cc) (hK : va_K D mcl (mty cy) s) (hH : HR D cy base u H) (hS : va_S (fun q => base ≤ q) H0 H locs) {a : Nat} (h1 : 13 ≤ kd u a) (h2 : kd u a ≤ 15) {j : Int32} {v : Option Nat} (hin : inb j (ln u a)) (hv : elt u (kd u a) v = true) (hdg : decode cc pc = .ok (.aastore, 1))
    (kk : ∀ (H1 : Heap) (locs1 : List Loc), HR D cy base (sR u a j.toNatClampNeg v) H1 → va_S (fun q => base ≤ q) H0 H1 locs1 → W p l e R s m args below meth c H1 locs1 cells slots Q (F0 m (pc + 1) ls rest)) : W p l e R s m args below meth c H locs cells slots Q (F0 m pc ls (va_rf (v.map (fun a => base + a)) :: .int j :: .ref (base + a) :: rest)) := by
  have go : ∀ (d t0 ci : Nat), kd u a = d → 13 ≤ d → d ≤ 16 → ci ≤ 10 → (mty cy)[t0]? = some (cy d, .object (RXc ci)) → (∀ b, v = some b → kd u b = ci) → W p l e R s m args below meth c H locs cells slots Q (F0 m pc ls (va_rf (v.map (fun a => base + a)) :: .int j :: .ref (base + a) :: rest)) := by
    intro d t0 ci hk hd1 hd2 hci ht hvb
    have hat := hH.refs hk hd1 hd2
    have hlt : j.toNatClampNeg < ln u a := Nat.not_le.mp fun q => hin (Or.inr q)
    have h0 : ¬ j < 0 := fun q => hin (Or.inl q)
    cases v with
    | none =>
      refine va_WaastN (C := RXc ci) hx hb hat ((hK.2 t0 _ ht).1 (ln u a) (fun j => va_rf ((u.2.2.1 a j).map (fun a => base + a)))) (fun h => by cases h) (by show ¬ (j < 0 ∨ (arrV _ _ _).slots.size ≤ _); rw [arrV_size]; exact hin) rfl rfl hdg fun H1 e z oq => ?_
      exact kk H1 _ (hr_sR hk hd1 hd2 hH (v := none) e z oq) (hS.wr z oq (Nat.le_add_right _ _) (fun q hq => by rw [List.mem_singleton.mp hq]))
    | some b =>
      obtain ⟨r', hr', cellV, g1, g2, g3, -⟩ := hH.obj (hvb b rfl) hci
      have hcls := (hK.1 ci _ (mcl_at ci hci)).2
      obtain ⟨kA, comp, k1, k2, k3, -⟩ := (hK.2 t0 _ ht).2
      have hcomp : comp = D.1 ci := Option.some.inj (k3.symm.trans hcls.1)
      subst hcomp
      obtain ⟨kC, hkC, -⟩ := hcls.2
      refine W.aast hx hb hat (fun q h => by cases h) (fun h => by cases h) k1 k2 rfl hkC ⟨h0, by show _ < (arrV _ _ _).slots.size; rw [arrV_size]; exact hlt⟩ g1 (fun q h => by rw [g3] at h; cases h) (by rw [g2]; exact hkC) (by rw [g2]; exact va_assign hcls) rfl rfl hdg fun H1 e z oq => ?_
      exact kk H1 _ (hr_sR hk hd1 hd2 hH (v := some b) e z oq) (hS.wr z oq (Nat.le_add_right _ _) (fun q hq => by rw [List.mem_singleton.mp hq]))
  have hd : kd u a = 13 ∨ kd u a = 14 ∨ kd u a = 15 := by omega
  rcases hd with hd | hd | hd
  · refine go 13 2 4 hd (by omega) (by omega) (by omega) rfl (fun b hb => ?_)
    subst hb
    rw [hd] at hv
    simpa [elt] using hv
  · refine go 14 3 7 hd (by omega) (by omega) (by omega) rfl (fun b hb => ?_)
    subst hb
    rw [hd] at hv
    simpa [elt] using hv
  · refine go 15 4 8 hd (by omega) (by omega) (by omega) rfl (fun b hb => ?_)
    subst hb
    rw [hd] at hv
    simpa [elt] using hv
/-- a new cell at the end -/
theorem HR.grow {d n : Nat} {H1 : Heap} (hH : HR D cy base u H) (hd : d ≤ 16) (z : H1.size = H.size + 1) (oq : ∀ q, q < H.size → H1[q]? = H[q]?) (hcell : va_at D mcl (base + sz u, mcell cy base (al u d n) (sz u)) H1) : HR D cy base (al u d n) H1 := by
  have hsz : sz (al u d n) = sz u + 1 := rfl
  have hkn : ∀ b, b ≠ sz u → kd (al u d n) b = kd u b := fun b hb => by
    show ((if b = sz u then (d, n) else u.2.2.2.1 b)).1 = _
    rw [if_neg hb]
  refine ⟨by rw [z, hH.1, hsz]; omega, fun b hb => ?_, fun b hb => ?_⟩
  · rw [hsz] at hb
    by_cases e : b = sz u
    · subst e
      refine ⟨?_, hcell⟩
      show ((if sz u = sz u then (d, n) else u.2.2.2.1 (sz u))).1 ≤ 16
      rw [if_pos rfl]; exact hd
    · have hlt : b < sz u := by omega
      refine ⟨by rw [hkn b e]; exact (hH.2.1 b hlt).1, ?_⟩
      have hs : mcell cy base (al u d n) b = mcell cy base u b := by
        refine mcell_same ?_ ?_ ?_ ?_
        · show (if b = sz u then (d, n) else u.2.2.2.1 b) = _
          rw [if_neg e]
        · funext y
          show (if b = sz u then (0 : Int32) else u.1 b y) = _
          rw [if_neg e]
        · funext y
          show (if b = sz u then (0 : Int64) else u.2.1 b y) = _
          rw [if_neg e]
        · funext y
          show (if b = sz u then (none : Option Nat) else u.2.2.1 b y) = _
          rw [if_neg e]
      rw [hs]
      refine (hH.2.1 b hlt).2.kept (oq _ ?_)
      show base + b < H.size
      rw [hH.1]; omega
  · rw [hsz] at hb
    rw [hkn b (by omega)]
    exact hH.2.2 b (by omega)
theorem va_S.nw {A : Nat → Prop} {H0 H H1 : Heap} {locs : List Loc} (h : va_S A H0 H locs) (z : H1.size = H.size + 1) (oq : ∀ q : Nat, q < H.size → H1[q]? = H[q]?) : va_S A H0 H1 locs :=
  ⟨Nat.le_trans h.1 (by omega), fun q h1 h2 => (oq q (Nat.lt_of_lt_of_le h1 h.1)).trans (h.2.1 q h1 h2), h.2.2⟩
def okT (t : FieldType) : Bool := match t with
  | .int => true | .boolean => true | .long => true | .object _ => true | .array _ => true | _ => false
theorem okT_all : ∀ c, c ≤ 10 → ∀ k, k < nfl c → okT (tyc c k) = true := by
  refine le10 ?_ ?_ ?_ ?_ ?_ ?_ ?_ ?_ ?_ ?_ ?_ <;> decide +kernel
theorem hr_new (hF : FW) (hx : p.tables.exec = Jvm.exec) (hb : c.code = cc) (hts : ∀ w ∈ lw_good, w.before args s = true) {own : String} (hown : s.vm.findClass own = some m.cls) (hK : va_K D mcl (mty cy) s) (hH : HR D cy base u H) (hS : va_S (fun q => base ≤ q) H0 H locs) {ci i : Nat} (hci : ci ≤ 10) (hcl : (Cond.classLink own i (RXc ci)).before args s = true) (hinst : (Cond.instantiable (RXc ci) (nfl ci)).before args s = true) (hini : (Cond.initialized (RXc ci)).before args s = true)
    (hcells : cells + 1 ≤ R.cells) (hslots : slots + nfl ci ≤ R.slots) (hdg : decode cc pc = .ok (.new i, 3))
    (kk : ∀ (H1 : Heap), HR D cy base (al u ci (nfl ci)) H1 → va_S (fun q => base ≤ q) H0 H1 locs → W p l e R s m args below meth c H1 locs (cells + 1) (slots + nfl ci) Q (F0 m (pc + 3) ls (.ref (base + sz u) :: rest))) : W p l e R s m args below meth c H locs cells slots Q (F0 m pc ls rest) := by
  have hc := mcl_at ci hci
  have hKn := hK.1 ci _ hc
  refine W.newcK hx hb hown hcl hinst hini rfl hdg hcells hslots hKn.2.1 hH.1 fun H1 kC hkC e1 z1 o1 => ?_
  refine kk H1 (hH.grow (by omega) (by rw [z1, hH.1]) (fun q hq => o1 q (by rw [← hH.1]; exact hq)) ?_) (hS.nw (by rw [z1, hH.1]) (fun q hq => o1 q (by rw [← hH.1]; exact hq)))
  have hkd : kd (al u ci (nfl ci)) (sz u) = ci := by
    show ((if sz u = sz u then (ci, nfl ci) else u.2.2.2.1 (sz u))).1 = ci
    rw [if_pos rfl]
  unfold mcell
  rw [hkd, if_pos hci]
  refine ⟨_, hc, (u_born (tyc ci) hts (hF ci hci) hKn hkC e1 (ty_ok ci hci)).to (fun k hk => ?_)⟩
  have h1 : vp_V (mfs base (al u ci (nfl ci)) (sz u) ci) k = mfv base (al u ci (nfl ci)) (sz u) k (ftc (tyc ci k)) := by
    unfold vp_V
    rw [List.getD_eq_getElem?_getD, mfs_get _ _ _ hk]
    rfl
  rw [h1]
  have ho := okT_all ci hci k hk
  cases ht : tyc ci k <;> rw [ht] at ho <;> first | (cases ho; done) | simp [defaultValue, mfv, ftc, bz, va_rf]
theorem hr_newa (hx : p.tables.exec = Jvm.exec) (hb : c.code = cc) (hK : va_K D mcl (mty cy) s) (hH : HR D cy base u H) (hS : va_S (fun q => base ≤ q) H0 H locs) {atype : ArrayType} (harr : (Cond.arrayClass (newarray.typeOf atype)).before args s = true) {d t0 : Nat} {ty : FieldType} (hty : newarray.typeOf atype = ty) (hd1 : 11 ≤ d) (hd2 : d ≤ 12) (ht0 : (mty cy)[t0]? = some (cy d, ty)) (hdv : defaultValue ty = .int 0) (hobj : ∀ C, ty ≠ .object C)
    {n : Int32} (hn : ¬ n < 0) (hbytes : n.toNatClampNeg * componentBytes ty ≤ 536870912) (hcells : cells + 1 ≤ R.cells) (hslots : slots + n.toNatClampNeg ≤ R.slots) (hdg : decode cc pc = .ok (.newarray atype, 2))
    (kk : ∀ (H1 : Heap), HR D cy base (al u d n.toNatClampNeg) H1 → va_S (fun q => base ≤ q) H0 H1 locs → W p l e R s m args below meth c H1 locs (cells + 1) (slots + n.toNatClampNeg) Q (F0 m (pc + 2) ls (.ref (base + sz u) :: rest))) : W p l e R s m args below meth c H locs cells slots Q (F0 m pc ls (.int n :: rest)) := by
  subst hty
  refine va_newaK hx hb harr rfl hdg rfl hn rfl hbytes hcells hslots hH.1 fun H1 cA e1 z1 o1 hAr hNm => ?_
  have hcA : cA = cy d := by
    have h2 := (hK.2 t0 _ ht0).2
    have h3 : s.vm.findClass ("[" ++ (newarray.typeOf atype).toString) = some (cy d) := by
      revert h2
      unfold va_RA
      cases hq : newarray.typeOf atype <;> first | exact (fun h => h) | exact absurd hq (hobj _)
    exact Option.some.inj (hNm.symm.trans h3)
  refine kk H1 (hH.grow (by omega) (by rw [z1, hH.1]) (fun q hq => o1 q (by rw [← hH.1]; exact hq)) ?_) (hS.nw (by rw [z1, hH.1]) (fun q hq => o1 q (by rw [← hH.1]; exact hq)))
  have hkd : kd (al u d n.toNatClampNeg) (sz u) = d := by
    show ((if sz u = sz u then (d, n.toNatClampNeg) else u.2.2.2.1 (sz u))).1 = d
    rw [if_pos rfl]
  have hln : ln (al u d n.toNatClampNeg) (sz u) = n.toNatClampNeg := by
    show ((if sz u = sz u then (d, n.toNatClampNeg) else u.2.2.2.1 (sz u))).2 = _
    rw [if_pos rfl]
  unfold mcell
  rw [hkd, if_neg (by omega), if_pos hd2, hln]
  show H1[base + sz u]? = some (vp_cell _ _)
  rw [e1, hcA, vp_cell_i, hdv]
  congr 2
  funext q
  show _ = Value.int (if sz u = sz u then 0 else u.1 (sz u) q)
  rw [if_pos rfl]
theorem hr_anew (hx : p.tables.exec = Jvm.exec) (hb : c.code = cc) {own : String} {i : Nat} (hown : s.vm.findClass own = some m.cls) (hK : va_K D mcl (mty cy) s) (hH : HR D cy base u H) (hS : va_S (fun q => base ≤ q) H0 H locs) {d t0 : Nat} {C : String} (hclink : (Cond.classLink own i C).before args s = true) (hover : va_AO C s) (hd1 : 13 ≤ d) (hd2 : d ≤ 16) (ht0 : (mty cy)[t0]? = some (cy d, .object C))
    {n : Int32} (hn : ¬ n < 0) (hbytes : n.toNatClampNeg * 4 ≤ 536870912) (hcells : cells + 1 ≤ R.cells) (hslots : slots + n.toNatClampNeg ≤ R.slots) (hdg : decode cc pc = .ok (.anewarray i, 3))
    (kk : ∀ (H1 : Heap), HR D cy base (al u d n.toNatClampNeg) H1 → va_S (fun q => base ≤ q) H0 H1 locs → W p l e R s m args below meth c H1 locs (cells + 1) (slots + n.toNatClampNeg) Q (F0 m (pc + 3) ls (.ref (base + sz u) :: rest))) : W p l e R s m args below meth c H locs cells slots Q (F0 m pc ls (.int n :: rest)) := by
  refine W.anew hx hb hown hclink (va_AO.use hover) rfl hdg rfl hn hbytes hcells hslots fun cA kA comp f1 f2 f3 f4 => ?_
  obtain ⟨_, _, _, _, _, f5⟩ := (hK.2 t0 _ ht0).2
  have hcA : cA = cy d := Option.some.inj (f1.symm.trans f5)
  subst hcA
  generalize hH1 : H.push ({ cls := cy d, slots := Array.replicate n.toNatClampNeg .null, vm := .none } : Cell) = H1
  have z1 : H1.size = H.size + 1 := by rw [← hH1, Array.size_push]
  have e1 : H1[H.size]? = some (arrV (cy d) n.toNatClampNeg (fun _ => .null)) := by rw [← hH1, Array.getElem?_push_size, ← arrV_new]
  have o1 : ∀ q : Nat, q < H.size → H1[q]? = H[q]? := fun q hq => by rw [← hH1, Array.getElem?_push, if_neg (Nat.ne_of_lt hq)]
  have hkd : kd (al u d n.toNatClampNeg) (sz u) = d := by
    show ((if sz u = sz u then (d, n.toNatClampNeg) else u.2.2.2.1 (sz u))).1 = d
    rw [if_pos rfl]
  have hln : ln (al u d n.toNatClampNeg) (sz u) = n.toNatClampNeg := by
    show ((if sz u = sz u then (d, n.toNatClampNeg) else u.2.2.2.1 (sz u))).2 = _
    rw [if_pos rfl]
  have hk := kk H1 (hH.grow (by omega) z1 o1 (by
    unfold mcell
    rw [hkd, if_neg (by omega), if_neg (by omega), hln]
    show H1[base + sz u]? = some (vp_cell _ _)
    rw [← hH.1, e1, vp_cell_q]
    congr 2
    funext q
    show _ = va_rf (Option.map (fun a => base + a) (if sz u = sz u then none else u.2.2.1 (sz u) q))
    rw [if_pos rfl]
    rfl)) (hS.nw z1 o1)
  rw [← hH.1] at hk
  exact hk
end ROWS
end
section
/-! The fields' words by their places. -/
theorem fw_0 : ∀ w ∈ u_ws RX0 TX0 3, w ∈ lw_good := in_places [267, 269, 271] (by decide +kernel) (by decide +kernel)
theorem fw_1 : ∀ w ∈ u_ws RX1 TX1 17, w ∈ lw_good := in_places [142, 144, 146, 148, 150, 152, 154, 156, 158, 160, 162, 164, 166, 168, 170, 172, 174] (by decide +kernel) (by decide +kernel)
theorem fw_2 : ∀ w ∈ u_ws RX2 TX2 7, w ∈ lw_good := in_places [39, 41, 43, 45, 47, 49, 51] (by decide +kernel) (by decide +kernel)
theorem fw_3 : ∀ w ∈ u_ws RX3 TX3 7, w ∈ lw_good := in_places [88, 90, 92, 94, 96, 98, 100] (by decide +kernel) (by decide +kernel)
theorem fw_4 : ∀ w ∈ u_ws RX4 TX4 2, w ∈ lw_good := in_places [204, 206] (by decide +kernel) (by decide +kernel)
theorem fw_5 : ∀ w ∈ u_ws RX5 TX5 2, w ∈ lw_good := in_places [65, 67] (by decide +kernel) (by decide +kernel)
theorem fw_6 : ∀ w ∈ u_ws RX6 TX6 7, w ∈ lw_good := in_places [294, 296, 298, 300, 302, 304, 306] (by decide +kernel) (by decide +kernel)
theorem fw_7 : ∀ w ∈ u_ws RX7 TX7 9, w ∈ lw_good := in_places [221, 223, 225, 227, 229, 231, 233, 235, 237] (by decide +kernel) (by decide +kernel)
theorem fw_8 : ∀ w ∈ u_ws RX8 TX8 4, w ∈ lw_good := in_places [246, 248, 250, 252] (by decide +kernel) (by decide +kernel)
theorem fw_9 : ∀ w ∈ u_ws RX9 TX9 16, w ∈ lw_good := in_places [327, 329, 331, 333, 335, 337, 339, 341, 343, 345, 347, 349, 351, 353, 355, 357] (by decide +kernel) (by decide +kernel)
theorem fw_10 : ∀ w ∈ u_ws RX10 TX10 43, w ∈ lw_good := in_places [1247, 1249, 1251, 1253, 1255, 1257, 1259, 1261, 1263, 1265, 1267, 1269, 1271, 1273, 1275, 1277, 1279, 1281, 1283, 1285, 1287, 1289, 1291, 1293, 1295, 1297, 1299, 1301, 1303, 1305, 1307, 1309, 1311, 1313, 1315, 1317, 1319, 1321, 1323, 1325, 1327, 1329, 1331] (by decide +kernel) (by decide +kernel)
theorem fw_all : FW := le10 fw_0 fw_1 fw_2 fw_3 fw_4 fw_5 fw_6 fw_7 fw_8 fw_9 fw_10
end
section
/-! Locals; what a pop says; arraycopy; a call. -/
def lva (base : Nat) : Nat → MLs → List (Nat × Value)
  | _, [] => []
  | i, none :: l => lva base (i + 1) l
  | i, some v :: l => (i, mval base v) :: lva base (i + 1) l
theorem lva_mem {base : Nat} {q : Nat × Value} : ∀ (lo : MLs) (i : Nat), q ∈ lva base i lo ↔ ∃ j v, nth lo j = some v ∧ q = (i + j, mval base v)
  | [], i => by simp [lva, nth]
  | none :: l, i => by
    rw [lva, lva_mem l (i + 1)]
    constructor
    · rintro ⟨j, v, h1, h2⟩
      exact ⟨j + 1, v, h1, by rw [h2]; congr 1; omega⟩
    · rintro ⟨j, v, h1, h2⟩
      cases j with
      | zero => cases h1
      | succ j => exact ⟨j, v, h1, by rw [h2]; congr 1; omega⟩
  | some w :: l, i => by
    rw [lva, List.mem_cons, lva_mem l (i + 1)]
    constructor
    · rintro (h | ⟨j, v, h1, h2⟩)
      · exact ⟨0, w, rfl, h⟩
      · exact ⟨j + 1, v, h1, by rw [h2]; congr 1; omega⟩
    · rintro ⟨j, v, h1, h2⟩
      cases j with
      | zero =>
        have : w = v := by simpa [nth] using h1
        subst this
        exact Or.inl h2
      | succ j => exact Or.inr ⟨j, v, h1, by rw [h2]; congr 1; omega⟩
/-- the slots hold what the small machine's locals say -/
def LR (base : Nat) (ls : Array Slot) (nL : Nat) (lo : MLs) : Prop := lv_has ls nL (lva base 0 lo)
theorem LR.at {base : Nat} {ls : Array Slot} {nL : Nat} {lo : MLs} (h : LR base ls nL lo) {j : Nat} {v : MV} (hj : nth lo j = some v) : ls[j]? = some (.val (mval base v)) := by
  have := h.2.2 (0 + j, mval base v) ((lva_mem lo 0).mpr ⟨j, v, hj, rfl⟩)
  rwa [Nat.zero_add] at this
theorem LR.weak {base : Nat} {ls : Array Slot} {nL : Nat} {lo lo' : MLs} (h : LR base ls nL lo) (hw : ∀ j v, nth lo' j = some v → nth lo j = some v) : LR base ls nL lo' := by
  refine ⟨h.1, h.2.1, fun q hq => ?_⟩
  obtain ⟨j, v, h1, h2⟩ := (lva_mem lo' 0).mp hq
  exact h.2.2 q ((lva_mem lo 0).mpr ⟨j, v, hw j v h1, h2⟩)
theorem nth_msk : ∀ (m : List Bool) (lo : MLs) (j : Nat) (v : MV), nth (msk m lo) j = some v → nth lo j = some v
  | [], lo, j, v, h => by simp [msk, nth] at h
  | b :: m, [], j, v, h => by simp [msk, nth] at h
  | b :: m, w :: l, 0, v, h => by
    cases b with
    | true => exact h
    | false => simp [msk, nth] at h
  | b :: m, w :: l, j + 1, v, h => nth_msk m l j v h
theorem LR.cut {base : Nat} {ls : Array Slot} {nL : Nat} {lo : MLs} (T : MT) (pc : Nat) (h : LR base ls nL lo) : LR base ls nL (cutAt T pc lo) := by
  unfold cutAt
  cases lk pc T.2.1 with
  | none => exact h
  | some m => exact h.weak (nth_msk m lo)
def isL (v : MV) : Bool := match v with
  | Sum.inr (Sum.inl _) => true
  | _ => false
theorem nth_dl {w : Option MV} {u : MV} (h : dl w = some u) : w = some u ∧ isL u = false := by
  unfold dl at h
  split at h
  · cases h
  · subst h
    refine ⟨rfl, ?_⟩
    match u with
    | Sum.inl x => rfl
    | Sum.inr (Sum.inr x) => rfl
    | Sum.inr (Sum.inl x) => rename_i hh; exact (hh x rfl).elim
theorem nth_lset : ∀ (lo : MLs) (j : Nat) (v : MV) (i : Nat) (u : MV), nth (lset lo j v) i = some u → (i = j ∧ u = v) ∨ (i ≠ j ∧ nth lo i = some u ∧ (i < j → isL u = false))
  | [], j, v, i, u, h => by simp [lset, nth] at h
  | w :: l, 0, v, 0, u, h => by
    have : v = u := by simpa [lset, nth] using h
    exact Or.inl ⟨rfl, this.symm⟩
  | w :: l, 0, v, i + 1, u, h => Or.inr ⟨by omega, h, by omega⟩
  | w :: l, j + 1, v, 0, u, h => by
    have h2 : dl w = some u := h
    obtain ⟨h3, h4⟩ := nth_dl h2
    exact Or.inr ⟨by omega, h3, fun _ => h4⟩
  | w :: l, j + 1, v, i + 1, u, h => by
    rcases nth_lset l j v i u h with ⟨h1, h2⟩ | ⟨h1, h2, h3⟩
    · exact Or.inl ⟨by omega, h2⟩
    · exact Or.inr ⟨by omega, h2, fun h => h3 (by omega)⟩
theorem cat_mval {base : Nat} {v : MV} (h : isL v = false) : (mval base v).category = 1 := by
  match v, h with
  | Sum.inl x, _ => rfl
  | Sum.inr (Sum.inr none), _ => rfl
  | Sum.inr (Sum.inr (some a)), _ => rfl
theorem LR.set {base : Nat} {ls' : Array Slot} {nL : Nat} {lo : MLs} {j : Nat} {v : MV} {w : Value} (hw : w = mval base v) (h : lv_has ls' nL ((j, w) :: (lva base 0 lo).filter (fun q => !(q.1 == j) && !(q.1 + 1 == j && q.2.category == 2)))) : LR base ls' nL (lset lo j v) := by
  refine ⟨h.1, h.2.1, fun q hq => h.2.2 q ?_⟩
  obtain ⟨i, u, h1, h2⟩ := (lva_mem _ 0).mp hq
  rw [Nat.zero_add] at h2
  rcases nth_lset lo j v i u h1 with ⟨rfl, rfl⟩ | ⟨h3, h4, h5⟩
  · rw [h2, hw]; exact List.mem_cons_self
  · refine List.mem_cons_of_mem _ (List.mem_filter.mpr ⟨(lva_mem lo 0).mpr ⟨i, u, h4, by rw [h2, Nat.zero_add]⟩, ?_⟩)
    rw [h2]
    have e1 : (i == j) = false := by simpa using h3
    simp only [e1, Bool.not_false, Bool.true_and, Bool.not_eq_true', Bool.and_eq_false_iff]
    by_cases h6 : i < j
    · exact Or.inr (by rw [cat_mval (h5 h6)]; rfl)
    · exact Or.inl (by simp; omega)
theorem pI_some {o : List MV} {f : Int32 → List MV → Option MO} {x : MO} (h : pI o f = some x) : ∃ y r, o = Sum.inl y :: r ∧ f y r = some x := by
  unfold pI at h
  split at h
  · exact ⟨_, _, rfl, h⟩
  · cases h
theorem pL_some {o : List MV} {f : Int64 → List MV → Option MO} {x : MO} (h : pL o f = some x) : ∃ y r, o = Sum.inr (Sum.inl y) :: r ∧ f y r = some x := by
  unfold pL at h
  split at h
  · exact ⟨_, _, rfl, h⟩
  · cases h
theorem pR_some {o : List MV} {f : Option Nat → List MV → Option MO} {x : MO} (h : pR o f = some x) : ∃ y r, o = Sum.inr (Sum.inr y) :: r ∧ f y r = some x := by
  unfold pR at h
  split at h
  · exact ⟨_, _, rfl, h⟩
  · cases h
theorem pC_some {o : List MV} {f : MV → List MV → Option MO} {x : MO} (h : pC o f = some x) : ∃ y r, o = y :: r ∧ isL y = false ∧ f y r = some x := by
  unfold pC at h
  split at h
  · exact ⟨_, _, rfl, rfl, h⟩
  · exact ⟨_, _, rfl, rfl, h⟩
  · cases h
theorem pN_some {f : List MV → List MV → Option MO} {x : MO} : ∀ (n : Nat) (acc o : List MV), pN n acc o f = some x → ∃ t r, o = t ++ r ∧ t.length = n ∧ f (t.reverse ++ acc) r = some x
  | 0, acc, o, h => ⟨[], o, rfl, rfl, h⟩
  | n + 1, acc, [], h => by cases h
  | n + 1, acc, v :: o, h => by
    obtain ⟨t, r, h1, h2, h3⟩ := pN_some n (v :: acc) o h
    exact ⟨v :: t, r, by rw [h1]; rfl, by rw [List.length_cons, h2], by rw [List.reverse_cons, List.append_assoc]; exact h3⟩
theorem lI_some {lo : MLs} {j : Nat} {f : Int32 → Option MO} {x : MO} (h : lI lo j f = some x) : ∃ y, nth lo j = some (Sum.inl y) ∧ f y = some x := by
  unfold lI at h
  split at h
  · exact ⟨_, by assumption, h⟩
  · cases h
theorem lL_some {lo : MLs} {j : Nat} {f : Int64 → Option MO} {x : MO} (h : lL lo j f = some x) : ∃ y, nth lo j = some (Sum.inr (Sum.inl y)) ∧ f y = some x := by
  unfold lL at h
  split at h
  · exact ⟨_, by assumption, h⟩
  · cases h
theorem lR_some {lo : MLs} {j : Nat} {f : Option Nat → Option MO} {x : MO} (h : lR lo j f = some x) : ∃ y, nth lo j = some (Sum.inr (Sum.inr y)) ∧ f y = some x := by
  unfold lR at h
  split at h
  · exact ⟨_, by assumption, h⟩
  · cases h
theorem bnd_some {α : Type} {o : Option α} {f : α → Option MO} {x : MO} (h : o.bind f = some x) : ∃ y, o = some y ∧ f y = some x := by
  cases o with
  | none => cases h
  | some y => exact ⟨y, rfl, h⟩
theorem few_some {r : List MV} {f : Option MO} {x : MO} (h : few r f = some x) : csum r ≤ 8 ∧ f = some x := by
  unfold few at h
  cases hb : Nat.ble (csum r) 8 with
  | true => rw [hb] at h; exact ⟨Nat.le_of_ble_eq_true hb, h⟩
  | false => rw [hb] at h; cases h
theorem cats (base : Nat) (r : List MV) : ((r.map (mval base)).map fun v => v.category).sum ≤ csum r := by
  induction r with
  | nil => simp
  | cons v r ih =>
    match v with
    | Sum.inl x =>
      show (Value.int x).category + _ ≤ 1 + csum r
      exact Nat.add_le_add (Nat.le_refl 1) ih
    | Sum.inr (Sum.inl x) =>
      show (Value.long x).category + _ ≤ 2 + csum r
      exact Nat.add_le_add (Nat.le_refl 2) ih
    | Sum.inr (Sum.inr x) =>
      show (mval base (Sum.inr (Sum.inr x))).category + _ ≤ 1 + csum r
      exact Nat.add_le_add (by rw [cat_mval rfl]; exact Nat.le_refl 1) ih
/-- a method's arguments as its first locals: a long takes two -/
def lay : List MV → MLs
  | [] => []
  | v :: l => match v with
    | Sum.inr (Sum.inl x) => some (Sum.inr (Sum.inl x)) :: none :: lay l
    | w => some w :: lay l
theorem lay_args (base : Nat) : ∀ (as : List MV) (i : Nat) (k : Nat), ∀ q ∈ lva base i (lay as ++ List.replicate k none), q ∈ lv_args i (as.map (mval base))
  | [], i, k, q, h => by
    exfalso
    obtain ⟨j, v, h1, -⟩ := (lva_mem _ i).mp h
    have : ∀ (k j : Nat), nth (List.replicate k none) j = none := by
      intro k
      induction k with
      | zero => intro j; rfl
      | succ k ih => intro j; cases j with
        | zero => rfl
        | succ j => exact ih j
    rw [show lay [] ++ List.replicate k none = List.replicate k none from rfl, this] at h1
    cases h1
  | v :: l, i, k, q, h => by
    match v, h with
    | Sum.inl x, h =>
      have h : q ∈ (i, Value.int x) :: lva base (i + 1) (lay l ++ List.replicate k none) := h
      show q ∈ (i, Value.int x) :: lv_args (i + 1) (l.map (mval base))
      rcases List.mem_cons.mp h with h | h
      · rw [h]; exact List.mem_cons_self
      · exact List.mem_cons_of_mem _ (lay_args base l (i + 1) k q h)
    | Sum.inr (Sum.inl x), h =>
      have h : q ∈ (i, Value.long x) :: lva base (i + 1 + 1) (lay l ++ List.replicate k none) := h
      show q ∈ (i, Value.long x) :: lv_args (i + 2) (l.map (mval base))
      rcases List.mem_cons.mp h with h | h
      · rw [h]; exact List.mem_cons_self
      · exact List.mem_cons_of_mem _ (lay_args base l (i + 2) k q h)
    | Sum.inr (Sum.inr r), h =>
      have h : q ∈ (i, mval base (Sum.inr (Sum.inr r))) :: lva base (i + 1) (lay l ++ List.replicate k none) := h
      have hc : (mval base (Sum.inr (Sum.inr r))).category = 1 := cat_mval rfl
      show q ∈ (i, mval base (Sum.inr (Sum.inr r))) :: lv_args (if (mval base (Sum.inr (Sum.inr r))).category = 2 then i + 2 else i + 1) (l.map (mval base))
      rw [if_neg (by rw [hc]; decide)]
      rcases List.mem_cons.mp h with h | h
      · rw [h]; exact List.mem_cons_self
      · exact List.mem_cons_of_mem _ (lay_args base l (i + 1) k q h)
theorem lay_len (base : Nat) : ∀ as : List MV, (lg_sl (as.map (mval base))).length = (lay as).length
  | [] => rfl
  | v :: l => by
    have ih := lay_len base l
    match v with
    | Sum.inl x =>
      show (lg_sl (Value.int x :: l.map (mval base))).length = (lay l).length + 1
      rw [← ih]; simp [lg_sl, Value.category]
    | Sum.inr (Sum.inl x) =>
      show (lg_sl (Value.long x :: l.map (mval base))).length = (lay l).length + 1 + 1
      rw [← ih]; simp [lg_sl, Value.category]
    | Sum.inr (Sum.inr r) =>
      have hc : (mval base (Sum.inr (Sum.inr r))).category = 1 := cat_mval rfl
      show (lg_sl (mval base (Sum.inr (Sum.inr r)) :: l.map (mval base))).length = (lay l).length + 1
      rw [← ih]; simp [lg_sl, hc]
/-- a method by its table: its arguments are the first locals, so many locals in all -/
noncomputable def runT (T : MT) (nL : Nat) : MF := fun as s => cond (Nat.ble (lay as).length nL) (Ev T 0 (lay as ++ List.replicate (nL - (lay as).length) none) [] s) none
end
section
/-! What a method's contract is over the small machine's heap; calls; arraycopy. -/
def NW (U : State) : Prop := (∀ w ∈ lw_nest, w.before #[] U = true) ∧ va_AO RX4 U ∧ va_AO RX7 U ∧ va_AO RX8 U ∧ (Cond.arrayOver (.array .int)).before #[] U = true
theorem AOA_moved {t : FieldType} {u U : State} (hvm : u.vm.Alike U.vm) (h : (Cond.arrayOver (.array t)).before #[] u = true) : (Cond.arrayOver (.array t)).before #[] U = true := by
  obtain ⟨comp, c, k, h1, h2, h3, h4, h5⟩ := arrayOverA_spec h
  obtain ⟨k', hk', he⟩ := hvm.2.2 _ _ h3
  have hi : (U.vm.classes.findIdx? fun (x : Class) => match x.kind with | .array component _ => component == comp | _ => false) = some c := by
    have e1 := va_idx_bare U.vm comp
    have e2 := va_idx_bare u.vm comp
    have e3 : U.vm.bare = u.vm.bare := by first | exact hvm.bare_eq | exact hvm.bare_eq.symm
    rw [e3] at e1
    exact e1.symm.trans (e2.trans h2)
  have hkind : k'.kind = .array comp (.array t) := by rw [he]; exact h4
  have f1 : U.vm.findClass (FieldType.array t).toString = some comp := by rw [hvm.findClass]; exact h1
  have f2 : U.vm.findClass ("[" ++ (FieldType.array t).toString) = some c := by rw [hvm.findClass]; exact h5
  unfold Cond.before Cond.holds
  simp only [Cond.value]
  rw [f1, Option.bind_some]
  refine (congrArg (fun o : Option Nat => (o.bind (fun c => (U.vm.classes[c]?).map fun (k : Class) => match k.kind with | .array _ ty => decide (ty = FieldType.array t) && decide (U.vm.findClass ("[" ++ (FieldType.array t).toString) = some c) | _ => false) == some true)) hi).trans ?_
  simp [hk', hkind, f2]
theorem NW.warm {s U : State} (hW : s.WarmedH U.vm) (h : NW s) : NW U := by
  obtain ⟨h1, h2, h3, h4, h5⟩ := h
  refine ⟨fun w hw => ?_, h2.moved hW.alike, h3.moved hW.alike, h4.moved hW.alike, AOA_moved hW.alike h5⟩
  have h6 := (List.mem_filter.mp hw).2
  have h7 := h1 w hw
  cases w <;> first | (cases h6; done) | exact va_Nw.warmF hW h7 | exact va_Nw.warmM hW h7
theorem NW.same {u U : State} (hv : u.vm = U.vm) (h : NW u) : NW U := by
  obtain ⟨h1, h2, h3, h4, h5⟩ := h
  have hal : u.vm.Alike U.vm := by rw [hv]; exact Vm.Alike.refl _
  refine ⟨fun w hw => ?_, h2.moved hal, h3.moved hal, h4.moved hal, AOA_moved hal h5⟩
  have h6 := (List.mem_filter.mp hw).2
  have h7 := h1 w hw
  cases w <;> first | (cases h6; done) | exact va_Nw.same rfl hv h7
def mP (D : va_G) (cy : Nat → ClassId) (base : Nat) (u : MH) (as : List MV) : Array Value → State → Prop := va_Pc (as.map (mval base)) (fun U => HR D cy base u U.heap ∧ va_K D mcl (mty cy) U ∧ NW U)
def mQ (D : va_G) (cy : Nat → ClassId) (base : Nat) (u' : MH) (r : Option MV) : Array Value → State → Outcome → State → Prop := fun _ st oc t => (oc = .returned (r.map (mval base)) ∧ HR D cy base u' t.heap) ∧ va_F (fun q => base ≤ q) st t
abbrev sl (s : MH) : Nat := s.2.2.2.2.2
theorem mP_blind (D : va_G) (cy : Nat → ClassId) (base : Nat) (u : MH) (as : List MV) : FrameBlind (mP D cy base u as) := by
  intro a U g mk h
  obtain ⟨h1, h2, h3, h4⟩ := h
  exact ⟨h1, h2, va_K.moved (u := U) (Vm.Alike.refl _) h3, NW.same (u := U) rfl h4⟩
/-- the method y keeps M, in every world -/
def Sd (y : MethodName) (cc : ByteArray) (nL : Nat) (ret : Option FieldType) (fr lc : Nat) (M : MF) : Prop :=
  ∀ (as : List MV) (u u' : MH) (r : Option MV), M as u = some (r, u') → (sz u ≤ sz u' ∧ sl u ≤ sl u') ∧
    ∀ (l : Launch) (D : va_G) (cy : Nat → ClassId) (base : Nat), Met l y (.code y cc nL ret :: lw_good) { frames := fr, cells := sz u' - sz u, slots := sl u' - sl u, locals := lc } (mP D cy base u as) (mQ D cy base u' r) (sz u' - sz u) (sl u' - sl u) (fun q => base ≤ q)
section CALLS
variable {p : Program} {l : Launch} {e : Env} {R : Room} {s : State} {m : MethodId} {args : Array Value} {below : List Frame} {meth : Method} {c : Code} {H : Heap} {locs : List Loc} {cells slots : Nat} {Q : State → Prop}
variable {cc : ByteArray} {pc : Nat} {ls : Array Slot} {rest : List Value} {D : va_G} {cy : Nat → ClassId} {base : Nat} {H0 : Heap} {u : MH}
theorem mm_call {u' : MH} {r : Option MV} {a : Array Value} {st0 : List Value} {mc ms : Nat} (hr : va_Run p l e R s m args below meth c H locs cells slots mc ms (F0 m pc ls st0) rest (mQ D cy base u' r a) (fun q => base ≤ q)) (hS : va_S (fun q => base ≤ q) H0 H locs)
    (kk : ∀ (H1 : Heap) (locs1 : List Loc), HR D cy base u' H1 → va_S (fun q => base ≤ q) H0 H1 locs1 → W p l e R s m args below meth c H1 locs1 (cells + mc) (slots + ms) Q (F0 m (pc + 3) ls ((r.map (mval base)).toList ++ rest))) : W p l e R s m args below meth c H locs cells slots Q (F0 m pc ls st0) := by
  intro T hT X
  obtain ⟨v, st₀, t, T', L, h0, X', hL, e1, e2, ⟨⟨hv, hh⟩, hz, hk⟩, st⟩ := hr T hT X
  cases hv
  rw [h0] at hz hk
  obtain ⟨t2, a1, b1⟩ := kk T'.heap (locs ++ L) (by rw [e1]; exact hh)
    ⟨Nat.le_trans hS.1 (by rw [e1]; exact hz), fun q h1 h2 => by rw [e1, hk q (Nat.lt_of_lt_of_le h1 hS.1) h2]; exact hS.2.1 q h1 h2, fun q hq => by
      rcases List.mem_append.mp hq with h | h
      · exact hS.2.2 q h
      · exact hL q h⟩ T' rfl X'
  exact ⟨t2, st t2 a1, b1⟩
/-- rows of ints copied, the two apart -/
theorem hr_copy (hx : p.tables.exec = Jvm.exec) (hb : c.code = cc) (hml : c.maxLocals = ls.size) {own : String} {i : Nat} (hown : s.vm.findClass own = some m.cls) (hlink : (Cond.methodLink own i arraycopyName).before args s = true) (hnat : (Cond.native arraycopyName).before args s = true) (hstat : (Cond.static arraycopyName).before args s = true) (hini : (Cond.initialized "java/lang/System").before args s = true)
    (hK : va_K D mcl (mty cy) s) (hH : HR D cy base u H) (hS : va_S (fun q => base ≤ q) H0 H locs) {a b : Nat} (hka : kd u a = 11) (hkb : kd u b = 11)
    {sp dp n : Int32} (h1 : ¬ sp < 0) (h2 : ¬ dp < 0) (h3 : ¬ n < 0) (h4 : sp.toNatClampNeg + n.toNatClampNeg ≤ ln u a) (h5 : dp.toNatClampNeg + n.toNatClampNeg ≤ ln u b)
    (hframes : 1 ≤ R.frames) (hlocals : (rest.map fun v => v.category).sum + (nativeFrameWords "java/lang/System" "arraycopy" 5 + 11) ≤ R.locals) (hdg : decode cc pc = .ok (.invokestatic i, 3))
    (kk : ∀ (H1 : Heap) (locs1 : List Loc), HR D cy base (fun x y => if x = b ∧ dp.toNatClampNeg ≤ y ∧ y < dp.toNatClampNeg + n.toNatClampNeg then u.1 a (sp.toNatClampNeg + (y - dp.toNatClampNeg)) else u.1 x y, u.2) H1 → va_S (fun q => base ≤ q) H0 H1 locs1 → W p l e R s m args below meth c H1 locs1 cells slots Q (F0 m (pc + 3) ls rest)) : W p l e R s m args below meth c H locs cells slots Q (F0 m pc ls (.int n :: .int dp :: .ref (base + b) :: .int sp :: .ref (base + a) :: rest)) := by
  have nn : ∀ z : Int32, ¬ z < 0 → z.toInt = (z.toNatClampNeg : Int) := by
    intro z hz
    have hz0 : (0 : Int) ≤ z.toInt := by
      have := Int32.not_lt.mp hz
      simpa using Int32.le_iff_toInt_le.mp this
    show z.toInt = ((z.toInt.toNat : Nat) : Int)
    omega
  intro T hT X
  have hc0 : H[base + a]? = some (vp_cell (cy 11) (ln u a, .inl (u.1 a))) := hH.ints hka (by omega) (by omega)
  have hc1 : H[base + b]? = some (vp_cell (cy 11) (ln u b, .inl (u.1 b))) := hH.ints hkb (by omega) (by omega)
  obtain ⟨-, k0, hk0, cm0, hkk0⟩ := (hK.2 0 _ rfl).1 (ln u a) (fun j => .int (u.1 a j))
  obtain ⟨-, k1, hk1, cm1, hkk1⟩ := (hK.2 0 _ rfl).1 (ln u b) (fun j => .int (u.1 b j))
  obtain ⟨vm', X', step⟩ := X.arraycopy hx hown hlink hnat hstat hini (src := base + a) (dst := base + b) (cs := vp_cell (cy 11) (ln u a, .inl (u.1 a))) (cd := vp_cell (cy 11) (ln u b, .inl (u.1 b))) (srcPos := sp) (destPos := dp) (n := n) (by rw [hT]; exact hc0) (by rw [hT]; exact hc1)
    (fun _ h => by cases h) (fun _ h => by cases h) (fun h => by cases h) (fun h => by cases h) hk0 hk1 hkk0 hkk1 (by simp [refKind]) h1 h2 h3
    (by rw [nn sp h1, nn n h3]; show ¬ _ > ((arrV (cy 11) (ln u a) (fun j => .int (u.1 a j))).slots.size : Int); rw [arrV_size]; omega)
    (by rw [nn dp h2, nn n h3]; show ¬ _ > ((arrV (cy 11) (ln u b) (fun j => .int (u.1 b j))).slots.size : Int); rw [arrV_size]; omega)
    (fun vm₁ _ i hi => by
      have e : (vp_cell (cy 11) (ln u a, .inl (u.1 a))).slots.getD (sp.toNatClampNeg + i) .null = .int (u.1 a (sp.toNatClampNeg + i)) := by
        show (arrV (cy 11) (ln u a) (fun j => .int (u.1 a j))).slots.getD _ _ = _
        rw [Array.getD_eq_getD_getElem?, arrV_read _ _ (by omega)]
        rfl
      refine ⟨?_, ?_⟩
      · rw [e]
        rfl
      · rw [e]
        exact trivial)
    (g := F0 m pc ls (.int n :: .int dp :: .ref (base + b) :: .int sp :: .ref (base + a) :: rest)) rfl (by rw [hml]) (rest := rest) rfl (by rw [hb]; exact hdg) hframes (by show 2 * 0 + _ + _ ≤ _; omega)
  have e1 : copied (vp_cell (cy 11) (ln u a, .inl (u.1 a))) (vp_cell (cy 11) (ln u b, .inl (u.1 b))) sp dp n = vp_cell (cy 11) (ln u b, .inl (va_cpy (u.1 a) (u.1 b) sp.toNatClampNeg dp.toNatClampNeg n.toNatClampNeg)) := va_copied (fun z => .int z) (cy 11) (cy 11) (u.1 a) (u.1 b) h4
  rw [e1] at X' step
  have hl : base + b < H.size := (Array.getElem?_eq_some_iff.mp hc1).1
  have hheap : ((T.setVm vm').setCell (base + b) (vp_cell (cy 11) (ln u b, .inl (va_cpy (u.1 a) (u.1 b) sp.toNatClampNeg dp.toNatClampNeg n.toNatClampNeg)))).heap = H.setIfInBounds (base + b) (vp_cell (cy 11) (ln u b, .inl (va_cpy (u.1 a) (u.1 b) sp.toNatClampNeg dp.toNatClampNeg n.toNatClampNeg))) := by rw [← hT]; rfl
  have oq : ∀ q : Nat, q ≠ base + b → (H.setIfInBounds (base + b) (vp_cell (cy 11) (ln u b, .inl (va_cpy (u.1 a) (u.1 b) sp.toNatClampNeg dp.toNatClampNeg n.toNatClampNeg))))[q]? = H[q]? := fun q hq => by simp [Array.getElem?_setIfInBounds, Ne.symm hq]
  have hsz : (H.setIfInBounds (base + b) (vp_cell (cy 11) (ln u b, .inl (va_cpy (u.1 a) (u.1 b) sp.toNatClampNeg dp.toNatClampNeg n.toNatClampNeg)))).size = H.size := by simp
  obtain ⟨t, a1, b1⟩ := kk _ _ (hH.upd rfl rfl (a := b) (by
      unfold mcell
      rw [show kd ((fun x y => if x = b ∧ dp.toNatClampNeg ≤ y ∧ y < dp.toNatClampNeg + n.toNatClampNeg then u.1 a (sp.toNatClampNeg + (y - dp.toNatClampNeg)) else u.1 x y, u.2) : MH) b = 11 from hkb, if_neg (by omega), if_pos (by omega)]
      show (H.setIfInBounds (base + b) _)[base + b]? = some _
      rw [Array.getElem?_setIfInBounds, if_pos rfl, if_pos hl]
      congr 2
      congr 2
      funext y
      show _ = (if b = b ∧ dp.toNatClampNeg ≤ y ∧ y < dp.toNatClampNeg + n.toNatClampNeg then u.1 a (sp.toNatClampNeg + (y - dp.toNatClampNeg)) else u.1 b y)
      simp [va_cpy]) hsz oq (fun x hxb => mcell_same rfl (by
        funext y
        show (if x = b ∧ dp.toNatClampNeg ≤ y ∧ y < dp.toNatClampNeg + n.toNatClampNeg then u.1 a (sp.toNatClampNeg + (y - dp.toNatClampNeg)) else u.1 x y) = _
        rw [if_neg (fun h => hxb h.1)]) rfl rfl)) (hS.wr hsz oq (Nat.le_add_right _ _) (fun q hq => by
      obtain ⟨z, -, hz⟩ := List.mem_map.mp hq
      rw [← hz])) _ hheap X'
  exact ⟨t, step t a1, b1⟩
end CALLS
end
section
/-! new int[n][m] -/
theorem grid_outer (c : ClassId) (N h0 : Nat) : ∀ i : Nat, Jvm.Free.Multi.outerC c N h0 i = arrV c N (fun j => va_rf (if j < i then some (h0 + 1 + j) else none))
  | 0 => by
    show ({ cls := c, slots := Array.replicate N .null, vm := .none } : Cell) = _
    rw [arrV_new]
    refine congrArg (arrV c N) (funext fun j => ?_)
    simp [va_rf]
  | i + 1 => by
    show (Jvm.Free.Multi.outerC c N h0 i).setSlot i (.ref (h0 + 1 + i)) = _
    rw [grid_outer c N h0 i, arrV_store]
    refine congrArg (arrV c N) (funext fun j => ?_)
    by_cases e : j = i
    · subst e
      simp [updV, va_rf]
    · by_cases h : j < i
      · simp [updV, e, h, Nat.lt_succ_of_lt h]
      · simp [updV, e, h, show ¬ j < i + 1 by omega]
section GRID
variable {p : Program} {l : Launch} {e : Env} {R : Room} {s : State} {m : MethodId} {args : Array Value} {below : List Frame} {meth : Method} {c : Code} {H : Heap} {locs : List Loc} {cells slots : Nat} {Q : State → Prop}
variable {cc : ByteArray} {pc : Nat} {ls : Array Slot} {rest : List Value} {D : va_G} {cy : Nat → ClassId} {base : Nat} {H0 : Heap} {u : MH}
theorem HR.grid {N K : Nat} {H1 : Heap} (hH : HR D cy base u H) (z : H1.size = H.size + 1 + N) (oq : ∀ q, q < H.size → H1[q]? = H[q]?) (hout : H1[base + sz u]? = some (vp_cell (cy 16) (N, .inr (.inr (.inr (.inr (fun i => if i < N then some (base + sz u + 1 + i) else none))))))) (hrow : ∀ j, j < N → H1[base + sz u + 1 + j]? = some (vp_cell (cy 11) (K, .inl fun _ => 0))) : HR D cy base (alM u N K) H1 := by
  have hsz : sz (alM u N K) = sz u + 1 + N := rfl
  have hsh : ∀ b, (alM u N K).2.2.2.1 b = if b = sz u then (16, N) else if sz u ≤ b ∧ b < sz u + 1 + N then (11, K) else u.2.2.2.1 b := fun _ => rfl
  refine ⟨by rw [z, hH.1, hsz]; omega, fun b hb => ?_, fun b hb => ?_⟩
  · rw [hsz] at hb
    by_cases e : b = sz u
    · subst e
      have h1 : (alM u N K).2.2.2.1 (sz u) = (16, N) := by rw [hsh, if_pos rfl]
      have hk : kd (alM u N K) (sz u) = 16 := by show ((alM u N K).2.2.2.1 (sz u)).1 = 16; rw [h1]
      have hl : ln (alM u N K) (sz u) = N := by show ((alM u N K).2.2.2.1 (sz u)).2 = N; rw [h1]
      refine ⟨by rw [hk]; decide, ?_⟩
      unfold mcell
      rw [hk, if_neg (by omega), if_neg (by omega), hl]
      show H1[base + sz u]? = some _
      rw [hout]
      congr 2
      congr 5
      funext i
      show _ = Option.map (fun a => base + a) (if sz u = sz u then (if i < N then some (sz u + 1 + i) else none) else _)
      rw [if_pos rfl]
      by_cases hi : i < N
      · rw [if_pos hi, if_pos hi]; simp; omega
      · rw [if_neg hi, if_neg hi]; rfl
    · by_cases e2 : sz u ≤ b
      · have hc : sz u ≤ b ∧ b < sz u + 1 + N := ⟨e2, hb⟩
        have h1 : (alM u N K).2.2.2.1 b = (11, K) := by rw [hsh, if_neg e, if_pos hc]
        have hk : kd (alM u N K) b = 11 := by show ((alM u N K).2.2.2.1 b).1 = 11; rw [h1]
        have hl : ln (alM u N K) b = K := by show ((alM u N K).2.2.2.1 b).2 = K; rw [h1]
        refine ⟨by rw [hk]; decide, ?_⟩
        unfold mcell
        rw [hk, if_neg (by omega), if_pos (by omega), hl]
        show H1[base + b]? = some _
        have := hrow (b - (sz u + 1)) (by omega)
        rw [show base + sz u + 1 + (b - (sz u + 1)) = base + b by omega] at this
        rw [this]
        congr 2
        congr 2
        funext y
        show (0 : Int32) = if sz u ≤ b ∧ b < sz u + 1 + N then 0 else _
        rw [if_pos hc]
      · have hlt : b < sz u := by omega
        have hc : ¬ (sz u ≤ b ∧ b < sz u + 1 + N) := by omega
        have hs : mcell cy base (alM u N K) b = mcell cy base u b := by
          refine mcell_same ?_ ?_ ?_ ?_
          · rw [hsh, if_neg e, if_neg hc]
          · funext y
            show (if sz u ≤ b ∧ b < sz u + 1 + N then (0 : Int32) else u.1 b y) = _
            rw [if_neg hc]
          · funext y
            show (if sz u ≤ b ∧ b < sz u + 1 + N then (0 : Int64) else u.2.1 b y) = _
            rw [if_neg hc]
          · funext y
            show (if b = sz u then (if y < N then some (sz u + 1 + y) else none) else if sz u ≤ b ∧ b < sz u + 1 + N then (none : Option Nat) else u.2.2.1 b y) = _
            rw [if_neg e, if_neg hc]
        have hk : kd (alM u N K) b = kd u b := by show ((alM u N K).2.2.2.1 b).1 = _; rw [hsh, if_neg e, if_neg hc]
        refine ⟨by rw [hk]; exact (hH.2.1 b hlt).1, ?_⟩
        rw [hs]
        refine (hH.2.1 b hlt).2.kept (oq _ ?_)
        show base + b < H.size
        rw [hH.1]; omega
  · rw [hsz] at hb
    have hk : kd (alM u N K) b = kd u b := by show ((alM u N K).2.2.2.1 b).1 = _; rw [hsh, if_neg (by omega), if_neg (by omega)]
    rw [hk]
    exact hH.2.2 b (by omega)
theorem hr_mna (hx : p.tables.exec = Jvm.exec) (hb : c.code = cc) {own : String} {i : Nat} (hown : s.vm.findClass own = some m.cls) (hclink : (Cond.classLink own i ("[" ++ (FieldType.array .int).toString)).before args s = true) (hover : (Cond.arrayOver (.array .int)).before args s = true) (harr : (Cond.arrayClass .int).before args s = true) (hK : va_K D mcl (mty cy) s) (hH : HR D cy base u H) (hS : va_S (fun q => base ≤ q) H0 H locs)
    {n k : Int32} (hn : ¬ n < 0) (hk : ¬ k < 0) (hb1 : n.toNatClampNeg ≤ 1000) (hb2 : k.toNatClampNeg ≤ 1000) (hcells : cells + (1 + n.toNatClampNeg) ≤ R.cells) (hslots : slots + (n.toNatClampNeg + n.toNatClampNeg * k.toNatClampNeg) ≤ R.slots) (hdg : decode cc pc = .ok (.multianewarray i 2, 4))
    (kk : ∀ (H1 : Heap), HR D cy base (alM u n.toNatClampNeg k.toNatClampNeg) H1 → va_S (fun q => base ≤ q) H0 H1 locs → W p l e R s m args below meth c H1 locs (cells + 1 + n.toNatClampNeg) (slots + n.toNatClampNeg + n.toNatClampNeg * k.toNatClampNeg) Q (F0 m (pc + 4) ls (.ref (base + sz u) :: rest))) : W p l e R s m args below meth c H locs cells slots Q (F0 m pc ls (.int k :: .int n :: rest)) := by
  intro T hT Xs
  obtain ⟨vm₁, cA, comp, -, fA, fC, hO, -, X', step⟩ := Xs.multianewarray2F hx hown hclink hover harr (g := F0 m pc ls (.int k :: .int n :: rest)) rfl (by rw [hb]; exact hdg) rfl hn hk (by omega) (by show k.toNatClampNeg * 4 ≤ _; omega) (by omega) rfl rfl hcells hslots
  have h16 : s.vm.findClass ("[" ++ (FieldType.array .int).toString) = some (cy 16) := (hK.2 5 _ rfl).2
  have h11 : s.vm.findClass ("[" ++ FieldType.int.toString) = some (cy 11) := (hK.2 0 _ rfl).2
  have e16 : cA = cy 16 := Option.some.inj (fA.symm.trans h16)
  have e11 : comp = cy 11 := Option.some.inj (fC.symm.trans h11)
  subst e16
  subst e11
  generalize hF : Jvm.Free.Multi.fill (T.setVm vm₁) (cy 16) (cy 11) n.toNatClampNeg k.toNatClampNeg (defaultValue .int) n.toNatClampNeg = F at X' step
  have hTh : (T.setVm vm₁).heap = H := hT
  obtain ⟨f1, f2, -, -⟩ := Jvm.Free.Multi.fill_facts (T.setVm vm₁) (cy 16) (cy 11) n.toNatClampNeg k.toNatClampNeg (defaultValue .int) n.toNatClampNeg
  rw [hF, hTh] at f1 f2
  have hold : ∀ x : Nat, x < H.size → F.heap[x]? = H[x]? := fun x hx => by
    have := Jvm.Free.Multi.fill_old (T.setVm vm₁) (cy 16) (cy 11) n.toNatClampNeg k.toNatClampNeg (defaultValue .int) (a := x) (by rw [hTh]; exact hx) n.toNatClampNeg
    rw [hF, hTh] at this
    exact this
  have hrow : ∀ j : Nat, j < n.toNatClampNeg → F.heap[H.size + 1 + j]? = some (vp_cell (cy 11) (k.toNatClampNeg, .inl fun _ => 0)) := fun j hj => by
    have := Jvm.Free.Multi.fill_inner (T.setVm vm₁) (cy 16) (cy 11) n.toNatClampNeg k.toNatClampNeg (defaultValue .int) n.toNatClampNeg j hj
    rw [hF, hTh] at this
    rw [this, vp_cell_i]
    exact congrArg some (arrV_new _ _ _)
  have hout : Jvm.Free.Multi.outerC (cy 16) n.toNatClampNeg H.size n.toNatClampNeg = vp_cell (cy 16) (n.toNatClampNeg, .inr (.inr (.inr (.inr (fun i => if i < n.toNatClampNeg then some (H.size + 1 + i) else none))))) := by
    rw [vp_cell_q]
    exact grid_outer (cy 16) n.toNatClampNeg H.size n.toNatClampNeg
  rw [hout] at f2
  have hz := hH.1
  rw [hz] at f2 hrow
  obtain ⟨t, a1, b1⟩ := kk F.heap (hH.grid f1 hold f2 hrow) ⟨by rw [f1]; have := hS.1; omega, fun x h1 h2 => (hold x (Nat.lt_of_lt_of_le h1 hS.1)).trans (hS.2.1 x h1 h2), hS.2.2⟩ F rfl X'
  refine ⟨t, step t ?_, b1⟩
  have e : T.heap.size = base + sz u := by rw [hT]; exact hz
  rw [e]
  exact a1
end GRID
end
section
/-! What a method's table must pass, by the kernel. -/
/-- of a method that is called: its name, code, locals, answer, frames, words of locals, how (0 static, 1 virtual, 2 a constructor, 10 more: through the nest; 5 Object's constructor, 6 arraycopy), the places of its words -/
abbrev INF : Type := MethodName × ByteArray × Nat × Option FieldType × Nat × Nat × Nat × List Nat
def wAt (i : Nat) (w : Cond) : Bool := decide (lw_tbl[i]? = some w) && goodWord w
def nAt (i : Nat) (w : Cond) : Bool := decide (tables_1[i]? = some w) && isNestW w
theorem wAt_in {i : Nat} {w : Cond} (h : wAt i w = true) : w ∈ lw_good := by
  simp only [wAt, Bool.and_eq_true, decide_eq_true_eq] at h
  exact List.mem_filter.mpr ⟨List.mem_of_getElem? h.1, h.2⟩
theorem nAt_in {i : Nat} {w : Cond} (h : nAt i w = true) : w ∈ lw_nest := by
  simp only [nAt, Bool.and_eq_true, decide_eq_true_eq] at h
  exact List.mem_filter.mpr ⟨List.mem_of_getElem? h.1, h.2⟩
def wIn (w : Cond) : Bool := decide (w ∈ lw_tbl) && goodWord w
theorem wIn_in {w : Cond} (h : wIn w = true) : w ∈ lw_good := by
  simp only [wIn, Bool.and_eq_true, decide_eq_true_eq] at h
  exact List.mem_filter.mpr ⟨h.1, h.2⟩
def all2 {α β : Type} (f : α → β → Bool) : List α → List β → Bool
  | [], [] => true
  | a :: l, b :: m => f a b && all2 f l m
  | _, _ => false
theorem all2_lk {α β : Type} {f : Nat × α → Nat × β → Bool} {i : Nat} {a : α} : ∀ (l : List (Nat × α)) (m : List (Nat × β)), all2 f l m = true → (∀ x y, f x y = true → x.1 = y.1) → lk i l = some a → ∃ b, lk i m = some b ∧ f (i, a) (i, b) = true
  | [], _, _, _, h => by cases h
  | q :: l, [], h, _, _ => by cases h
  | q :: l, b :: m, h, hk, hl => by
    simp only [all2, Bool.and_eq_true] at h
    have hq := hk q b h.1
    unfold lk at hl ⊢
    cases hb : Nat.beq i q.1 with
    | true =>
      rw [hb] at hl
      have e : i = q.1 := Nat.eq_of_beq_eq_true hb
      have : q.2 = a := Option.some.inj hl
      rw [← hq, hb]
      refine ⟨b.2, rfl, ?_⟩
      have e1 : (i, a) = q := by rw [e, ← this]
      have e2 : (i, b.2) = b := by rw [e, hq]
      rw [e1, e2]
      exact h.1
    | false =>
      rw [hb] at hl
      rw [← hq, hb]
      exact all2_lk l m h.2 hk hl
def cChk (own : String) (FR LC : Nat) (q : Nat × CE) (i : Nat × INF) : Bool :=
  Nat.beq q.1 i.1 && (match i.2.2.2.2.2.2.2.1 with
    | 5 => Nat.beq q.2.2.1 98 && wAt (i.2.2.2.2.2.2.2.2.getD 0 0) (.methodLink own q.1 Lib.objectInit) && wAt (i.2.2.2.2.2.2.2.2.getD 1 0) (.instanceMethod Lib.objectInit) && wAt (i.2.2.2.2.2.2.2.2.getD 2 0) (.code Lib.objectInit ⟨#[0xb1]⟩ 1 none) && Nat.ble 1 FR && Nat.ble 20 LC
    | 6 => Nat.beq q.2.2.1 97 && wAt (i.2.2.2.2.2.2.2.2.getD 0 0) (.methodLink own q.1 arraycopyName) && wAt (i.2.2.2.2.2.2.2.2.getD 1 0) (.native arraycopyName) && wAt (i.2.2.2.2.2.2.2.2.getD 2 0) (.static arraycopyName) && wAt (i.2.2.2.2.2.2.2.2.getD 3 0) (.initialized "java/lang/System") && Nat.ble 1 FR && Nat.ble (8 + (nativeFrameWords "java/lang/System" "arraycopy" 5 + 11)) LC
    | 7 => Nat.beq q.2.2.1 96 && wAt (i.2.2.2.2.2.2.2.2.getD 0 0) (.methodLink own q.1 Lib.Math.max.name) && wAt (i.2.2.2.2.2.2.2.2.getD 1 0) (.static Lib.Math.max.name) && wAt (i.2.2.2.2.2.2.2.2.getD 2 0) (.initialized "java/lang/Math") && wAt (i.2.2.2.2.2.2.2.2.getD 3 0) (.code Lib.Math.max.name Lib.Math.max.code 2 (some .int)) && Nat.ble 1 FR && Nat.ble 21 LC
    | 8 => Nat.beq q.2.2.1 95 && wAt (i.2.2.2.2.2.2.2.2.getD 0 0) (.methodLink own q.1 Lib.Math.min.name) && wAt (i.2.2.2.2.2.2.2.2.getD 1 0) (.static Lib.Math.min.name) && wAt (i.2.2.2.2.2.2.2.2.getD 2 0) (.initialized "java/lang/Math") && wAt (i.2.2.2.2.2.2.2.2.getD 3 0) (.code Lib.Math.min.name Lib.Math.min.code 2 (some .int)) && Nat.ble 1 FR && Nat.ble 21 LC
    | k => cond (Nat.ble 10 k) (nAt (i.2.2.2.2.2.2.2.2.getD 0 0) (.methodLinkNest own q.1 i.2.1 "NameKeeper")) (wAt (i.2.2.2.2.2.2.2.2.getD 0 0) (.methodLink own q.1 i.2.1))
      && wAt (i.2.2.2.2.2.2.2.2.getD 1 0) (.code i.2.1 i.2.2.1 i.2.2.2.1 i.2.2.2.2.1) && wAt (i.2.2.2.2.2.2.2.2.getD 2 0) (.initialized i.2.1.cls)
      && decide (i.2.1.cls ≠ "java/lang/invoke/MethodHandle" ∧ i.2.1.cls ≠ "java/lang/invoke/VarHandle" ∧ (parseMethodDescriptor i.2.1.desc).map (fun d => d.parameters.length) = some q.2.1)
      && Nat.ble (i.2.2.2.2.2.1 + 1) FR && Nat.ble (8 + (i.2.2.2.1 + 11) + i.2.2.2.2.2.2.1) LC
      && (match k % 10 with
        | 0 => Nat.beq q.2.2.1 99 && wAt (i.2.2.2.2.2.2.2.2.getD 3 0) (.static i.2.1)
        | 1 => Nat.ble q.2.2.1 10 && wAt (i.2.2.2.2.2.2.2.2.getD 3 0) (.instanceMethod i.2.1) && wAt (i.2.2.2.2.2.2.2.2.getD 4 0) (.selects (RXc q.2.2.1) i.2.1 i.2.1)
        | _ => Nat.ble q.2.2.1 10 && wAt (i.2.2.2.2.2.2.2.2.getD 3 0) (.instanceMethod i.2.1) && decide (i.2.1.name = "<init>") && decide (i.2.2.2.2.1 = none)))
def fChk (own : String) (q : Nat × Nat × Nat × Nat) (i : Nat × Nat × Bool) : Bool :=
  Nat.beq q.1 i.1 && Nat.ble q.2.1 10 && Nat.blt q.2.2.1 (nfl q.2.1) && Nat.beq (ftc (tyc q.2.1 q.2.2.1)) q.2.2.2
    && cond i.2.2 (nAt i.2.1 (.fieldLinkNest own q.1 (RXc q.2.1) (TXc q.2.1 q.2.2.1).2.1 (TXc q.2.1 q.2.2.1).2.2.1 "NameKeeper")) (wAt i.2.1 (.fieldLink own q.1 (RXc q.2.1) (TXc q.2.1 q.2.2.1).2.1 (TXc q.2.1 q.2.2.1).2.2.1))
def iln (i : Jvm.ClassFile.Instr) : Nat := match i with
  | .bipush _ => 2 | .sipush _ => 3 | .ldc _ => 2 | .ldc2_w _ => 3 | .iload _ => 2 | .lload _ => 2 | .aload _ => 2 | .istore _ => 2 | .astore _ => 2 | .iinc _ _ => 3
  | .ifCond _ _ => 3 | .if_icmp _ _ => 3 | .ifnull _ => 3 | .ifnonnull _ => 3 | .goto _ => 3 | .getfield _ => 3 | .putfield _ => 3 | .new _ => 3 | .newarray _ => 2 | .anewarray _ => 3 | .multianewarray _ _ => 4
  | .invokevirtual _ => 3 | .invokespecial _ => 3 | .invokestatic _ => 3 | _ => 1
/-- the cases of a switch over lo, lo + 1 .. in their order -/
def swB (pc : Nat) : Int → List Int → List (Int32 × Nat) → Bool
  | _, [], [] => true
  | v, o :: os, q :: l => decide (q.1.toInt = v) && decide ((pc : Int) + o = (q.2 : Int)) && swB pc (v + 1) os l
  | _, _, _ => false
/-- the cases of a switch by pairs, in their order -/
def swL (pc : Nat) : List (Int × Int) → List (Int32 × Nat) → Bool
  | [], [] => true
  | o :: os, q :: l => decide (q.1.toInt = o.1) && decide ((pc : Int) + o.2 = (q.2 : Int)) && swL pc os l
  | _, _ => false
def hiB (lo hi : Int) (n : Nat) : Bool := decide (hi + 1 = lo + n)
def enB (own : String) (nL : Nat) (ini : Bool) (T : MT) (fi : List (Nat × Nat × Bool)) (ci : List (Nat × INF)) (pc : Nat) (q : EN) : Bool := match q.1 with
  | .iconst n => decide (Int32.ofInt n = q.2.2.2.1)
  | .bipush n => decide ((Int8.ofInt n).toInt32 = q.2.2.2.1)
  | .sipush n => decide ((Int16.ofInt n).toInt32 = q.2.2.2.1)
  | .ldc i => wIn (.constant own i q.2.2.2.1)
  | .lconst n => decide (Int64.ofNat (n : Nat) = q.2.2.2.2.1)
  | .ldc2_w i => wIn (.constantLong own i q.2.2.2.2.1)
  | .istore j => Nat.blt j nL
  | .istore_n j => Nat.blt j.val nL
  | .astore j => Nat.blt j nL
  | .astore_n j => Nat.blt j.val nL
  | .iinc j n => decide (Int32.ofInt n = q.2.2.2.1) && Nat.blt j nL
  | .ifCond _ off => decide ((pc : Int) + off = (q.2.2.1 : Int))
  | .if_icmp _ off => decide ((pc : Int) + off = (q.2.2.1 : Int))
  | .ifnull off => decide ((pc : Int) + off = (q.2.2.1 : Int))
  | .ifnonnull off => decide ((pc : Int) + off = (q.2.2.1 : Int))
  | .goto off => decide ((pc : Int) + off = (q.2.2.1 : Int))
  | .tableswitch d lo hi os => decide ((pc : Int) + d = (q.2.2.1 : Int)) && swB pc lo os.toList q.2.2.2.2.2 && hiB lo hi os.toList.length
  | .lookupswitch d ps => decide ((pc : Int) + d = (q.2.2.1 : Int)) && swL pc ps.toList q.2.2.2.2.2 && (ps.toList.zip (ps.toList.drop 1)).all (fun (a, next) => a.1 < next.1)
  | .putfield i => match lk i T.2.2.1, lk i fi with
    | some g, some f => !(TXc g.1 g.2.1).2.2.2 || (ini && decide (RXc g.1 = own) && !f.2)
    | _, _ => false
  | .new i => Nat.ble q.2.2.1 10 && wIn (.classLink own i (RXc q.2.2.1)) && wIn (.instantiable (RXc q.2.2.1) (nfl q.2.2.1)) && wIn (.initialized (RXc q.2.2.1))
  | .newarray t => match t with
    | .int => Nat.beq q.2.2.1 11 && wIn (.arrayClass .int)
    | .boolean => Nat.beq q.2.2.1 12 && wIn (.arrayClass .boolean)
    | _ => false
  | .anewarray i => (Nat.beq q.2.2.1 13 && wIn (.classLink own i RX4)) || (Nat.beq q.2.2.1 14 && wIn (.classLink own i RX7)) || (Nat.beq q.2.2.1 15 && wIn (.classLink own i RX8))
  | .multianewarray i d => Nat.beq d 2 && wIn (.classLink own i ("[" ++ (FieldType.array .int).toString)) && wIn (.arrayClass .int)
  | .invokevirtual i => match lk i ci with
    | some f => Nat.beq (f.2.2.2.2.2.2.1 % 10) 1
    | none => false
  | .invokespecial i => match lk i ci with
    | some f => Nat.beq (f.2.2.2.2.2.2.1 % 10) 2 || Nat.beq f.2.2.2.2.2.2.1 5
    | none => false
  | .invokestatic i => match lk i ci with
    | some f => Nat.beq (f.2.2.2.2.2.2.1 % 10) 0 || Nat.beq f.2.2.2.2.2.2.1 6 || Nat.beq f.2.2.2.2.2.2.1 7 || Nat.beq f.2.2.2.2.2.2.1 8
    | none => false
  | _ => true
def isSw (i : Jvm.ClassFile.Instr) : Bool := match i with
  | .tableswitch _ _ _ _ => true
  | .lookupswitch _ _ => true
  | _ => false
def dcB (cc : ByteArray) (pc : Nat) (q : EN) : Bool := match decode cc pc with
  | .ok (i, n) => decide (i = q.1) && (isSw q.1 || (Nat.beq n (iln q.1) && Nat.beq q.2.1 (pc + n)))
  | _ => false
/-- code, fields, calls of a method's table -/
def tabB (own : String) (cc : ByteArray) (nL : Nat) (ini : Bool) (FR LC : Nat) (T : MT) (fi : List (Nat × Nat × Bool)) (ci : List (Nat × INF)) : Bool :=
  T.1.all (fun q => dcB cc q.1 q.2 && enB own nL ini T fi ci q.1 q.2) && all2 (fChk own) T.2.2.1 fi && all2 (cChk own FR LC) T.2.2.2.1 ci
theorem lk_mem {α : Type} {i : Nat} {a : α} : ∀ (l : List (Nat × α)), lk i l = some a → (i, a) ∈ l
  | [], h => by cases h
  | q :: l, h => by
    unfold lk at h
    cases hb : Nat.beq i q.1 with
    | true =>
      rw [hb] at h
      have e : i = q.1 := Nat.eq_of_beq_eq_true hb
      have : q.2 = a := Option.some.inj h
      rw [e, ← this]
      exact List.mem_cons_self
    | false =>
      rw [hb] at h
      exact List.mem_cons_of_mem _ (lk_mem l h)
theorem dcB_ok {cc : ByteArray} {pc : Nat} {q : EN} (h : dcB cc pc q = true) : (∃ n, decode cc pc = .ok (q.1, n)) ∧ (isSw q.1 = false → decode cc pc = .ok (q.1, iln q.1) ∧ q.2.1 = pc + iln q.1) := by
  unfold dcB at h
  split at h
  · rename_i i n hd
    simp only [Bool.and_eq_true, decide_eq_true_eq, Bool.or_eq_true] at h
    obtain ⟨h1, h2⟩ := h
    subst h1
    refine ⟨⟨n, hd⟩, fun hs => ?_⟩
    rcases h2 with h2 | ⟨h2, h3⟩
    · rw [hs] at h2; cases h2
    · have e1 := Nat.eq_of_beq_eq_true h2
      have e2 := Nat.eq_of_beq_eq_true h3
      rw [e1] at hd e2
      exact ⟨hd, e2⟩
  · cases h
/-- cells and slots don't get fewer -/
def le2 (u t : MH) : Prop := sz u ≤ sz t ∧ sl u ≤ sl t
/-- those that are called keep what the table says of them -/
def SdAll : List (Nat × CE) → List (Nat × INF) → Prop
  | [], [] => True
  | q :: c, i :: n => (((95 ≤ q.2.2.1 ∧ q.2.2.1 ≤ 98) ∨ Sd i.2.1 i.2.2.1 i.2.2.2.1 i.2.2.2.2.1 i.2.2.2.2.2.1 i.2.2.2.2.2.2.1 q.2.2.2.2) ∧ ∀ as u v, q.2.2.2.2 as u = some v → le2 u v.2) ∧ SdAll c n
  | _, _ => False
theorem SdAll_lk {own : String} {FR LC i : Nat} {g : CE} : ∀ (c : List (Nat × CE)) (n : List (Nat × INF)), SdAll c n → all2 (cChk own FR LC) c n = true → lk i c = some g → ∃ f, lk i n = some f ∧ cChk own FR LC (i, g) (i, f) = true ∧ ((95 ≤ g.2.1 ∧ g.2.1 ≤ 98) ∨ Sd f.1 f.2.1 f.2.2.1 f.2.2.2.1 f.2.2.2.2.1 f.2.2.2.2.2.1 g.2.2.2)
  | [], _, _, _, h => by cases h
  | q :: c, [], h, _, _ => h.elim
  | q :: c, b :: n, h, h2, hl => by
    simp only [all2, Bool.and_eq_true] at h2
    have hk : q.1 = b.1 := by
      have := h2.1
      simp only [cChk, Bool.and_eq_true] at this
      exact Nat.eq_of_beq_eq_true this.1
    unfold lk at hl ⊢
    cases hb : Nat.beq i q.1 with
    | true =>
      rw [hb] at hl
      have e : i = q.1 := Nat.eq_of_beq_eq_true hb
      have : q.2 = g := Option.some.inj hl
      rw [← hk, hb]
      have e1 : (i, g) = q := by rw [e, ← this]
      have e2 : (i, b.2) = b := by rw [e, hk]
      refine ⟨b.2, rfl, ?_, ?_⟩
      · rw [e1, e2]; exact h2.1
      · rw [← this]; exact h.1.1
    | false =>
      rw [hb] at hl
      rw [← hk, hb]
      exact SdAll_lk c n h.2 h2.2 hl
theorem SdAll_mn {i : Nat} {g : CE} : ∀ (c : List (Nat × CE)) (n : List (Nat × INF)), SdAll c n → lk i c = some g → ∀ as u v, g.2.2.2 as u = some v → le2 u v.2
  | [], _, _, h => by cases h
  | q :: c, [], h, _ => h.elim
  | q :: c, b :: n, h, hl => by
    unfold lk at hl
    cases hb : Nat.beq i q.1 with
    | true =>
      rw [hb] at hl
      have : q.2 = g := Option.some.inj hl
      rw [← this]
      exact h.1.2
    | false =>
      rw [hb] at hl
      exact SdAll_mn c n h.2 hl
theorem sd_in {y : MethodName} {cc : ByteArray} {nL : Nat} {ret : Option FieldType} {fr lc rc : Nat} {M : MF} (S : Sd y cc nL ret fr lc M) : ((95 ≤ rc ∧ rc ≤ 98) ∨ Sd y cc nL ret fr lc M) ∧ ∀ as u v, M as u = some v → le2 u v.2 := ⟨Or.inr S, fun as u v h => (S as u v.2 v.1 h).1⟩
theorem sd_97 {P : Prop} : ((95 ≤ 97 ∧ 97 ≤ 98) ∨ P) ∧ ∀ (as : List MV) (u : MH) (v : MO), (fun _ _ => none : MF) as u = some v → le2 u v.2 := ⟨Or.inl (by decide), fun as u v h => by cases h⟩
theorem sd_98 {P : Prop} : ((95 ≤ 98 ∧ 98 ≤ 98) ∨ P) ∧ ∀ (as : List MV) (u : MH) (v : MO), (fun _ _ => none : MF) as u = some v → le2 u v.2 := ⟨Or.inl (by decide), fun as u v h => by cases h⟩
theorem sd_96 {P : Prop} : ((95 ≤ 96 ∧ 96 ≤ 98) ∨ P) ∧ ∀ (as : List MV) (u : MH) (v : MO), (fun _ _ => none : MF) as u = some v → le2 u v.2 := ⟨Or.inl (by decide), fun as u v h => by cases h⟩
theorem sd_95 {P : Prop} : ((95 ≤ 95 ∧ 95 ≤ 98) ∨ P) ∧ ∀ (as : List MV) (u : MH) (v : MO), (fun _ _ => none : MF) as u = some v → le2 u v.2 := ⟨Or.inl (by decide), fun as u v h => by cases h⟩
end

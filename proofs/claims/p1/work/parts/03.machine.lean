/-! A SMALL MACHINE: values, a heap of typed maps by abstract addresses (0, 1 .. as the cells are made), one instruction as a function with what follows as its continuation. -/
abbrev MV : Type := Int32 ⊕ (Int64 ⊕ Option Nat)
abbrev mI (x : Int32) : MV := Sum.inl x
abbrev mL (x : Int64) : MV := Sum.inr (Sum.inl x)
abbrev mR (r : Option Nat) : MV := Sum.inr (Sum.inr r)
/-- ints, longs, references by address and place; kind and length of each cell; how many cells, how many slots. Kinds 0 to 10: the classes; 11 int[], 12 boolean[], 13 Route[], 14 Walker[], 15 World[], 16 int[][], 17 none yet -/
abbrev MH : Type := (Nat → Nat → Int32) × (Nat → Nat → Int64) × (Nat → Nat → Option Nat) × (Nat → Nat × Nat) × Nat × Nat
abbrev MO : Type := Option MV × MH
abbrev MF : Type := List MV → MH → Option MO
abbrev MLs : Type := List (Option MV)
abbrev MK : Type := Nat → MLs → List MV → MH → Option MO
def lk {α : Type} (k : Nat) : List (Nat × α) → Option α
  | [] => none
  | q :: l => cond (Nat.beq k q.1) (some q.2) (lk k l)
def pI (st : List MV) (f : Int32 → List MV → Option MO) : Option MO := match st with
  | Sum.inl x :: r => f x r
  | _ => none
def pL (st : List MV) (f : Int64 → List MV → Option MO) : Option MO := match st with
  | Sum.inr (Sum.inl x) :: r => f x r
  | _ => none
def pR (st : List MV) (f : Option Nat → List MV → Option MO) : Option MO := match st with
  | Sum.inr (Sum.inr x) :: r => f x r
  | _ => none
/-- any value of one word -/
def pC (st : List MV) (f : MV → List MV → Option MO) : Option MO := match st with
  | Sum.inl x :: r => f (Sum.inl x) r
  | Sum.inr (Sum.inr x) :: r => f (Sum.inr (Sum.inr x)) r
  | _ => none
/-- so many values, the deepest first -/
def pN : Nat → List MV → List MV → (List MV → List MV → Option MO) → Option MO
  | 0, acc, st, f => f acc st
  | n + 1, acc, st, f => match st with
    | v :: r => pN n (v :: acc) r f
    | [] => none
def nth : MLs → Nat → Option MV
  | [], _ => none
  | v :: _, 0 => v
  | _ :: l, n + 1 => nth l n
def dl (v : Option MV) : Option MV := match v with
  | some (Sum.inr (Sum.inl _)) => none
  | w => w
def lset : MLs → Nat → MV → MLs
  | [], _, _ => []
  | _ :: l, 0, v => some v :: l
  | w :: l, n + 1, v => dl w :: lset l n v
def lI (lo : MLs) (j : Nat) (f : Int32 → Option MO) : Option MO := match nth lo j with
  | some (Sum.inl x) => f x
  | _ => none
def lL (lo : MLs) (j : Nat) (f : Int64 → Option MO) : Option MO := match nth lo j with
  | some (Sum.inr (Sum.inl x)) => f x
  | _ => none
def lR (lo : MLs) (j : Nat) (f : Option Nat → Option MO) : Option MO := match nth lo j with
  | some (Sum.inr (Sum.inr x)) => f x
  | _ => none
def asV (r : Option MV) : Option Unit := match r with
  | none => some ()
  | _ => none
def asI (r : Option MV) : Option Int32 := match r with
  | some (Sum.inl x) => some x
  | _ => none
def asR (r : Option MV) : Option (Option Nat) := match r with
  | some (Sum.inr (Sum.inr x)) => some x
  | _ => none
def up2 {α : Type} (f : Nat → Nat → α) (a k : Nat) (v : α) : Nat → Nat → α := fun x y => if x = a ∧ y = k then v else f x y
def bz (x : Int32) : Int32 := if x = 0 then 0 else 1
abbrev sI (s : MH) (a k : Nat) (v : Int32) : MH := (up2 s.1 a k v, s.2)
abbrev sL (s : MH) (a k : Nat) (v : Int64) : MH := (s.1, up2 s.2.1 a k v, s.2.2)
abbrev sR (s : MH) (a k : Nat) (v : Option Nat) : MH := (s.1, s.2.1, up2 s.2.2.1 a k v, s.2.2.2)
abbrev kd (s : MH) (a : Nat) : Nat := (s.2.2.2.1 a).1
abbrev ln (s : MH) (a : Nat) : Nat := (s.2.2.2.1 a).2
abbrev sz (s : MH) : Nat := s.2.2.2.2.1
/-- a new cell -/
abbrev al (s : MH) (d n : Nat) : MH := (fun x y => if x = s.2.2.2.2.1 then 0 else s.1 x y, fun x y => if x = s.2.2.2.2.1 then 0 else s.2.1 x y, fun x y => if x = s.2.2.2.2.1 then none else s.2.2.1 x y, fun x => if x = s.2.2.2.2.1 then (d, n) else s.2.2.2.1 x, s.2.2.2.2.1 + 1, s.2.2.2.2.2 + n)
/-- new int[n][m]: the outer row, then the inner ones -/
abbrev alM (s : MH) (n w : Nat) : MH := (fun x y => if s.2.2.2.2.1 ≤ x ∧ x < s.2.2.2.2.1 + 1 + n then 0 else s.1 x y, fun x y => if s.2.2.2.2.1 ≤ x ∧ x < s.2.2.2.2.1 + 1 + n then 0 else s.2.1 x y, fun x y => if x = s.2.2.2.2.1 then (if y < n then some (s.2.2.2.2.1 + 1 + y) else none) else if s.2.2.2.2.1 ≤ x ∧ x < s.2.2.2.2.1 + 1 + n then none else s.2.2.1 x y, fun x => if x = s.2.2.2.2.1 then (16, n) else if s.2.2.2.2.1 ≤ x ∧ x < s.2.2.2.2.1 + 1 + n then (11, w) else s.2.2.2.1 x, s.2.2.2.2.1 + 1 + n, s.2.2.2.2.2 + n + n * w)
abbrev inb (j : Int32) (n : Nat) : Prop := ¬ (j < 0 ∨ n ≤ j.toNatClampNeg)
def fI (s : MH) (c a k : Nat) : Option Int32 := if kd s a = c then some (s.1 a k) else none
def fZ (s : MH) (c a k : Nat) : Option Int32 := if kd s a = c then some (bz (s.1 a k)) else none
def fL (s : MH) (c a k : Nat) : Option Int64 := if kd s a = c then some (s.2.1 a k) else none
def fR (s : MH) (c a k : Nat) : Option (Option Nat) := if kd s a = c then some (s.2.2.1 a k) else none
def wI (s : MH) (c a k : Nat) (v : Int32) : Option MH := if kd s a = c then some (sI s a k v) else none
def wZ (s : MH) (c a k : Nat) (v : Int32) : Option MH := if kd s a = c ∧ (v = 0 ∨ v = 1) then some (sI s a k v) else none
def wL (s : MH) (c a k : Nat) (v : Int64) : Option MH := if kd s a = c then some (sL s a k v) else none
def wR (s : MH) (c a k : Nat) (v : Option Nat) : Option MH := if kd s a = c then some (sR s a k v) else none
def ld (s : MH) (d a : Nat) (j : Int32) : Option Int32 := if kd s a = d ∧ inb j (ln s a) then some (s.1 a j.toNatClampNeg) else none
def st (s : MH) (d a : Nat) (j v : Int32) : Option MH := if kd s a = d ∧ inb j (ln s a) then some (sI s a j.toNatClampNeg v) else none
def ldR (s : MH) (a : Nat) (j : Int32) : Option (Option Nat) := if (13 ≤ kd s a ∧ kd s a ≤ 16) ∧ inb j (ln s a) then some (s.2.2.1 a j.toNatClampNeg) else none
/-- what an array of references may hold: nothing, or an object of its class -/
def elt (s : MH) (d : Nat) (v : Option Nat) : Bool := match v with
  | none => true
  | some b => (d == 13 && kd s b == 4) || (d == 14 && kd s b == 7) || (d == 15 && kd s b == 8)
def stR (s : MH) (a : Nat) (j : Int32) (v : Option Nat) : Option MH := if (13 ≤ kd s a ∧ kd s a ≤ 15) ∧ inb j (ln s a) ∧ elt s (kd s a) v = true then some (sR s a j.toNatClampNeg v) else none
def aln (s : MH) (a : Nat) : Option Int32 := if 11 ≤ kd s a ∧ kd s a ≤ 16 then some (Int32.ofNat (ln s a)) else none
/-- System.arraycopy over rows of ints, both apart -/
def cpy (s : MH) (a : Nat) (sp : Int32) (b : Nat) (dp n : Int32) : Option MH := if kd s a = 11 ∧ kd s b = 11 ∧ ¬ sp < 0 ∧ ¬ dp < 0 ∧ ¬ n < 0 ∧ sp.toNatClampNeg + n.toNatClampNeg ≤ ln s a ∧ dp.toNatClampNeg + n.toNatClampNeg ≤ ln s b ∧ a ≠ b then some (fun x y => if x = b ∧ dp.toNatClampNeg ≤ y ∧ y < dp.toNatClampNeg + n.toNatClampNeg then s.1 a (sp.toNatClampNeg + (y - dp.toNatClampNeg)) else s.1 x y, s.2) else none
def nw (s : MH) (d : Nat) (n : Int32) : Option MH := if ¬ n < 0 ∧ n.toNatClampNeg ≤ 100000 then some (al s d n.toNatClampNeg) else none
def nfl (c : Nat) : Nat := match c with
  | 0 => 3 | 1 => 17 | 2 => 7 | 3 => 7 | 4 => 2 | 5 => 2 | 6 => 7 | 7 => 9 | 8 => 4 | 9 => 16 | _ => 43
/-- an instruction, the next place, where it jumps (or the kind that it makes), its constant, its long constant, its cases -/
abbrev EN : Type := Jvm.ClassFile.Instr × Nat × Nat × Int32 × Int64 × List (Int32 × Nat)
/-- a method that is called: how many arguments behind the receiver, the receiver's class (95 Math.min, 96 Math.max, 97 arraycopy, 98 Object's constructor, 99 static), 0 void 1 int 2 reference, what it does -/
abbrev CE : Type := Nat × Nat × Nat × MF
/-- code; places where a walk is cut, with the locals that are kept there; fields by their entries: class, place, 0 int 1 boolean 2 long 3 reference; calls; 0 void 1 int 2 boolean 3 reference -/
abbrev MT : Type := List (Nat × EN) × List (Nat × List Bool) × List (Nat × Nat × Nat × Nat) × List (Nat × CE) × Nat
def swt (x : Int32) (d : Nat) : List (Int32 × Nat) → (Nat → Option MO) → Option MO
  | [], f => f d
  | q :: l, f => if x = q.1 then f q.2 else swt x d l f
def psh (rk : Nat) (o : MO) (r : List MV) (f : List MV → MH → Option MO) : Option MO := match rk with
  | 0 => (asV o.1).bind fun _ => f r o.2
  | 1 => (asI o.1).bind fun x => f (mI x :: r) o.2
  | _ => (asR o.1).bind fun x => f (mR x :: r) o.2
def csum : List MV → Nat
  | [] => 0
  | v :: l => (match v with
    | Sum.inr (Sum.inl _) => 2
    | _ => 1) + csum l
/-- not too much lies on the stack at a call -/
def few (r : List MV) (f : Option MO) : Option MO := cond (Nat.ble (csum r) 8) f none
def rtI (rk : Nat) (x : Int32) (r : List MV) (s : MH) : Option MO := match r with
  | [] => match rk with
    | 1 => some (some (mI x), s)
    | 2 => if x = 0 ∨ x = 1 then some (some (mI x), s) else none
    | _ => none
  | _ => none
def rtR (rk : Nat) (x : Option Nat) (r : List MV) (s : MH) : Option MO := match r with
  | [] => match rk with
    | 3 => some (some (mR x), s)
    | _ => none
  | _ => none
def rtV (rk : Nat) (r : List MV) (s : MH) : Option MO := match r with
  | [] => match rk with
    | 0 => some (none, s)
    | _ => none
  | _ => none
def c2 (c : Jvm.ClassFile.Cond) (x y : Int32) (t f : Option MO) : Option MO := match c with
  | .eq => if x = y then t else f
  | .ne => if x = y then f else t
  | .lt => if x < y then t else f
  | .ge => if y ≤ x then t else f
  | .gt => if y < x then t else f
  | .le => if x ≤ y then t else f
def cR (r : Option Nat) (n s : Option MO) : Option MO := match r with
  | none => n
  | some _ => s
def fgt (s : MH) (q : Nat × Nat × Nat) (a : Nat) (f : MV → Option MO) : Option MO := match q.2.2 with
  | 0 => (fI s q.1 a q.2.1).bind fun v => f (mI v)
  | 1 => (fZ s q.1 a q.2.1).bind fun v => f (mI v)
  | 2 => (fL s q.1 a q.2.1).bind fun v => f (mL v)
  | _ => (fR s q.1 a q.2.1).bind fun v => f (mR v)
def fpt (s : MH) (q : Nat × Nat × Nat) (o : List MV) (f : List MV → MH → Option MO) : Option MO := match q.2.2 with
  | 0 => pI o fun v r => pR r fun b r => b.bind fun a => (wI s q.1 a q.2.1 v).bind fun t => f r t
  | 1 => pI o fun v r => pR r fun b r => b.bind fun a => (wZ s q.1 a q.2.1 v).bind fun t => f r t
  | 2 => pL o fun v r => pR r fun b r => b.bind fun a => (wL s q.1 a q.2.1 v).bind fun t => f r t
  | _ => pR o fun v r => pR r fun b r => b.bind fun a => (wR s q.1 a q.2.1 v).bind fun t => f r t
/-- one instruction -/
def stI (T : MT) (k : MK) (q : EN) (lo : MLs) (o : List MV) (s : MH) : Option MO := match q.1 with
  | .iconst _ => k q.2.1 lo (mI q.2.2.2.1 :: o) s
  | .bipush _ => k q.2.1 lo (mI q.2.2.2.1 :: o) s
  | .sipush _ => k q.2.1 lo (mI q.2.2.2.1 :: o) s
  | .ldc _ => k q.2.1 lo (mI q.2.2.2.1 :: o) s
  | .lconst _ => k q.2.1 lo (mL q.2.2.2.2.1 :: o) s
  | .ldc2_w _ => k q.2.1 lo (mL q.2.2.2.2.1 :: o) s
  | .aconst_null => k q.2.1 lo (mR none :: o) s
  | .iload j => lI lo j fun x => k q.2.1 lo (mI x :: o) s
  | .iload_n j => lI lo j.val fun x => k q.2.1 lo (mI x :: o) s
  | .lload j => lL lo j fun x => k q.2.1 lo (mL x :: o) s
  | .lload_n j => lL lo j.val fun x => k q.2.1 lo (mL x :: o) s
  | .aload j => lR lo j fun x => k q.2.1 lo (mR x :: o) s
  | .aload_n j => lR lo j.val fun x => k q.2.1 lo (mR x :: o) s
  | .istore j => pI o fun x r => k q.2.1 (lset lo j (mI x)) r s
  | .istore_n j => pI o fun x r => k q.2.1 (lset lo j.val (mI x)) r s
  | .astore j => pR o fun x r => k q.2.1 (lset lo j (mR x)) r s
  | .astore_n j => pR o fun x r => k q.2.1 (lset lo j.val (mR x)) r s
  | .iinc j _ => lI lo j fun x => k q.2.1 (lset lo j (mI (x + q.2.2.2.1))) o s
  | .dup => pC o fun v r => k q.2.1 lo (v :: v :: r) s
  | .pop => pC o fun _ r => k q.2.1 lo r s
  | .dup2 => pC o fun v r => pC r fun w r => k q.2.1 lo (v :: w :: v :: w :: r) s
  | .iadd => pI o fun y r => pI r fun x r => k q.2.1 lo (mI (x + y) :: r) s
  | .isub => pI o fun y r => pI r fun x r => k q.2.1 lo (mI (x - y) :: r) s
  | .imul => pI o fun y r => pI r fun x r => k q.2.1 lo (mI (x * y) :: r) s
  | .idiv => pI o fun y r => pI r fun x r => if y = 0 then none else k q.2.1 lo (mI (x / y) :: r) s
  | .irem => pI o fun y r => pI r fun x r => if y = 0 then none else k q.2.1 lo (mI (x - x / y * y) :: r) s
  | .iand => pI o fun y r => pI r fun x r => k q.2.1 lo (mI (x &&& y) :: r) s
  | .ior => pI o fun y r => pI r fun x r => k q.2.1 lo (mI (x ||| y) :: r) s
  | .ishl => pI o fun y r => pI r fun x r => k q.2.1 lo (mI (x <<< (y &&& 31)) :: r) s
  | .ishr => pI o fun y r => pI r fun x r => k q.2.1 lo (mI (x >>> (y &&& 31)) :: r) s
  | .iushr => pI o fun y r => pI r fun x r => k q.2.1 lo (mI (x.toUInt32 >>> (y.toUInt32 &&& Int32.toUInt32 31)).toInt32 :: r) s
  | .ladd => pL o fun y r => pL r fun x r => k q.2.1 lo (mL (x + y) :: r) s
  | .lmul => pL o fun y r => pL r fun x r => k q.2.1 lo (mL (x * y) :: r) s
  | .ldiv => pL o fun y r => pL r fun x r => if y = 0 then none else k q.2.1 lo (mL (x / y) :: r) s
  | .lrem => pL o fun y r => pL r fun x r => if y = 0 then none else k q.2.1 lo (mL (x - x / y * y) :: r) s
  | .land => pL o fun y r => pL r fun x r => k q.2.1 lo (mL (x &&& y) :: r) s
  | .i2l => pI o fun x r => k q.2.1 lo (mL x.toInt64 :: r) s
  | .l2i => pL o fun x r => k q.2.1 lo (mI x.toInt32 :: r) s
  | .lcmp => pL o fun y r => pL r fun x r => k q.2.1 lo (mI (lg_cmp x y) :: r) s
  | .ifCond c _ => pI o fun x r => c2 c x 0 (k q.2.2.1 lo r s) (k q.2.1 lo r s)
  | .if_icmp c _ => pI o fun y r => pI r fun x r => c2 c x y (k q.2.2.1 lo r s) (k q.2.1 lo r s)
  | .ifnull _ => pR o fun x r => cR x (k q.2.2.1 lo r s) (k q.2.1 lo r s)
  | .ifnonnull _ => pR o fun x r => cR x (k q.2.1 lo r s) (k q.2.2.1 lo r s)
  | .goto _ => k q.2.2.1 lo o s
  | .tableswitch _ _ _ _ => pI o fun x r => swt x q.2.2.1 q.2.2.2.2.2 fun pc => k pc lo r s
  | .lookupswitch _ _ => pI o fun x r => swt x q.2.2.1 q.2.2.2.2.2 fun pc => k pc lo r s
  | .getfield i => (lk i T.2.2.1).bind fun g => pR o fun b r => b.bind fun a => fgt s g a fun v => k q.2.1 lo (v :: r) s
  | .putfield i => (lk i T.2.2.1).bind fun g => fpt s g o fun r t => k q.2.1 lo r t
  | .arraylength => pR o fun b r => b.bind fun a => (aln s a).bind fun n => k q.2.1 lo (mI n :: r) s
  | .iaload => pI o fun j r => pR r fun b r => b.bind fun a => (ld s 11 a j).bind fun x => k q.2.1 lo (mI x :: r) s
  | .baload => pI o fun j r => pR r fun b r => b.bind fun a => (ld s 12 a j).bind fun x => k q.2.1 lo (mI x :: r) s
  | .aaload => pI o fun j r => pR r fun b r => b.bind fun a => (ldR s a j).bind fun x => k q.2.1 lo (mR x :: r) s
  | .iastore => pI o fun v r => pI r fun j r => pR r fun b r => b.bind fun a => (st s 11 a j v).bind fun t => k q.2.1 lo r t
  | .bastore => pI o fun v r => pI r fun j r => pR r fun b r => b.bind fun a => (st s 12 a j (vp_nar .boolean v)).bind fun t => k q.2.1 lo r t
  | .aastore => pR o fun v r => pI r fun j r => pR r fun b r => b.bind fun a => (stR s a j v).bind fun t => k q.2.1 lo r t
  | .new _ => k q.2.1 lo (mR (some (sz s)) :: o) (al s q.2.2.1 (nfl q.2.2.1))
  | .newarray _ => pI o fun n r => (nw s q.2.2.1 n).bind fun t => k q.2.1 lo (mR (some (sz s)) :: r) t
  | .anewarray _ => pI o fun n r => (nw s q.2.2.1 n).bind fun t => k q.2.1 lo (mR (some (sz s)) :: r) t
  | .multianewarray _ _ => pI o fun m r => pI r fun n r => if (¬ m < 0 ∧ m.toNatClampNeg ≤ 1000) ∧ ¬ n < 0 ∧ n.toNatClampNeg ≤ 1000 then k q.2.1 lo (mR (some (sz s)) :: r) (alM s n.toNatClampNeg m.toNatClampNeg) else none
  | .invokevirtual i => (lk i T.2.2.2.1).bind fun g => pN g.1 [] o fun as r => pR r fun b r => b.bind fun a => few r (if kd s a = g.2.1 then (g.2.2.2 (mR (some a) :: as) s).bind fun u => psh g.2.2.1 u r fun r t => k q.2.1 lo r t else none)
  | .invokespecial i => (lk i T.2.2.2.1).bind fun g => cond (Nat.beq g.2.1 98) (pR o fun b r => b.bind fun _ => few r (k q.2.1 lo r s)) (pN g.1 [] o fun as r => pR r fun b r => b.bind fun a => few r (if kd s a = g.2.1 then (g.2.2.2 (mR (some a) :: as) s).bind fun u => psh g.2.2.1 u r fun r t => k q.2.1 lo r t else none))
  | .invokestatic i => (lk i T.2.2.2.1).bind fun g => cond (Nat.beq g.2.1 97) (pI o fun n r => pI r fun dp r => pR r fun b r => pI r fun sp r => pR r fun a r => a.bind fun a => b.bind fun b => few r ((cpy s a sp b dp n).bind fun t => k q.2.1 lo r t)) (cond (Nat.beq g.2.1 96) (pI o fun y r => pI r fun x r => few r (k q.2.1 lo (mI (if x < y then y else x) :: r) s)) (cond (Nat.beq g.2.1 95) (pI o fun y r => pI r fun x r => few r (k q.2.1 lo (mI (if y < x then y else x) :: r) s)) (pN g.1 [] o fun as r => few r ((g.2.2.2 as s).bind fun u => psh g.2.2.1 u r fun r t => k q.2.1 lo r t))))
  | .ireturn => pI o fun x r => rtI T.2.2.2.2 x r s
  | .areturn => pR o fun x r => rtR T.2.2.2.2 x r s
  | .return_ => rtV T.2.2.2.2 o s
  | _ => none
def stp (T : MT) (k : MK) (pc : Nat) (lo : MLs) (o : List MV) (s : MH) : Option MO := (lk pc T.1).bind fun q => stI T k q lo o s
def msk : List Bool → MLs → MLs
  | b :: m, v :: l => cond b v none :: msk m l
  | _, _ => []
def cutAt (T : MT) (pc : Nat) (lo : MLs) : MLs := match lk pc T.2.1 with
  | none => lo
  | some m => msk m lo
def exec (T : MT) : Nat → MK
  | 0 => fun _ _ _ _ => none
  | n + 1 => stp T fun pc lo o s => exec T n pc (cutAt T pc lo) o s
/-- so many instructions at most, up to a place where the walk is cut -/
def segK (T : MT) (k : MK) : Nat → MK
  | 0 => k
  | n + 1 => stp T fun pc lo o s => match lk pc T.2.1 with
    | none => segK T k n pc lo o s
    | some m => k pc (msk m lo) o s

/-! The reference: places in its row of numbers (now lies at 194). -/
theorem nI_mul (a b : Nat) : nI a * nI b = nI (a * b) := by
  show Int32.ofNat a * Int32.ofNat b = Int32.ofNat (a * b)
  rw [Int32.ofNat_mul]
theorem ld194 {J : MJ} (h : RefL J) (I : MI) {k : Nat} (hk : k < 1853) : ld (I, J) 11 194 (nI k) = some (I 194 k) := by
  rw [ld_ok _ h.s18 (inb_nI hk (by decide)), show (nI k).toNatClampNeg = k from ix_nI (by omega)]
theorem st194 {J : MJ} (h : RefL J) (I : MI) {k : Nat} (hk : k < 1853) (v : Int32) : st (I, J) 11 194 (nI k) v = some (up2 I 194 k v, J) := by
  rw [st_ok _ _ h.s18 (inb_nI hk (by decide)), show (nI k).toNatClampNeg = k from ix_nI (by omega)]
theorem w_entryAt (s : MH) (e f : Nat) {x : Int32} (hx : x = nI f) : M_X10_entryAt [mI (nI e), mI x] s = some (some (mI (nI (701 + 9 * e + f))), s) := by
  subst hx
  rw [E_X10_entryAt, show (701 : Int32) = nI 701 from rfl, show (9 : Int32) = nI 9 from rfl, nI_mul, nI_add, nI_add]
theorem w_nodeAt (s : MH) (e f : Nat) {x : Int32} (hx : x = nI f) : M_X10_nodeAt [mI (nI e), mI x] s = some (some (mI (nI (401 + 5 * e + f))), s) := by
  subst hx
  rw [E_X10_nodeAt, show (401 : Int32) = nI 401 from rfl, show (5 : Int32) = nI 5 from rfl, nI_mul, nI_add, nI_add]
theorem w_walkerAt (s : MH) (e f : Nat) {x : Int32} (hx : x = nI f) : M_X10_walkerAt [mI (nI e), mI x] s = some (some (mI (nI (17 + 96 * e + f))), s) := by
  subst hx
  rw [E_X10_walkerAt, show (17 : Int32) = nI 17 from rfl, show (96 : Int32) = nI 96 from rfl, nI_mul, nI_add, nI_add]
theorem w_its {J : MJ} (h : RefL J) (I : MI) {e : Nat} (f : Nat) {x : Int32} (hx : x = nI f) (he : e < 128) (hf : f < 9) : M_X10_its [mR (some 188), mI (nI e), mI x] (I, J) = some (some (mI (I 194 (701 + 9 * e + f))), (I, J)) := by
  rw [E_X10_its, fR_ok 18 h.k, Option.bind_some, h.r18, w_entryAt _ e f hx]
  simp only [Option.bind_some, asI_I]
  rw [ld194 h I (by omega)]
  rfl
theorem w_nodeHas {J : MJ} (h : RefL J) (I : MI) {e : Nat} (f : Nat) {x : Int32} (hx : x = nI f) (he : e < 60) (hf : f < 5) : M_X10_nodeHas [mR (some 188), mI (nI e), mI x] (I, J) = some (some (mI (I 194 (401 + 5 * e + f))), (I, J)) := by
  rw [E_X10_nodeHas, fR_ok 18 h.k, Option.bind_some, h.r18, w_nodeAt _ e f hx]
  simp only [Option.bind_some, asI_I]
  rw [ld194 h I (by omega)]
  rfl
theorem w_walkerHas {J : MJ} (h : RefL J) (I : MI) {e : Nat} (f : Nat) {x : Int32} (hx : x = nI f) (he : e < 4) (hf : f < 96) : M_X10_walkerHas [mR (some 188), mI (nI e), mI x] (I, J) = some (some (mI (I 194 (17 + 96 * e + f))), (I, J)) := by
  rw [E_X10_walkerHas, fR_ok 18 h.k, Option.bind_some, h.r18, w_walkerAt _ e f hx]
  simp only [Option.bind_some, asI_I]
  rw [ld194 h I (by omega)]
  rfl
theorem w_flag (x : Int32) (s : MH) : M_X10_flag [mI x] s = some (some (mI (if x = 0 then 0 else 1)), s) := by
  rw [E_X10_flag]
  split <;> rfl
def rfR (I : MI) (k : Nat) : MI := up2 I 190 k (I 190 k + 1)
theorem w_refuses {J : MJ} (h : RefL J) (I : MI) {k : Nat} {x : Int32} (hx : x = nI k) (hk : k < 6) : M_X10_refuses [mR (some 188), mI x] (I, J) = some (some (mI (-1)), (rfR I k, J)) := by
  subst hx
  rw [E_X10_refuses]
  simp only [fR_ok 8 h.k, h.r8, Option.bind_some, ld_ok _ h.s8 (inb_nI hk (by decide)), st_ok _ _ h.s8 (inb_nI hk (by decide))]
  rw [show (nI k).toNatClampNeg = k from ix_nI (by omega)]
  rfl
theorem w_isRefused {J : MJ} (h : RefL J) (I : MI) {k : Nat} {x : Int32} (hx : x = nI k) (hk : k < 6) : M_X10_isRefused [mR (some 188), mI x] (I, J) = some (some (mI 0), (rfR I k, J)) := by
  subst hx
  rw [E_X10_isRefused]
  simp only [fR_ok 8 h.k, h.r8, Option.bind_some, ld_ok _ h.s8 (inb_nI hk (by decide)), st_ok _ _ h.s8 (inb_nI hk (by decide))]
  rw [show (nI k).toNatClampNeg = k from ix_nI (by omega)]
  simp [rfR]
def rootQ (D : Nat → Int32) (x : Int32) : Option Nat := fst? (fun v => decide (D (5 + v) = x)) 0 3
theorem w_rootOf {J : MJ} (h : RefL J) (I : MI) (x : Int32) : M_X10_rootOf [mR (some 188), mI x] (I, J) = some (some (mI (oI (rootQ (I 194) x))), (I, J)) := by
  rw [E_X10_rootOf]
  have step := loop_find (fun k => Ev T_X10_rootOf 2 [some (mR (some 188)), some (mI x), some (mI (nI k))] [] (I, J)) (fun v => decide (I 194 (5 + v) = x)) (fun k => some (some (mI (nI k)), (I, J))) 3 (fun k hk => by
    try dsimp only
    rw [E_X10_rootOf_2, if_neg (show ¬ (3 : Int32) ≤ nI k from nI_ge hk (by decide))]
    simp only [fR_ok 18 h.k, h.r18, Option.bind_some]
    rw [show (5 : Int32) + nI k = nI (5 + k) from nI_add 5 k, ld194 h I (by omega), Option.bind_some, nI_1]
    by_cases c : I 194 (5 + k) = x
    · simp [c]
    · simp [c]) 3 0 (by omega)
  try dsimp only at step
  rw [show (nI 0) = 0 from rfl] at step
  rw [step]
  unfold rootQ
  cases fst? (fun v => decide (I 194 (5 + v) = x)) 0 3 with
  | none =>
    show Ev T_X10_rootOf 2 _ [] (I, J) = _
    rw [E_X10_rootOf_2, if_pos (show (3 : Int32) ≤ nI 3 by decide)]
    rfl
  | some j => rfl
theorem w_isRoot {J : MJ} (h : RefL J) (I : MI) (x : Int32) : M_X10_isRoot [mR (some 188), mI x] (I, J) = some (some (mI (match rootQ (I 194) x with
    | some _ => 1
    | none => 0)), (I, J)) := by
  rw [E_X10_isRoot]
  have step := loop_find (fun k => Ev T_X10_isRoot 2 [some (mR (some 188)), some (mI x), some (mI (nI k))] [] (I, J)) (fun v => decide (I 194 (5 + v) = x)) (fun k => some (some (mI 1), (I, J))) 3 (fun k hk => by
    try dsimp only
    rw [E_X10_isRoot_2, if_neg (show ¬ (3 : Int32) ≤ nI k from nI_ge hk (by decide))]
    simp only [fR_ok 18 h.k, h.r18, Option.bind_some]
    rw [show (5 : Int32) + nI k = nI (5 + k) from nI_add 5 k, ld194 h I (by omega), Option.bind_some, nI_1]
    by_cases c : I 194 (5 + k) = x
    · simp [c]
    · simp [c]) 3 0 (by omega)
  try dsimp only at step
  rw [show (nI 0) = 0 from rfl] at step
  rw [step]
  unfold rootQ
  cases fst? (fun v => decide (I 194 (5 + v) = x)) 0 3 with
  | none =>
    show Ev T_X10_isRoot 2 _ [] (I, J) = _
    rw [E_X10_isRoot_2, if_pos (show (3 : Int32) ≤ nI 3 by decide)]
    simp
  | some j => rfl

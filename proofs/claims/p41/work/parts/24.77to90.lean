section
/-! The reference: places in its row of numbers (now lies at 194). -/
theorem nI_mul (a b : Nat) : nI a * nI b = nI (a * b) := by
  show Int32.ofNat a * Int32.ofNat b = Int32.ofNat (a * b)
  rw [Int32.ofNat_mul]
theorem ld194 {J : MJ} (h : RefL J) (I : MI) {k : Nat} (hk : k < 1853) : ld (I, J) 11 194 (nI k) = some (I 194 k) := by
  rw [ld_ok _ h.s18 (inb_nI hk (by decide)), show (nI k).toNatClampNeg = k from ix_nI (by omega)]
theorem st194 {J : MJ} (h : RefL J) (I : MI) {k : Nat} (hk : k < 1853) (v : Int32) : st (I, J) 11 194 (nI k) v = some (up2 I 194 k v, J) := by
  rw [st_ok _ _ h.s18 (inb_nI hk (by decide)), show (nI k).toNatClampNeg = k from ix_nI (by omega)]
theorem w_entryAt (s : MH) (e f : Nat) {x : Int32} (hx : x = nI f) : M_X10_entryAt [mI (nI e), mI x] s = some (some (mI (nI (701 + 9 * e + f))), s) := by
  subst hx
  rw [E_X10_entryAt, show (701 : Int32) = nI 701 from rfl, show (9 : Int32) = nI 9 from rfl, nI_mul, nI_add, nI_add]
theorem w_nodeAt (s : MH) (e f : Nat) {x : Int32} (hx : x = nI f) : M_X10_nodeAt [mI (nI e), mI x] s = some (some (mI (nI (401 + 5 * e + f))), s) := by
  subst hx
  rw [E_X10_nodeAt, show (401 : Int32) = nI 401 from rfl, show (5 : Int32) = nI 5 from rfl, nI_mul, nI_add, nI_add]
theorem w_walkerAt (s : MH) (e f : Nat) {x : Int32} (hx : x = nI f) : M_X10_walkerAt [mI (nI e), mI x] s = some (some (mI (nI (17 + 96 * e + f))), s) := by
  subst hx
  rw [E_X10_walkerAt, show (17 : Int32) = nI 17 from rfl, show (96 : Int32) = nI 96 from rfl, nI_mul, nI_add, nI_add]
theorem w_its {J : MJ} (h : RefL J) (I : MI) {e : Nat} (f : Nat) {x : Int32} (hx : x = nI f) (he : e < 128) (hf : f < 9) : M_X10_its [mR (some 188), mI (nI e), mI x] (I, J) = some (some (mI (I 194 (701 + 9 * e + f))), (I, J)) := by
  rw [E_X10_its, fR_ok 18 h.k, Option.bind_some, h.r18, w_entryAt _ e f hx]
  simp only [Option.bind_some, asI_I]
  rw [ld194 h I (by omega)]
  rfl
theorem w_nodeHas {J : MJ} (h : RefL J) (I : MI) {e : Nat} (f : Nat) {x : Int32} (hx : x = nI f) (he : e < 60) (hf : f < 5) : M_X10_nodeHas [mR (some 188), mI (nI e), mI x] (I, J) = some (some (mI (I 194 (401 + 5 * e + f))), (I, J)) := by
  rw [E_X10_nodeHas, fR_ok 18 h.k, Option.bind_some, h.r18, w_nodeAt _ e f hx]
  simp only [Option.bind_some, asI_I]
  rw [ld194 h I (by omega)]
  rfl
theorem w_walkerHas {J : MJ} (h : RefL J) (I : MI) {e : Nat} (f : Nat) {x : Int32} (hx : x = nI f) (he : e < 4) (hf : f < 96) : M_X10_walkerHas [mR (some 188), mI (nI e), mI x] (I, J) = some (some (mI (I 194 (17 + 96 * e + f))), (I, J)) := by
  rw [E_X10_walkerHas, fR_ok 18 h.k, Option.bind_some, h.r18, w_walkerAt _ e f hx]
  simp only [Option.bind_some, asI_I]
  rw [ld194 h I (by omega)]
  rfl
theorem w_flag (x : Int32) (s : MH) : M_X10_flag [mI x] s = some (some (mI (if x = 0 then 0 else 1)), s) := by
  rw [E_X10_flag]
  split <;> rfl
def rfR (I : MI) (k : Nat) : MI := up2 I 190 k (I 190 k + 1)
theorem w_refuses {J : MJ} (h : RefL J) (I : MI) {k : Nat} {x : Int32} (hx : x = nI k) (hk : k < 6) : M_X10_refuses [mR (some 188), mI x] (I, J) = some (some (mI (-1)), (rfR I k, J)) := by
  subst hx
  rw [E_X10_refuses]
  simp only [fR_ok 8 h.k, h.r8, Option.bind_some, ld_ok _ h.s8 (inb_nI hk (by decide)), st_ok _ _ h.s8 (inb_nI hk (by decide))]
  rw [show (nI k).toNatClampNeg = k from ix_nI (by omega)]
  rfl
theorem w_isRefused {J : MJ} (h : RefL J) (I : MI) {k : Nat} {x : Int32} (hx : x = nI k) (hk : k < 6) : M_X10_isRefused [mR (some 188), mI x] (I, J) = some (some (mI 0), (rfR I k, J)) := by
  subst hx
  rw [E_X10_isRefused]
  simp only [fR_ok 8 h.k, h.r8, Option.bind_some, ld_ok _ h.s8 (inb_nI hk (by decide)), st_ok _ _ h.s8 (inb_nI hk (by decide))]
  rw [show (nI k).toNatClampNeg = k from ix_nI (by omega)]
  simp [rfR]
def rootQ (D : Nat → Int32) (x : Int32) : Option Nat := fst? (fun v => decide (D (5 + v) = x)) 0 3
theorem w_rootOf {J : MJ} (h : RefL J) (I : MI) (x : Int32) : M_X10_rootOf [mR (some 188), mI x] (I, J) = some (some (mI (oI (rootQ (I 194) x))), (I, J)) := by
  rw [E_X10_rootOf]
  have step := loop_find (fun k => Ev T_X10_rootOf 2 [some (mR (some 188)), some (mI x), some (mI (nI k))] [] (I, J)) (fun v => decide (I 194 (5 + v) = x)) (fun k => some (some (mI (nI k)), (I, J))) 3 (fun k hk => by
    try dsimp only
    rw [E_X10_rootOf_2, if_neg (show ¬ (3 : Int32) ≤ nI k from nI_ge hk (by decide))]
    simp only [fR_ok 18 h.k, h.r18, Option.bind_some]
    rw [show (5 : Int32) + nI k = nI (5 + k) from nI_add 5 k, ld194 h I (by omega), Option.bind_some, nI_1]
    by_cases c : I 194 (5 + k) = x
    · simp [c]
    · simp [c]) 3 0 (by omega)
  try dsimp only at step
  rw [show (nI 0) = 0 from rfl] at step
  rw [step]
  unfold rootQ
  cases fst? (fun v => decide (I 194 (5 + v) = x)) 0 3 with
  | none =>
    show Ev T_X10_rootOf 2 _ [] (I, J) = _
    rw [E_X10_rootOf_2, if_pos (show (3 : Int32) ≤ nI 3 by decide)]
    rfl
  | some j => rfl
theorem w_isRoot {J : MJ} (h : RefL J) (I : MI) (x : Int32) : M_X10_isRoot [mR (some 188), mI x] (I, J) = some (some (mI (match rootQ (I 194) x with
    | some _ => 1
    | none => 0)), (I, J)) := by
  rw [E_X10_isRoot]
  have step := loop_find (fun k => Ev T_X10_isRoot 2 [some (mR (some 188)), some (mI x), some (mI (nI k))] [] (I, J)) (fun v => decide (I 194 (5 + v) = x)) (fun k => some (some (mI 1), (I, J))) 3 (fun k hk => by
    try dsimp only
    rw [E_X10_isRoot_2, if_neg (show ¬ (3 : Int32) ≤ nI k from nI_ge hk (by decide))]
    simp only [fR_ok 18 h.k, h.r18, Option.bind_some]
    rw [show (5 : Int32) + nI k = nI (5 + k) from nI_add 5 k, ld194 h I (by omega), Option.bind_some, nI_1]
    by_cases c : I 194 (5 + k) = x
    · simp [c]
    · simp [c]) 3 0 (by omega)
  try dsimp only at step
  rw [show (nI 0) = 0 from rfl] at step
  rw [step]
  unfold rootQ
  cases fst? (fun v => decide (I 194 (5 + v) = x)) 0 3 with
  | none =>
    show Ev T_X10_isRoot 2 _ [] (I, J) = _
    rw [E_X10_isRoot_2, if_pos (show (3 : Int32) ≤ nI 3 by decide)]
    simp
  | some j => rfl
end
section
/-! The reference: what is found in its row. -/
def chQ (D : Nat → Int32) (x1 x2 : Int32) : Option Nat := fst? (fun e => decide (D (701 + 9 * e + 0) = 1 ∧ D (701 + 9 * e + 1) = x1 ∧ D (701 + 9 * e + 2) = x2)) 0 128
theorem w_childHere {J : MJ} (h : RefL J) (I : MI) (x1 x2 : Int32) : M_X10_childHere [mR (some 188), mI x1, mI x2] (I, J) = some (some (mI (oI (chQ (I 194) x1 x2))), (I, J)) := by
  have k10 : kd (I, J) 188 = 10 := h.k
  rw [E_X10_childHere]
  have step := loop_find (fun k => Ev T_X10_childHere 2 [some (mR (some 188)), some (mI x1), some (mI x2), some (mI (nI k))] [] (I, J)) (fun e => decide (I 194 (701 + 9 * e + 0) = 1 ∧ I 194 (701 + 9 * e + 1) = x1 ∧ I 194 (701 + 9 * e + 2) = x2)) (fun k => some (some (mI (nI k)), (I, J))) 128 (fun k hk => by
    try dsimp only
    rw [E_X10_childHere_2, if_neg (show ¬ (128 : Int32) ≤ nI k from nI_ge hk (by decide))]
    simp only [if_pos k10, w_its h I 0 (show (0 : Int32) = nI 0 from rfl) hk (by decide), w_its h I 1 (show (1 : Int32) = nI 1 from rfl) hk (by decide), w_its h I 2 (show (2 : Int32) = nI 2 from rfl) hk (by decide), Option.bind_some, asI_I, nI_1]
    by_cases a : I 194 (701 + 9 * k + 0) = 1
    · by_cases b : I 194 (701 + 9 * k + 1) = x1
      · by_cases c : I 194 (701 + 9 * k + 2) = x2
        · rw [if_pos a, if_pos b, if_pos c, if_pos (by simp only [decide_eq_true_eq]; exact ⟨a, b, c⟩)]
        · rw [if_pos a, if_pos b, if_neg c, if_neg (by simp only [decide_eq_true_eq]; exact fun q => c q.2.2)]
      · rw [if_pos a, if_neg b, if_neg (by simp only [decide_eq_true_eq]; exact fun q => b q.2.1)]
    · rw [if_neg a, if_neg (by simp only [decide_eq_true_eq]; exact fun q => a q.1)]) 128 0 (by omega)
  try dsimp only at step
  rw [show (nI 0) = 0 from rfl] at step
  rw [step]
  unfold chQ
  cases fst? (fun e => decide (I 194 (701 + 9 * e + 0) = 1 ∧ I 194 (701 + 9 * e + 1) = x1 ∧ I 194 (701 + 9 * e + 2) = x2)) 0 128 with
  | none =>
    show Ev T_X10_childHere 2 _ [] (I, J) = _
    rw [E_X10_childHere_2, if_pos (show (128 : Int32) ≤ nI 128 by decide)]
    rfl
  | some j => rfl
def ndQ (D : Nat → Int32) (n : Nat) (x1 x2 : Int32) : Option Nat := fst? (fun e => decide (D (401 + 5 * e + 4) = 1 ∧ D (401 + 5 * e + 2) = x1 ∧ D (401 + 5 * e + 3) = x2)) 0 n
theorem w_nodeIn {J : MJ} (h : RefL J) (I : MI) {n : Nat} (hn : I 194 4 = nI n) (hn60 : n ≤ 60) (x1 x2 : Int32) : M_X10_nodeIn [mR (some 188), mI x1, mI x2] (I, J) = some (some (mI (oI (ndQ (I 194) n x1 x2))), (I, J)) := by
  have k10 : kd (I, J) 188 = 10 := h.k
  have l4 : ld (I, J) 11 194 4 = some (nI n) := by rw [← hn]; exact ld194 h I (k := 4) (by decide)
  rw [E_X10_nodeIn]
  have step := loop_find (fun k => Ev T_X10_nodeIn 2 [some (mR (some 188)), some (mI x1), some (mI x2), some (mI (nI k))] [] (I, J)) (fun e => decide (I 194 (401 + 5 * e + 4) = 1 ∧ I 194 (401 + 5 * e + 2) = x1 ∧ I 194 (401 + 5 * e + 3) = x2)) (fun k => some (some (mI (nI k)), (I, J))) n (fun k hk => by
    try dsimp only
    rw [E_X10_nodeIn_2]
    simp only [fR_ok 18 h.k, h.r18, Option.bind_some, l4]
    rw [if_neg (nI_ge hk (by omega))]
    simp only [if_pos k10, w_nodeHas h I 4 (show (4 : Int32) = nI 4 from rfl) (show k < 60 by omega) (by decide), w_nodeHas h I 2 (show (2 : Int32) = nI 2 from rfl) (show k < 60 by omega) (by decide), w_nodeHas h I 3 (show (3 : Int32) = nI 3 from rfl) (show k < 60 by omega) (by decide), Option.bind_some, asI_I, nI_1]
    by_cases a : I 194 (401 + 5 * k + 4) = 1
    · by_cases b : I 194 (401 + 5 * k + 2) = x1
      · by_cases c : I 194 (401 + 5 * k + 3) = x2
        · rw [if_pos a, if_pos b, if_pos c, if_pos (by simp only [decide_eq_true_eq]; exact ⟨a, b, c⟩)]
        · rw [if_pos a, if_pos b, if_neg c, if_neg (by simp only [decide_eq_true_eq]; exact fun q => c q.2.2)]
      · rw [if_pos a, if_neg b, if_neg (by simp only [decide_eq_true_eq]; exact fun q => b q.2.1)]
    · rw [if_neg a, if_neg (by simp only [decide_eq_true_eq]; exact fun q => a q.1)]) n 0 (by omega)
  try dsimp only at step
  rw [show (nI 0) = 0 from rfl] at step
  rw [step]
  unfold ndQ
  cases fst? (fun e => decide (I 194 (401 + 5 * e + 4) = 1 ∧ I 194 (401 + 5 * e + 2) = x1 ∧ I 194 (401 + 5 * e + 3) = x2)) 0 n with
  | none =>
    show Ev T_X10_nodeIn 2 _ [] (I, J) = _
    rw [E_X10_nodeIn_2]
    simp only [fR_ok 18 h.k, h.r18, Option.bind_some, l4]
    rw [if_pos (Int32.le_refl _)]
    rfl
  | some j => rfl
def comeD (I : MI) (e : Nat) : MI := up2 (up2 I 194 (701 + 9 * e + 5) (I 194 0)) 194 0 (I 194 0 + 1)
theorem w_comesTo0 {J : MJ} (h : RefL J) (I : MI) (hw : I 188 21 = -1) {e : Nat} (he : e < 128) : M_X10_comesTo [mR (some 188), mI (nI e)] (I, J) = some (none, (comeD I e, J)) := by
  have l0 : ∀ X : MI, ld (X, J) 11 194 0 = some (X 194 0) := fun X => ld194 h X (k := 0) (by decide)
  have s0 : ∀ (X : MI) (v : Int32), st (X, J) 11 194 0 v = some (up2 X 194 0 v, J) := fun X v => st194 h X (k := 0) (by decide) v
  have r0 : up2 I 194 (701 + 9 * e + 5) (I 194 0) 194 0 = I 194 0 := by
    unfold up2
    rw [if_neg (by omega)]
  rw [E_X10_comesTo, fR_ok 18 h.k, Option.bind_some, w_entryAt _ e 5 (show (5 : Int32) = nI 5 from rfl)]
  simp only [Option.bind_some, asI_I, fR_ok 18 h.k, h.r18, l0, st194 h I (show 701 + 9 * e + 5 < 1853 by omega), s0, r0]
  rw [if_pos (show kd (_, J) 188 = 10 from h.k), E_X10_notes, fI_ok 21 h.k, Option.bind_some]
  have w0 : ∀ v v', up2 (up2 I 194 (701 + 9 * e + 5) v) 194 0 v' 188 21 = -1 := fun v v' => by
    unfold up2
    rw [if_neg (by omega), if_neg (by omega), hw]
  rw [w0, if_pos rfl]
  rfl
end
section
/-! The reference: entries counted, an entry made. -/
def thQ (D : Nat → Int32) (e : Nat) : Bool := decide (D (701 + 9 * e + 0) = 1)
def rtB (D : Nat → Int32) (x : Int32) : Bool := (rootQ D x).isSome
def emB (D : Nat → Int32) (all : Bool) (e : Nat) : Bool := thQ D e && (all || !rtB D (nI e))
theorem w_isRootB {J : MJ} (h : RefL J) (I : MI) (x : Int32) : M_X10_isRoot [mR (some 188), mI x] (I, J) = some (some (mI (if rtB (I 194) x = true then 1 else 0)), (I, J)) := by
  rw [w_isRoot h I x]
  unfold rtB
  cases rootQ (I 194) x with
  | none => rfl
  | some j => rfl
theorem w_entryMany {J : MJ} (h : RefL J) (I : MI) (x1 : Int32) : M_X10_entryMany [mR (some 188), mI x1] (I, J) = some (some (mI (nI (cnt (emB (I 194) (decide (¬ x1 = 0))) 0 128))), (I, J)) := by
  have k10 : kd (I, J) 188 = 10 := h.k
  rw [E_X10_entryMany]
  have step := loop_cnt (fun k c => Ev T_X10_entryMany 4 [some (mR (some 188)), some (mI x1), some (mI (nI c)), some (mI (nI k))] [] (I, J)) (emB (I 194) (decide (¬ x1 = 0))) 128 (fun k c hk => by
    try dsimp only
    rw [E_X10_entryMany_4, if_neg (show ¬ (128 : Int32) ≤ nI k from nI_ge hk (by decide))]
    simp only [if_pos k10, w_its h I 0 (show (0 : Int32) = nI 0 from rfl) hk (by decide), w_isRootB h I, Option.bind_some, asI_I, nI_1]
    unfold emB thQ
    by_cases a : I 194 (701 + 9 * k + 0) = 1
    · have a' : I 194 (701 + 9 * k) = 1 := a
      rw [if_pos a]
      by_cases b : x1 = 0
      · rw [if_pos b]
        cases hr : rtB (I 194) (nI k) with
        | true => simp [a', b]
        | false => simp [a', b]
      · rw [if_neg b]
        simp [a', b]
    · rw [if_neg a]
      simp only [Nat.add_zero] at a ⊢
      simp [a]) 128 0 0 (by omega)
  try dsimp only at step
  rw [show (nI 0) = 0 from rfl] at step
  rw [step, E_X10_entryMany_4, if_pos (show (128 : Int32) ≤ nI 128 by decide), Nat.zero_add]
end
section
/-! The reference: an entry made. -/
def mk0 (I : MI) (e : Nat) (x1 x2 x3 : Int32) : MI := up2 (up2 (up2 (up2 (up2 (up2 (up2 (up2 I 194 (701 + 9 * e + 0) 1) 194 (701 + 9 * e + 1) x1) 194 (701 + 9 * e + 2) x2) 194 (701 + 9 * e + 3) x3) 194 (701 + 9 * e + 4) 0) 194 (701 + 9 * e + 6) (I 194 0)) 194 (701 + 9 * e + 7) (-1)) 194 (701 + 9 * e + 8) 0
theorem w_makes {J : MJ} (h : RefL J) (I : MI) (x1 x2 x3 : Int32) {e : Nat} (he : fst? (fun e => !thQ (I 194) e) 0 128 = some e) {s' : MH} (hc : M_X10_comesTo [mR (some 188), mI (nI e)] (mk0 I e x1 x2 x3, J) = some (none, s')) : M_X10_makes [mR (some 188), mI x1, mI x2, mI x3] (I, J) = some (some (mI (nI e)), s') := by
  have hf := fst_some he
  have he128 : e < 128 := by omega
  have run : ∀ k, k ≤ e → Ev T_X10_makes 3 [some (mR (some 188)), some (mI x1), some (mI x2), some (mI x3), some (mI 0)] [] (I, J) = Ev T_X10_makes 3 [some (mR (some 188)), some (mI x1), some (mI x2), some (mI x3), some (mI (nI k))] [] (I, J) := by
    intro k
    induction k with
    | zero => intro _; rfl
    | succ k ih =>
      intro hk
      rw [ih (by omega), E_X10_makes_3, if_pos (show kd (I, J) 188 = 10 from h.k), w_its h I 0 (show (0 : Int32) = nI 0 from rfl) (show k < 128 by omega) (by decide)]
      simp only [Option.bind_some, asI_I]
      have hth := hf.2.2.2 k (by omega) (by omega)
      have : I 194 (701 + 9 * k + 0) = 1 := by
        unfold thQ at hth
        simpa using hth
      rw [if_pos this, nI_1]
  have ne : ¬ I 194 (701 + 9 * e + 0) = 1 := by
    have := hf.2.2.1
    unfold thQ at this
    simpa using this
  have l0 : ∀ X : MI, ld (X, J) 11 194 0 = some (X 194 0) := fun X => ld194 h X (k := 0) (by decide)
  have st' : ∀ (X : MI) (f : Nat) (v : Int32), f < 9 → st (X, J) 11 194 (nI (701 + 9 * e + f)) v = some (up2 X 194 (701 + 9 * e + f) v, J) := fun X f v hf => st194 h X (by omega) v
  have r0 : ∀ (X : MI) (f : Nat) (v : Int32), up2 X 194 (701 + 9 * e + f) v 194 0 = X 194 0 := fun X f v => by
    unfold up2
    rw [if_neg (by omega)]
  rw [E_X10_makes, run e (Nat.le_refl _), E_X10_makes_3, if_pos (show kd (I, J) 188 = 10 from h.k), w_its h I 0 (show (0 : Int32) = nI 0 from rfl) he128 (by decide)]
  simp only [Option.bind_some, asI_I]
  rw [if_neg ne]
  simp only [fR_ok 18 h.k, h.r18, Option.bind_some, asI_I, w_entryAt _ e 0 (show (0 : Int32) = nI 0 from rfl), w_entryAt _ e 1 (show (1 : Int32) = nI 1 from rfl), w_entryAt _ e 2 (show (2 : Int32) = nI 2 from rfl), w_entryAt _ e 3 (show (3 : Int32) = nI 3 from rfl), w_entryAt _ e 4 (show (4 : Int32) = nI 4 from rfl), w_entryAt _ e 6 (show (6 : Int32) = nI 6 from rfl), w_entryAt _ e 7 (show (7 : Int32) = nI 7 from rfl), w_entryAt _ e 8 (show (8 : Int32) = nI 8 from rfl), l0, st' _ 0 _ (by decide), st' _ 1 _ (by decide), st' _ 2 _ (by decide), st' _ 3 _ (by decide), st' _ 4 _ (by decide), st' _ 6 _ (by decide), st' _ 7 _ (by decide), st' _ 8 _ (by decide), r0]
  rw [if_pos (show kd (_, J) 188 = 10 from h.k)]
  have hc' := hc
  unfold mk0 at hc'
  rw [hc']
  rfl
end
section
/-! The reference: between two bounds. -/
theorem cmp_lt (x y : Int64) : lg_cmp x y < 0 ↔ x < y := by
  unfold lg_cmp
  by_cases a : x > y
  · rw [if_pos a]
    constructor
    · intro h; exact absurd h (by decide)
    · intro h; exact absurd h (Int64.lt_asymm a)
  · rw [if_neg a]
    by_cases b : x = y
    · rw [if_pos b]
      constructor
      · intro h; exact absurd h (by decide)
      · intro h
        have := Int64.lt_iff_toInt_lt.mp h
        rw [b] at this
        omega
    · rw [if_neg b]
      constructor
      · intro _
        have hle := Int64.not_lt.mp a
        rw [Int64.lt_iff_toInt_lt]
        have h1 := Int64.le_iff_toInt_le.mp hle
        have h2 : x.toInt ≠ y.toInt := fun e => b (Int64.toInt_inj.mp e)
        omega
      · intro _; decide
theorem cmp_gt (x y : Int64) : 0 < lg_cmp x y ↔ y < x := by
  unfold lg_cmp
  by_cases a : x > y
  · rw [if_pos a]
    exact ⟨fun _ => a, fun _ => by decide⟩
  · rw [if_neg a]
    constructor
    · intro h
      by_cases b : x = y
      · rw [if_pos b] at h; exact absurd h (by decide)
      · rw [if_neg b] at h; exact absurd h (by decide)
    · intro h; exact absurd h a
theorem t64_lt (x y : Int32) : Int32.toInt64 x < Int32.toInt64 y ↔ x < y := by
  rw [Int64.lt_iff_toInt_lt, Int32.toInt_toInt64, Int32.toInt_toInt64, Int32.lt_iff_toInt_lt]
theorem w_isIn (x l m : Int32) (s : MH) {l' m' : Int64} (hl : l' = Int32.toInt64 l) (hm : m' = Int32.toInt64 m) : M_X10_isIn [mL (Int32.toInt64 x), mL l', mL m'] s = some (some (mI (if x < l then 0 else if m < x then 0 else 1)), s) := by
  subst hl hm
  rw [E_X10_isIn]
  by_cases a : x < l
  · rw [if_pos ((cmp_lt _ _).mpr ((t64_lt _ _).mpr a)), if_pos a]
    simp
  · rw [if_neg (fun q => a ((t64_lt _ _).mp ((cmp_lt _ _).mp q))), if_neg a]
    by_cases b : m < x
    · rw [if_pos ((cmp_gt _ _).mpr ((t64_lt _ _).mpr b)), if_pos b]
      simp
    · rw [if_neg (fun q => b ((t64_lt _ _).mp ((cmp_gt _ _).mp q))), if_neg b]
      simp
end
section
/-! The reference's plain calls. -/
theorem w_end {J : MJ} (h : RefL J) (I : MI) (x : Int32) : M_X10_end [mR (some 188), mI x] (I, J) = if x < 0 ∨ ¬ x ≤ I 188 1 then some (some (mI 0), (rfR I 0, J)) else some (some (mI 1), (up2 I 188 1 x, J)) := by
  have r := w_isRefused h I (show (0 : Int32) = nI 0 from rfl) (by decide)
  have k10 : kd (I, J) 188 = 10 := h.k
  have e : (if (0 : Int32) = 0 ∨ (0 : Int32) = 1 then some (some (mI 0), (rfR I 0, J)) else (none : Option MO)) = some (some (mI 0), (rfR I 0, J)) := if_pos (Or.inl rfl)
  rw [E_X10_end]
  by_cases a : x < 0
  · rw [if_pos a, if_pos (Or.inl a), if_pos k10, r]
    exact e
  · rw [if_neg a, fI_ok 1 h.k, Option.bind_some]
    by_cases b : x ≤ I 188 1
    · rw [if_pos b, if_neg (fun q => q.elim a (fun z => z b)), wI_ok 1 _ h.k, Option.bind_some]
      simp
    · rw [if_neg b, if_pos (Or.inr b), if_pos k10, r]
      exact e
theorem w_fault {J : MJ} (h : RefL J) (I : MI) (x : Int32) : M_X10_fault [mR (some 188), mI x] (I, J) = some (some (mI (if x = 0 then I 188 6 else if x = 1 then I 188 7 else -1)), (I, J)) := by
  rw [E_X10_fault]
  simp only [fI_ok 6 h.k, fI_ok 7 h.k, Option.bind_some]
  by_cases a : x = 0
  · rw [if_pos a, if_pos a]
  · rw [if_neg a, if_neg a]
    by_cases b : x = 1
    · rw [if_pos b, if_pos b]
    · rw [if_neg b, if_neg b]
theorem le_of_nlt {x m : Int32} {n : Nat} (hm : m.toInt = n) (h0 : ¬ x < 0) (h1 : ¬ m < x) : inb x (n + 1) := by
  have a := i32_le.mp (Int32.not_lt.mp h0)
  have b := i32_le.mp (Int32.not_lt.mp h1)
  have e0 : (0 : Int32).toInt = 0 := rfl
  rw [e0] at a
  intro q
  rcases q with q | q
  · exact h0 q
  · have : x.toNatClampNeg = x.toInt.toNat := rfl
    omega
theorem w_status {J : MJ} (h : RefL J) (I : MI) (x : Int32) : M_X10_status [mR (some 188), mI x] (I, J) = some (some (mI (if x < 0 then -1 else if 5 < x then -1 else I 190 (ix x))), (I, J)) := by
  rw [E_X10_status, w_isIn x 0 5 _ (show (0 : Int64) = Int32.toInt64 0 from rfl) (show (5 : Int64) = Int32.toInt64 5 from rfl)]
  simp only [Option.bind_some, asI_I, fR_ok 8 h.k, h.r8]
  by_cases a : x < 0
  · simp [a]
  · by_cases b : 5 < x
    · simp [a, b]
    · rw [if_neg a, if_neg b, if_neg (by decide), if_neg a, if_neg b, ld_ok _ h.s8 (le_of_nlt (n := 5) rfl a b)]
      rfl
theorem w_result {J : MJ} (h : RefL J) (I : MI) (x : Int32) : M_X10_result [mR (some 188), mI x] (I, J) = some (some (mI (if bz (I 188 32) = 0 then -1 else if x < 0 then -1 else if 3 < x then -1 else I 201 (ix x))), (I, J)) := by
  rw [E_X10_result, fZ_ok 32 h.k, Option.bind_some, w_isIn x 0 3 _ (show (0 : Int64) = Int32.toInt64 0 from rfl) (show (3 : Int64) = Int32.toInt64 3 from rfl)]
  simp only [Option.bind_some, asI_I, fR_ok 33 h.k, h.r33]
  by_cases z : bz (I 188 32) = 0
  · rw [if_pos z, if_pos z]
  · rw [if_neg z, if_neg z]
    by_cases a : x < 0
    · simp [a]
    · by_cases b : 3 < x
      · simp [a, b]
      · rw [if_neg a, if_neg b, if_neg (by decide), if_neg a, if_neg b, ld_ok _ h.s33 (le_of_nlt (n := 3) rfl a b)]
        rfl
theorem w_seed {J : MJ} (h : RefL J) (I : MI) (x : Int32) : M_X10_seed [mR (some 188), mI x] (I, J) = if 0 ≤ x then some (some (mI 1), (I, (up2 J.1 188 31 (Int32.toInt64 x), J.2))) else some (some (mI 0), (rfR I 5, J)) := by
  have w : ∀ v, wL (I, J) 10 188 31 v = some (I, (up2 J.1 188 31 v, J.2)) := fun v => if_pos h.k
  rw [E_X10_seed]
  by_cases a : 0 ≤ x
  · rw [if_pos a, if_pos a, w, Option.bind_some]
    simp
  · rw [if_neg a, if_neg a, if_pos (show kd (I, J) 188 = 10 from h.k), w_isRefused h I (show (5 : Int32) = nI 5 from rfl) (by decide)]
    simp [asI]
theorem w_see {J : MJ} (h : RefL J) (I : MI) (x : Int32) : M_X10_see [mR (some 188), mI x] (I, J) = if I 188 36 = 0 ∨ ¬ 0 ≤ x then some (some (mI 0), (rfR I 5, J)) else some (some (mI 1), (up2 I 188 37 x, J)) := by
  have r := w_isRefused h I (show (5 : Int32) = nI 5 from rfl) (by decide)
  rw [E_X10_see, fI_ok 36 h.k, Option.bind_some]
  by_cases a : I 188 36 = 0
  · rw [if_pos a, if_pos (Or.inl a), if_pos (show kd (I, J) 188 = 10 from h.k), r]
    simp [asI]
  · rw [if_neg a]
    by_cases b : 0 ≤ x
    · rw [if_pos b, if_neg (fun q => q.elim a (fun z => z b)), wI_ok 37 _ h.k, Option.bind_some]
      simp
    · rw [if_neg b, if_pos (Or.inr b), if_pos (show kd (I, J) 188 = 10 from h.k), r]
      simp [asI]
end
section
/-! The reference: handles, octets. -/
theorem nI_ix {x : Int32} (h : ¬ x < 0) : x = nI (ix x) := by
  apply Int32.toInt_inj.mp
  have a := i32_le.mp (Int32.not_lt.mp h)
  have e0 : (0 : Int32).toInt = 0 := rfl
  rw [e0] at a
  rw [nI_toInt (ix_lt x)]
  show x.toInt = ((x.toInt.toNat : Nat) : Int)
  omega
theorem ix_le {x m : Int32} {n : Nat} (hm : m.toInt = n) (h0 : ¬ x < 0) (h1 : ¬ m < x) : ix x ≤ n := by
  have b := i32_le.mp (Int32.not_lt.mp h1)
  rw [hm] at b
  show x.toInt.toNat ≤ n
  omega
theorem w_handle {J : MJ} (h : RefL J) (I : MI) (x : Int32) : M_X10_handle [mR (some 188), mI x] (I, J) = some (some (mI (if bz (I 188 13) = 0 then -1 else if x < 0 then -1 else if 5 < x then -1 else I 194 (11 + ix x))), (I, J)) := by
  rw [E_X10_handle, fZ_ok 13 h.k, Option.bind_some, w_isIn x 0 5 _ (show (0 : Int64) = Int32.toInt64 0 from rfl) (show (5 : Int64) = Int32.toInt64 5 from rfl)]
  simp only [Option.bind_some, asI_I, fR_ok 18 h.k, h.r18]
  by_cases z : bz (I 188 13) = 0
  · rw [if_pos z, if_pos z]
  · rw [if_neg z, if_neg z]
    by_cases a : x < 0
    · simp [a]
    · by_cases b : 5 < x
      · simp [a, b]
      · have hx := ix_le (n := 5) rfl a b
        rw [if_neg a, if_neg b, if_neg (by decide), if_neg a, if_neg b]
        have e : (11 : Int32) + x = nI (11 + ix x) := by
          rw [← nI_add, ← nI_ix a]
          rfl
        rw [e, ld194 h I (by omega)]
        rfl
end
section
/-! The reference: a walker notes where it came. -/
def noteD (I : MI) (w m e : Nat) : MI := up2 (up2 (up2 (up2 I 194 (17 + 96 * w + (18 + 3 * m)) (nI e)) 194 (17 + 96 * w + (18 + 3 * m) + 1) (I 194 (701 + 9 * e + 6))) 194 (17 + 96 * w + (18 + 3 * m) + 2) (I 194 (701 + 9 * e + 4))) 194 (17 + 96 * w + 5) (nI (m + 1))
theorem w_notes {J : MJ} (h : RefL J) (I : MI) {w m e : Nat} (hw : I 188 21 = nI w) (hw4 : w < 4) (hm : I 194 (17 + 96 * w + 5) = nI m) (hm25 : m < 26) (he : e < 128) : M_X10_notes [mR (some 188), mI (nI e)] (I, J) = some (none, (noteD I w m e, J)) := by
  have k10 : ∀ X : MI, kd (X, J) 188 = 10 := fun X => h.k
  have nw1 : ¬ nI w = -1 := fun q => by
    have := congrArg Int32.toInt q
    rw [nI_toInt (by omega)] at this
    have e0 : (-1 : Int32).toInt = -1 := rfl
    omega
  have e18 : (18 : Int32) + 3 * nI m = nI (18 + 3 * m) := by
    rw [show (18 : Int32) = nI 18 from rfl, show (3 : Int32) = nI 3 from rfl, nI_mul, nI_add]
  have f21 : ∀ (X : MI), X 188 = I 188 → X 188 21 = nI w := fun X q => by rw [q]; exact hw
  rw [E_X10_notes, fI_ok 21 h.k, Option.bind_some, hw, if_neg nw1, Option.bind_some, Option.bind_some, if_pos (k10 I), w_walkerHas h I 5 (show (5 : Int32) = nI 5 from rfl) hw4 (by decide), hm]
  simp only [Option.bind_some, asI_I]
  rw [w_walkerAt _ w (18 + 3 * m) e18]
  simp only [Option.bind_some, asI_I, fR_ok 18 h.k, h.r18]
  rw [st194 h I (show 17 + 96 * w + (18 + 3 * m) < 1853 by omega), Option.bind_some]
  simp only [fR_ok 18 h.k, h.r18, Option.bind_some]
  rw [if_pos (k10 _), w_its h _ 6 (show (6 : Int32) = nI 6 from rfl) he (by decide)]
  simp only [Option.bind_some, asI_I]
  rw [show nI (17 + 96 * w + (18 + 3 * m)) + 1 = nI (17 + 96 * w + (18 + 3 * m) + 1) from nI_1 _, st194 h _ (show 17 + 96 * w + (18 + 3 * m) + 1 < 1853 by omega), Option.bind_some]
  simp only [fR_ok 18 h.k, h.r18, Option.bind_some]
  rw [if_pos (k10 _), w_its h _ 4 (show (4 : Int32) = nI 4 from rfl) he (by decide)]
  simp only [Option.bind_some, asI_I]
  rw [show nI (17 + 96 * w + (18 + 3 * m)) + 2 = nI (17 + 96 * w + (18 + 3 * m) + 2) from nI_add _ 2, st194 h _ (show 17 + 96 * w + (18 + 3 * m) + 2 < 1853 by omega), Option.bind_some]
  simp only [fR_ok 18 h.k, h.r18, Option.bind_some, fI_ok 21 h.k]
  have o1 : ∀ (X : MI) (k : Nat) (v : Int32), up2 X 194 k v 188 21 = X 188 21 := fun X k v => by
    unfold up2
    rw [if_neg (by omega)]
  have o2 : ∀ (X : MI) (k k' : Nat) (v : Int32), k' ≠ k → up2 X 194 k v 194 k' = X 194 k' := fun X k k' v q => by
    unfold up2
    rw [if_neg (fun z => q z.2)]
  rw [o1, o1, o1, hw, w_walkerAt _ w 5 (show (5 : Int32) = nI 5 from rfl)]
  simp only [Option.bind_some, asI_I]
  rw [ld194 h _ (show 17 + 96 * w + 5 < 1853 by omega), Option.bind_some, st194 h _ (show 17 + 96 * w + 5 < 1853 by omega), Option.bind_some]
  rw [o2 _ _ _ _ (show 17 + 96 * w + 5 ≠ 17 + 96 * w + (18 + 3 * m) + 2 by omega), o2 _ _ _ _ (show 17 + 96 * w + 5 ≠ 17 + 96 * w + (18 + 3 * m) + 1 by omega), o2 _ _ _ _ (show 17 + 96 * w + 5 ≠ 17 + 96 * w + (18 + 3 * m) by omega), hm, nI_1, o2 _ _ _ _ (show 701 + 9 * e + 4 ≠ 17 + 96 * w + (18 + 3 * m) + 1 by omega), o2 _ _ _ _ (show 701 + 9 * e + 4 ≠ 17 + 96 * w + (18 + 3 * m) by omega), o2 _ _ _ _ (show 701 + 9 * e + 6 ≠ 17 + 96 * w + (18 + 3 * m) by omega)]
  rfl
end
section
/-! The reference's heap as a frame: row 194 (now) is D, row 195 (holders) is G, place 22 of 188 (cur) is c. -/
abbrev RowV : Type := Nat → Int32
def rF (I : MI) (D G : RowV) (c : Int32) : MI := fun a j => if a = 194 then D j else if a = 195 then G j else if a = 188 ∧ j = 22 then c else I a j
def sD (D : RowV) (i : Nat) (v : Int32) : RowV := fun j => if j = i then v else D j
theorem sD_s (D : RowV) (i : Nat) (v : Int32) : sD D i v i = v := if_pos rfl
theorem sD_n (D : RowV) {i j : Nat} (v : Int32) (h : j ≠ i) : sD D i v j = D j := if_neg h
theorem rF_id (I : MI) : rF I (I 194) (I 195) (I 188 22) = I := by
  funext a j
  unfold rF
  by_cases h1 : a = 194
  · rw [if_pos h1, h1]
  · rw [if_neg h1]
    by_cases h2 : a = 195
    · rw [if_pos h2, h2]
    · rw [if_neg h2]
      by_cases h3 : a = 188 ∧ j = 22
      · rw [if_pos h3, h3.1, h3.2]
      · rw [if_neg h3]
theorem rF_D (I : MI) (D G : RowV) (c : Int32) : rF I D G c 194 = D := by
  funext j
  exact if_pos rfl
theorem rF_G (I : MI) (D G : RowV) (c : Int32) : rF I D G c 195 = G := by
  funext j
  unfold rF
  rw [if_neg (by decide), if_pos rfl]
theorem rF_c (I : MI) (D G : RowV) (c : Int32) : rF I D G c 188 22 = c := by
  unfold rF
  rw [if_neg (by decide), if_neg (by decide), if_pos ⟨rfl, rfl⟩]
theorem rF_k (I : MI) (D G : RowV) (c : Int32) {k : Nat} (h : k ≠ 22) : rF I D G c 188 k = I 188 k := by
  unfold rF
  rw [if_neg (by decide), if_neg (by decide), if_neg (fun q => h q.2)]
theorem rF_o (I : MI) (D G : RowV) (c : Int32) {a : Nat} (h1 : a ≠ 188) (h2 : a ≠ 194) (h3 : a ≠ 195) : rF I D G c a = I a := by
  funext j
  unfold rF
  rw [if_neg h2, if_neg h3, if_neg (fun q => h1 q.1)]
theorem rF_sD (I : MI) (D G : RowV) (c : Int32) (i : Nat) (v : Int32) : up2 (rF I D G c) 194 i v = rF I (sD D i v) G c := by
  funext a j
  unfold up2 rF sD
  by_cases h : a = 194
  · subst h
    simp
  · simp [h]
theorem rF_sG (I : MI) (D G : RowV) (c : Int32) (i : Nat) (v : Int32) : up2 (rF I D G c) 195 i v = rF I D (sD G i v) c := by
  funext a j
  unfold up2 rF sD
  by_cases h : a = 195
  · subst h
    simp
  · simp [h]
theorem rF_sc (I : MI) (D G : RowV) (c : Int32) (v : Int32) : up2 (rF I D G c) 188 22 v = rF I D G v := by
  funext a j
  unfold up2 rF
  by_cases h : a = 188 ∧ j = 22
  · rw [if_pos h, if_neg (by omega), if_neg (by omega), if_pos h]
  · simp [h]
theorem rF_so (I : MI) (D G : RowV) (c : Int32) {a k : Nat} (v : Int32) (h2 : a ≠ 194) (h3 : a ≠ 195) (h1 : ¬ (a = 188 ∧ k = 22)) : up2 (rF I D G c) a k v = rF (up2 I a k v) D G c := by
  funext x j
  unfold up2 rF
  by_cases e1 : x = 194
  · subst e1
    simp [Ne.symm h2]
  · by_cases e2 : x = 195
    · subst e2
      simp [Ne.symm h3]
    · by_cases e3 : x = 188 ∧ j = 22
      · rw [if_neg (by omega), if_neg e1, if_neg e2, if_pos e3, if_neg e1, if_neg e2, if_pos e3]
      · simp [e1, e2, e3]
theorem RefL.kt {J : MJ} (h : RefL J) (I : MI) : (kd (I, J) 188 = 10) = True := eq_true h.k
theorem RefL.f0 {J : MJ} (h : RefL J) (I : MI) : fR (I, J) 10 188 0 = some (some 189) := by rw [fR_ok 0 h.k, h.r0]
theorem RefL.f14 {J : MJ} (h : RefL J) (I : MI) : fR (I, J) 10 188 14 = some (some 192) := by rw [fR_ok 14 h.k, h.r14]
theorem RefL.f16 {J : MJ} (h : RefL J) (I : MI) : fR (I, J) 10 188 16 = some (some 193) := by rw [fR_ok 16 h.k, h.r16]
theorem RefL.f18 {J : MJ} (h : RefL J) (I : MI) : fR (I, J) 10 188 18 = some (some 194) := by rw [fR_ok 18 h.k, h.r18]
theorem RefL.f19 {J : MJ} (h : RefL J) (I : MI) : fR (I, J) 10 188 19 = some (some 195) := by rw [fR_ok 19 h.k, h.r19]
theorem RefL.f23 {J : MJ} (h : RefL J) (I : MI) : fR (I, J) 10 188 23 = some (some 196) := by rw [fR_ok 23 h.k, h.r23]
theorem RefL.f27 {J : MJ} (h : RefL J) (I : MI) : fR (I, J) 10 188 27 = some (some 199) := by rw [fR_ok 27 h.k, h.r27]
theorem RefL.fi {J : MJ} (h : RefL J) (I : MI) (k : Nat) : fI (I, J) 10 188 k = some (I 188 k) := fI_ok k h.k
theorem RefL.fz {J : MJ} (h : RefL J) (I : MI) (k : Nat) : fZ (I, J) 10 188 k = some (bz (I 188 k)) := fZ_ok k h.k
theorem RefL.wi {J : MJ} (h : RefL J) (I : MI) (k : Nat) (v : Int32) : wI (I, J) 10 188 k v = some (up2 I 188 k v, J) := wI_ok k v h.k
theorem RefL.ldD {J : MJ} (h : RefL J) (I : MI) {x : Int32} {k : Nat} (hx : x = nI k) (hk : k < 1853) : ld (I, J) 11 194 x = some (I 194 k) := by
  subst hx
  exact ld194 h I hk
theorem RefL.stD {J : MJ} (h : RefL J) (I : MI) {x : Int32} {k : Nat} (v : Int32) (hx : x = nI k) (hk : k < 1853) : st (I, J) 11 194 x v = some (up2 I 194 k v, J) := by
  subst hx
  exact st194 h I hk v
theorem RefL.ldG {J : MJ} (h : RefL J) (I : MI) {x : Int32} {k : Nat} (hx : x = nI k) (hk : k < 128) : ld (I, J) 11 195 x = some (I 195 k) := by
  subst hx
  rw [ld_ok _ h.s19 (inb_nI hk (by decide)), show (nI k).toNatClampNeg = k from ix_nI (by omega)]
theorem RefL.stG {J : MJ} (h : RefL J) (I : MI) {x : Int32} {k : Nat} (v : Int32) (hx : x = nI k) (hk : k < 128) : st (I, J) 11 195 x v = some (up2 I 195 k v, J) := by
  subst hx
  rw [st_ok _ _ h.s19 (inb_nI hk (by decide)), show (nI k).toNatClampNeg = k from ix_nI (by omega)]
theorem nI_m1 {k : Nat} (hk : k < 2 ^ 31) : ¬ nI k = -1 := fun q => by
  have := congrArg Int32.toInt q
  rw [nI_toInt hk] at this
  have e0 : (-1 : Int32).toInt = -1 := rfl
  omega
theorem oI_m1 {o : Option Nat} (h : ∀ k, o = some k → k < 2 ^ 31) : oI o = -1 ↔ o = none := by
  cases o with
  | none => exact ⟨fun _ => rfl, fun _ => rfl⟩
  | some k =>
    constructor
    · intro q
      exact absurd q (nI_m1 (h k rfl))
    · intro q
      cases q
end
section
/-! Invariants of a world of the class, and its relation to the row of the reference. Written by gen/inv.py. -/
abbrev WkV : Type := Nat → OneV × RouV × TriV
def sm (a : Nat → Nat) : Nat → Nat → Nat
  | _, 0 => 0
  | k, n + 1 => a k + sm a (k + 1) n
/-- the children of an entry -/
def hcC (V : MemV) (e : Nat) : Nat := cnt (fun k => decide (¬ V 1 k = 0 ∧ V 2 k = nI e)) 0 64
def hcV (V : MemV) (e : Nat) : Nat := cnt (fun v => decide (V 10 v = nI e)) 0 3
def hcH (H : OneV) (e : Nat) : Nat := cnt (fun h => decide (H 0 h = nI e)) 0 6
def hcK (w : OneV × RouV × TriV) (e : Nat) : Nat := if bz (w.1 0 5) = 0 ∨ bz (w.1 0 6) = 0 then 0 else cnt (fun k => decide (w.2.2 0 k = nI e)) 0 (ix (w.1 0 4))
def hcW (W : WkV) (e : Nat) : Nat := sm (fun k => hcK (W k) e) 0 4
/-- how often an entry is held -/
def hc (V : MemV) (H : OneV) (W : WkV) (e : Nat) : Nat := hcC V e + hcV V e + (hcH H e + hcW W e)
/-- the nodes -/
def NodI (U : NodV) (n vol : Nat) : Prop := (U 0 5 = nI n) ∧ (n ≤ 60) ∧ (U 0 6 = nI vol) ∧ (1 ≤ vol ∧ vol ≤ 3) ∧ (∀ k, k < n → ∃ v, v < vol ∧ U 1 k = nI v) ∧ (∀ k, k < n → U 4 k = 0 ∨ U 4 k = 1 ∨ U 4 k = 2) ∧ (∀ k, k < n → U 2 k = -1 → ∃ v, v < vol ∧ U 1 k = nI v ∧ U 5 v = nI k) ∧ (∀ v, v < vol → ∃ r, r < n ∧ U 5 v = nI r ∧ U 4 r = 2 ∧ U 2 r = -1 ∧ U 1 r = nI v) ∧ (∀ k, k < n → ¬ U 4 k = 0 → ¬ U 2 k = -1 → ∃ p, p < n ∧ U 2 k = nI p ∧ U 4 p = 2 ∧ U 1 p = U 1 k) ∧ (∀ k j, k < n → j < n → ¬ U 4 k = 0 → ¬ U 4 j = 0 → ¬ U 2 k = -1 → U 2 k = U 2 j → U 3 k = U 3 j → k = j) ∧ (∃ d : Nat → Nat, ∀ k p, k < n → p < n → ¬ U 4 k = 0 → U 2 k = nI p → d p < d k) ∧ (U 5 0 = nI 0 ∧ ∀ k, k < n → ¬ U 2 k = -1 → ¬ U 3 k = 0)
theorem NodI.ev {U : NodV} {n vol : Nat} (h : NodI U n vol) : U 0 5 = nI n := h.1
theorem NodI.n60 {U : NodV} {n vol : Nat} (h : NodI U n vol) : n ≤ 60 := h.2.1
theorem NodI.vs {U : NodV} {n vol : Nat} (h : NodI U n vol) : U 0 6 = nI vol := h.2.2.1
theorem NodI.v3 {U : NodV} {n vol : Nat} (h : NodI U n vol) : 1 ≤ vol ∧ vol ≤ 3 := h.2.2.2.1
theorem NodI.vol {U : NodV} {n vol : Nat} (h : NodI U n vol) : ∀ k, k < n → ∃ v, v < vol ∧ U 1 k = nI v := h.2.2.2.2.1
theorem NodI.kd {U : NodV} {n vol : Nat} (h : NodI U n vol) : ∀ k, k < n → U 4 k = 0 ∨ U 4 k = 1 ∨ U 4 k = 2 := h.2.2.2.2.2.1
theorem NodI.rt {U : NodV} {n vol : Nat} (h : NodI U n vol) : ∀ k, k < n → U 2 k = -1 → ∃ v, v < vol ∧ U 1 k = nI v ∧ U 5 v = nI k := h.2.2.2.2.2.2.1
theorem NodI.rts {U : NodV} {n vol : Nat} (h : NodI U n vol) : ∀ v, v < vol → ∃ r, r < n ∧ U 5 v = nI r ∧ U 4 r = 2 ∧ U 2 r = -1 ∧ U 1 r = nI v := h.2.2.2.2.2.2.2.1
theorem NodI.par {U : NodV} {n vol : Nat} (h : NodI U n vol) : ∀ k, k < n → ¬ U 4 k = 0 → ¬ U 2 k = -1 → ∃ p, p < n ∧ U 2 k = nI p ∧ U 4 p = 2 ∧ U 1 p = U 1 k := h.2.2.2.2.2.2.2.2.1
theorem NodI.uq {U : NodV} {n vol : Nat} (h : NodI U n vol) : ∀ k j, k < n → j < n → ¬ U 4 k = 0 → ¬ U 4 j = 0 → ¬ U 2 k = -1 → U 2 k = U 2 j → U 3 k = U 3 j → k = j := h.2.2.2.2.2.2.2.2.2.1
theorem NodI.rk {U : NodV} {n vol : Nat} (h : NodI U n vol) : ∃ d : Nat → Nat, ∀ k p, k < n → p < n → ¬ U 4 k = 0 → U 2 k = nI p → d p < d k := h.2.2.2.2.2.2.2.2.2.2.1
theorem NodI.r00 {U : NodV} {n vol : Nat} (h : NodI U n vol) : U 5 0 = nI 0 := h.2.2.2.2.2.2.2.2.2.2.2.1
theorem NodI.nn {U : NodV} {n vol : Nat} (h : NodI U n vol) : ∀ k, k < n → ¬ U 2 k = -1 → ¬ U 3 k = 0 := h.2.2.2.2.2.2.2.2.2.2.2.2
/-- the entries -/
def MemI (U : NodV) (V : MemV) (n vol : Nat) : Prop := (∀ e, e < 64 → V 1 e = 0 ∨ V 1 e = 1 ∨ V 1 e = 2) ∧ (∃ r, r < 64 ∧ V 9 0 = nI r) ∧ (V 10 0 = -1) ∧ (∀ v, v < 3 → V 9 v = -1 ∧ V 10 v = -1 ∨ v < vol ∧ ∃ r, r < 64 ∧ V 9 v = nI r ∧ V 1 r = 1 ∧ V 2 r = -1 ∧ V 4 r = U 5 v) ∧ (∀ v, 1 ≤ v → v < 3 → ¬ V 9 v = -1 → ∃ o, o < 64 ∧ V 10 v = nI o ∧ V 1 o = 1 ∧ ¬ V 2 o = -1 ∧ ¬ q_X2_isFolder U (V 4 o) = 0) ∧ (∀ v w, v < 3 → w < 3 → ¬ V 10 v = -1 → V 10 v = V 10 w → v = w) ∧ (∃ ρ : Nat → Nat, ∀ v o k u, 1 ≤ v → v < 3 → o < 64 → V 10 v = nI o → V 4 o = nI k → k < n → U 1 k = nI u → u < 3 → ρ u < ρ v) ∧ (∀ e, e < 64 → V 1 e = 1 → V 2 e = -1 → ∃ v, v < 3 ∧ V 9 v = nI e) ∧ (∀ e, e < 64 → V 1 e = 1 → ¬ V 2 e = -1 → ∃ p, p < 64 ∧ V 2 e = nI p ∧ V 1 p = 1 ∧ ¬ q_X2_isFolder U (V 4 p) = 0 ∧ V 4 e = q_X2_find U (V 4 p) (V 3 e)) ∧ (∀ e, e < 64 → V 1 e = 2 → V 2 e = -1 ∧ ∃ k, k < n ∧ V 4 e = nI k ∧ U 4 k = 0) ∧ (∀ e f, e < 64 → f < 64 → V 1 e = 1 → V 1 f = 1 → ¬ V 2 e = -1 → V 2 e = V 2 f → V 3 e = V 3 f → e = f) ∧ (∀ e f, e < 64 → f < 64 → ¬ V 1 e = 0 → ¬ V 1 f = 0 → ¬ V 4 e = -1 → V 4 e = V 4 f → e = f)
theorem MemI.st {U : NodV} {V : MemV} {n vol : Nat} (h : MemI U V n vol) : ∀ e, e < 64 → V 1 e = 0 ∨ V 1 e = 1 ∨ V 1 e = 2 := h.1
theorem MemI.r0 {U : NodV} {V : MemV} {n vol : Nat} (h : MemI U V n vol) : ∃ r, r < 64 ∧ V 9 0 = nI r := h.2.1
theorem MemI.o0 {U : NodV} {V : MemV} {n vol : Nat} (h : MemI U V n vol) : V 10 0 = -1 := h.2.2.1
theorem MemI.rt {U : NodV} {V : MemV} {n vol : Nat} (h : MemI U V n vol) : ∀ v, v < 3 → V 9 v = -1 ∧ V 10 v = -1 ∨ v < vol ∧ ∃ r, r < 64 ∧ V 9 v = nI r ∧ V 1 r = 1 ∧ V 2 r = -1 ∧ V 4 r = U 5 v := h.2.2.2.1
theorem MemI.ov {U : NodV} {V : MemV} {n vol : Nat} (h : MemI U V n vol) : ∀ v, 1 ≤ v → v < 3 → ¬ V 9 v = -1 → ∃ o, o < 64 ∧ V 10 v = nI o ∧ V 1 o = 1 ∧ ¬ V 2 o = -1 ∧ ¬ q_X2_isFolder U (V 4 o) = 0 := h.2.2.2.2.1
theorem MemI.oi {U : NodV} {V : MemV} {n vol : Nat} (h : MemI U V n vol) : ∀ v w, v < 3 → w < 3 → ¬ V 10 v = -1 → V 10 v = V 10 w → v = w := h.2.2.2.2.2.1
theorem MemI.vr {U : NodV} {V : MemV} {n vol : Nat} (h : MemI U V n vol) : ∃ ρ : Nat → Nat, ∀ v o k u, 1 ≤ v → v < 3 → o < 64 → V 10 v = nI o → V 4 o = nI k → k < n → U 1 k = nI u → u < 3 → ρ u < ρ v := h.2.2.2.2.2.2.1
theorem MemI.ro {U : NodV} {V : MemV} {n vol : Nat} (h : MemI U V n vol) : ∀ e, e < 64 → V 1 e = 1 → V 2 e = -1 → ∃ v, v < 3 ∧ V 9 v = nI e := h.2.2.2.2.2.2.2.1
theorem MemI.ch {U : NodV} {V : MemV} {n vol : Nat} (h : MemI U V n vol) : ∀ e, e < 64 → V 1 e = 1 → ¬ V 2 e = -1 → ∃ p, p < 64 ∧ V 2 e = nI p ∧ V 1 p = 1 ∧ ¬ q_X2_isFolder U (V 4 p) = 0 ∧ V 4 e = q_X2_find U (V 4 p) (V 3 e) := h.2.2.2.2.2.2.2.2.1
theorem MemI.go {U : NodV} {V : MemV} {n vol : Nat} (h : MemI U V n vol) : ∀ e, e < 64 → V 1 e = 2 → V 2 e = -1 ∧ ∃ k, k < n ∧ V 4 e = nI k ∧ U 4 k = 0 := h.2.2.2.2.2.2.2.2.2.1
theorem MemI.sb {U : NodV} {V : MemV} {n vol : Nat} (h : MemI U V n vol) : ∀ e f, e < 64 → f < 64 → V 1 e = 1 → V 1 f = 1 → ¬ V 2 e = -1 → V 2 e = V 2 f → V 3 e = V 3 f → e = f := h.2.2.2.2.2.2.2.2.2.2.1
theorem MemI.nd {U : NodV} {V : MemV} {n vol : Nat} (h : MemI U V n vol) : ∀ e f, e < 64 → f < 64 → ¬ V 1 e = 0 → ¬ V 1 f = 0 → ¬ V 4 e = -1 → V 4 e = V 4 f → e = f := h.2.2.2.2.2.2.2.2.2.2.2
/-- what was trimmed, and what is there, was come to once each -/
def TrI (V : MemV) (t : Nat) : Prop := ∃ z, V 0 14 = nI z ∧ z + cnt (fun k => decide (¬ V 1 k = 0)) 0 64 ≤ t
def NumI (V : MemV) (t T : Nat) : Prop := (V 0 12 = nI t) ∧ (t ≤ T) ∧ (T ≤ 1000000000) ∧ (∀ e, e < 64 → ¬ V 1 e = 0 → ∃ b, V 8 e = nI b ∧ b < t) ∧ (∀ e, e < 64 → ¬ V 1 e = 0 → ∃ c, V 6 e = nI c ∧ c ≤ T) ∧ (∃ l, V 0 11 = nI l ∧ 4 ≤ l ∧ l ≤ 40) ∧ TrI V t
theorem NumI.tk {V : MemV} {t T : Nat} (h : NumI V t T) : V 0 12 = nI t := h.1
theorem NumI.tT {V : MemV} {t T : Nat} (h : NumI V t T) : t ≤ T := h.2.1
theorem NumI.T30 {V : MemV} {t T : Nat} (h : NumI V t T) : T ≤ 1000000000 := h.2.2.1
theorem NumI.bi {V : MemV} {t T : Nat} (h : NumI V t T) : ∀ e, e < 64 → ¬ V 1 e = 0 → ∃ b, V 8 e = nI b ∧ b < t := h.2.2.2.1
theorem NumI.co {V : MemV} {t T : Nat} (h : NumI V t T) : ∀ e, e < 64 → ¬ V 1 e = 0 → ∃ c, V 6 e = nI c ∧ c ≤ T := h.2.2.2.2.1
theorem NumI.li {V : MemV} {t T : Nat} (h : NumI V t T) : ∃ l, V 0 11 = nI l ∧ 4 ≤ l ∧ l ≤ 40 := h.2.2.2.2.2.1
theorem NumI.tri {V : MemV} {t T : Nat} (h : NumI V t T) : TrI V t := h.2.2.2.2.2.2
def CntI (V : MemV) : Prop := cnt (fun k => decide (¬ V 1 k = 0)) 0 64 ≤ 61 + cnt (fun v => decide (¬ V 9 v = -1)) 1 2
def HelI (V : MemV) (H : OneV) (W : WkV) (x : Nat → Nat) : Prop := ∀ e, e < 64 → (V 1 e = 0 → x e = 0) ∧ x e ≤ 100 ∧ (¬ V 1 e = 0 → V 5 e = nI (hc V H W e + x e) ∧ (V 1 e = 2 → 0 < hc V H W e + x e))
def HanI (V : MemV) (H : OneV) : Prop := ∀ h, h < 6 → H 0 h = -1 ∨ ∃ e, e < 64 ∧ H 0 h = nI e ∧ ¬ V 1 e = 0 ∧ ¬ V 4 e = -1
/-- an item of a way -/
def WayI (V : MemV) (t T : Nat) (hv : Int32) (a b c : Int32) : Prop := (∃ e, e < 64 ∧ a = nI e ∧ (∃ b1 c1, b = nI b1 ∧ b1 < t ∧ c = nI c1 ∧ c1 ≤ T ∧ (¬ V 1 e = 0 → V 8 e = b → ∃ c2, V 6 e = nI c2 ∧ c1 ≤ c2 ∧ c2 ≤ T ∧ (c1 = c2 → V 1 e = 1 ∧ ¬ V 4 e = -1))) ∧ (¬ hv = 0 → ¬ V 1 e = 0 ∧ ¬ V 4 e = -1))
theorem WayI.ex {V : MemV} {t T : Nat} {hv : Int32} {a b c : Int32} (h : WayI V t T hv a b c) : ∃ e, e < 64 ∧ a = nI e ∧ (∃ b1 c1, b = nI b1 ∧ b1 < t ∧ c = nI c1 ∧ c1 ≤ T ∧ (¬ V 1 e = 0 → V 8 e = b → ∃ c2, V 6 e = nI c2 ∧ c1 ≤ c2 ∧ c2 ≤ T ∧ (c1 = c2 → V 1 e = 1 ∧ ¬ V 4 e = -1))) ∧ (¬ hv = 0 → ¬ V 1 e = 0 ∧ ¬ V 4 e = -1) := h
/-- a walker under way -/
def WkI (V : MemV) (t T : Nat) (w : OneV × RouV × TriV) (m d l r : Nat) : Prop := (w.1 0 4 = nI m) ∧ (w.1 0 8 = nI d) ∧ (w.2.1 0 1 = nI l) ∧ (w.1 0 7 = nI r) ∧ (1 ≤ m) ∧ (m ≤ 1 + 2 * d) ∧ (d ≤ l) ∧ (l ≤ 12) ∧ (r ≤ 3) ∧ (∀ k, k < m → WayI V t T (bz (w.1 0 6)) (w.2.2 0 k) (w.2.2 1 k) (w.2.2 2 k))
theorem WkI.m {V : MemV} {t T : Nat} {w : OneV × RouV × TriV} {m d l r : Nat} (h : WkI V t T w m d l r) : w.1 0 4 = nI m := h.1
theorem WkI.d {V : MemV} {t T : Nat} {w : OneV × RouV × TriV} {m d l r : Nat} (h : WkI V t T w m d l r) : w.1 0 8 = nI d := h.2.1
theorem WkI.l {V : MemV} {t T : Nat} {w : OneV × RouV × TriV} {m d l r : Nat} (h : WkI V t T w m d l r) : w.2.1 0 1 = nI l := h.2.2.1
theorem WkI.r {V : MemV} {t T : Nat} {w : OneV × RouV × TriV} {m d l r : Nat} (h : WkI V t T w m d l r) : w.1 0 7 = nI r := h.2.2.2.1
theorem WkI.m1 {V : MemV} {t T : Nat} {w : OneV × RouV × TriV} {m d l r : Nat} (h : WkI V t T w m d l r) : 1 ≤ m := h.2.2.2.2.1
theorem WkI.md {V : MemV} {t T : Nat} {w : OneV × RouV × TriV} {m d l r : Nat} (h : WkI V t T w m d l r) : m ≤ 1 + 2 * d := h.2.2.2.2.2.1
theorem WkI.dl {V : MemV} {t T : Nat} {w : OneV × RouV × TriV} {m d l r : Nat} (h : WkI V t T w m d l r) : d ≤ l := h.2.2.2.2.2.2.1
theorem WkI.l12 {V : MemV} {t T : Nat} {w : OneV × RouV × TriV} {m d l r : Nat} (h : WkI V t T w m d l r) : l ≤ 12 := h.2.2.2.2.2.2.2.1
theorem WkI.r3 {V : MemV} {t T : Nat} {w : OneV × RouV × TriV} {m d l r : Nat} (h : WkI V t T w m d l r) : r ≤ 3 := h.2.2.2.2.2.2.2.2.1
theorem WkI.wy {V : MemV} {t T : Nat} {w : OneV × RouV × TriV} {m d l r : Nat} (h : WkI V t T w m d l r) : ∀ k, k < m → WayI V t T (bz (w.1 0 6)) (w.2.2 0 k) (w.2.2 1 k) (w.2.2 2 k) := h.2.2.2.2.2.2.2.2.2
def WalI (V : MemV) (W : WkV) (t T : Nat) : Prop := ∀ k, k < 4 → ¬ bz ((W k).1 0 5) = 0 → ∃ m d l r, r ≤ 3 ∧ WkI V t T (W k) m d l r
/-- all of a world -/
def Inv (U : NodV) (V : MemV) (H : OneV) (W : WkV) (n vol t T : Nat) (x : Nat → Nat) : Prop := (NodI U n vol) ∧ (MemI U V n vol) ∧ (NumI V t T) ∧ (HelI V H W x) ∧ (HanI V H) ∧ (WalI V W t T)
theorem Inv.N {U : NodV} {V : MemV} {H : OneV} {W : WkV} {n vol t T : Nat} {x : Nat → Nat} (h : Inv U V H W n vol t T x) : NodI U n vol := h.1
theorem Inv.M {U : NodV} {V : MemV} {H : OneV} {W : WkV} {n vol t T : Nat} {x : Nat → Nat} (h : Inv U V H W n vol t T x) : MemI U V n vol := h.2.1
theorem Inv.Z {U : NodV} {V : MemV} {H : OneV} {W : WkV} {n vol t T : Nat} {x : Nat → Nat} (h : Inv U V H W n vol t T x) : NumI V t T := h.2.2.1
theorem Inv.L {U : NodV} {V : MemV} {H : OneV} {W : WkV} {n vol t T : Nat} {x : Nat → Nat} (h : Inv U V H W n vol t T x) : HelI V H W x := h.2.2.2.1
theorem Inv.H {U : NodV} {V : MemV} {H : OneV} {W : WkV} {n vol t T : Nat} {x : Nat → Nat} (h : Inv U V H W n vol t T x) : HanI V H := h.2.2.2.2.1
theorem Inv.W {U : NodV} {V : MemV} {H : OneV} {W : WkV} {n vol t T : Nat} {x : Nat → Nat} (h : Inv U V H W n vol t T x) : WalI V W t T := h.2.2.2.2.2
/-! Names: five bits a letter in the class, to the base 27 in the reference. -/
def NmL (a b c d : Nat) : Prop := 1 ≤ a ∧ a ≤ 26 ∧ b ≤ 26 ∧ c ≤ 26 ∧ d ≤ 26 ∧ (b = 0 → c = 0) ∧ (c = 0 → d = 0)
def pck (a b c d : Nat) : Nat := a + 32 * b + 1024 * c + 32768 * d
def b27 (a b c d : Nat) : Nat := if b = 0 then a else if c = 0 then 27 * a + b else if d = 0 then 729 * a + 27 * b + c else 19683 * a + 729 * b + 27 * c + d
def Nm (x y : Int32) : Prop := ∃ a b c d, NmL a b c d ∧ x = nI (pck a b c d) ∧ y = nI (b27 a b c d)
theorem pck_lt {a b c d : Nat} (h : NmL a b c d) : 1 ≤ pck a b c d ∧ pck a b c d < 2 ^ 20 := by
  obtain ⟨h1, h2, h3, h4, h5, _, _⟩ := h
  unfold pck
  omega
theorem b27_lt {a b c d : Nat} (h : NmL a b c d) : 1 ≤ b27 a b c d ∧ b27 a b c d < 2 ^ 20 := by
  obtain ⟨h1, h2, h3, h4, h5, _, _⟩ := h
  unfold b27
  split
  · omega
  · split
    · omega
    · split <;> omega
theorem pck_inj {a b c d a' b' c' d' : Nat} (h : NmL a b c d) (h' : NmL a' b' c' d') (e : pck a b c d = pck a' b' c' d') : a = a' ∧ b = b' ∧ c = c' ∧ d = d' := by
  obtain ⟨h1, h2, h3, h4, h5, _, _⟩ := h
  obtain ⟨g1, g2, g3, g4, g5, _, _⟩ := h'
  unfold pck at e
  omega
theorem b27_inj {a b c d a' b' c' d' : Nat} (h : NmL a b c d) (h' : NmL a' b' c' d') (e : b27 a b c d = b27 a' b' c' d') : a = a' ∧ b = b' ∧ c = c' ∧ d = d' := by
  obtain ⟨h1, h2, h3, h4, h5, h6, h7⟩ := h
  obtain ⟨g1, g2, g3, g4, g5, g6, g7⟩ := h'
  unfold b27 at e
  by_cases x1 : b = 0
  · have x2 := h6 x1
    have x3 := h7 x2
    rw [if_pos x1] at e
    by_cases y1 : b' = 0
    · have y2 := g6 y1
      have y3 := g7 y2
      rw [if_pos y1] at e
      omega
    · rw [if_neg y1] at e
      split at e
      · omega
      · split at e <;> omega
  · rw [if_neg x1] at e
    by_cases x2 : c = 0
    · have x3 := h7 x2
      rw [if_pos x2] at e
      by_cases y1 : b' = 0
      · rw [if_pos y1] at e
        omega
      · rw [if_neg y1] at e
        by_cases y2 : c' = 0
        · have y3 := g7 y2
          rw [if_pos y2] at e
          omega
        · rw [if_neg y2] at e
          split at e <;> omega
    · rw [if_neg x2] at e
      by_cases x3 : d = 0
      · rw [if_pos x3] at e
        by_cases y1 : b' = 0
        · rw [if_pos y1] at e
          omega
        · rw [if_neg y1] at e
          by_cases y2 : c' = 0
          · rw [if_pos y2] at e
            omega
          · rw [if_neg y2] at e
            by_cases y3 : d' = 0
            · rw [if_pos y3] at e
              omega
            · rw [if_neg y3] at e
              omega
      · rw [if_neg x3] at e
        by_cases y1 : b' = 0
        · rw [if_pos y1] at e
          omega
        · rw [if_neg y1] at e
          by_cases y2 : c' = 0
          · rw [if_pos y2] at e
            omega
          · rw [if_neg y2] at e
            by_cases y3 : d' = 0
            · rw [if_pos y3] at e
              omega
            · rw [if_neg y3] at e
              omega
theorem Nm.pos {x y : Int32} (h : Nm x y) : (∃ a, x = nI a ∧ 1 ≤ a ∧ a < 2 ^ 20) ∧ ∃ b, y = nI b ∧ 1 ≤ b ∧ b < 2 ^ 20 := by
  obtain ⟨a, b, c, d, h1, h2, h3⟩ := h
  exact ⟨⟨_, h2, pck_lt h1⟩, ⟨_, h3, b27_lt h1⟩⟩
theorem Nm.inj {x y x' y' : Int32} (h : Nm x y) (h' : Nm x' y') : x = x' ↔ y = y' := by
  obtain ⟨a, b, c, d, h1, h2, h3⟩ := h
  obtain ⟨a', b', c', d', g1, g2, g3⟩ := h'
  have p1 := pck_lt h1
  have p2 := pck_lt g1
  have q1 := b27_lt h1
  have q2 := b27_lt g1
  constructor
  · intro e
    rw [h2, g2, nI_eq (by omega) (by omega)] at e
    obtain ⟨e1, e2, e3, e4⟩ := pck_inj h1 g1 e
    subst e1 e2 e3 e4
    rw [h3, g3]
  · intro e
    rw [h3, g3, nI_eq (by omega) (by omega)] at e
    obtain ⟨e1, e2, e3, e4⟩ := b27_inj h1 g1 e
    subst e1 e2 e3 e4
    rw [h2, g2]
/-- a name, or that of a root -/
def NmZ (x y : Int32) : Prop := Nm x y ∨ (x = 0 ∧ y = 0)
/-- a step -/
def NmS (x y : Int32) : Prop := Nm x y ∨ (x = -1 ∧ y = -1) ∨ (x = -2 ∧ y = -2)
theorem NmZ.inj {x y x' y' : Int32} (h : NmZ x y) (h' : Nm x' y') : x = x' ↔ y = y' := by
  rcases h with h | ⟨h1, h2⟩
  · exact h.inj h'
  · subst h1 h2
    obtain ⟨⟨a, a1, a2, a3⟩, ⟨b, b1, b2, b3⟩⟩ := h'.pos
    subst a1 b1
    constructor
    · intro q
      exact absurd q.symm (nI_ne0 a2 (by omega))
    · intro q
      exact absurd q.symm (nI_ne0 b2 (by omega))
theorem Nm.gt {x y : Int32} (h : Nm x y) : 0 < x ∧ 0 < y := by
  obtain ⟨⟨a, a1, a2, a3⟩, ⟨b, b1, b2, b3⟩⟩ := h.pos
  subst a1 b1
  exact ⟨by rw [← nI_0]; exact nI_lt a2 (by omega), by rw [← nI_0]; exact nI_lt b2 (by omega)⟩
theorem i32_gt_ne {x : Int32} (h : 0 < x) : ¬ x = -1 ∧ ¬ x = -2 ∧ ¬ x = 0 ∧ ¬ x ≤ 0 := by
  refine ⟨fun q => ?_, fun q => ?_, fun q => ?_, fun q => ?_⟩
  · rw [q] at h; exact absurd h (by decide)
  · rw [q] at h; exact absurd h (by decide)
  · rw [q] at h; exact absurd h (by decide)
  · exact absurd h (Int32.not_lt.mpr q)
/-- whether a step is a name is seen alike on both sides -/
theorem NmS.pos {x y : Int32} (h : NmS x y) : (0 < x ↔ 0 < y) ∧ (x ≤ 0 ↔ y ≤ 0) := by
  rcases h with h | ⟨h1, h2⟩ | ⟨h1, h2⟩
  · have := h.gt
    exact ⟨⟨fun _ => this.2, fun _ => this.1⟩, ⟨fun q => absurd q (i32_gt_ne this.1).2.2.2, fun q => absurd q (i32_gt_ne this.2).2.2.2⟩⟩
  · subst h1 h2
    exact ⟨Iff.rfl, Iff.rfl⟩
  · subst h1 h2
    exact ⟨Iff.rfl, Iff.rfl⟩
theorem NmS.nm {x y : Int32} (h : NmS x y) (hx : 0 < x) : Nm x y := by
  rcases h with h | ⟨h1, h2⟩ | ⟨h1, h2⟩
  · exact h
  · rw [h1] at hx; exact absurd hx (by decide)
  · rw [h1] at hx; exact absurd hx (by decide)
/-! Counts. -/
theorem cnt_one {P P' : Nat → Bool} {e : Nat} : ∀ {n k : Nat}, k ≤ e → e < k + n → (∀ i, k ≤ i → i < k + n → i ≠ e → P' i = P i) → cnt P' k n + (if P e = true then 1 else 0) = cnt P k n + (if P' e = true then 1 else 0)
  | 0, k, h1, h2, _ => by omega
  | n + 1, k, h1, h2, h => by
    unfold cnt
    by_cases q : k = e
    · subst q
      rw [cnt_cong (P := P') (P' := P) (fun i a b => h i (by omega) (by omega) (by omega))]
      omega
    · have ih := cnt_one (P := P) (P' := P') (n := n) (k := k + 1) (by omega) (by omega) (fun i a b c => h i (by omega) (by omega) c)
      rw [h k (Nat.le_refl _) (by omega) q]
      omega
theorem cnt_zero {P : Nat → Bool} : ∀ {n k : Nat}, (∀ i, k ≤ i → i < k + n → P i = false) → cnt P k n = 0
  | 0, k, _ => rfl
  | n + 1, k, h => by
    unfold cnt
    rw [h k (Nat.le_refl _) (by omega), cnt_zero (fun i a b => h i (by omega) (by omega))]
    rfl
theorem cnt_z {P : Nat → Bool} : ∀ {n k : Nat}, cnt P k n = 0 → ∀ i, k ≤ i → i < k + n → P i = false
  | 0, k, _, i, h1, h2 => by omega
  | n + 1, k, h, i, h1, h2 => by
    unfold cnt at h
    by_cases q : i = k
    · subst q
      cases hp : P i with
      | false => rfl
      | true => rw [hp] at h; simp at h
    · exact cnt_z (n := n) (k := k + 1) (by omega) i (by omega) (by omega)
theorem cnt_pos {P : Nat → Bool} {n k i : Nat} (h1 : k ≤ i) (h2 : i < k + n) (h : P i = true) : 0 < cnt P k n := by
  rcases Nat.eq_zero_or_pos (cnt P k n) with q | q
  · have := cnt_z q i h1 h2
    rw [h] at this
    cases this
  · exact q
theorem cnt_add {P : Nat → Bool} : ∀ {n m k : Nat}, cnt P k (n + m) = cnt P k n + cnt P (k + n) m
  | 0, m, k => by simp [cnt]
  | n + 1, m, k => by
    rw [show n + 1 + m = (n + m) + 1 by omega]
    show (if P k = true then 1 else 0) + cnt P (k + 1) (n + m) = (if P k = true then 1 else 0) + cnt P (k + 1) n + cnt P (k + (n + 1)) m
    rw [cnt_add (n := n) (m := m) (k := k + 1), show k + 1 + n = k + (n + 1) by omega]
    omega
theorem cnt_mono {P P' : Nat → Bool} : ∀ {n k : Nat}, (∀ i, k ≤ i → i < k + n → P i = true → P' i = true) → cnt P k n ≤ cnt P' k n
  | 0, k, _ => Nat.le_refl _
  | n + 1, k, h => by
    unfold cnt
    have ih := cnt_mono (P := P) (P' := P') (n := n) (k := k + 1) (fun i a b => h i (by omega) (by omega))
    by_cases q : P k = true
    · rw [if_pos q, if_pos (h k (Nat.le_refl _) (by omega) q)]
      omega
    · rw [if_neg q]
      omega
theorem fst_ext {P : Nat → Bool} {k n m : Nat} (h : ∀ i, k + n ≤ i → i < k + n + m → P i = false) : fst? P k (n + m) = fst? P k n := by
  induction n generalizing k with
  | zero =>
    rw [Nat.zero_add]
    exact fst_no (fun i a b => h i (by omega) (by omega))
  | succ n ih =>
    rw [show n + 1 + m = (n + m) + 1 by omega]
    unfold fst?
    rw [ih (fun i a b => h i (by omega) (by omega))]
theorem sm_cong {a b : Nat → Nat} : ∀ {n k : Nat}, (∀ i, k ≤ i → i < k + n → a i = b i) → sm a k n = sm b k n
  | 0, k, _ => rfl
  | n + 1, k, h => by
    unfold sm
    rw [h k (Nat.le_refl _) (by omega), sm_cong (fun i p q => h i (by omega) (by omega))]
theorem sm_one {a a' : Nat → Nat} {e : Nat} : ∀ {n k : Nat}, k ≤ e → e < k + n → (∀ i, k ≤ i → i < k + n → i ≠ e → a' i = a i) → sm a' k n + a e = sm a k n + a' e
  | 0, k, h1, h2, _ => by omega
  | n + 1, k, h1, h2, h => by
    unfold sm
    by_cases q : k = e
    · subst q
      rw [sm_cong (a := a') (b := a) (fun i p q => h i (by omega) (by omega) (by omega))]
      omega
    · have ih := sm_one (a := a) (a' := a') (n := n) (k := k + 1) (by omega) (by omega) (fun i p q r => h i (by omega) (by omega) r)
      rw [h k (Nat.le_refl _) (by omega) q]
      omega
theorem sm_z {a : Nat → Nat} : ∀ {n k : Nat}, sm a k n = 0 → ∀ i, k ≤ i → i < k + n → a i = 0
  | 0, k, _, i, h1, h2 => by omega
  | n + 1, k, h, i, h1, h2 => by
    unfold sm at h
    by_cases q : i = k
    · subst q
      omega
    · exact sm_z (n := n) (k := k + 1) (by omega) i (by omega) (by omega)
theorem sm_zero {a : Nat → Nat} : ∀ {n k : Nat}, (∀ i, k ≤ i → i < k + n → a i = 0) → sm a k n = 0
  | 0, k, _ => rfl
  | n + 1, k, h => by
    unfold sm
    rw [h k (Nat.le_refl _) (by omega), sm_zero (fun i p q => h i (by omega) (by omega))]
theorem sm_le {a : Nat → Nat} {b : Nat} : ∀ {n k : Nat}, (∀ i, k ≤ i → i < k + n → a i ≤ b) → sm a k n ≤ n * b
  | 0, k, _ => by simp [sm]
  | n + 1, k, h => by
    unfold sm
    have h1 := h k (Nat.le_refl _) (by omega)
    have h2 := sm_le (a := a) (b := b) (n := n) (k := k + 1) (fun i p q => h i (by omega) (by omega))
    rw [Nat.add_mul, Nat.one_mul]
    omega
theorem TrI.le {V V' : MemV} {t t' : Nat} (h : TrI V t) (e : V' 0 14 = V 0 14) (hn : ∀ k, k < 64 → ¬ V' 1 k = 0 → ¬ V 1 k = 0) (ht : t ≤ t') : TrI V' t' := by
  obtain ⟨z, h1, h2⟩ := h
  have := cnt_mono (P := fun k => decide (¬ V' 1 k = 0)) (P' := fun k => decide (¬ V 1 k = 0)) (n := 64) (k := 0) (fun k _ hk q => by
    simp only [decide_eq_true_eq] at q ⊢
    exact hn k (by omega) q)
  exact ⟨z, by rw [e]; exact h1, by omega⟩
theorem TrI.one {V V' : MemV} {t : Nat} (h : TrI V t) (e : V' 0 14 = V 0 14) {f : Nat} (hf : f < 64) (hn : ∀ k, k ≠ f → V' 1 k = V 1 k) : TrI V' (t + 1) := by
  obtain ⟨z, h1, h2⟩ := h
  have c := cnt_one (P := fun k => decide (¬ V 1 k = 0)) (P' := fun k => decide (¬ V' 1 k = 0)) (e := f) (n := 64) (k := 0) (Nat.zero_le _) (by omega) (fun k _ _ q => by
    show decide (¬ V' 1 k = 0) = decide (¬ V 1 k = 0)
    rw [hn k q])
  have b : (if decide (¬ V' 1 f = 0) = true then 1 else 0) ≤ 1 := by split <;> omega
  exact ⟨z, by rw [e]; exact h1, by omega⟩
theorem TrI.trm {V V' : MemV} {t : Nat} (h : TrI V t) (e : V' 0 14 = V 0 14 + 1) {f : Nat} (hf : f < 64) (h0 : ¬ V 1 f = 0) (h0' : V' 1 f = 0) (hn : ∀ k, k ≠ f → V' 1 k = V 1 k) : TrI V' t := by
  obtain ⟨z, h1, h2⟩ := h
  have c := cnt_one (P := fun k => decide (¬ V 1 k = 0)) (P' := fun k => decide (¬ V' 1 k = 0)) (e := f) (n := 64) (k := 0) (Nat.zero_le _) (by omega) (fun k _ _ q => by
    show decide (¬ V' 1 k = 0) = decide (¬ V 1 k = 0)
    rw [hn k q])
  rw [if_pos (by simp [h0]), if_neg (by simp [h0'])] at c
  exact ⟨z + 1, by rw [e, h1, nI_1], by omega⟩
end
section
/-! What the memory's small steps do, row by row. -/
theorem n64 {e : Nat} (h : e < 64) : ¬ nI e < 0 ∧ nI e < 64 ∧ ¬ (64 : Int32) ≤ nI e := ⟨nI_pos (by omega), nI_lt (b := 64) h (by decide), nI_ge (b := 64) h (by decide)⟩
theorem ix64 {e : Nat} (h : e < 64) : ix (nI e) = e := ix_nI (by omega)
theorem cT_k (V : MemV) (x : Int32) (r : Fin 12) (h0 : r ≠ 0) (h7 : r ≠ 7) (h11 : r ≠ 11) : gV_X1_comeTo V x r = V r := by
  unfold gV_X1_comeTo
  repeat' split
  all_goals (try rfl)
  all_goals simp only [uv_k _ _ _ _ _ h0, uv_k _ _ _ _ _ h7, uv_k _ _ _ _ _ h11]
theorem cT_0 (V : MemV) (x : Int32) (k : Nat) (h12 : k ≠ 12) (h16 : k ≠ 16) : gV_X1_comeTo V x 0 k = V 0 k := by
  unfold gV_X1_comeTo
  repeat' split
  all_goals (try rfl)
  all_goals simp [uv, h12, h16]
theorem cT_t (V : MemV) {e : Nat} (he : e < 64) : gV_X1_comeTo V (nI e) 0 12 = V 0 12 + 1 := by
  unfold gV_X1_comeTo
  rw [if_neg (n64 he).1, if_pos (n64 he).2.1]
  repeat' split
  all_goals simp [uv]
theorem cT_7 (V : MemV) {e : Nat} (he : e < 64) (j : Nat) : gV_X1_comeTo V (nI e) 7 j = if j = e then V 0 12 else V 7 j := by
  unfold gV_X1_comeTo
  rw [if_neg (n64 he).1, if_pos (n64 he).2.1]
  repeat' split
  all_goals simp_all [uv, ix64 he]
theorem cT_tl (V : MemV) {e tl : Nat} (he : e < 64) (ht : V 0 16 = nI tl) (h2 : tl < 2) : gV_X1_comeTo V (nI e) 0 16 = nI (tl + 1) ∧ ∀ j, gV_X1_comeTo V (nI e) 11 j = if j = tl then nI e else V 11 j := by
  unfold gV_X1_comeTo
  rw [if_neg (n64 he).1, if_pos (n64 he).2.1, ht, if_neg (nI_pos (by omega)), if_neg (show ¬ (2 : Int32) ≤ nI tl from nI_ge (b := 2) h2 (by decide)), ix_nI (by omega)]
  have et : ix (nI tl) = tl := ix_nI (by omega)
  refine ⟨?_, fun j => ?_⟩
  · simp [uv, nI_1]
  · simp [uv, et]
theorem ho_k (V : MemV) (x : Int32) (r : Fin 12) (h : r ≠ 5) : gV_X1_hold V x r = V r := by
  unfold gV_X1_hold
  repeat' split
  all_goals (try rfl)
  all_goals simp only [uv_k _ _ _ _ _ h]
theorem ho_5 (V : MemV) {e : Nat} (he : e < 64) (j : Nat) : gV_X1_hold V (nI e) 5 j = if j = e then V 5 e + 1 else V 5 j := by
  unfold gV_X1_hold
  rw [if_neg (n64 he).1, if_neg (n64 he).2.2, ix64 he, uv_at]
theorem ho_m (V : MemV) : gV_X1_hold V (-1) = V := if_pos (by decide)
theorem dr_k (V : MemV) (x : Int32) (r : Fin 12) (h1 : r ≠ 1) (h5 : r ≠ 5) : gV_X1_drop V x r = V r := by
  unfold gV_X1_drop
  repeat' split
  all_goals (try rfl)
  all_goals simp only [uv_k _ _ _ _ _ h1, uv_k _ _ _ _ _ h5]
theorem dr_1 (V : MemV) {e : Nat} (he : e < 64) (j : Nat) : gV_X1_drop V (nI e) 1 j = if j = e then 0 else V 1 j := by
  unfold gV_X1_drop
  rw [if_neg (n64 he).1, if_pos (n64 he).2.1, ix64 he]
  repeat' split
  all_goals simp_all [uv]
theorem dr_5 (V : MemV) {e p : Nat} (he : e < 64) (hp : V 2 e = nI p) (p64 : p < 64) (j : Nat) : gV_X1_drop V (nI e) 5 j = if j = p then V 5 p - 1 else V 5 j := by
  unfold gV_X1_drop
  rw [if_neg (n64 he).1, if_pos (n64 he).2.1, ix64 he, hp, if_neg (n64 p64).1, if_neg (n64 p64).2.2, ix64 p64, uv_at]
  simp [uv]
theorem dr_5r (V : MemV) {e : Nat} (he : e < 64) (hp : V 2 e = -1) : gV_X1_drop V (nI e) 5 = V 5 := by
  unfold gV_X1_drop
  rw [if_neg (n64 he).1, if_pos (n64 he).2.1, ix64 he, hp, if_pos (by decide)]
  funext j
  simp [uv]
theorem re_k (V : MemV) (x : Int32) (r : Fin 12) (h1 : r ≠ 1) (h5 : r ≠ 5) : gV_X1_release V x r = V r := by
  unfold gV_X1_release
  repeat' split
  all_goals (try rfl)
  all_goals simp only [uv_k _ _ _ _ _ h1, uv_k _ _ _ _ _ h5]
theorem re_5 (V : MemV) {e : Nat} (he : e < 64) (j : Nat) : gV_X1_release V (nI e) 5 j = if j = e then V 5 e - 1 else V 5 j := by
  unfold gV_X1_release
  rw [if_neg (n64 he).1, if_pos (n64 he).2.1, ix64 he]
  repeat' split
  all_goals simp_all [uv]
theorem re_1 (V : MemV) {e : Nat} (he : e < 64) (j : Nat) : gV_X1_release V (nI e) 1 j = if j = e ∧ V 1 e = 2 ∧ ¬ (0 : Int32) < V 5 e - 1 then 0 else V 1 j := by
  unfold gV_X1_release
  rw [if_neg (n64 he).1, if_pos (n64 he).2.1, ix64 he]
  by_cases a : V 1 e = 2
  · rw [if_pos a]
    by_cases b : (0 : Int32) < V 5 e - 1
    · rw [if_pos b, if_neg (fun q => q.2.2 b)]
      simp [uv]
    · rw [if_neg b]
      by_cases c : j = e
      · rw [if_pos ⟨c, a, b⟩]
        simp [uv, c]
      · rw [if_neg (fun q => c q.1)]
        simp [uv, c]
  · rw [if_neg a, if_neg (fun q => a q.2.1)]
    simp [uv]
theorem re_m (V : MemV) : gV_X1_release V (-1) = V := if_pos (by decide)
def ad0 (V : MemV) (e : Nat) (x1 x2 x3 : Int32) : MemV := uv (uv (uv (uv (uv (uv (uv V 1 e 1) 2 e x1) 3 e x2) 4 e x3) 5 e 0) 6 e 0) 8 e (V 0 12)
theorem lu_some {V : MemV} {e : Nat} (h : f_X1_leastUnused V = some e) : e < 64 ∧ V 1 e = 0 ∧ ∀ i, i < e → ¬ V 1 i = 0 := by
  obtain ⟨h1, h2, h3, h4⟩ := fst_some h
  refine ⟨by omega, ?_, fun i hi => ?_⟩
  · by_cases q : V 1 e = 0
    · exact q
    · rw [if_neg q] at h3
      cases h3
  · have := h4 i (Nat.zero_le _) hi
    intro q
    rw [if_pos q] at this
    cases this
theorem ad_q {V : MemV} {e : Nat} (h : f_X1_leastUnused V = some e) (x1 x2 x3 : Int32) : q_X1_add V x1 x2 x3 = nI e := by
  have he := (lu_some h).1
  have hq : q_X1_leastUnused V = nI e := by
    show oI (f_X1_leastUnused V) = _
    rw [h]
    rfl
  unfold q_X1_add
  rw [hq, if_neg (n64 he).1, if_pos (n64 he).2.1]
theorem ad_g {V : MemV} {e : Nat} (h : f_X1_leastUnused V = some e) (x1 x2 x3 : Int32) : gV_X1_add V x1 x2 x3 = gV_X1_comeTo (gV_X1_hold (ad0 V e x1 x2 x3) x1) (nI e) := by
  have he := (lu_some h).1
  have hq : q_X1_leastUnused V = nI e := by
    show oI (f_X1_leastUnused V) = _
    rw [h]
    rfl
  unfold gV_X1_add ad0
  rw [hq, if_neg (n64 he).1, if_pos (n64 he).2.1, ix64 he]
theorem ad_k {V : MemV} {e : Nat} (h : f_X1_leastUnused V = some e) (x1 x2 x3 : Int32) (r : Fin 12) (hr : r = 9 ∨ r = 10) : gV_X1_add V x1 x2 x3 r = V r := by
  rw [ad_g h]
  rcases hr with hr | hr
  · subst hr
    rw [cT_k _ _ _ (by decide) (by decide) (by decide), ho_k _ _ _ (by decide)]
    funext j
    simp [ad0, uv]
  · subst hr
    rw [cT_k _ _ _ (by decide) (by decide) (by decide), ho_k _ _ _ (by decide)]
    funext j
    simp [ad0, uv]
theorem ad_1 {V : MemV} {e : Nat} (h : f_X1_leastUnused V = some e) (x1 x2 x3 : Int32) (j : Nat) : gV_X1_add V x1 x2 x3 1 j = if j = e then 1 else V 1 j := by
  rw [ad_g h, cT_k _ _ _ (by decide) (by decide) (by decide), ho_k _ _ _ (by decide)]
  simp [ad0, uv]
theorem ad_2 {V : MemV} {e : Nat} (h : f_X1_leastUnused V = some e) (x1 x2 x3 : Int32) (j : Nat) : gV_X1_add V x1 x2 x3 2 j = if j = e then x1 else V 2 j := by
  rw [ad_g h, cT_k _ _ _ (by decide) (by decide) (by decide), ho_k _ _ _ (by decide)]
  simp [ad0, uv]
theorem ad_3 {V : MemV} {e : Nat} (h : f_X1_leastUnused V = some e) (x1 x2 x3 : Int32) (j : Nat) : gV_X1_add V x1 x2 x3 3 j = if j = e then x2 else V 3 j := by
  rw [ad_g h, cT_k _ _ _ (by decide) (by decide) (by decide), ho_k _ _ _ (by decide)]
  simp [ad0, uv]
theorem ad_4 {V : MemV} {e : Nat} (h : f_X1_leastUnused V = some e) (x1 x2 x3 : Int32) (j : Nat) : gV_X1_add V x1 x2 x3 4 j = if j = e then x3 else V 4 j := by
  rw [ad_g h, cT_k _ _ _ (by decide) (by decide) (by decide), ho_k _ _ _ (by decide)]
  simp [ad0, uv]
theorem ad_6 {V : MemV} {e : Nat} (h : f_X1_leastUnused V = some e) (x1 x2 x3 : Int32) (j : Nat) : gV_X1_add V x1 x2 x3 6 j = if j = e then 0 else V 6 j := by
  rw [ad_g h, cT_k _ _ _ (by decide) (by decide) (by decide), ho_k _ _ _ (by decide)]
  simp [ad0, uv]
theorem ad_8 {V : MemV} {e : Nat} (h : f_X1_leastUnused V = some e) (x1 x2 x3 : Int32) (j : Nat) : gV_X1_add V x1 x2 x3 8 j = if j = e then V 0 12 else V 8 j := by
  rw [ad_g h, cT_k _ _ _ (by decide) (by decide) (by decide), ho_k _ _ _ (by decide)]
  simp [ad0, uv]
theorem ad_7 {V : MemV} {e : Nat} (h : f_X1_leastUnused V = some e) (x1 x2 x3 : Int32) (j : Nat) : gV_X1_add V x1 x2 x3 7 j = if j = e then V 0 12 else V 7 j := by
  rw [ad_g h, cT_7 _ (lu_some h).1, ho_k _ _ _ (by decide), ho_k _ _ _ (by decide)]
  simp [ad0, uv]
theorem ad_0 {V : MemV} {e : Nat} (h : f_X1_leastUnused V = some e) (x1 x2 x3 : Int32) (k : Nat) (h12 : k ≠ 12) (h16 : k ≠ 16) : gV_X1_add V x1 x2 x3 0 k = V 0 k := by
  rw [ad_g h, cT_0 _ _ _ h12 h16, ho_k _ _ _ (by decide)]
  simp [ad0, uv]
theorem ad_t {V : MemV} {e : Nat} (h : f_X1_leastUnused V = some e) (x1 x2 x3 : Int32) : gV_X1_add V x1 x2 x3 0 12 = V 0 12 + 1 := by
  rw [ad_g h, cT_t _ (lu_some h).1, ho_k _ _ _ (by decide)]
  simp [ad0, uv]
theorem ad_5 {V : MemV} {e p : Nat} (h : f_X1_leastUnused V = some e) (x1 x2 x3 : Int32) (hp : x1 = nI p) (p64 : p < 64) (hne : p ≠ e) (j : Nat) : gV_X1_add V x1 x2 x3 5 j = if j = e then 0 else if j = p then V 5 p + 1 else V 5 j := by
  subst hp
  rw [ad_g h, cT_k _ _ _ (by decide) (by decide) (by decide), ho_5 _ p64]
  by_cases q : j = e
  · subst q
    rw [if_pos rfl, if_neg (Ne.symm hne)]
    simp [ad0, uv]
  · rw [if_neg q]
    by_cases q2 : j = p
    · rw [if_pos q2, if_pos q2]
      simp [ad0, uv, hne]
    · rw [if_neg q2, if_neg q2]
      simp [ad0, uv, q]
theorem ad_5r {V : MemV} {e : Nat} (h : f_X1_leastUnused V = some e) (x2 x3 : Int32) (j : Nat) : gV_X1_add V (-1) x2 x3 5 j = if j = e then 0 else V 5 j := by
  rw [ad_g h, cT_k _ _ _ (by decide) (by decide) (by decide), ho_m]
  simp [ad0, uv]
theorem ad_tl {V : MemV} {e tl : Nat} (h : f_X1_leastUnused V = some e) (x1 x2 x3 : Int32) (ht : V 0 16 = nI tl) (h2 : tl < 2) : gV_X1_add V x1 x2 x3 0 16 = nI (tl + 1) ∧ ∀ j, gV_X1_add V x1 x2 x3 11 j = if j = tl then nI e else V 11 j := by
  rw [ad_g h]
  have a := cT_tl (gV_X1_hold (ad0 V e x1 x2 x3) x1) (e := e) (tl := tl) (lu_some h).1 (by rw [ho_k _ _ _ (by decide)]; simp [ad0, uv, ht]) h2
  refine ⟨a.1, fun j => ?_⟩
  rw [a.2 j, ho_k _ _ _ (by decide)]
  simp [ad0, uv]
end
section
/-! The invariant over the memory's small steps. -/
theorem NodI.evn {U : NodV} {n vol : Nat} (h : NodI U n vol) : evN U = n := by
  have := h.n60
  unfold evN
  rw [h.ev, ix_nI (by omega)]
  omega
theorem NodI.fo {U : NodV} {n vol : Nat} (h : NodI U n vol) {y : Int32} (hy : ¬ q_X2_isFolder U y = 0) : ∃ k, k < n ∧ y = nI k ∧ U 4 k = 2 := by
  have h60 := h.n60
  unfold q_X2_isFolder q_X2_exists at hy
  by_cases a : y < 0
  · simp [a] at hy
  · by_cases b : (60 : Int32) ≤ y
    · simp [a, b] at hy
    · by_cases c : U 0 5 ≤ y
      · simp [a, b, c] at hy
      · by_cases d : U 4 (ix y) = 0
        · simp [a, b, c, d] at hy
        · by_cases e : U 4 (ix y) = 2
          · refine ⟨ix y, ?_, nI_ix a, e⟩
            rw [h.ev] at c
            rw [nI_ix a, nI_leI (by omega) (ix_lt y)] at c
            omega
          · simp [a, b, c, d, e] at hy
theorem NodI.fo' {U : NodV} {n vol : Nat} (h : NodI U n vol) {k : Nat} (hk : k < n) (h2 : U 4 k = 2) : q_X2_isFolder U (nI k) = 1 := by
  have h60 := h.n60
  unfold q_X2_isFolder q_X2_exists
  rw [if_neg (nI_pos (by omega)), if_neg (show ¬ (60 : Int32) ≤ nI k from nI_ge (b := 60) (by omega) (by decide)), h.ev, if_neg (nI_ge hk (by omega)), ix_nI (by omega), h2]
  decide
theorem NodI.ex {U : NodV} {n vol : Nat} (h : NodI U n vol) {k : Nat} (hk : k < n) : q_X2_exists U (nI k) = if U 4 k = 0 then 0 else 1 := by
  have h60 := h.n60
  unfold q_X2_exists
  rw [if_neg (nI_pos (by omega)), if_neg (show ¬ (60 : Int32) ≤ nI k from nI_ge (b := 60) (by omega) (by decide)), h.ev, if_neg (nI_ge hk (by omega)), ix_nI (by omega)]
theorem NodI.fd {U : NodV} {n vol : Nat} (h : NodI U n vol) (x y : Int32) : (q_X2_find U x y = -1 ∧ ∀ k, k < n → ¬ U 4 k = 0 → U 2 k = x → ¬ U 3 k = y) ∨ ∃ k, k < n ∧ q_X2_find U x y = nI k ∧ ¬ U 4 k = 0 ∧ U 2 k = x ∧ U 3 k = y := by
  unfold q_X2_find
  rw [h.evn]
  cases q : fst? (fun k => decide (¬ U 4 k = 0 ∧ U 2 k = x ∧ U 3 k = y)) 0 n with
  | none =>
    left
    refine ⟨rfl, fun k hk h1 h2 h3 => ?_⟩
    have := fst_none q k (Nat.zero_le _) (by omega)
    simp only [decide_eq_false_iff_not] at this
    exact this ⟨h1, h2, h3⟩
  | some k =>
    right
    obtain ⟨_, h2, h3, _⟩ := fst_some q
    simp only [decide_eq_true_eq] at h3
    exact ⟨k, by omega, rfl, h3⟩
theorem MemI.ok {U : NodV} {V : MemV} {n vol : Nat} (h : MemI U V n vol) {v o : Nat} (hv : v < 3) (ho : o < 64) (hq : V 10 v = nI o) : 1 ≤ v ∧ ¬ V 9 v = -1 ∧ V 1 o = 1 ∧ ¬ V 2 o = -1 ∧ ¬ q_X2_isFolder U (V 4 o) = 0 := by
  have h1 : 1 ≤ v := by
    rcases Nat.eq_zero_or_pos v with z | z
    · rw [z, h.o0] at hq
      exact absurd hq.symm (nI_m1 (by omega))
    · exact z
  have h2 : ¬ V 9 v = -1 := by
    rcases h.rt v hv with ⟨_, z⟩ | ⟨_, r, r64, z, _⟩
    · rw [z] at hq
      exact absurd hq.symm (nI_m1 (by omega))
    · rw [z]
      exact nI_m1 (by omega)
  obtain ⟨o', o64, e1, e2, e3, e4⟩ := h.ov v h1 hv h2
  have : o' = o := (nI_eq (by omega) (by omega)).mp (e1.symm.trans hq)
  subst this
  exact ⟨h1, h2, e2, e3, e4⟩
theorem hc_fr {V V' : MemV} (h1 : V' 1 = V 1) (h2 : V' 2 = V 2) (h10 : V' 10 = V 10) (H : OneV) (W : WkV) (e : Nat) : hc V' H W e = hc V H W e := by
  unfold hc hcC hcV
  rw [h1, h2, h10]
theorem WayI.fr {V V' : MemV} {t t' T T' : Nat} {hv a b c : Int32} (h : WayI V t T hv a b c) (h1 : V' 1 = V 1) (h4 : V' 4 = V 4) (h6 : V' 6 = V 6) (h8 : V' 8 = V 8) (ht : t ≤ t') (hT : T ≤ T') : WayI V' t' T' hv a b c := by
  obtain ⟨e, e64, h2, ⟨b1, c1, g1, g2, g3, g4, g5⟩, h3⟩ := h.ex
  refine ⟨e, e64, h2, ⟨b1, c1, g1, by omega, g3, by omega, ?_⟩, ?_⟩
  · rw [h1, h4, h6, h8]
    intro q1 q2
    obtain ⟨c2, k1, k2, k3, k4⟩ := g5 q1 q2
    exact ⟨c2, k1, k2, by omega, k4⟩
  · rw [h1, h4]
    exact h3
theorem WkI.fr {V V' : MemV} {t t' T T' : Nat} {w : OneV × RouV × TriV} {m d l r : Nat} (h : WkI V t T w m d l r) (h1 : V' 1 = V 1) (h4 : V' 4 = V 4) (h6 : V' 6 = V 6) (h8 : V' 8 = V 8) (ht : t ≤ t') (hT : T ≤ T') : WkI V' t' T' w m d l r :=
  ⟨h.m, h.d, h.l, h.r, h.m1, h.md, h.dl, h.l12, h.r3, fun k hk => (h.wy k hk).fr h1 h4 h6 h8 ht hT⟩
theorem Inv.frz {U : NodV} {V V' : MemV} {H : OneV} {W : WkV} {n vol t t' T T' : Nat} {x : Nat → Nat} (h : Inv U V H W n vol t T x) (e1 : V' 1 = V 1) (e2 : V' 2 = V 2) (e3 : V' 3 = V 3) (e4 : V' 4 = V 4) (e5 : V' 5 = V 5) (e6 : V' 6 = V 6) (e8 : V' 8 = V 8) (e9 : V' 9 = V 9) (e10 : V' 10 = V 10) (el : V' 0 11 = V 0 11) (ek : V' 0 12 = nI t') (ht : t ≤ t') (hT : T ≤ T') (hb : t' ≤ T') (h30 : T' ≤ 1000000000) (hz : TrI V' t') : Inv U V' H W n vol t' T' x := by
  refine ⟨h.N, ?_, ?_, ?_, ?_, ?_⟩
  · have := h.M
    unfold MemI at this ⊢
    rw [e1, e2, e3, e4, e9, e10]
    exact this
  · refine ⟨ek, hb, h30, ?_, ?_, ?_⟩
    · rw [e1, e8]
      intro e he q
      obtain ⟨b, h1, h2⟩ := h.Z.bi e he q
      exact ⟨b, h1, by omega⟩
    · rw [e1, e6]
      intro e he q
      obtain ⟨b, h1, h2⟩ := h.Z.co e he q
      exact ⟨b, h1, by omega⟩
    · exact ⟨by rw [el]; exact h.Z.li, hz⟩
  · intro e he
    rw [e1, e5, hc_fr e1 e2 e10]
    exact h.L e he
  · have := h.H
    unfold HanI at this ⊢
    rw [e1, e4]
    exact this
  · intro k hk q
    obtain ⟨m, d, l, r, hr, hw⟩ := h.W k hk q
    exact ⟨m, d, l, r, hr, hw.fr e1 e4 e6 e8 ht hT⟩
theorem Inv.fr {U : NodV} {V V' : MemV} {H : OneV} {W : WkV} {n vol t t' T T' : Nat} {x : Nat → Nat} (h : Inv U V H W n vol t T x) (e1 : V' 1 = V 1) (e2 : V' 2 = V 2) (e3 : V' 3 = V 3) (e4 : V' 4 = V 4) (e5 : V' 5 = V 5) (e6 : V' 6 = V 6) (e8 : V' 8 = V 8) (e9 : V' 9 = V 9) (e10 : V' 10 = V 10) (el : V' 0 11 = V 0 11) (ek : V' 0 12 = nI t') (ht : t ≤ t') (hT : T ≤ T') (hb : t' ≤ T') (h30 : T' ≤ 1000000000) (e14 : V' 0 14 = V 0 14) : Inv U V' H W n vol t' T' x :=
  h.frz e1 e2 e3 e4 e5 e6 e8 e9 e10 el ek ht hT hb h30 (h.Z.tri.le e14 (fun k _ q => by rw [e1] at q; exact q) ht)
theorem Inv.T {U : NodV} {V : MemV} {H : OneV} {W : WkV} {n vol t T T' : Nat} {x : Nat → Nat} (h : Inv U V H W n vol t T x) (hT : T ≤ T') (h30 : T' ≤ 1000000000) : Inv U V H W n vol t T' x :=
  h.fr rfl rfl rfl rfl rfl rfl rfl rfl rfl rfl h.Z.tk (Nat.le_refl _) hT (Nat.le_trans h.Z.tT hT) h30 rfl
theorem Inv.come {U : NodV} {V : MemV} {H : OneV} {W : WkV} {n vol t T : Nat} {x : Nat → Nat} (h : Inv U V H W n vol t T x) {e : Nat} (he : e < 64) (ht : t + 1 ≤ T) : Inv U (gV_X1_comeTo V (nI e)) H W n vol (t + 1) T x := by
  have k : ∀ r : Fin 12, r ≠ 0 → r ≠ 7 → r ≠ 11 → gV_X1_comeTo V (nI e) r = V r := cT_k V (nI e)
  refine h.fr (k 1 (by decide) (by decide) (by decide)) (k 2 (by decide) (by decide) (by decide)) (k 3 (by decide) (by decide) (by decide)) (k 4 (by decide) (by decide) (by decide)) (k 5 (by decide) (by decide) (by decide)) (k 6 (by decide) (by decide) (by decide)) (k 8 (by decide) (by decide) (by decide)) (k 9 (by decide) (by decide) (by decide)) (k 10 (by decide) (by decide) (by decide)) (cT_0 _ _ _ (by decide) (by decide)) ?_ (Nat.le_succ t) (Nat.le_refl _) ht h.Z.T30 (cT_0 _ _ _ (by decide) (by decide))
  rw [cT_t V he, h.Z.tk, nI_1]
theorem hcK_z {w : OneV × RouV × TriV} {e m : Nat} (hm : w.1 0 4 = nI m) (hb : m < 1000) (h5 : ¬ bz (w.1 0 5) = 0) (h6 : ¬ bz (w.1 0 6) = 0) (hz : hcK w e = 0) : ∀ k, k < m → ¬ w.2.2 0 k = nI e := by
  unfold hcK at hz
  rw [if_neg (by intro q; rcases q with q | q; exact h5 q; exact h6 q), hm, ix_nI (by omega)] at hz
  intro k hk q
  have := cnt_z hz k (Nat.zero_le _) (by omega)
  simp [q] at this
/-- nobody holds what is not there -/
theorem Inv.un {U : NodV} {V : MemV} {H : OneV} {W : WkV} {n vol t T : Nat} {x : Nat → Nat} (h : Inv U V H W n vol t T x) {e : Nat} (he : e < 64) (h0 : V 1 e = 0) : hc V H W e = 0 := by
  have h1 : hcC V e = 0 := by
    refine cnt_zero (fun k _ hk => ?_)
    simp only [decide_eq_false_iff_not]
    rintro ⟨q1, q2⟩
    have hk : k < 64 := by omega
    rcases h.M.st k hk with z | z | z
    · exact q1 z
    · obtain ⟨p, p64, z1, z2, _⟩ := h.M.ch k hk z (by rw [q2]; exact nI_m1 (by omega))
      have : p = e := (nI_eq (by omega) (by omega)).mp (z1.symm.trans q2)
      rw [this, h0] at z2
      exact absurd z2 (by decide)
    · rw [(h.M.go k hk z).1] at q2
      exact absurd q2.symm (nI_m1 (by omega))
  have h2 : hcV V e = 0 := by
    refine cnt_zero (fun v _ hv => ?_)
    simp only [decide_eq_false_iff_not]
    intro q
    have := (h.M.ok (by omega) he q).2.2.1
    rw [h0] at this
    exact absurd this (by decide)
  have h3 : hcH H e = 0 := by
    refine cnt_zero (fun k _ hk => ?_)
    simp only [decide_eq_false_iff_not]
    intro q
    rcases h.H k (by omega) with z | ⟨f, f64, z1, z2, _⟩
    · rw [z] at q
      exact absurd q.symm (nI_m1 (by omega))
    · have : f = e := (nI_eq (by omega) (by omega)).mp (z1.symm.trans q)
      rw [this] at z2
      exact z2 h0
  have h4 : hcW W e = 0 := by
    refine sm_zero (fun k _ hk => ?_)
    unfold hcK
    by_cases q : bz ((W k).1 0 5) = 0 ∨ bz ((W k).1 0 6) = 0
    · rw [if_pos q]
    · rw [if_neg q]
      obtain ⟨m, d, l, r, hr, hw⟩ := h.W k (by omega) (fun z => q (Or.inl z))
      have := hw.md
      have := hw.dl
      have := hw.l12
      rw [hw.m, ix_nI (by omega)]
      refine cnt_zero (fun i _ hi => ?_)
      simp only [decide_eq_false_iff_not]
      intro z
      obtain ⟨f, f64, g1, _, g2⟩ := (hw.wy i (by omega)).ex
      have : f = e := (nI_eq (by omega) (by omega)).mp (g1.symm.trans z)
      rw [this] at g2
      exact (g2 (fun z => q (Or.inr z))).1 h0
  unfold hc
  omega
theorem Inv.hle {U : NodV} {V : MemV} {H : OneV} {W : WkV} {n vol t T : Nat} {x : Nat → Nat} (h : Inv U V H W n vol t T x) (e : Nat) : hc V H W e ≤ 200 := by
  have h1 : hcC V e ≤ 64 := cnt_le _ _ _
  have h2 : hcV V e ≤ 3 := cnt_le _ _ _
  have h3 : hcH H e ≤ 6 := cnt_le _ _ _
  have h4 : hcW W e ≤ 4 * 25 := by
    refine sm_le (fun k _ hk => ?_)
    unfold hcK
    by_cases q : bz ((W k).1 0 5) = 0 ∨ bz ((W k).1 0 6) = 0
    · rw [if_pos q]
      omega
    · rw [if_neg q]
      obtain ⟨m, d, l, r, hr, hw⟩ := h.W k (by omega) (fun z => q (Or.inl z))
      have := hw.md
      have := hw.dl
      have := hw.l12
      rw [hw.m, ix_nI (by omega)]
      exact Nat.le_trans (cnt_le _ _ _) (by omega)
  unfold hc
  omega
end
section
/-! A child is added; a free entry goes. -/
theorem fd_none {V : MemV} {p : Nat} {nm : Int32} (h : f_X1_find V (nI p) nm = none) : ∀ f, f < 64 → ¬ V 1 f = 0 → V 2 f = nI p → ¬ V 3 f = nm := by
  intro f hf h1 h2 h3
  have := fst_none h f (Nat.zero_le _) (by omega)
  rw [if_neg h1, if_pos h2, if_pos h3] at this
  cases this
theorem fd_some {V : MemV} {x : Int32} {nm : Int32} {e : Nat} (h : f_X1_find V x nm = some e) : e < 64 ∧ ¬ V 1 e = 0 ∧ V 2 e = x ∧ V 3 e = nm := by
  obtain ⟨_, h2, h3, _⟩ := fst_some h
  by_cases a : V 1 e = 0
  · rw [if_pos a] at h3; cases h3
  · by_cases b : V 2 e = x
    · by_cases c : V 3 e = nm
      · exact ⟨by omega, a, b, c⟩
      · rw [if_neg a, if_pos b, if_neg c] at h3; cases h3
    · rw [if_neg a, if_neg b] at h3; cases h3
theorem i01 : ¬ (0 : Int32) = 1 := by decide
theorem i10 : ¬ (1 : Int32) = 0 := by decide
theorem i12 : ¬ (1 : Int32) = 2 := by decide
theorem i02 : ¬ (0 : Int32) = 2 := by decide
theorem i20 : ¬ (2 : Int32) = 0 := by decide
/-- the node of a root entry -/
theorem MemI.rn {U : NodV} {V : MemV} {n vol : Nat} (h : MemI U V n vol) (hN : NodI U n vol) {f : Nat} (hf : f < 64) (h1 : V 1 f = 1) (h2 : V 2 f = -1) : ∃ v r, v < vol ∧ v < 3 ∧ V 9 v = nI f ∧ r < n ∧ V 4 f = nI r ∧ U 5 v = nI r ∧ U 4 r = 2 ∧ U 2 r = -1 ∧ U 1 r = nI v := by
  obtain ⟨v, v3, hv⟩ := h.ro f hf h1 h2
  rcases h.rt v v3 with ⟨z, _⟩ | ⟨z0, r, r64, z1, z2, z3, z4⟩
  · rw [z] at hv
    exact absurd hv.symm (nI_m1 (by omega))
  · have : r = f := (nI_eq (by omega) (by omega)).mp (z1.symm.trans hv)
    subst this
    obtain ⟨k, k1, k2, k3, k4, k5⟩ := hN.rts v z0
    exact ⟨v, k, z0, v3, hv, k1, z4.trans k2, k2, k3, k4, k5⟩
theorem b_if {a b : Nat} (ha : a < 64) (hb : b < 64) : (if decide (¬ (1 : Int32) = 0 ∧ nI a = nI b) = true then 1 else 0) = if b = a then 1 else 0 := by
  by_cases q : b = a
  · subst q
    simp
  · have : ¬ nI a = nI b := fun z => q ((nI_eq (by omega) (by omega)).mp z).symm
    simp [q, this]
theorem Inv.add {U : NodV} {V : MemV} {H : OneV} {W : WkV} {n vol t T : Nat} {x : Nat → Nat} (h : Inv U V H W n vol t T x) {e : Nat} (lu : f_X1_leastUnused V = some e) {p : Nat} (p64 : p < 64) (hp : V 1 p = 1) (hf : ¬ q_X2_isFolder U (V 4 p) = 0) {nm : Int32} (hn : f_X1_find V (nI p) nm = none) (ht : t + 1 ≤ T) : Inv U (gV_X1_add V (nI p) nm (q_X2_find U (V 4 p) nm)) H W n vol (t + 1) T x := by
  obtain ⟨e64, e0, _⟩ := lu_some lu
  have hpe : p ≠ e := fun q => by rw [q, e0] at hp; exact i01 hp
  have a1 := ad_1 lu (nI p) nm (q_X2_find U (V 4 p) nm)
  have a2 := ad_2 lu (nI p) nm (q_X2_find U (V 4 p) nm)
  have a3 := ad_3 lu (nI p) nm (q_X2_find U (V 4 p) nm)
  have a4 := ad_4 lu (nI p) nm (q_X2_find U (V 4 p) nm)
  have a5 := ad_5 lu (nI p) nm (q_X2_find U (V 4 p) nm) rfl p64 hpe
  have a6 := ad_6 lu (nI p) nm (q_X2_find U (V 4 p) nm)
  have a8 := ad_8 lu (nI p) nm (q_X2_find U (V 4 p) nm)
  have a9 := ad_k lu (nI p) nm (q_X2_find U (V 4 p) nm) 9 (Or.inl rfl)
  have a10 := ad_k lu (nI p) nm (q_X2_find U (V 4 p) nm) 10 (Or.inr rfl)
  have al := ad_0 lu (nI p) nm (q_X2_find U (V 4 p) nm) 11 (by decide) (by decide)
  have at' := ad_t lu (nI p) nm (q_X2_find U (V 4 p) nm)
  have a14 := ad_0 lu (nI p) nm (q_X2_find U (V 4 p) nm) 14 (by decide) (by decide)
  generalize gV_X1_add V (nI p) nm (q_X2_find U (V 4 p) nm) = V' at a1 a2 a3 a4 a5 a6 a8 a9 a10 al at' a14
  have ne1 : ∀ {f : Nat}, V 1 f = 1 → f ≠ e := fun q1 q2 => by rw [q2, e0] at q1; exact i01 q1
  have ne0 : ∀ {f : Nat}, ¬ V 1 f = 0 → f ≠ e := fun q1 q2 => q1 (by rw [q2, e0])
  have hN := h.N
  have hM := h.M
  obtain ⟨kp, kp1, kp2, kp3⟩ := hN.fo hf
  have n60 := hN.n60
  refine ⟨hN, ⟨?_, ?_, ?_, ?_, ?_, ?_, ?_, ?_, ?_, ?_, ?_, ?_⟩, ⟨?_, ht, h.Z.T30, ?_, ?_, ?_⟩, ?_, ?_, ?_⟩
  · intro f hf
    rw [a1]
    split
    · exact Or.inr (Or.inl rfl)
    · exact hM.st f hf
  · rw [a9]; exact hM.r0
  · rw [a10]; exact hM.o0
  · intro v hv
    rw [a9, a10]
    rcases hM.rt v hv with q | ⟨q1, r, r64, q2, q3, q4, q5⟩
    · exact Or.inl q
    · refine Or.inr ⟨q1, r, r64, q2, ?_, ?_, ?_⟩
      · rw [a1, if_neg (ne1 q3)]; exact q3
      · rw [a2, if_neg (ne1 q3)]; exact q4
      · rw [a4, if_neg (ne1 q3)]; exact q5
  · intro v h1 hv
    rw [a9, a10]
    intro q
    obtain ⟨o, o64, z1, z2, z3, z4⟩ := hM.ov v h1 hv q
    refine ⟨o, o64, z1, ?_, ?_, ?_⟩
    · rw [a1, if_neg (ne1 z2)]; exact z2
    · rw [a2, if_neg (ne1 z2)]; exact z3
    · rw [a4, if_neg (ne1 z2)]; exact z4
  · rw [a10]; exact hM.oi
  · obtain ⟨ρ, hρ⟩ := hM.vr
    refine ⟨ρ, fun v o k u h1 h2 h3 h4 h5 => ?_⟩
    rw [a10] at h4
    rw [a4, if_neg (ne1 (hM.ok h2 h3 h4).2.2.1)] at h5
    exact hρ v o k u h1 h2 h3 h4 h5
  · intro f hf q1 q2
    rw [a9]
    rw [a1] at q1
    rw [a2] at q2
    by_cases z : f = e
    · rw [if_pos z] at q2
      exact absurd q2 (nI_m1 (by omega))
    · rw [if_neg z] at q1 q2
      exact hM.ro f hf q1 q2
  · intro f hf q1 q2
    rw [a1] at q1
    rw [a2] at q2
    rw [a2, a3, a4]
    by_cases z : f = e
    · refine ⟨p, p64, by rw [if_pos z], by rw [a1, if_neg hpe]; exact hp, by rw [a4, if_neg hpe]; assumption, ?_⟩
      rw [if_pos z, if_pos z, a4, if_neg hpe]
    · rw [if_neg z] at q1 q2 ⊢
      obtain ⟨p', z1, z2, z3, z4, z5⟩ := hM.ch f hf q1 q2
      refine ⟨p', z1, z2, by rw [a1, if_neg (ne1 z3)]; exact z3, by rw [a4, if_neg (ne1 z3)]; exact z4, ?_⟩
      rw [if_neg z, if_neg z, a4, if_neg (ne1 z3)]
      exact z5
  · intro f hf q1
    rw [a1] at q1
    rw [a2, a4]
    by_cases z : f = e
    · rw [if_pos z] at q1
      exact absurd q1 i12
    · rw [if_neg z] at q1 ⊢
      rw [if_neg z]
      exact hM.go f hf q1
  · intro f g hf hg q1 q2 q3 q4 q5
    rw [a1] at q1 q2
    rw [a2] at q3
    rw [a2, a2] at q4
    rw [a3, a3] at q5
    by_cases z : f = e
    · by_cases z' : g = e
      · rw [z, z']
      · rw [if_pos z, if_neg z'] at q4 q5
        rw [if_neg z'] at q2
        exact absurd q5.symm (fd_none hn g hg (by rw [q2]; exact i10) q4.symm)
    · by_cases z' : g = e
      · rw [if_neg z, if_pos z'] at q4 q5
        rw [if_neg z] at q1
        exact absurd q5 (fd_none hn f hf (by rw [q1]; exact i10) q4)
      · rw [if_neg z] at q1 q3
        rw [if_neg z'] at q2
        rw [if_neg z, if_neg z'] at q4 q5
        exact hM.sb f g hf hg q1 q2 q3 q4 q5
  · have key : ∀ g, g < 64 → ¬ V 1 g = 0 → ¬ q_X2_find U (V 4 p) nm = -1 → ¬ V 4 g = q_X2_find U (V 4 p) nm := by
      intro g hg q1 q2 q3
      rcases hN.fd (V 4 p) nm with ⟨z, _⟩ | ⟨k, k1, k2, k3, k4, k5⟩
      · exact q2 z
      · rw [k2] at q3
        rcases hM.st g hg with z | z | z
        · exact q1 z
        · by_cases w : V 2 g = -1
          · obtain ⟨v, r, _, _, _, r1, r2, _, _, r5, _⟩ := hM.rn hN hg z w
            have : r = k := (nI_eq (by omega) (by omega)).mp (r2.symm.trans q3)
            rw [this, k4, kp2] at r5
            exact absurd r5 (nI_m1 (by omega))
          · obtain ⟨p', p1, p2, p3, p4, p5⟩ := hM.ch g hg z w
            rcases hN.fd (V 4 p') (V 3 g) with ⟨y, _⟩ | ⟨j, j1, j2, j3, j4, j5⟩
            · rw [p5, y] at q3
              exact absurd q3.symm (nI_m1 (by omega))
            · rw [p5, j2] at q3
              have : j = k := (nI_eq (by omega) (by omega)).mp q3
              subst this
              have pp : p' = p := hM.nd p' p p1 p64 (by rw [p3]; exact i10) (by rw [hp]; exact i10) (by
                obtain ⟨kk, kk1, kk2, _⟩ := hN.fo p4
                rw [kk2]; exact nI_m1 (by omega)) (j4.symm.trans k4)
              subst pp
              exact fd_none hn g hg q1 p2 (j5.symm.trans k5)
        · obtain ⟨_, j, j1, j2, j3⟩ := hM.go g hg z
          have : j = k := (nI_eq (by omega) (by omega)).mp (j2.symm.trans q3)
          rw [this] at j3
          exact k3 j3
    intro f g hf hg q1 q2 q3 q4
    rw [a1] at q1 q2
    rw [a4] at q3
    rw [a4, a4] at q4
    by_cases z : f = e
    · by_cases z' : g = e
      · rw [z, z']
      · rw [if_pos z] at q3
        rw [if_pos z, if_neg z'] at q4
        rw [if_neg z'] at q2
        exact absurd q4.symm (key g hg q2 q3)
    · by_cases z' : g = e
      · rw [if_neg z] at q3
        rw [if_neg z, if_pos z'] at q4
        rw [if_neg z] at q1
        exact absurd q4 (key f hf q1 (by rw [← q4]; exact q3))
      · rw [if_neg z] at q1 q3
        rw [if_neg z'] at q2
        rw [if_neg z, if_neg z'] at q4
        exact hM.nd f g hf hg q1 q2 q3 q4
  · rw [at', h.Z.tk, nI_1]
  · intro f hf q1
    rw [a1] at q1
    rw [a8]
    by_cases z : f = e
    · rw [if_pos z]
      exact ⟨t, h.Z.tk, by omega⟩
    · rw [if_neg z] at q1 ⊢
      obtain ⟨b, b1, b2⟩ := h.Z.bi f hf q1
      exact ⟨b, b1, by omega⟩
  · intro f hf q1
    rw [a1] at q1
    rw [a6]
    by_cases z : f = e
    · rw [if_pos z]
      exact ⟨0, rfl, by omega⟩
    · rw [if_neg z] at q1 ⊢
      exact h.Z.co f hf q1
  · exact ⟨by rw [al]; exact h.Z.li, h.Z.tri.one a14 e64 (fun k q => by rw [a1, if_neg q])⟩
  · have hcc : ∀ f, f < 64 → hc V' H W f = hc V H W f + if f = p then 1 else 0 := by
      intro f hf
      have c1 := cnt_one (P := fun k => decide (¬ V 1 k = 0 ∧ V 2 k = nI f)) (P' := fun k => decide (¬ V' 1 k = 0 ∧ V' 2 k = nI f)) (e := e) (n := 64) (k := 0) (Nat.zero_le _) (by omega) (fun i _ _ q => by
        rw [a1, a2, if_neg q, if_neg q])
      rw [a1, a2, if_pos rfl, if_pos rfl, e0] at c1
      have c2 : (if decide (¬ (0 : Int32) = 0 ∧ V 2 e = nI f) = true then 1 else 0) = 0 := by simp
      have c3 : (if decide (¬ (1 : Int32) = 0 ∧ nI p = nI f) = true then 1 else 0) = if f = p then 1 else 0 := b_if p64 hf
      rw [c2, c3, Nat.add_zero] at c1
      unfold hc
      have c4 : hcC V' f = hcC V f + if f = p then 1 else 0 := by
        unfold hcC
        exact c1
      rw [c4, show hcV V' f = hcV V f by unfold hcV; rw [a10]]
      omega
    intro f hf
    have hL := h.L f hf
    rw [a1, a5, hcc f hf]
    by_cases z : f = e
    · subst z
      have x0 := hL.1 e0
      rw [if_pos rfl, if_pos rfl, h.un hf e0, x0, if_neg (Ne.symm hpe)]
      exact ⟨fun q => absurd q i10, by omega, fun _ => ⟨rfl, fun q => absurd q i12⟩⟩
    · rw [if_neg z, if_neg z]
      refine ⟨hL.1, hL.2.1, fun q => ?_⟩
      have hL2 := hL.2.2 q
      by_cases zp : f = p
      · rw [if_pos zp, if_pos zp, ← zp, hL2.1, nI_1]
        refine ⟨by congr 1; omega, fun q => by omega⟩
      · rw [if_neg zp, if_neg zp]
        exact ⟨by rw [hL2.1, Nat.add_zero], fun q => by have := hL2.2 q; omega⟩
  · intro k hk
    rcases h.H k hk with z | ⟨f, f64, z1, z2, z3⟩
    · exact Or.inl z
    · refine Or.inr ⟨f, f64, z1, ?_, ?_⟩
      · rw [a1, if_neg (ne0 z2)]; exact z2
      · rw [a4, if_neg (ne0 z2)]; exact z3
  · intro k hk q
    obtain ⟨m, d, l, r, hr, hw⟩ := h.W k hk q
    refine ⟨m, d, l, r, hr, hw.m, hw.d, hw.l, hw.r, hw.m1, hw.md, hw.dl, hw.l12, hw.r3, fun i hi => ?_⟩
    obtain ⟨f, f64, g1, ⟨b1, c1, g2, g3, g4, g5, g6⟩, g7⟩ := (hw.wy i hi).ex
    refine ⟨f, f64, g1, ⟨b1, c1, g2, by omega, g4, g5, ?_⟩, ?_⟩
    · intro q1 q2
      rw [a8] at q2
      by_cases z : f = e
      · rw [if_pos z, h.Z.tk, g2, nI_eq (by have := h.Z.T30; have := h.Z.tT; omega) (by have := h.Z.T30; have := h.Z.tT; omega)] at q2
        omega
      · rw [if_neg z] at q2
        rw [a1, if_neg z] at q1
        rw [a6, a1, a4, if_neg z, if_neg z, if_neg z]
        exact g6 q1 q2
    · intro q1
      have := g7 q1
      rw [a1, a4, if_neg (ne0 this.1), if_neg (ne0 this.1)]
      exact this
end
section
/-! A free entry goes. -/
theorem hc_z {V : MemV} {H : OneV} {W : WkV} {e : Nat} (h : hc V H W e = 0) : (∀ k, k < 64 → ¬ V 1 k = 0 → ¬ V 2 k = nI e) ∧ (∀ v, v < 3 → ¬ V 10 v = nI e) ∧ (∀ k, k < 6 → ¬ H 0 k = nI e) ∧ ∀ k, k < 4 → hcK (W k) e = 0 := by
  unfold hc at h
  refine ⟨fun k hk q1 q2 => ?_, fun v hv q => ?_, fun k hk q => ?_, fun k hk => ?_⟩
  · have := cnt_z (show hcC V e = 0 by omega) k (Nat.zero_le _) (by omega)
    simp [q1, q2] at this
  · have := cnt_z (show hcV V e = 0 by omega) v (Nat.zero_le _) (by omega)
    simp [q] at this
  · have := cnt_z (show hcH H e = 0 by omega) k (Nat.zero_le _) (by omega)
    simp [q] at this
  · exact sm_z (show hcW W e = 0 by omega) k (Nat.zero_le _) (by omega)
theorem Inv.drop {U : NodV} {V : MemV} {H : OneV} {W : WkV} {n vol t T : Nat} {x : Nat → Nat} (h : Inv U V H W n vol t T x) {e : Nat} (e64 : e < 64) (e1 : V 1 e = 1) (e2 : ¬ V 2 e = -1) (hz : hc V H W e = 0) (xz : x e = 0) : Inv U (gV_X1_drop V (nI e)) H W n vol t T x := by
  have hN := h.N
  have hM := h.M
  have n60 := hN.n60
  obtain ⟨p, p64, ep, p1, p2, p3⟩ := hM.ch e e64 e1 e2
  obtain ⟨z1, z2, z3, z4⟩ := hc_z hz
  have hpe : p ≠ e := fun q => by
    rw [q] at ep
    exact z1 e e64 (by rw [e1]; exact i10) ep
  have k : ∀ r : Fin 12, r ≠ 1 → r ≠ 5 → gV_X1_drop V (nI e) r = V r := dr_k V (nI e)
  have a1 := dr_1 V e64
  have a5 := dr_5 V e64 ep p64
  have a2 := k 2 (by decide) (by decide)
  have a3 := k 3 (by decide) (by decide)
  have a4 := k 4 (by decide) (by decide)
  have a6 := k 6 (by decide) (by decide)
  have a8 := k 8 (by decide) (by decide)
  have a9 := k 9 (by decide) (by decide)
  have a10 := k 10 (by decide) (by decide)
  have a0 := k 0 (by decide) (by decide)
  generalize gV_X1_drop V (nI e) = V' at a1 a2 a3 a4 a5 a6 a8 a9 a10 a0
  have back : ∀ {f : Nat} {y : Int32}, ¬ y = 0 → V' 1 f = y → f ≠ e ∧ V 1 f = y := fun {f y} q1 q2 => by
    rw [a1] at q2
    by_cases w : f = e
    · rw [if_pos w] at q2
      exact absurd q2.symm q1
    · rw [if_neg w] at q2
      exact ⟨w, q2⟩
  have back0 : ∀ {f : Nat}, ¬ V' 1 f = 0 → f ≠ e ∧ ¬ V 1 f = 0 := fun {f} q2 => by
    rw [a1] at q2
    by_cases w : f = e
    · rw [if_pos w] at q2
      exact absurd rfl q2
    · rw [if_neg w] at q2
      exact ⟨w, q2⟩
  refine ⟨hN, ⟨?_, ?_, ?_, ?_, ?_, ?_, ?_, ?_, ?_, ?_, ?_, ?_⟩, ⟨?_, h.Z.tT, h.Z.T30, ?_, ?_, ?_⟩, ?_, ?_, ?_⟩
  · intro f hf
    rw [a1]
    split
    · exact Or.inl rfl
    · exact hM.st f hf
  · rw [a9]; exact hM.r0
  · rw [a10]; exact hM.o0
  · intro v hv
    rw [a9, a10, a2, a4]
    rcases hM.rt v hv with q | ⟨q1, r, r64, q2, q3, q4, q5⟩
    · exact Or.inl q
    · refine Or.inr ⟨q1, r, r64, q2, ?_, q4, q5⟩
      rw [a1, if_neg (fun w => e2 (by rw [← w]; exact q4))]
      exact q3
  · intro v h1 hv
    rw [a9, a10, a2, a4]
    intro q
    obtain ⟨o, o64, w1, w2, w3, w4⟩ := hM.ov v h1 hv q
    refine ⟨o, o64, w1, ?_, w3, w4⟩
    rw [a1, if_neg (fun w => z2 v hv (by rw [← w]; exact w1))]
    exact w2
  · rw [a10]; exact hM.oi
  · rw [a10, a4]; exact hM.vr
  · intro f hf q1 q2
    rw [a9]
    rw [a2] at q2
    exact hM.ro f hf (back i10 q1).2 q2
  · intro f hf q1 q2
    rw [a2] at q2
    rw [a2, a3, a4]
    obtain ⟨w0, w1⟩ := back i10 q1
    obtain ⟨p', y1, y2, y3, y4, y5⟩ := hM.ch f hf w1 q2
    refine ⟨p', y1, y2, ?_, y4, y5⟩
    rw [a1, if_neg (fun w => z1 f hf (by rw [w1]; exact i10) (by rw [← w]; exact y2))]
    exact y3
  · intro f hf q1
    rw [a2, a4]
    exact hM.go f hf (back i20 q1).2
  · intro f g hf hg q1 q2
    rw [a2, a3]
    exact hM.sb f g hf hg (back i10 q1).2 (back i10 q2).2
  · intro f g hf hg q1 q2
    rw [a4]
    exact hM.nd f g hf hg (back0 q1).2 (back0 q2).2
  · rw [a0]; exact h.Z.tk
  · intro f hf q1
    rw [a8]
    exact h.Z.bi f hf (back0 q1).2
  · intro f hf q1
    rw [a6]
    exact h.Z.co f hf (back0 q1).2
  · exact ⟨by rw [a0]; exact h.Z.li, h.Z.tri.le (by rw [a0]) (fun k _ q => (back0 q).2) (Nat.le_refl _)⟩
  · have hcc : ∀ f, f < 64 → hc V' H W f + (if f = p then 1 else 0) = hc V H W f := by
      intro f hf
      have c1 := cnt_one (P := fun k => decide (¬ V 1 k = 0 ∧ V 2 k = nI f)) (P' := fun k => decide (¬ V' 1 k = 0 ∧ V' 2 k = nI f)) (e := e) (n := 64) (k := 0) (Nat.zero_le _) (by omega) (fun i _ _ q => by
        rw [a1, a2, if_neg q])
      rw [a1, if_pos rfl, e1, ep] at c1
      have c2 : (if decide (¬ (0 : Int32) = 0 ∧ V' 2 e = nI f) = true then 1 else 0) = 0 := by simp
      have c3 : (if decide (¬ (1 : Int32) = 0 ∧ nI p = nI f) = true then 1 else 0) = if f = p then 1 else 0 := b_if p64 hf
      rw [c2, c3, Nat.add_zero] at c1
      unfold hc
      rw [show hcV V' f = hcV V f by unfold hcV; rw [a10]]
      have c4 : hcC V' f + (if f = p then 1 else 0) = hcC V f := by
        unfold hcC
        exact c1
      omega
    intro f hf
    have hL := h.L f hf
    have hcf := hcc f hf
    by_cases z : f = e
    · subst z
      rw [a1, if_pos rfl]
      exact ⟨fun _ => xz, hL.2.1, fun q => absurd rfl q⟩
    · rw [a1, a5, if_neg z]
      refine ⟨hL.1, hL.2.1, fun q => ?_⟩
      have hL2 := hL.2.2 q
      by_cases zp : f = p
      · rw [if_pos zp] at hcf ⊢
        subst zp
        rw [hL2.1, ← hcf]
        refine ⟨?_, fun q => ?_⟩
        · rw [show hc V' H W f + 1 + x f = (hc V' H W f + x f) + 1 by omega, nI_pred]
        · rw [p1] at q
          exact absurd q i12
      · rw [if_neg zp] at hcf ⊢
        rw [show hc V' H W f = hc V H W f by omega]
        exact hL2
  · intro k hk
    rcases h.H k hk with z | ⟨f, f64, w1, w2, w3⟩
    · exact Or.inl z
    · refine Or.inr ⟨f, f64, w1, ?_, ?_⟩
      · rw [a1, if_neg (fun w => z3 k hk (by rw [← w]; exact w1))]; exact w2
      · rw [a4]; exact w3
  · intro k hk q
    obtain ⟨m, d, l, r, hr, hw⟩ := h.W k hk q
    have := hw.md
    have := hw.dl
    have := hw.l12
    refine ⟨m, d, l, r, hr, hw.m, hw.d, hw.l, hw.r, hw.m1, hw.md, hw.dl, hw.l12, hw.r3, fun i hi => ?_⟩
    obtain ⟨f, f64, g1, ⟨b1, c1, g2, g3, g4, g5, g6⟩, g7⟩ := (hw.wy i hi).ex
    refine ⟨f, f64, g1, ⟨b1, c1, g2, g3, g4, g5, ?_⟩, ?_⟩
    · intro q1 q2
      rw [a8] at q2
      obtain ⟨y1, y2⟩ := back0 q1
      rw [a6, a1, a4, if_neg y1]
      exact g6 y2 q2
    · intro q1
      have y := g7 q1
      have yne : f ≠ e := fun w => hcK_z hw.m (by omega) q q1 (z4 k hk) i hi (by rw [← w]; exact g1)
      rw [a1, a4, if_neg yne]
      exact y
end

/-! A world's walkers, by hand. -/
def WksL (J : MJ) (z w : Nat) : Prop := ((13 ≤ (jS J z).1 ∧ (jS J z).1 ≤ 16) ∧ (jS J z).2 = 4) ∧ ∀ k, k < 4 → jR J z k = some (w + 6 * k) ∧ WalL J (w + 6 * k) (w + 6 * k + 1) (w + 6 * k + 3) ∧ RouL J (w + 6 * k + 1) 12 ∧ BufL J (w + 6 * k + 3)
theorem WksL.s {J : MJ} {z w : Nat} (h : WksL J z w) : jS J z = ((jS J z).1, 4) := by
  have := h.1.2
  rw [← this]
theorem WksL.a {J : MJ} {z w : Nat} (h : WksL J z w) (I : MI) : aln (I, J) z = some 4 := aln_ok h.s (by have := h.1.1; omega)
theorem WksL.l {J : MJ} {z w : Nat} (h : WksL J z w) (I : MI) {x : Int32} (hx : inb x 4) (hk : ix x < 4) : ldR (I, J) z x = some (some (w + 6 * ix x)) := by
  rw [ldR_ok x h.s h.1.1 hx]
  exact congrArg some (h.2 _ hk).1
theorem inb_ix {x : Int32} {n : Nat} {m : Int32} (hm : m.toInt = n) (h1 : ¬ x < 0) (h2 : ¬ m ≤ x) : ix x < n := by
  have a := i32_le.mp (Int32.not_lt.mp h1)
  have b := i32_lt.mp (Int32.not_le.mp h2)
  rw [hm] at b
  have e0 : (0 : Int32).toInt = 0 := rfl
  rw [e0] at a
  show x.toInt.toNat < n
  omega
theorem cR_s (b : Nat) (x y : Option MO) : cR (some b) x y = y := rfl
theorem cR_n (x y : Option MO) : cR none x y = x := rfl
def wz (I : MI) (w k : Nat) : Int32 := bz (I (w + 6 * k) 5)
def q_X8_walkerAt (I : MI) (w : Nat) (x : Int32) : Option Nat := if x < 0 then none else if (4 : Int32) ≤ x then none else if wz I w (ix x) = 0 then none else some (w + 6 * ix x)
theorem t_X8_walkerAt {J : MJ} {o n m g z w : Nat} (hO : WorL J o n m g z) (hW : WksL J z w) (I : MI) (x1 : Int32) : M_X8_walkerAt [mR (some o), mI x1] (I, J) = some (some (mR (q_X8_walkerAt I w x1)), (I, J)) := by
  rw [E_X8_walkerAt]
  unfold q_X8_walkerAt
  by_cases a : x1 < 0
  · rw [if_pos a, if_pos a]
  · rw [if_neg a, if_neg a, fR_ok 3 hO.k, Option.bind_some, hO.r3, Option.bind_some, hW.a, Option.bind_some]
    by_cases b : (4 : Int32) ≤ x1
    · rw [if_pos b, if_pos b]
    · rw [if_neg b, if_neg b, Option.bind_some, Option.bind_some]
      have hx := inb_ix (n := 4) rfl a b
      simp only [hW.l I (inb_of rfl a b) hx, Option.bind_some, cR_s, fZ_ok 5 (hW.2 _ hx).2.1.k]
      unfold wz
      by_cases c : bz (I (w + 6 * ix x1) 5) = 0
      · rw [if_pos c, if_pos c]
      · rw [if_neg c, if_neg c]
def f_X8_freeWalker (I : MI) (w : Nat) : Option Nat := fst? (fun k => decide (wz I w k = 0)) 0 4
def q_X8_freeWalker (I : MI) (w : Nat) : Int32 := oI (f_X8_freeWalker I w)
theorem t_X8_freeWalker {J : MJ} {o n m g z w : Nat} (hO : WorL J o n m g z) (hW : WksL J z w) (I : MI) : M_X8_freeWalker [mR (some o)] (I, J) = some (some (mI (q_X8_freeWalker I w)), (I, J)) := by
  rw [E_X8_freeWalker]
  have step := loop_find (fun k => Ev T_X8_freeWalker 2 [some (mR (some o)), some (mI (nI k))] [] (I, J)) (fun k => decide (wz I w k = 0)) (fun k => some (some (mI (nI k)), (I, J))) 4 (fun k hk => by
    have hx : ix (nI k) = k := ix_nI (by omega)
    try dsimp only
    rw [E_X8_freeWalker_2, fR_ok 3 hO.k, Option.bind_some, hO.r3, Option.bind_some, hW.a, Option.bind_some, if_neg (show ¬ (4 : Int32) ≤ nI k from nI_ge hk (by decide)), Option.bind_some, Option.bind_some]
    simp only [hW.l I (inb_nI hk (by decide)) (by rw [hx]; exact hk), Option.bind_some, cR_s, hx, fZ_ok 5 (hW.2 k hk).2.1.k, nI_1]
    show (if wz I w k = 0 then _ else _) = _
    by_cases c : wz I w k = 0
    · simp [c]
    · simp [c]) 4 0 (by omega)
  have hend : Ev T_X8_freeWalker 2 [some (mR (some o)), some (mI (nI 4))] [] (I, J) = some (some (mI (-1)), (I, J)) := by
    rw [E_X8_freeWalker_2, fR_ok 3 hO.k, Option.bind_some, hO.r3, Option.bind_some, hW.a, Option.bind_some, if_pos (show (4 : Int32) ≤ nI 4 by decide)]
  try dsimp only at step
  rw [show (nI 0) = 0 from rfl] at step
  rw [step]
  unfold q_X8_freeWalker f_X8_freeWalker
  cases fst? (fun k => decide (wz I w k = 0)) 0 4 with
  | none => exact hend
  | some j => rfl
def q_X8_walkersUnderWay (I : MI) (w : Nat) : Int32 := nI (cnt (fun k => decide (¬ wz I w k = 0)) 0 4)
theorem t_X8_walkersUnderWay {J : MJ} {o n m g z w : Nat} (hO : WorL J o n m g z) (hW : WksL J z w) (I : MI) : M_X8_walkersUnderWay [mR (some o)] (I, J) = some (some (mI (q_X8_walkersUnderWay I w)), (I, J)) := by
  rw [E_X8_walkersUnderWay]
  have step := loop_cnt (fun k c => Ev T_X8_walkersUnderWay 4 [some (mR (some o)), some (mI (nI c)), some (mI (nI k))] [] (I, J)) (fun k => decide (¬ wz I w k = 0)) 4 (fun k c hk => by
    have hx : ix (nI k) = k := ix_nI (by omega)
    try dsimp only
    rw [E_X8_walkersUnderWay_4, fR_ok 3 hO.k, Option.bind_some, hO.r3, Option.bind_some, hW.a, Option.bind_some, if_neg (show ¬ (4 : Int32) ≤ nI k from nI_ge hk (by decide)), if_pos (show kd (I, J) o = 8 from hO.k), t_X8_walkerAt hO hW I]
    simp only [Option.bind_some, asR_R]
    unfold q_X8_walkerAt
    rw [if_neg (nI_pos (by omega)), if_neg (show ¬ (4 : Int32) ≤ nI k from nI_ge hk (by decide)), hx]
    by_cases c : wz I w k = 0
    · simp [c, cR_n, nI_1]
    · simp [c, cR_s, nI_1]) 4 0 0 (by omega)
  try dsimp only at step
  rw [show (nI 0) = 0 from rfl] at step
  rw [step, E_X8_walkersUnderWay_4, fR_ok 3 hO.k, Option.bind_some, hO.r3, Option.bind_some, hW.a, Option.bind_some, if_pos (show (4 : Int32) ≤ nI 4 by decide), Nat.zero_add]
  rfl
/-- the heap when walker k has begun -/
def bgn (I : MI) (r2 L2 w m k : Nat) : MI := pt (pt (pt (pt I (w + 6 * k) (gK_X7_start L2 12 (vw 2 I r2) (vw 1 I (w + 6 * k)) (vw 2 I (w + 6 * k + 1)) (vw 3 I (w + 6 * k + 3)) (vw 12 I m))) (w + 6 * k + 1) (gP_X7_start L2 12 (vw 2 I r2) (vw 1 I (w + 6 * k)) (vw 2 I (w + 6 * k + 1)) (vw 3 I (w + 6 * k + 3)) (vw 12 I m))) (w + 6 * k + 3) (gB_X7_start L2 12 (vw 2 I r2) (vw 1 I (w + 6 * k)) (vw 2 I (w + 6 * k + 1)) (vw 3 I (w + 6 * k + 3)) (vw 12 I m))) m (gV_X7_start L2 12 (vw 2 I r2) (vw 1 I (w + 6 * k)) (vw 2 I (w + 6 * k + 1)) (vw 3 I (w + 6 * k + 3)) (vw 12 I m))
def h_X8_beginWalk (I : MI) (r2 L2 w m : Nat) : MI := match f_X8_freeWalker I w with
  | some k => bgn I r2 L2 w m k
  | none => I
theorem t_X8_beginWalk {J : MJ} {o n m g z w r2 L2 : Nat} (hO : WorL J o n m g z) (hW : WksL J z w) (hM : MemL J m n) (hP2 : RouL J r2 L2) (d1 : r2 + 2 ≤ w ∨ w + 24 ≤ r2) (d2 : r2 + 2 ≤ m ∨ m + 12 ≤ r2) (d3 : w + 24 ≤ m ∨ m + 12 ≤ w) (I : MI) : M_X8_beginWalk [mR (some o), mR (some r2)] (I, J) = some (some (mI (q_X8_freeWalker I w)), (h_X8_beginWalk I r2 L2 w m, J)) := by
  rw [E_X8_beginWalk, if_pos (show kd (I, J) o = 8 from hO.k), t_X8_freeWalker hO hW I]
  simp only [Option.bind_some, asI_I]
  unfold q_X8_freeWalker h_X8_beginWalk
  cases hf : f_X8_freeWalker I w with
  | none =>
    show (if (-1 : Int32) < 0 then _ else _) = _
    rw [if_pos (by decide)]
    rfl
  | some k =>
    have hk : k < 4 := by
      have := fst_some hf
      omega
    have hx : ix (nI k) = k := ix_nI (by omega)
    have hq := hW.2 k hk
    have e : oI (some k) = nI k := rfl
    rw [e, if_neg (nI_pos (by omega))]
    simp only [fR_ok 3 hO.k, fR_ok 1 hO.k, hO.r3, hO.r1, Option.bind_some, hW.a, if_neg (show ¬ (4 : Int32) ≤ nI k from nI_ge hk (by decide)), hW.l I (inb_nI hk (by decide)) (by rw [hx]; exact hk), cR_s, hx]
    rw [if_pos (show kd (I, J) (w + 6 * k) = 7 from hq.2.1.k), t_X7_start hP2 hq.2.1 hq.2.2.1 hq.2.2.2 hM (by omega) (by omega) (by omega) d2 (by omega) (by omega) (by omega) (by omega) (by omega) (by omega) I]
    rfl
/-- the heap when a world has been started with other nodes -/
def h_X8_startWith (I : MI) (n2 n m g w : Nat) : MI := itr (fun k I => up2 I (w + 6 * k) 5 0) 0 4 (fun x y => if x = g ∧ y < 6 then (-1) else (pt (pt I n (gU_X2_copyFrom (vw 6 I n2) (vw 6 I n))) m (gV_X1_startAnew (gU_X2_copyFrom (vw 6 I n2) (vw 6 I n)) (vw 12 I m))) x y)
theorem t_X8_startWith {J : MJ} {o n m g z w n2 : Nat} (hO : WorL J o n m g z) (hH : HanL J g) (hW : WksL J z w) (hN2 : NodL J n2) (hN : NodL J n) (hM : MemL J m n) (d1 : n2 + 6 ≤ n ∨ n + 6 ≤ n2) (d2 : n + 6 ≤ m ∨ m + 12 ≤ n) (I : MI) : M_X8_startWith [mR (some o), mR (some n2)] (I, J) = some (none, (h_X8_startWith I n2 n m g w, J)) := by
  rw [E_X8_startWith]
  simp only [fR_ok 0 hO.k, fR_ok 1 hO.k, fR_ok 2 hO.k, hO.r0, hO.r1, hO.r2, Option.bind_some]
  rw [if_pos (show kd (I, J) n = 2 from hN.k), t_X2_copyFrom hN2 hN d1 I]
  simp only [Option.bind_some, asV_n, fR_ok 1 hO.k, fR_ok 2 hO.k, hO.r1, hO.r2]
  rw [if_pos (show kd (pt I n (gU_X2_copyFrom (vw 6 I n2) (vw 6 I n)), J) m = 1 from hM.k), t_X1_startAnew hN hM d2, vw_pt, vw_out I _ (Or.symm d2)]
  simp only [Option.bind_some, asV_n, fR_ok 2 hO.k, hO.r2]
  rw [fill_s hH.s0 (by decide)]
  simp only [Option.bind_some, asV_n]
  unfold h_X8_startWith
  generalize (fun x y => if x = g ∧ y < 6 then (-1 : Int32) else (pt (pt I n (gU_X2_copyFrom (vw 6 I n2) (vw 6 I n))) m (gV_X1_startAnew (gU_X2_copyFrom (vw 6 I n2) (vw 6 I n)) (vw 12 I m))) x y) = I1
  have step := loop_all (fun k I => Ev T_X8_startWith 25 [some (mR (some o)), none, some (mI (nI k))] [] (I, J)) (fun k I => up2 I (w + 6 * k) 5 0) 4 I1 (fun k I hk => by
    have hx : ix (nI k) = k := ix_nI (by omega)
    try dsimp only
    rw [E_X8_startWith_25]
    simp only [fR_ok 3 hO.k, hO.r3, Option.bind_some, hW.a, if_neg (show ¬ (4 : Int32) ≤ nI k from nI_ge hk (by decide)), hW.l I (inb_nI hk (by decide)) (by rw [hx]; exact hk), cR_s, hx, wZ_ok 5 0 (hW.2 k hk).2.1.k (Or.inl rfl), nI_1])
  try dsimp only at step
  rw [show (nI 0) = 0 from rfl] at step
  rw [step, E_X8_startWith_25]
  simp only [fR_ok 3 hO.k, hO.r3, Option.bind_some, hW.a]
  rw [if_pos (show (4 : Int32) ≤ nI 4 by decide)]
/-- walker k of one world as that of another -/
def cpw (w2 w k : Nat) (I : MI) : MI := pt (pt (pt I (w + 6 * k) (gK_X7_copyFrom 12 12 (vw 1 I (w2 + 6 * k)) (vw 2 I (w2 + 6 * k + 1)) (vw 3 I (w2 + 6 * k + 3)) (vw 1 I (w + 6 * k)) (vw 2 I (w + 6 * k + 1)) (vw 3 I (w + 6 * k + 3)))) (w + 6 * k + 1) (gP_X7_copyFrom 12 12 (vw 1 I (w2 + 6 * k)) (vw 2 I (w2 + 6 * k + 1)) (vw 3 I (w2 + 6 * k + 3)) (vw 1 I (w + 6 * k)) (vw 2 I (w + 6 * k + 1)) (vw 3 I (w + 6 * k + 3)))) (w + 6 * k + 3) (gB_X7_copyFrom 12 12 (vw 1 I (w2 + 6 * k)) (vw 2 I (w2 + 6 * k + 1)) (vw 3 I (w2 + 6 * k + 3)) (vw 1 I (w + 6 * k)) (vw 2 I (w + 6 * k + 1)) (vw 3 I (w + 6 * k + 3)))
/-- the heap when a world has become as another -/
def h_X8_copyFrom (I : MI) (n2 m2 g2 w2 n m g w : Nat) : MI := itr (cpw w2 w) 0 4 (fun x y => if x = g ∧ y < 6 then I g2 y else (pt (pt I n (gU_X2_copyFrom (vw 6 I n2) (vw 6 I n))) m (gV_X1_copyFrom (vw 12 I m2) (vw 12 I m))) x y)
theorem t_X8_copyFrom {J : MJ} {o2 n2 m2 g2 z2 w2 o n m g z w : Nat} (hO2 : WorL J o2 n2 m2 g2 z2) (hH2 : HanL J g2) (hW2 : WksL J z2 w2) (hN2 : NodL J n2) (hM2 : MemL J m2 n2) (hO : WorL J o n m g z) (hH : HanL J g) (hW : WksL J z w) (hN : NodL J n) (hM : MemL J m n)
    (d1 : n2 + 6 ≤ n ∨ n + 6 ≤ n2) (d2 : m2 + 12 ≤ m ∨ m + 12 ≤ m2) (d3 : n + 6 ≤ m ∨ m + 12 ≤ n) (d4 : n + 6 ≤ m2 ∨ m2 + 12 ≤ n) (d5 : n + 6 ≤ g2 ∨ g2 + 1 ≤ n) (d6 : m + 12 ≤ g2 ∨ g2 + 1 ≤ m) (d7 : g2 ≠ g) (d8 : w2 + 24 ≤ w ∨ w + 24 ≤ w2) (I : MI) : M_X8_copyFrom [mR (some o), mR (some o2)] (I, J) = some (none, (h_X8_copyFrom I n2 m2 g2 w2 n m g w, J)) := by
  rw [E_X8_copyFrom]
  simp only [fR_ok 0 hO.k, fR_ok 0 hO2.k, hO.r0, hO2.r0, Option.bind_some]
  rw [if_pos (show kd (I, J) n = 2 from hN.k), t_X2_copyFrom hN2 hN d1 I]
  simp only [Option.bind_some, asV_n, fR_ok 1 hO.k, fR_ok 1 hO2.k, hO.r1, hO2.r1]
  rw [if_pos (show kd (pt I n (gU_X2_copyFrom (vw 6 I n2) (vw 6 I n)), J) m = 1 from hM.k), t_X1_copyFrom hM2 hM d2, vw_out I _ (Or.symm d4), vw_out I _ (Or.symm d3)]
  simp only [Option.bind_some, asV_n, fR_ok 2 hO.k, fR_ok 2 hO2.k, hO.r2, hO2.r2]
  rw [cpy_ok hH2.s0 hH.s0 (by decide) d7 6 rfl]
  simp only [Option.bind_some]
  have e : ∀ y, (pt (pt I n (gU_X2_copyFrom (vw 6 I n2) (vw 6 I n))) m (gV_X1_copyFrom (vw 12 I m2) (vw 12 I m))) g2 y = I g2 y := by
    intro y
    rw [pt_out (x := g2) (a := m) (by omega), pt_out (x := g2) (a := n) (by omega)]
  simp only [e]
  unfold h_X8_copyFrom
  generalize (fun x y => if x = g ∧ y < 6 then I g2 y else (pt (pt I n (gU_X2_copyFrom (vw 6 I n2) (vw 6 I n))) m (gV_X1_copyFrom (vw 12 I m2) (vw 12 I m))) x y) = I1
  have step := loop_all (fun k I => Ev T_X8_copyFrom 39 [some (mR (some o)), some (mR (some o2)), some (mI (nI k))] [] (I, J)) (cpw w2 w) 4 I1 (fun k I hk => by
    have hx : ix (nI k) = k := ix_nI (by omega)
    have q := hW.2 k hk
    have q2 := hW2.2 k hk
    try dsimp only
    rw [E_X8_copyFrom_39]
    simp only [fR_ok 3 hO.k, hO.r3, fR_ok 3 hO2.k, hO2.r3, Option.bind_some, hW.a, hW2.a, if_neg (show ¬ (4 : Int32) ≤ nI k from nI_ge hk (by decide)), hW.l I (inb_nI hk (by decide)) (by rw [hx]; exact hk), hW2.l I (inb_nI hk (by decide)) (by rw [hx]; exact hk), cR_s, hx, nI_1]
    rw [if_pos (show kd (I, J) (w + 6 * k) = 7 from q.2.1.k), t_X7_copyFrom q2.2.1 q2.2.2.1 q2.2.2.2 q.2.1 q.2.2.1 q.2.2.2 (by omega) (by omega) (by omega) (by omega) (by omega) (by omega) (by omega) (by omega) (by omega) (by omega) (by omega) (by omega) (by omega) (by omega) (by omega) I]
    rfl)
  try dsimp only at step
  rw [show (nI 0) = 0 from rfl] at step
  rw [step, E_X8_copyFrom_39]
  simp only [fR_ok 3 hO.k, hO.r3, Option.bind_some, hW.a]
  rw [if_pos (show (4 : Int32) ≤ nI 4 by decide)]

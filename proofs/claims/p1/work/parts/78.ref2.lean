/-! The reference: what is found in its row. -/
def chQ (D : Nat → Int32) (x1 x2 : Int32) : Option Nat := fst? (fun e => decide (D (701 + 9 * e + 0) = 1 ∧ D (701 + 9 * e + 1) = x1 ∧ D (701 + 9 * e + 2) = x2)) 0 128
theorem w_childHere {J : MJ} (h : RefL J) (I : MI) (x1 x2 : Int32) : M_X10_childHere [mR (some 188), mI x1, mI x2] (I, J) = some (some (mI (oI (chQ (I 194) x1 x2))), (I, J)) := by
  have k10 : kd (I, J) 188 = 10 := h.k
  rw [E_X10_childHere]
  have step := loop_find (fun k => Ev T_X10_childHere 2 [some (mR (some 188)), some (mI x1), some (mI x2), some (mI (nI k))] [] (I, J)) (fun e => decide (I 194 (701 + 9 * e + 0) = 1 ∧ I 194 (701 + 9 * e + 1) = x1 ∧ I 194 (701 + 9 * e + 2) = x2)) (fun k => some (some (mI (nI k)), (I, J))) 128 (fun k hk => by
    try dsimp only
    rw [E_X10_childHere_2, if_neg (show ¬ (128 : Int32) ≤ nI k from nI_ge hk (by decide))]
    simp only [if_pos k10, w_its h I 0 (show (0 : Int32) = nI 0 from rfl) hk (by decide), w_its h I 1 (show (1 : Int32) = nI 1 from rfl) hk (by decide), w_its h I 2 (show (2 : Int32) = nI 2 from rfl) hk (by decide), Option.bind_some, asI_I, nI_1]
    by_cases a : I 194 (701 + 9 * k + 0) = 1
    · by_cases b : I 194 (701 + 9 * k + 1) = x1
      · by_cases c : I 194 (701 + 9 * k + 2) = x2
        · rw [if_pos a, if_pos b, if_pos c, if_pos (by simp only [decide_eq_true_eq]; exact ⟨a, b, c⟩)]
        · rw [if_pos a, if_pos b, if_neg c, if_neg (by simp only [decide_eq_true_eq]; exact fun q => c q.2.2)]
      · rw [if_pos a, if_neg b, if_neg (by simp only [decide_eq_true_eq]; exact fun q => b q.2.1)]
    · rw [if_neg a, if_neg (by simp only [decide_eq_true_eq]; exact fun q => a q.1)]) 128 0 (by omega)
  try dsimp only at step
  rw [show (nI 0) = 0 from rfl] at step
  rw [step]
  unfold chQ
  cases fst? (fun e => decide (I 194 (701 + 9 * e + 0) = 1 ∧ I 194 (701 + 9 * e + 1) = x1 ∧ I 194 (701 + 9 * e + 2) = x2)) 0 128 with
  | none =>
    show Ev T_X10_childHere 2 _ [] (I, J) = _
    rw [E_X10_childHere_2, if_pos (show (128 : Int32) ≤ nI 128 by decide)]
    rfl
  | some j => rfl
def ndQ (D : Nat → Int32) (n : Nat) (x1 x2 : Int32) : Option Nat := fst? (fun e => decide (D (401 + 5 * e + 4) = 1 ∧ D (401 + 5 * e + 2) = x1 ∧ D (401 + 5 * e + 3) = x2)) 0 n
theorem w_nodeIn {J : MJ} (h : RefL J) (I : MI) {n : Nat} (hn : I 194 4 = nI n) (hn60 : n ≤ 60) (x1 x2 : Int32) : M_X10_nodeIn [mR (some 188), mI x1, mI x2] (I, J) = some (some (mI (oI (ndQ (I 194) n x1 x2))), (I, J)) := by
  have k10 : kd (I, J) 188 = 10 := h.k
  have l4 : ld (I, J) 11 194 4 = some (nI n) := by rw [← hn]; exact ld194 h I (k := 4) (by decide)
  rw [E_X10_nodeIn]
  have step := loop_find (fun k => Ev T_X10_nodeIn 2 [some (mR (some 188)), some (mI x1), some (mI x2), some (mI (nI k))] [] (I, J)) (fun e => decide (I 194 (401 + 5 * e + 4) = 1 ∧ I 194 (401 + 5 * e + 2) = x1 ∧ I 194 (401 + 5 * e + 3) = x2)) (fun k => some (some (mI (nI k)), (I, J))) n (fun k hk => by
    try dsimp only
    rw [E_X10_nodeIn_2]
    simp only [fR_ok 18 h.k, h.r18, Option.bind_some, l4]
    rw [if_neg (nI_ge hk (by omega))]
    simp only [if_pos k10, w_nodeHas h I 4 (show (4 : Int32) = nI 4 from rfl) (show k < 60 by omega) (by decide), w_nodeHas h I 2 (show (2 : Int32) = nI 2 from rfl) (show k < 60 by omega) (by decide), w_nodeHas h I 3 (show (3 : Int32) = nI 3 from rfl) (show k < 60 by omega) (by decide), Option.bind_some, asI_I, nI_1]
    by_cases a : I 194 (401 + 5 * k + 4) = 1
    · by_cases b : I 194 (401 + 5 * k + 2) = x1
      · by_cases c : I 194 (401 + 5 * k + 3) = x2
        · rw [if_pos a, if_pos b, if_pos c, if_pos (by simp only [decide_eq_true_eq]; exact ⟨a, b, c⟩)]
        · rw [if_pos a, if_pos b, if_neg c, if_neg (by simp only [decide_eq_true_eq]; exact fun q => c q.2.2)]
      · rw [if_pos a, if_neg b, if_neg (by simp only [decide_eq_true_eq]; exact fun q => b q.2.1)]
    · rw [if_neg a, if_neg (by simp only [decide_eq_true_eq]; exact fun q => a q.1)]) n 0 (by omega)
  try dsimp only at step
  rw [show (nI 0) = 0 from rfl] at step
  rw [step]
  unfold ndQ
  cases fst? (fun e => decide (I 194 (401 + 5 * e + 4) = 1 ∧ I 194 (401 + 5 * e + 2) = x1 ∧ I 194 (401 + 5 * e + 3) = x2)) 0 n with
  | none =>
    show Ev T_X10_nodeIn 2 _ [] (I, J) = _
    rw [E_X10_nodeIn_2]
    simp only [fR_ok 18 h.k, h.r18, Option.bind_some, l4]
    rw [if_pos (Int32.le_refl _)]
    rfl
  | some j => rfl
def comeD (I : MI) (e : Nat) : MI := up2 (up2 I 194 (701 + 9 * e + 5) (I 194 0)) 194 0 (I 194 0 + 1)
theorem w_comesTo0 {J : MJ} (h : RefL J) (I : MI) (hw : I 188 21 = -1) {e : Nat} (he : e < 128) : M_X10_comesTo [mR (some 188), mI (nI e)] (I, J) = some (none, (comeD I e, J)) := by
  have l0 : ∀ X : MI, ld (X, J) 11 194 0 = some (X 194 0) := fun X => ld194 h X (k := 0) (by decide)
  have s0 : ∀ (X : MI) (v : Int32), st (X, J) 11 194 0 v = some (up2 X 194 0 v, J) := fun X v => st194 h X (k := 0) (by decide) v
  have r0 : up2 I 194 (701 + 9 * e + 5) (I 194 0) 194 0 = I 194 0 := by
    unfold up2
    rw [if_neg (by omega)]
  rw [E_X10_comesTo, fR_ok 18 h.k, Option.bind_some, w_entryAt _ e 5 (show (5 : Int32) = nI 5 from rfl)]
  simp only [Option.bind_some, asI_I, fR_ok 18 h.k, h.r18, l0, st194 h I (show 701 + 9 * e + 5 < 1853 by omega), s0, r0]
  rw [if_pos (show kd (_, J) 188 = 10 from h.k), E_X10_notes, fI_ok 21 h.k, Option.bind_some]
  have w0 : ∀ v v', up2 (up2 I 194 (701 + 9 * e + 5) v) 194 0 v' 188 21 = -1 := fun v v' => by
    unfold up2
    rw [if_neg (by omega), if_neg (by omega), hw]
  rw [w0, if_pos rfl]
  rfl

/-! The reference: entries counted, an entry made. -/
def thQ (D : Nat → Int32) (e : Nat) : Bool := decide (D (701 + 9 * e + 0) = 1)
def rtB (D : Nat → Int32) (x : Int32) : Bool := (rootQ D x).isSome
def emB (D : Nat → Int32) (all : Bool) (e : Nat) : Bool := thQ D e && (all || !rtB D (nI e))
theorem w_isRootB {J : MJ} (h : RefL J) (I : MI) (x : Int32) : M_X10_isRoot [mR (some 188), mI x] (I, J) = some (some (mI (if rtB (I 194) x = true then 1 else 0)), (I, J)) := by
  rw [w_isRoot h I x]
  unfold rtB
  cases rootQ (I 194) x with
  | none => rfl
  | some j => rfl
theorem w_entryMany {J : MJ} (h : RefL J) (I : MI) (x1 : Int32) : M_X10_entryMany [mR (some 188), mI x1] (I, J) = some (some (mI (nI (cnt (emB (I 194) (decide (¬ x1 = 0))) 0 128))), (I, J)) := by
  have k10 : kd (I, J) 188 = 10 := h.k
  rw [E_X10_entryMany]
  have step := loop_cnt (fun k c => Ev T_X10_entryMany 4 [some (mR (some 188)), some (mI x1), some (mI (nI c)), some (mI (nI k))] [] (I, J)) (emB (I 194) (decide (¬ x1 = 0))) 128 (fun k c hk => by
    try dsimp only
    rw [E_X10_entryMany_4, if_neg (show ¬ (128 : Int32) ≤ nI k from nI_ge hk (by decide))]
    simp only [if_pos k10, w_its h I 0 (show (0 : Int32) = nI 0 from rfl) hk (by decide), w_isRootB h I, Option.bind_some, asI_I, nI_1]
    unfold emB thQ
    by_cases a : I 194 (701 + 9 * k + 0) = 1
    · have a' : I 194 (701 + 9 * k) = 1 := a
      rw [if_pos a]
      by_cases b : x1 = 0
      · rw [if_pos b]
        cases hr : rtB (I 194) (nI k) with
        | true => simp [a', b]
        | false => simp [a', b]
      · rw [if_neg b]
        simp [a', b]
    · rw [if_neg a]
      simp only [Nat.add_zero] at a ⊢
      simp [a]) 128 0 0 (by omega)
  try dsimp only at step
  rw [show (nI 0) = 0 from rfl] at step
  rw [step, E_X10_entryMany_4, if_pos (show (128 : Int32) ≤ nI 128 by decide), Nat.zero_add]

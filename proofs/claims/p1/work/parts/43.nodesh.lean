/-! Loops over nodes; the tape's words. -/
def evN (U : NodV) : Nat := min (ix (U 0 5)) 60
theorem le_nI {x : Int32} {k : Nat} (hk : k < 2 ^ 31) : x ≤ nI k ↔ ix x ≤ k := by
  rw [Int32.le_iff_toInt_le, nI_toInt hk]
  show x.toInt ≤ _ ↔ x.toInt.toNat ≤ k
  omega
theorem nI_lt_iff {x : Int32} {k : Nat} (hk : k < 2 ^ 31) : nI k < x ↔ k < ix x := by
  rw [Int32.lt_iff_toInt_lt, nI_toInt hk]
  show _ < x.toInt ↔ k < x.toInt.toNat
  omega
theorem evN_le (U : NodV) : evN U ≤ 60 := Nat.min_le_right _ _
theorem evN_stop {U : NodV} {k : Nat} (hk : k ≤ 60) : (U 0 5 ≤ nI k ∨ (60 : Int32) ≤ nI k) ↔ evN U ≤ k := by
  rw [le_nI (by omega), le_nI (by omega)]
  show _ ∨ 60 ≤ k ↔ min _ _ ≤ k
  omega
def q_X2_find (U : NodV) (x1 x2 : Int32) : Int32 := oI (fst? (fun k => decide (¬ U 4 k = 0 ∧ U 2 k = x1 ∧ U 3 k = x2)) 0 (evN U))
theorem s_X2_find {J : MJ} {n : Nat} (hN : NodL J n) (X : MI) (U : NodV) (x1 x2 : Int32) : M_X2_find [mR (some n), mI x1, mI x2] (pt X n U, J) = some (some (mI (q_X2_find U x1 x2)), (pt X n U, J)) := by
  rw [P_X2_find hN]
  have hle := evN_le U
  have step := loop_find (fun k => Ev T_X2_find 2 [some (mR (some n)), some (mI x1), some (mI x2), some (mI (nI k))] [] (pt X n U, J)) (fun k => decide (¬ U 4 k = 0 ∧ U 2 k = x1 ∧ U 3 k = x2)) (fun k => some (some (mI (nI k)), (pt X n U, J))) (evN U) (fun k hk => by
    try dsimp only
    have hs : ¬ (U 0 5 ≤ nI k ∨ (60 : Int32) ≤ nI k) := by rw [evN_stop (by omega)]; omega
    rw [P_X2_find_2 hN _ _ _ _ _ (nI_pos (by omega)), if_neg (fun h => hs (Or.inl h)), if_neg (fun h => hs (Or.inr h)), ix_nI (by omega), nI_1]
    by_cases h1 : U 4 k = 0
    · simp [h1]
    · by_cases h2 : U 2 k = x1
      · by_cases h3 : U 3 k = x2
        · simp [h1, h2, h3]
        · simp [h1, h2, h3]
      · simp [h1, h2]) (evN U) 0 (by omega)
  have h0 : (nI 0) = 0 := rfl
  rw [h0] at step
  rw [step]
  unfold q_X2_find
  have hend : Ev T_X2_find 2 [some (mR (some n)), some (mI x1), some (mI x2), some (mI (nI (evN U)))] [] (pt X n U, J) = some (some (mI (-1)), (pt X n U, J)) := by
    rw [P_X2_find_2 hN _ _ _ _ _ (nI_pos (by omega))]
    rcases (evN_stop (U := U) hle).mpr (Nat.le_refl _) with h | h
    · rw [if_pos h]
    · rw [if_pos h]; split <;> rfl
  cases fst? (fun k => decide (¬ U 4 k = 0 ∧ U 2 k = x1 ∧ U 3 k = x2)) 0 (evN U) with
  | none => exact hend
  | some j => rfl
def q_X2_howManyIn (U : NodV) (x1 : Int32) : Int32 := nI (cnt (fun k => decide (¬ U 4 k = 0 ∧ U 2 k = x1)) 0 (evN U))
theorem s_X2_howManyIn {J : MJ} {n : Nat} (hN : NodL J n) (X : MI) (U : NodV) (x1 : Int32) : M_X2_howManyIn [mR (some n), mI x1] (pt X n U, J) = some (some (mI (q_X2_howManyIn U x1)), (pt X n U, J)) := by
  rw [P_X2_howManyIn hN]
  have hle := evN_le U
  have step := loop_cnt (fun k c => Ev T_X2_howManyIn 4 [some (mR (some n)), some (mI x1), some (mI (nI c)), some (mI (nI k))] [] (pt X n U, J)) (fun k => decide (¬ U 4 k = 0 ∧ U 2 k = x1)) (evN U) (fun k c hk => by
    try dsimp only
    have hs : ¬ (U 0 5 ≤ nI k ∨ (60 : Int32) ≤ nI k) := by rw [evN_stop (by omega)]; omega
    rw [P_X2_howManyIn_4 hN _ _ _ _ _ (nI_pos (by omega)), if_neg (fun h => hs (Or.inl h)), if_neg (fun h => hs (Or.inr h)), ix_nI (by omega), nI_1, nI_1]
    by_cases h1 : U 4 k = 0
    · simp [h1]
    · by_cases h2 : U 2 k = x1
      · simp [h1, h2]
      · simp [h1, h2]) (evN U) 0 0 (by omega)
  have h0 : (nI 0) = 0 := rfl
  rw [h0] at step
  rw [step, P_X2_howManyIn_4 hN _ _ _ _ _ (nI_pos (by omega)), Nat.zero_add]
  unfold q_X2_howManyIn
  rcases (evN_stop (U := U) hle).mpr (Nat.le_refl _) with h | h
  · rw [if_pos h]
  · rw [if_pos h]; split <;> rfl
def q_X2_howMany (U : NodV) : Int32 := nI (cnt (fun k => decide (¬ U 4 k = 0)) 0 (evN U))
theorem s_X2_howMany {J : MJ} {n : Nat} (hN : NodL J n) (X : MI) (U : NodV) : M_X2_howMany [mR (some n)] (pt X n U, J) = some (some (mI (q_X2_howMany U)), (pt X n U, J)) := by
  rw [P_X2_howMany hN]
  have hle := evN_le U
  have step := loop_cnt (fun k c => Ev T_X2_howMany 4 [some (mR (some n)), some (mI (nI c)), some (mI (nI k))] [] (pt X n U, J)) (fun k => decide (¬ U 4 k = 0)) (evN U) (fun k c hk => by
    try dsimp only
    have hs : ¬ (U 0 5 ≤ nI k ∨ (60 : Int32) ≤ nI k) := by rw [evN_stop (by omega)]; omega
    rw [P_X2_howMany_4 hN _ _ _ _ (nI_pos (by omega)), if_neg (fun h => hs (Or.inl h)), if_neg (fun h => hs (Or.inr h)), ix_nI (by omega), nI_1, nI_1]
    by_cases h1 : U 4 k = 0
    · simp [h1]
    · simp [h1]) (evN U) 0 0 (by omega)
  have h0 : (nI 0) = 0 := rfl
  rw [h0] at step
  rw [step, P_X2_howMany_4 hN _ _ _ _ (nI_pos (by omega)), Nat.zero_add]
  unfold q_X2_howMany
  rcases (evN_stop (U := U) hle).mpr (Nat.le_refl _) with h | h
  · rw [if_pos h]
  · rw [if_pos h]; split <;> rfl
/-- Arrays.fill -/
theorem fill_s {I : MI} {J : MJ} {a n : Nat} (h : jS J a = (11, n)) (hn : n < 2 ^ 31) (v : Int32) : M_J7_fill_53178 [mR (some a), mI v] (I, J) = some (none, (fun x y => if x = a ∧ y < n then v else I x y, J)) := by
  have key : ∀ (m k : Nat), k + m = n → Ev T_J7_fill_53178 5 [some (mR (some a)), some (mI v), some (mI (nI k)), some (mI (nI n))] [] (fun x y => if x = a ∧ y < k then v else I x y, J) = some (none, (fun x y => if x = a ∧ y < n then v else I x y, J)) := by
    intro m
    induction m with
    | zero =>
      intro k hk
      have hk : k = n := by omega
      subst hk
      rw [E_J7_fill_53178_5, if_pos (Int32.le_refl _)]
    | succ m ih =>
      intro k hk
      rw [E_J7_fill_53178_5, if_neg (nI_ge (by omega) hn), st_ok _ _ h (inb_nI (by omega) hn), Option.bind_some, nI_1, nI_clamp (by omega)]
      have e : up2 (fun x y => if x = a ∧ y < k then v else I x y) a k v = fun x y => if x = a ∧ y < k + 1 then v else I x y := by
        funext x y
        unfold up2
        by_cases hx : x = a
        · by_cases hy : y = k
          · simp [hx, hy]
          · by_cases hz : y < k
            · simp [hx, hy, hz, Nat.lt_succ_of_lt hz]
            · simp [hx, hy, hz, show ¬ y < k + 1 by omega]
        · simp [hx]
      rw [e]
      exact ih (k + 1) (by omega)
  rw [E_J7_fill_53178, aln_ok h (by decide), Option.bind_some]
  have := key n 0 (by omega)
  have e : (fun x y => if x = a ∧ y < 0 then v else I x y) = I := by
    funext x y
    simp
  rw [e] at this
  exact this

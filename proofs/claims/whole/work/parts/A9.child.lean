/-! What is below an entry by a name, on both sides. -/
theorem clr_o (I : MI) {x : Nat} (h : x ≠ 7) : clr I x = I x := by
  unfold clr
  by_cases z : x = 8
  · subst z
    funext j
    simp [pt, gQ_X5_clear, uv, vw]
  · rw [pt_out (by omega)]
theorem clr_7 (I : MI) : clr I 7 1 = 0 := by
  unfold clr
  simp [pt, gQ_X5_clear, uv]
theorem w_child_bad {J : MJ} (h : RefL J) (Z : MI) (x y z : Int32) : Ev T_X10_child 22 [some (mR (some 188)), some (mI x), some (mI y), some (mI 0), some (mI z)] [] (Z, J) = some (some (mI (-1)), (Z, J)) := by
  rw [E_X10_child_22]
  simp only [h.fi, Option.bind_some, if_true, ite_self]
theorem w_child_loop {J : MJ} (h : RefL J) (Z : MI) (x : Int32) {Q : RouV} {n : Nat} (t : Tap Q n) (z3 : Z 188 3 = nI n) (z9 : ∀ k, k < n → Z 189 k = Q 1 k) (n4 : n ≤ 4) : ∀ (nn k : Nat), k + nn = n → (∀ j, j < k → Lt (Q 1 j)) → Ev T_X10_child 22 [some (mR (some 188)), some (mI x), some (mI (rnm (Q 1) 0 k)), some (mI 1), some (mI (nI k))] [] (Z, J) = some (some (mI (-1)), (Z, J)) ∧ (∃ j, j < n ∧ ¬ Lt (Q 1 j)) ∨ Ev T_X10_child 22 [some (mR (some 188)), some (mI x), some (mI (rnm (Q 1) 0 k)), some (mI 1), some (mI (nI k))] [] (Z, J) = Ev T_X10_child 22 [some (mR (some 188)), some (mI x), some (mI (rnm (Q 1) 0 n)), some (mI 1), some (mI (nI n))] [] (Z, J) ∧ ∀ j, j < n → Lt (Q 1 j)
  | 0, k, hk, hl => by
    have : k = n := by omega
    subst this
    exact Or.inr ⟨rfl, hl⟩
  | nn + 1, k, hk, hl => by
    have ld' : ld (Z, J) 11 189 (nI k) = some (Q 1 k) := by
      rw [ld_ok _ h.s0 (inb_nI (by omega) (by decide)), show (nI k).toNatClampNeg = k from ix_nI (by omega), ← z9 k (by omega)]
    have st : Ev T_X10_child 22 [some (mR (some 188)), some (mI x), some (mI (rnm (Q 1) 0 k)), some (mI 1), some (mI (nI k))] [] (Z, J) = Ev T_X10_child 22 [some (mR (some 188)), some (mI x), some (mI (rnm (Q 1) 0 (k + 1))), some (mI (q_X9_isLetter (Q 1 k))), some (mI (nI (k + 1)))] [] (Z, J) := by
      rw [E_X10_child_22]
      simp only [h.fi, Option.bind_some, z3, if_neg (show ¬ nI n ≤ nI k from nI_ge (show k < n by omega) (by omega)), if_neg i10, h.f0, ld', w_isLetter, asI_I, nI_1]
      show _ = Ev T_X10_child 22 [some (mR (some 188)), some (mI x), some (mI (27 * rnm (Q 1) 0 k + Q 1 (0 + k) - 97 + 1)), some (mI (q_X9_isLetter (Q 1 k))), some (mI (nI (k + 1)))] [] (Z, J)
      rw [Nat.zero_add]
    rw [st]
    rcases t.lt (show k < n by omega) with ⟨a, b⟩ | ⟨a, b⟩
    · rw [a]
      exact w_child_loop h Z x t z3 z9 n4 nn (k + 1) (by omega) (fun j hj => by
        by_cases z : j = k
        · rw [z]; exact b
        · exact hl j (by omega))
    · rw [a, w_child_bad h]
      exact Or.inl ⟨rfl, k, by omega, b⟩

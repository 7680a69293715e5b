/-! A row put aside, and taken back. -/
def rcp (a b : Nat) (k : Nat) (I : MI) : MI := up2 I b k (I a k)
theorem rcp_o {a b : Nat} : ∀ (n k : Nat) (I : MI) {x : Nat}, x ≠ b → itr (rcp a b) k n I x = I x
  | 0, k, I, x, h => rfl
  | n + 1, k, I, x, h => by
    show itr (rcp a b) (k + 1) n (rcp a b k I) x = I x
    rw [rcp_o n (k + 1) _ h]
    exact up2_o _ _ _ h
theorem rcp_at {a b : Nat} (hab : a ≠ b) : ∀ (n k : Nat) (I : MI) (j : Nat), itr (rcp a b) k n I b j = if k ≤ j ∧ j < k + n then I a j else I b j
  | 0, k, I, j => by
    rw [if_neg (by omega)]
    rfl
  | n + 1, k, I, j => by
    show itr (rcp a b) (k + 1) n (rcp a b k I) b j = _
    rw [rcp_at hab n (k + 1)]
    have o : rcp a b k I a = I a := up2_o _ _ _ hab
    rw [o]
    by_cases z : j = k
    · rw [z, if_neg (by omega), if_pos (by omega)]
      exact up2_s _ _ _ _
    · have : rcp a b k I b j = I b j := up2_k _ _ _ z
      rw [this]
      by_cases w : k + 1 ≤ j ∧ j < k + 1 + n
      · rw [if_pos w, if_pos (by omega)]
      · rw [if_neg w, if_neg (by omega)]
theorem w_putsAside {J : MJ} (h : RefL J) (I : MI) : M_X10_putsAside [mR (some 188)] (I, J) = some (none, (itr (rcp 194 196) 0 1853 I, J)) := by
  rw [E_X10_putsAside]
  have s1 := loop_all (fun k I => Ev T_X10_putsAside 2 [some (mR (some 188)), some (mI (nI k))] [] (I, J)) (rcp 194 196) 1853 I (fun k I hk => by
    try dsimp only
    rw [E_X10_putsAside_2, if_neg (show ¬ (1853 : Int32) ≤ nI k from nI_ge (b := 1853) hk (by decide))]
    have sv : ∀ v, st (I, J) 11 196 (nI k) v = some (up2 I 196 k v, J) := fun v => by
      rw [st_ok _ _ h.s23 (inb_nI (by omega) (by decide)), show (nI k).toNatClampNeg = k from ix_nI (by omega)]
    simp only [h.f23, h.f18, Option.bind_some, h.ldD _ rfl hk, sv, nI_1]
    rfl)
  try dsimp only at s1
  rw [show (nI 0) = 0 from rfl] at s1
  rw [s1, E_X10_putsAside_2, if_pos (show (1853 : Int32) ≤ nI 1853 by decide)]
theorem w_takesBack {J : MJ} (h : RefL J) (I : MI) : M_X10_takesBack [mR (some 188)] (I, J) = some (none, (itr (rcp 196 194) 0 1853 I, J)) := by
  rw [E_X10_takesBack]
  have s1 := loop_all (fun k I => Ev T_X10_takesBack 2 [some (mR (some 188)), some (mI (nI k))] [] (I, J)) (rcp 196 194) 1853 I (fun k I hk => by
    try dsimp only
    rw [E_X10_takesBack_2, if_neg (show ¬ (1853 : Int32) ≤ nI k from nI_ge (b := 1853) hk (by decide))]
    have lv : ld (I, J) 11 196 (nI k) = some (I 196 k) := by
      rw [ld_ok _ h.s23 (inb_nI (by omega) (by decide)), show (nI k).toNatClampNeg = k from ix_nI (by omega)]
    simp only [h.f23, h.f18, Option.bind_some, h.stD _ _ rfl hk, lv, nI_1]
    rfl)
  try dsimp only at s1
  rw [show (nI 0) = 0 from rfl] at s1
  rw [s1, E_X10_takesBack_2, if_pos (show (1853 : Int32) ≤ nI 1853 by decide)]

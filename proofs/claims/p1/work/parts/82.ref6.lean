/-! The reference's plain calls. -/
theorem w_end {J : MJ} (h : RefL J) (I : MI) (x : Int32) : M_X10_end [mR (some 188), mI x] (I, J) = if x < 0 ∨ ¬ x ≤ I 188 1 then some (some (mI 0), (rfR I 0, J)) else some (some (mI 1), (up2 I 188 1 x, J)) := by
  have r := w_isRefused h I (show (0 : Int32) = nI 0 from rfl) (by decide)
  have k10 : kd (I, J) 188 = 10 := h.k
  have e : (if (0 : Int32) = 0 ∨ (0 : Int32) = 1 then some (some (mI 0), (rfR I 0, J)) else (none : Option MO)) = some (some (mI 0), (rfR I 0, J)) := if_pos (Or.inl rfl)
  rw [E_X10_end]
  by_cases a : x < 0
  · rw [if_pos a, if_pos (Or.inl a), if_pos k10, r]
    exact e
  · rw [if_neg a, fI_ok 1 h.k, Option.bind_some]
    by_cases b : x ≤ I 188 1
    · rw [if_pos b, if_neg (fun q => q.elim a (fun z => z b)), wI_ok 1 _ h.k, Option.bind_some]
      simp
    · rw [if_neg b, if_pos (Or.inr b), if_pos k10, r]
      exact e
theorem w_fault {J : MJ} (h : RefL J) (I : MI) (x : Int32) : M_X10_fault [mR (some 188), mI x] (I, J) = some (some (mI (if x = 0 then I 188 6 else if x = 1 then I 188 7 else -1)), (I, J)) := by
  rw [E_X10_fault]
  simp only [fI_ok 6 h.k, fI_ok 7 h.k, Option.bind_some]
  by_cases a : x = 0
  · rw [if_pos a, if_pos a]
  · rw [if_neg a, if_neg a]
    by_cases b : x = 1
    · rw [if_pos b, if_pos b]
    · rw [if_neg b, if_neg b]
theorem le_of_nlt {x m : Int32} {n : Nat} (hm : m.toInt = n) (h0 : ¬ x < 0) (h1 : ¬ m < x) : inb x (n + 1) := by
  have a := i32_le.mp (Int32.not_lt.mp h0)
  have b := i32_le.mp (Int32.not_lt.mp h1)
  have e0 : (0 : Int32).toInt = 0 := rfl
  rw [e0] at a
  intro q
  rcases q with q | q
  · exact h0 q
  · have : x.toNatClampNeg = x.toInt.toNat := rfl
    omega
theorem w_status {J : MJ} (h : RefL J) (I : MI) (x : Int32) : M_X10_status [mR (some 188), mI x] (I, J) = some (some (mI (if x < 0 then -1 else if 5 < x then -1 else I 190 (ix x))), (I, J)) := by
  rw [E_X10_status, w_isIn x 0 5 _ (show (0 : Int64) = Int32.toInt64 0 from rfl) (show (5 : Int64) = Int32.toInt64 5 from rfl)]
  simp only [Option.bind_some, asI_I, fR_ok 8 h.k, h.r8]
  by_cases a : x < 0
  · simp [a]
  · by_cases b : 5 < x
    · simp [a, b]
    · rw [if_neg a, if_neg b, if_neg (by decide), if_neg a, if_neg b, ld_ok _ h.s8 (le_of_nlt (n := 5) rfl a b)]
      rfl
theorem w_result {J : MJ} (h : RefL J) (I : MI) (x : Int32) : M_X10_result [mR (some 188), mI x] (I, J) = some (some (mI (if bz (I 188 32) = 0 then -1 else if x < 0 then -1 else if 3 < x then -1 else I 201 (ix x))), (I, J)) := by
  rw [E_X10_result, fZ_ok 32 h.k, Option.bind_some, w_isIn x 0 3 _ (show (0 : Int64) = Int32.toInt64 0 from rfl) (show (3 : Int64) = Int32.toInt64 3 from rfl)]
  simp only [Option.bind_some, asI_I, fR_ok 33 h.k, h.r33]
  by_cases z : bz (I 188 32) = 0
  · rw [if_pos z, if_pos z]
  · rw [if_neg z, if_neg z]
    by_cases a : x < 0
    · simp [a]
    · by_cases b : 3 < x
      · simp [a, b]
      · rw [if_neg a, if_neg b, if_neg (by decide), if_neg a, if_neg b, ld_ok _ h.s33 (le_of_nlt (n := 3) rfl a b)]
        rfl
theorem w_seed {J : MJ} (h : RefL J) (I : MI) (x : Int32) : M_X10_seed [mR (some 188), mI x] (I, J) = if 0 ≤ x then some (some (mI 1), (I, (up2 J.1 188 31 (Int32.toInt64 x), J.2))) else some (some (mI 0), (rfR I 5, J)) := by
  have w : ∀ v, wL (I, J) 10 188 31 v = some (I, (up2 J.1 188 31 v, J.2)) := fun v => if_pos h.k
  rw [E_X10_seed]
  by_cases a : 0 ≤ x
  · rw [if_pos a, if_pos a, w, Option.bind_some]
    simp
  · rw [if_neg a, if_neg a, if_pos (show kd (I, J) 188 = 10 from h.k), w_isRefused h I (show (5 : Int32) = nI 5 from rfl) (by decide)]
    simp [asI]
theorem w_see {J : MJ} (h : RefL J) (I : MI) (x : Int32) : M_X10_see [mR (some 188), mI x] (I, J) = if I 188 36 = 0 ∨ ¬ 0 ≤ x then some (some (mI 0), (rfR I 5, J)) else some (some (mI 1), (up2 I 188 37 x, J)) := by
  have r := w_isRefused h I (show (5 : Int32) = nI 5 from rfl) (by decide)
  rw [E_X10_see, fI_ok 36 h.k, Option.bind_some]
  by_cases a : I 188 36 = 0
  · rw [if_pos a, if_pos (Or.inl a), if_pos (show kd (I, J) 188 = 10 from h.k), r]
    simp [asI]
  · rw [if_neg a]
    by_cases b : 0 ≤ x
    · rw [if_pos b, if_neg (fun q => q.elim a (fun z => z b)), wI_ok 37 _ h.k, Option.bind_some]
      simp
    · rw [if_neg b, if_pos (Or.inr b), if_pos (show kd (I, J) 188 = 10 from h.k), r]
      simp [asI]

/-! The reference: between two bounds. -/
theorem cmp_lt (x y : Int64) : lg_cmp x y < 0 ↔ x < y := by
  unfold lg_cmp
  by_cases a : x > y
  · rw [if_pos a]
    constructor
    · intro h; exact absurd h (by decide)
    · intro h; exact absurd h (Int64.lt_asymm a)
  · rw [if_neg a]
    by_cases b : x = y
    · rw [if_pos b]
      constructor
      · intro h; exact absurd h (by decide)
      · intro h
        have := Int64.lt_iff_toInt_lt.mp h
        rw [b] at this
        omega
    · rw [if_neg b]
      constructor
      · intro _
        have hle := Int64.not_lt.mp a
        rw [Int64.lt_iff_toInt_lt]
        have h1 := Int64.le_iff_toInt_le.mp hle
        have h2 : x.toInt ≠ y.toInt := fun e => b (Int64.toInt_inj.mp e)
        omega
      · intro _; decide
theorem cmp_gt (x y : Int64) : 0 < lg_cmp x y ↔ y < x := by
  unfold lg_cmp
  by_cases a : x > y
  · rw [if_pos a]
    exact ⟨fun _ => a, fun _ => by decide⟩
  · rw [if_neg a]
    constructor
    · intro h
      by_cases b : x = y
      · rw [if_pos b] at h; exact absurd h (by decide)
      · rw [if_neg b] at h; exact absurd h (by decide)
    · intro h; exact absurd h a
theorem t64_lt (x y : Int32) : Int32.toInt64 x < Int32.toInt64 y ↔ x < y := by
  rw [Int64.lt_iff_toInt_lt, Int32.toInt_toInt64, Int32.toInt_toInt64, Int32.lt_iff_toInt_lt]
theorem w_isIn (x l m : Int32) (s : MH) {l' m' : Int64} (hl : l' = Int32.toInt64 l) (hm : m' = Int32.toInt64 m) : M_X10_isIn [mL (Int32.toInt64 x), mL l', mL m'] s = some (some (mI (if x < l then 0 else if m < x then 0 else 1)), s) := by
  subst hl hm
  rw [E_X10_isIn]
  by_cases a : x < l
  · rw [if_pos ((cmp_lt _ _).mpr ((t64_lt _ _).mpr a)), if_pos a]
    simp
  · rw [if_neg (fun q => a ((t64_lt _ _).mp ((cmp_lt _ _).mp q))), if_neg a]
    by_cases b : m < x
    · rw [if_pos ((cmp_gt _ _).mpr ((t64_lt _ _).mpr b)), if_pos b]
      simp
    · rw [if_neg (fun q => b ((t64_lt _ _).mp ((cmp_gt _ _).mp q))), if_neg b]
      simp

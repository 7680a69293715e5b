/-! The reference: handles, octets. -/
theorem nI_ix {x : Int32} (h : ¬ x < 0) : x = nI (ix x) := by
  apply Int32.toInt_inj.mp
  have a := i32_le.mp (Int32.not_lt.mp h)
  have e0 : (0 : Int32).toInt = 0 := rfl
  rw [e0] at a
  rw [nI_toInt (ix_lt x)]
  show x.toInt = ((x.toInt.toNat : Nat) : Int)
  omega
theorem ix_le {x m : Int32} {n : Nat} (hm : m.toInt = n) (h0 : ¬ x < 0) (h1 : ¬ m < x) : ix x ≤ n := by
  have b := i32_le.mp (Int32.not_lt.mp h1)
  rw [hm] at b
  show x.toInt.toNat ≤ n
  omega
theorem w_handle {J : MJ} (h : RefL J) (I : MI) (x : Int32) : M_X10_handle [mR (some 188), mI x] (I, J) = some (some (mI (if bz (I 188 13) = 0 then -1 else if x < 0 then -1 else if 5 < x then -1 else I 194 (11 + ix x))), (I, J)) := by
  rw [E_X10_handle, fZ_ok 13 h.k, Option.bind_some, w_isIn x 0 5 _ (show (0 : Int64) = Int32.toInt64 0 from rfl) (show (5 : Int64) = Int32.toInt64 5 from rfl)]
  simp only [Option.bind_some, asI_I, fR_ok 18 h.k, h.r18]
  by_cases z : bz (I 188 13) = 0
  · rw [if_pos z, if_pos z]
  · rw [if_neg z, if_neg z]
    by_cases a : x < 0
    · simp [a]
    · by_cases b : 5 < x
      · simp [a, b]
      · have hx := ix_le (n := 5) rfl a b
        rw [if_neg a, if_neg b, if_neg (by decide), if_neg a, if_neg b]
        have e : (11 : Int32) + x = nI (11 + ix x) := by
          rw [← nI_add, ← nI_ix a]
          rfl
        rw [e, ld194 h I (by omega)]
        rfl

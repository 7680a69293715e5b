/-! Letters of a name, on both sides. -/
theorem nI_div27 {a : Nat} (h : a < 2 ^ 31) : nI a / 27 = nI (a / 27) := by
  apply Int32.toInt_inj.mp
  rw [Int32.toInt_div, nI_toInt h, nI_toInt (by omega), show (27 : Int32).toInt = 27 from rfl]
  have e : (a : Int).tdiv 27 = ((a / 27 : Nat) : Int) := by
    rw [Int.tdiv_eq_ediv_of_nonneg (by omega)]
    omega
  rw [e]
  apply Int.bmod_eq_of_le
  · omega
  · omega
theorem nI_and31 (a : Nat) : nI a &&& 31 = nI (a % 32) := by
  have e : nI a &&& nI 31 = nI (a &&& 31) := by
    apply Int32.toBitVec_inj.1
    show BitVec.ofNat 32 a &&& BitVec.ofNat 32 31 = BitVec.ofNat 32 (a &&& 31)
    apply BitVec.eq_of_getLsbD_eq
    intro i hi
    simp [hi]
  rw [show (31 : Int32) = nI 31 from rfl, e, show (31 : Nat) = 2 ^ 5 - 1 from rfl, Nat.and_two_pow_sub_one_eq_mod]
theorem nI_shr {a : Nat} (h : a < 2 ^ 31) (s : Int32) (k : Nat) (hs : s.toBitVec.smod 32 = BitVec.ofNat 32 k) (hk : k < 32) : nI a >>> s = nI (a / 2 ^ k) := by
  apply Int32.toInt_inj.mp
  have : a / 2 ^ k ≤ a := Nat.div_le_self _ _
  rw [nI_toInt (by omega)]
  have e : (nI a >>> s).toInt = (nI a).toInt >>> k := by
    rw [← Int32.toInt_toBitVec, Int32.toBitVec_shiftRight, hs, BitVec.toInt_sshiftRight', Int32.toInt_toBitVec]
    simp [Nat.mod_eq_of_lt (show k < 4294967296 by omega)]
  rw [e, nI_toInt h, Int.shiftRight_eq_div_pow]
  norm_cast

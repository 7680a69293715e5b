/-! Letters of a name, on both sides. -/
theorem nI_div27 {a : Nat} (h : a < 2 ^ 31) : nI a / 27 = nI (a / 27) := by
  apply Int32.toInt_inj.mp
  rw [Int32.toInt_div, nI_toInt h, nI_toInt (by omega), show (27 : Int32).toInt = 27 from rfl]
  have e : (a : Int).tdiv 27 = ((a / 27 : Nat) : Int) := by
    rw [Int.tdiv_eq_ediv_of_nonneg (by omega)]
    omega
  rw [e]
  apply Int.bmod_eq_of_le
  · omega
  · omega
theorem nI_and31 (a : Nat) : nI a &&& 31 = nI (a % 32) := by
  have e : nI a &&& nI 31 = nI (a &&& 31) := by
    apply Int32.toBitVec_inj.1
    show BitVec.ofNat 32 a &&& BitVec.ofNat 32 31 = BitVec.ofNat 32 (a &&& 31)
    apply BitVec.eq_of_getLsbD_eq
    intro i hi
    simp [hi]
  rw [show (31 : Int32) = nI 31 from rfl, e, show (31 : Nat) = 2 ^ 5 - 1 from rfl, Nat.and_two_pow_sub_one_eq_mod]
theorem nI_shr {a : Nat} (h : a < 2 ^ 31) (s : Int32) (k : Nat) (hs : s.toBitVec.smod 32 = BitVec.ofNat 32 k) (hk : k < 32) : nI a >>> s = nI (a / 2 ^ k) := by
  apply Int32.toInt_inj.mp
  have : a / 2 ^ k ≤ a := Nat.div_le_self _ _
  rw [nI_toInt (by omega)]
  have e : (nI a >>> s).toInt = (nI a).toInt >>> k := by
    rw [← Int32.toInt_toBitVec, Int32.toBitVec_shiftRight, hs, BitVec.toInt_sshiftRight', Int32.toInt_toBitVec]
    simp [Nat.mod_eq_of_lt (show k < 4294967296 by omega)]
  rw [e, nI_toInt h, Int.shiftRight_eq_div_pow]
  norm_cast
def dg (a b c d j : Nat) : Nat := if j = 0 then a else if j = 1 then b else if j = 2 then c else d
theorem let_c {a b c d : Nat} (h : NmL a b c d) {j : Nat} (hj : j < 4) : q_X9_letterOf (nI (pck a b c d)) (nI j) = nI (dg a b c d j) := by
  have pl := (pck_lt h).2
  obtain ⟨h1, h2, h3, h4, h5, _, _⟩ := h
  have : j = 0 ∨ j = 1 ∨ j = 2 ∨ j = 3 := by omega
  unfold q_X9_letterOf
  rcases this with z | z | z | z <;> subst z
  · rw [nI_shr (by omega) _ 0 (by decide) (by decide), nI_and31]
    congr 1
    unfold pck dg
    rw [if_pos rfl]
    omega
  · rw [nI_shr (by omega) _ 5 (by decide) (by decide), nI_and31]
    congr 1
    unfold pck dg
    rw [if_neg (by decide), if_pos rfl]
    omega
  · rw [nI_shr (by omega) _ 10 (by decide) (by decide), nI_and31]
    congr 1
    unfold pck dg
    rw [if_neg (by decide), if_neg (by decide), if_pos rfl]
    omega
  · rw [nI_shr (by omega) _ 15 (by decide) (by decide), nI_and31]
    congr 1
    unfold pck dg
    rw [if_neg (by decide), if_neg (by decide), if_neg (by decide)]
    omega
theorem ls_s {l y : Nat} (y0 : 0 < y) (hy : y < 2 ^ 31) (s : MH) : Ev T_X10_lettersOf 4 [none, some (mI (nI l)), some (mI (nI y))] [] s = Ev T_X10_lettersOf 4 [none, some (mI (nI (l + 1))), some (mI (nI (y / 27)))] [] s := by
  rw [E_X10_lettersOf_4, if_neg (nI_nle y0 hy), if_neg (by decide), nI_div27 hy, nI_1]
theorem ls_e {l : Nat} (s : MH) : Ev T_X10_lettersOf 4 [none, some (mI (nI l)), some (mI (nI 0))] [] s = some (some (mI (nI l)), s) := by
  rw [E_X10_lettersOf_4, if_pos (show nI 0 ≤ 0 by decide)]
theorem lo_s {k len y q : Nat} (h : k < q) (hq : q < 100) (hy : y < 2 ^ 31) (s : MH) : Ev T_X10_letterOf 12 [none, some (mI (nI k)), some (mI (nI len)), some (mI (nI y)), some (mI (nI q))] [] s = Ev T_X10_letterOf 12 [none, some (mI (nI k)), some (mI (nI len)), some (mI (nI (y / 27))), some (mI (nI (q - 1)))] [] s := by
  rw [E_X10_letterOf_12, if_neg (nI_ge h (by omega)), if_neg (by decide), nI_div27 hy, show nI q + (-1) = nI (q - 1) by
    rw [← nI_sub (a := q) (b := 1) (by omega)]
    exact (Int32.sub_eq_add_neg _ _).symm]
theorem lo_e {k len y q : Nat} (h : q ≤ k) (hl : len ≤ k) (hk : k < 100) (s : MH) : Ev T_X10_letterOf 12 [none, some (mI (nI k)), some (mI (nI len)), some (mI (nI y)), some (mI (nI q))] [] s = some (some (mI (nI 0)), s) := by
  rw [E_X10_letterOf_12, if_pos (nI_le h (by omega)), if_pos (nI_le hl (by omega))]
  rfl
theorem lo_d {k len y q : Nat} (h : q ≤ k) (hl : k < len) (hk : len < 100) (hy : y < 2 ^ 31) (s : MH) : Ev T_X10_letterOf 12 [none, some (mI (nI k)), some (mI (nI len)), some (mI (nI y)), some (mI (nI q))] [] s = some (some (mI (nI (y % 27))), s) := by
  rw [E_X10_letterOf_12, if_pos (nI_le h (by omega)), if_neg (nI_ge hl (by omega)), if_neg (by decide), nI_div27 hy, show (27 : Int32) = nI 27 from rfl, nI_mul, nI_sub (by omega)]
  have : y - y / 27 * 27 = y % 27 := by omega
  rw [this]
theorem w_lettersOf {a b c d : Nat} (h : NmL a b c d) (s : MH) : ∃ len, M_X10_lettersOf [mI (nI (b27 a b c d))] s = some (some (mI (nI len)), s) ∧ len = if b = 0 then 1 else if c = 0 then 2 else if d = 0 then 3 else 4 := by
  obtain ⟨h1, h2, h3, h4, h5, h6, h7⟩ := h
  refine ⟨_, ?_, rfl⟩
  rw [E_X10_lettersOf, show (0 : Int32) = nI 0 from rfl]
  unfold b27
  by_cases zb : b = 0
  · rw [if_pos zb, if_pos zb, ls_s (by omega) (by omega), show a / 27 = 0 by omega, ls_e]
  · rw [if_neg zb, if_neg zb]
    by_cases zc : c = 0
    · rw [if_pos zc, if_pos zc, ls_s (by omega) (by omega), show (27 * a + b) / 27 = a by omega, ls_s (by omega) (by omega), show a / 27 = 0 by omega, ls_e]
    · rw [if_neg zc, if_neg zc]
      by_cases zd : d = 0
      · rw [if_pos zd, if_pos zd, ls_s (by omega) (by omega), show (729 * a + 27 * b + c) / 27 = 27 * a + b by omega, ls_s (by omega) (by omega), show (27 * a + b) / 27 = a by omega, ls_s (by omega) (by omega), show a / 27 = 0 by omega, ls_e]
      · rw [if_neg zd, if_neg zd, ls_s (by omega) (by omega), show (19683 * a + 729 * b + 27 * c + d) / 27 = 729 * a + 27 * b + c by omega, ls_s (by omega) (by omega), show (729 * a + 27 * b + c) / 27 = 27 * a + b by omega, ls_s (by omega) (by omega), show (27 * a + b) / 27 = a by omega, ls_s (by omega) (by omega), show a / 27 = 0 by omega, ls_e]
theorem w_letterNm {a b c d : Nat} (h : NmL a b c d) {j : Nat} (hj : j < 4) (s : MH) : M_X10_letterOf [mI (nI (b27 a b c d)), mI (nI j)] s = some (some (mI (nI (dg a b c d j))), s) := by
  obtain ⟨len, e1, e2⟩ := w_lettersOf h s
  obtain ⟨h1, h2, h3, h4, h5, h6, h7⟩ := h
  rw [E_X10_letterOf, e1]
  simp only [Option.bind_some, asI_I]
  have l1 : 1 ≤ len := by rw [e2]; split; · omega
                          split; · omega
                          split <;> omega
  rw [show nI len - 1 = nI (len - 1) from nI_sub (b := 1) l1]
  have jc : j = 0 ∨ j = 1 ∨ j = 2 ∨ j = 3 := by omega
  unfold b27
  by_cases zb : b = 0
  · have zc := h6 zb
    have zd := h7 zc
    rw [if_pos zb] at e2 ⊢
    subst e2 zb zc zd
    rcases jc with z | z | z | z <;> subst z
    · rw [lo_d (by omega) (by omega) (by omega) (by omega), show a % 27 = a by omega]; rfl
    · rw [lo_e (by omega) (by omega) (by omega)]; rfl
    · rw [lo_e (by omega) (by omega) (by omega)]; rfl
    · rw [lo_e (by omega) (by omega) (by omega)]; rfl
  · rw [if_neg zb] at e2 ⊢
    by_cases zc : c = 0
    · have zd := h7 zc
      rw [if_pos zc] at e2 ⊢
      subst e2 zc zd
      rcases jc with z | z | z | z <;> subst z
      · rw [lo_s (by omega) (by omega) (by omega), lo_d (by omega) (by omega) (by omega) (by omega), show (27 * a + b) / 27 % 27 = a by omega]; rfl
      · rw [lo_d (by omega) (by omega) (by omega) (by omega), show (27 * a + b) % 27 = b by omega]; rfl
      · rw [lo_e (by omega) (by omega) (by omega)]; rfl
      · rw [lo_e (by omega) (by omega) (by omega)]; rfl
    · rw [if_neg zc] at e2 ⊢
      by_cases zd : d = 0
      · rw [if_pos zd] at e2 ⊢
        subst e2 zd
        rcases jc with z | z | z | z <;> subst z
        · rw [lo_s (by omega) (by omega) (by omega), lo_s (by omega) (by omega) (by omega), lo_d (by omega) (by omega) (by omega) (by omega), show (729 * a + 27 * b + c) / 27 / 27 % 27 = a by omega]; rfl
        · rw [lo_s (by omega) (by omega) (by omega), lo_d (by omega) (by omega) (by omega) (by omega), show (729 * a + 27 * b + c) / 27 % 27 = b by omega]; rfl
        · rw [lo_d (by omega) (by omega) (by omega) (by omega), show (729 * a + 27 * b + c) % 27 = c by omega]; rfl
        · rw [lo_e (by omega) (by omega) (by omega)]; rfl
      · rw [if_neg zd] at e2 ⊢
        subst e2
        rcases jc with z | z | z | z <;> subst z
        · rw [lo_s (by omega) (by omega) (by omega), lo_s (by omega) (by omega) (by omega), lo_s (by omega) (by omega) (by omega), lo_d (by omega) (by omega) (by omega) (by omega), show (19683 * a + 729 * b + 27 * c + d) / 27 / 27 / 27 % 27 = a by omega]; rfl
        · rw [lo_s (by omega) (by omega) (by omega), lo_s (by omega) (by omega) (by omega), lo_d (by omega) (by omega) (by omega) (by omega), show (19683 * a + 729 * b + 27 * c + d) / 27 / 27 % 27 = b by omega]; rfl
        · rw [lo_s (by omega) (by omega) (by omega), lo_d (by omega) (by omega) (by omega) (by omega), show (19683 * a + 729 * b + 27 * c + d) / 27 % 27 = c by omega]; rfl
        · rw [lo_d (by omega) (by omega) (by omega) (by omega), show (19683 * a + 729 * b + 27 * c + d) % 27 = d by omega]; rfl
theorem w_letterOf {x y : Int32} (h : NmZ x y) {j : Nat} (hj : j < 4) (s : MH) : M_X10_letterOf [mI y, mI (nI j)] s = some (some (mI (q_X9_letterOf x (nI j))), s) := by
  rcases h with ⟨a, b, c, d, h, hx, hy⟩ | ⟨hx, hy⟩
  · rw [hx, hy, w_letterNm h hj, let_c h hj]
  · rw [hx, hy, E_X10_letterOf, E_X10_lettersOf, show Ev T_X10_lettersOf 4 [none, some (mI 0), some (mI 0)] [] s = some (some (mI (nI 0)), s) from ls_e s]
    simp only [Option.bind_some, asI_I]
    have jc : j = 0 ∨ j = 1 ∨ j = 2 ∨ j = 3 := by omega
    rw [E_X10_letterOf_12]
    rcases jc with z | z | z | z <;> subst z <;> rw [if_pos (by decide), if_pos (by decide)] <;> rfl

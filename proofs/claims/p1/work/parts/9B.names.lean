/-! Names and steps on the tape, on both sides. -/
theorem or_sum {a k : Nat} (b : Nat) (h : a < 2 ^ k) : nI a ||| nI (2 ^ k * b) = nI (a + 2 ^ k * b) := by
  have e : ∀ a b, nI a ||| nI b = nI (a ||| b) := fun a b => by
    apply Int32.toBitVec_inj.1
    show BitVec.ofNat 32 a ||| BitVec.ofNat 32 b = BitVec.ofNat 32 (a ||| b)
    apply BitVec.eq_of_getLsbD_eq
    intro i hi
    simp [hi]
  rw [e, Nat.or_comm, ← Nat.two_pow_add_eq_or_of_lt h, Nat.add_comm]
theorem let_q {b : Nat} (hb : b < 256) : q_X9_isLetter (nI b) = if 97 ≤ b ∧ b ≤ 122 then 1 else 0 := by
  unfold q_X9_isLetter
  by_cases h1 : 97 ≤ b
  · rw [if_neg (show ¬ nI b < 97 from nI_nlt (b := 97) h1 (by omega))]
    by_cases h2 : b ≤ 122
    · rw [if_neg (show ¬ (122 : Int32) < nI b from nI_nlt (a := 122) h2 (by omega)), if_pos ⟨h1, h2⟩]
    · rw [if_pos (show (122 : Int32) < nI b from nI_lt (a := 122) (by omega) (by omega)), if_neg (fun z => h2 z.2)]
  · rw [if_pos (show nI b < 97 from nI_lt (b := 97) (by omega) (by omega)), if_neg (fun z => h1 z.1)]
theorem w_isLetter (c : Int32) (s : MH) : M_X10_isLetter [mI c] s = some (some (mI (q_X9_isLetter c)), s) := by
  rw [E_X10_isLetter]
  unfold q_X9_isLetter
  by_cases a : c < 97
  · simp [a]
  · by_cases b : (122 : Int32) < c
    · simp [a, b]
    · simp [a, b]
theorem c97 {a : Nat} (h : 1 ≤ a) : nI (96 + a) - 97 + 1 = nI a := by
  rw [show (97 : Int32) = nI 97 from rfl, nI_sub (by omega), nI_1]
  congr 1
  omega
theorem c27 {v a : Nat} (h : 1 ≤ a) : (27 : Int32) * nI v + nI (96 + a) - 97 + 1 = nI (27 * v + a) := by
  rw [show (27 : Int32) = nI 27 from rfl, nI_mul, nI_add, show (97 : Int32) = nI 97 from rfl, nI_sub (by omega), nI_1]
  congr 1
  omega
theorem sh0 (a : Nat) : nI a <<< ((5 * nI 0) &&& 31) = nI (2 ^ 0 * a) := by
  have e : ((5 * nI 0) &&& 31 : Int32) = 0 := by decide
  rw [e]
  have := pk_shlN (n := a) (0 : Int32) 0 (by decide)
  by_cases h : a * 2 ^ 0 < 2 ^ 32
  · rw [this h, Nat.mul_comm]
  · apply Int32.toBitVec_inj.1
    have : (0 : Int32).toBitVec.smod 32 = 0 := by decide
    rw [Int32.toBitVec_shiftLeft, this]
    simp
theorem sh5 {a : Nat} (h : a < 32) : nI a <<< ((5 * nI 1) &&& 31) = nI (2 ^ 5 * a) := by
  have e : ((5 * nI 1) &&& 31 : Int32) = 5 := by decide
  rw [e, pk_shlN (5 : Int32) 5 (by decide) (by omega), Nat.mul_comm]
theorem sh10 {a : Nat} (h : a < 32) : nI a <<< ((5 * nI 2) &&& 31) = nI (2 ^ 10 * a) := by
  have e : ((5 * nI 2) &&& 31 : Int32) = 10 := by decide
  rw [e, pk_shlN (10 : Int32) 10 (by decide) (by omega), Nat.mul_comm]
theorem sh15 {a : Nat} (h : a < 32) : nI a <<< ((5 * nI 3) &&& 31) = nI (2 ^ 15 * a) := by
  have e : ((5 * nI 3) &&& 31 : Int32) = 15 := by decide
  rw [e, pk_shlN (15 : Int32) 15 (by decide) (by omega), Nat.mul_comm]
/-- a tape of T bytes -/
def Tap (Q : RouV) (T : Nat) : Prop := T ≤ 400 ∧ Q 0 1 = nI T ∧ ∀ k, k < T → ∃ b, b < 256 ∧ Q 1 k = nI b
theorem Tap.in {Q : RouV} {T : Nat} (h : Tap Q T) {k : Nat} (hk : k < T) : q_X5_at Q (nI k) = Q 1 k := by
  have := h.1
  unfold q_X5_at
  rw [if_neg (nI_pos (by omega)), h.2.1, if_neg (nI_ge hk (by omega)), if_neg (show ¬ (400 : Int32) ≤ nI k from nI_ge (b := 400) (by omega) (by decide)), ix_nI (by omega)]
theorem Tap.out {Q : RouV} {T : Nat} (h : Tap Q T) {k : Nat} (hk : T ≤ k) (hb : k < 2 ^ 31) : q_X5_at Q (nI k) = -1 := by
  unfold q_X5_at
  rw [if_neg (nI_pos (by omega)), h.2.1, if_pos (nI_le hk (by omega))]
/-- a letter -/
def Lt (c : Int32) : Prop := ∃ a, 1 ≤ a ∧ a ≤ 26 ∧ c = nI (96 + a)
theorem Tap.lt {Q : RouV} {T : Nat} (h : Tap Q T) {k : Nat} (hk : k < T) : (q_X9_isLetter (Q 1 k) = 1 ∧ Lt (Q 1 k)) ∨ (q_X9_isLetter (Q 1 k) = 0 ∧ ¬ Lt (Q 1 k)) := by
  obtain ⟨b, b1, b2⟩ := h.2.2 k hk
  rw [b2, let_q b1]
  by_cases q : 97 ≤ b ∧ b ≤ 122
  · rw [if_pos q]
    exact Or.inl ⟨rfl, b - 96, by omega, by omega, by congr 1; omega⟩
  · rw [if_neg q]
    refine Or.inr ⟨rfl, ?_⟩
    rintro ⟨a, a1, a2, a3⟩
    have : b = 96 + a := (nI_eq (by omega) (by omega)).mp a3
    omega
theorem lt_q {c : Int32} (h : Lt c) : q_X9_isLetter c = 1 := by
  obtain ⟨a, a1, a2, a3⟩ := h
  rw [a3, let_q (by omega), if_pos (by omega)]
theorem nb_s (Q : RouV) (x1 x3 : Int32) (nn k : Nat) (x4 : Int32) : lp_X9_nameBetween_22 Q x1 x3 (nn + 1) k x4 = (if (q_X9_isLetter (q_X5_at Q (x1 + (nI k)))) = 0 then (0) else lp_X9_nameBetween_22 Q x1 x3 nn (k + 1) (x4 ||| ((((q_X5_at Q (x1 + (nI k))) - 97) + 1) <<< ((5 * (nI k)) &&& 31)))) := rfl
theorem nb_0 (Q : RouV) (x1 x3 : Int32) (k : Nat) (x4 : Int32) : lp_X9_nameBetween_22 Q x1 x3 0 k x4 = x4 := rfl
/-- one that is no letter spoils a name -/
theorem nb_bad {Q : RouV} {T : Nat} (h : Tap Q T) {p : Nat} (x3 : Int32) : ∀ (nn k : Nat) (x4 : Int32), (∃ j, k ≤ j ∧ j < k + nn ∧ p + j < T ∧ ¬ Lt (Q 1 (p + j))) → p + k + nn ≤ T → lp_X9_nameBetween_22 Q (nI p) x3 nn k x4 = 0
  | 0, k, x4, ⟨j, h1, h2, _⟩, _ => by omega
  | nn + 1, k, x4, ⟨j, h1, h2, h3, h4⟩, hT => by
    rw [nb_s, nI_add, h.in (show p + k < T by omega)]
    rcases h.lt (show p + k < T by omega) with ⟨q1, q2⟩ | ⟨q1, q2⟩
    · rw [q1, if_neg i10]
      refine nb_bad h x3 nn (k + 1) _ ⟨j, ?_, by omega, h3, h4⟩ (by omega)
      rcases Nat.eq_or_lt_of_le h1 with z | z
      · subst z; exact absurd q2 h4
      · omega
    · rw [q1, if_pos rfl]
theorem nb_1 {Q : RouV} {T : Nat} (h : Tap Q T) {p a : Nat} (x3 : Int32) (hp : p < T) (ha : 1 ≤ a ∧ a ≤ 26) (ea : Q 1 p = nI (96 + a)) : lp_X9_nameBetween_22 Q (nI p) x3 1 0 0 = nI (pck a 0 0 0) := by
  rw [nb_s, nb_0, nI_add, Nat.add_zero, h.in hp, lt_q ⟨a, ha.1, ha.2, ea⟩, if_neg i10, ea, c97 ha.1, sh0]
  rw [show (0 : Int32) = nI 0 from rfl, or_sum (k := 0) a (by omega)]
  congr 1
  unfold pck
  omega
theorem nb_2 {Q : RouV} {T : Nat} (h : Tap Q T) {p a b : Nat} (x3 : Int32) (hp : p + 1 < T) (ha : 1 ≤ a ∧ a ≤ 26) (ea : Q 1 p = nI (96 + a)) (hb : 1 ≤ b ∧ b ≤ 26) (eb : Q 1 (p + 1) = nI (96 + b)) : lp_X9_nameBetween_22 Q (nI p) x3 2 0 0 = nI (pck a b 0 0) := by
  rw [nb_s, nI_add, Nat.add_zero, h.in (by omega), lt_q ⟨a, ha.1, ha.2, ea⟩, if_neg i10, ea, c97 ha.1, sh0, show (0 : Int32) = nI 0 from rfl, or_sum (k := 0) a (by omega)]
  rw [nb_s, nb_0, nI_add, h.in (by omega), eb, lt_q ⟨b, hb.1, hb.2, rfl⟩, if_neg i10, c97 hb.1, sh5 (by omega), or_sum (k := 5) b (by omega)]
  congr 1
  unfold pck
  omega
theorem nb_3 {Q : RouV} {T : Nat} (h : Tap Q T) {p a b c : Nat} (x3 : Int32) (hp : p + 2 < T) (ha : 1 ≤ a ∧ a ≤ 26) (ea : Q 1 p = nI (96 + a)) (hb : 1 ≤ b ∧ b ≤ 26) (eb : Q 1 (p + 1) = nI (96 + b)) (hc : 1 ≤ c ∧ c ≤ 26) (ec : Q 1 (p + 2) = nI (96 + c)) : lp_X9_nameBetween_22 Q (nI p) x3 3 0 0 = nI (pck a b c 0) := by
  rw [nb_s, nI_add, Nat.add_zero, h.in (by omega), lt_q ⟨a, ha.1, ha.2, ea⟩, if_neg i10, ea, c97 ha.1, sh0, show (0 : Int32) = nI 0 from rfl, or_sum (k := 0) a (by omega)]
  rw [nb_s, nI_add, h.in (by omega), eb, lt_q ⟨b, hb.1, hb.2, rfl⟩, if_neg i10, c97 hb.1, sh5 (by omega), or_sum (k := 5) b (by omega)]
  rw [nb_s, nb_0, nI_add, h.in (by omega), ec, lt_q ⟨c, hc.1, hc.2, rfl⟩, if_neg i10, c97 hc.1, sh10 (by omega), or_sum (k := 10) c (by omega)]
  congr 1
  unfold pck
  omega
theorem nb_4 {Q : RouV} {T : Nat} (h : Tap Q T) {p a b c d : Nat} (x3 : Int32) (hp : p + 3 < T) (ha : 1 ≤ a ∧ a ≤ 26) (ea : Q 1 p = nI (96 + a)) (hb : 1 ≤ b ∧ b ≤ 26) (eb : Q 1 (p + 1) = nI (96 + b)) (hc : 1 ≤ c ∧ c ≤ 26) (ec : Q 1 (p + 2) = nI (96 + c)) (hd : 1 ≤ d ∧ d ≤ 26) (ed : Q 1 (p + 3) = nI (96 + d)) : lp_X9_nameBetween_22 Q (nI p) x3 4 0 0 = nI (pck a b c d) := by
  rw [nb_s, nI_add, Nat.add_zero, h.in (by omega), lt_q ⟨a, ha.1, ha.2, ea⟩, if_neg i10, ea, c97 ha.1, sh0, show (0 : Int32) = nI 0 from rfl, or_sum (k := 0) a (by omega)]
  rw [nb_s, nI_add, h.in (by omega), eb, lt_q ⟨b, hb.1, hb.2, rfl⟩, if_neg i10, c97 hb.1, sh5 (by omega), or_sum (k := 5) b (by omega)]
  rw [nb_s, nI_add, h.in (by omega), ec, lt_q ⟨c, hc.1, hc.2, rfl⟩, if_neg i10, c97 hc.1, sh10 (by omega), or_sum (k := 10) c (by omega)]
  rw [nb_s, nb_0, nI_add, h.in (by omega), ed, lt_q ⟨d, hd.1, hd.2, rfl⟩, if_neg i10, c97 hd.1, sh15 (by omega), or_sum (k := 15) d (by omega)]
  congr 1
  unfold pck
  omega
/-- the reference's number of n letters from p on -/
def rnm (B : RowV) (p : Nat) : Nat → Int32
  | 0 => 0
  | n + 1 => 27 * rnm B p n + B (p + n) - 97 + 1
/-- a name between p and p + n, on both sides -/
theorem nb_all {Q : RouV} {T : Nat} (h : Tap Q T) {p n : Nat} (hp : p + n ≤ T) (hl : ∀ j, j < n → Lt (Q 1 (p + j))) (h1 : 1 ≤ n) (h4 : n ≤ 4) : Nm (q_X9_nameBetween Q (nI p) (nI (p + n))) (rnm (Q 1) p n) := by
  have T4 := h.1
  unfold q_X9_nameBetween o_X9_nameBetween
  rw [nI_sub (by omega), show p + n - p = n by omega, if_neg (show ¬ nI n < 1 from nI_nlt (b := 1) h1 (by omega)), if_pos (show nI n ≤ 4 from nI_le (b := 4) h4 (by decide)), ix_nI (by omega)]
  have l0 : ∀ j, j < n → ∃ a, 1 ≤ a ∧ a ≤ 26 ∧ Q 1 (p + j) = nI (96 + a) := hl
  have z0 : (0 : Int32) = nI 0 := rfl
  rcases (show n = 1 ∨ n = 2 ∨ n = 3 ∨ n = 4 by omega) with q | q | q | q
  · subst q
    obtain ⟨a, a1, a2, a3⟩ := l0 0 (by omega)
    refine ⟨a, 0, 0, 0, ⟨a1, a2, by omega, by omega, by omega, fun _ => rfl, fun _ => rfl⟩, nb_1 h _ (by omega) ⟨a1, a2⟩ a3, ?_⟩
    show 27 * (0 : Int32) + Q 1 (p + 0) - 97 + 1 = _
    rw [a3, z0, c27 a1]
    congr 1
    unfold b27
    rw [if_pos rfl]
    omega
  · subst q
    obtain ⟨a, a1, a2, a3⟩ := l0 0 (by omega)
    obtain ⟨b, b1, b2, b3⟩ := l0 1 (by omega)
    refine ⟨a, b, 0, 0, ⟨a1, a2, by omega, by omega, by omega, fun z => by omega, fun _ => rfl⟩, nb_2 h _ (by omega) ⟨a1, a2⟩ a3 ⟨b1, b2⟩ b3, ?_⟩
    show 27 * (27 * (0 : Int32) + Q 1 (p + 0) - 97 + 1) + Q 1 (p + 1) - 97 + 1 = _
    rw [a3, z0, c27 a1, b3, c27 b1]
    congr 1
    unfold b27
    rw [if_neg (by omega), if_pos rfl]
    omega
  · subst q
    obtain ⟨a, a1, a2, a3⟩ := l0 0 (by omega)
    obtain ⟨b, b1, b2, b3⟩ := l0 1 (by omega)
    obtain ⟨c, c1, c2, c3⟩ := l0 2 (by omega)
    refine ⟨a, b, c, 0, ⟨a1, a2, by omega, by omega, by omega, fun z => by omega, fun _ => rfl⟩, nb_3 h _ (by omega) ⟨a1, a2⟩ a3 ⟨b1, b2⟩ b3 ⟨c1, c2⟩ c3, ?_⟩
    show 27 * (27 * (27 * (0 : Int32) + Q 1 (p + 0) - 97 + 1) + Q 1 (p + 1) - 97 + 1) + Q 1 (p + 2) - 97 + 1 = _
    rw [a3, z0, c27 a1, b3, c27 b1, c3, c27 c1]
    congr 1
    unfold b27
    rw [if_neg (by omega), if_neg (by omega), if_pos rfl]
    omega
  · subst q
    obtain ⟨a, a1, a2, a3⟩ := l0 0 (by omega)
    obtain ⟨b, b1, b2, b3⟩ := l0 1 (by omega)
    obtain ⟨c, c1, c2, c3⟩ := l0 2 (by omega)
    obtain ⟨d, d1, d2, d3⟩ := l0 3 (by omega)
    refine ⟨a, b, c, d, ⟨a1, a2, by omega, by omega, by omega, fun z => by omega, fun z => by omega⟩, nb_4 h _ (by omega) ⟨a1, a2⟩ a3 ⟨b1, b2⟩ b3 ⟨c1, c2⟩ c3 ⟨d1, d2⟩ d3, ?_⟩
    show 27 * (27 * (27 * (27 * (0 : Int32) + Q 1 (p + 0) - 97 + 1) + Q 1 (p + 1) - 97 + 1) + Q 1 (p + 2) - 97 + 1) + Q 1 (p + 3) - 97 + 1 = _
    rw [a3, z0, c27 a1, b3, c27 b1, c3, c27 c1, d3, c27 d1]
    congr 1
    unfold b27
    rw [if_neg (by omega), if_neg (by omega), if_neg (by omega)]
    omega
/-- what is no name is none -/
theorem nb_none {Q : RouV} {T : Nat} (h : Tap Q T) {p n : Nat} (hp : p + n ≤ T) (hn : n = 0 ∨ 4 < n ∨ ∃ j, j < n ∧ ¬ Lt (Q 1 (p + j))) : q_X9_nameBetween Q (nI p) (nI (p + n)) = 0 := by
  have T4 := h.1
  unfold q_X9_nameBetween o_X9_nameBetween
  rw [nI_sub (by omega), show p + n - p = n by omega]
  by_cases q : n < 1
  · rw [if_pos (show nI n < 1 from nI_lt (b := 1) q (by decide))]
  · rw [if_neg (show ¬ nI n < 1 from nI_nlt (b := 1) (by omega) (by omega))]
    by_cases q4 : n ≤ 4
    · rw [if_pos (show nI n ≤ 4 from nI_le (b := 4) q4 (by decide)), ix_nI (by omega)]
      rcases hn with z | z | ⟨j, j1, j2⟩
      · omega
      · omega
      · exact nb_bad h _ n 0 0 ⟨j, Nat.zero_le _, by omega, by omega, j2⟩ (by omega)
    · rw [if_neg (show ¬ nI n ≤ 4 from nI_ge (a := 4) (by omega) (by omega))]

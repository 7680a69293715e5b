section
/-! A whole walk, on both sides. -/
theorem Stq.trans {wk : Option Nat} {U : NodV} {V V1 V2 : MemV} {H : OneV} {W : WkV} {D1 D2 : RowV} {n vol t1 t2 T tl1 tl2 : Nat} {x : Nat → Nat} (s1 : Stq wk U V V1 H W D1 n vol t1 T tl1 x) (s2 : Stq wk U V1 V2 H W D2 n vol t2 T tl2 x) : Stq wk U V V2 H W D2 n vol t2 T tl2 x := by
  obtain ⟨a1, b1, c1, d1, e1, f1, g1, i1⟩ := s1
  obtain ⟨a2, b2, c2, d2, e2, f2, g2, i2⟩ := s2
  refine ⟨a2, b2, c2, d2, e2.trans e1, f2.trans f1, g2.trans g1, fun k h1 h2 h3 => ?_⟩
  have z := i1 k h1 h2 h3
  exact z.trans (i2 k h1 (by rw [z.1]; exact h2) h3)
theorem Stq.hx {wk : Option Nat} {U : NodV} {V V' : MemV} {H : OneV} {W : WkV} {D : RowV} {n vol t T t0 tl : Nat} {x : Nat → Nat} (s : Stq wk U V V' H W D n vol t T tl x) (i : Inv U V H W n vol t0 T x) (hx : ∀ e, e < 64 → ¬ x e = 0 → ¬ V 4 e = -1) : ∀ e, e < 64 → ¬ x e = 0 → ¬ V' 4 e = -1 := by
  intro e he h0
  have v1 : ¬ V 1 e = 0 := fun z => h0 ((i.L e he).1 z)
  rw [(s.2.2.2.2.2.2.2 e he v1 h0).2.2.2.1]
  exact hx e he h0
theorem stepAt_k {L : Nat} {P : RouV} {lp k : Nat} (hp : P 0 1 = nI lp) (hk : k < lp) (hL : lp ≤ L) (hb : L < 1000) : q_X4_stepAt L P (nI k) = P 1 k := by
  unfold q_X4_stepAt
  rw [if_neg (nI_pos (by omega)), hp, if_neg (nI_ge hk (by omega)), if_neg (nI_ge (show k < L by omega) (by omega)), ix_nI (by omega)]
/-- what a walk comes to -/
def Wko (V' : MemV) (q how c' : Int32) : Prop := (how = 0 ∧ ∃ a', c' = nI a' ∧ q = nI a' ∧ At V' a') ∨ (how = -2 ∧ q = -2) ∨ (how = -3 ∧ q = -3)
theorem walks_loop {U : NodV} {H : OneV} {W : WkV} {n vol T : Nat} {x : Nat → Nat} {J : MJ} (h : RefL J) (I : MI) (hb : HB (I 188 20) x) (hw : I 188 21 = -1) {s1 : Nat} (hs1 : jS J s1 = (11, 64)) (hs : s1 ≠ 188 ∧ s1 ≠ 194 ∧ s1 ≠ 195) {L lp m : Nat} {P : RouV} (hp : P 0 1 = nI lp) (hm : m ≤ lp) (hL : lp ≤ L) (hLb : L < 1000) (m64 : m ≤ 64) (hst : ∀ k, k < m → NmS (P 1 k) (I s1 k)) (x2 : Int32) : ∀ (nn k : Nat) (V : MemV) (D G : RowV) (a t : Nat), k + nn = m → Rel none U V H W D n → Inv U V H W n vol t T x → CntI V → (∀ e, e < 64 → ¬ x e = 0 → ¬ V 4 e = -1) → At V a → t + 2 * nn ≤ T → ∃ D' G' c' how t', Ev T_X10_walks 23 [some (mR (some 188)), some (mR (some s1)), some (mI (nI m)), some (mI 0), some (mI (nI k))] [] (rF I D G (nI a), J) = some (some (mI how), (rF I D' G' c', J)) ∧ Stq none U V (lp_X1_walk_8 L P U x2 nn k (nI a) V).2 H W D' n vol t' T 0 x ∧ t ≤ t' ∧ t' ≤ t + 2 * nn ∧ Wko (lp_X1_walk_8 L P U x2 nn k (nI a) V).2 (lp_X1_walk_8 L P U x2 nn k (nI a) V).1 how c' := by
  intro nn
  induction nn with
  | zero =>
    intro k V D G a t hk r i C hx ha tT
    refine ⟨D, G, nI a, 0, t, ?_, Stq.refl r i C (TlI.none V W 0), by omega, by omega, Or.inl ⟨rfl, a, rfl, rfl, ha⟩⟩
    rw [E_X10_walks_23, if_pos (nI_le (by omega) (by omega))]
  | succ nn ih =>
    intro k V D G a t hk r i C hx ha tT
    have st := stepAt_k hp (show k < lp by omega) hL hLb
    have ev : lp_X1_walk_8 L P U x2 (nn + 1) k (nI a) V = lp_X1_walk_8 L P U x2 nn (k + 1) (q_X1_stepFrom U V (nI a) (P 1 k)) (gV_X1_stepFrom U V (nI a) (P 1 k)) := by
      show (if nI a < 0 then _ else _) = _
      rw [if_neg (nI_pos (by have := ha.1; omega)), st]
    rw [ev]
    obtain ⟨D1, G1, c1, how, t1, tl, g1, g2, g3, g4, g5⟩ := r.tzi.steps0 i C hx h I hb hw G (TlI.none _ W 0) ha (hst k (by omega)) (show t + 2 ≤ T by omega)
    have g2' : Stq none U V (gV_X1_stepFrom U V (nI a) (P 1 k)) H W D1 n vol t1 T 0 x := ⟨g2.1, g2.2.1, g2.2.2.1, TlI.none _ W 0, g2.2.2.2.2⟩
    have ldq : ld (rF I D G (nI a), J) 11 s1 (nI k) = some (I s1 k) := by
      rw [ld_ok _ hs1 (inb_nI (by omega) (by decide)), rF_o _ _ _ _ hs.1 hs.2.1 hs.2.2, show (nI k).toNatClampNeg = k from ix_nI (by omega)]
    have go : ∀ z, Ev T_X10_walks 23 [some (mR (some 188)), some (mR (some s1)), some (mI (nI m)), some (mI 0), some (mI (nI k))] [] (rF I D G (nI a), J) = z ↔ Ev T_X10_walks 23 [some (mR (some 188)), some (mR (some s1)), some (mI (nI m)), some (mI how), some (mI (nI (k + 1)))] [] (rF I D1 G1 c1, J) = z := fun z => by
      rw [E_X10_walks_23 188 s1 (nI m) 0 (nI k), if_neg (nI_ge (show k < m by omega) (by omega)), if_pos rfl]
      simp only [ldq, Option.bind_some, h.kt, if_true, g1, asI_I, nI_1]
    have stop : ∀ hw, ¬ hw = 0 → Ev T_X10_walks 23 [some (mR (some 188)), some (mR (some s1)), some (mI (nI m)), some (mI hw), some (mI (nI (k + 1)))] [] (rF I D1 G1 c1, J) = some (some (mI hw), (rF I D1 G1 c1, J)) := fun hw hne => by
      rw [E_X10_walks_23]
      by_cases z : nI m ≤ nI (k + 1)
      · rw [if_pos z]
      · rw [if_neg z, if_neg hne]
    have lneg : ∀ y : Int32, y < 0 → lp_X1_walk_8 L P U x2 nn (k + 1) y (gV_X1_stepFrom U V (nI a) (P 1 k)) = (y, gV_X1_stepFrom U V (nI a) (P 1 k)) := fun y hy => by
      cases nn with
      | zero => rfl
      | succ nn =>
        show (if y < 0 then _ else _) = _
        rw [if_pos hy]
    rcases g5 with ⟨w1, a', w2, w3, w4, _⟩ | ⟨w1, w2, _⟩ | ⟨w1, w2, _⟩
    · subst w1
      rw [w3]
      subst w2
      obtain ⟨D2, G2, c2, how2, t2, k1, k2, k3, k4, k5⟩ := ih (k + 1) (gV_X1_stepFrom U V (nI a) (P 1 k)) D1 G1 a' t1 (by omega) g2'.1 g2'.2.1 g2'.2.2.1 (g2'.hx i hx) w4 (by omega)
      exact ⟨D2, G2, c2, how2, t2, (go _).mpr k1, g2'.trans k2, by omega, by omega, k5⟩
    · subst w1
      rw [w2, lneg (-2) (by decide)]
      exact ⟨D1, G1, c1, -2, t1, (go _).mpr (stop _ (by decide)), g2', by omega, by omega, Or.inr (Or.inl ⟨rfl, rfl⟩)⟩
    · subst w1
      rw [w2, lneg (-3) (by decide)]
      exact ⟨D1, G1, c1, -3, t1, (go _).mpr (stop _ (by decide)), g2', by omega, by omega, Or.inr (Or.inr ⟨rfl, rfl⟩)⟩
theorem MemI.rootA {U : NodV} {V : MemV} {n vol : Nat} (h : MemI U V n vol) (hN : NodI U n vol) {v : Nat} (hv : v < 3) (hm : ¬ V 9 v = -1) : ∃ r, V 9 v = nI r ∧ At V r ∧ V 2 r = -1 ∧ V 4 r = U 5 v := by
  have n60 := hN.n60
  rcases h.rt v hv with ⟨z, _⟩ | ⟨vv, r, r64, r1, r2, r3, r4⟩
  · exact absurd z hm
  · obtain ⟨k, k1, k2, _⟩ := hN.rts v vv
    exact ⟨r, r1, ⟨r64, r2, by rw [r4, k2]; exact nI_m1 (by omega)⟩, r3, r4⟩
theorem Rel.walks {U : NodV} {V : MemV} {H : OneV} {W : WkV} {D : RowV} {n vol t T : Nat} {x : Nat → Nat} (r : Rel none U V H W D n) (i : Inv U V H W n vol t T x) (C : CntI V) (hx : ∀ e, e < 64 → ¬ x e = 0 → ¬ V 4 e = -1) {J : MJ} (h : RefL J) (I : MI) (hb : HB (I 188 20) x) (hw : I 188 21 = -1) (G : RowV) (c : Int32) {s1 : Nat} (hs1 : jS J s1 = (11, 64)) (hs : s1 ≠ 188 ∧ s1 ≠ 194 ∧ s1 ≠ 195) {L lp m : Nat} {P : RouV} (hp : P 0 1 = nI lp) (hm : m ≤ lp) (hL : lp ≤ L) (hLb : L < 1000) (m64 : m ≤ 64) (hst : ∀ k, k < m → NmS (P 1 k) (I s1 k)) (x2 : Int32) (h2 : ix x2 = m) (tT : t + 2 * m + 1 ≤ T) : ∃ D' G' c' how t', M_X10_walks [mR (some 188), mR (some s1), mI (nI m)] (rF I D G c, J) = some (some (mI how), (rF I D' G' c', J)) ∧ Stq none U V (gV_X1_walk L P U V x2) H W D' n vol t' T 0 x ∧ t ≤ t' ∧ t' ≤ t + 2 * m + 1 ∧ Wko (gV_X1_walk L P U V x2) (q_X1_walk L P U V x2) how c' := by
  obtain ⟨ro, ro1, roA, _⟩ := i.M.rootA i.N (show 0 < 3 by decide) (by obtain ⟨z, z1, z2⟩ := i.M.r0; rw [z2]; exact nI_m1 (by omega))
  have r0 := r.tzi
  have i0 := i.tzi
  have C0 := C.tzi
  have ro0 : ¬ tz V 1 ro = 0 := by rw [(roA.tzi).2.1]; exact i10
  obtain ⟨D1, d1, d2⟩ := (Stq.refl r0 i0 C0 (TlI.none _ W 0)).come (by decide) h I hw G (nI ro) (by omega) roA.1 ro0
  have d2' := d2.of0
  have ct : gV_X1_comeToRoot V = gV_X1_comeTo (tz V) (nI ro) := by
    unfold gV_X1_comeToRoot
    rw [ro1]
    rfl
  have cq : q_X1_comeToRoot V = nI ro := by
    unfold q_X1_comeToRoot
    rw [cT_k _ _ _ (by decide) (by decide) (by decide)]
    exact ro1
  obtain ⟨D2, G2, c2, how, t2, k1, k2, k3, k4, k5⟩ := walks_loop h I hb hw hs1 hs hp hm hL hLb m64 hst x2 m 0 (gV_X1_comeTo (tz V) (nI ro)) D1 G ro (t + 1) (by omega) d2'.1 d2'.2.1 d2'.2.2.1 (d2'.hx i hx) (roA.tzi.come _) (by omega)
  refine ⟨D2, G2, c2, how, t2, ?_, ?_, by omega, by omega, ?_⟩
  · rw [E_X10_walks]
    have o5 : D 5 = nI ro := (r.B.rt 0 (by decide)).trans ro1
    simp only [h.f18, Option.bind_some, h.ldD _ (show (5 : Int32) = nI 5 from rfl) (show 5 < 1853 by decide), rF_D, o5, h.wi, rF_sc, h.fi, rF_c, h.kt, if_true, d1, asV_n]
    rw [show (nI 0) = 0 from rfl] at k1
    exact k1
  · unfold gV_X1_walk o_X1_walk
    rw [h2, ct, cq]
    exact (show Stq none U V (gV_X1_comeTo (tz V) (nI ro)) H W D1 n vol (t + 1) T 0 x from ⟨d2'.1, d2'.2.1, d2'.2.2.1, TlI.none _ W 0, d2'.2.2.2.2⟩).trans k2
  · unfold gV_X1_walk q_X1_walk o_X1_walk
    rw [h2, ct, cq]
    exact k5
end
section
/-! Names and steps on the tape, on both sides. -/
theorem or_sum {a k : Nat} (b : Nat) (h : a < 2 ^ k) : nI a ||| nI (2 ^ k * b) = nI (a + 2 ^ k * b) := by
  have e : ∀ a b, nI a ||| nI b = nI (a ||| b) := fun a b => by
    apply Int32.toBitVec_inj.1
    show BitVec.ofNat 32 a ||| BitVec.ofNat 32 b = BitVec.ofNat 32 (a ||| b)
    apply BitVec.eq_of_getLsbD_eq
    intro i hi
    simp [hi]
  rw [e, Nat.or_comm, ← Nat.two_pow_add_eq_or_of_lt h, Nat.add_comm]
theorem let_q {b : Nat} (hb : b < 256) : q_X9_isLetter (nI b) = if 97 ≤ b ∧ b ≤ 122 then 1 else 0 := by
  unfold q_X9_isLetter
  by_cases h1 : 97 ≤ b
  · rw [if_neg (show ¬ nI b < 97 from nI_nlt (b := 97) h1 (by omega))]
    by_cases h2 : b ≤ 122
    · rw [if_neg (show ¬ (122 : Int32) < nI b from nI_nlt (a := 122) h2 (by omega)), if_pos ⟨h1, h2⟩]
    · rw [if_pos (show (122 : Int32) < nI b from nI_lt (a := 122) (by omega) (by omega)), if_neg (fun z => h2 z.2)]
  · rw [if_pos (show nI b < 97 from nI_lt (b := 97) (by omega) (by omega)), if_neg (fun z => h1 z.1)]
theorem w_isLetter (c : Int32) (s : MH) : M_X10_isLetter [mI c] s = some (some (mI (q_X9_isLetter c)), s) := by
  rw [E_X10_isLetter]
  unfold q_X9_isLetter
  by_cases a : c < 97
  · simp [a]
  · by_cases b : (122 : Int32) < c
    · simp [a, b]
    · simp [a, b]
theorem c97 {a : Nat} (h : 1 ≤ a) : nI (96 + a) - 97 + 1 = nI a := by
  rw [show (97 : Int32) = nI 97 from rfl, nI_sub (by omega), nI_1]
  congr 1
  omega
theorem c27 {v a : Nat} (h : 1 ≤ a) : (27 : Int32) * nI v + nI (96 + a) - 97 + 1 = nI (27 * v + a) := by
  rw [show (27 : Int32) = nI 27 from rfl, nI_mul, nI_add, show (97 : Int32) = nI 97 from rfl, nI_sub (by omega), nI_1]
  congr 1
  omega
theorem sh0 (a : Nat) : nI a <<< ((5 * nI 0) &&& 31) = nI (2 ^ 0 * a) := by
  have e : ((5 * nI 0) &&& 31 : Int32) = 0 := by decide
  rw [e]
  have := pk_shlN (n := a) (0 : Int32) 0 (by decide)
  by_cases h : a * 2 ^ 0 < 2 ^ 32
  · rw [this h, Nat.mul_comm]
  · apply Int32.toBitVec_inj.1
    have : (0 : Int32).toBitVec.smod 32 = 0 := by decide
    rw [Int32.toBitVec_shiftLeft, this]
    simp
theorem sh5 {a : Nat} (h : a < 32) : nI a <<< ((5 * nI 1) &&& 31) = nI (2 ^ 5 * a) := by
  have e : ((5 * nI 1) &&& 31 : Int32) = 5 := by decide
  rw [e, pk_shlN (5 : Int32) 5 (by decide) (by omega), Nat.mul_comm]
theorem sh10 {a : Nat} (h : a < 32) : nI a <<< ((5 * nI 2) &&& 31) = nI (2 ^ 10 * a) := by
  have e : ((5 * nI 2) &&& 31 : Int32) = 10 := by decide
  rw [e, pk_shlN (10 : Int32) 10 (by decide) (by omega), Nat.mul_comm]
theorem sh15 {a : Nat} (h : a < 32) : nI a <<< ((5 * nI 3) &&& 31) = nI (2 ^ 15 * a) := by
  have e : ((5 * nI 3) &&& 31 : Int32) = 15 := by decide
  rw [e, pk_shlN (15 : Int32) 15 (by decide) (by omega), Nat.mul_comm]
/-- a tape of T bytes -/
def Tap (Q : RouV) (T : Nat) : Prop := T ≤ 400 ∧ Q 0 1 = nI T ∧ ∀ k, k < T → ∃ b, b < 256 ∧ Q 1 k = nI b
theorem Tap.in {Q : RouV} {T : Nat} (h : Tap Q T) {k : Nat} (hk : k < T) : q_X5_at Q (nI k) = Q 1 k := by
  have := h.1
  unfold q_X5_at
  rw [if_neg (nI_pos (by omega)), h.2.1, if_neg (nI_ge hk (by omega)), if_neg (show ¬ (400 : Int32) ≤ nI k from nI_ge (b := 400) (by omega) (by decide)), ix_nI (by omega)]
theorem Tap.out {Q : RouV} {T : Nat} (h : Tap Q T) {k : Nat} (hk : T ≤ k) (hb : k < 2 ^ 31) : q_X5_at Q (nI k) = -1 := by
  unfold q_X5_at
  rw [if_neg (nI_pos (by omega)), h.2.1, if_pos (nI_le hk (by omega))]
/-- a letter -/
def Lt (c : Int32) : Prop := ∃ a, 1 ≤ a ∧ a ≤ 26 ∧ c = nI (96 + a)
theorem Tap.lt {Q : RouV} {T : Nat} (h : Tap Q T) {k : Nat} (hk : k < T) : (q_X9_isLetter (Q 1 k) = 1 ∧ Lt (Q 1 k)) ∨ (q_X9_isLetter (Q 1 k) = 0 ∧ ¬ Lt (Q 1 k)) := by
  obtain ⟨b, b1, b2⟩ := h.2.2 k hk
  rw [b2, let_q b1]
  by_cases q : 97 ≤ b ∧ b ≤ 122
  · rw [if_pos q]
    exact Or.inl ⟨rfl, b - 96, by omega, by omega, by congr 1; omega⟩
  · rw [if_neg q]
    refine Or.inr ⟨rfl, ?_⟩
    rintro ⟨a, a1, a2, a3⟩
    have : b = 96 + a := (nI_eq (by omega) (by omega)).mp a3
    omega
theorem lt_q {c : Int32} (h : Lt c) : q_X9_isLetter c = 1 := by
  obtain ⟨a, a1, a2, a3⟩ := h
  rw [a3, let_q (by omega), if_pos (by omega)]
theorem nb_s (Q : RouV) (x1 x3 : Int32) (nn k : Nat) (x4 : Int32) : lp_X9_nameBetween_22 Q x1 x3 (nn + 1) k x4 = (if (q_X9_isLetter (q_X5_at Q (x1 + (nI k)))) = 0 then (0) else lp_X9_nameBetween_22 Q x1 x3 nn (k + 1) (x4 ||| ((((q_X5_at Q (x1 + (nI k))) - 97) + 1) <<< ((5 * (nI k)) &&& 31)))) := rfl
theorem nb_0 (Q : RouV) (x1 x3 : Int32) (k : Nat) (x4 : Int32) : lp_X9_nameBetween_22 Q x1 x3 0 k x4 = x4 := rfl
/-- one that is no letter spoils a name -/
theorem nb_bad {Q : RouV} {T : Nat} (h : Tap Q T) {p : Nat} (x3 : Int32) : ∀ (nn k : Nat) (x4 : Int32), (∃ j, k ≤ j ∧ j < k + nn ∧ p + j < T ∧ ¬ Lt (Q 1 (p + j))) → p + k + nn ≤ T → lp_X9_nameBetween_22 Q (nI p) x3 nn k x4 = 0
  | 0, k, x4, ⟨j, h1, h2, _⟩, _ => by omega
  | nn + 1, k, x4, ⟨j, h1, h2, h3, h4⟩, hT => by
    rw [nb_s, nI_add, h.in (show p + k < T by omega)]
    rcases h.lt (show p + k < T by omega) with ⟨q1, q2⟩ | ⟨q1, q2⟩
    · rw [q1, if_neg i10]
      refine nb_bad h x3 nn (k + 1) _ ⟨j, ?_, by omega, h3, h4⟩ (by omega)
      rcases Nat.eq_or_lt_of_le h1 with z | z
      · subst z; exact absurd q2 h4
      · omega
    · rw [q1, if_pos rfl]
theorem nb_1 {Q : RouV} {T : Nat} (h : Tap Q T) {p a : Nat} (x3 : Int32) (hp : p < T) (ha : 1 ≤ a ∧ a ≤ 26) (ea : Q 1 p = nI (96 + a)) : lp_X9_nameBetween_22 Q (nI p) x3 1 0 0 = nI (pck a 0 0 0) := by
  rw [nb_s, nb_0, nI_add, Nat.add_zero, h.in hp, lt_q ⟨a, ha.1, ha.2, ea⟩, if_neg i10, ea, c97 ha.1, sh0]
  rw [show (0 : Int32) = nI 0 from rfl, or_sum (k := 0) a (by omega)]
  congr 1
  unfold pck
  omega
theorem nb_2 {Q : RouV} {T : Nat} (h : Tap Q T) {p a b : Nat} (x3 : Int32) (hp : p + 1 < T) (ha : 1 ≤ a ∧ a ≤ 26) (ea : Q 1 p = nI (96 + a)) (hb : 1 ≤ b ∧ b ≤ 26) (eb : Q 1 (p + 1) = nI (96 + b)) : lp_X9_nameBetween_22 Q (nI p) x3 2 0 0 = nI (pck a b 0 0) := by
  rw [nb_s, nI_add, Nat.add_zero, h.in (by omega), lt_q ⟨a, ha.1, ha.2, ea⟩, if_neg i10, ea, c97 ha.1, sh0, show (0 : Int32) = nI 0 from rfl, or_sum (k := 0) a (by omega)]
  rw [nb_s, nb_0, nI_add, h.in (by omega), eb, lt_q ⟨b, hb.1, hb.2, rfl⟩, if_neg i10, c97 hb.1, sh5 (by omega), or_sum (k := 5) b (by omega)]
  congr 1
  unfold pck
  omega
theorem nb_3 {Q : RouV} {T : Nat} (h : Tap Q T) {p a b c : Nat} (x3 : Int32) (hp : p + 2 < T) (ha : 1 ≤ a ∧ a ≤ 26) (ea : Q 1 p = nI (96 + a)) (hb : 1 ≤ b ∧ b ≤ 26) (eb : Q 1 (p + 1) = nI (96 + b)) (hc : 1 ≤ c ∧ c ≤ 26) (ec : Q 1 (p + 2) = nI (96 + c)) : lp_X9_nameBetween_22 Q (nI p) x3 3 0 0 = nI (pck a b c 0) := by
  rw [nb_s, nI_add, Nat.add_zero, h.in (by omega), lt_q ⟨a, ha.1, ha.2, ea⟩, if_neg i10, ea, c97 ha.1, sh0, show (0 : Int32) = nI 0 from rfl, or_sum (k := 0) a (by omega)]
  rw [nb_s, nI_add, h.in (by omega), eb, lt_q ⟨b, hb.1, hb.2, rfl⟩, if_neg i10, c97 hb.1, sh5 (by omega), or_sum (k := 5) b (by omega)]
  rw [nb_s, nb_0, nI_add, h.in (by omega), ec, lt_q ⟨c, hc.1, hc.2, rfl⟩, if_neg i10, c97 hc.1, sh10 (by omega), or_sum (k := 10) c (by omega)]
  congr 1
  unfold pck
  omega
theorem nb_4 {Q : RouV} {T : Nat} (h : Tap Q T) {p a b c d : Nat} (x3 : Int32) (hp : p + 3 < T) (ha : 1 ≤ a ∧ a ≤ 26) (ea : Q 1 p = nI (96 + a)) (hb : 1 ≤ b ∧ b ≤ 26) (eb : Q 1 (p + 1) = nI (96 + b)) (hc : 1 ≤ c ∧ c ≤ 26) (ec : Q 1 (p + 2) = nI (96 + c)) (hd : 1 ≤ d ∧ d ≤ 26) (ed : Q 1 (p + 3) = nI (96 + d)) : lp_X9_nameBetween_22 Q (nI p) x3 4 0 0 = nI (pck a b c d) := by
  rw [nb_s, nI_add, Nat.add_zero, h.in (by omega), lt_q ⟨a, ha.1, ha.2, ea⟩, if_neg i10, ea, c97 ha.1, sh0, show (0 : Int32) = nI 0 from rfl, or_sum (k := 0) a (by omega)]
  rw [nb_s, nI_add, h.in (by omega), eb, lt_q ⟨b, hb.1, hb.2, rfl⟩, if_neg i10, c97 hb.1, sh5 (by omega), or_sum (k := 5) b (by omega)]
  rw [nb_s, nI_add, h.in (by omega), ec, lt_q ⟨c, hc.1, hc.2, rfl⟩, if_neg i10, c97 hc.1, sh10 (by omega), or_sum (k := 10) c (by omega)]
  rw [nb_s, nb_0, nI_add, h.in (by omega), ed, lt_q ⟨d, hd.1, hd.2, rfl⟩, if_neg i10, c97 hd.1, sh15 (by omega), or_sum (k := 15) d (by omega)]
  congr 1
  unfold pck
  omega
/-- the reference's number of n letters from p on -/
def rnm (B : RowV) (p : Nat) : Nat → Int32
  | 0 => 0
  | n + 1 => 27 * rnm B p n + B (p + n) - 97 + 1
/-- a name between p and p + n, on both sides -/
theorem nb_all {Q : RouV} {T : Nat} (h : Tap Q T) {p n : Nat} (hp : p + n ≤ T) (hl : ∀ j, j < n → Lt (Q 1 (p + j))) (h1 : 1 ≤ n) (h4 : n ≤ 4) : Nm (q_X9_nameBetween Q (nI p) (nI (p + n))) (rnm (Q 1) p n) := by
  have T4 := h.1
  unfold q_X9_nameBetween o_X9_nameBetween
  rw [nI_sub (by omega), show p + n - p = n by omega, if_neg (show ¬ nI n < 1 from nI_nlt (b := 1) h1 (by omega)), if_pos (show nI n ≤ 4 from nI_le (b := 4) h4 (by decide)), ix_nI (by omega)]
  have l0 : ∀ j, j < n → ∃ a, 1 ≤ a ∧ a ≤ 26 ∧ Q 1 (p + j) = nI (96 + a) := hl
  have z0 : (0 : Int32) = nI 0 := rfl
  rcases (show n = 1 ∨ n = 2 ∨ n = 3 ∨ n = 4 by omega) with q | q | q | q
  · subst q
    obtain ⟨a, a1, a2, a3⟩ := l0 0 (by omega)
    refine ⟨a, 0, 0, 0, ⟨a1, a2, by omega, by omega, by omega, fun _ => rfl, fun _ => rfl⟩, nb_1 h _ (by omega) ⟨a1, a2⟩ a3, ?_⟩
    show 27 * (0 : Int32) + Q 1 (p + 0) - 97 + 1 = _
    rw [a3, z0, c27 a1]
    congr 1
    unfold b27
    rw [if_pos rfl]
    omega
  · subst q
    obtain ⟨a, a1, a2, a3⟩ := l0 0 (by omega)
    obtain ⟨b, b1, b2, b3⟩ := l0 1 (by omega)
    refine ⟨a, b, 0, 0, ⟨a1, a2, by omega, by omega, by omega, fun z => by omega, fun _ => rfl⟩, nb_2 h _ (by omega) ⟨a1, a2⟩ a3 ⟨b1, b2⟩ b3, ?_⟩
    show 27 * (27 * (0 : Int32) + Q 1 (p + 0) - 97 + 1) + Q 1 (p + 1) - 97 + 1 = _
    rw [a3, z0, c27 a1, b3, c27 b1]
    congr 1
    unfold b27
    rw [if_neg (by omega), if_pos rfl]
    omega
  · subst q
    obtain ⟨a, a1, a2, a3⟩ := l0 0 (by omega)
    obtain ⟨b, b1, b2, b3⟩ := l0 1 (by omega)
    obtain ⟨c, c1, c2, c3⟩ := l0 2 (by omega)
    refine ⟨a, b, c, 0, ⟨a1, a2, by omega, by omega, by omega, fun z => by omega, fun _ => rfl⟩, nb_3 h _ (by omega) ⟨a1, a2⟩ a3 ⟨b1, b2⟩ b3 ⟨c1, c2⟩ c3, ?_⟩
    show 27 * (27 * (27 * (0 : Int32) + Q 1 (p + 0) - 97 + 1) + Q 1 (p + 1) - 97 + 1) + Q 1 (p + 2) - 97 + 1 = _
    rw [a3, z0, c27 a1, b3, c27 b1, c3, c27 c1]
    congr 1
    unfold b27
    rw [if_neg (by omega), if_neg (by omega), if_pos rfl]
    omega
  · subst q
    obtain ⟨a, a1, a2, a3⟩ := l0 0 (by omega)
    obtain ⟨b, b1, b2, b3⟩ := l0 1 (by omega)
    obtain ⟨c, c1, c2, c3⟩ := l0 2 (by omega)
    obtain ⟨d, d1, d2, d3⟩ := l0 3 (by omega)
    refine ⟨a, b, c, d, ⟨a1, a2, by omega, by omega, by omega, fun z => by omega, fun z => by omega⟩, nb_4 h _ (by omega) ⟨a1, a2⟩ a3 ⟨b1, b2⟩ b3 ⟨c1, c2⟩ c3 ⟨d1, d2⟩ d3, ?_⟩
    show 27 * (27 * (27 * (27 * (0 : Int32) + Q 1 (p + 0) - 97 + 1) + Q 1 (p + 1) - 97 + 1) + Q 1 (p + 2) - 97 + 1) + Q 1 (p + 3) - 97 + 1 = _
    rw [a3, z0, c27 a1, b3, c27 b1, c3, c27 c1, d3, c27 d1]
    congr 1
    unfold b27
    rw [if_neg (by omega), if_neg (by omega), if_neg (by omega)]
    omega
/-- what is no name is none -/
theorem nb_none {Q : RouV} {T : Nat} (h : Tap Q T) {p n : Nat} (hp : p + n ≤ T) (hn : n = 0 ∨ 4 < n ∨ ∃ j, j < n ∧ ¬ Lt (Q 1 (p + j))) : q_X9_nameBetween Q (nI p) (nI (p + n)) = 0 := by
  have T4 := h.1
  unfold q_X9_nameBetween o_X9_nameBetween
  rw [nI_sub (by omega), show p + n - p = n by omega]
  by_cases q : n < 1
  · rw [if_pos (show nI n < 1 from nI_lt (b := 1) q (by decide))]
  · rw [if_neg (show ¬ nI n < 1 from nI_nlt (b := 1) (by omega) (by omega))]
    by_cases q4 : n ≤ 4
    · rw [if_pos (show nI n ≤ 4 from nI_le (b := 4) q4 (by decide)), ix_nI (by omega)]
      rcases hn with z | z | ⟨j, j1, j2⟩
      · omega
      · omega
      · exact nb_bad h _ n 0 0 ⟨j, Nat.zero_le _, by omega, by omega, j2⟩ (by omega)
    · rw [if_neg (show ¬ nI n ≤ 4 from nI_ge (a := 4) (by omega) (by omega))]
end
section
/-! Steps and paths on the tape, on both sides. -/
/-- the reference's heap while it reads: at is p, stepMany is m, steps (192) are S -/
def pF (I : MI) (p m : Int32) (S : RowV) : MI := fun a j => if a = 192 then S j else if a = 188 ∧ j = 2 then p else if a = 188 ∧ j = 15 then m else I a j
theorem pF_2 (I : MI) (p m : Int32) (S : RowV) : pF I p m S 188 2 = p := by
  unfold pF
  rw [if_neg (by decide), if_pos ⟨rfl, rfl⟩]
theorem pF_15 (I : MI) (p m : Int32) (S : RowV) : pF I p m S 188 15 = m := by
  unfold pF
  rw [if_neg (by decide), if_neg (by decide), if_pos ⟨rfl, rfl⟩]
theorem pF_S (I : MI) (p m : Int32) (S : RowV) : pF I p m S 192 = S := by
  funext j
  unfold pF
  rw [if_pos rfl]
theorem pF_k (I : MI) (p m : Int32) (S : RowV) {k : Nat} (h2 : k ≠ 2) (h15 : k ≠ 15) : pF I p m S 188 k = I 188 k := by
  unfold pF
  rw [if_neg (by decide), if_neg (fun q => h2 q.2), if_neg (fun q => h15 q.2)]
theorem pF_o (I : MI) (p m : Int32) (S : RowV) {a : Nat} (h1 : a ≠ 188) (h2 : a ≠ 192) : pF I p m S a = I a := by
  funext j
  unfold pF
  rw [if_neg h2, if_neg (fun q => h1 q.1), if_neg (fun q => h1 q.1)]
theorem pF_s2 (I : MI) (p m : Int32) (S : RowV) (v : Int32) : up2 (pF I p m S) 188 2 v = pF I v m S := by
  funext a j
  unfold up2 pF
  by_cases h : a = 188 ∧ j = 2
  · rw [if_pos h, if_neg (by omega), if_pos h]
  · simp [h]
theorem pF_s15 (I : MI) (p m : Int32) (S : RowV) (v : Int32) : up2 (pF I p m S) 188 15 v = pF I p v S := by
  funext a j
  unfold up2 pF
  by_cases h : a = 188 ∧ j = 15
  · rw [if_pos h, if_neg (by omega), if_neg (by omega), if_pos h]
  · by_cases h2 : a = 188 ∧ j = 2
    · rw [if_neg h, if_neg (by omega), if_pos h2, if_neg (by omega), if_pos h2]
    · simp [h, h2]
theorem pF_sS (I : MI) (p m : Int32) (S : RowV) (i : Nat) (v : Int32) : up2 (pF I p m S) 192 i v = pF I p m (sD S i v) := by
  funext a j
  unfold up2 pF sD
  by_cases h : a = 192
  · subst h
    simp
  · simp [h]
theorem pF_id (I : MI) : pF I (I 188 2) (I 188 15) (I 192) = I := by
  funext a j
  unfold pF
  by_cases h : a = 192
  · rw [if_pos h, h]
  · rw [if_neg h]
    by_cases h2 : a = 188 ∧ j = 2
    · rw [if_pos h2, h2.1, h2.2]
    · rw [if_neg h2]
      by_cases h3 : a = 188 ∧ j = 15
      · rw [if_pos h3, h3.1, h3.2]
      · rw [if_neg h3]
/-- the reference's tape is the class's -/
def RTap (I : MI) (Q : RouV) (T : Nat) : Prop := Tap Q T ∧ I 188 3 = nI T ∧ ∀ k, k < T → I 189 k = Q 1 k
theorem RTap.ld {I : MI} {Q : RouV} {T : Nat} (t : RTap I Q T) {J : MJ} (h : RefL J) (p m : Int32) (S : RowV) {k : Nat} (hk : k < T) {x : Int32} (hx : x = nI k) : ld (pF I p m S, J) 11 189 x = some (Q 1 k) := by
  have := t.1.1
  subst hx
  rw [ld_ok _ h.s0 (inb_nI (show k < 400 by omega) (by decide)), show (nI k).toNatClampNeg = k from ix_nI (by omega), pF_o _ _ _ _ (by decide) (by decide), t.2.2 k hk]
theorem ex_first (P : Nat → Prop) (a : Nat) : ∀ b, a ≤ b → ∃ s, a ≤ s ∧ s ≤ b ∧ (∀ k, a ≤ k → k < s → ¬ P k) ∧ (s = b ∨ P s) := by
  intro b
  induction b with
  | zero => intro h; exact ⟨0, h, Nat.le_refl _, fun k _ z => by omega, Or.inl rfl⟩
  | succ b ih =>
    intro h
    rcases Nat.eq_or_lt_of_le h with q | q
    · exact ⟨b + 1, h, Nat.le_refl _, fun k z1 z2 => by omega, Or.inl rfl⟩
    · obtain ⟨s, s1, s2, s3, s4⟩ := ih (by omega)
      rcases s4 with z | z
      · by_cases w : P b
        · exact ⟨b, by omega, by omega, fun k z1 z2 => s3 k z1 (by omega), Or.inr w⟩
        · refine ⟨b + 1, h, Nat.le_refl _, fun k z1 z2 => ?_, Or.inl rfl⟩
          rcases Nat.lt_or_ge k b with y | y
          · exact s3 k z1 (by omega)
          · have : k = b := by omega
            rw [this]; exact w
      · exact ⟨s, s1, by omega, s3, Or.inr z⟩
/-- a letter or a dot -/
def Ld (c : Int32) : Prop := Lt c ∨ c = 46
/-- the loop over letters -/
theorem w_step120 {I : MI} {Q : RouV} {T : Nat} (t : RTap I Q T) {J : MJ} (h : RefL J) (m : Int32) (S : RowV) {p n : Nat} (hp : p + n ≤ T) : ∀ (nn k : Nat), k + nn = n → ∃ y, Ev T_X10_stepHere 120 [some (mR (some 188)), none, some (mI (nI n)), some (mI (rnm (Q 1) p k)), some (mI (nI (p + k)))] [] (pF I (nI (p + n)) m S, J) = some (some (mI y), (pF I (nI (p + n)) m S, J)) ∧ ((((∃ j, k ≤ j ∧ j < n ∧ ¬ Lt (Q 1 (p + j))) ∨ 4 < n) ∧ y = 0) ∨ ((∀ j, k ≤ j → j < n → Lt (Q 1 (p + j))) ∧ n ≤ 4 ∧ y = rnm (Q 1) p n)) := by
  have T4 := t.1.1
  intro nn
  induction nn with
  | zero =>
    intro k hk
    have : k = n := by omega
    subst this
    rw [E_X10_stepHere_120]
    simp only [h.fi, pF_2, Option.bind_some]
    rw [if_pos (Int32.le_refl _)]
    by_cases q : 4 < k
    · rw [if_neg (show ¬ nI k ≤ 4 from nI_ge (a := 4) q (by omega))]
      exact ⟨0, rfl, Or.inl ⟨Or.inr q, rfl⟩⟩
    · rw [if_pos (show nI k ≤ 4 from nI_le (b := 4) (by omega) (by decide))]
      exact ⟨_, rfl, Or.inr ⟨fun j j1 j2 => by omega, by omega, rfl⟩⟩
  | succ nn ih =>
    intro k hk
    rw [E_X10_stepHere_120]
    simp only [h.fi, pF_2, Option.bind_some, h.f0, t.ld h _ m S (show p + k < T by omega) rfl, w_isLetter, asI_I]
    rw [if_neg (nI_ge (show p + k < p + n by omega) (by omega))]
    rcases t.1.lt (show p + k < T by omega) with ⟨q1, q2⟩ | ⟨q1, q2⟩
    · rw [q1, if_neg i10]
      obtain ⟨y, y1, y2⟩ := ih (k + 1) (by omega)
      rw [show nI (p + k) + 1 = nI (p + (k + 1)) from nI_1 (p + k)]
      refine ⟨y, y1, ?_⟩
      rcases y2 with ⟨z1, z2⟩ | ⟨z1, z2, z3⟩
      · refine Or.inl ⟨?_, z2⟩
        rcases z1 with ⟨j, j1, j2, j3⟩ | z
        · exact Or.inl ⟨j, by omega, j2, j3⟩
        · exact Or.inr z
      · refine Or.inr ⟨fun j j1 j2 => ?_, z2, z3⟩
        rcases Nat.eq_or_lt_of_le j1 with y | y
        · subst y; exact q2
        · exact z1 j (by omega) j2
    · rw [q1, if_pos rfl]
      exact ⟨0, rfl, Or.inl ⟨Or.inl ⟨k, Nat.le_refl _, by omega, q2⟩, rfl⟩⟩
/-- the run of letters and dots -/
theorem w_step5 {I : MI} {Q : RouV} {T : Nat} (t : RTap I Q T) {J : MJ} (h : RefL J) (m : Int32) (S : RowV) {p q : Nat} (hpq : p ≤ q) (hq : q ≤ T) (hr : ∀ k, p ≤ k → k < q → Ld (Q 1 k)) (he : q = T ∨ ¬ Ld (Q 1 q)) : ∃ y, M_X10_stepHere [mR (some 188)] (pF I (nI p) m S, J) = some (some (mI y), (pF I (nI q) m S, J)) ∧ ((y = 0 ∧ q_X9_stepBetween Q (nI p) (nI q) = 0) ∨ NmS (q_X9_stepBetween Q (nI p) (nI q)) y) := by
  have T4 := t.1.1
  obtain ⟨n, rfl⟩ : ∃ n, q = p + n := ⟨q - p, by omega⟩
  have m3 : ∀ a, pF I a m S 188 3 = nI T := fun a => by rw [pF_k _ _ _ _ (by decide) (by decide)]; exact t.2.1
  have l46 : q_X9_isLetter 46 = 0 := by decide
  have n46 : ¬ Lt 46 := by
    rintro ⟨a, a1, a2, a3⟩
    have : (46 : Nat) = 96 + a := (nI_eq (by decide) (by omega)).mp a3
    omega
  have run : ∀ k, k ≤ n → Ev T_X10_stepHere 5 [some (mR (some 188)), some (mI (nI p)), none, none, none] [] (pF I (nI p) m S, J) = Ev T_X10_stepHere 5 [some (mR (some 188)), some (mI (nI p)), none, none, none] [] (pF I (nI (p + k)) m S, J) := by
    intro k
    induction k with
    | zero => intro _; rfl
    | succ k ih =>
      intro hk
      rw [ih (by omega), E_X10_stepHere_5]
      simp only [h.fi, pF_2, m3, Option.bind_some, h.f0, t.ld h _ m S (show p + k < T by omega) rfl, w_isLetter, asI_I]
      rw [if_neg (nI_ge (show p + k < T by omega) (by omega))]
      rcases hr (p + k) (by omega) (by omega) with z | z
      · rw [lt_q z, if_neg i10, h.wi, Option.bind_some, pF_s2, nI_1]
        rfl
      · rw [z, l46, if_pos rfl, if_pos rfl, h.wi, Option.bind_some, pF_s2, nI_1]
        rfl
  have fin : Ev T_X10_stepHere 5 [some (mR (some 188)), some (mI (nI p)), none, none, none] [] (pF I (nI (p + n)) m S, J) = (if nI (p + n) - nI p = 1 then (ld (pF I (nI (p + n)) m S, J) 11 189 (nI p)).bind fun v5 => (if v5 = 46 then some (some (mI (-1)), (pF I (nI (p + n)) m S, J)) else (if nI (p + n) - nI p = 2 then (ld (pF I (nI (p + n)) m S, J) 11 189 (nI p)).bind fun v8 => (if v8 = 46 then (ld (pF I (nI (p + n)) m S, J) 11 189 (nI p + 1)).bind fun v11 => (if v11 = 46 then some (some (mI (-2)), (pF I (nI (p + n)) m S, J)) else Ev T_X10_stepHere 120 [some (mR (some 188)), none, some (mI (nI (p + n) - nI p)), some (mI 0), some (mI (nI p))] [] (pF I (nI (p + n)) m S, J)) else Ev T_X10_stepHere 120 [some (mR (some 188)), none, some (mI (nI (p + n) - nI p)), some (mI 0), some (mI (nI p))] [] (pF I (nI (p + n)) m S, J)) else Ev T_X10_stepHere 120 [some (mR (some 188)), none, some (mI (nI (p + n) - nI p)), some (mI 0), some (mI (nI p))] [] (pF I (nI (p + n)) m S, J))) else (if nI (p + n) - nI p = 2 then (ld (pF I (nI (p + n)) m S, J) 11 189 (nI p)).bind fun v14 => (if v14 = 46 then (ld (pF I (nI (p + n)) m S, J) 11 189 (nI p + 1)).bind fun v17 => (if v17 = 46 then some (some (mI (-2)), (pF I (nI (p + n)) m S, J)) else Ev T_X10_stepHere 120 [some (mR (some 188)), none, some (mI (nI (p + n) - nI p)), some (mI 0), some (mI (nI p))] [] (pF I (nI (p + n)) m S, J)) else Ev T_X10_stepHere 120 [some (mR (some 188)), none, some (mI (nI (p + n) - nI p)), some (mI 0), some (mI (nI p))] [] (pF I (nI (p + n)) m S, J)) else Ev T_X10_stepHere 120 [some (mR (some 188)), none, some (mI (nI (p + n) - nI p)), some (mI 0), some (mI (nI p))] [] (pF I (nI (p + n)) m S, J))) := by
    rw [E_X10_stepHere_5]
    simp only [h.fi, pF_2, m3, Option.bind_some, h.f0]
    by_cases z : p + n = T
    · rw [if_pos (nI_le (by omega) (by omega))]
    · have lt : p + n < T := by omega
      rw [if_neg (nI_ge lt (by omega))]
      have nl := he.resolve_left z
      rcases t.1.lt lt with ⟨q1, q2⟩ | ⟨q1, q2⟩
      · exact absurd (Or.inl q2) nl
      · have nd : ¬ Q 1 (p + n) = 46 := fun z => nl (Or.inr z)
        rw [t.ld h _ m S lt rfl, Option.bind_some, w_isLetter, Option.bind_some, asI_I, Option.bind_some, q1, if_pos rfl]
        simp only [h.fi, pF_2, h.f0, Option.bind_some]
        rw [t.ld h _ m S lt rfl, Option.bind_some, if_neg nd]
  obtain ⟨y0, lp, lpy⟩ := w_step120 t h m S (p := p) (n := n) hq n 0 (by omega)
  rw [Nat.add_zero] at lp
  have e0 : rnm (Q 1) p 0 = 0 := rfl
  rw [e0] at lp
  rw [E_X10_stepHere]
  simp only [h.fi, pF_2, Option.bind_some]
  rw [run n (Nat.le_refl _), fin, nI_sub (by omega), show p + n - p = n by omega, lp]
  have sb : q_X9_stepBetween Q (nI p) (nI (p + n)) = (if q_X5_at Q (nI p) = 46 then (if nI n = 1 then -1 else (if nI n = 2 then (if q_X5_at Q (nI p + 1) = 46 then -2 else q_X9_nameBetween Q (nI p) (nI (p + n))) else q_X9_nameBetween Q (nI p) (nI (p + n)))) else q_X9_nameBetween Q (nI p) (nI (p + n))) := by
    unfold q_X9_stepBetween
    rw [nI_sub (by omega), show p + n - p = n by omega]
  have name : ((y0 = 0 ∧ q_X9_nameBetween Q (nI p) (nI (p + n)) = 0) ∨ NmS (q_X9_nameBetween Q (nI p) (nI (p + n))) y0) := by
    rcases lpy with ⟨c, c2⟩ | ⟨c, c2, c3⟩
    · refine Or.inl ⟨c2, nb_none t.1 hq ?_⟩
      rcases c with ⟨j, _, j2, j3⟩ | z
      · exact Or.inr (Or.inr ⟨j, j2, j3⟩)
      · exact Or.inr (Or.inl z)
    · rw [c3]
      by_cases z : n = 0
      · subst z
        exact Or.inl ⟨rfl, nb_none t.1 hq (Or.inl rfl)⟩
      · exact Or.inr (Or.inl (nb_all t.1 hq (fun j hj => c j (Nat.zero_le _) hj) (by omega) c2))
  rw [sb]
  have n1 : nI n = 1 ↔ n = 1 := nI_eq (b := 1) (by omega) (by decide)
  have n2 : nI n = 2 ↔ n = 2 := nI_eq (b := 2) (by omega) (by decide)
  by_cases c1 : n = 1
  · subst c1
    have lt : p < T := by omega
    rw [if_pos (n1.mpr rfl), t.ld h _ m S lt rfl, Option.bind_some, t.1.in lt]
    by_cases d : Q 1 p = 46
    · rw [if_pos d, if_pos d, if_pos (n1.mpr rfl)]
      exact ⟨-1, rfl, Or.inr (Or.inr (Or.inl ⟨rfl, rfl⟩))⟩
    · rw [if_neg d, if_neg d, if_neg (show ¬ nI 1 = 2 by decide)]
      exact ⟨y0, rfl, name⟩
  · rw [if_neg (fun z => c1 (n1.mp z))]
    by_cases c2 : n = 2
    · subst c2
      have lt : p < T := by omega
      have lt1 : p + 1 < T := by omega
      rw [if_pos (n2.mpr rfl), t.ld h _ m S lt rfl, Option.bind_some, t.1.in lt, t.ld h _ m S lt1 (nI_1 p), Option.bind_some, nI_1, t.1.in lt1]
      by_cases d : Q 1 p = 46
      · rw [if_pos d, if_pos d, if_neg (show ¬ nI 2 = 1 by decide), if_pos (n2.mpr rfl)]
        by_cases d2 : Q 1 (p + 1) = 46
        · rw [if_pos d2, if_pos d2]
          exact ⟨-2, rfl, Or.inr (Or.inr (Or.inr ⟨rfl, rfl⟩))⟩
        · rw [if_neg d2, if_neg d2]
          exact ⟨y0, rfl, name⟩
      · rw [if_neg d, if_neg d]
        exact ⟨y0, rfl, name⟩
    · rw [if_neg (fun z => c2 (n2.mp z))]
      refine ⟨y0, rfl, ?_⟩
      by_cases d : q_X5_at Q (nI p) = 46
      · rw [if_pos d, if_neg (fun z => c1 (n1.mp z)), if_neg (fun z => c2 (n2.mp z))]
        exact name
      · rw [if_neg d]
        exact name
end
section
/-! A path on the tape, on both sides. -/
theorem eos_nI {Q : RouV} {T : Nat} (t : Tap Q T) {to : Nat} (hto : to ≤ T) : ∀ (f a s : Nat), a ≤ s → s ≤ to → to - a ≤ f → (∀ k, a ≤ k → k < s → ¬ Q 1 k = 47) → (s = to ∨ Q 1 s = 47) → lp_X4_endOfStep Q (nI to) f (nI a) = nI s := by
  have T4 := t.1
  intro f
  induction f with
  | zero =>
    intro a s h1 h2 h3 _ _
    show nI a = nI s
    congr 1
    omega
  | succ f ih =>
    intro a s h1 h2 h3 h4 h5
    show (if nI to ≤ nI a then nI a else if q_X5_at Q (nI a) = 47 then nI a else lp_X4_endOfStep Q (nI to) f (nI a + 1)) = nI s
    by_cases q : to ≤ a
    · rw [if_pos (nI_le q (by omega))]
      congr 1
      omega
    · rw [if_neg (nI_ge (by omega) (by omega)), t.in (by omega)]
      by_cases z : a = s
      · subst z
        rw [if_pos (h5.resolve_left (by omega))]
      · rw [if_neg (h4 a (Nat.le_refl _) (by omega)), nI_1]
        exact ih (a + 1) s (by omega) h2 (by omega) (fun k k1 k2 => h4 k (by omega) k2) h5
theorem eos {Q : RouV} {T : Nat} (t : Tap Q T) {to a s : Nat} (hto : to ≤ T) (h1 : a ≤ s) (h2 : s ≤ to) (h4 : ∀ k, a ≤ k → k < s → ¬ Q 1 k = 47) (h5 : s = to ∨ Q 1 s = 47) : q_X4_endOfStep Q (nI a) (nI to) = nI s := by
  have T4 := t.1
  unfold q_X4_endOfStep
  rw [nI_toInt (by omega), nI_toInt (by omega)]
  exact eos_nI t hto _ a s h1 h2 (by omega) h4 h5
/-- the steps of a route beside a row of the reference -/
def Pth (P : RouV) (S : RowV) (l : Nat) : Prop := P 0 1 = nI l ∧ ∀ k, k < l → NmS (P 1 k) (S k)
theorem push_q {P : RouV} {l : Nat} (hp : P 0 1 = nI l) (hl : l ≤ 12) (s : Int32) : q_X4_push 12 P s = if l < 12 then 1 else 0 := by
  unfold q_X4_push
  rw [hp, if_neg (nI_pos (by omega))]
  by_cases q : l < 12
  · rw [if_pos (nI_lt q (by decide)), if_pos q]
  · rw [if_neg (nI_nlt (by omega) (by omega)), if_neg q]
theorem push_g {P : RouV} {l L : Nat} (hp : P 0 1 = nI l) (hl : l < L) (hL : L < 1000) (s : Int32) : gP_X4_push L P s = uv (uv P 1 l s) 0 1 (nI (l + 1)) := by
  unfold gP_X4_push
  rw [hp, if_neg (nI_pos (by omega)), if_pos (nI_lt hl (by omega)), ix_nI (by omega), nI_1]
theorem Pth.push {P : RouV} {S : RowV} {l L : Nat} (h : Pth P S l) (hl : l < L) (hL : L < 1000) {s y : Int32} (hs : NmS s y) : Pth (gP_X4_push L P s) (sD S l y) (l + 1) := by
  rw [push_g h.1 hl hL]
  refine ⟨uv_s _ _ _ _, fun k hk => ?_⟩
  rw [uv_k _ _ _ _ _ (by decide), uv_at]
  by_cases q : k = l
  · subst q
    rw [if_pos rfl, sD_s]
    exact hs
  · rw [if_neg q, sD_n _ _ q]
    exact h.2 k (by omega)
theorem RefL.st192 {J : MJ} (h : RefL J) (I : MI) {k : Nat} (hk : k < 64) (v : Int32) : st (I, J) 11 192 (nI k) v = some (up2 I 192 k v, J) := by
  rw [st_ok _ _ h.s14 (inb_nI hk (by decide)), show (nI k).toNatClampNeg = k from ix_nI (by omega)]
/-- how the reference ends where the class reads c -/
def PEn (Q : RouV) (T to : Nat) (c y : Int32) (p' : Nat) (P' : RouV) (l' : Nat) (S' : RowV) : Prop := (c = 1 ∧ y = 1 ∧ p' = to ∧ l' ≤ 12 ∧ Pth P' S' l') ∨ (c = 0 ∧ (y = 0 ∨ (y = 1 ∧ p' < T ∧ ¬ Q 1 p' = 32 ∧ l' ≤ 12)))
theorem path_loop {I : MI} {Q : RouV} {T : Nat} (t : RTap I Q T) {J : MJ} (h : RefL J) {to : Nat} (hto : to ≤ T) (hend : to = T ∨ Q 1 to = 32) : ∀ (f l p : Nat) (S : RowV) (P : RouV), l + f = 13 → p ≤ to → (0 < l ∨ p < to) → l ≤ 12 → (∀ k, p ≤ k → k < to → ¬ Q 1 k = 32) → Pth P S l → ∃ y p' l' S', Ev T_X10_isPathHere 73 [some (mR (some 188)), none] [] (pF I (nI p) (nI l) S, J) = some (some (mI y), (pF I (nI p') (nI l') S', J)) ∧ p' ≤ T ∧ PEn Q T to (lp_X4_readFrom 12 Q (nI to) f (nI p) P).1 y p' (lp_X4_readFrom 12 Q (nI to) f (nI p) P).2 l' S' := by
  have T4 := t.1.1
  intro f
  induction f with
  | zero => intro l p S P hl _ _ h12; omega
  | succ f ih =>
    intro l p S P hl hp hlp h12 hnb hP
    have m3 : ∀ a m S, pF I a m S 188 3 = nI T := fun a m S => by rw [pF_k _ _ _ _ (by decide) (by decide)]; exact t.2.1
    have unf : lp_X4_readFrom 12 Q (nI to) (f + 1) (nI p) P = if nI to ≤ nI p then (if (P 0 1) ≤ 0 then 0 else 1, P) else if (q_X5_at Q (nI p)) = 47 then (if (q_X9_stepBetween Q (nI p + 1) (q_X4_endOfStep Q (nI p + 1) (nI to))) = 0 then (0, P) else if (q_X4_push 12 P (q_X9_stepBetween Q (nI p + 1) (q_X4_endOfStep Q (nI p + 1) (nI to)))) = 0 then (0, gP_X4_push 12 P (q_X9_stepBetween Q (nI p + 1) (q_X4_endOfStep Q (nI p + 1) (nI to)))) else lp_X4_readFrom 12 Q (nI to) f (q_X4_endOfStep Q (nI p + 1) (nI to)) (gP_X4_push 12 P (q_X9_stepBetween Q (nI p + 1) (q_X4_endOfStep Q (nI p + 1) (nI to))))) else (0, P) := rfl
    rw [E_X10_isPathHere_73]
    simp only [h.fi, pF_2, m3, Option.bind_some, h.f0]
    rcases Nat.eq_or_lt_of_le hp with q | q
    · subst q
      have l0 : 0 < l := by omega
      rw [unf, if_pos (Int32.le_refl _), hP.1, if_neg (nI_nle l0 (by omega))]
      rcases hend with z | z
      · subst z
        rw [if_pos (Int32.le_refl _)]
        refine ⟨1, p, l, S, ?_, hto, Or.inl ⟨rfl, rfl, rfl, h12, hP⟩⟩
        simp
      · rcases Nat.eq_or_lt_of_le hto with w | w
        · rw [w, if_pos (Int32.le_refl _)]
          refine ⟨1, T, l, S, ?_, Nat.le_refl _, Or.inl ⟨rfl, rfl, rfl, h12, hP⟩⟩
          simp
        · rw [if_neg (nI_ge w (by omega)), t.ld h _ _ S w rfl, Option.bind_some, z, if_neg (show ¬ (32 : Int32) = 47 by decide)]
          refine ⟨1, p, l, S, ?_, hto, Or.inl ⟨rfl, rfl, rfl, h12, hP⟩⟩
          simp
    · have pT : p < T := by omega
      rw [if_neg (nI_ge pT (by omega)), t.ld h _ _ S pT rfl, Option.bind_some, unf, if_neg (nI_ge q (by omega)), t.1.in pT]
      by_cases sl : Q 1 p = 47
      · rw [if_pos sl, if_pos sl]
        simp only [h.wi, Option.bind_some, pF_s2, h.kt, if_true, nI_1]
        obtain ⟨s, s1, s2, s3, s4⟩ := ex_first (fun k => Q 1 k = 47) (p + 1) to (by omega)
        rw [eos t.1 hto s1 s2 s3 s4]
        obtain ⟨r, r1, r2, r3, r4⟩ := ex_first (fun k => ¬ Ld (Q 1 k)) (p + 1) T (by omega)
        have r3' : ∀ k, p + 1 ≤ k → k < r → Ld (Q 1 k) := fun k k1 k2 => Classical.byContradiction (r3 k k1 k2)
        obtain ⟨y, w1, w2⟩ := w_step5 t h (nI l) S r1 r2 r3' r4
        have n47 : ¬ Ld 47 := by
          rintro (⟨a, a1, a2, a3⟩ | z)
          · have : (47 : Nat) = 96 + a := (nI_eq (by decide) (by omega)).mp a3
            omega
          · exact absurd z (by decide)
        have n32 : ¬ Ld 32 := by
          rintro (⟨a, a1, a2, a3⟩ | z)
          · have : (32 : Nat) = 96 + a := (nI_eq (by decide) (by omega)).mp a3
            omega
          · exact absurd z (by decide)
        have rs : r ≤ s := by
          rcases Nat.lt_or_ge s r with z | z
          · have ls := r3' s s1 z
            rcases s4 with y | y
            · subst y
              rcases hend with e | e
              · omega
              · rw [e] at ls; exact absurd ls n32
            · have y : Q 1 s = 47 := y
              rw [y] at ls; exact absurd ls n47
          · exact z
        rw [w1]
        simp only [Option.bind_some, asI_I, h.fi, pF_15]
        rcases Nat.eq_or_lt_of_le rs with e | e
        · subst e
          rcases w2 with ⟨z1, z2⟩ | z
          · rw [z1, z2, if_pos rfl, if_pos rfl]
            refine ⟨0, r, l, S, ?_, r2, Or.inr ⟨rfl, Or.inl rfl⟩⟩
            simp
          · have ny : ¬ y = 0 := by
              rcases z with z | ⟨_, z⟩ | ⟨_, z⟩
              · exact (i32_gt_ne z.gt.2).2.2.1
              · rw [z]; decide
              · rw [z]; decide
            have ns : ¬ q_X9_stepBetween Q (nI (p + 1)) (nI r) = 0 := by
              rcases z with z | ⟨z, _⟩ | ⟨z, _⟩
              · exact (i32_gt_ne z.gt.1).2.2.1
              · rw [z]; decide
              · rw [z]; decide
            rw [if_neg ny, if_neg ns, push_q hP.1 h12]
            by_cases l12 : l < 12
            · rw [if_neg (fun z => by have : l = 12 := (nI_eq (b := 12) (by omega) (by decide)).mp z; omega), if_pos l12, if_neg i10]
              simp only [h.f14, Option.bind_some, h.st192 _ (show l < 64 by omega), pF_sS, h.fi, pF_15, h.wi, pF_s15, nI_1]
              exact ih (l + 1) r (sD S l y) _ (by omega) s2 (by omega) (by omega) (fun k k1 k2 => hnb k (by omega) k2) (hP.push l12 (by decide) z)
            · have : l = 12 := by omega
              subst this
              rw [if_pos (show nI 12 = 12 from rfl), if_neg l12, if_pos rfl]
              refine ⟨0, r, 12, S, ?_, r2, Or.inr ⟨rfl, Or.inl rfl⟩⟩
              simp
        · have bad : ¬ Ld (Q 1 r) := r4.resolve_left (by omega)
          have cz : q_X9_stepBetween Q (nI (p + 1)) (nI s) = 0 := by
            have nb : q_X9_nameBetween Q (nI (p + 1)) (nI s) = 0 := by
              have := nb_none t.1 (p := p + 1) (n := s - (p + 1)) (by omega) (Or.inr (Or.inr ⟨r - (p + 1), by omega, by rw [show p + 1 + (r - (p + 1)) = r by omega]; exact fun z => bad (Or.inl z)⟩))
              rw [show p + 1 + (s - (p + 1)) = s by omega] at this
              exact this
            unfold q_X9_stepBetween
            rw [nI_sub (by omega)]
            by_cases d : q_X5_at Q (nI (p + 1)) = 46
            · rw [if_pos d]
              have lt1 : p + 1 < T := by omega
              rw [t.1.in lt1] at d
              have rne : p + 1 ≠ r := fun z => bad (by rw [← z]; exact Or.inr d)
              rw [if_neg (fun z => by have : s - (p + 1) = 1 := (nI_eq (b := 1) (by omega) (by decide)).mp z; omega)]
              by_cases n2 : nI (s - (p + 1)) = 2
              · have s2' : s - (p + 1) = 2 := (nI_eq (b := 2) (by omega) (by decide)).mp n2
                have r' : r = p + 2 := by omega
                rw [if_pos n2, nI_1, t.1.in (show p + 1 + 1 < T by omega), if_neg (fun z => bad (by rw [r']; exact Or.inr z))]
                exact nb
              · rw [if_neg n2]; exact nb
            · rw [if_neg d]; exact nb
          rw [cz, if_pos rfl]
          by_cases y0 : y = 0
          · rw [if_pos y0]
            refine ⟨0, r, l, S, ?_, r2, Or.inr ⟨rfl, Or.inl rfl⟩⟩
            simp
          · rw [if_neg y0]
            by_cases l12 : l < 12
            · rw [if_neg (fun z => by have : l = 12 := (nI_eq (b := 12) (by omega) (by decide)).mp z; omega)]
              simp only [h.f14, Option.bind_some, h.st192 _ (show l < 64 by omega), pF_sS, h.fi, pF_15, h.wi, pF_s15, nI_1]
              have rT : r < T := by omega
              have r47 : ¬ Q 1 r = 47 := fun z => s3 r (by omega) e z
              rw [E_X10_isPathHere_73]
              simp only [h.fi, pF_2, m3, Option.bind_some, h.f0, t.ld h _ _ _ rT rfl]
              rw [if_neg (nI_ge rT (by omega)), if_neg r47]
              refine ⟨1, r, l + 1, sD S l y, ?_, r2, Or.inr ⟨rfl, Or.inr ⟨rfl, rT, hnb r (by omega) (by omega), by omega⟩⟩⟩
              simp
            · have : l = 12 := by omega
              subst this
              rw [if_pos (show nI 12 = 12 from rfl)]
              refine ⟨0, r, 12, S, ?_, r2, Or.inr ⟨rfl, Or.inl rfl⟩⟩
              simp
      · rw [if_neg sl, if_neg sl]
        refine ⟨1, p, l, S, ?_, by omega, Or.inr ⟨rfl, Or.inr ⟨rfl, pT, hnb p (Nat.le_refl _) q, h12⟩⟩⟩
        simp
theorem w_isPathHere {I : MI} {Q : RouV} {T : Nat} (t : RTap I Q T) {J : MJ} (h : RefL J) {fr to : Nat} (hft : fr ≤ to) (hto : to ≤ T) (hend : to = T ∨ Q 1 to = 32) (hnb : ∀ k, fr ≤ k → k < to → ¬ Q 1 k = 32) (m : Int32) (S : RowV) (P : RouV) : ∃ y p' l' S', M_X10_isPathHere [mR (some 188)] (pF I (nI fr) m S, J) = some (some (mI y), (pF I (nI p') (nI l') S', J)) ∧ p' ≤ T ∧ PEn Q T to (q_X4_readFrom 12 Q P (nI fr) (nI to)) y p' (gP_X4_readFrom 12 Q P (nI fr) (nI to)) l' S' := by
  have T4 := t.1.1
  have m3 : ∀ a m S, pF I a m S 188 3 = nI T := fun a m S => by rw [pF_k _ _ _ _ (by decide) (by decide)]; exact t.2.1
  unfold q_X4_readFrom gP_X4_readFrom o_X4_readFrom
  rw [E_X10_isPathHere, nI_sub hft]
  simp only [h.wi, Option.bind_some, pF_s15, h.fi, pF_2, m3, h.f0]
  have n1 : nI (to - fr) = 1 ↔ to - fr = 1 := nI_eq (b := 1) (by omega) (by decide)
  have z0 : (0 : Int32) = nI 0 := rfl
  have pz : Pth (uv P 0 1 0) S 0 := ⟨uv_s _ _ _ _, fun k hk => by omega⟩
  by_cases e : fr = to
  · subst e
    rw [Nat.sub_self, if_neg (show ¬ nI 0 = 1 by decide)]
    have ev : lp_X4_readFrom 12 Q (nI fr) (12 + 1) (nI fr) (uv P 0 1 0) = (0, uv P 0 1 0) := by
      show (if nI fr ≤ nI fr then (if (uv P 0 1 0 0 1) ≤ 0 then 0 else 1, uv P 0 1 0) else _) = _
      rw [if_pos (Int32.le_refl _), uv_s, if_pos (Int32.le_refl _)]
    rw [ev]
    by_cases z : fr = T
    · rw [if_pos (by rw [z])]
      refine ⟨0, fr, 0, S, ?_, hto, Or.inr ⟨rfl, Or.inl rfl⟩⟩
      simp [nI_0]
    · have lt : fr < T := by omega
      rw [if_neg (fun w => z ((nI_eq (by omega) (by omega)).mp w)), t.ld h _ _ S lt rfl, Option.bind_some, hend.resolve_left z, if_neg (show ¬ (32 : Int32) = 47 by decide)]
      refine ⟨0, fr, 0, S, ?_, hto, Or.inr ⟨rfl, Or.inl rfl⟩⟩
      simp [nI_0]
  · have lt : fr < T := by omega
    rw [if_neg (fun w => absurd ((nI_eq (by omega) (by omega)).mp w) (by omega)), t.ld h _ _ S lt rfl, Option.bind_some]
    by_cases sl : Q 1 fr = 47
    · rw [if_pos sl]
      by_cases one : to - fr = 1
      · rw [if_pos (n1.mpr one), t.1.in lt, if_pos sl]
        have fin : ∀ (b : Option MO), b = some (some (mI 1), (pF I (nI (fr + 1)) 0 S, J)) → ∃ y p' l' S', b = some (some (mI y), (pF I (nI p') (nI l') S', J)) ∧ p' ≤ T ∧ PEn Q T to 1 y p' (uv P 0 1 0) l' S' := fun b hb => ⟨1, fr + 1, 0, S, hb, by omega, Or.inl ⟨rfl, rfl, by omega, by omega, pz⟩⟩
        apply fin
        rw [nI_1]
        by_cases e1 : fr + 1 = T
        · rw [if_pos (by rw [e1]), pF_s2]
          simp
        · have to' : to = fr + 1 := by omega
          rw [if_neg (fun w => e1 ((nI_eq (by omega) (by omega)).mp w)), t.ld h _ _ S (show fr + 1 < T by omega) rfl, Option.bind_some, ← to', hend.resolve_left (by omega), if_pos rfl, pF_s2]
          simp
      · rw [if_neg (fun w => one (n1.mp w)), nI_1, if_neg (fun w => absurd ((nI_eq (by omega) (by omega)).mp w) (by omega)), t.ld h _ _ S (show fr + 1 < T by omega) rfl, Option.bind_some, if_neg (hnb (fr + 1) (by omega) (by omega)), z0]
        rw [← z0]
        exact path_loop t h hto hend 13 0 fr S (uv P 0 1 0) (by omega) hft (Or.inr (by omega)) (by omega) hnb pz
    · rw [if_neg sl]
      have fin : ∀ (b : Option MO) (c : Int32) (P' : RouV), b = some (some (mI 0), (pF I (nI fr) 0 S, J)) → c = 0 → ∃ y p' l' S', b = some (some (mI y), (pF I (nI p') (nI l') S', J)) ∧ p' ≤ T ∧ PEn Q T to c y p' P' l' S' := fun b c P' hb hc => ⟨0, fr, 0, S, hb, by omega, Or.inr ⟨hc, Or.inl rfl⟩⟩
      apply fin
      · simp
      · by_cases one : nI (to - fr) = 1
        · rw [if_pos one, t.1.in lt, if_neg sl]
        · rw [if_neg one]
          show (if nI to ≤ nI fr then _ else if (q_X5_at Q (nI fr)) = 47 then _ else ((0 : Int32), uv P 0 1 0)).1 = 0
          rw [if_neg (nI_ge (by omega) (by omega)), t.1.in lt, if_neg sl]
end
section
/-! A world is known by what lies in its rows. -/
def UEq (U' U : NodV) : Prop := U' 0 5 = U 0 5 ∧ U' 0 6 = U 0 6 ∧ (∀ k, k < 60 → U' 1 k = U 1 k ∧ U' 2 k = U 2 k ∧ U' 3 k = U 3 k ∧ U' 4 k = U 4 k) ∧ ∀ v, v < 3 → U' 5 v = U 5 v
def VEq (V' V : MemV) : Prop := (V' 0 11 = V 0 11 ∧ V' 0 12 = V 0 12 ∧ V' 0 13 = V 0 13 ∧ V' 0 14 = V 0 14) ∧ (∀ e, e < 64 → V' 1 e = V 1 e ∧ V' 2 e = V 2 e ∧ V' 3 e = V 3 e ∧ V' 4 e = V 4 e ∧ V' 5 e = V 5 e ∧ V' 6 e = V 6 e ∧ V' 7 e = V 7 e ∧ V' 8 e = V 8 e) ∧ ∀ v, v < 3 → V' 9 v = V 9 v ∧ V' 10 v = V 10 v
def HEq' (H' H : OneV) : Prop := ∀ k, k < 6 → H' 0 k = H 0 k
def WkEq (w' w : OneV × RouV × TriV) : Prop := bz (w'.1 0 5) = bz (w.1 0 5) ∧ (¬ bz (w.1 0 5) = 0 → w'.1 0 4 = w.1 0 4 ∧ bz (w'.1 0 6) = bz (w.1 0 6) ∧ w'.1 0 7 = w.1 0 7 ∧ w'.1 0 8 = w.1 0 8 ∧ w'.2.1 0 1 = w.2.1 0 1 ∧ (∀ k, k < 12 → k < ix (w.2.1 0 1) → w'.2.1 1 k = w.2.1 1 k) ∧ ∀ k, k < 25 → w'.2.2 0 k = w.2.2 0 k ∧ w'.2.2 1 k = w.2.2 1 k ∧ w'.2.2 2 k = w.2.2 2 k)
theorem UEq.fo {U' U : NodV} (h : UEq U' U) (y : Int32) : q_X2_isFolder U' y = q_X2_isFolder U y := by
  unfold q_X2_isFolder q_X2_exists
  rw [h.1]
  by_cases a : y < 0
  · simp [a]
  · by_cases b : (60 : Int32) ≤ y
    · simp [a, b]
    · have : ix y < 60 := by
        rcases Nat.lt_or_ge (ix y) 60 with z | z
        · exact z
        · exact absurd (by rw [nI_ix a]; exact nI_le (a := 60) z (ix_lt y)) b
      rw [(h.2.2.1 _ this).2.2.2]
theorem UEq.fd {U' U : NodV} (h : UEq U' U) (x y : Int32) : q_X2_find U' x y = q_X2_find U x y := by
  unfold q_X2_find evN
  rw [h.1]
  congr 1
  refine fst_cong (fun k _ hk => ?_)
  have : k < 60 := by omega
  rw [(h.2.2.1 k this).2.1, (h.2.2.1 k this).2.2.1, (h.2.2.1 k this).2.2.2]
theorem NodI.cg {U' U : NodV} {n vol : Nat} (i : NodI U n vol) (h : UEq U' U) : NodI U' n vol := by
  have n60 := i.n60
  have v3 := i.v3
  have e1 : ∀ k, k < n → U' 1 k = U 1 k := fun k hk => (h.2.2.1 k (by omega)).1
  have e2 : ∀ k, k < n → U' 2 k = U 2 k := fun k hk => (h.2.2.1 k (by omega)).2.1
  have e3 : ∀ k, k < n → U' 3 k = U 3 k := fun k hk => (h.2.2.1 k (by omega)).2.2.1
  have e4 : ∀ k, k < n → U' 4 k = U 4 k := fun k hk => (h.2.2.1 k (by omega)).2.2.2
  have e5 : ∀ v, v < vol → U' 5 v = U 5 v := fun v hv => h.2.2.2 v (by omega)
  refine ⟨h.1.trans i.ev, n60, h.2.1.trans i.vs, v3, fun k hk => ?_, fun k hk => ?_, fun k hk q => ?_, fun v hv => ?_, fun k hk q1 q2 => ?_, fun k j hk hj q1 q2 q3 q4 q5 => ?_, ?_, by rw [e5 0 (by omega)]; exact i.r00, fun k hk q => by rw [e2 k hk] at q; rw [e3 k hk]; exact i.nn k hk q⟩
  · rw [e1 k hk]; exact i.vol k hk
  · rw [e4 k hk]; exact i.kd k hk
  · rw [e2 k hk] at q
    obtain ⟨v, v1, v2, v3⟩ := i.rt k hk q
    exact ⟨v, v1, by rw [e1 k hk]; exact v2, by rw [e5 v v1]; exact v3⟩
  · obtain ⟨r, r1, r2, r3, r4, r5⟩ := i.rts v hv
    exact ⟨r, r1, by rw [e5 v hv]; exact r2, by rw [e4 r r1]; exact r3, by rw [e2 r r1]; exact r4, by rw [e1 r r1]; exact r5⟩
  · rw [e4 k hk] at q1
    rw [e2 k hk] at q2
    obtain ⟨p, p1, p2, p3, p4⟩ := i.par k hk q1 q2
    exact ⟨p, p1, by rw [e2 k hk]; exact p2, by rw [e4 p p1]; exact p3, by rw [e1 p p1, e1 k hk]; exact p4⟩
  · rw [e4 k hk] at q1
    rw [e4 j hj] at q2
    rw [e2 k hk] at q3
    rw [e2 k hk, e2 j hj] at q4
    rw [e3 k hk, e3 j hj] at q5
    exact i.uq k j hk hj q1 q2 q3 q4 q5
  · obtain ⟨d, hd⟩ := i.rk
    refine ⟨d, fun k p hk hp q1 q2 => ?_⟩
    rw [e4 k hk] at q1
    rw [e2 k hk] at q2
    exact hd k p hk hp q1 q2
theorem MemI.cg {U' U : NodV} {V' V : MemV} {n vol : Nat} (i : MemI U V n vol) (n60 : n ≤ 60) (v3 : vol ≤ 3) (h : UEq U' U) (g : VEq V' V) : MemI U' V' n vol := by
  have e1 : ∀ k, k < 64 → V' 1 k = V 1 k := fun k hk => (g.2.1 k hk).1
  have e2 : ∀ k, k < 64 → V' 2 k = V 2 k := fun k hk => (g.2.1 k hk).2.1
  have e3 : ∀ k, k < 64 → V' 3 k = V 3 k := fun k hk => (g.2.1 k hk).2.2.1
  have e4 : ∀ k, k < 64 → V' 4 k = V 4 k := fun k hk => (g.2.1 k hk).2.2.2.1
  have e9 : ∀ v, v < 3 → V' 9 v = V 9 v := fun v hv => (g.2.2 v hv).1
  have e10 : ∀ v, v < 3 → V' 10 v = V 10 v := fun v hv => (g.2.2 v hv).2
  refine ⟨fun e he => ?_, ?_, ?_, fun v hv => ?_, fun v h1 hv q => ?_, fun v w hv hw q1 q2 => ?_, ?_, fun e he q1 q2 => ?_, fun e he q1 q2 => ?_, fun e he q => ?_, fun e f he hf q1 q2 q3 q4 q5 => ?_, fun e f he hf q1 q2 q3 q4 => ?_⟩
  · rw [e1 e he]; exact i.st e he
  · rw [e9 0 (by decide)]; exact i.r0
  · rw [e10 0 (by decide)]; exact i.o0
  · rw [e9 v hv, e10 v hv]
    rcases i.rt v hv with z | ⟨z0, r, z1, z2, z3, z4, z5⟩
    · exact Or.inl z
    · exact Or.inr ⟨z0, r, z1, z2, by rw [e1 r z1]; exact z3, by rw [e2 r z1]; exact z4, by rw [e4 r z1, h.2.2.2 v hv]; exact z5⟩
  · rw [e9 v hv] at q
    obtain ⟨o, o1, o2, o3, o4, o5⟩ := i.ov v h1 hv q
    exact ⟨o, o1, by rw [e10 v hv]; exact o2, by rw [e1 o o1]; exact o3, by rw [e2 o o1]; exact o4, by rw [e4 o o1, h.fo]; exact o5⟩
  · rw [e10 v hv] at q1
    rw [e10 v hv, e10 w hw] at q2
    exact i.oi v w hv hw q1 q2
  · obtain ⟨ρ, hρ⟩ := i.vr
    refine ⟨ρ, fun v o k u a b c d e f x y => ?_⟩
    rw [e10 v b] at d
    rw [e4 o c] at e
    rw [(h.2.2.1 k (by omega)).1] at x
    exact hρ v o k u a b c d e f x y
  · rw [e1 e he] at q1
    rw [e2 e he] at q2
    obtain ⟨v, v1, v2⟩ := i.ro e he q1 q2
    exact ⟨v, v1, by rw [e9 v v1]; exact v2⟩
  · rw [e1 e he] at q1
    rw [e2 e he] at q2
    obtain ⟨p, p1, p2, p3, p4, p5⟩ := i.ch e he q1 q2
    exact ⟨p, p1, by rw [e2 e he]; exact p2, by rw [e1 p p1]; exact p3, by rw [e4 p p1, h.fo]; exact p4, by rw [e4 e he, e4 p p1, e3 e he, h.fd]; exact p5⟩
  · rw [e1 e he] at q
    obtain ⟨z, k, k1, k2, k3⟩ := i.go e he q
    exact ⟨by rw [e2 e he]; exact z, k, k1, by rw [e4 e he]; exact k2, by rw [(h.2.2.1 k (by omega)).2.2.2]; exact k3⟩
  · rw [e1 e he] at q1
    rw [e1 f hf] at q2
    rw [e2 e he] at q3
    rw [e2 e he, e2 f hf] at q4
    rw [e3 e he, e3 f hf] at q5
    exact i.sb e f he hf q1 q2 q3 q4 q5
  · rw [e1 e he] at q1
    rw [e1 f hf] at q2
    rw [e4 e he] at q3
    rw [e4 e he, e4 f hf] at q4
    exact i.nd e f he hf q1 q2 q3 q4
theorem hc_cg {V' V : MemV} {H' H : OneV} {W' W : WkV} (g : VEq V' V) (hH : HEq' H' H) (hW : ∀ k, k < 4 → WkEq (W' k) (W k)) (b25 : ∀ k, k < 4 → ¬ bz ((W k).1 0 5) = 0 → ix ((W k).1 0 4) ≤ 25) (e : Nat) : hc V' H' W' e = hc V H W e := by
  have h1 : hcC V' e = hcC V e := cnt_cong (fun k _ hk => by rw [(g.2.1 k (by omega)).1, (g.2.1 k (by omega)).2.1])
  have h2 : hcV V' e = hcV V e := cnt_cong (fun k _ hk => by rw [(g.2.2 k (by omega)).2])
  have h3 : hcH H' e = hcH H e := cnt_cong (fun k _ hk => by rw [hH k (by omega)])
  have h4 : hcW W' e = hcW W e := sm_cong (fun k _ hk => by
    have w := hW k (by omega)
    unfold hcK
    rw [w.1]
    by_cases q : bz ((W k).1 0 5) = 0
    · rw [if_pos (Or.inl q), if_pos (Or.inl q)]
    · have w2 := w.2 q
      rw [w2.2.1]
      by_cases q2 : bz ((W k).1 0 6) = 0
      · rw [if_pos (Or.inr q2), if_pos (Or.inr q2)]
      · rw [if_neg (fun z => z.elim q q2), if_neg (fun z => z.elim q q2), w2.1]
        have b := b25 k (by omega) q
        exact cnt_cong (fun j _ hj => by rw [(w2.2.2.2.2.2.2 j (by omega)).1]))
  unfold hc
  rw [h1, h2, h3, h4]
theorem Inv.b25 {U : NodV} {V : MemV} {H : OneV} {W : WkV} {n vol t T : Nat} {x : Nat → Nat} (i : Inv U V H W n vol t T x) : ∀ k, k < 4 → ¬ bz ((W k).1 0 5) = 0 → ix ((W k).1 0 4) ≤ 25 := fun k hk q => by
  obtain ⟨m, d, l, r, _, hw⟩ := i.W k hk q
  have := hw.md
  have := hw.dl
  have := hw.l12
  rw [hw.m, ix_nI (by omega)]
  omega
theorem Inv.cg {U' U : NodV} {V' V : MemV} {H' H : OneV} {W' W : WkV} {n vol t T : Nat} {x : Nat → Nat} (i : Inv U V H W n vol t T x) (h : UEq U' U) (g : VEq V' V) (hH : HEq' H' H) (hW : ∀ k, k < 4 → WkEq (W' k) (W k)) : Inv U' V' H' W' n vol t T x := by
  have e : ∀ k, k < 64 → V' 1 k = V 1 k ∧ V' 4 k = V 4 k ∧ V' 6 k = V 6 k ∧ V' 8 k = V 8 k ∧ V' 5 k = V 5 k := fun k hk => ⟨(g.2.1 k hk).1, (g.2.1 k hk).2.2.2.1, (g.2.1 k hk).2.2.2.2.2.1, (g.2.1 k hk).2.2.2.2.2.2.2, (g.2.1 k hk).2.2.2.2.1⟩
  refine ⟨i.N.cg h, i.M.cg i.N.n60 i.N.v3.2 h g, ⟨g.1.2.1.trans i.Z.tk, i.Z.tT, i.Z.T30, fun f hf q => ?_, fun f hf q => ?_, ?_⟩, fun f hf => ?_, fun k hk => ?_, fun k hk q => ?_⟩
  · rw [(e f hf).1] at q
    rw [(e f hf).2.2.2.1]
    exact i.Z.bi f hf q
  · rw [(e f hf).1] at q
    rw [(e f hf).2.2.1]
    exact i.Z.co f hf q
  · exact ⟨by rw [g.1.1]; exact i.Z.li, i.Z.tri.le g.1.2.2.2 (fun k hk q => by rw [(e k hk).1] at q; exact q) (Nat.le_refl _)⟩
  · rw [(e f hf).1, (e f hf).2.2.2.2, hc_cg g hH hW i.b25]
    exact i.L f hf
  · rw [hH k hk]
    rcases i.H k hk with z | ⟨f, f1, f2, f3, f4⟩
    · exact Or.inl z
    · exact Or.inr ⟨f, f1, f2, by rw [(e f f1).1]; exact f3, by rw [(e f f1).2.1]; exact f4⟩
  · have w := hW k hk
    rw [w.1] at q
    obtain ⟨m, d, l, r, hr, hw⟩ := i.W k hk q
    obtain ⟨w1, w2, w3, w4, w5, w6, w7⟩ := w.2 q
    have b1 := hw.md
    have b2 := hw.dl
    have b3 := hw.l12
    refine ⟨m, d, l, r, hr, w1.trans hw.m, w4.trans hw.d, w5.trans hw.l, w3.trans hw.r, hw.m1, hw.md, hw.dl, hw.l12, hw.r3, fun j hj => ?_⟩
    have wj := w7 j (by omega)
    rw [w2, wj.1, wj.2.1, wj.2.2]
    obtain ⟨f, f64, g1, ⟨b1, c1, g2, g3, g4, g5, g6⟩, g7⟩ := (hw.wy j hj).ex
    refine ⟨f, f64, g1, ⟨b1, c1, g2, g3, g4, g5, ?_⟩, ?_⟩
    · rw [(e f f64).1, (e f f64).2.1, (e f f64).2.2.1, (e f f64).2.2.2.1]
      exact g6
    · rw [(e f f64).1, (e f f64).2.1]
      exact g7
theorem CntI.cg {V' V : MemV} (C : CntI V) (g : VEq V' V) : CntI V' := by
  unfold CntI
  rw [cnt_cong (P := fun k => decide (¬ V' 1 k = 0)) (P' := fun k => decide (¬ V 1 k = 0)) (fun k _ hk => by rw [(g.2.1 k (by omega)).1]), cnt_cong (P := fun v => decide (¬ V' 9 v = -1)) (P' := fun v => decide (¬ V 9 v = -1)) (fun k _ hk => by rw [(g.2.2 k (by omega)).1])]
  exact C
theorem cov_cg {V' V : MemV} (g : VEq V' V) (y : Int32) : q_X1_coveringVolume V' y = q_X1_coveringVolume V y := by
  unfold q_X1_coveringVolume ql_X1_coveringVolume f_X1_coveringVolume
  congr 1
  exact fst_cong (fun k _ hk => by rw [(g.2.2 k (by omega)).2])
theorem Rel.cg {U' U : NodV} {V' V : MemV} {H' H : OneV} {W' W : WkV} {D' D : RowV} {n : Nat} (r : Rel none U V H W D n) (n60 : n ≤ 60) (h : UEq U' U) (g : VEq V' V) (hH : HEq' H' H) (hW : ∀ k, k < 4 → WkEq (W' k) (W k)) (hD : ∀ k, k < 1853 → D' k = D k) : Rel none U' V' H' W' D' n := by
  have b := r.B
  refine ⟨⟨?_, ?_, ?_, ?_, ?_, fun v hv => ?_, fun v hv => ?_, fun k hk => ?_, fun k hk => ?_, fun e he => ?_, fun e he q => ?_⟩, fun k hk => ?_, fun k hk q _ => ?_, fun k z => by cases z⟩
  · rw [hD 0 (by decide), g.1.2.1]; exact b.tk
  · rw [hD 1 (by decide), g.1.2.2.1]; exact b.lo
  · rw [hD 2 (by decide), g.1.2.2.2]; exact b.tr
  · rw [hD 3 (by decide), g.1.1]; exact b.rm
  · rw [hD 4 (by decide), h.1]; exact b.ev
  · rw [hD _ (by omega), (g.2.2 v hv).1]; exact b.rt v hv
  · rw [hD _ (by omega), (g.2.2 v hv).2]; exact b.ov v hv
  · rw [hD _ (by omega), hH k hk]; exact b.ha k hk
  · have u := h.2.2.1 k (by omega)
    rw [hD _ (by omega), hD _ (by omega), hD _ (by omega), hD _ (by omega), hD _ (by omega), u.1, u.2.1, u.2.2.1, u.2.2.2]
    exact b.nd k hk
  · rw [hD _ (by omega), b.th e he]
    by_cases z : e < 64
    · rw [(g.2.1 e z).1]
    · rw [if_neg (fun y => z y.1), if_neg (fun y => z y.1)]
  · have v := g.2.1 e he
    rw [v.1] at q
    rw [hD _ (by omega), hD _ (by omega), hD _ (by omega), hD _ (by omega), hD _ (by omega), hD _ (by omega), hD _ (by omega), hD _ (by omega), v.1, v.2.1, v.2.2.1, v.2.2.2.1, v.2.2.2.2.2.1, v.2.2.2.2.2.2.1, v.2.2.2.2.2.2.2, cov_cg g]
    exact b.en e he q
  · have a := r.K k hk
    have w := hW k hk
    refine ⟨?_, fun q => ?_, fun q j h1 h2 => ?_, fun q j h1 h2 => ?_⟩
    · rw [hD _ (by omega), w.1]; exact a.ws
    · rw [w.1] at q
      obtain ⟨w1, w2, w3, w4, w5, w6, w7⟩ := w.2 q
      rw [hD _ (by omega), hD _ (by omega), hD _ (by omega), hD _ (by omega), w2, w3, w4, w5]
      exact a.un q
    · rw [w.1] at q
      obtain ⟨w1, w2, w3, w4, w5, w6, w7⟩ := w.2 q
      rw [w5] at h2
      rw [hD _ (by omega), w6 j h1 h2]
      exact a.sp q j h1 h2
    · rw [w.1] at q
      obtain ⟨w1, w2, w3, w4, w5, w6, w7⟩ := w.2 q
      rw [w1] at h2
      have wj := w7 j h1
      rw [hD _ (by omega), hD _ (by omega), hD _ (by omega), wj.1, wj.2.1, wj.2.2]
      exact a.wy q j h1 h2
  · have w := hW k hk
    rw [w.1] at q
    exact ⟨by rw [hD _ (by omega), (w.2 q).1]; exact r.M k hk q (fun z => by cases z), by rw [(w.2 q).2.2.1]; exact r.R2 k hk q (fun z => by cases z)⟩
end
section
/-! A world copied. -/
def wks (I : MI) (w : Nat) : WkV := fun k => (vw 1 I (w + 6 * k), vw 2 I (w + 6 * k + 1), vw 3 I (w + 6 * k + 3))
def Wd (I : MI) (n m g w : Nat) (D : RowV) (vol T : Nat) : Prop := ∃ nn t, Inv (vw 6 I n) (vw 12 I m) (vw 1 I g) (wks I w) nn vol t T (fun _ => 0) ∧ CntI (vw 12 I m) ∧ Rel none (vw 6 I n) (vw 12 I m) (vw 1 I g) (wks I w) D nn
theorem vw_fr {N : Nat} {I I' : MI} {a : Nat} (h : ∀ x, a ≤ x → x < a + N → I' x = I x) : vw N I' a = vw N I a := by
  funext k j
  show I' (a + k.val) j = I (a + k.val) j
  rw [h _ (by omega) (by have := k.isLt; omega)]
theorem wks_fr {I I' : MI} {w : Nat} (h : ∀ x, w ≤ x → x < w + 24 → I' x = I x) {k : Nat} (hk : k < 4) : wks I' w k = wks I w k := by
  unfold wks
  rw [vw_fr (N := 1) (a := w + 6 * k) (fun x a b => h x (by omega) (by omega)), vw_fr (N := 2) (a := w + 6 * k + 1) (fun x a b => h x (by omega) (by omega)), vw_fr (N := 3) (a := w + 6 * k + 3) (fun x a b => h x (by omega) (by omega))]
theorem WkEq.refl (w : OneV × RouV × TriV) : WkEq w w := ⟨rfl, fun _ => ⟨rfl, rfl, rfl, rfl, rfl, fun _ _ _ => rfl, fun _ _ => ⟨rfl, rfl, rfl⟩⟩⟩
theorem UEq.refl (U : NodV) : UEq U U := ⟨rfl, rfl, fun _ _ => ⟨rfl, rfl, rfl, rfl⟩, fun _ _ => rfl⟩
theorem VEq.refl (V : MemV) : VEq V V := ⟨⟨rfl, rfl, rfl, rfl⟩, fun _ _ => ⟨rfl, rfl, rfl, rfl, rfl, rfl, rfl, rfl⟩, fun _ _ => ⟨rfl, rfl⟩⟩
theorem Wd.cg {I I' : MI} {n m g w n' m' g' w' vol T : Nat} {D D' : RowV} (h : Wd I n m g w D vol T) (hU : UEq (vw 6 I' n') (vw 6 I n)) (hV : VEq (vw 12 I' m') (vw 12 I m)) (hH : HEq' (vw 1 I' g') (vw 1 I g)) (hW : ∀ k, k < 4 → (∀ nn t, Inv (vw 6 I n) (vw 12 I m) (vw 1 I g) (wks I w) nn vol t T (fun _ => 0) → WkEq (wks I' w' k) (wks I w k))) (hD : ∀ k, k < 1853 → D' k = D k) : Wd I' n' m' g' w' D' vol T := by
  obtain ⟨nn, t, i, c, r⟩ := h
  exact ⟨nn, t, i.cg hU hV hH (fun k hk => hW k hk nn t i), c.cg hV, r.cg i.N.n60 hU hV hH (fun k hk => hW k hk nn t i) hD⟩
theorem Wd.fr {I I' : MI} {n m g w vol T : Nat} {D D' : RowV} (h : Wd I n m g w D vol T) (hn : ∀ x, n ≤ x → x < n + 6 → I' x = I x) (hm : ∀ x, m ≤ x → x < m + 12 → I' x = I x) (hg : I' g = I g) (hw : ∀ x, w ≤ x → x < w + 24 → I' x = I x) (hD : ∀ k, k < 1853 → D' k = D k) : Wd I' n m g w D' vol T := by
  refine h.cg ?_ ?_ ?_ (fun k hk _ _ _ => ?_) hD
  · rw [vw_fr hn]; exact UEq.refl _
  · rw [vw_fr hm]; exact VEq.refl _
  · intro k hk
    show I' (g + 0) k = I (g + 0) k
    rw [Nat.add_zero, hg]
  · rw [wks_fr hw hk]; exact WkEq.refl _
theorem Wd.T {I : MI} {n m g w vol T T' : Nat} {D : RowV} (h : Wd I n m g w D vol T) (hT : T ≤ T') (h30 : T' ≤ 1000000000) : Wd I n m g w D vol T' := by
  obtain ⟨nn, t, i, c, r⟩ := h
  exact ⟨nn, t, i.T hT h30, c, r⟩
/-- a route copied -/
theorem copy_go {L2 L : Nat} {P2 : RouV} {l : Nat} (hp : P2 0 1 = nI l) (h2 : l ≤ L2) (hL : l ≤ L) (b2 : L2 < 1000) (bL : L < 1000) : ∀ (nn k : Nat) (P : RouV), k + nn = l → P 0 1 = nI k → (∀ j, j < k → P 1 j = P2 1 j) → lp_X4_copyFrom_7 L2 L P2 nn k P 0 1 = nI l ∧ ∀ j, j < l → lp_X4_copyFrom_7 L2 L P2 nn k P 1 j = P2 1 j
  | 0, k, P, hk, h1, hj => by
    have : k = l := by omega
    subst this
    exact ⟨h1, hj⟩
  | nn + 1, k, P, hk, h1, hj => by
    have ev : lp_X4_copyFrom_7 L2 L P2 (nn + 1) k P = lp_X4_copyFrom_7 L2 L P2 nn (k + 1) (gP_X4_push L P (q_X4_stepAt L2 P2 (nI k))) := rfl
    rw [ev, stepAt_k hp (by omega) h2 b2, push_g h1 (by omega) bL]
    exact copy_go hp h2 hL b2 bL nn (k + 1) (uv (uv P 1 k (P2 1 k)) 0 1 (nI (k + 1))) (by omega) (uv_s _ _ _ _) (fun j hj' => by
      rw [uv_k _ _ _ _ _ (by decide), uv_at]
      by_cases z : j = k
      · rw [if_pos z, z]
      · rw [if_neg z]; exact hj j (by omega))
theorem copy_route {L2 L : Nat} {P2 P : RouV} {l : Nat} (hp : P2 0 1 = nI l) (h2 : l ≤ L2) (hL : l ≤ L) (b2 : L2 < 1000) (bL : L < 1000) : gP_X4_copyFrom L2 L P2 P 0 1 = nI l ∧ ∀ j, j < l → gP_X4_copyFrom L2 L P2 P 1 j = P2 1 j := by
  unfold gP_X4_copyFrom o_X4_copyFrom
  rw [hp, ix_nI (by omega)]
  exact copy_go hp h2 hL b2 bL l 0 _ (by omega) (uv_s _ _ _ _) (fun j hj => by omega)
theorem cpx_out (w2 w k : Nat) (I : MI) {x : Nat} (h : x < w + 6 * k ∨ w + 6 * k + 6 ≤ x) : cpw w2 w k I x = I x := by
  unfold cpw
  rw [pt_out (by omega), pt_out (by omega), pt_out (by omega)]
theorem itr_cpw_out (w2 w : Nat) : ∀ (n k : Nat) (I : MI) {x : Nat}, (x < w + 6 * k ∨ w + 6 * (k + n) ≤ x) → itr (cpw w2 w) k n I x = I x
  | 0, k, I, x, _ => rfl
  | n + 1, k, I, x, h => by
    show itr (cpw w2 w) (k + 1) n (cpw w2 w k I) x = I x
    rw [itr_cpw_out w2 w n (k + 1) _ (by omega), cpx_out w2 w k I (by omega)]
theorem itr_cpw_at (w2 w : Nat) (hd : w2 + 24 ≤ w ∨ w + 24 ≤ w2) {j : Nat} (j4 : j < 4) : ∀ (n k : Nat) (I : MI), k ≤ j → j < k + n → k + n ≤ 4 → wks (itr (cpw w2 w) k n I) w j = (gK_X7_copyFrom 12 12 (wks I w2 j).1 (wks I w2 j).2.1 (wks I w2 j).2.2 (wks I w j).1 (wks I w j).2.1 (wks I w j).2.2, gP_X7_copyFrom 12 12 (wks I w2 j).1 (wks I w2 j).2.1 (wks I w2 j).2.2 (wks I w j).1 (wks I w j).2.1 (wks I w j).2.2, gB_X7_copyFrom 12 12 (wks I w2 j).1 (wks I w2 j).2.1 (wks I w2 j).2.2 (wks I w j).1 (wks I w j).2.1 (wks I w j).2.2)
  | 0, k, I, h1, h2, _ => by omega
  | n + 1, k, I, h1, h2, h3 => by
    show wks (itr (cpw w2 w) (k + 1) n (cpw w2 w k I)) w j = _
    rcases Nat.eq_or_lt_of_le h1 with q | q
    · subst q
      have e1 : wks (itr (cpw w2 w) (k + 1) n (cpw w2 w k I)) w k = wks (cpw w2 w k I) w k := by
        have f : ∀ x, x < w + 6 * (k + 1) → itr (cpw w2 w) (k + 1) n (cpw w2 w k I) x = cpw w2 w k I x := fun x hx => itr_cpw_out w2 w n (k + 1) _ (Or.inl hx)
        unfold wks
        rw [vw_fr (N := 1) (fun x a b => f x (by omega)), vw_fr (N := 2) (fun x a b => f x (by omega)), vw_fr (N := 3) (fun x a b => f x (by omega))]
      rw [e1]
      unfold wks cpw
      rw [vw_out (N := 1) _ _ (by omega), vw_out (N := 1) _ _ (by omega), vw_pt, vw_out (N := 2) _ _ (by omega), vw_pt, vw_pt]
    · have ih := itr_cpw_at w2 w hd j4 n (k + 1) (cpw w2 w k I) (by omega) (by omega) (by omega)
      rw [ih]
      have f : ∀ x, (x < w + 6 * k ∨ w + 6 * k + 6 ≤ x) → cpw w2 w k I x = I x := fun x hx => cpx_out w2 w k I hx
      have e1 : wks (cpw w2 w k I) w2 j = wks I w2 j := by
        unfold wks
        rw [vw_fr (N := 1) (fun x a b => f x (by omega)), vw_fr (N := 2) (fun x a b => f x (by omega)), vw_fr (N := 3) (fun x a b => f x (by omega))]
      have e2 : wks (cpw w2 w k I) w j = wks I w j := by
        unfold wks
        rw [vw_fr (N := 1) (fun x a b => f x (by omega)), vw_fr (N := 2) (fun x a b => f x (by omega)), vw_fr (N := 3) (fun x a b => f x (by omega))]
      rw [e1, e2]
theorem WkEq.copy {w2 w : OneV × RouV × TriV} {l : Nat} (hl : ¬ bz (w2.1 0 5) = 0 → ∃ l, w2.2.1 0 1 = nI l ∧ l ≤ 12) : WkEq (gK_X7_copyFrom 12 12 w2.1 w2.2.1 w2.2.2 w.1 w.2.1 w.2.2, gP_X7_copyFrom 12 12 w2.1 w2.2.1 w2.2.2 w.1 w.2.1 w.2.2, gB_X7_copyFrom 12 12 w2.1 w2.2.1 w2.2.2 w.1 w.2.1 w.2.2) w2 := by
  refine ⟨?_, fun q => ?_⟩
  · show bz (gK_X7_copyFrom 12 12 w2.1 w2.2.1 w2.2.2 w.1 w.2.1 w.2.2 0 5) = _
    unfold gK_X7_copyFrom
    simp [uv, bz_bz]
  · obtain ⟨l, l1, l2⟩ := hl q
    have cr := copy_route (P := w.2.1) l1 l2 l2 (by decide) (by decide)
    refine ⟨?_, ?_, ?_, ?_, ?_, fun k h1 h2 => ?_, fun k hk => ?_⟩
    · show gK_X7_copyFrom 12 12 w2.1 w2.2.1 w2.2.2 w.1 w.2.1 w.2.2 0 4 = _
      unfold gK_X7_copyFrom
      simp [uv]
    · show bz (gK_X7_copyFrom 12 12 w2.1 w2.2.1 w2.2.2 w.1 w.2.1 w.2.2 0 6) = _
      unfold gK_X7_copyFrom
      simp [uv, bz_bz]
    · show gK_X7_copyFrom 12 12 w2.1 w2.2.1 w2.2.2 w.1 w.2.1 w.2.2 0 7 = _
      unfold gK_X7_copyFrom
      simp [uv]
    · show gK_X7_copyFrom 12 12 w2.1 w2.2.1 w2.2.2 w.1 w.2.1 w.2.2 0 8 = _
      unfold gK_X7_copyFrom
      simp [uv]
    · rw [l1]
      exact cr.1
    · rw [l1, ix_nI (by omega)] at h2
      exact cr.2 k h2
    · show gB_X7_copyFrom 12 12 w2.1 w2.2.1 w2.2.2 w.1 w.2.1 w.2.2 0 k = _ ∧ gB_X7_copyFrom 12 12 w2.1 w2.2.1 w2.2.2 w.1 w.2.1 w.2.2 1 k = _ ∧ gB_X7_copyFrom 12 12 w2.1 w2.2.1 w2.2.2 w.1 w.2.1 w.2.2 2 k = _
      unfold gB_X7_copyFrom
      simp [cpv, hk]
theorem UEq.copy (U2 U : NodV) : UEq (gU_X2_copyFrom U2 U) U2 := by
  unfold gU_X2_copyFrom
  refine ⟨?_, ?_, fun k hk => ⟨?_, ?_, ?_, ?_⟩, fun v hv => ?_⟩
  · simp [uv]
  · simp [uv]
  · simp [uv, cpv, hk]
  · simp [uv, cpv, hk]
  · simp [uv, cpv, hk]
  · simp [uv, cpv, hk]
  · simp [uv, cpv, hv]
theorem VEq.copy (V2 V : MemV) : VEq (gV_X1_copyFrom V2 V) V2 := by
  unfold gV_X1_copyFrom
  refine ⟨⟨?_, ?_, ?_, ?_⟩, fun k hk => ⟨?_, ?_, ?_, ?_, ?_, ?_, ?_, ?_⟩, fun v hv => ⟨?_, ?_⟩⟩
  · simp [uv]
  · simp [uv]
  · simp [uv]
  · simp [uv]
  · simp [uv, cpv, hk]
  · simp [uv, cpv, hk]
  · simp [uv, cpv, hk]
  · simp [uv, cpv, hk]
  · simp [uv, cpv, hk]
  · simp [uv, cpv, hk]
  · simp [uv, cpv, hk]
  · simp [uv, cpv, hk]
  · simp [uv, cpv, hv]
  · simp [uv, cpv, hv]
theorem copy_out (I : MI) (n2 m2 g2 w2 n m g w : Nat) {x : Nat} (hn : x < n ∨ n + 6 ≤ x) (hm : x < m ∨ m + 12 ≤ x) (hg : x ≠ g) (hw : x < w ∨ w + 24 ≤ x) : h_X8_copyFrom I n2 m2 g2 w2 n m g w x = I x := by
  unfold h_X8_copyFrom
  rw [itr_cpw_out w2 w 4 0 _ (by omega)]
  funext y
  show (if x = g ∧ y < 6 then I g2 y else (pt (pt I n _) m _) x y) = I x y
  rw [if_neg (fun q => hg q.1), pt_out hm, pt_out hn]
/-- a copy of a world is one -/
theorem Wd.copy {I : MI} {n2 m2 g2 w2 n m g w vol T : Nat} {D : RowV} (h : Wd I n2 m2 g2 w2 D vol T) (d1 : n + 6 ≤ m) (d2 : m + 12 ≤ g) (d3 : g < w) (e1 : n2 + 6 ≤ m2) (e2 : m2 + 12 ≤ g2) (e3 : g2 < w2) (ds : w + 24 ≤ n2 ∨ w2 + 24 ≤ n) : Wd (h_X8_copyFrom I n2 m2 g2 w2 n m g w) n m g w D vol T := by
  have o : ∀ x, (x < w ∨ w + 24 ≤ x) → h_X8_copyFrom I n2 m2 g2 w2 n m g w x = fun y => if x = g ∧ y < 6 then I g2 y else (pt (pt I n (gU_X2_copyFrom (vw 6 I n2) (vw 6 I n))) m (gV_X1_copyFrom (vw 12 I m2) (vw 12 I m))) x y := by
    intro x hx
    unfold h_X8_copyFrom
    rw [itr_cpw_out w2 w 4 0 _ (by omega)]
  have eU : vw 6 (h_X8_copyFrom I n2 m2 g2 w2 n m g w) n = gU_X2_copyFrom (vw 6 I n2) (vw 6 I n) := by
    funext k j
    have := k.isLt
    show h_X8_copyFrom I n2 m2 g2 w2 n m g w (n + k.val) j = _
    rw [o _ (by omega)]
    show (if n + k.val = g ∧ j < 6 then _ else _) = _
    rw [if_neg (by omega), pt_out (by omega), pt_in]
  have eV : vw 12 (h_X8_copyFrom I n2 m2 g2 w2 n m g w) m = gV_X1_copyFrom (vw 12 I m2) (vw 12 I m) := by
    funext k j
    have := k.isLt
    show h_X8_copyFrom I n2 m2 g2 w2 n m g w (m + k.val) j = _
    rw [o _ (by omega)]
    show (if m + k.val = g ∧ j < 6 then _ else _) = _
    rw [if_neg (by omega), pt_in]
  refine h.cg ?_ ?_ ?_ (fun k hk nn t i => ?_) (fun _ _ => rfl)
  · rw [eU]; exact UEq.copy _ _
  · rw [eV]; exact VEq.copy _ _
  · intro k hk
    show h_X8_copyFrom I n2 m2 g2 w2 n m g w (g + 0) k = I (g2 + 0) k
    rw [Nat.add_zero, Nat.add_zero, o g (by omega)]
    show (if g = g ∧ k < 6 then _ else _) = _
    rw [if_pos ⟨rfl, hk⟩]
  · have e := itr_cpw_at w2 w (by omega) hk 4 0 (fun x y => if x = g ∧ y < 6 then I g2 y else (pt (pt I n (gU_X2_copyFrom (vw 6 I n2) (vw 6 I n))) m (gV_X1_copyFrom (vw 12 I m2) (vw 12 I m))) x y) (Nat.zero_le _) (by omega) (by omega)
    have f : ∀ x, w2 ≤ x → x < w2 + 24 → (fun x y => if x = g ∧ y < 6 then I g2 y else (pt (pt I n (gU_X2_copyFrom (vw 6 I n2) (vw 6 I n))) m (gV_X1_copyFrom (vw 12 I m2) (vw 12 I m))) x y) x = I x := by
      intro x a b
      funext y
      show (if x = g ∧ y < 6 then _ else _) = _
      rw [if_neg (by omega), pt_out (by omega), pt_out (by omega)]
    have f2 := wks_fr f hk
    unfold h_X8_copyFrom
    rw [e, f2]
    refine WkEq.copy (l := 0) (fun q => ?_)
    obtain ⟨mm, dd, l, r, _, hw⟩ := i.W k hk q
    exact ⟨l, hw.l, hw.l12⟩
end
section
/-! Layouts where all but one row stays. -/
def Gx (J J' : MJ) (a b : Nat) : Prop := ∀ x, a ≤ x → x < b → jR J' x = jR J x ∧ jS J' x = jS J x
theorem NodL.gx {J J' : MJ} {n : Nat} (h : NodL J n) (g : Gx J J' n (n + 6)) : NodL J' n := by
  unfold NodL
  rw [(g n (by omega) (by omega)).1, (g n (by omega) (by omega)).2, (g (n + 1) (by omega) (by omega)).2, (g (n + 2) (by omega) (by omega)).2, (g (n + 3) (by omega) (by omega)).2, (g (n + 4) (by omega) (by omega)).2, (g (n + 5) (by omega) (by omega)).2]
  exact h
theorem MemL.gx {J J' : MJ} {m n : Nat} (h : MemL J m n) (g : Gx J J' m (m + 12)) : MemL J' m n := by
  unfold MemL
  rw [(g m (by omega) (by omega)).1, (g m (by omega) (by omega)).2, (g (m + 1) (by omega) (by omega)).2, (g (m + 2) (by omega) (by omega)).2, (g (m + 3) (by omega) (by omega)).2, (g (m + 4) (by omega) (by omega)).2, (g (m + 5) (by omega) (by omega)).2, (g (m + 6) (by omega) (by omega)).2, (g (m + 7) (by omega) (by omega)).2, (g (m + 8) (by omega) (by omega)).2, (g (m + 9) (by omega) (by omega)).2, (g (m + 10) (by omega) (by omega)).2, (g (m + 11) (by omega) (by omega)).2]
  exact h
theorem RouL.gx {J J' : MJ} {r L : Nat} (h : RouL J r L) (g : Gx J J' r (r + 2)) : RouL J' r L := by
  unfold RouL
  rw [(g r (by omega) (by omega)).1, (g r (by omega) (by omega)).2, (g (r + 1) (by omega) (by omega)).2]
  exact h
theorem WksL.gx {J J' : MJ} {z w : Nat} (h : WksL J z w) (gz : jR J' z = jR J z ∧ jS J' z = jS J z) (g : Gx J J' w (w + 24)) : WksL J' z w := by
  unfold WksL at h ⊢
  rw [gz.1, gz.2]
  refine ⟨h.1, fun k hk => ?_⟩
  obtain ⟨a, b, c, d⟩ := h.2 k hk
  refine ⟨a, ?_, c.gx (fun x p q => g x (by omega) (by omega)), ?_⟩
  · unfold WalL
    rw [(g (w + 6 * k) (by omega) (by omega)).1, (g (w + 6 * k) (by omega) (by omega)).2]
    exact b
  · unfold BufL
    rw [(g (w + 6 * k + 3) (by omega) (by omega)).2, (g (w + 6 * k + 3 + 1) (by omega) (by omega)).2, (g (w + 6 * k + 3 + 2) (by omega) (by omega)).2]
    exact d
theorem KwL.gx {J J' : MJ} {a : Nat} (h : KwL J a) (g : Gx J J' a (a + 45)) : KwL J' a := by
  refine ⟨h.1.gx (fun x p q => g x (by omega) (by omega)), ?_, h.2.2.1.gx (fun x p q => g x (by omega) (by omega)), ?_, h.2.2.2.2.gx (g (a + 20) (by omega) (by omega)) (fun x p q => g x (by omega) (by omega))⟩
  · unfold WorL
    rw [(g (a + 6) (by omega) (by omega)).1, (g (a + 6) (by omega) (by omega)).2]
    exact h.2.1
  · unfold HanL
    rw [(g (a + 19) (by omega) (by omega)).2]
    exact h.2.2.2.1
theorem KL.gx {J J' : MJ} (h : KL J) (g : ∀ x, x < 188 → x ≠ 68 → jR J' x = jR J x ∧ jS J' x = jS J x) (g68 : jS J' 68 = jS J 68) : KL J' := by
  have gg : ∀ a b, b ≤ 188 → (68 < a ∨ b ≤ 68) → Gx J J' a b := fun a b p q x r s => g x (by omega) (by omega)
  refine ⟨?_, ⟨?_, ?_, h.draft.gx (gg _ _ (by decide) (by decide)), h.nodes.gx (gg _ _ (by decide) (by decide)), ?_, h.mem.gx (gg _ _ (by decide) (by decide)), ?_, h.wks.gx (g 30 (by decide) (by decide)) (gg _ _ (by decide) (by decide)), h.trial.gx (gg _ _ (by decide) (by decide)), ?_, ?_, ?_, h.long.gx (gg _ _ (by decide) (by decide))⟩, ?_, ?_, ?_⟩
  · rw [(g 0 (by decide) (by decide)).1, (g 0 (by decide) (by decide)).2]
    exact h.1
  · unfold TapL
    rw [(g 7 (by decide) (by decide)).1, (g 7 (by decide) (by decide)).2, (g (7 + 1) (by decide) (by decide)).2]
    exact h.tape
  · unfold RdrL
    rw [(g 9 (by decide) (by decide)).1, (g 9 (by decide) (by decide)).2]
    exact h.reader
  · unfold WorL
    rw [(g 16 (by decide) (by decide)).1, (g 16 (by decide) (by decide)).2]
    exact h.world
  · unfold HanL
    rw [(g 29 (by decide) (by decide)).2]
    exact h.han
  · unfold HisL
    rw [(g 67 (by decide) (by decide)).1, (g 67 (by decide) (by decide)).2, g68]
    exact h.his
  · have t := h.trc
    unfold TrcL at t ⊢
    obtain ⟨t1, t2, t3, t4, t5, t6, t7, t8, t9, t10, t11, t12, t13, t14, t15⟩ := t
    rw [(g 69 (by decide) (by decide)).1, (g 69 (by decide) (by decide)).2, (g (69 + 25) (by decide) (by decide)).1, (g (69 + 25) (by decide) (by decide)).2, (g (69 + 26) (by decide) (by decide)).1, (g (69 + 26) (by decide) (by decide)).2, (g (69 + 64) (by decide) (by decide)).2]
    refine ⟨t1, t2, t3, t4, t5, t6, t7, fun k hk => ⟨(t8 k hk).1, (t8 k hk).2.gx (gg _ _ (by omega) (by omega))⟩, t9, fun r hr => ⟨(t10 r hr).1, ?_⟩, t11, t12.gx (gg _ _ (by decide) (by decide)), t13.gx (gg _ _ (by decide) (by decide)), t14.gx (gg _ _ (by decide) (by decide)), t15⟩
    rw [(g (69 + 27 + r) (by omega) (by omega)).2]
    exact (t10 r hr).2
  · have t := h.tol
    unfold TolL at t ⊢
    rw [(g (158 + 4) (by decide) (by decide)).1, (g (158 + 4) (by decide) (by decide)).2]
    refine ⟨t.1, fun k hk => ⟨(t.2 k hk).1, (t.2 k hk).2.gx ?_⟩⟩
    refine gg _ _ ?_ ?_
    · unfold rr
      split <;> omega
    · unfold rr
      split <;> omega
  · rw [(g 185 (by decide) (by decide)).2]; exact h.wri
  · rw [(g 186 (by decide) (by decide)).2]; exact h.ref
  · rw [(g 187 (by decide) (by decide)).2]; exact h.out
theorem RefL.gx {J J' : MJ} (h : RefL J) (g : Gx J J' 188 208) : RefL J' := by
  unfold RefL
  rw [(g 188 (by decide) (by decide)).1, (g 188 (by decide) (by decide)).2, (g 189 (by decide) (by decide)).2, (g 190 (by decide) (by decide)).2, (g 191 (by decide) (by decide)).2, (g 192 (by decide) (by decide)).2, (g 193 (by decide) (by decide)).2, (g 194 (by decide) (by decide)).2, (g 195 (by decide) (by decide)).2, (g 196 (by decide) (by decide)).2, (g 197 (by decide) (by decide)).2, (g 198 (by decide) (by decide)).2, (g 199 (by decide) (by decide)).2, (g 200 (by decide) (by decide)).2, (g 201 (by decide) (by decide)).2, (g 202 (by decide) (by decide)).2, (g 203 (by decide) (by decide)).2, (g 204 (by decide) (by decide)).2, (g 205 (by decide) (by decide)).2, (g 206 (by decide) (by decide)).2, (g 207 (by decide) (by decide)).2]
  exact h
end
section
/-! The history, on both sides. -/
abbrev jC (J : MJ) : Nat := J.2.2.2.1
abbrev jB (J : MJ) : Nat := J.2.2.2.2
def KSl (J : MJ) (ad : Nat → Option Nat) : Prop := (∀ s, s < 20 → (ad s = none ∧ jR J 68 s = none) ∨ ∃ a, ad s = some a ∧ jR J 68 s = some (a + 6) ∧ KwL J a ∧ 208 ≤ a ∧ a + 45 ≤ jC J) ∧ ∀ s s' a a', s < 20 → s' < 20 → s ≠ s' → ad s = some a → ad s' = some a' → a + 45 ≤ a' ∨ a' + 45 ≤ a
def Rm (J : MJ) (ad : Nat → Option Nat) (B0 : Nat) : Prop := jC J = 208 + 45 * cnt (fun s => (ad s).isSome) 0 20 ∧ jB J = B0 + 1193 * cnt (fun s => (ad s).isSome) 0 20
def kpt (I : MI) (ad : Nat → Option Nat) (p j vol T : Nat) : Prop := ∃ a, ad ((p + 19 - j) % 20) = some a ∧ Wd I a (a + 7) (a + 19) (a + 21) (fun i => I 199 (1853 * ((p + 20 - j) % 20) + i)) vol T
def His (I : MI) (J : MJ) (ad : Nat → Option Nat) (p q vol T B0 : Nat) : Prop := (I 67 1 = nI p ∧ p < 20 ∧ I 67 2 = nI q ∧ q ≤ 20) ∧ (I 188 28 = nI q ∧ I 188 29 = nI p) ∧ KSl J ad ∧ Rm J ad B0 ∧ ∀ j, j < q → kpt I ad p j vol T
theorem His.fr {I I' : MI} {J : MJ} {ad : Nat → Option Nat} {p q vol T T' B0 : Nat} (h : His I J ad p q vol T B0) (e67 : I' 67 = I 67) (e28 : I' 188 28 = I 188 28) (e29 : I' 188 29 = I 188 29) (e199 : I' 199 = I 199) (ek : ∀ a, 208 ≤ a → I' a = I a) (hT : T ≤ T') (h30 : T' ≤ 1000000000) : His I' J ad p q vol T' B0 := by
  refine ⟨by rw [e67]; exact h.1, by rw [e28, e29]; exact h.2.1, h.2.2.1, h.2.2.2.1, fun j hj => ?_⟩
  obtain ⟨a, a1, a2⟩ := h.2.2.2.2 j hj
  have a3 : 208 ≤ a := by
    have := h.1.2.1
    rcases h.2.2.1.1 ((p + 19 - j) % 20) (by omega) with z | ⟨b, b1, _, _, b2, _⟩
    · rw [z.1] at a1; cases a1
    · rw [b1] at a1; cases a1; exact b2
  refine ⟨a, a1, (a2.fr (fun x _ _ => ek x (by omega)) (fun x _ _ => ek x (by omega)) (ek _ (by omega)) (fun x _ _ => ek x (by omega)) (fun k _ => by rw [e199])).T hT h30⟩
/-- what the class's keep leaves, and what follows once the reference has kept, too -/
def KpF (I : MI) (J : MJ) (p q vol T B0 : Nat) (D : RowV) (X : MI) (J1 : MJ) : Prop := KL J1 ∧ RefL J1 ∧ (∀ a, a < 208 → J1.1 a = J.1 a) ∧ (∀ a, a < 208 → a ≠ 67 → X a = I a) ∧ ∃ ad', ∀ I2, I2 67 = X 67 → (∀ a, 208 ≤ a → I2 a = X a) → I2 188 28 = nI (min (q + 1) 20) → I2 188 29 = nI ((p + 1) % 20) → (∀ k, k < 1853 → I2 199 (1853 * ((p + 1) % 20) + k) = D k) → (∀ s k, s < 20 → s ≠ (p + 1) % 20 → k < 1853 → I2 199 (1853 * s + k) = I 199 (1853 * s + k)) → His I2 J1 ad' ((p + 1) % 20) (min (q + 1) 20) vol T B0
theorem His.keep {I : MI} {J : MJ} {ad : Nat → Option Nat} {p q vol T B0 : Nat} {D : RowV} (k : KL J) (r : RefL J) (hh : His I J ad p q vol T B0) (w : Wd I 1 17 29 31 D vol T) : ∃ X J1, M_X0_keep [mR (some 67), mR (some 16)] (I, J) = some (none, (X, J1)) ∧ KpF I J p q vol T B0 D X J1 := by
  obtain ⟨⟨hp, p20, hq, q20⟩, _, hK, hR, hkp⟩ := hh
  have p1 : (if p + 1 < 20 then p + 1 else 0) = (p + 1) % 20 := by split <;> omega
  have k67 : ∀ (Y : MI), kpI Y 67 p q 67 1 = nI ((p + 1) % 20) ∧ kpI Y 67 p q 67 2 = nI (min (q + 1) 20) := fun Y => by
    unfold kpI
    rw [p1]
    simp [up2]
  have ko : ∀ (Y : MI) x, x ≠ 67 → kpI Y 67 p q x = Y x := fun Y x hx => by
    funext y
    unfold kpI
    simp [up2, hx]
  rcases hK.1 p p20 with ⟨z1, z2⟩ | ⟨a, a1, a2, a3, a4, a5⟩
  · have cge : 208 ≤ jC J := by
      have := hR.1
      omega
    obtain ⟨I1, J1, e1, e2, e3, e4, e5, e6, e7⟩ := t_keep_new k.his k.world k.han k.wks k.nodes k.mem z2 I (show 1 + 6 ≤ jC J by omega) (show 17 + 12 ≤ jC J by omega) (show 29 < jC J by omega) (show 31 + 24 ≤ jC J by omega) (show 67 < jC J by omega) (show 68 < jC J by omega) (show 16 < jC J by omega) (show 30 < jC J by omega) (by decide) (by decide) (by decide) (by decide) (by decide) (by decide) (by decide) hp hq p20 q20
    have e2 : jC J1 = jC J + 45 := e2
    have e3 : jB J1 = jB J + 1193 := e3
    have e4 : ∀ x, x < jC J → I1 x = I x ∧ J1.1 x = J.1 x ∧ jS J1 x = jS J x := e4
    have e5 : ∀ x, x < jC J → x ≠ 68 → jR J1 x = jR J x ∧ jS J1 x = jS J x := e5
    have e6 : ∀ k, jR J1 68 k = if k = p then some (jC J + 6) else jR J 68 k := e6
    have e7 : KwL J1 (jC J) := e7
    have ev : sz (I, J) = jC J := rfl
    rw [ev] at e1
    generalize hc : jC J = c at e1 e2 e4 e5 e6 e7 cge
    have co : ∀ x, x < c → kpI (h_X8_copyFrom I1 1 17 29 31 c (c + 7) (c + 19) (c + 21)) 67 p q x = if x = 67 then kpI (h_X8_copyFrom I1 1 17 29 31 c (c + 7) (c + 19) (c + 21)) 67 p q 67 else I x := fun x hx => by
      by_cases z : x = 67
      · rw [if_pos z, z]
      · rw [if_neg z, ko _ _ z, copy_out I1 1 17 29 31 c (c + 7) (c + 19) (c + 21) (by omega) (by omega) (by omega) (by omega)]
        exact (e4 x hx).1
    have w1 : Wd I1 1 17 29 31 D vol T := w.fr (fun x _ _ => (e4 x (by omega)).1) (fun x _ _ => (e4 x (by omega)).1) (e4 29 (by omega)).1 (fun x _ _ => (e4 x (by omega)).1) (fun _ _ => rfl)
    have w2 := w1.copy (n := c) (m := c + 7) (g := c + 19) (w := c + 21) (by omega) (by omega) (by omega) (by decide) (by decide) (by decide) (Or.inr (by omega))
    refine ⟨_, J1, e1, k.gx (fun x a b => e5 x (by omega) b) ((e4 68 (by omega)).2.2), r.gx (fun x a b => e5 x (by omega) (by omega)), fun a ha => (e4 a (by omega)).2.1, fun a ha hne => ?_, fun s => if s = p then some c else ad s, fun I2 h67 hk h28 h29 hD hs => ?_⟩
    · rw [co a (by omega), if_neg hne]
    · refine ⟨?_, ⟨h28, h29⟩, ⟨fun s hs' => ?_, fun s s' b b' h1 h2 h3 h4 h5 => ?_⟩, ?_, fun j hj => ?_⟩
      · rw [h67]
        exact ⟨(k67 _).1, by omega, (k67 _).2, by omega⟩
      · by_cases z : s = p
        · refine Or.inr ⟨c, if_pos z, ?_, e7, cge, by omega⟩
          rw [e6 s, if_pos z]
        · rcases hK.1 s hs' with ⟨y1, y2⟩ | ⟨b, b1, b2, b3, b4, b5⟩
          · exact Or.inl ⟨(if_neg z).trans y1, by rw [e6 s, if_neg z]; exact y2⟩
          · rw [hc] at b5
            exact Or.inr ⟨b, (if_neg z).trans b1, by rw [e6 s, if_neg z]; exact b2, b3.gx (fun x p q => e5 x (by omega) (by omega)), b4, by omega⟩
      · have low : ∀ s b, s < 20 → ad s = some b → b + 45 ≤ c := fun s b hs h => by
          rcases hK.1 s hs with ⟨y1, _⟩ | ⟨b', b1, _, _, _, b5⟩
          · rw [y1] at h; cases h
          · rw [b1] at h; cases h; rw [hc] at b5; exact b5
        by_cases z : s = p
        · have h4 : (if s = p then some c else ad s) = some b := h4
          have h5 : (if s' = p then some c else ad s') = some b' := h5
          rw [if_pos z] at h4
          rw [if_neg (by omega)] at h5
          cases h4
          have := low s' b' h2 h5
          omega
        · have h4 : (if s = p then some c else ad s) = some b := h4
          have h5 : (if s' = p then some c else ad s') = some b' := h5
          rw [if_neg z] at h4
          by_cases z' : s' = p
          · rw [if_pos z'] at h5
            cases h5
            have := low s b h1 h4
            omega
          · rw [if_neg z'] at h5
            exact hK.2 s s' b b' h1 h2 h3 h4 h5
      · have one := cnt_one (P := fun s => (ad s).isSome) (P' := fun s => (if s = p then some c else ad s).isSome) (e := p) (n := 20) (k := 0) (Nat.zero_le _) (by omega) (fun i _ _ q => by simp [q])
        rw [z1] at one
        have y1 : (if (none : Option Nat).isSome = true then 1 else 0) = 0 := rfl
        have y2 : (if (if p = p then some c else none : Option Nat).isSome = true then 1 else 0) = 1 := by rw [if_pos rfl]; rfl
        rw [y1, y2, Nat.add_zero] at one
        unfold Rm
        have r1 := hR.1
        have r2 := hR.2
        rw [e2, e3, one, r2]
        rw [hc] at r1
        refine ⟨by omega, by omega⟩
      · have kp20 : j < 20 := by omega
        by_cases z : j = 0
        · subst z
          refine ⟨c, if_pos (by omega), ?_⟩
          refine w2.fr (fun x _ _ => ?_) (fun x _ _ => ?_) ?_ (fun x _ _ => ?_) (fun i hi => ?_)
          · rw [hk x (by omega), ko _ _ (by omega)]
          · rw [hk x (by omega), ko _ _ (by omega)]
          · rw [hk _ (by omega), ko _ _ (by omega)]
          · rw [hk x (by omega), ko _ _ (by omega)]
          · show I2 199 (1853 * (((p + 1) % 20 + 20 - 0) % 20) + i) = D i
            rw [show ((p + 1) % 20 + 20 - 0) % 20 = (p + 1) % 20 by omega]
            exact hD i hi
        · obtain ⟨b, b1, b2⟩ := hkp (j - 1) (by omega)
          have bs : (p + 19 - (j - 1)) % 20 = ((p + 1) % 20 + 19 - j) % 20 := by omega
          have bl : b + 45 ≤ c ∧ 208 ≤ b := by
            rcases hK.1 ((p + 19 - (j - 1)) % 20) (by omega) with ⟨y1, _⟩ | ⟨b', b1', _, _, b4, b5⟩
            · rw [y1] at b1; cases b1
            · rw [b1'] at b1; cases b1; rw [hc] at b5; exact ⟨b5, b4⟩
          refine ⟨b, ?_, ?_⟩
          · show (if ((p + 1) % 20 + 19 - j) % 20 = p then some c else ad (((p + 1) % 20 + 19 - j) % 20)) = some b
            rw [if_neg (by omega), ← bs]
            exact b1
          · have same : ∀ x, 208 ≤ x → x < c → I2 x = I x := fun x a1 a2 => by
              rw [hk x a1, co x a2, if_neg (by omega)]
            refine b2.fr (fun x _ _ => same x (by omega) (by omega)) (fun x _ _ => same x (by omega) (by omega)) (same _ (by omega) (by omega)) (fun x _ _ => same x (by omega) (by omega)) (fun i hi => ?_)
            show I2 199 (1853 * (((p + 1) % 20 + 20 - j) % 20) + i) = I 199 (1853 * ((p + 20 - (j - 1)) % 20) + i)
            rw [show (p + 20 - (j - 1)) % 20 = ((p + 1) % 20 + 20 - j) % 20 by omega]
            exact hs _ i (by omega) (by omega) hi
  · have e1 := t_keep_old k.his k.world k.han k.wks k.nodes k.mem a3 a2 (show 1 + 6 ≤ a by omega) (show 17 + 12 ≤ a by omega) (show 29 < a by omega) (show 31 + 24 ≤ a by omega) (show 67 < a by omega) I hp hq p20 q20
    have w2 := w.copy (n := a) (m := a + 7) (g := a + 19) (w := a + 21) (by omega) (by omega) (by omega) (by decide) (by decide) (by decide) (Or.inr (by omega))
    have co : ∀ x, x ≠ 67 → (x < a ∨ a + 45 ≤ x) → kpI (h_X8_copyFrom I 1 17 29 31 a (a + 7) (a + 19) (a + 21)) 67 p q x = I x := fun x h1 h2 => by
      rw [ko _ _ h1, copy_out I 1 17 29 31 a (a + 7) (a + 19) (a + 21) (by omega) (by omega) (by omega) (by omega)]
    refine ⟨_, J, e1, k, r, fun a ha => rfl, fun x hx hne => co x hne (by omega), ad, fun I2 h67 hk h28 h29 hD hs => ⟨?_, ⟨h28, h29⟩, hK, hR, fun j hj => ?_⟩⟩
    · rw [h67]
      exact ⟨(k67 _).1, by omega, (k67 _).2, by omega⟩
    · by_cases z : j = 0
      · subst z
        refine ⟨a, by rw [show ((p + 1) % 20 + 19 - 0) % 20 = p by omega]; exact a1, ?_⟩
        refine w2.fr (fun x _ _ => ?_) (fun x _ _ => ?_) ?_ (fun x _ _ => ?_) (fun i hi => ?_)
        · rw [hk x (by omega), ko _ _ (by omega)]
        · rw [hk x (by omega), ko _ _ (by omega)]
        · rw [hk _ (by omega), ko _ _ (by omega)]
        · rw [hk x (by omega), ko _ _ (by omega)]
        · show I2 199 (1853 * (((p + 1) % 20 + 20 - 0) % 20) + i) = D i
          rw [show ((p + 1) % 20 + 20 - 0) % 20 = (p + 1) % 20 by omega]
          exact hD i hi
      · obtain ⟨b, b1, b2⟩ := hkp (j - 1) (by omega)
        have bs : (p + 19 - (j - 1)) % 20 = ((p + 1) % 20 + 19 - j) % 20 := by omega
        have bl : (a + 45 ≤ b ∨ b + 45 ≤ a) ∧ 208 ≤ b := by
          refine ⟨hK.2 p ((p + 19 - (j - 1)) % 20) a b p20 (by omega) (by omega) a1 b1, ?_⟩
          rcases hK.1 ((p + 19 - (j - 1)) % 20) (by omega) with ⟨y1, _⟩ | ⟨b', b1', _, _, b4, b5⟩
          · rw [y1] at b1; cases b1
          · rw [b1'] at b1; cases b1; exact b4
        refine ⟨b, by rw [← bs]; exact b1, ?_⟩
        have same : ∀ x, b ≤ x → x < b + 45 → I2 x = I x := fun x a1 a2 => by
          rw [hk x (by omega), co x (by omega) (by omega)]
        refine b2.fr (fun x _ _ => same x (by omega) (by omega)) (fun x _ _ => same x (by omega) (by omega)) (same _ (by omega) (by omega)) (fun x _ _ => same x (by omega) (by omega)) (fun i hi => ?_)
        show I2 199 (1853 * (((p + 1) % 20 + 20 - j) % 20) + i) = I 199 (1853 * ((p + 20 - (j - 1)) % 20) + i)
        rw [show (p + 20 - (j - 1)) % 20 = ((p + 1) % 20 + 20 - j) % 20 by omega]
        exact hs _ i (by omega) (by omega) hi
/-! The reference's rows copied. -/
theorem itr_cp (D : RowV) (o : Nat) : ∀ (n k : Nat) (A : RowV) (j : Nat), itr (fun k A => sD A (o + k) (D k)) k n A j = if o + k ≤ j ∧ j < o + k + n then D (j - o) else A j
  | 0, k, A, j => by
    rw [if_neg (by omega)]
    rfl
  | n + 1, k, A, j => by
    show itr (fun k A => sD A (o + k) (D k)) (k + 1) n (sD A (o + k) (D k)) j = _
    rw [itr_cp D o n (k + 1) _ j]
    by_cases q : j = o + k
    · rw [if_neg (by omega), if_pos (by omega), q, sD_s]
      congr 1
      omega
    · rw [sD_n _ _ q]
      by_cases q2 : o + (k + 1) ≤ j ∧ j < o + (k + 1) + n
      · rw [if_pos q2, if_pos (by omega)]
      · rw [if_neg q2, if_neg (by omega)]
/-- one row of the heap replaced -/
def rw1 (I : MI) (a : Nat) (A : RowV) : MI := fun x j => if x = a then A j else I x j
theorem rw1_s (I : MI) (a : Nat) (A : RowV) : rw1 I a A a = A := by
  funext j
  exact if_pos rfl
theorem rw1_n (I : MI) {a x : Nat} (A : RowV) (h : x ≠ a) : rw1 I a A x = I x := by
  funext j
  exact if_neg h
theorem rw1_st (I : MI) (a : Nat) (A : RowV) (k : Nat) (v : Int32) : up2 (rw1 I a A) a k v = rw1 I a (sD A k v) := by
  funext x j
  unfold up2 rw1 sD
  by_cases h : x = a
  · simp [h]
  · simp [h]
theorem rw1_id (I : MI) (a : Nat) : rw1 I a (I a) = I := by
  funext x j
  unfold rw1
  by_cases h : x = a
  · rw [if_pos h, h]
  · rw [if_neg h]
def kpA (A D : RowV) (p : Nat) : RowV := fun j => if 1853 * p ≤ j ∧ j < 1853 * p + 1853 then D (j - 1853 * p) else A j
def kpR (I : MI) (p q : Nat) : MI := rw1 (up2 (up2 I 188 29 (nI p)) 188 28 (nI q)) 199 (kpA (I 199) (I 194) p)
theorem m20 : ∀ p, p < 20 → (nI p + 1) - (nI p + 1) / 20 * 20 = nI ((p + 1) % 20) := by decide
theorem m20b : ∀ p, p < 20 → ((nI p + 20) - 1) - ((nI p + 20) - 1) / 20 * 20 = nI ((p + 19) % 20) := by decide
theorem w_keeps {J : MJ} (h : RefL J) (I : MI) {p q : Nat} (hp : I 188 29 = nI p) (p20 : p < 20) (hq : I 188 28 = nI q) (q20 : q ≤ 20) : M_X10_keeps [mR (some 188)] (I, J) = some (none, (kpR I ((p + 1) % 20) (min (q + 1) 20), J)) := by
  generalize hp' : (p + 1) % 20 = p'
  have p'20 : p' < 20 := by omega
  generalize hI1 : up2 I 188 29 (nI p') = I1
  have r199 : I1 199 = I 199 := by rw [← hI1]; funext j; simp [up2]
  have r194 : I1 194 = I 194 := by rw [← hI1]; funext j; simp [up2]
  have r29 : I1 188 29 = nI p' := by rw [← hI1]; simp [up2]
  have r28 : I1 188 28 = nI q := by rw [← hI1]; simp [up2]; exact hq
  rw [E_X10_keeps]
  simp only [h.fi, Option.bind_some]
  rw [if_neg (by decide), hp, m20 p p20, hp', h.wi, Option.bind_some, hI1]
  have s1 := loop_all (fun k A => Ev T_X10_keeps 15 [some (mR (some 188)), some (mI (nI k))] [] (rw1 I1 199 A, J)) (fun k A => sD A (1853 * p' + k) (I 194 k)) 1853 (I1 199) (fun k A hk => by
    try dsimp only
    rw [E_X10_keeps_15, if_neg (show ¬ (1853 : Int32) ≤ nI k from nI_ge hk (by decide))]
    have l : ld (rw1 I1 199 A, J) 11 194 (nI k) = some (I 194 k) := by
      rw [h.ldD _ rfl hk, rw1_n _ _ (by decide), r194]
    have e : (1853 : Int32) * nI p' + nI k = nI (1853 * p' + k) := by
      rw [show (1853 : Int32) = nI 1853 from rfl, nI_mul, nI_add]
    simp only [h.f27, h.fi, h.f18, Option.bind_some, l, rw1_n I1 A (show (188 : Nat) ≠ 199 by decide), r29, e]
    rw [st_ok _ _ h.s27 (inb_nI (show 1853 * p' + k < 37060 by omega) (by decide)), show (nI (1853 * p' + k)).toNatClampNeg = 1853 * p' + k from ix_nI (by omega), Option.bind_some, rw1_st, nI_1])
  try dsimp only at s1
  rw [rw1_id, show (nI 0) = 0 from rfl] at s1
  have ea : itr (fun k A => sD A (1853 * p' + k) (I 194 k)) 0 1853 (I1 199) = kpA (I 199) (I 194) p' := by
    funext j
    rw [itr_cp, r199]
    rfl
  rw [s1, ea, E_X10_keeps_15, if_pos (show (1853 : Int32) ≤ nI 1853 by decide)]
  have e28 : rw1 I1 199 (kpA (I 199) (I 194) p') 188 28 = nI q := by rw [rw1_n _ _ (by decide)]; exact r28
  simp only [h.fi, Option.bind_some, e28, h.wi]
  by_cases z : q = 20
  · subst z
    rw [if_pos (show (20 : Int32) ≤ nI 20 by decide)]
    have fin : rw1 I1 199 (kpA (I 199) (I 194) p') = kpR I p' (min (20 + 1) 20) → some (none, (rw1 I1 199 (kpA (I 199) (I 194) p'), J)) = (some (none, (kpR I p' (min (20 + 1) 20), J)) : Option MO) := fun q => by rw [q]
    apply fin
    unfold kpR
    rw [hI1]
    funext x j
    unfold rw1 up2
    by_cases y : x = 199
    · rw [if_pos y, if_pos y]
    · rw [if_neg y, if_neg y]
      by_cases w : x = 188 ∧ j = 28
      · rw [if_pos w, w.1, w.2, r28]
        rfl
      · rw [if_neg w]
  · rw [if_neg (show ¬ (20 : Int32) ≤ nI q from nI_ge (b := 20) (by omega) (by decide)), nI_1]
    have fin : up2 (rw1 I1 199 (kpA (I 199) (I 194) p')) 188 28 (nI (q + 1)) = kpR I p' (min (q + 1) 20) → some (none, (up2 (rw1 I1 199 (kpA (I 199) (I 194) p')) 188 28 (nI (q + 1)), J)) = (some (none, (kpR I p' (min (q + 1) 20), J)) : Option MO) := fun q => by rw [q]
    apply fin
    unfold kpR
    rw [hI1, show min (q + 1) 20 = q + 1 by omega]
    funext x j
    unfold rw1 up2
    by_cases y : x = 199
    · subst y
      simp
    · by_cases w : x = 188 ∧ j = 28
      · rw [if_pos w, if_neg y, if_pos w]
      · rw [if_neg w, if_neg y, if_neg w]
        exact if_neg y
theorem kpR_o (I : MI) (p q : Nat) {x : Nat} (h1 : x ≠ 188) (h2 : x ≠ 199) : kpR I p q x = I x := by
  unfold kpR
  rw [rw1_n _ _ h2]
  funext j
  simp [up2, h1]
theorem kpR_k (I : MI) (p q : Nat) {k : Nat} (h1 : k ≠ 28) (h2 : k ≠ 29) : kpR I p q 188 k = I 188 k := by
  unfold kpR
  rw [rw1_n _ _ (by decide)]
  simp [up2, h1, h2]
theorem kpR_29 (I : MI) (p q : Nat) : kpR I p q 188 29 = nI p ∧ kpR I p q 188 28 = nI q := by
  unfold kpR
  rw [rw1_n _ _ (by decide)]
  simp [up2]
theorem kpR_a (I : MI) (p q : Nat) : (∀ k, k < 1853 → kpR I p q 199 (1853 * p + k) = I 194 k) ∧ ∀ s k, s ≠ p → k < 1853 → kpR I p q 199 (1853 * s + k) = I 199 (1853 * s + k) := by
  unfold kpR
  rw [rw1_s]
  refine ⟨fun k hk => ?_, fun s k hs hk => ?_⟩
  · unfold kpA
    rw [if_pos (by omega)]
    congr 1
    omega
  · unfold kpA
    rw [if_neg]
    rcases Nat.lt_or_gt_of_ne hs with z | z
    · have : 1853 * s + 1853 ≤ 1853 * p := by omega
      omega
    · have : 1853 * p + 1853 ≤ 1853 * s := by omega
      omega
end

/-! A whole walk, on both sides. -/
theorem Stq.trans {wk : Option Nat} {U : NodV} {V V1 V2 : MemV} {H : OneV} {W : WkV} {D1 D2 : RowV} {n vol t1 t2 T tl1 tl2 : Nat} {x : Nat → Nat} (s1 : Stq wk U V V1 H W D1 n vol t1 T tl1 x) (s2 : Stq wk U V1 V2 H W D2 n vol t2 T tl2 x) : Stq wk U V V2 H W D2 n vol t2 T tl2 x := by
  obtain ⟨a1, b1, c1, d1, e1, f1, g1, i1⟩ := s1
  obtain ⟨a2, b2, c2, d2, e2, f2, g2, i2⟩ := s2
  refine ⟨a2, b2, c2, d2, e2.trans e1, f2.trans f1, g2.trans g1, fun k h1 h2 h3 => ?_⟩
  have z := i1 k h1 h2 h3
  exact z.trans (i2 k h1 (by rw [z.1]; exact h2) h3)
theorem Stq.hx {wk : Option Nat} {U : NodV} {V V' : MemV} {H : OneV} {W : WkV} {D : RowV} {n vol t T t0 tl : Nat} {x : Nat → Nat} (s : Stq wk U V V' H W D n vol t T tl x) (i : Inv U V H W n vol t0 T x) (hx : ∀ e, e < 64 → ¬ x e = 0 → ¬ V 4 e = -1) : ∀ e, e < 64 → ¬ x e = 0 → ¬ V' 4 e = -1 := by
  intro e he h0
  have v1 : ¬ V 1 e = 0 := fun z => h0 ((i.L e he).1 z)
  rw [(s.2.2.2.2.2.2.2 e he v1 h0).2.2.2.1]
  exact hx e he h0
theorem stepAt_k {L : Nat} {P : RouV} {lp k : Nat} (hp : P 0 1 = nI lp) (hk : k < lp) (hL : lp ≤ L) (hb : L < 1000) : q_X4_stepAt L P (nI k) = P 1 k := by
  unfold q_X4_stepAt
  rw [if_neg (nI_pos (by omega)), hp, if_neg (nI_ge hk (by omega)), if_neg (nI_ge (show k < L by omega) (by omega)), ix_nI (by omega)]
/-- what a walk comes to -/
def Wko (V' : MemV) (q how c' : Int32) : Prop := (how = 0 ∧ ∃ a', c' = nI a' ∧ q = nI a' ∧ At V' a') ∨ (how = -2 ∧ q = -2) ∨ (how = -3 ∧ q = -3)
theorem walks_loop {U : NodV} {H : OneV} {W : WkV} {n vol T : Nat} {x : Nat → Nat} {J : MJ} (h : RefL J) (I : MI) (hb : HB (I 188 20) x) (hw : I 188 21 = -1) {s1 : Nat} (hs1 : jS J s1 = (11, 64)) (hs : s1 ≠ 188 ∧ s1 ≠ 194 ∧ s1 ≠ 195) {L lp m : Nat} {P : RouV} (hp : P 0 1 = nI lp) (hm : m ≤ lp) (hL : lp ≤ L) (hLb : L < 1000) (m64 : m ≤ 64) (hst : ∀ k, k < m → NmS (P 1 k) (I s1 k)) (x2 : Int32) : ∀ (nn k : Nat) (V : MemV) (D G : RowV) (a t : Nat), k + nn = m → Rel none U V H W D n → Inv U V H W n vol t T x → CntI V → (∀ e, e < 64 → ¬ x e = 0 → ¬ V 4 e = -1) → At V a → t + 2 * nn ≤ T → ∃ D' G' c' how t', Ev T_X10_walks 23 [some (mR (some 188)), some (mR (some s1)), some (mI (nI m)), some (mI 0), some (mI (nI k))] [] (rF I D G (nI a), J) = some (some (mI how), (rF I D' G' c', J)) ∧ Stq none U V (lp_X1_walk_8 L P U x2 nn k (nI a) V).2 H W D' n vol t' T 0 x ∧ t ≤ t' ∧ t' ≤ t + 2 * nn ∧ Wko (lp_X1_walk_8 L P U x2 nn k (nI a) V).2 (lp_X1_walk_8 L P U x2 nn k (nI a) V).1 how c' := by
  intro nn
  induction nn with
  | zero =>
    intro k V D G a t hk r i C hx ha tT
    refine ⟨D, G, nI a, 0, t, ?_, Stq.refl r i C (TlI.none V W 0), by omega, by omega, Or.inl ⟨rfl, a, rfl, rfl, ha⟩⟩
    rw [E_X10_walks_23, if_pos (nI_le (by omega) (by omega))]
  | succ nn ih =>
    intro k V D G a t hk r i C hx ha tT
    have st := stepAt_k hp (show k < lp by omega) hL hLb
    have ev : lp_X1_walk_8 L P U x2 (nn + 1) k (nI a) V = lp_X1_walk_8 L P U x2 nn (k + 1) (q_X1_stepFrom U V (nI a) (P 1 k)) (gV_X1_stepFrom U V (nI a) (P 1 k)) := by
      show (if nI a < 0 then _ else _) = _
      rw [if_neg (nI_pos (by have := ha.1; omega)), st]
    rw [ev]
    obtain ⟨D1, G1, c1, how, t1, tl, g1, g2, g3, g4, g5⟩ := r.tzi.steps0 i C hx h I hb hw G (TlI.none _ W 0) ha (hst k (by omega)) (show t + 2 ≤ T by omega)
    have g2' : Stq none U V (gV_X1_stepFrom U V (nI a) (P 1 k)) H W D1 n vol t1 T 0 x := ⟨g2.1, g2.2.1, g2.2.2.1, TlI.none _ W 0, g2.2.2.2.2⟩
    have ldq : ld (rF I D G (nI a), J) 11 s1 (nI k) = some (I s1 k) := by
      rw [ld_ok _ hs1 (inb_nI (by omega) (by decide)), rF_o _ _ _ _ hs.1 hs.2.1 hs.2.2, show (nI k).toNatClampNeg = k from ix_nI (by omega)]
    have go : ∀ z, Ev T_X10_walks 23 [some (mR (some 188)), some (mR (some s1)), some (mI (nI m)), some (mI 0), some (mI (nI k))] [] (rF I D G (nI a), J) = z ↔ Ev T_X10_walks 23 [some (mR (some 188)), some (mR (some s1)), some (mI (nI m)), some (mI how), some (mI (nI (k + 1)))] [] (rF I D1 G1 c1, J) = z := fun z => by
      rw [E_X10_walks_23 188 s1 (nI m) 0 (nI k), if_neg (nI_ge (show k < m by omega) (by omega)), if_pos rfl]
      simp only [ldq, Option.bind_some, h.kt, if_true, g1, asI_I, nI_1]
    have stop : ∀ hw, ¬ hw = 0 → Ev T_X10_walks 23 [some (mR (some 188)), some (mR (some s1)), some (mI (nI m)), some (mI hw), some (mI (nI (k + 1)))] [] (rF I D1 G1 c1, J) = some (some (mI hw), (rF I D1 G1 c1, J)) := fun hw hne => by
      rw [E_X10_walks_23]
      by_cases z : nI m ≤ nI (k + 1)
      · rw [if_pos z]
      · rw [if_neg z, if_neg hne]
    have lneg : ∀ y : Int32, y < 0 → lp_X1_walk_8 L P U x2 nn (k + 1) y (gV_X1_stepFrom U V (nI a) (P 1 k)) = (y, gV_X1_stepFrom U V (nI a) (P 1 k)) := fun y hy => by
      cases nn with
      | zero => rfl
      | succ nn =>
        show (if y < 0 then _ else _) = _
        rw [if_pos hy]
    rcases g5 with ⟨w1, a', w2, w3, w4, _⟩ | ⟨w1, w2, _⟩ | ⟨w1, w2, _⟩
    · subst w1
      rw [w3]
      subst w2
      obtain ⟨D2, G2, c2, how2, t2, k1, k2, k3, k4, k5⟩ := ih (k + 1) (gV_X1_stepFrom U V (nI a) (P 1 k)) D1 G1 a' t1 (by omega) g2'.1 g2'.2.1 g2'.2.2.1 (g2'.hx i hx) w4 (by omega)
      exact ⟨D2, G2, c2, how2, t2, (go _).mpr k1, g2'.trans k2, by omega, by omega, k5⟩
    · subst w1
      rw [w2, lneg (-2) (by decide)]
      exact ⟨D1, G1, c1, -2, t1, (go _).mpr (stop _ (by decide)), g2', by omega, by omega, Or.inr (Or.inl ⟨rfl, rfl⟩)⟩
    · subst w1
      rw [w2, lneg (-3) (by decide)]
      exact ⟨D1, G1, c1, -3, t1, (go _).mpr (stop _ (by decide)), g2', by omega, by omega, Or.inr (Or.inr ⟨rfl, rfl⟩)⟩
theorem MemI.rootA {U : NodV} {V : MemV} {n vol : Nat} (h : MemI U V n vol) (hN : NodI U n vol) {v : Nat} (hv : v < 3) (hm : ¬ V 9 v = -1) : ∃ r, V 9 v = nI r ∧ At V r ∧ V 2 r = -1 ∧ V 4 r = U 5 v := by
  have n60 := hN.n60
  rcases h.rt v hv with ⟨z, _⟩ | ⟨vv, r, r64, r1, r2, r3, r4⟩
  · exact absurd z hm
  · obtain ⟨k, k1, k2, _⟩ := hN.rts v vv
    exact ⟨r, r1, ⟨r64, r2, by rw [r4, k2]; exact nI_m1 (by omega)⟩, r3, r4⟩
theorem Rel.walks {U : NodV} {V : MemV} {H : OneV} {W : WkV} {D : RowV} {n vol t T : Nat} {x : Nat → Nat} (r : Rel none U V H W D n) (i : Inv U V H W n vol t T x) (C : CntI V) (hx : ∀ e, e < 64 → ¬ x e = 0 → ¬ V 4 e = -1) {J : MJ} (h : RefL J) (I : MI) (hb : HB (I 188 20) x) (hw : I 188 21 = -1) (G : RowV) (c : Int32) {s1 : Nat} (hs1 : jS J s1 = (11, 64)) (hs : s1 ≠ 188 ∧ s1 ≠ 194 ∧ s1 ≠ 195) {L lp m : Nat} {P : RouV} (hp : P 0 1 = nI lp) (hm : m ≤ lp) (hL : lp ≤ L) (hLb : L < 1000) (m64 : m ≤ 64) (hst : ∀ k, k < m → NmS (P 1 k) (I s1 k)) (x2 : Int32) (h2 : ix x2 = m) (tT : t + 2 * m + 1 ≤ T) : ∃ D' G' c' how t', M_X10_walks [mR (some 188), mR (some s1), mI (nI m)] (rF I D G c, J) = some (some (mI how), (rF I D' G' c', J)) ∧ Stq none U V (gV_X1_walk L P U V x2) H W D' n vol t' T 0 x ∧ t ≤ t' ∧ t' ≤ t + 2 * m + 1 ∧ Wko (gV_X1_walk L P U V x2) (q_X1_walk L P U V x2) how c' := by
  obtain ⟨ro, ro1, roA, _⟩ := i.M.rootA i.N (show 0 < 3 by decide) (by obtain ⟨z, z1, z2⟩ := i.M.r0; rw [z2]; exact nI_m1 (by omega))
  have r0 := r.tzi
  have i0 := i.tzi
  have C0 := C.tzi
  have ro0 : ¬ tz V 1 ro = 0 := by rw [(roA.tzi).2.1]; exact i10
  obtain ⟨D1, d1, d2⟩ := (Stq.refl r0 i0 C0 (TlI.none _ W 0)).come (by decide) h I hw G (nI ro) (by omega) roA.1 ro0
  have d2' := d2.of0
  have ct : gV_X1_comeToRoot V = gV_X1_comeTo (tz V) (nI ro) := by
    unfold gV_X1_comeToRoot
    rw [ro1]
    rfl
  have cq : q_X1_comeToRoot V = nI ro := by
    unfold q_X1_comeToRoot
    rw [cT_k _ _ _ (by decide) (by decide) (by decide)]
    exact ro1
  obtain ⟨D2, G2, c2, how, t2, k1, k2, k3, k4, k5⟩ := walks_loop h I hb hw hs1 hs hp hm hL hLb m64 hst x2 m 0 (gV_X1_comeTo (tz V) (nI ro)) D1 G ro (t + 1) (by omega) d2'.1 d2'.2.1 d2'.2.2.1 (d2'.hx i hx) (roA.tzi.come _) (by omega)
  refine ⟨D2, G2, c2, how, t2, ?_, ?_, by omega, by omega, ?_⟩
  · rw [E_X10_walks]
    have o5 : D 5 = nI ro := (r.B.rt 0 (by decide)).trans ro1
    simp only [h.f18, Option.bind_some, h.ldD _ (show (5 : Int32) = nI 5 from rfl) (show 5 < 1853 by decide), rF_D, o5, h.wi, rF_sc, h.fi, rF_c, h.kt, if_true, d1, asV_n]
    rw [show (nI 0) = 0 from rfl] at k1
    exact k1
  · unfold gV_X1_walk o_X1_walk
    rw [h2, ct, cq]
    exact (show Stq none U V (gV_X1_comeTo (tz V) (nI ro)) H W D1 n vol (t + 1) T 0 x from ⟨d2'.1, d2'.2.1, d2'.2.2.1, TlI.none _ W 0, d2'.2.2.2.2⟩).trans k2
  · unfold gV_X1_walk q_X1_walk o_X1_walk
    rw [h2, ct, cq]
    exact k5

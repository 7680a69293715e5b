/-! One step of a walker, on both sides. -/
theorem WkI.uniq {V V1 : MemV} {t t1 T T1 : Nat} {w : OneV × RouV × TriV} {m d l r m2 d2 l2 r2 : Nat} (h : WkI V t T w m d l r) (g : WkI V1 t1 T1 w m2 d2 l2 r2) : m2 = m ∧ d2 = d ∧ l2 = l ∧ r2 = r := by
  have a1 := h.md
  have a2 := h.dl
  have a3 := h.l12
  have a4 := h.r3
  have b1 := g.md
  have b2 := g.dl
  have b3 := g.l12
  have b4 := g.r3
  exact ⟨(nI_eq (by omega) (by omega)).mp (g.m.symm.trans h.m), (nI_eq (by omega) (by omega)).mp (g.d.symm.trans h.d), (nI_eq (by omega) (by omega)).mp (g.l.symm.trans h.l), (nI_eq (by omega) (by omega)).mp (g.r.symm.trans h.r)⟩
theorem m1_18 {m : Nat} (h : 1 ≤ m) : (18 : Int32) + 3 * (nI m - 1) = nI (18 + 3 * (m - 1)) := by
  rw [show nI m - 1 = nI (m - 1) from nI_sub (b := 1) (by omega), show (18 : Int32) = nI 18 from rfl, show (3 : Int32) = nI 3 from rfl, nI_mul, nI_add]
theorem rF_21 (I : MI) (D G : RowV) (c v : Int32) : up2 (rF I D G c) 188 21 v = rF (up2 I 188 21 v) D G c := rF_so I D G c v (by decide) (by decide) (by decide)
theorem up2_21 {I : MI} {v : Int32} (h : I 188 21 = -1) : up2 (up2 I 188 21 v) 188 21 (-1) = I := by
  funext x j
  unfold up2
  by_cases q : x = 188 ∧ j = 21
  · rw [if_pos q, q.1, q.2, h]
  · rw [if_neg q, if_neg q]
theorem Rel.does {U : NodV} {V : MemV} {H : OneV} {W : WkV} {D : RowV} {n vol t T k : Nat} (r : Rel (some k) U (tz V) H W D n) (i : Inv U V H W n vol t T (fun _ => 0)) (C : CntI V) {J : MJ} (h : RefL J) (I : MI) (hb : I 188 20 = -1) (hw21 : I 188 21 = -1) (G : RowV) (c : Int32) {K : OneV} {P : RouV} {B : TriV} {m d l rr : Nat} (wk : W k = (K, P, B)) (wi : WkI V t T (K, P, B) m d l rr) (dl : d < l) {a : Nat} (ha : At V a) (last : B 0 (m - 1) = nI a) (tT : t + 2 ≤ T) : ∃ D' G' c' how t' K' B' V', M_X10_doesStep [mR (some 188), mI (nI k)] (rF I D G c, J) = some (some (mI how), (rF I D' G' c', J)) ∧ t ≤ t' ∧ t' ≤ t + 2 ∧ (K' = gK_X7_takeTrail (uv K 0 8 (K 0 8 + 1)) B (gV_X1_stepFrom U V (nI a) (q_X4_stepAt 12 P (K 0 8))) ∧ B' = gB_X7_takeTrail (uv K 0 8 (K 0 8 + 1)) B (gV_X1_stepFrom U V (nI a) (q_X4_stepAt 12 P (K 0 8))) ∧ V' = gV_X7_takeTrail (uv K 0 8 (K 0 8 + 1)) B (gV_X1_stepFrom U V (nI a) (q_X4_stepAt 12 P (K 0 8)))) ∧ Inv U V' H (wkS W k (K', P, B')) n vol t' T (fun _ => 0) ∧ CntI V' ∧ (K' 0 5 = K 0 5 ∧ K' 0 6 = K 0 6 ∧ K' 0 7 = K 0 7 ∧ K' 0 8 = nI (d + 1)) ∧ ((how = 0 ∧ ∃ a' m', q_X1_stepFrom U V (nI a) (q_X4_stepAt 12 P (K 0 8)) = nI a' ∧ At V' a' ∧ WkI V' t' T (K', P, B') m' (d + 1) l rr ∧ B' 0 (m' - 1) = nI a' ∧ Rel (some k) U (tz V') H (wkS W k (K', P, B')) D' n) ∨ ((how = -2 ∨ how = -3) ∧ q_X1_stepFrom U V (nI a) (q_X4_stepAt 12 P (K 0 8)) = how ∧ WkI V' t' T (K', P, B') m (d + 1) l rr ∧ (∃ m', 1 ≤ m' ∧ m' ≤ 25 ∧ D' (17 + 96 * k + 5) = nI m') ∧ Rel (some k) U V' H (wkS W k (K', P, B')) D' n)) := by
  have b1 := wi.md
  have b2 := wi.dl
  have b3 := wi.l12
  have b4 := wi.m1
  have e8 : K 0 8 = nI d := wi.d
  have e4 : K 0 4 = nI m := wi.m
  obtain ⟨k4, m', tl', t1, t2, t3, t4, t5, t6, _⟩ := r.T k rfl
  have z : tl' = 0 := (nI_eq (by omega) (by omega)).mp (t3.symm.trans (tz_16 V))
  subst z
  rw [wk] at t1 t2
  have mm : m' = m := (nI_eq (by omega) (by omega)).mp (t2.symm.trans e4)
  subst mm
  have rk := r.K k k4
  rw [wk] at rk
  have un := rk.un t1
  have el : P 0 1 = nI l := wi.l
  have sp := rk.sp t1 d (by omega) (by show d < ix (P 0 1); rw [el, ix_nI (by omega)]; exact dl)
  have wy := rk.wy t1 (m' - 1) (by omega) (by show m' - 1 < ix (K 0 4); rw [e4, ix_nI (by omega)]; omega)
  have sa : q_X4_stepAt 12 P (K 0 8) = P 1 d := by rw [e8]; exact stepAt_k el dl (by omega) (by decide)
  rw [sa]
  have ht : TlI (some k) (tz V) W 0 := fun j q => by
    cases q
    exact ⟨tz_16 V, m', by rw [wk]; exact e4, by omega⟩
  obtain ⟨D1, G1, c1, how, t', tl, s1, s2, s3, s4, s5⟩ := r.steps0 i C (fun e _ q => absurd rfl q) h (up2 I 188 21 (nI k)) (Or.inl ⟨by rw [up2_k _ _ _ (by decide)]; exact hb, fun _ => rfl⟩) (by rw [up2_s]; rfl) G ht ha sp tT
  obtain ⟨q1, q2, q3, q4, q9, q10, q11, _⟩ := s2
  generalize hV1 : gV_X1_stepFrom U V (nI a) (P 1 d) = V1 at q1 q2 q3 q4 q9 q10 q11 s5
  generalize q_X1_stepFrom U V (nI a) (P 1 d) = qq at s5
  have un1 := (by have := (q1.K k k4).un; rw [wk] at this; exact this t1 : D1 (17 + 96 * k + 1) = bz (K 0 6) ∧ D1 (17 + 96 * k + 2) = K 0 7 ∧ D1 (17 + 96 * k + 3) = K 0 8 ∧ D1 (17 + 96 * k + 4) = P 0 1)
  have ev : M_X10_doesStep [mR (some 188), mI (nI k)] (rF I D G c, J) = some (some (mI how), (rF I (sD D1 (17 + 96 * k + 3) (nI (d + 1))) G1 c1, J)) := by
    rw [E_X10_doesStep]
    have nh : ∀ f, f < 96 → ∀ (z : Int32) (X : MI) , z = nI f → M_X10_walkerHas [mR (some 188), mI (nI k), mI z] (X, J) = some (some (mI (X 194 (17 + 96 * k + f))), (X, J)) := fun f hf z X hz => w_walkerHas h X f hz k4 hf
    have dm : D (17 + 96 * k + 5) = nI m' := t6
    have dd3 : D (17 + 96 * k + 3) = nI d := un.2.2.1.trans e8
    have dla : D (17 + 96 * k + (18 + 3 * (m' - 1))) = nI a := wy.1.trans last
    have e6 : (6 : Int32) + nI d = nI (6 + d) := nI_add 6 d
    simp only [h.kt, if_true, nh 5 (by decide) 5 _ rfl, Option.bind_some, asI_I, rF_D, dm, nh (18 + 3 * (m' - 1)) (by omega) _ _ (m1_18 b4), dla, h.wi, rF_sc, rF_21, E_X10_nextStep, nh 3 (by decide) 3 _ rfl, dd3, nh (6 + d) (by omega) _ _ e6, s1, up2_21 hw21, h.f18, w_walkerAt _ k 3 (show (3 : Int32) = nI 3 from rfl), h.ldD _ (show nI (17 + 96 * k + 3) = nI (17 + 96 * k + 3) from rfl) (show 17 + 96 * k + 3 < 1853 by omega), h.stD _ _ (show nI (17 + 96 * k + 3) = nI (17 + 96 * k + 3) from rfl) (show 17 + 96 * k + 3 < 1853 by omega), un1.2.2.1, e8, nI_1, rF_sD]
  have e8' : K 0 8 + 1 = nI (d + 1) := by rw [e8, nI_1]
  rw [e8']
  have kj : ∀ j, j ≠ 8 → uv K 0 8 (nI (d + 1)) 0 j = K 0 j := fun j q => uv_n _ _ _ _ _ _ (fun w => q w.2)
  obtain ⟨m2, d2, l2, r2, _, w2⟩ := q2.W k k4 (by rw [wk]; exact t1)
  rw [wk] at w2
  obtain ⟨u1, u2, u3, u4⟩ := wi.uniq w2
  subst u1 u2 u3 u4
  have wk2 : WkI V1 t' T (uv K 0 8 (nI (d2 + 1)), P, B) m2 (d2 + 1) l2 r2 := ⟨(kj 4 (by decide)).trans w2.m, uv_s K 0 8 (nI (d2 + 1)), w2.l, (kj 7 (by decide)).trans w2.r, w2.m1, by omega, by omega, w2.l12, w2.r3, fun j hj => by
    have := w2.wy j hj
    show WayI V1 t' T (bz (uv K 0 8 (nI (d2 + 1)) 0 6)) (B 0 j) (B 1 j) (B 2 j)
    rw [kj 6 (by decide)]
    exact this⟩
  have w1 : ∀ (x : OneV × RouV × TriV) j, j ≠ k → wkS W k x j = W j := fun x j q => wkS_n W x q
  have i2 : Inv U V1 H (wkS W k (uv K 0 8 (nI (d2 + 1)), P, B)) n vol t' T (fun _ => 0) := q2.wset k4 (w1 _) (fun _ => 0) (fun f _ => by
      rw [wkS_s, wk]
      show (if bz (uv K 0 8 (nI (d2 + 1)) 0 5) = 0 ∨ bz (uv K 0 8 (nI (d2 + 1)) 0 6) = 0 then 0 else cnt (fun k => decide (B 0 k = nI f)) 0 (ix (uv K 0 8 (nI (d2 + 1)) 0 4))) = hcK (K, P, B) f
      rw [kj 5 (by decide), kj 6 (by decide), kj 4 (by decide)]
      rfl) (fun _ _ _ => rfl) ⟨rfl, rfl, rfl⟩ (fun f _ _ => (Int32.add_zero _).symm) (fun _ => ⟨m2, d2 + 1, l2, r2, w2.r3, by rw [wkS_s]; exact wk2⟩)
  have r2' := q1.set3 wk (nI (d2 + 1)) (w1 _) (wkS_s W k (uv K 0 8 (nI (d2 + 1)), P, B))
  refine ⟨sD D1 (17 + 96 * k + 3) (nI (d2 + 1)), G1, c1, how, t', _, _, _, ev, s3, s4, ⟨rfl, rfl, rfl⟩, ?_⟩
  have k14 : (uv K 0 8 (nI (d2 + 1))) 0 4 = nI m2 := (kj 4 (by decide)).trans e4
  rcases s5 with ⟨h0, a', ca, qa, at', trl⟩ | over
  · obtain ⟨r16, rtl2, rz, rp, ra⟩ := trl
    have mb : m2 + tl ≤ 25 := by omega
    have o := tkt_all (K := uv K 0 8 (nI (d2 + 1))) (B := B) rtl2 mb k14 r16 ra
    generalize gK_X7_takeTrail (uv K 0 8 (nI (d2 + 1))) B V1 = K' at o ⊢
    generalize gB_X7_takeTrail (uv K 0 8 (nI (d2 + 1))) B V1 = B' at o ⊢
    generalize gV_X7_takeTrail (uv K 0 8 (nI (d2 + 1))) B V1 = V' at o ⊢
    have kv : ∀ r : Fin 12, r ≠ 5 → V' r = V1 r := o.2.2.2.2.1
    obtain ⟨i3, w3⟩ := i2.tk (W' := wkS W k (K', P, B')) k4 (wkS_s W k _) (fun j q => by rw [w1 _ j q, w1 _ j q]) (wkS_s W k _) (d := d2 + 1) (l := l2) (r := r2) (Or.inr ⟨b4, by omega, wk2.wy⟩) (by omega) (by omega) rtl2 (by omega) b3 wi.r3 k14 (uv_s _ _ _ _) el ((kj 7 (by decide)).trans wi.r) (by rw [kj 5 (by decide)]; exact t1) ra o
    rw [wkS_s] at w3
    refine ⟨i3, q3.fr (kv 1 (by decide)) (kv 9 (by decide)), ⟨(o.2.1 5 (by decide)).trans (kj 5 (by decide)), (o.2.1 6 (by decide)).trans (kj 6 (by decide)), (o.2.1 7 (by decide)).trans (kj 7 (by decide)), (o.2.1 8 (by decide)).trans (uv_s _ _ _ _)⟩, Or.inl ⟨h0, a', m2 + tl, qa, ⟨at'.1, by rw [kv 1 (by decide)]; exact at'.2.1, by rw [kv 4 (by decide)]; exact at'.2.2⟩, w3, ?_, r2'.tk (wkS_s W k _) (fun j q => by rw [w1 _ j q, w1 _ j q]) (wkS_s W k _) k14 r16 rtl2 mb o⟩⟩
    by_cases z : tl = 0
    · have := o.2.2.2.1 0 (m2 + tl - 1) (Or.inl (by omega))
      rw [show B' 0 (m2 + tl - 1) = B 0 (m2 + tl - 1) from this, z, Nat.add_zero, last, rz z]
    · have := (o.2.2.1 (m2 + tl - 1) (by omega) (by omega)).1
      rw [show B' 0 (m2 + tl - 1) = V1 11 (m2 + tl - 1 - m2) from this, show m2 + tl - 1 - m2 = tl - 1 by omega, rp (by omega)]
  · have hh : (how = -2 ∨ how = -3) ∧ qq = how ∧ V1 0 16 = nI tl ∧ tl ≤ 1 ∧ (tl = 1 → ∃ e, e < 64 ∧ V1 11 0 = nI e ∧ V1 1 e = 1 ∧ V1 4 e = -1) := by
      rcases over with ⟨x1, x2, x3, x4, x5⟩ | ⟨x1, x2, x3, x4⟩
      · exact ⟨Or.inl x1, x2.trans x1.symm, by rw [x3]; exact x4, by omega, fun _ => x5⟩
      · exact ⟨Or.inr x1, x2.trans x1.symm, by rw [x3]; exact x4, by omega, fun z => by omega⟩
    obtain ⟨y1, y2, y3, y4, y5⟩ := hh
    obtain ⟨z1, z2, z3⟩ := tkt_no (K := uv K 0 8 (nI (d2 + 1))) (B := B) y3 y4 y5
    rw [z1, z2, z3]
    obtain ⟨_, m3, tl3, a1, a2, a3, a4, a5, a6, _⟩ := r2'.T k rfl
    rw [wkS_s] at a2
    have m33 : m3 = m2 := (nI_eq (by omega) (by omega)).mp (a2.symm.trans k14)
    exact ⟨i2, q3, ⟨kj 5 (by decide), kj 6 (by decide), kj 7 (by decide), uv_s _ _ _ _⟩, Or.inr ⟨y1, y2, wk2, ⟨m3 + tl3, by omega, a5, a6⟩, r2'⟩⟩

/-! Looks by chance, on both sides. -/
theorem up2_id {α : Type} (f : Nat → Nat → α) (a k : Nat) : up2 f a k (f a k) = f := by
  funext x y
  unfold up2
  by_cases h : x = a ∧ y = k
  · rw [if_pos h, h.1, h.2]
  · rw [if_neg h]
theorem up2_up2 {α : Type} (f : Nat → Nat → α) (a k : Nat) (v w : α) : up2 (up2 f a k v) a k w = up2 f a k w := by
  funext x y
  unfold up2
  by_cases h : x = a ∧ y = k
  · rw [if_pos h, if_pos h]
  · rw [if_neg h, if_neg h, if_neg h]
theorem look1 {I Y : MI} {J J2 : MJ} {H : OneV} {W : WkV} {nn vol t T v m : Nat} (i : Inv (vw 6 I 1) (vw 12 I 17) H W nn vol t T (fun _ => 0)) (C : CntI (vw 12 I 17)) (hm : cnt (mtB (vw 6 I 1) (vw 12 I 17)) 0 nn = m) (hv : v < 2 ^ 31) (hj : J.1 0 15 = lN v) (tT : t + 121 ≤ T) (h : RefL J2) (r : Rel none (vw 6 I 1) (vw 12 I 17) H W (Y 194) nn) (y20 : Y 188 20 = -1) (y21 : Y 188 21 = -1) (hj2 : J2.1 188 31 = lN v) : ∃ (R : RouV) (V' : MemV) (Y' : MI) (t' : Nat), chI I (chN I J (nI m)) = pt (pt I 183 R) 17 V' ∧ M_X10_looksByDraw [mR (some 188)] (Y, J2) = some (none, (Y', (up2 J2.1 188 31 (lN (nxt v)), J2.2))) ∧ (∀ x, x ≠ 188 → x ≠ 192 → x ≠ 194 → x ≠ 195 → x ≠ 198 → Y' x = Y x) ∧ (∀ k, k ≠ 15 → k ≠ 22 → Y' 188 k = Y 188 k) ∧ Rel none (vw 6 I 1) V' H W (Y' 194) nn ∧ Inv (vw 6 I 1) V' H W nn vol t' T (fun _ => 0) ∧ CntI V' ∧ t' ≤ t + 121 ∧ V' 9 = vw 12 I 17 9 := by
  have hN := i.N
  have n60 := hN.n60
  have v3 := hN.v3
  have h' : RefL (up2 J2.1 188 31 (lN (nxt v)), J2.2) := h
  have m0 : 0 < m := by rw [← hm]; exact mt_pos i
  have m60 : m ≤ 60 := by rw [← hm]; exact Nat.le_trans (cnt_le _ _ _) n60
  have lt : nxt v / 64 % m < cnt (mtB (vw 6 I 1) (vw 12 I 17)) 0 nn := by rw [hm]; exact Nat.mod_lt _ m0
  obtain ⟨k', kn', mt, lp, ev⟩ := pick_loop hN h' Y r (vw 1 I 16) nn 0 (nxt v / 64 % m) (by omega) lt
  have cn : chN I J (nI m) = nI k' := by
    unfold chN
    rw [hj, drw_q, drQ_q (nxt_lt v) m0 (by omega)]
    rw [show nn + (60 - nn) = 60 by omega] at lp
    exact lp
  unfold mtB at mt
  simp only [decide_eq_true_eq] at mt
  obtain ⟨k4, k9⟩ := mt
  obtain ⟨v', vv, kv⟩ := hN.vol k' kn'
  rw [kv, ix_nI (by omega)] at k9
  obtain ⟨μ, m1, m2⟩ := ex_rank hN i.M
  have rk := rkc_le μ nn k'
  obtain ⟨l, P', N', g1, g2, g3, g4, g5⟩ := route_loop i m1 m2 h' Y r (vw 1 I 16) 61 k' 0 120 0 (gP_X4_clear 60 (vw 2 I 183)) (Y 198) v' kn' k4 kv (by omega) k9 (by omega) (by omega) (by omega) (by unfold gP_X4_clear; rw [uv_s]; rfl) (fun j hj => by omega)
  rw [nF_id] at g5
  obtain ⟨Y1, e1, e2, e3, e4, e5⟩ := lays_end h' (nF Y N') (l := l) g3
  obtain ⟨t1, t2⟩ := turn_q g2 g3
  have y194 : Y1 194 = Y 194 := by rw [e2 194 (by decide) (by decide), nF_o _ _ (by decide)]
  have y1k : ∀ k, k ≠ 15 → Y1 188 k = Y 188 k := fun k hk => by rw [e3 k hk, nF_o _ _ (by decide)]
  obtain ⟨D', G', c', how, t', w1, w2, w3, w4, w5⟩ := r.walks i C (fun e _ z => absurd rfl z) h' Y1 (by rw [y1k 20 (by decide), y20]; exact Or.inl ⟨rfl, fun _ => rfl⟩) (by rw [y1k 21 (by decide)]; exact y21) (Y1 195) (Y1 188 22) (s1 := 192) h'.s14 (by decide) (P := gP_X4_turnAround 60 P') (lp := l) (m := l) (L := 60) t1 (Nat.le_refl _) g3 (by decide) (by omega) (fun k hk => by
    rw [t2 k hk, e5 k hk, nF_N]
    exact Or.inl (g4 _ (by omega))) (gP_X4_turnAround 60 P' 0 1) (by rw [t1, ix_nI (by omega)]) (by omega)
  rw [← y194, rF_id] at w1
  refine ⟨gP_X4_turnAround 60 P', gV_X1_walk 60 (gP_X4_turnAround 60 P') (vw 6 I 1) (vw 12 I 17) (gP_X4_turnAround 60 P' 0 1), rF Y1 D' G' c', t', ?_, ?_, fun x a b c d e => ?_, fun k a b => ?_, ?_, w2.2.1, w2.2.2.1, by omega, w2.2.2.2.2.1⟩
  · rw [cn]
    have : gP_X8_routeTo 60 (vw 1 I 16) (vw 2 I 183) (vw 6 I 1) (vw 12 I 17) (nI k') = gP_X4_turnAround 60 P' := g1
    unfold chI
    rw [this]
  · rw [E_X10_looksByDraw, many_loop hN h Y r, hm, w_drawOf h Y hv hj2 m0 (by omega)]
    simp only [Option.bind_some, asI_I]
    rw [show (nI 0) = 0 from rfl] at ev g5
    rw [ev, E_X10_looksByDraw_39]
    have lp' : M_X10_laysPath [mR (some 188), mI (nI k')] (Y, ((up2 J2.1 188 31 (lN (nxt v)), J2.2) : MJ)) = some (none, (Y1, (up2 J2.1 188 31 (lN (nxt v)), J2.2))) := by
      rw [E_X10_laysPath, g5]
      exact e1
    have mt' : mtB (vw 6 I 1) (vw 12 I 17) k' = true := by
      unfold mtB
      simp only [decide_eq_true_eq]
      exact ⟨k4, by rw [kv, ix_nI (by omega)]; exact k9⟩
    simp only [h'.kt, if_true, w_mnt hN h' Y r kn', Option.bind_some, asI_I, if_pos mt', if_neg i10, if_pos (Int32.le_refl (0 : Int32)), lp', asV_n, h'.f14, h'.fi, e4, w1]
  · rw [rF_o _ _ _ _ a c d, e2 x a b, nF_o _ _ e]
  · rw [rF_k _ _ _ _ b, y1k k a]
  · rw [rF_D]; exact w2.1
theorem chance_sim {U : NodV} {O : OneV} {H : OneV} {W : WkV} {nn vol T m n : Nat} (n40 : n ≤ 40) (x2 : Int32) : ∀ (f k : Nat) (I Y : MI) (J J2 : MJ) (v t : Nat), k + f = n → vw 6 I 1 = U → vw 1 I 16 = O → Inv U (vw 12 I 17) H W nn vol t T (fun _ => 0) → CntI (vw 12 I 17) → cnt (mtB U (vw 12 I 17)) 0 nn = m → v < 2 ^ 31 → J.1 0 15 = lN v → t + 121 * f ≤ T → RefL J2 → Rel none U (vw 12 I 17) H W (Y 194) nn → Y 188 20 = -1 → Y 188 21 = -1 → J2.1 188 31 = lN v → ∃ (R : RouV) (V' : MemV) (Y' : MI) (t' v' : Nat), chS (nI m) f (I, J) = (pt (pt I 183 R) 17 V', (up2 J.1 0 15 (lN v'), J.2)) ∧ v' < 2 ^ 31 ∧ Ev T_X10_chance 38 [some (mR (some 188)), some (mI (nI n)), some (mI x2), some (mI (nI k))] [] (Y, J2) = some (some (mI (V' 0 13 - x2)), (Y', (up2 J2.1 188 31 (lN v'), J2.2))) ∧ (∀ x, x ≠ 188 → x ≠ 192 → x ≠ 194 → x ≠ 195 → x ≠ 198 → Y' x = Y x) ∧ (∀ k, k ≠ 15 → k ≠ 22 → Y' 188 k = Y 188 k) ∧ Rel none U V' H W (Y' 194) nn ∧ Inv U V' H W nn vol t' T (fun _ => 0) ∧ CntI V' := by
  intro f
  induction f with
  | zero =>
    intro k I Y J J2 v t hk hU hO i C hm hv hj tT h r y20 y21 hj2
    refine ⟨vw 2 I 183, vw 12 I 17, Y, t, v, ?_, hv, ?_, fun _ _ _ _ _ _ => rfl, fun _ _ _ => rfl, r, i, C⟩
    · show (I, J) = _
      rw [pt_vw, pt_vw, ← hj, up2_id]
    · have hk : k = n := by omega
      subst hk
      rw [E_X10_chance_38, if_pos (Int32.le_refl _)]
      simp only [h.f18, Option.bind_some, h.ldD _ (show (1 : Int32) = nI 1 from rfl) (show 1 < 1853 by decide), r.B.lo]
      rw [← hj2, up2_id]
  | succ f ih =>
    intro k I Y J J2 v t hk hU hO i C hm hv hj tT h r y20 y21 hj2
    subst hU hO
    obtain ⟨R1, V1, Y1, t1, a1, a2, a3, a4, a5, a6, a7, a8, a9⟩ := look1 (J := J) i C hm hv hj (by omega) h r y20 y21 hj2
    have wU : vw 6 (pt (pt I 183 R1) 17 V1) 1 = vw 6 I 1 := by rw [vw_out _ _ (by decide), vw_out _ _ (by decide)]
    have wO : vw 1 (pt (pt I 183 R1) 17 V1) 16 = vw 1 I 16 := by rw [vw_out _ _ (by decide), vw_out _ _ (by decide)]
    have wV : vw 12 (pt (pt I 183 R1) 17 V1) 17 = V1 := vw_pt _ _ _
    have hm1 : cnt (mtB (vw 6 I 1) V1) 0 nn = m := by
      rw [← hm]
      exact cnt_cong (fun k _ _ => by unfold mtB; rw [a9])
    obtain ⟨R, V', Y', t', v', b1, b2, b3, b4, b5, b6, b7, b8⟩ := ih (k + 1) (pt (pt I 183 R1) 17 V1) Y1 (drJ J) (up2 J2.1 188 31 (lN (nxt v)), J2.2) (nxt v) t1 (by omega) wU wO (by rw [wV]; exact a6) (by rw [wV]; exact a7) (by rw [wV]; exact hm1) (nxt_lt v) (by
      show up2 J.1 0 15 (drw (J.1 0 15)) 0 15 = _
      rw [hj, drw_q]
      simp [up2]) (by omega) h (by rw [wV]; exact a5) (by rw [a4 20 (by decide) (by decide)]; exact y20) (by rw [a4 21 (by decide) (by decide)]; exact y21) (by
      show up2 J2.1 188 31 (lN (nxt v)) 188 31 = _
      simp [up2])
    refine ⟨R, V', Y', t', v', ?_, b2, ?_, fun x p1 p2 p3 p4 p5 => by rw [b4 x p1 p2 p3 p4 p5, a3 x p1 p2 p3 p4 p5], fun k p1 p2 => by rw [b5 k p1 p2, a4 k p1 p2], b6, b7, b8⟩
    · show chS (nI m) f (chI I (chN I J (nI m)), drJ J) = _
      rw [a1, b1, pt_comm (pt I 183 R1) V1 R (by decide), pt_pt, pt_pt, show (drJ J).1 = up2 J.1 0 15 (drw (J.1 0 15)) from rfl, up2_up2, show (drJ J).2 = J.2 from rfl]
    · rw [E_X10_chance_38, if_neg (nI_ge (show k < n by omega) (by omega))]
      simp only [h.kt, if_true, a2, Option.bind_some, asV_n, nI_1]
      rw [b3]
      show some (some (mI (V' 0 13 - x2)), (Y', (up2 (up2 J2.1 188 31 (lN (nxt v))) 188 31 (lN v'), J2.2))) = _
      rw [up2_up2]
theorem le40 {x : Int32} : ¬ (40 : Int32) < x ↔ x ≤ 40 := Int32.not_lt
theorem P_chance {I : MI} {J : MJ} {T B0 : Nat} (h : St I J T B0) (h30 : T + 10001 ≤ 1000000000) (x : Int32) : Pair I J T B0 (M_X9_chance [mR (some 0), mI x]) (M_X10_chance [mR (some 188), mI x]) := by
  have refs : ∀ Y : MI, RefL J → (bz (Y 188 13) = 0 ∨ x < 1 ∨ ¬ x ≤ 40) → M_X10_chance [mR (some 188), mI x] (Y, J) = some (some (mI (-1)), (rfR Y 2, J)) := fun Y rl hc => by
    rw [E_X10_chance]
    simp only [rl.fz, Option.bind_some, rl.kt, if_true, w_refuses rl Y (show (2 : Int32) = nI 2 from rfl) (by decide), asI_I, w_isIn x 1 40 _ (show (1 : Int64) = Int32.toInt64 1 from rfl) (show (40 : Int64) = Int32.toInt64 40 from rfl)]
    by_cases z : bz (Y 188 13) = 0
    · rw [if_pos z]
    · rw [if_neg z]
      by_cases a : x < 1
      · simp [a]
      · rw [if_neg a, if_pos (Classical.byContradiction (fun y => hc.elim z (fun w => w.elim a (fun v => v (le40.mp y)))))]
        simp
  rcases h.2.2.2.2.2.2.2.2.2 with td | u
  · by_cases hc : x < 1 ∨ ¬ x ≤ 40
    · refine Pair.no h h30 (k := 2) (by decide) (u_chance_no h.1.1 I x (Or.inr hc)) (refs _ h.1.2 (Or.inr hc))
    · have b1 : ¬ x < 1 := fun z => hc (Or.inl z)
      have b2 : x ≤ 40 := Classical.byContradiction (fun z => hc (Or.inr z))
      have xn : x = nI (ix x) := nI_ix (fun z => b1 (Int32.lt_trans z (by decide)))
      have nl := ix_lt x
      generalize ix x = n at xn nl
      subst xn
      have n31 : n ≤ 40 := (nI_leI (b := 40) nl (by decide)).mp b2
      have n1 : 1 ≤ n := by
        rcases Nat.eq_zero_or_pos n with z | z
        · rw [z] at b1
          exact absurd (by decide) b1
        · exact z
      obtain ⟨vol, nn, t, X, J1, hv, i, c, r, k1, kl, rl, wf, xo, j6, j1, rest⟩ := act_pre0 h h30 td
      have n60 := i.N.n60
      have tT := i.Z.tT
      have e1 := wf.1
      have e2 := wf.2.1
      have e3 := wf.2.2.1
      have e4 := wf.2.2.2.1
      obtain ⟨v, v31, hv0⟩ := j6.2
      have hv1 : J1.1 188 31 = lN v := by rw [← j6.1]; exact hv0
      have cm : q_X8_mountedNodes (vw 1 X 16) (vw 6 X 1) (vw 12 X 17) = nI (cnt (mtB (vw 6 I 1) (vw 12 I 17)) 0 nn) := by
        rw [e1, e2]
        exact mn_q i.N _
      generalize hmm : cnt (mtB (vw 6 I 1) (vw 12 I 17)) 0 nn = m at cm
      have m60 : m ≤ 60 := by rw [← hmm]; exact Nat.le_trans (cnt_le _ _ _) n60
      have m0 : 0 < m := by rw [← hmm]; exact mt_pos i
      have uE := u_chance h.1.1 I (Told.h6 i) n1 n31 k1 kl (fun _ => by
        rw [cm, nI_l (by omega), show (0 : Int64) = lN 0 from rfl]
        exact fun z => by have := (lN_eq (by omega) (by decide)).mp z; omega)
      rw [cm] at uE
      have ip := i.T (show T ≤ T + 10001 by omega) h30
      have sim : ∀ (Y : MI) (J2 : MJ), RefL J2 → J2.1 188 31 = lN v → Y 194 = I 194 → Y 188 20 = -1 → Y 188 21 = -1 → ∃ (R : RouV) (V' : MemV) (Y' : MI) (t' v' : Nat), chS (nI m) n (X, J1) = (pt (pt X 183 R) 17 V', (up2 J1.1 0 15 (lN v'), J1.2)) ∧ v' < 2 ^ 31 ∧ Ev T_X10_chance 38 [some (mR (some 188)), some (mI (nI n)), some (mI (I 17 13)), some (mI (nI 0))] [] (Y, J2) = some (some (mI (V' 0 13 - I 17 13)), (Y', (up2 J2.1 188 31 (lN v'), J2.2))) ∧ (∀ x, x ≠ 188 → x ≠ 192 → x ≠ 194 → x ≠ 195 → x ≠ 198 → Y' x = Y x) ∧ (∀ k, k ≠ 15 → k ≠ 22 → Y' 188 k = Y 188 k) ∧ Rel none (vw 6 I 1) V' (vw 1 I 29) (wks I 31) (Y' 194) nn ∧ Inv (vw 6 I 1) V' (vw 1 I 29) (wks I 31) nn vol t' (T + 10001) (fun _ => 0) ∧ CntI V' := fun Y J2 rj hj yD y20 y21 =>
        chance_sim n31 (I 17 13) n 0 X Y J1 J2 v t (by omega) e1 rfl (by rw [e2]; exact ip) (by rw [e2]; exact c) (by rw [e2]; exact hmm) v31 hv0 (by omega) rj (by rw [e2, yD]; exact r) y20 y21 hj
      obtain ⟨Z0, _, zf0, _⟩ := rest X (fun _ _ _ _ => rfl) (by rw [xo 0 (by decide) (by decide)])
      obtain ⟨R, V', _, _, v', c1, c2, _⟩ := sim Z0 J1 rl hv1 zf0.1 zf0.2.1 zf0.2.2.1
      rw [c1] at uE
      have x17 : X 17 13 = I 17 13 := by rw [xo 17 (by decide) (by decide)]
      have v17 : pt (pt X 183 R) 17 V' 17 13 = V' 0 13 := by rw [pt_0]
      have uE2 : M_X9_chance [mR (some 0), mI (nI n)] (I, J) = some (some (mI (V' 0 13 - I 17 13)), (pt (pt X 183 R) 17 V', (up2 J1.1 0 15 (lN v'), J1.2))) := by
        rw [uE, ← v17, ← x17]
      clear uE
      have po : ∀ y, y < 17 ∨ (29 ≤ y ∧ y < 183) ∨ 185 ≤ y → pt (pt X 183 R) 17 V' y = X y := fun y q => by rw [pt_out (by omega), pt_out (by omega)]
      obtain ⟨Z, z1, zf, zo, zk, fin⟩ := rest (pt (pt X 183 R) 17 V') (fun y q1 q2 q3 => po y (by omega)) (by rw [po 0 (by omega), xo 0 (by decide) (by decide)])
      have rl' : RefL (up2 J1.1 0 15 (lN v'), J1.2) := rl
      have kJ : M_X10_keeps [mR (some 188)] (pt (pt X 183 R) 17 V', ((up2 J1.1 0 15 (lN v'), J1.2) : MJ)) = some (none, (Z, (up2 J1.1 0 15 (lN v'), J1.2))) := by
        obtain ⟨_, ad, p, q, _, _, _, hs⟩ := td
        have i188 : pt (pt X 183 R) 17 V' 188 = I 188 := by rw [po 188 (by omega), xo 188 (by decide) (by decide)]
        have w1 := w_keeps (J := J1) rl (pt (pt X 183 R) 17 V') (p := p) (q := q) (by rw [i188]; exact hs.2.1.2) hs.1.2.1 (by rw [i188]; exact hs.2.1.1) hs.1.2.2.2
        have w2 := w_keeps rl' (pt (pt X 183 R) 17 V') (p := p) (q := q) (by rw [i188]; exact hs.2.1.2) hs.1.2.1 (by rw [i188]; exact hs.2.1.1) hs.1.2.2.2
        have e : Z = kpR (pt (pt X 183 R) 17 V') ((p + 1) % 20) (min (q + 1) 20) := by
          have := z1.symm.trans w1
          simp only [Option.some.injEq, Prod.mk.injEq, true_and] at this
          exact this.1
        rw [w2, e]
      obtain ⟨R2, V2, Y2, t2, v2, d1, d2, d3, d4, d5, d6, d7, d8⟩ := sim Z (up2 J1.1 0 15 (lN v'), J1.2) rl' (by
        show up2 J1.1 0 15 (lN v') 188 31 = _
        rw [show up2 J1.1 0 15 (lN v') 188 31 = J1.1 188 31 by simp [up2]]
        exact hv1) zf.1 zf.2.1 zf.2.2.1
      have same := c1.symm.trans d1
      simp only [Prod.mk.injEq] at same
      have sV : V' = V2 := by
        have := congrArg (fun I => vw 12 I 17) same.1
        simp only [vw_pt] at this
        exact this
      have sv : lN v' = lN v2 := by
        have := congrFun (congrFun same.2.1 0) 15
        simp only [up2, and_self, if_true] at this
        exact this
      subst sV
      obtain ⟨_, _, _, zl, z190, _, _, z13⟩ := zf
      have d31 : I 194 1 = I 17 13 := r.B.lo
      have low : ∀ y, y < 188 → y < 17 ∨ (29 ≤ y ∧ y < 183) ∨ 185 ≤ y → y ≠ 67 → Y2 y = I y := fun y a b c => by rw [d4 y (by omega) (by omega) (by omega) (by omega) (by omega), zl y a, po y b, xo y (by omega) c]
      refine ⟨_, _, Y2, (up2 (up2 J1.1 0 15 (lN v')) 188 31 (lN v2), J1.2), uE2, ?_, ?_⟩
      · have t13 : ¬ bz (pt (pt X 183 R) 17 V' 188 13) = 0 := by
          rw [po 188 (by omega), xo 188 (by decide) (by decide)]
          rw [zk 13 (by decide) (by decide)] at z13
          exact z13
        rw [E_X10_chance]
        simp only [rl'.fz, Option.bind_some, rl'.kt, if_true, if_neg t13, asI_I, w_isIn (nI n) 1 40 _ (show (1 : Int64) = Int32.toInt64 1 from rfl) (show (40 : Int64) = Int32.toInt64 40 from rfl), if_neg b1, if_neg (le40.mpr b2), if_neg i10, kJ, asV_n, rl'.f18, rl'.ldD _ (show (1 : Int32) = nI 1 from rfl) (show 1 < 1853 by decide), show Z 194 = I 194 by assumption, d31]
        exact d3
      · refine fin _ _ (fun y p1 _ p3 p4 p5 p6 _ _ => d4 y p1 p3 p4 p5 p6) (fun k p1 p2 _ => d5 k p1 p2) (h.2.2.2.1.fr (low 186 (by decide) (by decide) (by decide)) (by rw [d4 190 (by decide) (by decide) (by decide) (by decide) (by decide)]; exact z190)) (h.2.2.2.2.2.1.fr (by rw [low 0 (by decide) (by decide) (by decide)]) (low 187 (by decide) (by decide) (by decide)) (by rw [d5 32 (by decide) (by decide), zk 32 (by decide) (by decide)]) (by rw [d4 201 (by decide) (by decide) (by decide) (by decide) (by decide), zo 201 (by decide) (by decide), po 201 (by omega), xo 201 (by decide) (by decide)])) (Wd.mk d7 d8 d6 ?_ ?_ ?_ (fun k hk => ?_) rfl) ?_ rfl
        · exact vw_fr (fun y _ _ => low y (by omega) (by omega) (by omega))
        · have : vw 12 Y2 17 = vw 12 (pt (pt X 183 R) 17 V') 17 := vw_fr (fun y p q => by rw [d4 y (by omega) (by omega) (by omega) (by omega) (by omega), zl y (by omega)])
          rw [this, vw_pt]
        · exact vw_fr (fun y _ _ => low y (by omega) (by omega) (by omega))
        · rw [wks_fr (I := I) (fun y _ _ => low y (by omega) (by omega) (by omega)) hk]; exact WkEq.refl _
        · refine ⟨?_, v2, d2, ?_⟩
          · show up2 (up2 J1.1 0 15 (lN v')) 188 31 (lN v2) 0 15 = up2 (up2 J1.1 0 15 (lN v')) 188 31 (lN v2) 188 31
            rw [show up2 (up2 J1.1 0 15 (lN v')) 188 31 (lN v2) 0 15 = lN v' by simp [up2], show up2 (up2 J1.1 0 15 (lN v')) 188 31 (lN v2) 188 31 = lN v2 by simp [up2]]
            exact sv
          · show up2 (up2 J1.1 0 15 (lN v')) 188 31 (lN v2) 0 15 = lN v2
            rw [show up2 (up2 J1.1 0 15 (lN v')) 188 31 (lN v2) 0 15 = lN v' by simp [up2]]
            exact sv
  · have h6 : I 1 6 ≤ 0 := by rw [u.2.2.1.2.1]; exact Int32.le_refl _
    refine Pair.no h h30 (k := 2) (by decide) (u_chance_no h.1.1 I x (Or.inl h6)) (refs _ h.1.2 (Or.inl ?_))
    rw [rfz_o _ _ (by decide)]
    exact u.2.1

/-! A node taken away, and its entry: what holds stays. -/
theorem NodI.gone {U U' : NodV} {n vol : Nat} (h : NodI U n vol) {k : Nat} (k2 : ¬ U 2 k = -1) (nc : ∀ j, j < n → ¬ U 4 j = 0 → ¬ U 2 j = nI k) (u4 : ∀ j, U' 4 j = if j = k then 0 else U 4 j) (uk : ∀ q : Fin 6, q ≠ 4 → U' q = U q) : NodI U' n vol := by
  have u0 := uk 0 (by decide)
  have u1 := uk 1 (by decide)
  have u2 := uk 2 (by decide)
  have u3 := uk 3 (by decide)
  have u5 := uk 5 (by decide)
  have bk : ∀ {j}, ¬ U' 4 j = 0 → j ≠ k ∧ ¬ U 4 j = 0 := fun {j} q => by
    rw [u4] at q
    by_cases z : j = k
    · rw [if_pos z] at q; exact absurd rfl q
    · rw [if_neg z] at q; exact ⟨z, q⟩
  refine ⟨by rw [u0]; exact h.ev, h.n60, by rw [u0]; exact h.vs, h.v3, fun j hj => ?_, fun j hj => ?_, fun j hj q => ?_, fun v hv => ?_, fun j hj q1 q2 => ?_, fun i j hi hj q1 q2 q3 q4 q5 => ?_, ?_, by rw [u5]; exact h.r00, fun j hj q => by rw [u2] at q; rw [u3]; exact h.nn j hj q⟩
  · rw [u1]; exact h.vol j hj
  · rw [u4]
    by_cases z : j = k
    · rw [if_pos z]; exact Or.inl rfl
    · rw [if_neg z]; exact h.kd j hj
  · rw [u2] at q
    rw [u1, u5]
    exact h.rt j hj q
  · obtain ⟨r, r1, r2, r3, r4, r5⟩ := h.rts v hv
    refine ⟨r, r1, by rw [u5]; exact r2, ?_, by rw [u2]; exact r4, by rw [u1]; exact r5⟩
    rw [u4, if_neg]
    · exact r3
    · intro z; rw [z] at r4; exact k2 r4
  · obtain ⟨z1, z2⟩ := bk q1
    rw [u2] at q2
    obtain ⟨p, p1, p2, p3, p4⟩ := h.par j hj z2 q2
    refine ⟨p, p1, by rw [u2]; exact p2, ?_, by rw [u1]; exact p4⟩
    rw [u4, if_neg]
    · exact p3
    · intro z; rw [z] at p2; exact nc j hj z2 p2
  · rw [u2] at q3 q4
    rw [u3] at q5
    exact h.uq i j hi hj (bk q1).2 (bk q2).2 q3 q4 q5
  · obtain ⟨d, hd⟩ := h.rk
    refine ⟨d, fun i p hi hp q1 q2 => ?_⟩
    rw [u2] at q2
    exact hd i p hi hp (bk q1).2 q2
theorem fd_gone {U U' : NodV} {n vol : Nat} (h : NodI U n vol) (h' : NodI U' n vol) {k : Nat} (hk : k < n) (u4 : ∀ j, U' 4 j = if j = k then 0 else U 4 j) (uk : ∀ q : Fin 6, q ≠ 4 → U' q = U q) {a b : Int32} (ha : ¬ a = -1) : q_X2_find U' a b = if q_X2_find U a b = nI k then -1 else q_X2_find U a b := by
  have n60 := h.n60
  have u2 := uk 2 (by decide)
  have u3 := uk 3 (by decide)
  have bk : ∀ {j}, ¬ U' 4 j = 0 → j ≠ k ∧ ¬ U 4 j = 0 := fun {j} q => by
    rw [u4] at q
    by_cases z : j = k
    · rw [if_pos z] at q; exact absurd rfl q
    · rw [if_neg z] at q; exact ⟨z, q⟩
  rcases h.fd a b with ⟨q1, q2⟩ | ⟨j, j1, j2, j3, j4, j5⟩
  · rw [q1, if_neg (fun z => nI_m1 (show k < 2 ^ 31 by omega) z.symm)]
    rcases h'.fd a b with ⟨p1, _⟩ | ⟨j, j1, j2, j3, j4, j5⟩
    · exact p1
    · rw [u2] at j4
      rw [u3] at j5
      exact absurd j5 (q2 j j1 (bk j3).2 j4)
  · rw [j2]
    rcases h'.fd a b with ⟨p1, p2⟩ | ⟨i, i1, i2, i3, i4, i5⟩
    · rw [p1]
      by_cases z : j = k
      · rw [z, if_pos rfl]
      · exact absurd (by rw [u3]; exact j5) (p2 j j1 (by rw [u4, if_neg z]; exact j3) (by rw [u2]; exact j4))
    · obtain ⟨z1, z2⟩ := bk i3
      rw [u2] at i4
      rw [u3] at i5
      have : i = j := h.uq i j i1 j1 z2 j3 (by rw [i4]; exact ha) (by rw [i4, j4]) (by rw [i5, j5])
      subst this
      rw [i2, if_neg (fun z => z1 ((nI_eq (by omega) (by omega)).mp z))]
theorem fo_gone {U U' : NodV} {n vol : Nat} (h : NodI U n vol) (h' : NodI U' n vol) {k : Nat} (u4 : ∀ j, U' 4 j = if j = k then 0 else U 4 j) {y : Int32} (hy : ¬ y = nI k) (q : ¬ q_X2_isFolder U y = 0) : ¬ q_X2_isFolder U' y = 0 := by
  obtain ⟨j, j1, j2, j3⟩ := h.fo q
  rw [j2, h'.fo' j1 (by rw [u4, if_neg (fun z => hy (by rw [j2, z]))]; exact j3)]
  exact i10
theorem Inv.gone0 {U U' : NodV} {V V' : MemV} {H : OneV} {W : WkV} {n vol t T : Nat} (i : Inv U V H W n vol t T (fun _ => 0)) (h30 : T + 1 ≤ 1000000000) {e k p : Nat} (e64 : e < 64) (e1 : V 1 e = 1) (e2 : V 2 e = nI p) (p64 : p < 64) (e4 : V 4 e = nI k) (kn : k < n) (nc : ∀ j, j < n → ¬ U 4 j = 0 → ¬ U 2 j = nI k) (ec : ∀ f, f < 64 → ¬ V 1 f = 0 → ¬ V 2 f = nI e) (vc : ∀ v, v < 3 → ¬ V 10 v = nI e) (u4 : ∀ j, U' 4 j = if j = k then 0 else U 4 j) (uk : ∀ q : Fin 6, q ≠ 4 → U' q = U q) (hz : hc V H W e = 0) (a4 : ∀ j, V' 4 j = if j = e then -1 else V 4 j) (a6 : ∀ j, V' 6 j = if j = e then V 6 e + 1 else V 6 j) (kk : ∀ q : Fin 12, q ≠ 4 → q ≠ 6 → V' q = V q) : Inv U' V' H W n vol t (T + 1) (fun _ => 0) := by
  have hN := i.N
  have hM := i.M
  have n60 := hN.n60
  have e2m : ¬ V 2 e = -1 := by rw [e2]; exact nI_m1 (by omega)
  obtain ⟨p', p'1, p'2, p'3, p'4, p'5⟩ := hM.ch e e64 e1 e2m
  have pp : p' = p := (nI_eq (by omega) (by omega)).mp (p'2.symm.trans e2)
  subst pp
  have k2 : ¬ U 2 k = -1 ∧ ¬ U 4 k = 0 := by
    rcases hN.fd (V 4 p') (V 3 e) with ⟨q1, _⟩ | ⟨j, j1, j2, j3, j4, _⟩
    · rw [← p'5, e4] at q1
      exact absurd q1 (nI_m1 (by omega))
    · have : j = k := (nI_eq (by omega) (by omega)).mp (j2.symm.trans (p'5.symm.trans e4))
      subst this
      refine ⟨?_, j3⟩
      obtain ⟨kp, b1, b2, _⟩ := hN.fo p'4
      rw [j4, b2]
      exact nI_m1 (by omega)
  have hN' := hN.gone k2.1 nc u4 uk
  have u1 := uk 1 (by decide)
  have u5 := uk 5 (by decide)
  have fneg : ∀ {y}, ¬ q_X2_isFolder U y = 0 → ¬ y = -1 := fun {y} q z => by
    obtain ⟨j, b1, b2, _⟩ := hN.fo q
    rw [z] at b2
    exact nI_m1 (show j < 2 ^ 31 by omega) b2.symm
  have nk : ∀ f, f < 64 → ¬ V 1 f = 0 → f ≠ e → ¬ V 4 f = nI k := fun f hf q z w => z (hM.nd f e hf e64 q (by rw [e1]; exact i10) (by rw [w]; exact nI_m1 (by omega)) (by rw [w, e4]))
  have pe : p' ≠ e := fun z => ec e e64 (by rw [e1]; exact i10) (by rw [e2, z])
  have c3 := kk 3 (by decide) (by decide)
  have c8 := kk 8 (by decide) (by decide)
  have c9 := kk 9 (by decide) (by decide)
  have c10 := kk 10 (by decide) (by decide)
  have c0 := kk 0 (by decide) (by decide)
  have c1 := kk 1 (by decide) (by decide)
  have c2 := kk 2 (by decide) (by decide)
  have c5 := kk 5 (by decide) (by decide)
  obtain ⟨z1, z2, z3, z4⟩ := hc_z hz
  refine ⟨hN', ⟨?_, ?_, ?_, ?_, ?_, ?_, ?_, ?_, ?_, ?_, ?_, ?_⟩, ⟨?_, by have := i.Z.tT; omega, h30, ?_, ?_, ?_⟩, ?_, ?_, ?_⟩
  · rw [c1]; exact hM.st
  · rw [c9]; exact hM.r0
  · rw [c10]; exact hM.o0
  · intro v hv
    rw [c9, c10, c1, c2, u5]
    rcases hM.rt v hv with q | ⟨q1, r, r64, q2, q3, q4, q5⟩
    · exact Or.inl q
    · refine Or.inr ⟨q1, r, r64, q2, q3, q4, ?_⟩
      rw [a4, if_neg]
      · exact q5
      · intro z; rw [z] at q4; exact e2m q4
  · intro v h1 hv
    rw [c9, c10, c1, c2]
    intro q
    obtain ⟨o, o64, w1, w2, w3, w4⟩ := hM.ov v h1 hv q
    have oe : o ≠ e := fun z => vc v hv (by rw [w1, z])
    refine ⟨o, o64, w1, w2, w3, ?_⟩
    rw [a4, if_neg oe]
    exact fo_gone hN hN' u4 (nk o o64 (by rw [w2]; exact i10) oe) w4
  · rw [c10]; exact hM.oi
  · obtain ⟨ρ, hρ⟩ := hM.vr
    refine ⟨ρ, fun v o k u h1 h2 h3 h4 h5 h6 h7 h8 => ?_⟩
    rw [c10] at h4
    rw [a4, if_neg (fun z => vc v h2 (by rw [h4, z]))] at h5
    rw [u1] at h7
    exact hρ v o k u h1 h2 h3 h4 h5 h6 h7 h8
  · rw [c1, c2, c9]; exact hM.ro
  · intro f hf q1 q2
    rw [c1] at q1
    rw [c2] at q2
    rw [c2, c1, c3]
    obtain ⟨p, y1, y2, y3, y4, y5⟩ := hM.ch f hf q1 q2
    have pe : p ≠ e := fun z => ec f hf (by rw [q1]; exact i10) (by rw [y2, z])
    refine ⟨p, y1, y2, y3, ?_, ?_⟩
    · rw [a4, if_neg pe]; exact fo_gone hN hN' u4 (nk p y1 (by rw [y3]; exact i10) pe) y4
    · rw [a4, a4, if_neg pe, fd_gone hN hN' kn u4 uk (fneg y4), ← y5]
      by_cases z : f = e
      · rw [if_pos z, z, e4, if_pos rfl]
      · rw [if_neg z, if_neg (nk f hf (by rw [q1]; exact i10) z)]
  · intro f hf q1
    rw [c1] at q1
    rw [c2, a4, if_neg]
    · obtain ⟨b1, j, b2, b3, b4⟩ := hM.go f hf q1
      refine ⟨b1, j, b2, b3, ?_⟩
      rw [u4, b4, ite_self]
    · intro z
      rw [z, e1] at q1
      exact absurd q1 (by decide)
  · rw [c1, c2, c3]; exact hM.sb
  · intro f g hf hg q1 q2 q3 q4
    rw [c1] at q1 q2
    rw [a4] at q3
    rw [a4, a4] at q4
    by_cases z : f = e
    · rw [if_pos z] at q3; exact absurd rfl q3
    · rw [if_neg z] at q3 q4
      by_cases w : g = e
      · rw [if_pos w] at q4; exact absurd q4 q3
      · rw [if_neg w] at q4
        exact hM.nd f g hf hg q1 q2 q3 q4
  · rw [c0]; exact i.Z.tk
  · rw [c1, c8]; exact i.Z.bi
  · intro f hf q1
    rw [c1] at q1
    obtain ⟨c, d1, d2⟩ := i.Z.co f hf q1
    rw [a6]
    by_cases z : f = e
    · rw [if_pos z, ← z, d1]
      exact ⟨c + 1, nI_1 c, by omega⟩
    · rw [if_neg z]
      exact ⟨c, d1, by omega⟩
  · exact ⟨by rw [c0]; exact i.Z.li, i.Z.tri.le (by rw [c0]) (fun k _ q => by rw [c1] at q; exact q) (Nat.le_refl _)⟩
  · intro f hf
    rw [c1, c5, hc_fr c1 c2 c10]
    exact i.L f hf
  · intro j hj
    rcases i.H j hj with z | ⟨f, f64, w1, w2, w3⟩
    · exact Or.inl z
    · refine Or.inr ⟨f, f64, w1, ?_, ?_⟩
      · rw [c1]; exact w2
      · rw [a4, if_neg (fun z => z3 j hj (by rw [w1, z]))]; exact w3
  · intro j hj q
    obtain ⟨m, d, l, r, hr, hw⟩ := i.W j hj q
    have := hw.md
    have := hw.dl
    have := hw.l12
    refine ⟨m, d, l, r, hr, hw.m, hw.d, hw.l, hw.r, hw.m1, hw.md, hw.dl, hw.l12, hw.r3, fun b hb => ?_⟩
    obtain ⟨f, f64, g1, ⟨b1, c1', g2, g3, g4, g5, g6⟩, g7⟩ := (hw.wy b hb).ex
    refine ⟨f, f64, g1, ⟨b1, c1', g2, g3, g4, by omega, ?_⟩, ?_⟩
    · intro q1 q2
      rw [c1] at q1
      rw [c8] at q2
      obtain ⟨c2', x1, x2, x3, x4⟩ := g6 q1 q2
      rw [a6, c1, a4]
      by_cases z : f = e
      · rw [if_pos z, if_pos z, ← z, x1]
        exact ⟨c2' + 1, nI_1 c2', by omega, by omega, fun w => by omega⟩
      · rw [if_neg z, if_neg z]
        exact ⟨c2', x1, x2, by omega, x4⟩
    · intro q1
      have y := g7 q1
      have yne : f ≠ e := fun w => hcK_z hw.m (by omega) q q1 (z4 j hj) b hb (by rw [← w]; exact g1)
      rw [c1, a4, if_neg yne]
      exact y
theorem Inv.gone1 {U U' : NodV} {V V' : MemV} {H : OneV} {W : WkV} {n vol t T : Nat} (i : Inv U V H W n vol t T (fun _ => 0)) (h30 : T + 1 ≤ 1000000000) {e k p : Nat} (e64 : e < 64) (e1 : V 1 e = 1) (e2 : V 2 e = nI p) (p64 : p < 64) (e4 : V 4 e = nI k) (kn : k < n) (nc : ∀ j, j < n → ¬ U 4 j = 0 → ¬ U 2 j = nI k) (ec : ∀ f, f < 64 → ¬ V 1 f = 0 → ¬ V 2 f = nI e) (vc : ∀ v, v < 3 → ¬ V 10 v = nI e) (u4 : ∀ j, U' 4 j = if j = k then 0 else U 4 j) (uk : ∀ q : Fin 6, q ≠ 4 → U' q = U q) (hz : ¬ hc V H W e = 0) (a1 : ∀ j, V' 1 j = if j = e then 2 else V 1 j) (a2 : ∀ j, V' 2 j = if j = e then -1 else V 2 j) (a5 : ∀ j, V' 5 j = if j = p then V 5 p - 1 else V 5 j) (a6 : ∀ j, V' 6 j = if j = e then V 6 e + 1 else V 6 j) (kk : ∀ q : Fin 12, q ≠ 1 → q ≠ 2 → q ≠ 5 → q ≠ 6 → V' q = V q) : Inv U' V' H W n vol t (T + 1) (fun _ => 0) := by
  have hN := i.N
  have hM := i.M
  have n60 := hN.n60
  have e2m : ¬ V 2 e = -1 := by rw [e2]; exact nI_m1 (by omega)
  obtain ⟨p', p'1, p'2, p'3, p'4, p'5⟩ := hM.ch e e64 e1 e2m
  have pp : p' = p := (nI_eq (by omega) (by omega)).mp (p'2.symm.trans e2)
  subst pp
  have k2 : ¬ U 2 k = -1 ∧ ¬ U 4 k = 0 := by
    rcases hN.fd (V 4 p') (V 3 e) with ⟨q1, _⟩ | ⟨j, j1, j2, j3, j4, _⟩
    · rw [← p'5, e4] at q1
      exact absurd q1 (nI_m1 (by omega))
    · have : j = k := (nI_eq (by omega) (by omega)).mp (j2.symm.trans (p'5.symm.trans e4))
      subst this
      refine ⟨?_, j3⟩
      obtain ⟨kp, b1, b2, _⟩ := hN.fo p'4
      rw [j4, b2]
      exact nI_m1 (by omega)
  have hN' := hN.gone k2.1 nc u4 uk
  have u1 := uk 1 (by decide)
  have u5 := uk 5 (by decide)
  have fneg : ∀ {y}, ¬ q_X2_isFolder U y = 0 → ¬ y = -1 := fun {y} q z => by
    obtain ⟨j, b1, b2, _⟩ := hN.fo q
    rw [z] at b2
    exact nI_m1 (show j < 2 ^ 31 by omega) b2.symm
  have nk : ∀ f, f < 64 → ¬ V 1 f = 0 → f ≠ e → ¬ V 4 f = nI k := fun f hf q z w => z (hM.nd f e hf e64 q (by rw [e1]; exact i10) (by rw [w]; exact nI_m1 (by omega)) (by rw [w, e4]))
  have pe : p' ≠ e := fun z => ec e e64 (by rw [e1]; exact i10) (by rw [e2, z])
  have c3 := kk 3 (by decide) (by decide) (by decide) (by decide)
  have c8 := kk 8 (by decide) (by decide) (by decide) (by decide)
  have c9 := kk 9 (by decide) (by decide) (by decide) (by decide)
  have c10 := kk 10 (by decide) (by decide) (by decide) (by decide)
  have c0 := kk 0 (by decide) (by decide) (by decide) (by decide)
  have c4 := kk 4 (by decide) (by decide) (by decide) (by decide)
  have b1 : ∀ {f}, V' 1 f = 1 → f ≠ e ∧ V 1 f = 1 := fun {f} q => by
    rw [a1] at q
    by_cases z : f = e
    · rw [if_pos z] at q; exact absurd q (by decide)
    · rw [if_neg z] at q; exact ⟨z, q⟩
  have b0 : ∀ {f}, ¬ V' 1 f = 0 → ¬ V 1 f = 0 := fun {f} q => by
    rw [a1] at q
    by_cases z : f = e
    · rw [z, e1]; exact i10
    · rw [if_neg z] at q; exact q
  have b0' : ∀ {f}, ¬ V 1 f = 0 → ¬ V' 1 f = 0 := fun {f} q => by
    rw [a1]
    by_cases z : f = e
    · rw [if_pos z]; exact (by decide : ¬ (2 : Int32) = 0)
    · rw [if_neg z]; exact q
  refine ⟨hN', ⟨?_, ?_, ?_, ?_, ?_, ?_, ?_, ?_, ?_, ?_, ?_, ?_⟩, ⟨?_, by have := i.Z.tT; omega, h30, ?_, ?_, ?_⟩, ?_, ?_, ?_⟩
  · intro f hf
    rw [a1]
    by_cases z : f = e
    · rw [if_pos z]; exact Or.inr (Or.inr rfl)
    · rw [if_neg z]; exact hM.st f hf
  · rw [c9]; exact hM.r0
  · rw [c10]; exact hM.o0
  · intro v hv
    rw [c9, c10, c4, u5]
    rcases hM.rt v hv with q | ⟨q1, r, r64, q2, q3, q4, q5⟩
    · exact Or.inl q
    · have re : r ≠ e := fun z => e2m (by rw [← z]; exact q4)
      exact Or.inr ⟨q1, r, r64, q2, by rw [a1, if_neg re]; exact q3, by rw [a2, if_neg re]; exact q4, q5⟩
  · intro v h1 hv
    rw [c9, c10, c4]
    intro q
    obtain ⟨o, o64, w1, w2, w3, w4⟩ := hM.ov v h1 hv q
    have oe : o ≠ e := fun z => vc v hv (by rw [w1, z])
    refine ⟨o, o64, w1, by rw [a1, if_neg oe]; exact w2, by rw [a2, if_neg oe]; exact w3, ?_⟩
    exact fo_gone hN hN' u4 (nk o o64 (by rw [w2]; exact i10) oe) w4
  · rw [c10]; exact hM.oi
  · rw [c10, c4, u1]; exact hM.vr
  · intro f hf q1 q2
    obtain ⟨z, q1⟩ := b1 q1
    rw [a2, if_neg z] at q2
    rw [c9]
    exact hM.ro f hf q1 q2
  · intro f hf q1 q2
    obtain ⟨z, q1⟩ := b1 q1
    rw [a2, if_neg z] at q2
    rw [a2, if_neg z, c3, c4]
    obtain ⟨p, y1, y2, y3, y4, y5⟩ := hM.ch f hf q1 q2
    have pe : p ≠ e := fun z => ec f hf (by rw [q1]; exact i10) (by rw [y2, z])
    refine ⟨p, y1, y2, by rw [a1, if_neg pe]; exact y3, ?_, ?_⟩
    · exact fo_gone hN hN' u4 (nk p y1 (by rw [y3]; exact i10) pe) y4
    · rw [fd_gone hN hN' kn u4 uk (fneg y4), ← y5, if_neg (nk f hf (by rw [q1]; exact i10) z)]
  · intro f hf q1
    rw [a1] at q1
    rw [a2, c4]
    by_cases z : f = e
    · rw [if_pos z]
      exact ⟨rfl, k, kn, by rw [z]; exact e4, by rw [u4, if_pos rfl]⟩
    · rw [if_neg z] at q1
      rw [if_neg z]
      obtain ⟨b1, j, b2, b3, b4⟩ := hM.go f hf q1
      refine ⟨b1, j, b2, b3, ?_⟩
      rw [u4, b4, ite_self]
  · intro f g hf hg q1 q2 q3 q4 q5
    obtain ⟨z, q1⟩ := b1 q1
    obtain ⟨w, q2⟩ := b1 q2
    rw [a2, if_neg z] at q3
    rw [a2, a2, if_neg z, if_neg w] at q4
    rw [c3] at q5
    exact hM.sb f g hf hg q1 q2 q3 q4 q5
  · intro f g hf hg q1 q2
    rw [c4]
    exact hM.nd f g hf hg (b0 q1) (b0 q2)
  · rw [c0]; exact i.Z.tk
  · intro f hf q1
    rw [c8]
    exact i.Z.bi f hf (b0 q1)
  · intro f hf q1
    obtain ⟨c, d1, d2⟩ := i.Z.co f hf (b0 q1)
    rw [a6]
    by_cases z : f = e
    · rw [if_pos z, ← z, d1]
      exact ⟨c + 1, nI_1 c, by omega⟩
    · rw [if_neg z]
      exact ⟨c, d1, by omega⟩
  · exact ⟨by rw [c0]; exact i.Z.li, i.Z.tri.le (by rw [c0]) (fun k _ q => b0 q) (Nat.le_refl _)⟩
  · have hcc : ∀ f, f < 64 → hc V' H W f + (if f = p' then 1 else 0) = hc V H W f := by
      intro f hf
      have o := cnt_one (P := fun j => decide (¬ V 1 j = 0 ∧ V 2 j = nI f)) (P' := fun j => decide (¬ V' 1 j = 0 ∧ V' 2 j = nI f)) (e := e) (n := 64) (k := 0) (Nat.zero_le _) (by omega) (fun j _ _ z => by
        show decide _ = decide _
        rw [a1, a2, if_neg z, if_neg z])
      have x1 : decide (¬ V' 1 e = 0 ∧ V' 2 e = nI f) = false := by
        rw [a2, if_pos rfl]
        simp only [decide_eq_false_iff_not]
        exact fun z => nI_m1 (show f < 2 ^ 31 by omega) z.2.symm
      have x2 : decide (¬ V 1 e = 0 ∧ V 2 e = nI f) = decide (f = p') := by
        rw [e1, e2]
        by_cases z : f = p'
        · rw [z]; simp
        · have : ¬ nI p' = nI f := fun w => z ((nI_eq (by omega) (by omega)).mp w).symm
          simp [z, this]
      simp only [x1, x2, decide_eq_true_eq, Bool.false_eq_true, if_false] at o
      have hv : hcV V' f = hcV V f := by unfold hcV; rw [c10]
      have o' : hcC V' f + (if f = p' then 1 else 0) = hcC V f := by unfold hcC; omega
      unfold hc
      omega
    intro f hf
    obtain ⟨l1, l2, l3⟩ := i.L f hf
    have cc := hcc f hf
    refine ⟨fun _ => rfl, l2, fun q => ?_⟩
    obtain ⟨m1, m2⟩ := l3 (b0 q)
    rw [a5, a1]
    by_cases z : f = p'
    · have fe : f ≠ e := fun w => pe (by rw [← z, w])
      rw [if_pos z] at cc
      rw [if_pos z, ← z, m1, if_neg fe]
      refine ⟨?_, fun w => ?_⟩
      · have e1 : hc V' H W f = hc V H W f - 1 := by omega
        simp only [Nat.add_zero]
        rw [e1]
        exact nI_sub (b := 1) (by omega)
      · rw [z, p'3] at w
        exact absurd w (by decide)
    · rw [if_neg z] at cc
      rw [if_neg z, m1]
      have cc' : hc V' H W f = hc V H W f := by omega
      rw [cc']
      refine ⟨rfl, fun w => ?_⟩
      by_cases x : f = e
      · rw [x]; omega
      · rw [if_neg x] at w; exact m2 w
  · intro j hj
    rcases i.H j hj with z | ⟨f, f64, w1, w2, w3⟩
    · exact Or.inl z
    · exact Or.inr ⟨f, f64, w1, b0' w2, by rw [c4]; exact w3⟩
  · intro j hj q
    obtain ⟨m, d, l, r, hr, hw⟩ := i.W j hj q
    refine ⟨m, d, l, r, hr, hw.m, hw.d, hw.l, hw.r, hw.m1, hw.md, hw.dl, hw.l12, hw.r3, fun b hb => ?_⟩
    obtain ⟨f, f64, g1, ⟨b1, c1', g2, g3, g4, g5, g6⟩, g7⟩ := (hw.wy b hb).ex
    refine ⟨f, f64, g1, ⟨b1, c1', g2, g3, g4, by omega, ?_⟩, ?_⟩
    · intro q1 q2
      rw [c8] at q2
      obtain ⟨c2', x1, x2, x3, x4⟩ := g6 (b0 q1) q2
      rw [a6, a1, c4]
      by_cases z : f = e
      · rw [if_pos z, if_pos z, ← z, x1]
        exact ⟨c2' + 1, nI_1 c2', by omega, by omega, fun w => by omega⟩
      · rw [if_neg z, if_neg z]
        exact ⟨c2', x1, x2, by omega, x4⟩
    · intro q1
      have y := g7 q1
      exact ⟨b0' y.1, by rw [c4]; exact y.2⟩

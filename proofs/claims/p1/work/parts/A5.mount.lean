/-! A volume mounted: what holds stays. -/
theorem Inv.mnt {U : NodV} {V : MemV} {H : OneV} {W : WkV} {n vol t T : Nat} {x : Nat → Nat} (i : Inv U V H W n vol t T x) {o k u : Nat} (ha : At V o) (h4 : V 4 o = nI k) (kn : k < n) (hu : U 1 k = nI u) (u3 : u < 3) : ¬ V 9 u = -1 := by
  have hN := i.N
  have hM := i.M
  have n60 := hN.n60
  obtain ⟨d, hd⟩ := hN.rk
  have key : ∀ N, ∀ o k, d k ≤ N → At V o → V 4 o = nI k → k < n → U 1 k = nI u → ¬ V 9 u = -1 := by
    intro N
    induction N with
    | zero =>
      intro o k hd0 ha h4 kn hu
      by_cases z : V 2 o = -1
      · obtain ⟨w, w3, w9⟩ := hM.ro o ha.1 ha.2.1 z
        rcases hM.rt w w3 with ⟨q, _⟩ | ⟨wv, r, r64, q2, _, _, q5⟩
        · rw [q] at w9
          exact absurd w9.symm (nI_m1 (by have := ha.1; omega))
        · have ro : r = o := (nI_eq (by omega) (by have := ha.1; omega)).mp (q2.symm.trans w9)
          obtain ⟨r', b1, b2, _, _, b5⟩ := hN.rts w wv
          rw [ro, h4, b2] at q5
          have : k = r' := (nI_eq (by omega) (by omega)).mp q5
          rw [this, b5] at hu
          have : w = u := (nI_eq (by omega) (by omega)).mp hu
          rw [← this, w9]
          exact nI_m1 (by have := ha.1; omega)
      · obtain ⟨p, p1, p2, p3, p4, p5⟩ := hM.ch o ha.1 ha.2.1 z
        obtain ⟨kp, c1, c2, c3⟩ := hN.fo p4
        rcases hN.fd (V 4 p) (V 3 o) with ⟨q, _⟩ | ⟨j, j1, j2, j3, j4, _⟩
        · rw [← p5, h4] at q
          exact absurd q (nI_m1 (by omega))
        · have jk : j = k := (nI_eq (by omega) (by omega)).mp (j2.symm.trans (p5.symm.trans h4))
          rw [jk] at j3 j4
          have := hd k kp kn c1 j3 (by rw [j4, c2])
          omega
    | succ N ih =>
      intro o k hd0 ha h4 kn hu
      by_cases z : V 2 o = -1
      · obtain ⟨w, w3, w9⟩ := hM.ro o ha.1 ha.2.1 z
        rcases hM.rt w w3 with ⟨q, _⟩ | ⟨wv, r, r64, q2, _, _, q5⟩
        · rw [q] at w9
          exact absurd w9.symm (nI_m1 (by have := ha.1; omega))
        · have ro : r = o := (nI_eq (by omega) (by have := ha.1; omega)).mp (q2.symm.trans w9)
          obtain ⟨r', b1, b2, _, _, b5⟩ := hN.rts w wv
          rw [ro, h4, b2] at q5
          have : k = r' := (nI_eq (by omega) (by omega)).mp q5
          rw [this, b5] at hu
          have : w = u := (nI_eq (by omega) (by omega)).mp hu
          rw [← this, w9]
          exact nI_m1 (by have := ha.1; omega)
      · obtain ⟨p, p1, p2, p3, p4, p5⟩ := hM.ch o ha.1 ha.2.1 z
        obtain ⟨kp, c1, c2, c3⟩ := hN.fo p4
        rcases hN.fd (V 4 p) (V 3 o) with ⟨q, _⟩ | ⟨j, j1, j2, j3, j4, _⟩
        · rw [← p5, h4] at q
          exact absurd q (nI_m1 (by omega))
        · have jk : j = k := (nI_eq (by omega) (by omega)).mp (j2.symm.trans (p5.symm.trans h4))
          rw [jk] at j3 j4
          have dl := hd k kp kn c1 j3 (by rw [j4, c2])
          obtain ⟨p', b1, b2, b3, b4⟩ := hN.par k kn j3 (by rw [j4, c2]; exact nI_m1 (by omega))
          have : p' = kp := (nI_eq (by omega) (by omega)).mp (b2.symm.trans (j4.trans c2))
          rw [this] at b4
          exact ih p kp (by omega) ⟨p1, p3, by rw [c2]; exact nI_m1 (by omega)⟩ c2 c1 (by rw [b4]; exact hu)
  exact key (d k) o k (Nat.le_refl _) ha h4 kn hu
theorem Inv.mount {U : NodV} {V V' : MemV} {H : OneV} {W : WkV} {n vol t T : Nat} (i : Inv U V H W n vol t T (fun _ => 0)) (h30 : T + 1 ≤ 1000000000) (tT : t + 1 ≤ T) {v a e : Nat} (v3 : v < 3) (vv : v < vol) (m9 : V 9 v = -1) (at' : At V a) (v2 : ¬ V 2 a = -1) (vc : ∀ w, w < 3 → ¬ V 10 w = nI a) (fo : ¬ q_X2_isFolder U (V 4 a) = 0) (e64 : e < 64) (e0 : V 1 e = 0) (a1 : ∀ j, V' 1 j = if j = e then 1 else V 1 j) (a2 : ∀ j, V' 2 j = if j = e then -1 else V 2 j) (a3 : ∀ j, V' 3 j = if j = e then 0 else V 3 j) (a4 : ∀ j, V' 4 j = if j = e then U 5 v else V 4 j) (a5 : ∀ j, V' 5 j = if j = e then 0 else if j = a then V 5 a + 1 else V 5 j) (a6 : ∀ j, V' 6 j = if j = e then 0 else if j = a then V 6 a + 1 else V 6 j) (a8 : ∀ j, V' 8 j = if j = e then V 0 12 else V 8 j) (a9 : ∀ j, V' 9 j = if j = v then nI e else V 9 j) (a10 : ∀ j, V' 10 j = if j = v then nI a else V 10 j) (b11 : V' 0 11 = V 0 11) (b12 : V' 0 12 = V 0 12 + 1) (b14 : V' 0 14 = V 0 14) : Inv U V' H W n vol (t + 1) (T + 1) (fun _ => 0) := by
  have hN := i.N
  have hM := i.M
  have n60 := hN.n60
  have T30 := i.Z.T30
  have a64 := at'.1
  have av : ¬ V 1 a = 0 := by rw [at'.2.1]; exact i10
  have ne1 : ∀ {f}, ¬ V 1 f = 0 → f ≠ e := fun q z => q (by rw [z]; exact e0)
  have ne1' : ∀ {f}, V 1 f = 1 → f ≠ e := fun q => ne1 (by rw [q]; exact i10)
  have ae := ne1 av
  have v0 : v ≠ 0 := fun z => by
    obtain ⟨r, r1, r2⟩ := hM.r0
    rw [z, r2] at m9
    exact nI_m1 (by omega) m9
  have m10 : V 10 v = -1 := by
    rcases hM.rt v v3 with ⟨_, q⟩ | ⟨_, r, r64, q2, _⟩
    · exact q
    · rw [m9] at q2
      exact absurd q2.symm (nI_m1 (by omega))
  obtain ⟨rn, rn1, rn2, rn3, rn4, rn5⟩ := hN.rts v vv
  have nor : ∀ g, g < 64 → ¬ V 1 g = 0 → ¬ V 4 g = U 5 v := fun g hg q z => by
    rw [rn2] at z
    rcases hM.st g hg with s | s | s
    · exact q s
    · exact i.mnt ⟨hg, s, by rw [z]; exact nI_m1 (by omega)⟩ z rn1 rn5 v3 m9
    · obtain ⟨_, k, b1, b2, b3⟩ := hM.go g hg s
      have : k = rn := (nI_eq (by omega) (by omega)).mp (b2.symm.trans z)
      rw [this, rn3] at b3
      exact absurd b3 (by decide)
  have back : ∀ {f}, ¬ V' 1 f = 0 → f = e ∨ (f ≠ e ∧ ¬ V 1 f = 0) := fun {f} q => by
    by_cases z : f = e
    · exact Or.inl z
    · rw [a1, if_neg z] at q; exact Or.inr ⟨z, q⟩
  have fwd : ∀ {f}, ¬ V 1 f = 0 → V' 1 f = V 1 f ∧ V' 2 f = V 2 f ∧ V' 3 f = V 3 f ∧ V' 4 f = V 4 f ∧ V' 8 f = V 8 f := fun {f} q => by
    have z := ne1 q
    rw [a1, a2, a3, a4, a8, if_neg z, if_neg z, if_neg z, if_neg z, if_neg z]
    exact ⟨rfl, rfl, rfl, rfl, rfl⟩
  have b1 : ∀ {f}, V' 1 f = 1 → ¬ V' 2 f = -1 → f ≠ e ∧ V 1 f = 1 ∧ ¬ V 2 f = -1 := fun {f} q1 q2 => by
    by_cases z : f = e
    · rw [a2, if_pos z] at q2; exact absurd rfl q2
    · rw [a1, if_neg z] at q1
      rw [a2, if_neg z] at q2
      exact ⟨z, q1, q2⟩
  refine ⟨hN, ⟨?_, ?_, ?_, ?_, ?_, ?_, ?_, ?_, ?_, ?_, ?_, ?_⟩, ⟨?_, by omega, h30, ?_, ?_, ?_⟩, ?_, ?_, ?_⟩
  · intro f hf
    rw [a1]
    by_cases z : f = e
    · rw [if_pos z]; exact Or.inr (Or.inl rfl)
    · rw [if_neg z]; exact hM.st f hf
  · rw [a9, if_neg (fun z => v0 z.symm)]; exact hM.r0
  · rw [a10, if_neg (fun z => v0 z.symm)]; exact hM.o0
  · intro w hw
    rw [a9, a10]
    by_cases z : w = v
    · rw [if_pos z, if_pos z]
      exact Or.inr ⟨by rw [z]; exact vv, e, e64, rfl, by rw [a1, if_pos rfl], by rw [a2, if_pos rfl], by rw [a4, if_pos rfl, z]⟩
    · rw [if_neg z, if_neg z]
      rcases hM.rt w hw with q | ⟨q1, r, r64, q2, q3, q4, q5⟩
      · exact Or.inl q
      · obtain ⟨c1, c2, _, c4, _⟩ := fwd (f := r) (by rw [q3]; exact i10)
        exact Or.inr ⟨q1, r, r64, q2, by rw [c1]; exact q3, by rw [c2]; exact q4, by rw [c4]; exact q5⟩
  · intro w h1 hw
    rw [a9, a10]
    by_cases z : w = v
    · rw [if_pos z, if_pos z]
      intro _
      obtain ⟨c1, c2, _, c4, _⟩ := fwd av
      exact ⟨a, a64, rfl, by rw [c1]; exact at'.2.1, by rw [c2]; exact v2, by rw [c4]; exact fo⟩
    · rw [if_neg z, if_neg z]
      intro q
      obtain ⟨o, o64, w1, w2, w3, w4⟩ := hM.ov w h1 hw q
      obtain ⟨c1, c2, _, c4, _⟩ := fwd (f := o) (by rw [w2]; exact i10)
      exact ⟨o, o64, w1, by rw [c1]; exact w2, by rw [c2]; exact w3, by rw [c4]; exact w4⟩
  · intro w u hw hu q1 q2
    rw [a10] at q1
    rw [a10, a10] at q2
    by_cases z : w = v
    · by_cases y : u = v
      · omega
      · rw [if_pos z, if_neg y] at q2
        exact absurd q2.symm (vc u hu)
    · rw [if_neg z] at q1 q2
      by_cases y : u = v
      · rw [if_pos y] at q2
        exact absurd q2 (vc w hw)
      · rw [if_neg y] at q2
        exact hM.oi w u hw hu q1 q2
  · obtain ⟨ρ, hρ⟩ := hM.vr
    refine ⟨fun w => if w = v then ρ 0 + ρ 1 + ρ 2 + 1 else ρ w, fun w o k u h1 h2 h3 h4 h5 h6 h7 h8 => ?_⟩
    show (if u = v then ρ 0 + ρ 1 + ρ 2 + 1 else ρ u) < if w = v then ρ 0 + ρ 1 + ρ 2 + 1 else ρ w
    rw [a10] at h4
    by_cases z : w = v
    · rw [if_pos z] at h4
      have oa : o = a := ((nI_eq (by omega) (by omega)).mp h4).symm
      rw [oa, (fwd av).2.2.2.1] at h5
      have uv : u ≠ v := fun y => i.mnt at' h5 h6 h7 h8 (by rw [y]; exact m9)
      rw [if_neg uv, if_pos z]
      have : u = 0 ∨ u = 1 ∨ u = 2 := by omega
      rcases this with y | y | y <;> rw [y] <;> omega
    · rw [if_neg z] at h4
      have ok := hM.ok h2 h3 h4
      rw [(fwd (f := o) (by rw [ok.2.2.1]; exact i10)).2.2.2.1] at h5
      have uv : u ≠ v := fun y => i.mnt ⟨h3, ok.2.2.1, by rw [h5]; exact nI_m1 (by omega)⟩ h5 h6 h7 h8 (by rw [y]; exact m9)
      rw [if_neg uv, if_neg z]
      exact hρ w o k u h1 h2 h3 h4 h5 h6 h7 h8
  · intro f hf q1 q2
    by_cases z : f = e
    · exact ⟨v, v3, by rw [a9, if_pos rfl, z]⟩
    · rw [a1, if_neg z] at q1
      rw [a2, if_neg z] at q2
      obtain ⟨w, w1, w2⟩ := hM.ro f hf q1 q2
      refine ⟨w, w1, ?_⟩
      rw [a9, if_neg]
      · exact w2
      · intro y
        rw [y, m9] at w2
        exact nI_m1 (show f < 2 ^ 31 by omega) w2.symm
  · intro f hf q1 q2
    obtain ⟨z, y1, y2⟩ := b1 q1 q2
    obtain ⟨p, p1, p2, p3, p4, p5⟩ := hM.ch f hf y1 y2
    obtain ⟨c1, c2, c3, c4, _⟩ := fwd (f := p) (by rw [p3]; exact i10)
    obtain ⟨_, d2, d3, d4, _⟩ := fwd (f := f) (by rw [y1]; exact i10)
    exact ⟨p, p1, by rw [d2]; exact p2, by rw [c1]; exact p3, by rw [c4]; exact p4, by rw [c4, d3, d4]; exact p5⟩
  · intro f hf q1
    have z : f ≠ e := fun z => by rw [a1, if_pos z] at q1; exact absurd q1 (by decide)
    rw [a1, if_neg z] at q1
    rw [a2, a4, if_neg z, if_neg z]
    exact hM.go f hf q1
  · intro f g hf hg q1 q2 q3 q4 q5
    obtain ⟨z, y1, y2⟩ := b1 q1 q3
    obtain ⟨w, x1, x2⟩ := b1 q2 (by rw [← q4]; exact q3)
    rw [a2, a2, if_neg z, if_neg w] at q4
    rw [a3, a3, if_neg z, if_neg w] at q5
    exact hM.sb f g hf hg y1 x1 y2 q4 q5
  · intro f g hf hg q1 q2 q3 q4
    rw [a4] at q3
    rw [a4, a4] at q4
    rcases back q1 with z | ⟨z, y⟩
    · rcases back q2 with w | ⟨w, x⟩
      · omega
      · rw [if_pos z, if_neg w] at q4
        exact absurd q4.symm (nor g hg x)
    · rw [if_neg z] at q3 q4
      rcases back q2 with w | ⟨w, x⟩
      · rw [if_pos w] at q4
        exact absurd q4 (nor f hf y)
      · rw [if_neg w] at q4
        exact hM.nd f g hf hg y x q3 q4
  · rw [b12, i.Z.tk, nI_1]
  · intro f hf q1
    rw [a8]
    rcases back q1 with z | ⟨z, y⟩
    · rw [if_pos z, i.Z.tk]
      exact ⟨t, rfl, by omega⟩
    · rw [if_neg z]
      obtain ⟨b, c1, c2⟩ := i.Z.bi f hf y
      exact ⟨b, c1, by omega⟩
  · intro f hf q1
    rw [a6]
    rcases back q1 with z | ⟨z, y⟩
    · rw [if_pos z]
      exact ⟨0, rfl, by omega⟩
    · rw [if_neg z]
      obtain ⟨c, d1, d2⟩ := i.Z.co f hf y
      by_cases w : f = a
      · rw [if_pos w, ← w, d1]
        exact ⟨c + 1, nI_1 c, by omega⟩
      · rw [if_neg w]
        exact ⟨c, d1, by omega⟩
  · exact ⟨by rw [b11]; exact i.Z.li, i.Z.tri.one b14 e64 (fun k q => by rw [a1, if_neg q])⟩
  · have hcc : ∀ f, f < 64 → hc V' H W f = hc V H W f + (if f = a then 1 else 0) := by
      intro f hf
      have c1 : hcC V' f = hcC V f := cnt_cong (fun j _ _ => by
        rw [a1, a2]
        by_cases w : j = e
        · have q : ¬ (-1 : Int32) = nI f := fun z => nI_m1 (show f < 2 ^ 31 by omega) z.symm
          rw [w, if_pos rfl, if_pos rfl, e0]
          simp [q]
        · rw [if_neg w, if_neg w])
      have o := cnt_one (P := fun w => decide (V 10 w = nI f)) (P' := fun w => decide (V' 10 w = nI f)) (e := v) (n := 3) (k := 0) (Nat.zero_le _) (by omega) (fun j _ _ z => by
        show decide _ = decide _
        rw [a10, if_neg z])
      have x1 : decide (V 10 v = nI f) = false := by
        rw [m10]
        simp only [decide_eq_false_iff_not]
        exact fun z => nI_m1 (show f < 2 ^ 31 by omega) z.symm
      have x2 : decide (V' 10 v = nI f) = decide (f = a) := by
        rw [a10, if_pos rfl]
        by_cases z : f = a
        · rw [z]; simp
        · have : ¬ nI a = nI f := fun w => z ((nI_eq (by omega) (by omega)).mp w).symm
          simp [z, this]
      simp only [x1, x2, decide_eq_true_eq, Bool.false_eq_true, if_false] at o
      have o' : hcV V' f = hcV V f + (if f = a then 1 else 0) := by unfold hcV; omega
      unfold hc
      omega
    intro f hf
    obtain ⟨l1, l2, l3⟩ := i.L f hf
    have cc := hcc f hf
    refine ⟨fun _ => rfl, l2, fun q => ?_⟩
    simp only [Nat.add_zero] at l3 ⊢
    rw [a5, a1]
    rcases back q with z | ⟨z, y⟩
    · have fa : f ≠ a := fun w => ae (by rw [← w, z])
      rw [if_neg fa, i.un hf (by rw [z]; exact e0)] at cc
      rw [if_pos z, if_pos z, cc]
      exact ⟨rfl, fun w => absurd w (by decide)⟩
    · obtain ⟨m1, m2⟩ := l3 y
      rw [if_neg z, if_neg z]
      by_cases w : f = a
      · rw [if_pos w] at cc
        rw [if_pos w, ← w, m1, cc]
        exact ⟨nI_1 _, fun _ => by omega⟩
      · rw [if_neg w, Nat.add_zero] at cc
        rw [if_neg w, cc]
        exact ⟨m1, m2⟩
  · intro j hj
    rcases i.H j hj with z | ⟨f, f64, w1, w2, w3⟩
    · exact Or.inl z
    · obtain ⟨c1, _, _, c4, _⟩ := fwd w2
      exact Or.inr ⟨f, f64, w1, by rw [c1]; exact w2, by rw [c4]; exact w3⟩
  · intro j hj q
    obtain ⟨m, d, l, r, hr, hw⟩ := i.W j hj q
    refine ⟨m, d, l, r, hr, hw.m, hw.d, hw.l, hw.r, hw.m1, hw.md, hw.dl, hw.l12, hw.r3, fun b hb => ?_⟩
    obtain ⟨f, f64, g1, ⟨b1', c1', g2, g3, g4, g5, g6⟩, g7⟩ := (hw.wy b hb).ex
    refine ⟨f, f64, g1, ⟨b1', c1', g2, by omega, g4, by omega, ?_⟩, ?_⟩
    · intro q1 q2
      rcases back q1 with z | ⟨z, y⟩
      · rw [a8, if_pos z, i.Z.tk, g2] at q2
        have : t = b1' := (nI_eq (by omega) (by omega)).mp q2
        omega
      · rw [a8, if_neg z] at q2
        obtain ⟨c2', x1, x2, x3, x4⟩ := g6 y q2
        rw [a6, a1, a4, if_neg z, if_neg z, if_neg z]
        by_cases w : f = a
        · rw [if_pos w, ← w, x1]
          exact ⟨c2' + 1, nI_1 c2', by omega, by omega, fun w => by omega⟩
        · rw [if_neg w]
          exact ⟨c2', x1, x2, by omega, x4⟩
    · intro q1
      have y := g7 q1
      obtain ⟨c1, _, _, c4, _⟩ := fwd y.1
      exact ⟨by rw [c1]; exact y.1, by rw [c4]; exact y.2⟩

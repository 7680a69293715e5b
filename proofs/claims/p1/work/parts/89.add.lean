/-! A child is added; a free entry goes. -/
theorem fd_none {V : MemV} {p : Nat} {nm : Int32} (h : f_X1_find V (nI p) nm = none) : ∀ f, f < 64 → ¬ V 1 f = 0 → V 2 f = nI p → ¬ V 3 f = nm := by
  intro f hf h1 h2 h3
  have := fst_none h f (Nat.zero_le _) (by omega)
  rw [if_neg h1, if_pos h2, if_pos h3] at this
  cases this
theorem fd_some {V : MemV} {x : Int32} {nm : Int32} {e : Nat} (h : f_X1_find V x nm = some e) : e < 64 ∧ ¬ V 1 e = 0 ∧ V 2 e = x ∧ V 3 e = nm := by
  obtain ⟨_, h2, h3, _⟩ := fst_some h
  by_cases a : V 1 e = 0
  · rw [if_pos a] at h3; cases h3
  · by_cases b : V 2 e = x
    · by_cases c : V 3 e = nm
      · exact ⟨by omega, a, b, c⟩
      · rw [if_neg a, if_pos b, if_neg c] at h3; cases h3
    · rw [if_neg a, if_neg b] at h3; cases h3
theorem i01 : ¬ (0 : Int32) = 1 := by decide
theorem i10 : ¬ (1 : Int32) = 0 := by decide
theorem i12 : ¬ (1 : Int32) = 2 := by decide
theorem i02 : ¬ (0 : Int32) = 2 := by decide
theorem i20 : ¬ (2 : Int32) = 0 := by decide
/-- the node of a root entry -/
theorem MemI.rn {U : NodV} {V : MemV} {n vol : Nat} (h : MemI U V n vol) (hN : NodI U n vol) {f : Nat} (hf : f < 64) (h1 : V 1 f = 1) (h2 : V 2 f = -1) : ∃ v r, v < vol ∧ v < 3 ∧ V 9 v = nI f ∧ r < n ∧ V 4 f = nI r ∧ U 5 v = nI r ∧ U 4 r = 2 ∧ U 2 r = -1 ∧ U 1 r = nI v := by
  obtain ⟨v, v3, hv⟩ := h.ro f hf h1 h2
  rcases h.rt v v3 with ⟨z, _⟩ | ⟨z0, r, r64, z1, z2, z3, z4⟩
  · rw [z] at hv
    exact absurd hv.symm (nI_m1 (by omega))
  · have : r = f := (nI_eq (by omega) (by omega)).mp (z1.symm.trans hv)
    subst this
    obtain ⟨k, k1, k2, k3, k4, k5⟩ := hN.rts v z0
    exact ⟨v, k, z0, v3, hv, k1, z4.trans k2, k2, k3, k4, k5⟩
theorem b_if {a b : Nat} (ha : a < 64) (hb : b < 64) : (if decide (¬ (1 : Int32) = 0 ∧ nI a = nI b) = true then 1 else 0) = if b = a then 1 else 0 := by
  by_cases q : b = a
  · subst q
    simp
  · have : ¬ nI a = nI b := fun z => q ((nI_eq (by omega) (by omega)).mp z).symm
    simp [q, this]
theorem Inv.add {U : NodV} {V : MemV} {H : OneV} {W : WkV} {n vol t T : Nat} {x : Nat → Nat} (h : Inv U V H W n vol t T x) {e : Nat} (lu : f_X1_leastUnused V = some e) {p : Nat} (p64 : p < 64) (hp : V 1 p = 1) (hf : ¬ q_X2_isFolder U (V 4 p) = 0) {nm : Int32} (hn : f_X1_find V (nI p) nm = none) (ht : t + 1 ≤ T) : Inv U (gV_X1_add V (nI p) nm (q_X2_find U (V 4 p) nm)) H W n vol (t + 1) T x := by
  obtain ⟨e64, e0, _⟩ := lu_some lu
  have hpe : p ≠ e := fun q => by rw [q, e0] at hp; exact i01 hp
  have a1 := ad_1 lu (nI p) nm (q_X2_find U (V 4 p) nm)
  have a2 := ad_2 lu (nI p) nm (q_X2_find U (V 4 p) nm)
  have a3 := ad_3 lu (nI p) nm (q_X2_find U (V 4 p) nm)
  have a4 := ad_4 lu (nI p) nm (q_X2_find U (V 4 p) nm)
  have a5 := ad_5 lu (nI p) nm (q_X2_find U (V 4 p) nm) rfl p64 hpe
  have a6 := ad_6 lu (nI p) nm (q_X2_find U (V 4 p) nm)
  have a8 := ad_8 lu (nI p) nm (q_X2_find U (V 4 p) nm)
  have a9 := ad_k lu (nI p) nm (q_X2_find U (V 4 p) nm) 9 (Or.inl rfl)
  have a10 := ad_k lu (nI p) nm (q_X2_find U (V 4 p) nm) 10 (Or.inr rfl)
  have al := ad_0 lu (nI p) nm (q_X2_find U (V 4 p) nm) 11 (by decide) (by decide)
  have at' := ad_t lu (nI p) nm (q_X2_find U (V 4 p) nm)
  have a14 := ad_0 lu (nI p) nm (q_X2_find U (V 4 p) nm) 14 (by decide) (by decide)
  generalize gV_X1_add V (nI p) nm (q_X2_find U (V 4 p) nm) = V' at a1 a2 a3 a4 a5 a6 a8 a9 a10 al at' a14
  have ne1 : ∀ {f : Nat}, V 1 f = 1 → f ≠ e := fun q1 q2 => by rw [q2, e0] at q1; exact i01 q1
  have ne0 : ∀ {f : Nat}, ¬ V 1 f = 0 → f ≠ e := fun q1 q2 => q1 (by rw [q2, e0])
  have hN := h.N
  have hM := h.M
  obtain ⟨kp, kp1, kp2, kp3⟩ := hN.fo hf
  have n60 := hN.n60
  refine ⟨hN, ⟨?_, ?_, ?_, ?_, ?_, ?_, ?_, ?_, ?_, ?_, ?_, ?_⟩, ⟨?_, ht, h.Z.T30, ?_, ?_, ?_⟩, ?_, ?_, ?_⟩
  · intro f hf
    rw [a1]
    split
    · exact Or.inr (Or.inl rfl)
    · exact hM.st f hf
  · rw [a9]; exact hM.r0
  · rw [a10]; exact hM.o0
  · intro v hv
    rw [a9, a10]
    rcases hM.rt v hv with q | ⟨q1, r, r64, q2, q3, q4, q5⟩
    · exact Or.inl q
    · refine Or.inr ⟨q1, r, r64, q2, ?_, ?_, ?_⟩
      · rw [a1, if_neg (ne1 q3)]; exact q3
      · rw [a2, if_neg (ne1 q3)]; exact q4
      · rw [a4, if_neg (ne1 q3)]; exact q5
  · intro v h1 hv
    rw [a9, a10]
    intro q
    obtain ⟨o, o64, z1, z2, z3, z4⟩ := hM.ov v h1 hv q
    refine ⟨o, o64, z1, ?_, ?_, ?_⟩
    · rw [a1, if_neg (ne1 z2)]; exact z2
    · rw [a2, if_neg (ne1 z2)]; exact z3
    · rw [a4, if_neg (ne1 z2)]; exact z4
  · rw [a10]; exact hM.oi
  · obtain ⟨ρ, hρ⟩ := hM.vr
    refine ⟨ρ, fun v o k u h1 h2 h3 h4 h5 => ?_⟩
    rw [a10] at h4
    rw [a4, if_neg (ne1 (hM.ok h2 h3 h4).2.2.1)] at h5
    exact hρ v o k u h1 h2 h3 h4 h5
  · intro f hf q1 q2
    rw [a9]
    rw [a1] at q1
    rw [a2] at q2
    by_cases z : f = e
    · rw [if_pos z] at q2
      exact absurd q2 (nI_m1 (by omega))
    · rw [if_neg z] at q1 q2
      exact hM.ro f hf q1 q2
  · intro f hf q1 q2
    rw [a1] at q1
    rw [a2] at q2
    rw [a2, a3, a4]
    by_cases z : f = e
    · refine ⟨p, p64, by rw [if_pos z], by rw [a1, if_neg hpe]; exact hp, by rw [a4, if_neg hpe]; assumption, ?_⟩
      rw [if_pos z, if_pos z, a4, if_neg hpe]
    · rw [if_neg z] at q1 q2 ⊢
      obtain ⟨p', z1, z2, z3, z4, z5⟩ := hM.ch f hf q1 q2
      refine ⟨p', z1, z2, by rw [a1, if_neg (ne1 z3)]; exact z3, by rw [a4, if_neg (ne1 z3)]; exact z4, ?_⟩
      rw [if_neg z, if_neg z, a4, if_neg (ne1 z3)]
      exact z5
  · intro f hf q1
    rw [a1] at q1
    rw [a2, a4]
    by_cases z : f = e
    · rw [if_pos z] at q1
      exact absurd q1 i12
    · rw [if_neg z] at q1 ⊢
      rw [if_neg z]
      exact hM.go f hf q1
  · intro f g hf hg q1 q2 q3 q4 q5
    rw [a1] at q1 q2
    rw [a2] at q3
    rw [a2, a2] at q4
    rw [a3, a3] at q5
    by_cases z : f = e
    · by_cases z' : g = e
      · rw [z, z']
      · rw [if_pos z, if_neg z'] at q4 q5
        rw [if_neg z'] at q2
        exact absurd q5.symm (fd_none hn g hg (by rw [q2]; exact i10) q4.symm)
    · by_cases z' : g = e
      · rw [if_neg z, if_pos z'] at q4 q5
        rw [if_neg z] at q1
        exact absurd q5 (fd_none hn f hf (by rw [q1]; exact i10) q4)
      · rw [if_neg z] at q1 q3
        rw [if_neg z'] at q2
        rw [if_neg z, if_neg z'] at q4 q5
        exact hM.sb f g hf hg q1 q2 q3 q4 q5
  · have key : ∀ g, g < 64 → ¬ V 1 g = 0 → ¬ q_X2_find U (V 4 p) nm = -1 → ¬ V 4 g = q_X2_find U (V 4 p) nm := by
      intro g hg q1 q2 q3
      rcases hN.fd (V 4 p) nm with ⟨z, _⟩ | ⟨k, k1, k2, k3, k4, k5⟩
      · exact q2 z
      · rw [k2] at q3
        rcases hM.st g hg with z | z | z
        · exact q1 z
        · by_cases w : V 2 g = -1
          · obtain ⟨v, r, _, _, _, r1, r2, _, _, r5, _⟩ := hM.rn hN hg z w
            have : r = k := (nI_eq (by omega) (by omega)).mp (r2.symm.trans q3)
            rw [this, k4, kp2] at r5
            exact absurd r5 (nI_m1 (by omega))
          · obtain ⟨p', p1, p2, p3, p4, p5⟩ := hM.ch g hg z w
            rcases hN.fd (V 4 p') (V 3 g) with ⟨y, _⟩ | ⟨j, j1, j2, j3, j4, j5⟩
            · rw [p5, y] at q3
              exact absurd q3.symm (nI_m1 (by omega))
            · rw [p5, j2] at q3
              have : j = k := (nI_eq (by omega) (by omega)).mp q3
              subst this
              have pp : p' = p := hM.nd p' p p1 p64 (by rw [p3]; exact i10) (by rw [hp]; exact i10) (by
                obtain ⟨kk, kk1, kk2, _⟩ := hN.fo p4
                rw [kk2]; exact nI_m1 (by omega)) (j4.symm.trans k4)
              subst pp
              exact fd_none hn g hg q1 p2 (j5.symm.trans k5)
        · obtain ⟨_, j, j1, j2, j3⟩ := hM.go g hg z
          have : j = k := (nI_eq (by omega) (by omega)).mp (j2.symm.trans q3)
          rw [this] at j3
          exact k3 j3
    intro f g hf hg q1 q2 q3 q4
    rw [a1] at q1 q2
    rw [a4] at q3
    rw [a4, a4] at q4
    by_cases z : f = e
    · by_cases z' : g = e
      · rw [z, z']
      · rw [if_pos z] at q3
        rw [if_pos z, if_neg z'] at q4
        rw [if_neg z'] at q2
        exact absurd q4.symm (key g hg q2 q3)
    · by_cases z' : g = e
      · rw [if_neg z] at q3
        rw [if_neg z, if_pos z'] at q4
        rw [if_neg z] at q1
        exact absurd q4 (key f hf q1 (by rw [← q4]; exact q3))
      · rw [if_neg z] at q1 q3
        rw [if_neg z'] at q2
        rw [if_neg z, if_neg z'] at q4
        exact hM.nd f g hf hg q1 q2 q3 q4
  · rw [at', h.Z.tk, nI_1]
  · intro f hf q1
    rw [a1] at q1
    rw [a8]
    by_cases z : f = e
    · rw [if_pos z]
      exact ⟨t, h.Z.tk, by omega⟩
    · rw [if_neg z] at q1 ⊢
      obtain ⟨b, b1, b2⟩ := h.Z.bi f hf q1
      exact ⟨b, b1, by omega⟩
  · intro f hf q1
    rw [a1] at q1
    rw [a6]
    by_cases z : f = e
    · rw [if_pos z]
      exact ⟨0, rfl, by omega⟩
    · rw [if_neg z] at q1 ⊢
      exact h.Z.co f hf q1
  · exact ⟨by rw [al]; exact h.Z.li, h.Z.tri.one a14 e64 (fun k q => by rw [a1, if_neg q])⟩
  · have hcc : ∀ f, f < 64 → hc V' H W f = hc V H W f + if f = p then 1 else 0 := by
      intro f hf
      have c1 := cnt_one (P := fun k => decide (¬ V 1 k = 0 ∧ V 2 k = nI f)) (P' := fun k => decide (¬ V' 1 k = 0 ∧ V' 2 k = nI f)) (e := e) (n := 64) (k := 0) (Nat.zero_le _) (by omega) (fun i _ _ q => by
        rw [a1, a2, if_neg q, if_neg q])
      rw [a1, a2, if_pos rfl, if_pos rfl, e0] at c1
      have c2 : (if decide (¬ (0 : Int32) = 0 ∧ V 2 e = nI f) = true then 1 else 0) = 0 := by simp
      have c3 : (if decide (¬ (1 : Int32) = 0 ∧ nI p = nI f) = true then 1 else 0) = if f = p then 1 else 0 := b_if p64 hf
      rw [c2, c3, Nat.add_zero] at c1
      unfold hc
      have c4 : hcC V' f = hcC V f + if f = p then 1 else 0 := by
        unfold hcC
        exact c1
      rw [c4, show hcV V' f = hcV V f by unfold hcV; rw [a10]]
      omega
    intro f hf
    have hL := h.L f hf
    rw [a1, a5, hcc f hf]
    by_cases z : f = e
    · subst z
      have x0 := hL.1 e0
      rw [if_pos rfl, if_pos rfl, h.un hf e0, x0, if_neg (Ne.symm hpe)]
      exact ⟨fun q => absurd q i10, by omega, fun _ => ⟨rfl, fun q => absurd q i12⟩⟩
    · rw [if_neg z, if_neg z]
      refine ⟨hL.1, hL.2.1, fun q => ?_⟩
      have hL2 := hL.2.2 q
      by_cases zp : f = p
      · rw [if_pos zp, if_pos zp, ← zp, hL2.1, nI_1]
        refine ⟨by congr 1; omega, fun q => by omega⟩
      · rw [if_neg zp, if_neg zp]
        exact ⟨by rw [hL2.1, Nat.add_zero], fun q => by have := hL2.2 q; omega⟩
  · intro k hk
    rcases h.H k hk with z | ⟨f, f64, z1, z2, z3⟩
    · exact Or.inl z
    · refine Or.inr ⟨f, f64, z1, ?_, ?_⟩
      · rw [a1, if_neg (ne0 z2)]; exact z2
      · rw [a4, if_neg (ne0 z2)]; exact z3
  · intro k hk q
    obtain ⟨m, d, l, r, hr, hw⟩ := h.W k hk q
    refine ⟨m, d, l, r, hr, hw.m, hw.d, hw.l, hw.r, hw.m1, hw.md, hw.dl, hw.l12, hw.r3, fun i hi => ?_⟩
    obtain ⟨f, f64, g1, ⟨b1, c1, g2, g3, g4, g5, g6⟩, g7⟩ := (hw.wy i hi).ex
    refine ⟨f, f64, g1, ⟨b1, c1, g2, by omega, g4, g5, ?_⟩, ?_⟩
    · intro q1 q2
      rw [a8] at q2
      by_cases z : f = e
      · rw [if_pos z, h.Z.tk, g2, nI_eq (by have := h.Z.T30; have := h.Z.tT; omega) (by have := h.Z.T30; have := h.Z.tT; omega)] at q2
        omega
      · rw [if_neg z] at q2
        rw [a1, if_neg z] at q1
        rw [a6, a1, a4, if_neg z, if_neg z, if_neg z]
        exact g6 q1 q2
    · intro q1
      have := g7 q1
      rw [a1, a4, if_neg (ne0 this.1), if_neg (ne0 this.1)]
      exact this

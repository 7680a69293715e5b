/-! A free entry goes. -/
theorem hc_z {V : MemV} {H : OneV} {W : WkV} {e : Nat} (h : hc V H W e = 0) : (∀ k, k < 64 → ¬ V 1 k = 0 → ¬ V 2 k = nI e) ∧ (∀ v, v < 3 → ¬ V 10 v = nI e) ∧ (∀ k, k < 6 → ¬ H 0 k = nI e) ∧ ∀ k, k < 4 → hcK (W k) e = 0 := by
  unfold hc at h
  refine ⟨fun k hk q1 q2 => ?_, fun v hv q => ?_, fun k hk q => ?_, fun k hk => ?_⟩
  · have := cnt_z (show hcC V e = 0 by omega) k (Nat.zero_le _) (by omega)
    simp [q1, q2] at this
  · have := cnt_z (show hcV V e = 0 by omega) v (Nat.zero_le _) (by omega)
    simp [q] at this
  · have := cnt_z (show hcH H e = 0 by omega) k (Nat.zero_le _) (by omega)
    simp [q] at this
  · exact sm_z (show hcW W e = 0 by omega) k (Nat.zero_le _) (by omega)
theorem Inv.drop {U : NodV} {V : MemV} {H : OneV} {W : WkV} {n vol t T : Nat} {x : Nat → Nat} (h : Inv U V H W n vol t T x) {e : Nat} (e64 : e < 64) (e1 : V 1 e = 1) (e2 : ¬ V 2 e = -1) (hz : hc V H W e = 0) (xz : x e = 0) : Inv U (gV_X1_drop V (nI e)) H W n vol t T x := by
  have hN := h.N
  have hM := h.M
  have n60 := hN.n60
  obtain ⟨p, p64, ep, p1, p2, p3⟩ := hM.ch e e64 e1 e2
  obtain ⟨z1, z2, z3, z4⟩ := hc_z hz
  have hpe : p ≠ e := fun q => by
    rw [q] at ep
    exact z1 e e64 (by rw [e1]; exact i10) ep
  have k : ∀ r : Fin 12, r ≠ 1 → r ≠ 5 → gV_X1_drop V (nI e) r = V r := dr_k V (nI e)
  have a1 := dr_1 V e64
  have a5 := dr_5 V e64 ep p64
  have a2 := k 2 (by decide) (by decide)
  have a3 := k 3 (by decide) (by decide)
  have a4 := k 4 (by decide) (by decide)
  have a6 := k 6 (by decide) (by decide)
  have a8 := k 8 (by decide) (by decide)
  have a9 := k 9 (by decide) (by decide)
  have a10 := k 10 (by decide) (by decide)
  have a0 := k 0 (by decide) (by decide)
  generalize gV_X1_drop V (nI e) = V' at a1 a2 a3 a4 a5 a6 a8 a9 a10 a0
  have back : ∀ {f : Nat} {y : Int32}, ¬ y = 0 → V' 1 f = y → f ≠ e ∧ V 1 f = y := fun {f y} q1 q2 => by
    rw [a1] at q2
    by_cases w : f = e
    · rw [if_pos w] at q2
      exact absurd q2.symm q1
    · rw [if_neg w] at q2
      exact ⟨w, q2⟩
  have back0 : ∀ {f : Nat}, ¬ V' 1 f = 0 → f ≠ e ∧ ¬ V 1 f = 0 := fun {f} q2 => by
    rw [a1] at q2
    by_cases w : f = e
    · rw [if_pos w] at q2
      exact absurd rfl q2
    · rw [if_neg w] at q2
      exact ⟨w, q2⟩
  refine ⟨hN, ⟨?_, ?_, ?_, ?_, ?_, ?_, ?_, ?_, ?_, ?_, ?_, ?_⟩, ⟨?_, h.Z.tT, h.Z.T30, ?_, ?_, ?_⟩, ?_, ?_, ?_⟩
  · intro f hf
    rw [a1]
    split
    · exact Or.inl rfl
    · exact hM.st f hf
  · rw [a9]; exact hM.r0
  · rw [a10]; exact hM.o0
  · intro v hv
    rw [a9, a10, a2, a4]
    rcases hM.rt v hv with q | ⟨q1, r, r64, q2, q3, q4, q5⟩
    · exact Or.inl q
    · refine Or.inr ⟨q1, r, r64, q2, ?_, q4, q5⟩
      rw [a1, if_neg (fun w => e2 (by rw [← w]; exact q4))]
      exact q3
  · intro v h1 hv
    rw [a9, a10, a2, a4]
    intro q
    obtain ⟨o, o64, w1, w2, w3, w4⟩ := hM.ov v h1 hv q
    refine ⟨o, o64, w1, ?_, w3, w4⟩
    rw [a1, if_neg (fun w => z2 v hv (by rw [← w]; exact w1))]
    exact w2
  · rw [a10]; exact hM.oi
  · rw [a10, a4]; exact hM.vr
  · intro f hf q1 q2
    rw [a9]
    rw [a2] at q2
    exact hM.ro f hf (back i10 q1).2 q2
  · intro f hf q1 q2
    rw [a2] at q2
    rw [a2, a3, a4]
    obtain ⟨w0, w1⟩ := back i10 q1
    obtain ⟨p', y1, y2, y3, y4, y5⟩ := hM.ch f hf w1 q2
    refine ⟨p', y1, y2, ?_, y4, y5⟩
    rw [a1, if_neg (fun w => z1 f hf (by rw [w1]; exact i10) (by rw [← w]; exact y2))]
    exact y3
  · intro f hf q1
    rw [a2, a4]
    exact hM.go f hf (back i20 q1).2
  · intro f g hf hg q1 q2
    rw [a2, a3]
    exact hM.sb f g hf hg (back i10 q1).2 (back i10 q2).2
  · intro f g hf hg q1 q2
    rw [a4]
    exact hM.nd f g hf hg (back0 q1).2 (back0 q2).2
  · rw [a0]; exact h.Z.tk
  · intro f hf q1
    rw [a8]
    exact h.Z.bi f hf (back0 q1).2
  · intro f hf q1
    rw [a6]
    exact h.Z.co f hf (back0 q1).2
  · exact ⟨by rw [a0]; exact h.Z.li, h.Z.tri.le (by rw [a0]) (fun k _ q => (back0 q).2) (Nat.le_refl _)⟩
  · have hcc : ∀ f, f < 64 → hc V' H W f + (if f = p then 1 else 0) = hc V H W f := by
      intro f hf
      have c1 := cnt_one (P := fun k => decide (¬ V 1 k = 0 ∧ V 2 k = nI f)) (P' := fun k => decide (¬ V' 1 k = 0 ∧ V' 2 k = nI f)) (e := e) (n := 64) (k := 0) (Nat.zero_le _) (by omega) (fun i _ _ q => by
        rw [a1, a2, if_neg q])
      rw [a1, if_pos rfl, e1, ep] at c1
      have c2 : (if decide (¬ (0 : Int32) = 0 ∧ V' 2 e = nI f) = true then 1 else 0) = 0 := by simp
      have c3 : (if decide (¬ (1 : Int32) = 0 ∧ nI p = nI f) = true then 1 else 0) = if f = p then 1 else 0 := b_if p64 hf
      rw [c2, c3, Nat.add_zero] at c1
      unfold hc
      rw [show hcV V' f = hcV V f by unfold hcV; rw [a10]]
      have c4 : hcC V' f + (if f = p then 1 else 0) = hcC V f := by
        unfold hcC
        exact c1
      omega
    intro f hf
    have hL := h.L f hf
    have hcf := hcc f hf
    by_cases z : f = e
    · subst z
      rw [a1, if_pos rfl]
      exact ⟨fun _ => xz, hL.2.1, fun q => absurd rfl q⟩
    · rw [a1, a5, if_neg z]
      refine ⟨hL.1, hL.2.1, fun q => ?_⟩
      have hL2 := hL.2.2 q
      by_cases zp : f = p
      · rw [if_pos zp] at hcf ⊢
        subst zp
        rw [hL2.1, ← hcf]
        refine ⟨?_, fun q => ?_⟩
        · rw [show hc V' H W f + 1 + x f = (hc V' H W f + x f) + 1 by omega, nI_pred]
        · rw [p1] at q
          exact absurd q i12
      · rw [if_neg zp] at hcf ⊢
        rw [show hc V' H W f = hc V H W f by omega]
        exact hL2
  · intro k hk
    rcases h.H k hk with z | ⟨f, f64, w1, w2, w3⟩
    · exact Or.inl z
    · refine Or.inr ⟨f, f64, w1, ?_, ?_⟩
      · rw [a1, if_neg (fun w => z3 k hk (by rw [← w]; exact w1))]; exact w2
      · rw [a4]; exact w3
  · intro k hk q
    obtain ⟨m, d, l, r, hr, hw⟩ := h.W k hk q
    have := hw.md
    have := hw.dl
    have := hw.l12
    refine ⟨m, d, l, r, hr, hw.m, hw.d, hw.l, hw.r, hw.m1, hw.md, hw.dl, hw.l12, hw.r3, fun i hi => ?_⟩
    obtain ⟨f, f64, g1, ⟨b1, c1, g2, g3, g4, g5, g6⟩, g7⟩ := (hw.wy i hi).ex
    refine ⟨f, f64, g1, ⟨b1, c1, g2, g3, g4, g5, ?_⟩, ?_⟩
    · intro q1 q2
      rw [a8] at q2
      obtain ⟨y1, y2⟩ := back0 q1
      rw [a6, a1, a4, if_neg y1]
      exact g6 y2 q2
    · intro q1
      have y := g7 q1
      have yne : f ≠ e := fun w => hcK_z hw.m (by omega) q q1 (z4 k hk) i hi (by rw [← w]; exact g1)
      rw [a1, a4, if_neg yne]
      exact y

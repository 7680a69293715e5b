/-! A walker that quits, on both sides. -/
theorem Inv.stop {U : NodV} {V : MemV} {H : OneV} {W W' : WkV} {n vol t T : Nat} (i : Inv U V H W n vol t T (fun _ => 0)) {k : Nat} (hk : k < 4) (uw : ¬ bz ((W k).1 0 5) = 0) (w1 : ∀ j, j ≠ k → W' j = W j) (w0 : bz ((W' k).1 0 5) = 0) : Inv U (gV_X7_letGo (W k).1 (W k).2.2 V) H W' n vol t T (fun _ => 0) ∧ (∀ f, f < 64 → gV_X7_letGo (W k).1 (W k).2.2 V 1 f = if V 1 f = 2 ∧ hc V H W' f = 0 then 0 else V 1 f) ∧ ∀ q : Fin 12, q ≠ 1 → q ≠ 5 → gV_X7_letGo (W k).1 (W k).2.2 V q = V q := by
  have i1 := i.wsub hk w1 w0
  show Inv U (lp_X7_letGo_2 (W k).1 (W k).2.2 25 0 V) H W' n vol t T (fun _ => 0) ∧ (∀ f, f < 64 → lp_X7_letGo_2 (W k).1 (W k).2.2 25 0 V 1 f = if V 1 f = 2 ∧ hc V H W' f = 0 then 0 else V 1 f) ∧ ∀ q : Fin 12, q ≠ 1 → q ≠ 5 → lp_X7_letGo_2 (W k).1 (W k).2.2 25 0 V q = V q
  by_cases hv : bz ((W k).1 0 6) = 0
  · have i0 : Inv U V H W' n vol t T (fun _ => 0) := i1.xcg (fun f _ => by
      show 0 = hcK (W k) f
      unfold hcK
      rw [if_pos (Or.inr hv)])
    have e : lp_X7_letGo_2 (W k).1 (W k).2.2 25 0 V = V := if_pos hv
    rw [e]
    refine ⟨i0, fun f hf => ?_, fun _ _ _ => rfl⟩
    rw [if_neg]
    rintro ⟨y1, y2⟩
    have := ((i0.L f hf).2.2 (by rw [y1]; exact i20)).2 y1
    simp only [Nat.add_zero] at this
    omega
  · obtain ⟨m, d, l, r, hr, hw⟩ := i.W k hk uw
    have q1 := hw.md
    have q2 := hw.dl
    have q3 := hw.l12
    refine letGo_loop hv hw.m (by omega) (fun j hj => ?_) 25 0 V (by omega) (by omega) (i1.xcg (fun f _ => ?_))
    · obtain ⟨e, e64, g1, _⟩ := (hw.wy j hj).ex
      exact ⟨e, e64, g1⟩
    · show cnt (fun j => decide ((W k).2.2 0 j = nI f)) 0 (m - 0) = hcK (W k) f
      unfold hcK
      rw [if_neg (fun z => z.elim uw hv), hw.m, ix_nI (by omega)]
      rfl
theorem Rel.wsub {U : NodV} {V : MemV} {H : OneV} {W W' : WkV} {D : RowV} {n : Nat} (r : Rel none U V H W D n) (n60 : n ≤ 60) {k : Nat} (hk : k < 4) (w1 : ∀ j, j ≠ k → W' j = W j) (w0 : bz ((W' k).1 0 5) = 0) : Rel none U V H W' (sD D (17 + 96 * k + 0) 0) n := by
  have o : ∀ j, j ≠ 17 + 96 * k + 0 → sD D (17 + 96 * k + 0) 0 j = D j := fun j q => sD_n _ _ q
  have b := r.B
  refine ⟨⟨?_, ?_, ?_, ?_, ?_, ?_, ?_, ?_, ?_, ?_, ?_⟩, ?_, ?_, fun k z => by cases z⟩
  · rw [o _ (by omega)]; exact b.tk
  · rw [o _ (by omega)]; exact b.lo
  · rw [o _ (by omega)]; exact b.tr
  · rw [o _ (by omega)]; exact b.rm
  · rw [o _ (by omega)]; exact b.ev
  · intro v hv
    rw [o _ (by omega)]; exact b.rt v hv
  · intro v hv
    rw [o _ (by omega)]; exact b.ov v hv
  · intro j hj
    rw [o _ (by omega)]; exact b.ha j hj
  · intro j hj
    rw [o _ (by omega), o _ (by omega), o _ (by omega), o _ (by omega), o _ (by omega)]; exact b.nd j hj
  · intro f hf
    rw [o _ (by omega)]; exact b.th f hf
  · intro f hf q
    rw [o _ (by omega), o _ (by omega), o _ (by omega), o _ (by omega), o _ (by omega), o _ (by omega), o _ (by omega), o _ (by omega)]; exact b.en f hf q
  · intro j hj
    by_cases z : j = k
    · subst z
      exact ⟨by rw [sD_s, w0], fun q => absurd w0 q, fun q => absurd w0 q, fun q => absurd w0 q⟩
    · rw [w1 j z]
      obtain ⟨c1, c2, c3, c4⟩ := r.K j hj
      refine ⟨by rw [o _ (by omega)]; exact c1, fun q => ?_, fun q i hi h2 => ?_, fun q i hi h2 => ?_⟩
      · rw [o _ (by omega), o _ (by omega), o _ (by omega), o _ (by omega)]; exact c2 q
      · rw [o _ (by omega)]; exact c3 q i hi h2
      · rw [o _ (by omega), o _ (by omega), o _ (by omega)]; exact c4 q i hi h2
  · intro j hj q q2
    have z : j ≠ k := fun z => q (by rw [z]; exact w0)
    rw [w1 j z] at q ⊢
    rw [o _ (by omega)]
    exact r.2.2.1 j hj q q2

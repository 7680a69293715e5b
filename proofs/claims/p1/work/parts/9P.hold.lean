/-! Holding and letting go. -/
def dlx (x : Nat → Nat) (e : Nat) : Nat → Nat := fun f => x f + if f = e then 1 else 0
theorem Inv.h5 {U : NodV} {V V' : MemV} {H H' : OneV} {W W' : WkV} {n vol t T : Nat} {x x' : Nat → Nat} (i : Inv U V H W n vol t T x) (k : ∀ r : Fin 12, r ≠ 0 → r ≠ 5 → V' r = V r) (k0 : V' 0 11 = V 0 11 ∧ V' 0 12 = V 0 12 ∧ V' 0 14 = V 0 14) (hL : HelI V' H' W' x') (hH : HanI V H') (hW : WalI V W' t T) : Inv U V' H' W' n vol t T x' := by
  refine ⟨i.N, ?_, ?_, hL, ?_, ?_⟩
  · have := i.M
    unfold MemI at this ⊢
    rw [k 1 (by decide) (by decide), k 2 (by decide) (by decide), k 3 (by decide) (by decide), k 4 (by decide) (by decide), k 9 (by decide) (by decide), k 10 (by decide) (by decide)]
    exact this
  · obtain ⟨z1, z2, z3, z4, z5, z6, z7⟩ := i.Z
    exact ⟨by rw [k0.2.1]; exact z1, z2, z3, by rw [k 1 (by decide) (by decide), k 8 (by decide) (by decide)]; exact z4, by rw [k 1 (by decide) (by decide), k 6 (by decide) (by decide)]; exact z5, by rw [k0.1]; exact z6, z7.le k0.2.2 (fun j _ q => by rw [k 1 (by decide) (by decide)] at q; exact q) (Nat.le_refl _)⟩
  · unfold HanI at hH ⊢
    rw [k 1 (by decide) (by decide), k 4 (by decide) (by decide)]
    exact hH
  · intro j hj q
    obtain ⟨m, d, l, r, hr, hw⟩ := hW j hj q
    exact ⟨m, d, l, r, hr, hw.fr (k 1 (by decide) (by decide)) (k 4 (by decide) (by decide)) (k 6 (by decide) (by decide)) (k 8 (by decide) (by decide)) (Nat.le_refl _) (Nat.le_refl _)⟩
theorem Inv.hold {U : NodV} {V : MemV} {H : OneV} {W : WkV} {n vol t T : Nat} {x : Nat → Nat} (i : Inv U V H W n vol t T x) {e : Nat} (he : e < 64) (h1 : ¬ V 1 e = 0) (xb : x e < 100) : Inv U (gV_X1_hold V (nI e)) H W n vol t T (dlx x e) := by
  have k := ho_k V (nI e)
  refine i.h5 (fun r _ h => k r h) ⟨by rw [k 0 (by decide)], by rw [k 0 (by decide)], by rw [k 0 (by decide)]⟩ ?_ i.H i.W
  intro f hf
  have hL := i.L f hf
  rw [k 1 (by decide), ho_5 V he, hc_fr (k 1 (by decide)) (k 2 (by decide)) (k 10 (by decide))]
  unfold dlx
  by_cases z : f = e
  · subst z
    rw [if_pos rfl, if_pos rfl]
    refine ⟨fun q => absurd q h1, by omega, fun q => ⟨?_, fun _ => by omega⟩⟩
    rw [(hL.2.2 h1).1, nI_1, Nat.add_assoc]
  · rw [if_neg z, if_neg z, Nat.add_zero]
    exact hL
/-- a gone entry that nobody holds vanishes -/
theorem Inv.vanish {U : NodV} {V V' : MemV} {H : OneV} {W : WkV} {n vol t T : Nat} {x : Nat → Nat} (h : Inv U V H W n vol t T x) {e : Nat} (e64 : e < 64) (e1 : V 1 e = 2) (hz : hc V H W e = 0) {y : Nat → Nat} (hx : ∀ f, y f = if f = e then 0 else x f) (a1 : ∀ j, V' 1 j = if j = e then 0 else V 1 j) (a5 : ∀ j, j ≠ e → V' 5 j = V 5 j) (k : ∀ r : Fin 12, r ≠ 1 → r ≠ 5 → V' r = V r) : Inv U V' H W n vol t T y := by
  have hN := h.N
  have hM := h.M
  obtain ⟨e2, _⟩ := hM.go e e64 e1
  obtain ⟨z1, z2, z3, z4⟩ := hc_z hz
  have a2 := k 2 (by decide) (by decide)
  have a3 := k 3 (by decide) (by decide)
  have a4 := k 4 (by decide) (by decide)
  have a6 := k 6 (by decide) (by decide)
  have a8 := k 8 (by decide) (by decide)
  have a9 := k 9 (by decide) (by decide)
  have a10 := k 10 (by decide) (by decide)
  have a0 := k 0 (by decide) (by decide)
  have back : ∀ {f : Nat} {y : Int32}, ¬ y = 0 → V' 1 f = y → f ≠ e ∧ V 1 f = y := fun {f y} q1 q2 => by
    rw [a1] at q2
    by_cases w : f = e
    · rw [if_pos w] at q2
      exact absurd q2.symm q1
    · rw [if_neg w] at q2
      exact ⟨w, q2⟩
  have back0 : ∀ {f : Nat}, ¬ V' 1 f = 0 → f ≠ e ∧ ¬ V 1 f = 0 := fun {f} q2 => by
    rw [a1] at q2
    by_cases w : f = e
    · rw [if_pos w] at q2
      exact absurd rfl q2
    · rw [if_neg w] at q2
      exact ⟨w, q2⟩
  have n1 : ∀ {f}, V 1 f = 1 → f ≠ e := fun q1 q2 => by rw [q2, e1] at q1; exact absurd q1 (by decide)
  refine ⟨hN, ⟨?_, ?_, ?_, ?_, ?_, ?_, ?_, ?_, ?_, ?_, ?_, ?_⟩, ⟨?_, h.Z.tT, h.Z.T30, ?_, ?_, ?_⟩, ?_, ?_, ?_⟩
  · intro f hf
    rw [a1]
    split
    · exact Or.inl rfl
    · exact hM.st f hf
  · rw [a9]; exact hM.r0
  · rw [a10]; exact hM.o0
  · intro v hv
    rw [a9, a10, a2, a4]
    rcases hM.rt v hv with q | ⟨q1, r, r64, q2, q3, q4, q5⟩
    · exact Or.inl q
    · refine Or.inr ⟨q1, r, r64, q2, ?_, q4, q5⟩
      rw [a1, if_neg (n1 q3)]
      exact q3
  · intro v h1 hv
    rw [a9, a10, a2, a4]
    intro q
    obtain ⟨o, o64, w1, w2, w3, w4⟩ := hM.ov v h1 hv q
    refine ⟨o, o64, w1, ?_, w3, w4⟩
    rw [a1, if_neg (n1 w2)]
    exact w2
  · rw [a10]; exact hM.oi
  · rw [a10, a4]; exact hM.vr
  · intro f hf q1 q2
    rw [a9]
    rw [a2] at q2
    exact hM.ro f hf (back i10 q1).2 q2
  · intro f hf q1 q2
    rw [a2] at q2
    rw [a2, a3, a4]
    obtain ⟨w0, w1⟩ := back i10 q1
    obtain ⟨p', y1, y2, y3, y4, y5⟩ := hM.ch f hf w1 q2
    refine ⟨p', y1, y2, ?_, y4, y5⟩
    rw [a1, if_neg (n1 y3)]
    exact y3
  · intro f hf q1
    rw [a2, a4]
    exact hM.go f hf (back i20 q1).2
  · intro f g hf hg q1 q2
    rw [a2, a3]
    exact hM.sb f g hf hg (back i10 q1).2 (back i10 q2).2
  · intro f g hf hg q1 q2
    rw [a4]
    exact hM.nd f g hf hg (back0 q1).2 (back0 q2).2
  · rw [a0]; exact h.Z.tk
  · intro f hf q1
    rw [a8]
    exact h.Z.bi f hf (back0 q1).2
  · intro f hf q1
    rw [a6]
    exact h.Z.co f hf (back0 q1).2
  · exact ⟨by rw [a0]; exact h.Z.li, h.Z.tri.le (by rw [a0]) (fun k _ q => (back0 q).2) (Nat.le_refl _)⟩
  · have hcc : ∀ f, f < 64 → hc V' H W f = hc V H W f := by
      intro f hf
      have c1 : hcC V' f = hcC V f := cnt_cong (fun j _ _ => by
        rw [a1, a2]
        by_cases w : j = e
        · have : ¬ V 2 e = nI f := by rw [e2]; exact fun z => nI_m1 (show f < 2 ^ 31 by omega) z.symm
          rw [w]
          simp [this]
        · rw [if_neg w])
      unfold hc
      rw [c1, show hcV V' f = hcV V f by unfold hcV; rw [a10]]
    intro f hf
    have hL := h.L f hf
    rw [hcc f hf, hx]
    by_cases z : f = e
    · subst z
      rw [a1, if_pos rfl, if_pos rfl]
      exact ⟨fun _ => rfl, by omega, fun q => absurd rfl q⟩
    · rw [a1, a5 f z, if_neg z, if_neg z]
      exact hL
  · intro j hj
    rcases h.H j hj with z | ⟨f, f64, w1, w2, w3⟩
    · exact Or.inl z
    · refine Or.inr ⟨f, f64, w1, ?_, ?_⟩
      · rw [a1, if_neg (fun w => z3 j hj (by rw [← w]; exact w1))]; exact w2
      · rw [a4]; exact w3
  · intro j hj q
    obtain ⟨m, d, l, r, hr, hw⟩ := h.W j hj q
    have := hw.md
    have := hw.dl
    have := hw.l12
    refine ⟨m, d, l, r, hr, hw.m, hw.d, hw.l, hw.r, hw.m1, hw.md, hw.dl, hw.l12, hw.r3, fun b hb => ?_⟩
    obtain ⟨f, f64, g1, ⟨b1, c1, g2, g3, g4, g5, g6⟩, g7⟩ := (hw.wy b hb).ex
    refine ⟨f, f64, g1, ⟨b1, c1, g2, g3, g4, g5, ?_⟩, ?_⟩
    · intro q1 q2
      rw [a8] at q2
      obtain ⟨y1, y2⟩ := back0 q1
      rw [a6, a1, a4, if_neg y1]
      exact g6 y2 q2
    · intro q1
      have y := g7 q1
      have yne : f ≠ e := fun w => hcK_z hw.m (by omega) q q1 (z4 j hj) b hb (by rw [← w]; exact g1)
      rw [a1, a4, if_neg yne]
      exact y
theorem Inv.release {U : NodV} {V : MemV} {H : OneV} {W : WkV} {n vol t T : Nat} {x : Nat → Nat} {e : Nat} (i : Inv U V H W n vol t T (dlx x e)) (he : e < 64) (h1 : ¬ V 1 e = 0) : Inv U (gV_X1_release V (nI e)) H W n vol t T x ∧ ∀ f, gV_X1_release V (nI e) 1 f = if f = e ∧ V 1 e = 2 ∧ hc V H W e + x e = 0 then 0 else V 1 f := by
  have k := re_k V (nI e)
  have hl := i.hle e
  have hLe := i.L e he
  have xe : dlx x e e = x e + 1 := by unfold dlx; rw [if_pos rfl]
  have v5 : V 5 e - 1 = nI (hc V H W e + x e) := by
    rw [(hLe.2.2 h1).1, xe, show hc V H W e + (x e + 1) = (hc V H W e + x e) + 1 by omega, nI_pred]
  have xb : x e ≤ 100 := by have := hLe.2.1; rw [xe] at this; omega
  have p0 : (0 : Int32) < V 5 e - 1 ↔ 0 < hc V H W e + x e := by
    rw [v5]
    constructor
    · intro z
      rcases Nat.eq_zero_or_pos (hc V H W e + x e) with y | y
      · rw [y] at z; exact absurd z (by decide)
      · exact y
    · intro z
      rw [← nI_0]
      exact nI_lt z (by omega)
  have r1 : ∀ f, gV_X1_release V (nI e) 1 f = if f = e ∧ V 1 e = 2 ∧ hc V H W e + x e = 0 then 0 else V 1 f := fun f => by
    rw [re_1 V he]
    by_cases z : f = e ∧ V 1 e = 2 ∧ ¬ (0 : Int32) < V 5 e - 1
    · rw [if_pos z, if_pos ⟨z.1, z.2.1, by have := z.2.2; rw [p0] at this; omega⟩]
    · rw [if_neg z, if_neg (fun w => z ⟨w.1, w.2.1, by rw [p0]; omega⟩)]
  refine ⟨?_, r1⟩
  by_cases c : V 1 e = 2 ∧ hc V H W e + x e = 0
  · refine i.vanish he c.1 (by omega) (fun f => ?_) (fun j => ?_) (fun j hj => ?_) (fun r a b => k r a b)
    · unfold dlx
      by_cases z : f = e
      · rw [if_pos z, z]; omega
      · rw [if_neg z, if_neg z]; rfl
    · rw [r1]
      by_cases z : j = e
      · rw [if_pos ⟨z, c.1, c.2⟩, if_pos z]
      · rw [if_neg (fun w => z w.1), if_neg z]
    · rw [re_5 V he, if_neg hj]
  · have k1 : gV_X1_release V (nI e) 1 = V 1 := by
      funext f
      rw [r1, if_neg (fun w => c ⟨w.2.1, w.2.2⟩)]
    refine i.h5 (fun r a b => ?_) ⟨by rw [k 0 (by decide) (by decide)], by rw [k 0 (by decide) (by decide)], by rw [k 0 (by decide) (by decide)]⟩ ?_ i.H i.W
    · by_cases z : r = 1
      · subst z; exact k1
      · exact k r z b
    · intro f hf
      have hL := i.L f hf
      rw [k1, re_5 V he, hc_fr k1 (k 2 (by decide) (by decide)) (k 10 (by decide) (by decide))]
      by_cases z : f = e
      · subst z
        rw [if_pos rfl, v5]
        refine ⟨fun q => absurd q h1, xb, fun q => ⟨rfl, fun w => ?_⟩⟩
        have : ¬ hc V H W f + x f = 0 := fun y => c ⟨w, y⟩
        omega
      · have dz : dlx x e f = x f := by unfold dlx; rw [if_neg z]; rfl
        rw [if_neg z]
        rw [dz] at hL
        exact hL
theorem Inv.hadd {U : NodV} {V : MemV} {H : OneV} {W : WkV} {n vol t T : Nat} {x : Nat → Nat} {e : Nat} (i : Inv U V H W n vol t T (dlx x e)) (he : e < 64) (h1 : ¬ V 1 e = 0) (h4 : ¬ V 4 e = -1) {k : Nat} (hk : k < 6) (hH : H 0 k = -1) (x0 : V 1 e = 0 → x e = 0) : Inv U V (uv H 0 k (nI e)) W n vol t T x := by
  have hh : ∀ j, uv H 0 k (nI e) 0 j = if j = k then nI e else H 0 j := fun j => uv_at H 0 k (nI e) j
  have hcc : ∀ f, f < 64 → hc V (uv H 0 k (nI e)) W f = hc V H W f + if f = e then 1 else 0 := by
    intro f hf
    have c1 := cnt_one (P := fun j => decide (H 0 j = nI f)) (P' := fun j => decide (uv H 0 k (nI e) 0 j = nI f)) (e := k) (n := 6) (k := 0) (Nat.zero_le _) (by omega) (fun j _ _ q => by rw [hh, if_neg q])
    rw [hh, if_pos rfl, hH] at c1
    have c2 : (if decide ((-1 : Int32) = nI f) = true then 1 else 0) = 0 := by
      rw [if_neg (by simp only [decide_eq_true_eq]; exact fun z => nI_m1 (show f < 2 ^ 31 by omega) z.symm)]
    have c3 : (if decide (nI e = nI f) = true then 1 else 0) = if f = e then 1 else 0 := by
      by_cases q : f = e
      · subst q; simp
      · have : ¬ nI e = nI f := fun z => q ((nI_eq (by omega) (by omega)).mp z).symm
        simp [q, this]
    rw [c2, c3, Nat.add_zero] at c1
    have c4 : hcH (uv H 0 k (nI e)) f = hcH H f + if f = e then 1 else 0 := by
      unfold hcH
      exact c1
    unfold hc
    rw [c4]
    omega
  refine i.h5 (fun _ _ _ => rfl) ⟨rfl, rfl, rfl⟩ ?_ ?_ i.W
  · intro f hf
    have hL := i.L f hf
    rw [hcc f hf]
    have dz : dlx x e f = x f + if f = e then 1 else 0 := rfl
    rw [dz] at hL
    refine ⟨fun q => ?_, by omega, fun q => ?_⟩
    · have := hL.1 q
      omega
    · have := hL.2.2 q
      rw [show hc V H W f + (if f = e then 1 else 0) + x f = hc V H W f + (x f + if f = e then 1 else 0) by omega]
      exact this
  · intro j hj
    rw [hh]
    by_cases z : j = k
    · rw [if_pos z]
      exact Or.inr ⟨e, he, rfl, h1, h4⟩
    · rw [if_neg z]
      exact i.H j hj
theorem Inv.hsub {U : NodV} {V : MemV} {H : OneV} {W : WkV} {n vol t T : Nat} {x : Nat → Nat} {e : Nat} (i : Inv U V H W n vol t T x) (he : e < 64) (h1 : ¬ V 1 e = 0) {k : Nat} (hk : k < 6) (hH : H 0 k = nI e) (xb : x e < 100) : Inv U V (uv H 0 k (-1)) W n vol t T (dlx x e) := by
  have hh : ∀ j, uv H 0 k (-1) 0 j = if j = k then -1 else H 0 j := fun j => uv_at H 0 k (-1) j
  have hcc : ∀ f, f < 64 → hc V (uv H 0 k (-1)) W f + (if f = e then 1 else 0) = hc V H W f := by
    intro f hf
    have c1 := cnt_one (P := fun j => decide (H 0 j = nI f)) (P' := fun j => decide (uv H 0 k (-1) 0 j = nI f)) (e := k) (n := 6) (k := 0) (Nat.zero_le _) (by omega) (fun j _ _ q => by rw [hh, if_neg q])
    rw [hh, if_pos rfl, hH] at c1
    have c2 : (if decide ((-1 : Int32) = nI f) = true then 1 else 0) = 0 := by
      rw [if_neg (by simp only [decide_eq_true_eq]; exact fun z => nI_m1 (show f < 2 ^ 31 by omega) z.symm)]
    have c3 : (if decide (nI e = nI f) = true then 1 else 0) = if f = e then 1 else 0 := by
      by_cases q : f = e
      · subst q; simp
      · have : ¬ nI e = nI f := fun z => q ((nI_eq (by omega) (by omega)).mp z).symm
        simp [q, this]
    rw [c2, c3, Nat.add_zero] at c1
    have c4 : hcH (uv H 0 k (-1)) f + (if f = e then 1 else 0) = hcH H f := by
      unfold hcH
      exact c1
    unfold hc
    omega
  refine i.h5 (fun _ _ _ => rfl) ⟨rfl, rfl, rfl⟩ ?_ ?_ i.W
  · intro f hf
    have hL := i.L f hf
    have hcf := hcc f hf
    have dz : dlx x e f = x f + if f = e then 1 else 0 := rfl
    rw [dz]
    refine ⟨fun q => ?_, ?_, fun q => ?_⟩
    · have := hL.1 q
      rw [if_neg (fun z => h1 (by rw [← z]; exact q))]
      omega
    · by_cases z : f = e
      · rw [if_pos z, z]; omega
      · rw [if_neg z]; exact hL.2.1
    · have := hL.2.2 q
      rw [show hc V (uv H 0 k (-1)) W f + (x f + if f = e then 1 else 0) = hc V H W f + x f by omega]
      exact this
  · intro j hj
    rw [hh]
    by_cases z : j = k
    · rw [if_pos z]
      exact Or.inl rfl
    · rw [if_neg z]
      exact i.H j hj
theorem CntI.sub {V V' : MemV} (C : CntI V) (h1 : ∀ f, f < 64 → ¬ V' 1 f = 0 → ¬ V 1 f = 0) (h9 : V' 9 = V 9) : CntI V' := by
  unfold CntI at C ⊢
  rw [h9]
  refine Nat.le_trans (cnt_mono (fun k _ hk q => ?_)) C
  simp only [decide_eq_true_eq] at q ⊢
  exact h1 k (by omega) q

/-! A walker that stops lets go: what holds stays. -/
theorem Inv.wsub {U : NodV} {V : MemV} {H : OneV} {W W' : WkV} {n vol t T : Nat} (i : Inv U V H W n vol t T (fun _ => 0)) {k : Nat} (hk : k < 4) (w1 : ∀ j, j ≠ k → W' j = W j) (w0 : bz ((W' k).1 0 5) = 0) : Inv U V H W' n vol t T (fun f => hcK (W k) f) := by
  have hz : ∀ f, hcK (W' k) f = 0 := fun f => by
    unfold hcK
    rw [if_pos (Or.inl w0)]
  have hh : ∀ f, hc V H W' f + hcK (W k) f = hc V H W f := fun f => by
    have s := sm_one (a := fun j => hcK (W j) f) (a' := fun j => hcK (W' j) f) (e := k) (n := 4) (k := 0) (Nat.zero_le _) (by omega) (fun j _ _ z => by
      show hcK (W' j) f = hcK (W j) f
      rw [w1 j z])
    have s' : hcW W' f + hcK (W k) f = hcW W f + hcK (W' k) f := s
    rw [hz f] at s'
    unfold hc
    omega
  refine i.h5 (fun _ _ _ => rfl) ⟨rfl, rfl, rfl⟩ (fun f hf => ?_) i.H (fun j hj q => ?_)
  · obtain ⟨l1, l2, l3⟩ := i.L f hf
    have e := hh f
    refine ⟨fun z => ?_, ?_, fun z => ?_⟩
    · have := i.un hf z
      show hcK (W k) f = 0
      omega
    · show hcK (W k) f ≤ 100
      unfold hcK
      by_cases z : bz ((W k).1 0 5) = 0 ∨ bz ((W k).1 0 6) = 0
      · rw [if_pos z]; omega
      · rw [if_neg z]
        obtain ⟨m, d, l, r, hr, hw⟩ := i.W k hk (fun y => z (Or.inl y))
        have := hw.md
        have := hw.dl
        have := hw.l12
        rw [hw.m, ix_nI (by omega)]
        have := cnt_le (fun j => decide ((W k).2.2 0 j = nI f)) m 0
        omega
    · obtain ⟨m1, m2⟩ := l3 z
      simp only [Nat.add_zero] at m1 m2
      show V 5 f = nI (hc V H W' f + hcK (W k) f) ∧ (V 1 f = 2 → 0 < hc V H W' f + hcK (W k) f)
      rw [e]
      exact ⟨m1, m2⟩
  · have jk : j ≠ k := fun z => q (by rw [z]; exact w0)
    rw [w1 j jk] at q ⊢
    exact i.W j hj q
theorem Inv.xcg {U : NodV} {V : MemV} {H : OneV} {W : WkV} {n vol t T : Nat} {x y : Nat → Nat} (i : Inv U V H W n vol t T x) (h : ∀ f, f < 64 → y f = x f) : Inv U V H W n vol t T y := by
  refine ⟨i.N, i.M, i.Z, fun f hf => ?_, i.H, i.W⟩
  rw [h f hf]
  exact i.L f hf
theorem hc_rel {U : NodV} {V V' : MemV} {H : OneV} {W : WkV} {n vol t T : Nat} {x : Nat → Nat} (i : Inv U V H W n vol t T x) {e : Nat} (c : Prop) [Decidable c] (v1 : ∀ f, V' 1 f = if f = e ∧ V 1 e = 2 ∧ c then 0 else V 1 f) (e64 : e < 64) (v2 : V' 2 = V 2) (v10 : V' 10 = V 10) {f : Nat} (hf : f < 64) : hc V' H W f = hc V H W f := by
  have c1 : hcC V' f = hcC V f := cnt_cong (fun j _ _ => by
    rw [v1, v2]
    by_cases z : j = e ∧ V 1 e = 2 ∧ c
    · have q : ¬ V 2 j = nI f := by
        rw [z.1, (i.M.go e e64 z.2.1).1]
        exact fun y => nI_m1 (show f < 2 ^ 31 by omega) y.symm
      simp [q]
    · rw [if_neg z])
  unfold hc
  rw [c1, show hcV V' f = hcV V f by unfold hcV; rw [v10]]
theorem letGo_loop {U : NodV} {H : OneV} {W : WkV} {n vol t T : Nat} {K : OneV} {B : TriV} {m : Nat} (hv : ¬ bz (K 0 6) = 0) (hm : K 0 4 = nI m) (m25 : m ≤ 25) (hw : ∀ j, j < m → ∃ e, e < 64 ∧ B 0 j = nI e) : ∀ (nn k : Nat) (V : MemV), k + nn = 25 → k ≤ m → Inv U V H W n vol t T (fun f => cnt (fun j => decide (B 0 j = nI f)) k (m - k)) → Inv U (lp_X7_letGo_2 K B nn k V) H W n vol t T (fun _ => 0) ∧ (∀ f, f < 64 → lp_X7_letGo_2 K B nn k V 1 f = if V 1 f = 2 ∧ hc V H W f = 0 then 0 else V 1 f) ∧ ∀ q : Fin 12, q ≠ 1 → q ≠ 5 → lp_X7_letGo_2 K B nn k V q = V q := by
  intro nn
  induction nn with
  | zero =>
    intro k V hk km i
    have : k = m := by omega
    subst this
    have e : lp_X7_letGo_2 K B 0 k V = V := by
      show (if (bz (K 0 6)) = 0 then (V) else (if (K 0 4) ≤ (nI k) then (V) else (V))) = V
      rw [if_neg hv, ite_self]
    have i0 : Inv U V H W n vol t T (fun _ => 0) := by
      have : (fun f => cnt (fun j => decide (B 0 j = nI f)) k (k - k)) = fun _ => 0 := by
        funext f
        rw [Nat.sub_self]
        rfl
      rw [this] at i
      exact i
    rw [e]
    refine ⟨i0, fun f hf => ?_, fun _ _ _ => rfl⟩
    rw [if_neg]
    rintro ⟨y1, y2⟩
    have := ((i0.L f hf).2.2 (by rw [y1]; exact i20)).2 y1
    simp only [Nat.add_zero] at this
    omega
  | succ nn ih =>
    intro k V hk km i
    have st : lp_X7_letGo_2 K B (nn + 1) k V = (if (bz (K 0 6)) = 0 then (V) else (if (K 0 4) ≤ (nI k) then (V) else lp_X7_letGo_2 K B nn (k + 1) (gV_X1_release V (B 0 k)))) := rfl
    by_cases z : k = m
    · subst z
      have i0 : Inv U V H W n vol t T (fun _ => 0) := by
        have : (fun f => cnt (fun j => decide (B 0 j = nI f)) k (k - k)) = fun _ => 0 := by
          funext f
          rw [Nat.sub_self]
          rfl
        rw [this] at i
        exact i
      rw [st, if_neg hv, hm, if_pos (Int32.le_refl _)]
      refine ⟨i0, fun f hf => ?_, fun _ _ _ => rfl⟩
      rw [if_neg]
      rintro ⟨y1, y2⟩
      have := ((i0.L f hf).2.2 (by rw [y1]; exact i20)).2 y1
      simp only [Nat.add_zero] at this
      omega
    · obtain ⟨e, e64, ee⟩ := hw k (by omega)
      rw [st, if_neg hv, hm, if_neg (nI_ge (show k < m by omega) (by omega)), ee]
      have xe : ∀ f, f < 64 → dlx (fun f => cnt (fun j => decide (B 0 j = nI f)) (k + 1) (m - (k + 1))) e f = cnt (fun j => decide (B 0 j = nI f)) k (m - k) := by
        intro f hf
        have mk : m - k = (m - (k + 1)) + 1 := by omega
        rw [mk]
        show cnt (fun j => decide (B 0 j = nI f)) (k + 1) (m - (k + 1)) + (if f = e then 1 else 0) = (if decide (B 0 k = nI f) = true then 1 else 0) + cnt (fun j => decide (B 0 j = nI f)) (k + 1) (m - (k + 1))
        have c2 : (if decide (B 0 k = nI f) = true then 1 else 0) = if f = e then 1 else 0 := by
          rw [ee]
          by_cases y : f = e
          · rw [if_pos y, if_pos (by rw [y]; simp)]
          · rw [if_neg y, if_neg]
            simp only [decide_eq_true_eq]
            exact fun w => y ((nI_eq (by omega) (by omega)).mp w).symm
        rw [c2]
        exact Nat.add_comm _ _
      have i := i.xcg xe
      have e1 : ¬ V 1 e = 0 := fun y => by
        have := (i.L e e64).1 y
        unfold dlx at this
        rw [if_pos rfl] at this
        omega
      obtain ⟨i1, v1⟩ := i.release e64 e1
      obtain ⟨j1, j2, j3⟩ := ih (k + 1) (gV_X1_release V (nI e)) (by omega) (by omega) i1
      have hcc := fun {f} hf => hc_rel i (H := H) (hc V H W e + cnt (fun j => decide (B 0 j = nI e)) (k + 1) (m - (k + 1)) = 0) v1 e64 (re_k _ _ _ (by decide) (by decide)) (re_k _ _ _ (by decide) (by decide)) (f := f) hf
      refine ⟨j1, fun f hf => ?_, fun q q1 q5 => by rw [j3 q q1 q5, re_k _ _ _ q1 q5]⟩
      rw [j2 f hf, hcc hf, v1 f]
      by_cases y : f = e ∧ V 1 e = 2 ∧ hc V H W e + cnt (fun j => decide (B 0 j = nI e)) (k + 1) (m - (k + 1)) = 0
      · rw [if_pos y, if_neg (fun w => absurd w.1 (by decide)), if_pos ⟨by rw [y.1]; exact y.2.1, by rw [y.1]; omega⟩]
      · rw [if_neg y]

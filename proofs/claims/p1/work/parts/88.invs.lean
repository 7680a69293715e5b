/-! The invariant over the memory's small steps. -/
theorem NodI.evn {U : NodV} {n vol : Nat} (h : NodI U n vol) : evN U = n := by
  have := h.n60
  unfold evN
  rw [h.ev, ix_nI (by omega)]
  omega
theorem NodI.fo {U : NodV} {n vol : Nat} (h : NodI U n vol) {y : Int32} (hy : ¬ q_X2_isFolder U y = 0) : ∃ k, k < n ∧ y = nI k ∧ U 4 k = 2 := by
  have h60 := h.n60
  unfold q_X2_isFolder q_X2_exists at hy
  by_cases a : y < 0
  · simp [a] at hy
  · by_cases b : (60 : Int32) ≤ y
    · simp [a, b] at hy
    · by_cases c : U 0 5 ≤ y
      · simp [a, b, c] at hy
      · by_cases d : U 4 (ix y) = 0
        · simp [a, b, c, d] at hy
        · by_cases e : U 4 (ix y) = 2
          · refine ⟨ix y, ?_, nI_ix a, e⟩
            rw [h.ev] at c
            rw [nI_ix a, nI_leI (by omega) (ix_lt y)] at c
            omega
          · simp [a, b, c, d, e] at hy
theorem NodI.fo' {U : NodV} {n vol : Nat} (h : NodI U n vol) {k : Nat} (hk : k < n) (h2 : U 4 k = 2) : q_X2_isFolder U (nI k) = 1 := by
  have h60 := h.n60
  unfold q_X2_isFolder q_X2_exists
  rw [if_neg (nI_pos (by omega)), if_neg (show ¬ (60 : Int32) ≤ nI k from nI_ge (b := 60) (by omega) (by decide)), h.ev, if_neg (nI_ge hk (by omega)), ix_nI (by omega), h2]
  decide
theorem NodI.ex {U : NodV} {n vol : Nat} (h : NodI U n vol) {k : Nat} (hk : k < n) : q_X2_exists U (nI k) = if U 4 k = 0 then 0 else 1 := by
  have h60 := h.n60
  unfold q_X2_exists
  rw [if_neg (nI_pos (by omega)), if_neg (show ¬ (60 : Int32) ≤ nI k from nI_ge (b := 60) (by omega) (by decide)), h.ev, if_neg (nI_ge hk (by omega)), ix_nI (by omega)]
theorem NodI.fd {U : NodV} {n vol : Nat} (h : NodI U n vol) (x y : Int32) : (q_X2_find U x y = -1 ∧ ∀ k, k < n → ¬ U 4 k = 0 → U 2 k = x → ¬ U 3 k = y) ∨ ∃ k, k < n ∧ q_X2_find U x y = nI k ∧ ¬ U 4 k = 0 ∧ U 2 k = x ∧ U 3 k = y := by
  unfold q_X2_find
  rw [h.evn]
  cases q : fst? (fun k => decide (¬ U 4 k = 0 ∧ U 2 k = x ∧ U 3 k = y)) 0 n with
  | none =>
    left
    refine ⟨rfl, fun k hk h1 h2 h3 => ?_⟩
    have := fst_none q k (Nat.zero_le _) (by omega)
    simp only [decide_eq_false_iff_not] at this
    exact this ⟨h1, h2, h3⟩
  | some k =>
    right
    obtain ⟨_, h2, h3, _⟩ := fst_some q
    simp only [decide_eq_true_eq] at h3
    exact ⟨k, by omega, rfl, h3⟩
theorem MemI.ok {U : NodV} {V : MemV} {n vol : Nat} (h : MemI U V n vol) {v o : Nat} (hv : v < 3) (ho : o < 64) (hq : V 10 v = nI o) : 1 ≤ v ∧ ¬ V 9 v = -1 ∧ V 1 o = 1 ∧ ¬ V 2 o = -1 ∧ ¬ q_X2_isFolder U (V 4 o) = 0 := by
  have h1 : 1 ≤ v := by
    rcases Nat.eq_zero_or_pos v with z | z
    · rw [z, h.o0] at hq
      exact absurd hq.symm (nI_m1 (by omega))
    · exact z
  have h2 : ¬ V 9 v = -1 := by
    rcases h.rt v hv with ⟨_, z⟩ | ⟨_, r, r64, z, _⟩
    · rw [z] at hq
      exact absurd hq.symm (nI_m1 (by omega))
    · rw [z]
      exact nI_m1 (by omega)
  obtain ⟨o', o64, e1, e2, e3, e4⟩ := h.ov v h1 hv h2
  have : o' = o := (nI_eq (by omega) (by omega)).mp (e1.symm.trans hq)
  subst this
  exact ⟨h1, h2, e2, e3, e4⟩
theorem hc_fr {V V' : MemV} (h1 : V' 1 = V 1) (h2 : V' 2 = V 2) (h10 : V' 10 = V 10) (H : OneV) (W : WkV) (e : Nat) : hc V' H W e = hc V H W e := by
  unfold hc hcC hcV
  rw [h1, h2, h10]
theorem WayI.fr {V V' : MemV} {t t' T T' : Nat} {hv a b c : Int32} (h : WayI V t T hv a b c) (h1 : V' 1 = V 1) (h4 : V' 4 = V 4) (h6 : V' 6 = V 6) (h8 : V' 8 = V 8) (ht : t ≤ t') (hT : T ≤ T') : WayI V' t' T' hv a b c := by
  obtain ⟨e, e64, h2, ⟨b1, c1, g1, g2, g3, g4, g5⟩, h3⟩ := h.ex
  refine ⟨e, e64, h2, ⟨b1, c1, g1, by omega, g3, by omega, ?_⟩, ?_⟩
  · rw [h1, h4, h6, h8]
    intro q1 q2
    obtain ⟨c2, k1, k2, k3, k4⟩ := g5 q1 q2
    exact ⟨c2, k1, k2, by omega, k4⟩
  · rw [h1, h4]
    exact h3
theorem WkI.fr {V V' : MemV} {t t' T T' : Nat} {w : OneV × RouV × TriV} {m d l r : Nat} (h : WkI V t T w m d l r) (h1 : V' 1 = V 1) (h4 : V' 4 = V 4) (h6 : V' 6 = V 6) (h8 : V' 8 = V 8) (ht : t ≤ t') (hT : T ≤ T') : WkI V' t' T' w m d l r :=
  ⟨h.m, h.d, h.l, h.r, h.m1, h.md, h.dl, h.l12, h.r3, fun k hk => (h.wy k hk).fr h1 h4 h6 h8 ht hT⟩
theorem Inv.frz {U : NodV} {V V' : MemV} {H : OneV} {W : WkV} {n vol t t' T T' : Nat} {x : Nat → Nat} (h : Inv U V H W n vol t T x) (e1 : V' 1 = V 1) (e2 : V' 2 = V 2) (e3 : V' 3 = V 3) (e4 : V' 4 = V 4) (e5 : V' 5 = V 5) (e6 : V' 6 = V 6) (e8 : V' 8 = V 8) (e9 : V' 9 = V 9) (e10 : V' 10 = V 10) (el : V' 0 11 = V 0 11) (ek : V' 0 12 = nI t') (ht : t ≤ t') (hT : T ≤ T') (hb : t' ≤ T') (h30 : T' ≤ 1000000000) (hz : TrI V' t') : Inv U V' H W n vol t' T' x := by
  refine ⟨h.N, ?_, ?_, ?_, ?_, ?_⟩
  · have := h.M
    unfold MemI at this ⊢
    rw [e1, e2, e3, e4, e9, e10]
    exact this
  · refine ⟨ek, hb, h30, ?_, ?_, ?_⟩
    · rw [e1, e8]
      intro e he q
      obtain ⟨b, h1, h2⟩ := h.Z.bi e he q
      exact ⟨b, h1, by omega⟩
    · rw [e1, e6]
      intro e he q
      obtain ⟨b, h1, h2⟩ := h.Z.co e he q
      exact ⟨b, h1, by omega⟩
    · exact ⟨by rw [el]; exact h.Z.li, hz⟩
  · intro e he
    rw [e1, e5, hc_fr e1 e2 e10]
    exact h.L e he
  · have := h.H
    unfold HanI at this ⊢
    rw [e1, e4]
    exact this
  · intro k hk q
    obtain ⟨m, d, l, r, hr, hw⟩ := h.W k hk q
    exact ⟨m, d, l, r, hr, hw.fr e1 e4 e6 e8 ht hT⟩
theorem Inv.fr {U : NodV} {V V' : MemV} {H : OneV} {W : WkV} {n vol t t' T T' : Nat} {x : Nat → Nat} (h : Inv U V H W n vol t T x) (e1 : V' 1 = V 1) (e2 : V' 2 = V 2) (e3 : V' 3 = V 3) (e4 : V' 4 = V 4) (e5 : V' 5 = V 5) (e6 : V' 6 = V 6) (e8 : V' 8 = V 8) (e9 : V' 9 = V 9) (e10 : V' 10 = V 10) (el : V' 0 11 = V 0 11) (ek : V' 0 12 = nI t') (ht : t ≤ t') (hT : T ≤ T') (hb : t' ≤ T') (h30 : T' ≤ 1000000000) (e14 : V' 0 14 = V 0 14) : Inv U V' H W n vol t' T' x :=
  h.frz e1 e2 e3 e4 e5 e6 e8 e9 e10 el ek ht hT hb h30 (h.Z.tri.le e14 (fun k _ q => by rw [e1] at q; exact q) ht)
theorem Inv.T {U : NodV} {V : MemV} {H : OneV} {W : WkV} {n vol t T T' : Nat} {x : Nat → Nat} (h : Inv U V H W n vol t T x) (hT : T ≤ T') (h30 : T' ≤ 1000000000) : Inv U V H W n vol t T' x :=
  h.fr rfl rfl rfl rfl rfl rfl rfl rfl rfl rfl h.Z.tk (Nat.le_refl _) hT (Nat.le_trans h.Z.tT hT) h30 rfl
theorem Inv.come {U : NodV} {V : MemV} {H : OneV} {W : WkV} {n vol t T : Nat} {x : Nat → Nat} (h : Inv U V H W n vol t T x) {e : Nat} (he : e < 64) (ht : t + 1 ≤ T) : Inv U (gV_X1_comeTo V (nI e)) H W n vol (t + 1) T x := by
  have k : ∀ r : Fin 12, r ≠ 0 → r ≠ 7 → r ≠ 11 → gV_X1_comeTo V (nI e) r = V r := cT_k V (nI e)
  refine h.fr (k 1 (by decide) (by decide) (by decide)) (k 2 (by decide) (by decide) (by decide)) (k 3 (by decide) (by decide) (by decide)) (k 4 (by decide) (by decide) (by decide)) (k 5 (by decide) (by decide) (by decide)) (k 6 (by decide) (by decide) (by decide)) (k 8 (by decide) (by decide) (by decide)) (k 9 (by decide) (by decide) (by decide)) (k 10 (by decide) (by decide) (by decide)) (cT_0 _ _ _ (by decide) (by decide)) ?_ (Nat.le_succ t) (Nat.le_refl _) ht h.Z.T30 (cT_0 _ _ _ (by decide) (by decide))
  rw [cT_t V he, h.Z.tk, nI_1]
theorem hcK_z {w : OneV × RouV × TriV} {e m : Nat} (hm : w.1 0 4 = nI m) (hb : m < 1000) (h5 : ¬ bz (w.1 0 5) = 0) (h6 : ¬ bz (w.1 0 6) = 0) (hz : hcK w e = 0) : ∀ k, k < m → ¬ w.2.2 0 k = nI e := by
  unfold hcK at hz
  rw [if_neg (by intro q; rcases q with q | q; exact h5 q; exact h6 q), hm, ix_nI (by omega)] at hz
  intro k hk q
  have := cnt_z hz k (Nat.zero_le _) (by omega)
  simp [q] at this
/-- nobody holds what is not there -/
theorem Inv.un {U : NodV} {V : MemV} {H : OneV} {W : WkV} {n vol t T : Nat} {x : Nat → Nat} (h : Inv U V H W n vol t T x) {e : Nat} (he : e < 64) (h0 : V 1 e = 0) : hc V H W e = 0 := by
  have h1 : hcC V e = 0 := by
    refine cnt_zero (fun k _ hk => ?_)
    simp only [decide_eq_false_iff_not]
    rintro ⟨q1, q2⟩
    have hk : k < 64 := by omega
    rcases h.M.st k hk with z | z | z
    · exact q1 z
    · obtain ⟨p, p64, z1, z2, _⟩ := h.M.ch k hk z (by rw [q2]; exact nI_m1 (by omega))
      have : p = e := (nI_eq (by omega) (by omega)).mp (z1.symm.trans q2)
      rw [this, h0] at z2
      exact absurd z2 (by decide)
    · rw [(h.M.go k hk z).1] at q2
      exact absurd q2.symm (nI_m1 (by omega))
  have h2 : hcV V e = 0 := by
    refine cnt_zero (fun v _ hv => ?_)
    simp only [decide_eq_false_iff_not]
    intro q
    have := (h.M.ok (by omega) he q).2.2.1
    rw [h0] at this
    exact absurd this (by decide)
  have h3 : hcH H e = 0 := by
    refine cnt_zero (fun k _ hk => ?_)
    simp only [decide_eq_false_iff_not]
    intro q
    rcases h.H k (by omega) with z | ⟨f, f64, z1, z2, _⟩
    · rw [z] at q
      exact absurd q.symm (nI_m1 (by omega))
    · have : f = e := (nI_eq (by omega) (by omega)).mp (z1.symm.trans q)
      rw [this] at z2
      exact z2 h0
  have h4 : hcW W e = 0 := by
    refine sm_zero (fun k _ hk => ?_)
    unfold hcK
    by_cases q : bz ((W k).1 0 5) = 0 ∨ bz ((W k).1 0 6) = 0
    · rw [if_pos q]
    · rw [if_neg q]
      obtain ⟨m, d, l, r, hr, hw⟩ := h.W k (by omega) (fun z => q (Or.inl z))
      have := hw.md
      have := hw.dl
      have := hw.l12
      rw [hw.m, ix_nI (by omega)]
      refine cnt_zero (fun i _ hi => ?_)
      simp only [decide_eq_false_iff_not]
      intro z
      obtain ⟨f, f64, g1, _, g2⟩ := (hw.wy i (by omega)).ex
      have : f = e := (nI_eq (by omega) (by omega)).mp (g1.symm.trans z)
      rw [this] at g2
      exact (g2 (fun z => q (Or.inr z))).1 h0
  unfold hc
  omega
theorem Inv.hle {U : NodV} {V : MemV} {H : OneV} {W : WkV} {n vol t T : Nat} {x : Nat → Nat} (h : Inv U V H W n vol t T x) (e : Nat) : hc V H W e ≤ 200 := by
  have h1 : hcC V e ≤ 64 := cnt_le _ _ _
  have h2 : hcV V e ≤ 3 := cnt_le _ _ _
  have h3 : hcH H e ≤ 6 := cnt_le _ _ _
  have h4 : hcW W e ≤ 4 * 25 := by
    refine sm_le (fun k _ hk => ?_)
    unfold hcK
    by_cases q : bz ((W k).1 0 5) = 0 ∨ bz ((W k).1 0 6) = 0
    · rw [if_pos q]
      omega
    · rw [if_neg q]
      obtain ⟨m, d, l, r, hr, hw⟩ := h.W k (by omega) (fun z => q (Or.inl z))
      have := hw.md
      have := hw.dl
      have := hw.l12
      rw [hw.m, ix_nI (by omega)]
      exact Nat.le_trans (cnt_le _ _ _) (by omega)
  unfold hc
  omega

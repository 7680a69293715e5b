/-! A world is known by what lies in its rows. -/
def UEq (U' U : NodV) : Prop := U' 0 5 = U 0 5 ∧ U' 0 6 = U 0 6 ∧ (∀ k, k < 60 → U' 1 k = U 1 k ∧ U' 2 k = U 2 k ∧ U' 3 k = U 3 k ∧ U' 4 k = U 4 k) ∧ ∀ v, v < 3 → U' 5 v = U 5 v
def VEq (V' V : MemV) : Prop := (V' 0 11 = V 0 11 ∧ V' 0 12 = V 0 12 ∧ V' 0 13 = V 0 13 ∧ V' 0 14 = V 0 14) ∧ (∀ e, e < 64 → V' 1 e = V 1 e ∧ V' 2 e = V 2 e ∧ V' 3 e = V 3 e ∧ V' 4 e = V 4 e ∧ V' 5 e = V 5 e ∧ V' 6 e = V 6 e ∧ V' 7 e = V 7 e ∧ V' 8 e = V 8 e) ∧ ∀ v, v < 3 → V' 9 v = V 9 v ∧ V' 10 v = V 10 v
def HEq' (H' H : OneV) : Prop := ∀ k, k < 6 → H' 0 k = H 0 k
def WkEq (w' w : OneV × RouV × TriV) : Prop := bz (w'.1 0 5) = bz (w.1 0 5) ∧ (¬ bz (w.1 0 5) = 0 → w'.1 0 4 = w.1 0 4 ∧ bz (w'.1 0 6) = bz (w.1 0 6) ∧ w'.1 0 7 = w.1 0 7 ∧ w'.1 0 8 = w.1 0 8 ∧ w'.2.1 0 1 = w.2.1 0 1 ∧ (∀ k, k < 12 → k < ix (w.2.1 0 1) → w'.2.1 1 k = w.2.1 1 k) ∧ ∀ k, k < 25 → w'.2.2 0 k = w.2.2 0 k ∧ w'.2.2 1 k = w.2.2 1 k ∧ w'.2.2 2 k = w.2.2 2 k)
theorem UEq.fo {U' U : NodV} (h : UEq U' U) (y : Int32) : q_X2_isFolder U' y = q_X2_isFolder U y := by
  unfold q_X2_isFolder q_X2_exists
  rw [h.1]
  by_cases a : y < 0
  · simp [a]
  · by_cases b : (60 : Int32) ≤ y
    · simp [a, b]
    · have : ix y < 60 := by
        rcases Nat.lt_or_ge (ix y) 60 with z | z
        · exact z
        · exact absurd (by rw [nI_ix a]; exact nI_le (a := 60) z (ix_lt y)) b
      rw [(h.2.2.1 _ this).2.2.2]
theorem UEq.fd {U' U : NodV} (h : UEq U' U) (x y : Int32) : q_X2_find U' x y = q_X2_find U x y := by
  unfold q_X2_find evN
  rw [h.1]
  congr 1
  refine fst_cong (fun k _ hk => ?_)
  have : k < 60 := by omega
  rw [(h.2.2.1 k this).2.1, (h.2.2.1 k this).2.2.1, (h.2.2.1 k this).2.2.2]
theorem NodI.cg {U' U : NodV} {n vol : Nat} (i : NodI U n vol) (h : UEq U' U) : NodI U' n vol := by
  have n60 := i.n60
  have v3 := i.v3
  have e1 : ∀ k, k < n → U' 1 k = U 1 k := fun k hk => (h.2.2.1 k (by omega)).1
  have e2 : ∀ k, k < n → U' 2 k = U 2 k := fun k hk => (h.2.2.1 k (by omega)).2.1
  have e3 : ∀ k, k < n → U' 3 k = U 3 k := fun k hk => (h.2.2.1 k (by omega)).2.2.1
  have e4 : ∀ k, k < n → U' 4 k = U 4 k := fun k hk => (h.2.2.1 k (by omega)).2.2.2
  have e5 : ∀ v, v < vol → U' 5 v = U 5 v := fun v hv => h.2.2.2 v (by omega)
  refine ⟨h.1.trans i.ev, n60, h.2.1.trans i.vs, v3, fun k hk => ?_, fun k hk => ?_, fun k hk q => ?_, fun v hv => ?_, fun k hk q1 q2 => ?_, fun k j hk hj q1 q2 q3 q4 q5 => ?_, ?_, by rw [e5 0 (by omega)]; exact i.r00, fun k hk q => by rw [e2 k hk] at q; rw [e3 k hk]; exact i.nn k hk q⟩
  · rw [e1 k hk]; exact i.vol k hk
  · rw [e4 k hk]; exact i.kd k hk
  · rw [e2 k hk] at q
    obtain ⟨v, v1, v2, v3⟩ := i.rt k hk q
    exact ⟨v, v1, by rw [e1 k hk]; exact v2, by rw [e5 v v1]; exact v3⟩
  · obtain ⟨r, r1, r2, r3, r4, r5⟩ := i.rts v hv
    exact ⟨r, r1, by rw [e5 v hv]; exact r2, by rw [e4 r r1]; exact r3, by rw [e2 r r1]; exact r4, by rw [e1 r r1]; exact r5⟩
  · rw [e4 k hk] at q1
    rw [e2 k hk] at q2
    obtain ⟨p, p1, p2, p3, p4⟩ := i.par k hk q1 q2
    exact ⟨p, p1, by rw [e2 k hk]; exact p2, by rw [e4 p p1]; exact p3, by rw [e1 p p1, e1 k hk]; exact p4⟩
  · rw [e4 k hk] at q1
    rw [e4 j hj] at q2
    rw [e2 k hk] at q3
    rw [e2 k hk, e2 j hj] at q4
    rw [e3 k hk, e3 j hj] at q5
    exact i.uq k j hk hj q1 q2 q3 q4 q5
  · obtain ⟨d, hd⟩ := i.rk
    refine ⟨d, fun k p hk hp q1 q2 => ?_⟩
    rw [e4 k hk] at q1
    rw [e2 k hk] at q2
    exact hd k p hk hp q1 q2
theorem MemI.cg {U' U : NodV} {V' V : MemV} {n vol : Nat} (i : MemI U V n vol) (n60 : n ≤ 60) (v3 : vol ≤ 3) (h : UEq U' U) (g : VEq V' V) : MemI U' V' n vol := by
  have e1 : ∀ k, k < 64 → V' 1 k = V 1 k := fun k hk => (g.2.1 k hk).1
  have e2 : ∀ k, k < 64 → V' 2 k = V 2 k := fun k hk => (g.2.1 k hk).2.1
  have e3 : ∀ k, k < 64 → V' 3 k = V 3 k := fun k hk => (g.2.1 k hk).2.2.1
  have e4 : ∀ k, k < 64 → V' 4 k = V 4 k := fun k hk => (g.2.1 k hk).2.2.2.1
  have e9 : ∀ v, v < 3 → V' 9 v = V 9 v := fun v hv => (g.2.2 v hv).1
  have e10 : ∀ v, v < 3 → V' 10 v = V 10 v := fun v hv => (g.2.2 v hv).2
  refine ⟨fun e he => ?_, ?_, ?_, fun v hv => ?_, fun v h1 hv q => ?_, fun v w hv hw q1 q2 => ?_, ?_, fun e he q1 q2 => ?_, fun e he q1 q2 => ?_, fun e he q => ?_, fun e f he hf q1 q2 q3 q4 q5 => ?_, fun e f he hf q1 q2 q3 q4 => ?_⟩
  · rw [e1 e he]; exact i.st e he
  · rw [e9 0 (by decide)]; exact i.r0
  · rw [e10 0 (by decide)]; exact i.o0
  · rw [e9 v hv, e10 v hv]
    rcases i.rt v hv with z | ⟨z0, r, z1, z2, z3, z4, z5⟩
    · exact Or.inl z
    · exact Or.inr ⟨z0, r, z1, z2, by rw [e1 r z1]; exact z3, by rw [e2 r z1]; exact z4, by rw [e4 r z1, h.2.2.2 v hv]; exact z5⟩
  · rw [e9 v hv] at q
    obtain ⟨o, o1, o2, o3, o4, o5⟩ := i.ov v h1 hv q
    exact ⟨o, o1, by rw [e10 v hv]; exact o2, by rw [e1 o o1]; exact o3, by rw [e2 o o1]; exact o4, by rw [e4 o o1, h.fo]; exact o5⟩
  · rw [e10 v hv] at q1
    rw [e10 v hv, e10 w hw] at q2
    exact i.oi v w hv hw q1 q2
  · obtain ⟨ρ, hρ⟩ := i.vr
    refine ⟨ρ, fun v o k u a b c d e f x y => ?_⟩
    rw [e10 v b] at d
    rw [e4 o c] at e
    rw [(h.2.2.1 k (by omega)).1] at x
    exact hρ v o k u a b c d e f x y
  · rw [e1 e he] at q1
    rw [e2 e he] at q2
    obtain ⟨v, v1, v2⟩ := i.ro e he q1 q2
    exact ⟨v, v1, by rw [e9 v v1]; exact v2⟩
  · rw [e1 e he] at q1
    rw [e2 e he] at q2
    obtain ⟨p, p1, p2, p3, p4, p5⟩ := i.ch e he q1 q2
    exact ⟨p, p1, by rw [e2 e he]; exact p2, by rw [e1 p p1]; exact p3, by rw [e4 p p1, h.fo]; exact p4, by rw [e4 e he, e4 p p1, e3 e he, h.fd]; exact p5⟩
  · rw [e1 e he] at q
    obtain ⟨z, k, k1, k2, k3⟩ := i.go e he q
    exact ⟨by rw [e2 e he]; exact z, k, k1, by rw [e4 e he]; exact k2, by rw [(h.2.2.1 k (by omega)).2.2.2]; exact k3⟩
  · rw [e1 e he] at q1
    rw [e1 f hf] at q2
    rw [e2 e he] at q3
    rw [e2 e he, e2 f hf] at q4
    rw [e3 e he, e3 f hf] at q5
    exact i.sb e f he hf q1 q2 q3 q4 q5
  · rw [e1 e he] at q1
    rw [e1 f hf] at q2
    rw [e4 e he] at q3
    rw [e4 e he, e4 f hf] at q4
    exact i.nd e f he hf q1 q2 q3 q4
theorem hc_cg {V' V : MemV} {H' H : OneV} {W' W : WkV} (g : VEq V' V) (hH : HEq' H' H) (hW : ∀ k, k < 4 → WkEq (W' k) (W k)) (b25 : ∀ k, k < 4 → ¬ bz ((W k).1 0 5) = 0 → ix ((W k).1 0 4) ≤ 25) (e : Nat) : hc V' H' W' e = hc V H W e := by
  have h1 : hcC V' e = hcC V e := cnt_cong (fun k _ hk => by rw [(g.2.1 k (by omega)).1, (g.2.1 k (by omega)).2.1])
  have h2 : hcV V' e = hcV V e := cnt_cong (fun k _ hk => by rw [(g.2.2 k (by omega)).2])
  have h3 : hcH H' e = hcH H e := cnt_cong (fun k _ hk => by rw [hH k (by omega)])
  have h4 : hcW W' e = hcW W e := sm_cong (fun k _ hk => by
    have w := hW k (by omega)
    unfold hcK
    rw [w.1]
    by_cases q : bz ((W k).1 0 5) = 0
    · rw [if_pos (Or.inl q), if_pos (Or.inl q)]
    · have w2 := w.2 q
      rw [w2.2.1]
      by_cases q2 : bz ((W k).1 0 6) = 0
      · rw [if_pos (Or.inr q2), if_pos (Or.inr q2)]
      · rw [if_neg (fun z => z.elim q q2), if_neg (fun z => z.elim q q2), w2.1]
        have b := b25 k (by omega) q
        exact cnt_cong (fun j _ hj => by rw [(w2.2.2.2.2.2.2 j (by omega)).1]))
  unfold hc
  rw [h1, h2, h3, h4]
theorem Inv.b25 {U : NodV} {V : MemV} {H : OneV} {W : WkV} {n vol t T : Nat} {x : Nat → Nat} (i : Inv U V H W n vol t T x) : ∀ k, k < 4 → ¬ bz ((W k).1 0 5) = 0 → ix ((W k).1 0 4) ≤ 25 := fun k hk q => by
  obtain ⟨m, d, l, r, _, hw⟩ := i.W k hk q
  have := hw.md
  have := hw.dl
  have := hw.l12
  rw [hw.m, ix_nI (by omega)]
  omega
theorem Inv.cg {U' U : NodV} {V' V : MemV} {H' H : OneV} {W' W : WkV} {n vol t T : Nat} {x : Nat → Nat} (i : Inv U V H W n vol t T x) (h : UEq U' U) (g : VEq V' V) (hH : HEq' H' H) (hW : ∀ k, k < 4 → WkEq (W' k) (W k)) : Inv U' V' H' W' n vol t T x := by
  have e : ∀ k, k < 64 → V' 1 k = V 1 k ∧ V' 4 k = V 4 k ∧ V' 6 k = V 6 k ∧ V' 8 k = V 8 k ∧ V' 5 k = V 5 k := fun k hk => ⟨(g.2.1 k hk).1, (g.2.1 k hk).2.2.2.1, (g.2.1 k hk).2.2.2.2.2.1, (g.2.1 k hk).2.2.2.2.2.2.2, (g.2.1 k hk).2.2.2.2.1⟩
  refine ⟨i.N.cg h, i.M.cg i.N.n60 i.N.v3.2 h g, ⟨g.1.2.1.trans i.Z.tk, i.Z.tT, i.Z.T30, fun f hf q => ?_, fun f hf q => ?_, ?_⟩, fun f hf => ?_, fun k hk => ?_, fun k hk q => ?_⟩
  · rw [(e f hf).1] at q
    rw [(e f hf).2.2.2.1]
    exact i.Z.bi f hf q
  · rw [(e f hf).1] at q
    rw [(e f hf).2.2.1]
    exact i.Z.co f hf q
  · exact ⟨by rw [g.1.1]; exact i.Z.li, i.Z.tri.le g.1.2.2.2 (fun k hk q => by rw [(e k hk).1] at q; exact q) (Nat.le_refl _)⟩
  · rw [(e f hf).1, (e f hf).2.2.2.2, hc_cg g hH hW i.b25]
    exact i.L f hf
  · rw [hH k hk]
    rcases i.H k hk with z | ⟨f, f1, f2, f3, f4⟩
    · exact Or.inl z
    · exact Or.inr ⟨f, f1, f2, by rw [(e f f1).1]; exact f3, by rw [(e f f1).2.1]; exact f4⟩
  · have w := hW k hk
    rw [w.1] at q
    obtain ⟨m, d, l, r, hr, hw⟩ := i.W k hk q
    obtain ⟨w1, w2, w3, w4, w5, w6, w7⟩ := w.2 q
    have b1 := hw.md
    have b2 := hw.dl
    have b3 := hw.l12
    refine ⟨m, d, l, r, hr, w1.trans hw.m, w4.trans hw.d, w5.trans hw.l, w3.trans hw.r, hw.m1, hw.md, hw.dl, hw.l12, hw.r3, fun j hj => ?_⟩
    have wj := w7 j (by omega)
    rw [w2, wj.1, wj.2.1, wj.2.2]
    obtain ⟨f, f64, g1, ⟨b1, c1, g2, g3, g4, g5, g6⟩, g7⟩ := (hw.wy j hj).ex
    refine ⟨f, f64, g1, ⟨b1, c1, g2, g3, g4, g5, ?_⟩, ?_⟩
    · rw [(e f f64).1, (e f f64).2.1, (e f f64).2.2.1, (e f f64).2.2.2.1]
      exact g6
    · rw [(e f f64).1, (e f f64).2.1]
      exact g7
theorem CntI.cg {V' V : MemV} (C : CntI V) (g : VEq V' V) : CntI V' := by
  unfold CntI
  rw [cnt_cong (P := fun k => decide (¬ V' 1 k = 0)) (P' := fun k => decide (¬ V 1 k = 0)) (fun k _ hk => by rw [(g.2.1 k (by omega)).1]), cnt_cong (P := fun v => decide (¬ V' 9 v = -1)) (P' := fun v => decide (¬ V 9 v = -1)) (fun k _ hk => by rw [(g.2.2 k (by omega)).1])]
  exact C
theorem cov_cg {V' V : MemV} (g : VEq V' V) (y : Int32) : q_X1_coveringVolume V' y = q_X1_coveringVolume V y := by
  unfold q_X1_coveringVolume ql_X1_coveringVolume f_X1_coveringVolume
  congr 1
  exact fst_cong (fun k _ hk => by rw [(g.2.2 k (by omega)).2])
theorem Rel.cg {U' U : NodV} {V' V : MemV} {H' H : OneV} {W' W : WkV} {D' D : RowV} {n : Nat} (r : Rel none U V H W D n) (n60 : n ≤ 60) (h : UEq U' U) (g : VEq V' V) (hH : HEq' H' H) (hW : ∀ k, k < 4 → WkEq (W' k) (W k)) (hD : ∀ k, k < 1853 → D' k = D k) : Rel none U' V' H' W' D' n := by
  have b := r.B
  refine ⟨⟨?_, ?_, ?_, ?_, ?_, fun v hv => ?_, fun v hv => ?_, fun k hk => ?_, fun k hk => ?_, fun e he => ?_, fun e he q => ?_⟩, fun k hk => ?_, fun k hk q _ => ?_, fun k z => by cases z⟩
  · rw [hD 0 (by decide), g.1.2.1]; exact b.tk
  · rw [hD 1 (by decide), g.1.2.2.1]; exact b.lo
  · rw [hD 2 (by decide), g.1.2.2.2]; exact b.tr
  · rw [hD 3 (by decide), g.1.1]; exact b.rm
  · rw [hD 4 (by decide), h.1]; exact b.ev
  · rw [hD _ (by omega), (g.2.2 v hv).1]; exact b.rt v hv
  · rw [hD _ (by omega), (g.2.2 v hv).2]; exact b.ov v hv
  · rw [hD _ (by omega), hH k hk]; exact b.ha k hk
  · have u := h.2.2.1 k (by omega)
    rw [hD _ (by omega), hD _ (by omega), hD _ (by omega), hD _ (by omega), hD _ (by omega), u.1, u.2.1, u.2.2.1, u.2.2.2]
    exact b.nd k hk
  · rw [hD _ (by omega), b.th e he]
    by_cases z : e < 64
    · rw [(g.2.1 e z).1]
    · rw [if_neg (fun y => z y.1), if_neg (fun y => z y.1)]
  · have v := g.2.1 e he
    rw [v.1] at q
    rw [hD _ (by omega), hD _ (by omega), hD _ (by omega), hD _ (by omega), hD _ (by omega), hD _ (by omega), hD _ (by omega), hD _ (by omega), v.1, v.2.1, v.2.2.1, v.2.2.2.1, v.2.2.2.2.2.1, v.2.2.2.2.2.2.1, v.2.2.2.2.2.2.2, cov_cg g]
    exact b.en e he q
  · have a := r.K k hk
    have w := hW k hk
    refine ⟨?_, fun q => ?_, fun q j h1 h2 => ?_, fun q j h1 h2 => ?_⟩
    · rw [hD _ (by omega), w.1]; exact a.ws
    · rw [w.1] at q
      obtain ⟨w1, w2, w3, w4, w5, w6, w7⟩ := w.2 q
      rw [hD _ (by omega), hD _ (by omega), hD _ (by omega), hD _ (by omega), w2, w3, w4, w5]
      exact a.un q
    · rw [w.1] at q
      obtain ⟨w1, w2, w3, w4, w5, w6, w7⟩ := w.2 q
      rw [w5] at h2
      rw [hD _ (by omega), w6 j h1 h2]
      exact a.sp q j h1 h2
    · rw [w.1] at q
      obtain ⟨w1, w2, w3, w4, w5, w6, w7⟩ := w.2 q
      rw [w1] at h2
      have wj := w7 j h1
      rw [hD _ (by omega), hD _ (by omega), hD _ (by omega), wj.1, wj.2.1, wj.2.2]
      exact a.wy q j h1 h2
  · have w := hW k hk
    rw [w.1] at q
    exact ⟨by rw [hD _ (by omega), (w.2 q).1]; exact r.M k hk q (fun z => by cases z), by rw [(w.2 q).2.2.1]; exact r.R2 k hk q (fun z => by cases z)⟩
